/-! L3: drawn deeds, both -/
theorem getD_ok {i k a b t : Nat} {s : XS} (h : okX s) (ha : a < 6) (hb : b < 6) (ht : t < 8) : okX ((oneX i k a b t s).getD s) ∧ fk ((oneX i k a b t s).getD s).1 = fk s.1 := by
  cases e : oneX i k a b t s with
  | none => exact ⟨h, rfl⟩
  | some V => exact oneX_ok h ha hb ht e
theorem mod_lt6 {x n : Nat} (hn : n ≤ 6) (h0 : 0 < n) : x % n < 6 := Nat.lt_of_lt_of_le (Nat.mod_lt _ h0) hn
theorem drX_ok {i : Nat} {q : XS × Int32} (h : okX q.1) : okX (drX i q).1 := by
  have hf := h.1.1.1
  unfold drX
  by_cases c1 : uu (nxd q.2) % 10 = 9
  · rw [if_pos c1]; exact (monX_ok h).1
  rw [if_neg c1]
  by_cases c2 : uu (nxd q.2) % 10 = 8
  · rw [if_pos c2]
    by_cases c3 : fk q.1.1 = 0
    · rw [if_pos c3]; exact h
    · rw [if_neg c3]; exact (getD_ok h (mod_lt6 hf (by omega)) (by decide) (by decide)).1
  rw [if_neg c2]
  by_cases c3 : fk q.1.1 ≤ 1
  · rw [if_pos c3]; exact h
  rw [if_neg c3]
  by_cases c4 : uu (nxd q.2) % 10 < 4
  · rw [if_pos c4]; exact (getD_ok h (mod_lt6 hf (by omega)) (mod_lt6 hf (by omega)) (Nat.mod_lt _ (by decide))).1
  · rw [if_neg c4]; exact (getD_ok h (mod_lt6 hf (by omega)) (mod_lt6 hf (by omega)) (by decide)).1
theorem VQ_9 {s : XS} {m : Mm} (h : VQx s m) (v : Int32) : VQx s (sI m 13 9 v) := by
  obtain ⟨V, h1, h2, h3, h4, h5, h6, h7, h8⟩ := h
  refine ⟨VC_wr V (by omega) _ _, ?_, ?_, ?_, ?_, ?_, ?_, ?_, ?_⟩ <;> (rw [rdI_nj _ _ _ _ (by decide)]; assumption)
theorem VR_54 {s : XS} {c : Nat} {m : Mm} (h : VRx s c m) (v : Int32) : VRx s c (sI m 44 54 v) := by
  obtain ⟨V, h1, h2, h3, h4⟩ := h
  refine ⟨VM_wr44 V (by omega) _, ?_, ?_, ?_, ?_⟩ <;> (rw [rdI_nj _ _ _ _ (by decide)]; assumption)
theorem C_draw {m : Mm} {sd : Int32} (h : mI m 13 9 = sd) {b : Nat} (hb : 0 < b) (hb2 : b < 2147483648) : m_X3_draw (nI b) m = some (nI (uu (nxd sd) % b), sI m 13 9 (nxd sd)) := by
  obtain ⟨u1, u2⟩ := uu_eq (nxd sd)
  unfold m_X3_draw
  rw [h, rdI_eq, show sd * 1103515245 + 12345 = nxd sd from rfl, u1]
  simp (disch := omega) only [zz_0, zz_1, zz_2, zz_3, zz_4, zz_5, zz_6, zz_7, zz_8, zz_9, zz_10, zz_11, zz_12, zz_13, zz_14, zz_15, zz_16, zz_20, zz_24, zz_25, zz_26, zz_28, zz_31, zz_32, zz_36, zz_39, zz_40, zz_48, zz_49, zz_50, zz_57, zz_59, zz_60, zz_64, zz_72, zz_97, zz_99, zz_100, zz_122, zz_144, zz_161, zz_255, zz_256, zz_288, zz_322, zz_384, zz_400, zz_448, zz_600, zz_1280, zz_1000000, n_le, n_gdz, n_rem]
  rw [if_neg (by omega)]
theorem M_draw {m : Mm} {sd : Int32} (h : mI m 44 54 = sd) {b : Nat} (hb : 0 < b) (hb2 : b < 2147483648) : m_X12_draw (nI b) m = some (nI (uu (nxd sd) % b), sI m 44 54 (nxd sd)) := by
  obtain ⟨u1, u2⟩ := uu_eq (nxd sd)
  unfold m_X12_draw
  rw [h, rdI_eq, show sd * 1103515245 + 12345 = nxd sd from rfl, u1]
  simp (disch := omega) only [n_gdz, n_rem]
theorem C_one9 {s : XS} {mm : Mm} (h : VQx s mm) (ok : okX s) {i k a b t : Nat} {a3 a4 a5 : Int32} (hk : k < 7) (ha : a < 6) (hb : b < 6) (ht : t < 8) (e3 : k ≠ 0 → a3 = nI a) (e4 : 3 ≤ k → a4 = nI b) (e5 : k = 6 → a5 = nI t) : ∃ m r, m_X3_perform (nI i) (nI k) a3 a4 a5 mm = some (r, m) ∧ VQx ((oneX i k a b t s).getD s) m ∧ mI m 13 9 = mI mm 13 9 := by
  obtain ⟨m, e, hq⟩ := C_one h ok (i := i) hk ha hb ht e3 e4 e5
  have fr := fr_X3_perform e
  exact ⟨m, _, e, hq, (fr 13 9 (by rfl)).1⟩
theorem M_one54 {s : XS} {c : Nat} {mm : Mm} (h : VRx s c mm) (ok : okX s) {i k a b t : Nat} {a2 a3 a4 : Int32} (hk : k < 7) (ha : a < 6) (hb : b < 6) (ht : t < 8) (e2 : k ≠ 0 → a2 = nI a) (e3 : 3 ≤ k → a3 = nI b) (e4 : k = 6 → a4 = nI t) : ∃ m r, m_X12_does (nI k) a2 a3 a4 mm = some (r, m) ∧ VRx ((oneX i k a b t s).getD s) c m ∧ mI m 44 54 = mI mm 44 54 := by
  obtain ⟨m, e, hq⟩ := M_one h ok (i := i) hk ha hb ht e2 e3 e4
  have fr := fr_X12_does e
  exact ⟨m, _, e, hq, (fr 44 54 (by rfl)).1⟩
theorem C_drawStep {q : XS × Int32} {mm : Mm} (h : VQx q.1 mm) (ok : okX q.1) (h9 : mI mm 13 9 = q.2) (i : Nat) : ∃ m, m_X3_performDrawn (nI i) mm = some m ∧ VQx (drX i q).1 m ∧ mI m 13 9 = (drX i q).2 := by
  obtain ⟨s, sd⟩ := q
  have hf := ok.1.1.1
  have g140 : mI mm 14 0 = nI (fk s.1) := h.1.1
  have d1 := C_draw h9 (b := 10) (by decide) (by decide)
  have Q1 := VQ_9 h (nxd sd)
  have s1 : mI (sI mm 13 9 (nxd sd)) 13 9 = nxd sd := rdI_eq _ _ _ _
  have l10 : uu (nxd sd) % 10 < 10 := Nat.mod_lt _ (by decide)
  unfold m_X3_performDrawn
  rw [show (10 : Int32) = nI 10 from rfl, d1, ob_s, g140]
  simp only at h ok hf g140 ⊢
  generalize hlot : uu (nxd sd) % 10 = lot at *
  generalize hm1 : sI mm 13 9 (nxd sd) = m1' at *
  unfold drX
  simp only
  rw [hlot]
  simp (disch := omega) only [zz_0, zz_1, zz_2, zz_3, zz_4, zz_5, zz_6, zz_7, zz_8, zz_9, zz_10, zz_11, zz_12, zz_13, zz_14, zz_15, zz_16, zz_20, zz_24, zz_25, zz_26, zz_28, zz_31, zz_32, zz_36, zz_39, zz_40, zz_48, zz_49, zz_50, zz_57, zz_59, zz_60, zz_64, zz_72, zz_97, zz_99, zz_100, zz_122, zz_144, zz_161, zz_255, zz_256, zz_288, zz_322, zz_384, zz_400, zz_448, zz_600, zz_1280, zz_1000000, n_eq, n_le]
  by_cases c1 : lot = 9
  · rw [if_pos c1, if_pos c1]
    obtain ⟨m, e, hq⟩ := C_monday Q1 ok.1 ok.2.2.1 ok.2.2.2.1 i
    rw [e, ob_s]
    have fr := fr_X3_holdMonday e
    exact ⟨m, rfl, hq, by rw [(fr 13 9 (by rfl)).1]; exact s1⟩
  rw [if_neg c1, if_neg c1]
  by_cases c2 : lot = 8
  · rw [if_pos c2, if_pos c2]
    by_cases c3 : fk s.1 = 0
    · rw [if_pos (show fk s.1 ≤ 0 by omega), bs_l, if_pos (show 8 ≤ lot by omega), if_pos c3]
      exact ⟨_, rfl, Q1, s1⟩
    · rw [if_neg (show ¬ fk s.1 ≤ 0 by omega), if_neg c3]
      have d2 := C_draw s1 (b := fk s.1) (by omega) (by omega)
      have Q2 := VQ_9 Q1 (nxd (nxd sd))
      have s2 : mI (sI m1' 13 9 (nxd (nxd sd))) 13 9 = nxd (nxd sd) := rdI_eq _ _ _ _
      have d3 := C_draw s2 (b := 2) (by decide) (by decide)
      have Q3 := VQ_9 Q2 (nxd (nxd (nxd sd)))
      have s3 : mI (sI (sI m1' 13 9 (nxd (nxd sd))) 13 9 (nxd (nxd (nxd sd)))) 13 9 = nxd (nxd (nxd sd)) := rdI_eq _ _ _ _
      have l2 : uu (nxd (nxd (nxd sd))) % 2 < 2 := Nat.mod_lt _ (by decide)
      rw [d2, ob_s, d3, ob_s]
      simp (disch := omega) only [n_eq]
      rw [i_nI]
      obtain ⟨m, r, e, hq, h99⟩ := C_one9 Q3 ok (i := i) (k := if uu (nxd (nxd (nxd sd))) % 2 = 0 then 1 else 2) (a := uu (nxd (nxd sd)) % fk s.1) (b := 0) (t := 0) (a3 := nI (uu (nxd (nxd sd)) % fk s.1)) (a4 := -nI 1) (a5 := -nI 1) (by split <;> decide) (mod_lt6 hf (by omega)) (by decide) (by decide) (fun _ => rfl) (fun q => by split at q <;> omega) (fun q => by split at q <;> omega)
      rw [e, ob_s, bs_r]
      exact ⟨m, rfl, hq, by rw [h99]; exact s3⟩
  rw [if_neg c2, if_neg c2, bs_l, if_neg (show ¬ 8 ≤ lot by omega)]
  by_cases c3 : fk s.1 ≤ 1
  · rw [if_pos c3, if_pos c3]
    exact ⟨_, rfl, Q1, s1⟩
  rw [if_neg c3, if_neg c3]
  have d2 := C_draw s1 (b := fk s.1) (by omega) (by omega)
  have Q2 := VQ_9 Q1 (nxd (nxd sd))
  have s2 : mI (sI m1' 13 9 (nxd (nxd sd))) 13 9 = nxd (nxd sd) := rdI_eq _ _ _ _
  have d3 := C_draw s2 (b := fk s.1 - 1) (by omega) (by omega)
  have Q3 := VQ_9 Q2 (nxd (nxd (nxd sd)))
  have s3 : mI (sI (sI m1' 13 9 (nxd (nxd sd))) 13 9 (nxd (nxd (nxd sd)))) 13 9 = nxd (nxd (nxd sd)) := rdI_eq _ _ _ _
  have la : uu (nxd (nxd sd)) % fk s.1 < fk s.1 := Nat.mod_lt _ (by omega)
  have lb : uu (nxd (nxd (nxd sd))) % (fk s.1 - 1) < fk s.1 - 1 := Nat.mod_lt _ (by omega)
  have hb6 : (uu (nxd (nxd sd)) % fk s.1 + 1 + uu (nxd (nxd (nxd sd))) % (fk s.1 - 1)) % fk s.1 < 6 := mod_lt6 hf (by omega)
  rw [d2, ob_s]
  simp (disch := omega) only [n_sub]
  rw [d3, ob_s]
  simp (disch := omega) only [n_gdz, nI_add, n_rem]
  generalize (uu (nxd (nxd sd)) % fk s.1 + 1 + uu (nxd (nxd (nxd sd))) % (fk s.1 - 1)) % fk s.1 = bb at *
  generalize uu (nxd (nxd sd)) % fk s.1 = aa at *
  generalize hm3 : sI (sI m1' 13 9 (nxd (nxd sd))) 13 9 (nxd (nxd (nxd sd))) = m3 at *
  by_cases c4 : lot < 4
  · rw [if_pos c4]
    simp only [if_neg (show ¬ 4 ≤ lot by omega)]
    have d4 := C_draw s3 (b := 8) (by decide) (by decide)
    have Q4 := VQ_9 Q3 (nxd (nxd (nxd (nxd sd))))
    have s4 : mI (sI m3 13 9 (nxd (nxd (nxd (nxd sd))))) 13 9 = nxd (nxd (nxd (nxd sd))) := rdI_eq _ _ _ _
    rw [d4, ob_s, ob_s]
    obtain ⟨m, r, e, hq, h99⟩ := C_one9 Q4 ok (i := i) (k := 6) (a := aa) (b := bb) (t := uu (nxd (nxd (nxd (nxd sd)))) % 8) (a3 := nI aa) (a4 := nI bb) (a5 := nI (uu (nxd (nxd (nxd (nxd sd)))) % 8)) (by decide) (by omega) hb6 (Nat.mod_lt _ (by decide)) (fun _ => rfl) (fun _ => rfl) (fun _ => rfl)
    rw [e, ob_s]
    exact ⟨m, rfl, hq, by rw [h99]; exact s4⟩
  · rw [if_neg c4]
    simp only [if_pos (show 4 ≤ lot by omega)]
    rw [ob_s]
    have hkk : (if 6 ≤ lot then (if lot = 6 then nI 4 else nI 5) else nI 3) = nI (if lot < 6 then 3 else if lot = 6 then 4 else 5) := by
      by_cases d : lot < 6
      · simp only [if_neg (show ¬ 6 ≤ lot by omega), if_pos d]
      · simp only [if_pos (show 6 ≤ lot by omega), if_neg d]
        by_cases d2 : lot = 6
        · simp only [if_pos d2]
        · simp only [if_neg d2]
    rw [hkk]
    have hk7 : (if lot < 6 then 3 else if lot = 6 then 4 else 5) < 6 := by
      split
      · decide
      · split <;> decide
    obtain ⟨m, r, e, hq, h99⟩ := C_one9 Q3 ok (i := i) (k := if lot < 6 then 3 else if lot = 6 then 4 else 5) (a := aa) (b := bb) (t := 0) (a3 := nI aa) (a4 := nI bb) (a5 := -nI 1) (by omega) (by omega) hb6 (by decide) (fun _ => rfl) (fun _ => rfl) (fun q => by omega)
    rw [e, ob_s]
    exact ⟨m, rfl, hq, by rw [h99]; exact s3⟩
theorem M_drawStep {q : XS × Int32} {c : Nat} {mm : Mm} (h : VRx q.1 c mm) (ok : okX q.1) (h9 : mI mm 44 54 = q.2) (i : Nat) : ∃ m, m_X12_drawDeed mm = some m ∧ VRx (drX i q).1 c m ∧ mI m 44 54 = (drX i q).2 := by
  obtain ⟨s, sd⟩ := q
  have hf := ok.1.1.1
  have d1 := M_draw h9 (b := 10) (by decide) (by decide)
  have Q1 := VR_54 h (nxd sd)
  have s1 : mI (sI mm 44 54 (nxd sd)) 44 54 = nxd sd := rdI_eq _ _ _ _
  have l10 : uu (nxd sd) % 10 < 10 := Nat.mod_lt _ (by decide)
  unfold m_X12_drawDeed
  rw [show (10 : Int32) = nI 10 from rfl, d1, ob_s]
  simp only at h ok hf ⊢
  generalize hlot : uu (nxd sd) % 10 = lot at *
  generalize hm1 : sI mm 44 54 (nxd sd) = m1' at *
  have g1 : mI m1' 44 24 = nI (fk s.1) := Q1.1.2.1
  unfold drX
  simp only
  rw [hlot, g1]
  simp (disch := omega) only [zz_0, zz_1, zz_2, zz_3, zz_4, zz_5, zz_6, zz_7, zz_8, zz_9, zz_10, zz_11, zz_12, zz_13, zz_14, zz_15, zz_16, zz_20, zz_24, zz_25, zz_26, zz_28, zz_31, zz_32, zz_36, zz_39, zz_40, zz_48, zz_49, zz_50, zz_57, zz_59, zz_60, zz_64, zz_72, zz_97, zz_99, zz_100, zz_122, zz_144, zz_161, zz_255, zz_256, zz_288, zz_322, zz_384, zz_400, zz_448, zz_600, zz_1280, zz_1000000, n_eq, n_le]
  by_cases c1 : lot = 9
  · rw [if_pos c1, if_pos c1]
    obtain ⟨m, r, e, hq, h99⟩ := M_one54 Q1 ok (i := i) (k := 0) (a := 0) (b := 0) (t := 0) (a2 := -nI 1) (a3 := -nI 1) (a4 := -nI 1) (by decide) (by decide) (by decide) (by decide) (fun q => absurd rfl q) (fun q => by omega) (fun q => by omega)
    rw [e, ob_s]
    exact ⟨m, rfl, hq, by rw [h99]; exact s1⟩
  rw [if_neg c1, if_neg c1]
  by_cases c2 : lot = 8
  · simp only [if_pos c2]
    simp (disch := omega) only [n_le]
    by_cases c3 : fk s.1 = 0
    · rw [if_neg (show ¬ 1 ≤ fk s.1 by omega), if_pos c3]
      exact ⟨_, rfl, Q1, s1⟩
    · rw [if_pos (show 1 ≤ fk s.1 by omega), if_neg c3]
      have d2 := M_draw s1 (b := fk s.1) (by omega) (by omega)
      have Q2 := VR_54 Q1 (nxd (nxd sd))
      have s2 : mI (sI m1' 44 54 (nxd (nxd sd))) 44 54 = nxd (nxd sd) := rdI_eq _ _ _ _
      have d3 := M_draw s2 (b := 2) (by decide) (by decide)
      have Q3 := VR_54 Q2 (nxd (nxd (nxd sd)))
      have s3 : mI (sI (sI m1' 44 54 (nxd (nxd sd))) 44 54 (nxd (nxd (nxd sd)))) 44 54 = nxd (nxd (nxd sd)) := rdI_eq _ _ _ _
      have l2 : uu (nxd (nxd (nxd sd))) % 2 < 2 := Nat.mod_lt _ (by decide)
      rw [d2, ob_s, d3, ob_s]
      simp (disch := omega) only [n_eq]
      rw [i_nI]
      obtain ⟨m, r, e, hq, h99⟩ := M_one54 Q3 ok (i := i) (k := if uu (nxd (nxd (nxd sd))) % 2 = 0 then 1 else 2) (a := uu (nxd (nxd sd)) % fk s.1) (b := 0) (t := 0) (a2 := nI (uu (nxd (nxd sd)) % fk s.1)) (a3 := -nI 1) (a4 := -nI 1) (by split <;> decide) (mod_lt6 hf (by omega)) (by decide) (by decide) (fun _ => rfl) (fun q => by split at q <;> omega) (fun q => by split at q <;> omega)
      rw [e, ob_s]
      exact ⟨m, rfl, hq, by rw [h99]; exact s3⟩
  simp only [if_neg c2]
  simp (disch := omega) only [n_le]
  by_cases c3 : fk s.1 ≤ 1
  · rw [if_neg (show ¬ 2 ≤ fk s.1 by omega), if_pos c3]
    exact ⟨_, rfl, Q1, s1⟩
  rw [if_pos (show 2 ≤ fk s.1 by omega), if_neg c3]
  have d2 := M_draw s1 (b := fk s.1) (by omega) (by omega)
  have Q2 := VR_54 Q1 (nxd (nxd sd))
  have s2 : mI (sI m1' 44 54 (nxd (nxd sd))) 44 54 = nxd (nxd sd) := rdI_eq _ _ _ _
  have d3 := M_draw s2 (b := fk s.1 - 1) (by omega) (by omega)
  have Q3 := VR_54 Q2 (nxd (nxd (nxd sd)))
  have s3 : mI (sI (sI m1' 44 54 (nxd (nxd sd))) 44 54 (nxd (nxd (nxd sd)))) 44 54 = nxd (nxd (nxd sd)) := rdI_eq _ _ _ _
  have g2 : mI (sI m1' 44 54 (nxd (nxd sd))) 44 24 = nI (fk s.1) := Q2.1.2.1
  have g3 : mI (sI (sI m1' 44 54 (nxd (nxd sd))) 44 54 (nxd (nxd (nxd sd)))) 44 24 = nI (fk s.1) := Q3.1.2.1
  have la : uu (nxd (nxd sd)) % fk s.1 < fk s.1 := Nat.mod_lt _ (by omega)
  have lb : uu (nxd (nxd (nxd sd))) % (fk s.1 - 1) < fk s.1 - 1 := Nat.mod_lt _ (by omega)
  have hb6 : (uu (nxd (nxd sd)) % fk s.1 + 1 + uu (nxd (nxd (nxd sd))) % (fk s.1 - 1)) % fk s.1 < 6 := mod_lt6 hf (by omega)
  rw [d2, ob_s]
  simp (disch := omega) only [g2, n_sub]
  rw [d3, ob_s]
  simp (disch := omega) only [g3, n_gdz, nI_add, n_rem]
  generalize (uu (nxd (nxd sd)) % fk s.1 + 1 + uu (nxd (nxd (nxd sd))) % (fk s.1 - 1)) % fk s.1 = bb at *
  generalize uu (nxd (nxd sd)) % fk s.1 = aa at *
  generalize hm3 : sI (sI m1' 44 54 (nxd (nxd sd))) 44 54 (nxd (nxd (nxd sd))) = m3 at *
  by_cases c4 : lot < 4
  · rw [if_pos c4]
    simp only [if_neg (show ¬ 4 ≤ lot by omega)]
    have d4 := M_draw s3 (b := 8) (by decide) (by decide)
    have Q4 := VR_54 Q3 (nxd (nxd (nxd (nxd sd))))
    have s4 : mI (sI m3 44 54 (nxd (nxd (nxd (nxd sd))))) 44 54 = nxd (nxd (nxd (nxd sd))) := rdI_eq _ _ _ _
    rw [d4, ob_s, ob_s]
    obtain ⟨m, r, e, hq, h99⟩ := M_one54 Q4 ok (i := i) (k := 6) (a := aa) (b := bb) (t := uu (nxd (nxd (nxd (nxd sd)))) % 8) (a2 := nI aa) (a3 := nI bb) (a4 := nI (uu (nxd (nxd (nxd (nxd sd)))) % 8)) (by decide) (by omega) hb6 (Nat.mod_lt _ (by decide)) (fun _ => rfl) (fun _ => rfl) (fun _ => rfl)
    rw [e, ob_s]
    exact ⟨m, rfl, hq, by rw [h99]; exact s4⟩
  · rw [if_neg c4]
    simp only [if_pos (show 4 ≤ lot by omega)]
    rw [ob_s]
    have hkk : (if 6 ≤ lot then (if lot = 6 then nI 4 else nI 5) else nI 3) = nI (if lot < 6 then 3 else if lot = 6 then 4 else 5) := by
      by_cases d : lot < 6
      · simp only [if_neg (show ¬ 6 ≤ lot by omega), if_pos d]
      · simp only [if_pos (show 6 ≤ lot by omega), if_neg d]
        by_cases d2 : lot = 6
        · simp only [if_pos d2]
        · simp only [if_neg d2]
    rw [hkk]
    have hk7 : (if lot < 6 then 3 else if lot = 6 then 4 else 5) < 6 := by
      split
      · decide
      · split <;> decide
    obtain ⟨m, r, e, hq, h99⟩ := M_one54 Q3 ok (i := i) (k := if lot < 6 then 3 else if lot = 6 then 4 else 5) (a := aa) (b := bb) (t := 0) (a2 := nI aa) (a3 := nI bb) (a4 := -nI 1) (by omega) (by omega) hb6 (by decide) (fun _ => rfl) (fun _ => rfl) (fun q => by omega)
    rw [e, ob_s]
    exact ⟨m, rfl, hq, by rw [h99]; exact s3⟩
def dseq (q : XS × Int32) : Nat → XS × Int32
  | 0 => q
  | i + 1 => drX i (dseq q i)
theorem dseq_ok {q : XS × Int32} (h : okX q.1) : ∀ i, okX (dseq q i).1
  | 0 => h
  | i + 1 => drX_ok (dseq_ok h i)
theorem C_drawnW {q : XS × Int32} {mm : Mm} (h : VQx q.1 mm) (ok : okX q.1) (h9 : mI mm 13 9 = q.2) {n : Nat} (hn : n ≤ 60) : ∃ m, whileF FU (m_X3_runSeed_b13 (nI n)) (0, mm) = some m ∧ VQx (dseq q n).1 m ∧ agx [(13, none), (14, none), (15, none), (17, none), (18, none), (20, none), (21, none), (22, none)] mm m := by
  refine loop_n (body := m_X3_runSeed_b13 (nI n)) (a := ((0 : Int32), mm)) (fun i z => ∃ m, z = (nI i, m) ∧ VQx (dseq q i).1 m ∧ mI m 13 9 = (dseq q i).2 ∧ agx [(13, none), (14, none), (15, none), (17, none), (18, none), (20, none), (21, none), (22, none)] mm m) (fun m => VQx (dseq q n).1 m ∧ agx [(13, none), (14, none), (15, none), (17, none), (18, none), (20, none), (21, none), (22, none)] mm m) n (FU_big (by omega)) ⟨mm, rfl, h, h9, agx_rf _⟩ ?_ ?_
  · rintro i z hi ⟨m, rfl, hQ, h99, hA⟩
    obtain ⟨m', e, hQ', h99'⟩ := C_drawStep hQ (dseq_ok ok i) h99 i
    have fr := fr_X3_performDrawn e
    have fr' : agx [(13, none), (14, none), (15, none), (17, none), (18, none), (20, none), (21, none), (22, none)] m m' := fun p j h => fr p j (by
      cases hcv : covB _ p j with
      | false => rfl
      | true =>
        exfalso
        simp [covB] at h hcv
        omega)
    unfold m_X3_runSeed_b13
    simp only []
    rw [if_neg (by rw [n_le (by omega) (by omega)]; omega), e, ob_s, nI_1]
    exact ⟨_, rfl, m', rfl, hQ', h99', agx_tr hA fr'⟩
  · rintro z ⟨m, rfl, hQ, h99, hA⟩
    unfold m_X3_runSeed_b13
    rw [if_pos (by show nI n ≤ nI n; rw [n_le (by omega) (by omega)]; omega)]
    exact ⟨_, rfl, hQ, hA⟩
theorem M_drawnW {q : XS × Int32} {c : Nat} {mm : Mm} (h : VRx q.1 c mm) (ok : okX q.1) (h9 : mI mm 44 54 = q.2) {n : Nat} (hn : n ≤ 60) : ∃ m, whileF FU (m_X12_drawn_b33 (nI n)) (0, mm) = some m ∧ VRx (dseq q n).1 c m := by
  refine loop_n (body := m_X12_drawn_b33 (nI n)) (a := ((0 : Int32), mm)) (fun i z => ∃ m, z = (nI i, m) ∧ VRx (dseq q i).1 c m ∧ mI m 44 54 = (dseq q i).2) (fun m => VRx (dseq q n).1 c m) n (FU_big (by omega)) ⟨mm, rfl, h, h9⟩ ?_ ?_
  · rintro i z hi ⟨m, rfl, hQ, h99⟩
    obtain ⟨m', e, hQ', h99'⟩ := M_drawStep hQ (dseq_ok ok i) h99 i
    unfold m_X12_drawn_b33
    simp only []
    rw [if_neg (by rw [n_le (by omega) (by omega)]; omega), e, ob_s, nI_1]
    exact ⟨_, rfl, m', rfl, hQ', h99'⟩
  · rintro z ⟨m, rfl, hQ, h99⟩
    unfold m_X12_drawn_b33
    rw [if_pos (by show nI n ≤ nI n; rw [n_le (by omega) (by omega)]; omega)]
    exact ⟨_, rfl, hQ⟩
