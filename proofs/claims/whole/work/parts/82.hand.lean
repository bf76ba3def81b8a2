/-! L3: the reference lays a county as told into its hands -/
/-- how the reference holds a told county: 72 cells of place 50 from o on -/
def MV (W : Cn) (o : Nat) (m : Mm) : Prop :=
  mI m 50 o = nI (fk W) ∧ mI m 50 (o + 1) = nI (oa W) ∧ (∀ p, p < 6 → mI m 50 (o + (2 + p)) = nI (wl W p)) ∧ (∀ p, p < 6 → mI m 50 (o + (8 + p)) = nI (rm W p)) ∧ (∀ p, p < 6 → mI m 50 (o + (14 + p)) = nI (lk W p)) ∧ (∀ t, t < 8 → mI m 50 (o + (20 + t)) = nI (hd W t)) ∧ (∀ t, t < 8 → mI m 50 (o + (28 + t)) = nI (cl W t)) ∧ (∀ k, k < 12 → mI m 50 (o + (36 + 3 * k)) = nI (sw W k)) ∧ (∀ k, k < 12 → mI m 50 (o + (36 + 3 * k + 1)) = nI (bd W k)) ∧ (∀ k, k < 12 → mI m 50 (o + (36 + 3 * k + 2)) = nI (th W k))
theorem MV_eq {W : Cn} {o : Nat} {m m' : Mm} (h : MV W o m) (e : ∀ j, mI m' 50 j = mI m 50 j) : MV W o m' := by
  unfold MV at h ⊢
  simp only [e]
  exact h
theorem of_at {c : Nat} {mm : Mm} (hc : c < 2) (h : mI mm 44 23 = nI c) {a : Nat} (ha : a < 72) : m_X12_of (nI a) mm = some (mI mm 50 (72 * c + a)) := by
  unfold m_X12_of
  simp (disch := omega) only [zz_0, zz_1, zz_2, zz_3, zz_4, zz_5, zz_6, zz_7, zz_8, zz_9, zz_10, zz_11, zz_12, zz_13, zz_14, zz_15, zz_16, zz_20, zz_24, zz_25, zz_26, zz_28, zz_31, zz_32, zz_36, zz_39, zz_40, zz_48, zz_49, zz_50, zz_57, zz_59, zz_60, zz_64, zz_72, zz_97, zz_99, zz_100, zz_122, zz_144, zz_161, zz_255, zz_256, zz_288, zz_322, zz_384, zz_400, zz_448, zz_600, zz_1280, zz_1000000, nI_add, n_mul, n_sub, fa_or, fa_and, fb_xorI, n_div, n_rem, n_le, n_lt, n_eq, n_shl1, n_shr, n_andn, n_ix, n_grd, n_gdz, n_gbz, n_hasM, n_hasC, b2_0, b2_1, n_m1, Option.bind_some, bS_inl, bS_inr, n_max, n_min, n_grt, n_les, h]
theorem covN {l : List (Nat × Option Nat)} {p j : Nat} (h : l.all (fun e => decide (e.1 ≠ p)) = true) : covB l p j = false := by
  unfold covB
  rw [Bool.eq_false_iff]
  intro hc
  rw [List.any_eq_true] at hc
  obtain ⟨e, he, hx⟩ := hc
  have := List.all_eq_true.mp h e he
  simp at this hx
  exact this hx.1
theorem M_asTold {W : Cn} {c : Nat} {mm : Mm} (hc : c < 2) (h23 : mI mm 44 23 = nI c) (h24 : mI mm 44 24 = nI (fk W)) (h : MV W (72 * c) mm) (ok : okW W) (hv : ∀ i, vs W i = 0) : ∃ m, m_X12_asTold mm = some m ∧ VR W c 0 0 0 0 m ∧ agx [(44, some 25), (44, some 26), (44, some 27), (44, some 28), (44, some 29), (44, some 30), (56, none), (57, none), (58, none), (59, none), (60, none), (61, none), (62, none)] mm m := by
  unfold m_X12_asTold
  rw [show (1 : Int32) = nI 1 from rfl, of_at hc (by simp (disch := omega) only [rdI_nj]; exact h23) (by decide), ob_s]
  have A0 : agx [(44, some 25), (44, some 26), (44, some 27), (44, some 28), (44, some 29), (44, some 30), (56, none), (57, none), (58, none), (59, none), (60, none), (61, none), (62, none)] mm (sI (sI (sI (sI (sI (sI mm 44 26 0) 44 27 0) 44 28 0) 44 29 0) 44 30 0) 44 25 (mI (sI (sI (sI (sI (sI mm 44 26 0) 44 27 0) 44 28 0) 44 29 0) 44 30 0) 50 (72 * c + 1))) := agx_wr (agx_wr (agx_wr (agx_wr (agx_wr (agx_wr (agx_rf _) (by rfl)) (by rfl)) (by rfl)) (by rfl)) (by rfl)) (by rfl)
  have R : ∀ q, q = sI (sI (sI (sI (sI (sI mm 44 26 0) 44 27 0) 44 28 0) 44 29 0) 44 30 0) 44 25 (mI (sI (sI (sI (sI (sI mm 44 26 0) 44 27 0) 44 28 0) 44 29 0) 44 30 0) 50 (72 * c + 1)) → mI q 44 23 = nI c ∧ mI q 44 24 = nI (fk W) ∧ mI q 44 25 = nI (oa W) ∧ mI q 44 26 = nI 0 ∧ mI q 44 27 = nI 0 ∧ mI q 44 28 = nI 0 ∧ mI q 44 29 = nI 0 ∧ mI q 44 30 = nI 0 ∧ MV W (72 * c) q := by
    rintro q rfl
    refine ⟨?_, ?_, ?_, ?_, ?_, ?_, ?_, ?_, MV_eq h (fun j => ?_)⟩
    · simp (disch := omega) only [rdI_nj]; exact h23
    · simp (disch := omega) only [rdI_nj]; exact h24
    · rw [rdI_eq]; simp (disch := omega) only [rdI_ne]; exact h.2.1
    · simp (disch := omega) only [rdI_nj, rdI_eq]; rfl
    · simp (disch := omega) only [rdI_nj, rdI_eq]; rfl
    · simp (disch := omega) only [rdI_nj, rdI_eq]; rfl
    · simp (disch := omega) only [rdI_nj, rdI_eq]; rfl
    · simp (disch := omega) only [rdI_nj, rdI_eq]; rfl
    · simp (disch := omega) only [rdI_ne]
  generalize sI (sI (sI (sI (sI (sI mm 44 26 0) 44 27 0) 44 28 0) 44 29 0) 44 30 0) 44 25 (mI (sI (sI (sI (sI (sI mm 44 26 0) 44 27 0) 44 28 0) 44 29 0) 44 30 0) 50 (72 * c + 1)) = q at *
  obtain ⟨r23, r24, r25, r26, r27, r28, r29, r30, o0, o1, o2, o3, o4, o5, o6, o7, o8, o9⟩ := R q rfl
  clear R
  obtain ⟨m1', e1, z1, zA⟩ := loop_n (body := m_X12_asTold_b36) (a := ((0 : Int32), q)) (fun i z => ∃ m, z = (nI i, m) ∧ (∀ j, j < i → mI m 56 j = nI (wl W j) ∧ mI m 57 j = nI (rm W j) ∧ mI m 58 j = nI (lk W j)) ∧ agx [(56, none), (57, none), (58, none)] q m) (fun m => (∀ j, j < 6 → mI m 56 j = nI (wl W j) ∧ mI m 57 j = nI (rm W j) ∧ mI m 58 j = nI (lk W j)) ∧ agx [(56, none), (57, none), (58, none)] q m) 6 (FU_big (by decide)) ⟨q, rfl, fun j hj => absurd hj (Nat.not_lt_zero j), agx_rf _⟩ (by
    rintro i z hi ⟨m, rfl, hz, hA⟩
    have e23 : mI m 44 23 = nI c := ((hA 44 23 rfl).1).trans r23
    have e50 : ∀ j, mI m 50 j = mI q 50 j := fun j => (hA 50 j (covN (by rfl))).1
    unfold m_X12_asTold_b36
    simp (disch := first | omega | (simp (disch := omega) only [rdI_ne]; exact e23)) only [zz_0, zz_1, zz_2, zz_3, zz_4, zz_5, zz_6, zz_7, zz_8, zz_9, zz_10, zz_11, zz_12, zz_13, zz_14, zz_15, zz_16, zz_20, zz_24, zz_25, zz_26, zz_28, zz_31, zz_32, zz_36, zz_39, zz_40, zz_48, zz_49, zz_50, zz_57, zz_59, zz_60, zz_64, zz_72, zz_97, zz_99, zz_100, zz_122, zz_144, zz_161, zz_255, zz_256, zz_288, zz_322, zz_384, zz_400, zz_448, zz_600, zz_1280, zz_1000000, nI_add, n_mul, n_sub, fa_or, fa_and, fb_xorI, n_div, n_rem, n_le, n_lt, n_eq, n_shl1, n_shr, n_andn, n_ix, n_grd, n_gdz, n_gbz, n_hasM, n_hasC, b2_0, b2_1, n_m1, ob_s, bs_l, bs_r, n_max, n_min, n_grt, n_les, of_at hc]
    rw [if_neg (by omega)]
    simp (disch := omega) only [rdI_ne, e50, o2 i hi, o3 i hi, o4 i hi]
    refine ⟨_, rfl, _, rfl, fun j hj => ?_, agx_wr (agx_wr (agx_wr hA (by rfl)) (by rfl)) (by rfl)⟩
    simp (disch := omega) only [rdI_ne, rdI_sm]
    by_cases e : j = i
    · subst e; exact ⟨if_pos rfl, if_pos rfl, if_pos rfl⟩
    · simp only [if_neg e]; exact hz j (by omega)) (by
    rintro z ⟨m, rfl, hz, hA⟩
    unfold m_X12_asTold_b36
    simp (disch := omega) only [zz_0, zz_1, zz_2, zz_3, zz_4, zz_5, zz_6, zz_7, zz_8, zz_9, zz_10, zz_11, zz_12, zz_13, zz_14, zz_15, zz_16, zz_20, zz_24, zz_25, zz_26, zz_28, zz_31, zz_32, zz_36, zz_39, zz_40, zz_48, zz_49, zz_50, zz_57, zz_59, zz_60, zz_64, zz_72, zz_97, zz_99, zz_100, zz_122, zz_144, zz_161, zz_255, zz_256, zz_288, zz_322, zz_384, zz_400, zz_448, zz_600, zz_1280, zz_1000000, nI_add, n_mul, n_sub, fa_or, fa_and, fb_xorI, n_div, n_rem, n_le, n_lt, n_eq, n_shl1, n_shr, n_andn, n_ix, n_grd, n_gdz, n_gbz, n_hasM, n_hasC, b2_0, b2_1, n_m1, ob_s, bs_l, bs_r, n_max, n_min, n_grt, n_les]
    rw [if_pos (by omega)]
    exact ⟨_, rfl, hz, hA⟩)
  rw [e1, ob_s]
  obtain ⟨m2', e2, z2, zB⟩ := loop_n (body := m_X12_asTold_b91) (a := ((0 : Int32), m1')) (fun i z => ∃ m, z = (nI i, m) ∧ (∀ j, j < i → mI m 59 j = nI 0) ∧ agx [(59, none)] m1' m) (fun m => (∀ j, j < 36 → mI m 59 j = nI 0) ∧ agx [(59, none)] m1' m) 36 (FU_big (by decide)) ⟨m1', rfl, fun j hj => absurd hj (Nat.not_lt_zero j), agx_rf _⟩ (by
    rintro i z hi ⟨m, rfl, hz, hA⟩
    unfold m_X12_asTold_b91
    simp (disch := omega) only [zz_0, zz_1, zz_2, zz_3, zz_4, zz_5, zz_6, zz_7, zz_8, zz_9, zz_10, zz_11, zz_12, zz_13, zz_14, zz_15, zz_16, zz_20, zz_24, zz_25, zz_26, zz_28, zz_31, zz_32, zz_36, zz_39, zz_40, zz_48, zz_49, zz_50, zz_57, zz_59, zz_60, zz_64, zz_72, zz_97, zz_99, zz_100, zz_122, zz_144, zz_161, zz_255, zz_256, zz_288, zz_322, zz_384, zz_400, zz_448, zz_600, zz_1280, zz_1000000, nI_add, n_mul, n_sub, fa_or, fa_and, fb_xorI, n_div, n_rem, n_le, n_lt, n_eq, n_shl1, n_shr, n_andn, n_ix, n_grd, n_gdz, n_gbz, n_hasM, n_hasC, b2_0, b2_1, n_m1, ob_s, bs_l, bs_r, n_max, n_min, n_grt, n_les]
    rw [if_neg (by omega)]
    refine ⟨_, rfl, _, rfl, fun j hj => ?_, agx_wr hA (by rfl)⟩
    rw [rdI_sm]
    by_cases e : j = i
    · rw [if_pos e]
    · rw [if_neg e]; exact hz j (by omega)) (by
    rintro z ⟨m, rfl, hz, hA⟩
    unfold m_X12_asTold_b91
    simp (disch := omega) only [zz_0, zz_1, zz_2, zz_3, zz_4, zz_5, zz_6, zz_7, zz_8, zz_9, zz_10, zz_11, zz_12, zz_13, zz_14, zz_15, zz_16, zz_20, zz_24, zz_25, zz_26, zz_28, zz_31, zz_32, zz_36, zz_39, zz_40, zz_48, zz_49, zz_50, zz_57, zz_59, zz_60, zz_64, zz_72, zz_97, zz_99, zz_100, zz_122, zz_144, zz_161, zz_255, zz_256, zz_288, zz_322, zz_384, zz_400, zz_448, zz_600, zz_1280, zz_1000000, nI_add, n_mul, n_sub, fa_or, fa_and, fb_xorI, n_div, n_rem, n_le, n_lt, n_eq, n_shl1, n_shr, n_andn, n_ix, n_grd, n_gdz, n_gbz, n_hasM, n_hasC, b2_0, b2_1, n_m1, ob_s, bs_l, bs_r, n_max, n_min, n_grt, n_les]
    rw [if_pos (by omega)]
    exact ⟨_, rfl, hz, hA⟩)
  rw [e2, ob_s]
  have f50 : ∀ j, mI m2' 50 j = mI q 50 j := fun j => ((zB 50 j (covN (by rfl))).1).trans (zA 50 j (covN (by rfl))).1
  have f44 : ∀ j, mI m2' 44 j = mI q 44 j := fun j => ((zB 44 j (covN (by rfl))).1).trans (zA 44 j (covN (by rfl))).1
  obtain ⟨m3', e3, z3, zC⟩ := loop_n (body := m_X12_asTold_b112) (a := ((0 : Int32), m2')) (fun i z => ∃ m, z = (nI i, m) ∧ (∀ j, j < i → mI m 60 j = nI (sw W j) ∧ mI m 61 j = nI (bd W j) ∧ mI m 62 j = nI (th W j)) ∧ agx [(60, none), (61, none), (62, none)] m2' m) (fun m => (∀ j, j < 12 → mI m 60 j = nI (sw W j) ∧ mI m 61 j = nI (bd W j) ∧ mI m 62 j = nI (th W j)) ∧ agx [(60, none), (61, none), (62, none)] m2' m) 12 (FU_big (by decide)) ⟨m2', rfl, fun j hj => absurd hj (Nat.not_lt_zero j), agx_rf _⟩ (by
    rintro i z hi ⟨m, rfl, hz, hA⟩
    have e23 : mI m 44 23 = nI c := (((hA 44 23 rfl).1).trans (f44 23)).trans r23
    have e50 : ∀ j, mI m 50 j = mI q 50 j := fun j => ((hA 50 j (covN (by rfl))).1).trans (f50 j)
    unfold m_X12_asTold_b112
    simp (disch := first | omega | (simp (disch := omega) only [rdI_ne]; exact e23)) only [zz_0, zz_1, zz_2, zz_3, zz_4, zz_5, zz_6, zz_7, zz_8, zz_9, zz_10, zz_11, zz_12, zz_13, zz_14, zz_15, zz_16, zz_20, zz_24, zz_25, zz_26, zz_28, zz_31, zz_32, zz_36, zz_39, zz_40, zz_48, zz_49, zz_50, zz_57, zz_59, zz_60, zz_64, zz_72, zz_97, zz_99, zz_100, zz_122, zz_144, zz_161, zz_255, zz_256, zz_288, zz_322, zz_384, zz_400, zz_448, zz_600, zz_1280, zz_1000000, nI_add, n_mul, n_sub, fa_or, fa_and, fb_xorI, n_div, n_rem, n_le, n_lt, n_eq, n_shl1, n_shr, n_andn, n_ix, n_grd, n_gdz, n_gbz, n_hasM, n_hasC, b2_0, b2_1, n_m1, ob_s, bs_l, bs_r, n_max, n_min, n_grt, n_les, of_at hc]
    rw [if_neg (by omega)]
    simp (disch := omega) only [rdI_ne, e50, o7 i hi, o8 i hi, o9 i hi]
    refine ⟨_, rfl, _, rfl, fun j hj => ?_, agx_wr (agx_wr (agx_wr hA (by rfl)) (by rfl)) (by rfl)⟩
    simp (disch := omega) only [rdI_ne, rdI_sm]
    by_cases e : j = i
    · subst e; exact ⟨if_pos rfl, if_pos rfl, if_pos rfl⟩
    · simp only [if_neg e]; exact hz j (by omega)) (by
    rintro z ⟨m, rfl, hz, hA⟩
    unfold m_X12_asTold_b112
    simp (disch := omega) only [zz_0, zz_1, zz_2, zz_3, zz_4, zz_5, zz_6, zz_7, zz_8, zz_9, zz_10, zz_11, zz_12, zz_13, zz_14, zz_15, zz_16, zz_20, zz_24, zz_25, zz_26, zz_28, zz_31, zz_32, zz_36, zz_39, zz_40, zz_48, zz_49, zz_50, zz_57, zz_59, zz_60, zz_64, zz_72, zz_97, zz_99, zz_100, zz_122, zz_144, zz_161, zz_255, zz_256, zz_288, zz_322, zz_384, zz_400, zz_448, zz_600, zz_1280, zz_1000000, nI_add, n_mul, n_sub, fa_or, fa_and, fb_xorI, n_div, n_rem, n_le, n_lt, n_eq, n_shl1, n_shr, n_andn, n_ix, n_grd, n_gdz, n_gbz, n_hasM, n_hasC, b2_0, b2_1, n_m1, ob_s, bs_l, bs_r, n_max, n_min, n_grt, n_les]
    rw [if_pos (by omega)]
    exact ⟨_, rfl, hz, hA⟩)
  rw [e3, ob_s]
  have g50 : ∀ j, mI m3' 50 j = mI q 50 j := fun j => ((zC 50 j (covN (by rfl))).1).trans (f50 j)
  have g44 : ∀ j, mI m3' 44 j = mI q 44 j := fun j => ((zC 44 j (covN (by rfl))).1).trans (f44 j)
  refine ⟨m3', rfl, ⟨⟨⟨hc, ?_⟩, ?_, ?_, ?_, fun p hp => ?_, fun p hp => ?_, fun p hp => ?_, fun i hi => ?_, fun k hk => ?_, fun k hk => ?_, fun k hk => ?_, fun t ht => ?_, fun t ht => ?_⟩, ?_, ?_, ?_, ?_⟩, agx_tr A0 (agx_tr (agx_mono (by rfl) zA) (agx_tr (agx_mono (by rfl) zB) (agx_mono (by rfl) zC)))⟩
  · rw [g44, r23]
  · rw [g44, r24]
  · rw [g44, r25]
  · rw [g44, r26]
  · rw [(zC 56 p (covN (by rfl))).1, (zB 56 p (covN (by rfl))).1]; exact (z1 p hp).1
  · rw [(zC 57 p (covN (by rfl))).1, (zB 57 p (covN (by rfl))).1]; exact (z1 p hp).2.1
  · rw [(zC 58 p (covN (by rfl))).1, (zB 58 p (covN (by rfl))).1]; exact (z1 p hp).2.2
  · rw [(zC 59 i (covN (by rfl))).1, z2 i hi, hv i]
  · exact (z3 k (by have := ok.2.2; omega)).1
  · exact (z3 k (by have := ok.2.2; omega)).2.1
  · exact (z3 k (by have := ok.2.2; omega)).2.2
  · rw [g50]; exact o5 t ht
  · rw [g50]; exact o6 t ht
  · rw [g44, r27]
  · rw [g44, r28]
  · rw [g44, r29]
  · rw [g44, r30]
theorem M_hand_yes {W : Cn} {c n : Nat} {mm : Mm} (hc : c < n) (hn : n ≤ 2) (h49 : mI mm 49 0 = nI n) (h : MV W (72 * c) mm) (ok : okW W) (hv : ∀ i, vs W i = 0) : ∃ m, m_X12_hand (nI c) mm = some (1, m) ∧ VR W c 0 0 0 0 m ∧ agx [(44, some 23), (44, some 24), (44, some 25), (44, some 26), (44, some 27), (44, some 28), (44, some 29), (44, some 30), (56, none), (57, none), (58, none), (59, none), (60, none), (61, none), (62, none)] mm m := by
  have e1 : m_X12_is 0 (nI c) mm = some (b2 true) := by
    unfold m_X12_is
    simp only [ix0, h49, M_in_yes hc (by omega)]
    rfl
  unfold m_X12_hand
  rw [e1, ob_s, if_neg (by decide), show (0 : Int32) = nI 0 from rfl, of_at (by omega) (rdI_eq _ _ _ _) (by decide), ob_s, Nat.add_zero, rdI_ne _ _ _ _ (by decide), h.1]
  obtain ⟨m, e, hR, hA⟩ := M_asTold (mm := sI (sI mm 44 23 (nI c)) 44 24 (nI (fk W))) (W := W) (by omega : c < 2) (by rw [rdI_nj _ _ _ _ (by decide), rdI_eq]) (rdI_eq _ _ _ _) (MV_eq h (fun j => by rw [rdI_ne _ _ _ _ (by decide), rdI_ne _ _ _ _ (by decide)])) ok hv
  rw [e, ob_s]
  exact ⟨m, rfl, hR, agx_tr (agx_wr (agx_wr (agx_rf _) (by rfl)) (by rfl)) (agx_mono (by rfl) hA)⟩
theorem M_hand_no {a : Int32} {n : Nat} {mm : Mm} (hn : n ≤ 2) (h49 : mI mm 49 0 = nI n) (h : a < 0 ∨ nI n ≤ a) : m_X12_hand a mm = some (0, mm) := by
  have e1 : m_X12_is 0 a mm = some (b2 false) := by
    unfold m_X12_is
    simp only [ix0, h49, M_in_no h (by omega)]
    rfl
  unfold m_X12_hand
  rw [e1, ob_s, if_pos (by decide)]
