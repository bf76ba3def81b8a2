/-! L3: oaths that could be sworn, too -/
def addO (W : Cn) (a b t : Nat) : Cn := fun x j => if x = 0 ∧ j = 1 then oa W + 1 else if x = 7 ∧ j = oa W then a else if x = 8 ∧ j = oa W then b else if x = 9 ∧ j = oa W then t else W x j
theorem addO_oa (W : Cn) (a b t : Nat) : oa (addO W a b t) = oa W + 1 := rfl
theorem addO_fk (W : Cn) (a b t : Nat) : fk (addO W a b t) = fk W := rfl
theorem addO_sw (W : Cn) (a b t k : Nat) : sw (addO W a b t) k = if k = oa W then a else sw W k := by
  show (if 7 = 0 ∧ k = 1 then oa W + 1 else if 7 = 7 ∧ k = oa W then a else if 7 = 8 ∧ k = oa W then b else if 7 = 9 ∧ k = oa W then t else W 7 k) = _
  by_cases h : k = oa W <;> simp [h]
theorem addO_bd (W : Cn) (a b t k : Nat) : bd (addO W a b t) k = if k = oa W then b else bd W k := by
  show (if 8 = 0 ∧ k = 1 then oa W + 1 else if 8 = 7 ∧ k = oa W then a else if 8 = 8 ∧ k = oa W then b else if 8 = 9 ∧ k = oa W then t else W 8 k) = _
  by_cases h : k = oa W <;> simp [h]
theorem addO_th (W : Cn) (a b t k : Nat) : th (addO W a b t) k = if k = oa W then t else th W k := by
  show (if 9 = 0 ∧ k = 1 then oa W + 1 else if 9 = 7 ∧ k = oa W then a else if 9 = 8 ∧ k = oa W then b else if 9 = 9 ∧ k = oa W then t else W 9 k) = _
  by_cases h : k = oa W <;> simp [h]
theorem addO_wl (W : Cn) (a b t : Nat) : (addO W a b t) 1 = W 1 := by funext p; simp [addO]
theorem addO_rm (W : Cn) (a b t : Nat) : (addO W a b t) 2 = W 2 := by funext p; simp [addO]
theorem addO_lk (W : Cn) (a b t : Nat) : (addO W a b t) 3 = W 3 := by funext p; simp [addO]
theorem addO_vs (W : Cn) (a b t : Nat) : (addO W a b t) 4 = W 4 := by funext p; simp [addO]
theorem addO_hd (W : Cn) (a b t : Nat) : (addO W a b t) 5 = W 5 := by funext p; simp [addO]
theorem addO_cl (W : Cn) (a b t : Nat) : (addO W a b t) 6 = W 6 := by funext p; simp [addO]
theorem addO_WF {W : Cn} (wf : WF W) {a b t : Nat} (ha : a < 6) (hb : b < 6) (ht : t < 8) (ho : oa W < 16) : WF (addO W a b t) := by
  obtain ⟨f1, f2, f3, f4, f5, f6, f7, f8, f9, f10, f11⟩ := wf
  refine ⟨f1, by rw [addO_oa]; omega, fun p => ?_, fun p => ?_, fun p => ?_, fun p => ?_, fun p => ?_, fun p => ?_, fun p => ?_, fun p => ?_, fun p => ?_⟩
  · show (addO W a b t) 1 p ≤ 9; rw [addO_wl]; exact f3 p
  · show (addO W a b t) 2 p ≤ 4; rw [addO_rm]; exact f4 p
  · show (addO W a b t) 3 p < 64; rw [addO_lk]; exact f5 p
  · show (addO W a b t) 4 p ≤ 9; rw [addO_vs]; exact f6 p
  · show (addO W a b t) 5 p ≤ 9; rw [addO_hd]; exact f7 p
  · show (addO W a b t) 6 p < 256; rw [addO_cl]; exact f8 p
  · rw [addO_sw]; split
    · exact ha
    · exact f9 p
  · rw [addO_bd]; split
    · exact hb
    · exact f10 p
  · rw [addO_th]; split
    · exact ht
    · exact f11 p
theorem addO_hrt (W : Cn) (a b t p q : Nat) : hrt (addO W a b t) p q = hrt W p q := by
  unfold hrt
  show (addO W a b t) 1 q + (if ((addO W a b t) 3 q).testBit p then 2 else 0) + (addO W a b t) 4 (6 * p + q) = _
  rw [addO_wl, addO_lk, addO_vs]
theorem addO_bst (W : Cn) (a b t s r : Nat) : bst (addO W a b t) s r = bst W s r := by
  unfold bst
  show kp ((addO W a b t) 6) 8 r s = _
  rw [addO_cl]
theorem VM_addO {W : Cn} {st c : Nat} {mm : Mm} (h : VM W st c mm) (wf : WF W) {a b t : Nat} (ho : oa W < 16) : ∃ m, m_X12_addOath (nI a) (nI b) (nI t) mm = some m ∧ VM (addO W a b t) st c m ∧ VM W st c (sI m 44 25 (nI (oa W))) ∧ (∀ p j, p ≠ 60 → p ≠ 61 → p ≠ 62 → p ≠ 44 → mI m p j = mI mm p j) := by
  obtain ⟨⟨hc, v23⟩, v24, v25, v26, v56, v57, v58, v59, v60, v61, v62, v20, v28⟩ := h
  unfold m_X12_addOath
  simp (disch := omega) only [zz_0, zz_1, zz_2, zz_3, zz_4, zz_5, zz_6, zz_7, zz_8, zz_9, zz_10, zz_11, zz_12, zz_13, zz_14, zz_15, zz_16, zz_20, zz_24, zz_25, zz_26, zz_28, zz_31, zz_32, zz_36, zz_39, zz_40, zz_48, zz_49, zz_50, zz_57, zz_59, zz_60, zz_64, zz_72, zz_97, zz_99, zz_100, zz_122, zz_144, zz_161, zz_255, zz_256, zz_288, zz_322, zz_384, zz_400, zz_448, zz_600, zz_1280, zz_1000000, nI_add, n_mul, n_sub, fa_or, fa_and, fb_xorI, n_div, n_rem, n_le, n_lt, n_eq, n_shl1, n_shr, n_andn, n_ix, n_grd, n_gdz, n_gbz, n_hasM, n_hasC, b2_0, b2_1, n_m1, Option.bind_some, bS_inl, bS_inr, n_max, n_min, n_grt, n_les, v25, rdI_ne]
  refine ⟨_, rfl, ?_, ?_, ?_⟩
  · have e : ∀ p j, p ≠ 60 → p ≠ 61 → p ≠ 62 → p ≠ 44 → mI (sI (sI (sI (sI mm 60 (oa W) (nI a)) 61 (oa W) (nI b)) 62 (oa W) (nI t)) 44 25 (nI (oa W + 1))) p j = mI mm p j := fun p j h1 h2 h3 h4 => by
      rw [rdI_ne _ _ _ _ h4, rdI_ne _ _ _ _ h3, rdI_ne _ _ _ _ h2, rdI_ne _ _ _ _ h1]
    have e4 : ∀ j, j ≠ 25 → mI (sI (sI (sI (sI mm 60 (oa W) (nI a)) 61 (oa W) (nI b)) 62 (oa W) (nI t)) 44 25 (nI (oa W + 1))) 44 j = mI mm 44 j := fun j hj => by
      rw [rdI_nj _ _ _ _ hj, rdI_ne _ _ _ _ (by decide), rdI_ne _ _ _ _ (by decide), rdI_ne _ _ _ _ (by decide)]
    refine ⟨⟨hc, ?_⟩, ?_, rdI_eq _ _ _ _, ?_, fun p hp => ?_, fun p hp => ?_, fun p hp => ?_, fun p hp => ?_, fun k hk => ?_, fun k hk => ?_, fun k hk => ?_, fun p hp => ?_, fun p hp => ?_⟩
    · rw [e4 _ (by decide)]; exact v23
    · rw [e4 _ (by decide)]; exact v24
    · rw [e4 _ (by decide)]; exact v26
    · rw [e _ _ (by decide) (by decide) (by decide) (by decide), v56 p hp]; exact congrArg nI (congrFun (addO_wl W a b t) p).symm
    · rw [e _ _ (by decide) (by decide) (by decide) (by decide), v57 p hp]; exact congrArg nI (congrFun (addO_rm W a b t) p).symm
    · rw [e _ _ (by decide) (by decide) (by decide) (by decide), v58 p hp]; exact congrArg nI (congrFun (addO_lk W a b t) p).symm
    · rw [e _ _ (by decide) (by decide) (by decide) (by decide), v59 p hp]; exact congrArg nI (congrFun (addO_vs W a b t) p).symm
    · rw [addO_oa] at hk
      rw [addO_sw]
      simp (disch := omega) only [rdI_ne, rdI_sm]
      by_cases hk2 : k = oa W
      · simp [hk2]
      · simp only [hk2, if_false]; exact v60 k (by omega)
    · rw [addO_oa] at hk
      rw [addO_bd]
      simp (disch := omega) only [rdI_ne, rdI_sm]
      by_cases hk2 : k = oa W
      · simp [hk2]
      · simp only [hk2, if_false]; exact v61 k (by omega)
    · rw [addO_oa] at hk
      rw [addO_th]
      simp (disch := omega) only [rdI_ne, rdI_sm]
      by_cases hk2 : k = oa W
      · simp [hk2]
      · simp only [hk2, if_false]; exact v62 k (by omega)
    · rw [e _ _ (by decide) (by decide) (by decide) (by decide), v20 p hp]; exact congrArg nI (congrFun (addO_hd W a b t) p).symm
    · rw [e _ _ (by decide) (by decide) (by decide) (by decide), v28 p hp]; exact congrArg nI (congrFun (addO_cl W a b t) p).symm
  · have e : ∀ p j, p ≠ 60 → p ≠ 61 → p ≠ 62 → p ≠ 44 → mI (sI (sI (sI (sI (sI mm 60 (oa W) (nI a)) 61 (oa W) (nI b)) 62 (oa W) (nI t)) 44 25 (nI (oa W + 1))) 44 25 (nI (oa W))) p j = mI mm p j := fun p j h1 h2 h3 h4 => by
      rw [rdI_ne _ _ _ _ h4, rdI_ne _ _ _ _ h4, rdI_ne _ _ _ _ h3, rdI_ne _ _ _ _ h2, rdI_ne _ _ _ _ h1]
    have e4 : ∀ j, j ≠ 25 → mI (sI (sI (sI (sI (sI mm 60 (oa W) (nI a)) 61 (oa W) (nI b)) 62 (oa W) (nI t)) 44 25 (nI (oa W + 1))) 44 25 (nI (oa W))) 44 j = mI mm 44 j := fun j hj => by
      rw [rdI_nj _ _ _ _ hj, rdI_nj _ _ _ _ hj, rdI_ne _ _ _ _ (by decide), rdI_ne _ _ _ _ (by decide), rdI_ne _ _ _ _ (by decide)]
    refine ⟨⟨hc, ?_⟩, ?_, rdI_eq _ _ _ _, ?_, fun p hp => ?_, fun p hp => ?_, fun p hp => ?_, fun p hp => ?_, fun k hk => ?_, fun k hk => ?_, fun k hk => ?_, fun p hp => ?_, fun p hp => ?_⟩
    · rw [e4 _ (by decide)]; exact v23
    · rw [e4 _ (by decide)]; exact v24
    · rw [e4 _ (by decide)]; exact v26
    · rw [e _ _ (by decide) (by decide) (by decide) (by decide), v56 p hp]
    · rw [e _ _ (by decide) (by decide) (by decide) (by decide), v57 p hp]
    · rw [e _ _ (by decide) (by decide) (by decide) (by decide), v58 p hp]
    · rw [e _ _ (by decide) (by decide) (by decide) (by decide), v59 p hp]
    · simp (disch := omega) only [rdI_ne, rdI_sm]
      rw [if_neg (by omega)]; exact v60 k hk
    · simp (disch := omega) only [rdI_ne, rdI_sm]
      rw [if_neg (by omega)]; exact v61 k hk
    · simp (disch := omega) only [rdI_ne, rdI_sm]
      rw [if_neg (by omega)]; exact v62 k hk
    · rw [e _ _ (by decide) (by decide) (by decide) (by decide), v20 p hp]
    · rw [e _ _ (by decide) (by decide) (by decide) (by decide), v28 p hp]
  · intro p j h1 h2 h3 h4
    rw [rdI_ne _ _ _ _ h4, rdI_ne _ _ _ _ h3, rdI_ne _ _ _ _ h2, rdI_ne _ _ _ _ h1]
theorem rch_bit {W : Cn} (a b t : Nat) : (rch W a b).testBit t = true ↔ t < 8 ∧ ¬ hrt W a b < hd W t := by
  have key : ∀ n, (fo (fun t s => if hrt W a b < hd W t then s else s ||| 2 ^ t) 0 n).testBit t = true ↔ t < n ∧ ¬ hrt W a b < hd W t := by
    intro n
    induction n with
    | zero => simp [fo]
    | succ n ih =>
      rw [fo]
      by_cases h : hrt W a b < hd W n
      · rw [if_pos h, ih]
        constructor
        · rintro ⟨h1, h2⟩; exact ⟨by omega, h2⟩
        · rintro ⟨h1, h2⟩
          refine ⟨?_, h2⟩
          by_cases e : t = n
          · rw [e] at h2; exact absurd h h2
          · omega
      · rw [if_neg h, fb_bit_set, Bool.or_eq_true, ih, decide_eq_true_eq]
        constructor
        · rintro (⟨h1, h2⟩ | rfl)
          · exact ⟨by omega, h2⟩
          · exact ⟨by omega, h⟩
        · rintro ⟨h1, h2⟩
          by_cases e : t = n
          · exact Or.inr e
          · exact Or.inl ⟨by omega, h2⟩
  exact key 8
theorem opn_bit (W : Cn) (st p t : Nat) : (opn W st p).testBit t = true ↔ ∃ k, k < oa W ∧ (bd W k = p ∧ st.testBit k = false ∧ ¬ hrt W (sw W k) p < hd W (th W k)) ∧ th W k = t := by
  unfold opn
  rw [fo_or_bit (fun k => if bd W k = p ∧ st.testBit k = false ∧ ¬ hrt W (sw W k) p < hd W (th W k) then 2 ^ th W k else 0)]
  simp only [ite_bit]
theorem brk_bit (W : Cn) (st k : Nat) : (brk W st).testBit k = true ↔ k < oa W ∧ bd W k < fk W ∧ st.testBit k = false ∧ (kby W st (bd W k)).testBit (th W k) = false := by
  have k1 : ∀ p s, (brk1 W st p s).testBit k = true ↔ s.testBit k = true ∨ (k < oa W ∧ bd W k = p ∧ st.testBit k = false ∧ (kby W st p).testBit (th W k) = false) := by
    intro p s
    have key : ∀ n, (fo (fun k s => s ||| if bd W k = p ∧ st.testBit k = false ∧ (kby W st p).testBit (th W k) = false then 2 ^ k else 0) s n).testBit k = true ↔ s.testBit k = true ∨ (k < n ∧ bd W k = p ∧ st.testBit k = false ∧ (kby W st p).testBit (th W k) = false) := by
      intro n
      induction n with
      | zero => simp [fo]
      | succ n ih =>
        rw [fo, Nat.testBit_or, Bool.or_eq_true, ih, ite_bit]
        constructor
        · rintro ((h | ⟨h1, h2⟩) | ⟨h1, rfl⟩)
          · exact Or.inl h
          · exact Or.inr ⟨by omega, h2⟩
          · exact Or.inr ⟨by omega, h1⟩
        · rintro (h | ⟨h1, h2⟩)
          · exact Or.inl (Or.inl h)
          · by_cases e : k = n
            · subst e; exact Or.inr ⟨h2, rfl⟩
            · exact Or.inl (Or.inr ⟨by omega, h2⟩)
    exact key (oa W)
  have key : ∀ n, (fo (fun p s => brk1 W st p s) 0 n).testBit k = true ↔ k < oa W ∧ bd W k < n ∧ st.testBit k = false ∧ (kby W st (bd W k)).testBit (th W k) = false := by
    intro n
    induction n with
    | zero => simp [fo]
    | succ n ih =>
      rw [fo, k1, ih]
      constructor
      · rintro (⟨h1, h2, h3⟩ | ⟨h1, h2, h3⟩)
        · exact ⟨h1, by omega, h3⟩
        · exact ⟨h1, by omega, by rw [h2]; exact h3⟩
      · rintro ⟨h1, h2, h3⟩
        by_cases e : bd W k = n
        · right; rw [e] at h3; exact ⟨h1, e, h3⟩
        · left; exact ⟨h1, by omega, h3⟩
  exact key (fk W)
theorem bst_ok {W : Cn} (hc : symC (cl W)) (s r : Nat) : okS (cl W) s r (bst W s r) := (kp_best hc 8 (by decide) s r).2.1
theorem addO_opn {W : Cn} (a b t p : Nat) : opn (addO W a b t) 0 p = opn W 0 p ||| (if p = b ∧ ¬ hrt W a b < hd W t then 2 ^ t else 0) := by
  apply Nat.eq_of_testBit_eq
  intro i
  rw [Bool.eq_iff_iff, Nat.testBit_or, Bool.or_eq_true, opn_bit, opn_bit, ite_bit]
  constructor
  · rintro ⟨k, h1, ⟨h2, h3, h4⟩, h5⟩
    rw [addO_oa] at h1
    rw [addO_bd] at h2
    rw [addO_hrt, addO_sw, addO_th] at h4
    rw [addO_th] at h5
    by_cases e : k = oa W
    · rw [if_pos e] at h2 h5
      rw [if_pos e, if_pos e] at h4
      right
      rw [show hd (addO W a b t) t = hd W t by show (addO W a b t) 5 t = _; rw [addO_hd]] at h4
      exact ⟨⟨h2.symm, by rw [h2]; exact h4⟩, h5⟩
    · rw [if_neg e] at h2 h5
      rw [if_neg e, if_neg e] at h4
      left
      rw [show hd (addO W a b t) (th W k) = hd W (th W k) by show (addO W a b t) 5 _ = _; rw [addO_hd]] at h4
      exact ⟨k, by omega, ⟨h2, h3, h4⟩, h5⟩
  · rintro (⟨k, h1, ⟨h2, h3, h4⟩, h5⟩ | ⟨⟨h1, h2⟩, h3⟩)
    · refine ⟨k, by rw [addO_oa]; omega, ⟨?_, h3, ?_⟩, ?_⟩
      · rw [addO_bd, if_neg (by omega)]; exact h2
      · rw [addO_hrt, addO_sw, addO_th, if_neg (by omega), if_neg (by omega)]
        rw [show hd (addO W a b t) (th W k) = hd W (th W k) by show (addO W a b t) 5 _ = _; rw [addO_hd]]
        exact h4
      · rw [addO_th, if_neg (by omega)]; exact h5
    · refine ⟨oa W, by rw [addO_oa]; omega, ⟨?_, by simp, ?_⟩, ?_⟩
      · rw [addO_bd, if_pos rfl]; exact h1.symm
      · rw [addO_hrt, addO_sw, addO_th, if_pos rfl, if_pos rfl]
        rw [show hd (addO W a b t) t = hd W t by show (addO W a b t) 5 t = _; rw [addO_hd]]
        rw [h1]; exact h2
      · rw [addO_th, if_pos rfl]; exact h3
/-- what one keeps when another one swears one thing more -/
def thn (W : Cn) (a b t : Nat) : Nat := bst W (opn W 0 b ||| (rch W a b &&& 2 ^ t)) (rm W b)
theorem and_pow (x t : Nat) : x &&& 2 ^ t = if x.testBit t then 2 ^ t else 0 := by
  apply Nat.eq_of_testBit_eq
  intro i
  rw [Nat.testBit_and, pow_bit]
  by_cases e : i = t
  · subst e; cases h : x.testBit i <;> simp [pow_bit]
  · cases h : x.testBit t <;> simp [e, pow_bit]
theorem addO_kby {W : Cn} {a b t : Nat} (ht : t < 8) (p : Nat) : kby (addO W a b t) 0 p = if p = b then thn W a b t else kby W 0 p := by
  unfold kby thn
  rw [addO_bst, addO_opn, show rm (addO W a b t) p = rm W p by show (addO W a b t) 2 p = _; rw [addO_rm]]
  by_cases e : p = b
  · subst e
    rw [if_pos rfl, and_pow]
    congr 2
    by_cases h : hrt W a p < hd W t
    · rw [if_neg (fun q => q.2 h), if_neg]
      intro h2
      exact ((rch_bit a p t).mp h2).2 h
    · rw [if_pos ⟨rfl, h⟩, if_pos ((rch_bit a p t).mpr ⟨ht, h⟩)]
  · rw [if_neg (fun q => e q.1), if_neg e, Nat.or_zero]
theorem ndf_0 {a b : Nat} : ndf a b = 0 ↔ ∀ i, a.testBit i = true → b.testBit i = true := by
  constructor
  · intro h i hi
    have : (ndf a b).testBit i = false := by rw [h]; simp
    rw [ndf_bit, hi] at this
    simpa using this
  · intro h
    apply Nat.eq_of_testBit_eq
    intro i
    rw [ndf_bit, Nat.zero_testBit]
    cases k : a.testBit i with
    | false => rfl
    | true => rw [h i k]; rfl
theorem kby_sworn {W : Cn} (hc : symC (cl W)) {p t : Nat} (h : (kby W 0 p).testBit t = true) : ∃ k, k < oa W ∧ bd W k = p ∧ th W k = t := by
  have h1 := (bst_ok hc (opn W 0 p) (rm W p)).1 t h
  obtain ⟨k, h2, ⟨h3, _⟩, h5⟩ := (opn_bit W 0 p t).mp h1
  exact ⟨k, h2, h3, h5⟩
theorem more_iff {W : Cn} (hc : symC (cl W)) {a b t : Nat} (hb : b < fk W) (ht : t < 8) : ndf (brk (addO W a b t) 0) (brk W 0) = 0 ↔ (thn W a b t).testBit t = true ∧ ndf (kby W 0 b) (thn W a b t) = 0 := by
  rw [ndf_0, ndf_0]
  have hk := fun p => @addO_kby W a b t ht p
  constructor
  · intro h
    have h1 : (thn W a b t).testBit t = true := by
      cases k : (thn W a b t).testBit t with
      | true => rfl
      | false =>
        have h2 := h (oa W) ((brk_bit _ 0 _).mpr ⟨by rw [addO_oa]; omega, by rw [addO_bd, if_pos rfl]; exact hb, by simp, by rw [addO_bd, if_pos rfl, addO_th, if_pos rfl, hk, if_pos rfl]; exact k⟩)
        have := ((brk_bit _ 0 _).mp h2).1
        omega
    refine ⟨h1, fun i hi => ?_⟩
    cases k : (thn W a b t).testBit i with
    | true => rfl
    | false =>
      obtain ⟨j, h2, h3, h4⟩ := kby_sworn hc hi
      have h5 := h j ((brk_bit _ 0 _).mpr ⟨by rw [addO_oa]; omega, by rw [addO_bd, if_neg (by omega), h3]; exact hb, by simp, by rw [addO_bd, if_neg (by omega), addO_th, if_neg (by omega), hk, h3, if_pos rfl, h4]; exact k⟩)
      have h6 := ((brk_bit _ 0 _).mp h5).2.2.2
      rw [h3, h4, hi] at h6
      cases h6
  · rintro ⟨h1, h2⟩ i hi
    obtain ⟨h3, h4, _, h5⟩ := (brk_bit _ 0 _).mp hi
    rw [addO_oa] at h3
    by_cases e : i = oa W
    · rw [addO_bd, if_pos e, addO_th, if_pos e, hk, if_pos rfl, h1] at h5
      cases h5
    · rw [addO_bd, if_neg e] at h4 h5
      rw [addO_th, if_neg e, hk] at h5
      refine (brk_bit _ 0 _).mpr ⟨by omega, h4, by simp, ?_⟩
      by_cases e2 : bd W i = b
      · rw [if_pos e2] at h5
        cases k : (kby W 0 (bd W i)).testBit (th W i) with
        | false => rfl
        | true =>
          rw [e2] at k
          rw [h2 _ k] at h5
          cases h5
      · rw [if_neg e2] at h5; exact h5
/-- is the i-th possible oath one that could be sworn, too -/
def mP (W : Cn) (i : Nat) : Bool := decide (i / 48 < fk W ∧ i / 8 % 6 < fk W ∧ i / 48 ≠ i / 8 % 6) && !has3 W (i / 48) (i / 8 % 6) (i % 8) && decide (ndf (brk (addO W (i / 48) (i / 8 % 6) (i % 8)) 0) (brk W 0) = 0)
def mV (i : Nat) : Nat := 100 * (i / 48) + 10 * (i / 8 % 6) + i % 8
theorem ct_same {P : Nat → Bool} {m n : Nat} (h : m ≤ n) (hz : ∀ i, m ≤ i → i < n → P i = false) : fb_ct P n = fb_ct P m := by
  obtain ⟨d, rfl⟩ : ∃ d, n = m + d := ⟨n - m, by omega⟩
  rw [fb_ct_split, (fb_ct_zero (p := fun k => P (m + k)) (n := d)).mpr (fun k hk => hz (m + k) (by omega) (by omega))]
  rfl
theorem fst1_same {P : Nat → Bool} {m n : Nat} (h : m ≤ n) (hz : ∀ i, m ≤ i → i < n → P i = false) : fst1 P n = fst1 P m := by
  cases k : fst1 P m with
  | none =>
    have h1 := fst1_none.mp k
    exact fst1_none.mpr (fun i hi => by
      by_cases e : i < m
      · exact h1 i e
      · exact hz i (by omega) hi)
  | some j =>
    obtain ⟨h1, h2, h3⟩ := fst1_some.mp k
    exact fst1_some.mpr ⟨by omega, h2, h3⟩
theorem addO_brk_b {W : Cn} (wf : WF W) {a b t : Nat} (ha : a < 6) (hb : b < 6) (ht : t < 8) (ho : oa W < 16) : brk (addO W a b t) 0 < 65536 := brk_b (addO_WF wf ha hb ht ho) 0
theorem M_moreStep {W : Cn} {c : Nat} {mm : Mm} (h : VM W 0 c mm) (wf : WF W) (hc : symC (cl W)) (wo : oa W ≤ 12) {i : Nat} (hi : i < 288) (n : Int32) (fi : Bool) : ∃ m, VM W 0 c m ∧ m_X12_moreOaths_b10 (b2 fi) (nI (brk W 0)) (n, nI i, mm) = some (if mP W i then (if fi then .inr (.inr (nI (mV i), m)) else .inl (n + 1, nI (i + 1), m)) else .inl (n, nI (i + 1), m)) := by
  have ha6 : i / 48 < 6 := by omega
  have hb6 : i / 8 % 6 < 6 := by omega
  have ht8 : i % 8 < 8 := by omega
  have bb := brk_b wf 0
  have bb2 := addO_brk_b wf ha6 hb6 ht8 (show oa W < 16 by omega)
  have nd := ndf_le (brk (addO W (i / 48) (i / 8 % 6) (i % 8)) 0) (brk W 0)
  have hf := wf.1
  unfold m_X12_moreOaths_b10
  simp (disch := omega) only [zz_0, zz_1, zz_2, zz_3, zz_4, zz_5, zz_6, zz_7, zz_8, zz_9, zz_10, zz_11, zz_12, zz_13, zz_14, zz_15, zz_16, zz_20, zz_24, zz_25, zz_26, zz_28, zz_31, zz_32, zz_36, zz_39, zz_40, zz_48, zz_49, zz_50, zz_57, zz_59, zz_60, zz_64, zz_72, zz_97, zz_99, zz_100, zz_122, zz_144, zz_161, zz_255, zz_256, zz_288, zz_322, zz_384, zz_400, zz_448, zz_600, zz_1280, zz_1000000, n_le, n_div, n_rem, nI_add, n_mul]
  rw [if_neg (by omega)]
  by_cases h2 : i / 48 < fk W ∧ i / 8 % 6 < fk W ∧ i / 48 ≠ i / 8 % 6
  · rw [M_areTwo h wf h2.1 h2.2.1 h2.2.2, M_isThere h wf ha6 hb6 ht8]
    simp only [Option.bind_some]
    rw [if_neg (show ¬ b2 true = nI 0 by decide)]
    cases h3 : has3 W (i / 48) (i / 8 % 6) (i % 8) with
    | true =>
      have e : mP W i = false := by unfold mP; rw [h3]; simp
      rw [e]
      refine ⟨mm, h, ?_⟩
      simp only [b2_0, Bool.true_eq_false, if_false, bS_inl]
      rfl
    | false =>
      obtain ⟨m, e1, V1, V2, _⟩ := VM_addO h wf (a := i / 48) (b := i / 8 % 6) (t := i % 8) (by omega)
      have e2 := M_brokenOnes V1 (addO_WF wf ha6 hb6 ht8 (by omega)) (by show symC ((addO W _ _ _) 6); rw [addO_cl]; exact hc) (by decide)
      have e3 : mI m 44 25 = nI (oa W + 1) := V1.2.2.1
      have e4 : mP W i = decide (ndf (brk (addO W (i / 48) (i / 8 % 6) (i % 8)) 0) (brk W 0) = 0) := by unfold mP; rw [h3, decide_eq_true h2]; simp
      refine ⟨_, V2, ?_⟩
      rw [e4]
      simp (disch := omega) only [b2_0, if_true, e1, e2, e3, Option.bind_some, n_m1, n_andn, n_eq, n_sub, show oa W + 1 - 1 = oa W from rfl]
      by_cases h5 : ndf (brk (addO W (i / 48) (i / 8 % 6) (i % 8)) 0) (brk W 0) = 0
      · simp only [h5, decide_true, if_true, n10, if_false]
        cases fi
        · simp only [if_true, bS_inl, Bool.false_eq_true, if_false]
        · simp only [Bool.true_eq_false, if_false, bS_inr, if_true]
          rfl
      · simp only [h5, decide_false, if_false, if_true, bS_inl, Bool.false_eq_true]
        rw [show n + nI 0 = n from Int32.add_zero n]
  · have e : mP W i = false := by unfold mP; rw [decide_eq_false h2]; rfl
    have e5 : m_X12_areTwo (nI (i / 48)) (nI (i / 8 % 6)) mm = some (b2 false) := by
      rcases two_cases wf (nI (i / 48)) (nI (i / 8 % 6)) with ⟨p, q, h7, h8, h9, h10, h11⟩ | ⟨_, h7⟩
      · exfalso
        apply h2
        have k1 : i / 48 = p := (nI_eq (by omega) (by omega)).mp h7
        have k2 : i / 8 % 6 = q := (nI_eq (by omega) (by omega)).mp h8
        rw [k1, k2]
        exact ⟨h9, h10, h11⟩
      · exact h7 0 c mm h
    rw [e5, e]
    refine ⟨mm, h, ?_⟩
    simp only [Option.bind_some]
    rw [if_pos (show b2 false = nI 0 by decide)]
    rfl
theorem M_moreOaths {W : Cn} {c : Nat} {mm : Mm} (h : VM W 0 c mm) (wf : WF W) (hc : symC (cl W)) (wo : oa W ≤ 12) (fi : Bool) : ∃ m, m_X12_moreOaths (b2 fi) mm = some (if fi then (match fst1 (mP W) 288 with | none => -1 | some i => nI (mV i)) else nI (fb_ct (mP W) 288), m) := by
  have h0 := M_brokenOnes h wf hc (by decide)
  unfold m_X12_moreOaths
  simp only [h0, Option.bind_some, zz_0, zz_1, zz_2, zz_3, zz_4, zz_5, zz_6, zz_7, zz_8, zz_9, zz_10, zz_11, zz_12, zz_13, zz_14, zz_15, zz_16, zz_20, zz_24, zz_25, zz_26, zz_28, zz_31, zz_32, zz_36, zz_39, zz_40, zz_48, zz_49, zz_50, zz_57, zz_59, zz_60, zz_64, zz_72, zz_97, zz_99, zz_100, zz_122, zz_144, zz_161, zz_255, zz_256, zz_288, zz_322, zz_384, zz_400, zz_448, zz_600, zz_1280, zz_1000000]
  obtain ⟨q, e, hq⟩ := loop_inv (body := m_X12_moreOaths_b10 (b2 fi) (nI (brk W 0))) (a := (nI 0, nI 0, mm)) (fun i z => ∃ m, z = (nI (if fi then 0 else fb_ct (mP W) i), nI i, m) ∧ VM W 0 c m ∧ (fi = true → ∀ j, j < i → mP W j = false)) (fun q => (∃ m, q = .inl (nI (if fi then 0 else fb_ct (mP W) 288), m) ∧ (fi = true → ∀ j, j < 288 → mP W j = false)) ∨ ∃ m i, q = .inr (nI (mV i), m) ∧ fi = true ∧ fst1 (mP W) 288 = some i) 288 (FU_big (by decide)) ⟨mm, by cases fi <;> rfl, h, fun _ j hj => absurd hj (Nat.not_lt_zero j)⟩ (by
    rintro i z hi ⟨m, rfl, V, hn⟩
    obtain ⟨m', V', e⟩ := M_moreStep V wf hc wo hi (nI (if fi then 0 else fb_ct (mP W) i)) fi
    rw [e]
    cases h1 : mP W i with
    | false =>
      left
      refine ⟨_, rfl, m', ?_, V', fun hf j hj => ?_⟩
      · simp only [fb_ct_succ, h1, Bool.false_eq_true, if_false, Nat.add_zero]
      · by_cases e : j = i
        · rw [e]; exact h1
        · exact hn hf j (by omega)
    | true =>
      cases fi with
      | false =>
        left
        refine ⟨_, rfl, m', ?_, V', fun hf => by cases hf⟩
        simp only [fb_ct_succ, h1, if_true, Bool.false_eq_true, if_false, ← nI_add]
        rfl
      | true =>
        right
        exact ⟨_, rfl, Or.inr ⟨m', i, rfl, rfl, fst1_some.mpr ⟨hi, h1, hn rfl⟩⟩⟩) (by
    rintro z ⟨m, rfl, V, hn⟩
    unfold m_X12_moreOaths_b10
    simp (disch := omega) only [zz_0, zz_1, zz_2, zz_3, zz_4, zz_5, zz_6, zz_7, zz_8, zz_9, zz_10, zz_11, zz_12, zz_13, zz_14, zz_15, zz_16, zz_20, zz_24, zz_25, zz_26, zz_28, zz_31, zz_32, zz_36, zz_39, zz_40, zz_48, zz_49, zz_50, zz_57, zz_59, zz_60, zz_64, zz_72, zz_97, zz_99, zz_100, zz_122, zz_144, zz_161, zz_255, zz_256, zz_288, zz_322, zz_384, zz_400, zz_448, zz_600, zz_1280, zz_1000000, nI_add, n_mul, n_sub, fa_or, fa_and, fb_xorI, n_div, n_rem, n_le, n_lt, n_eq, n_shl1, n_shr, n_andn, n_ix, n_grd, n_gdz, n_gbz, n_hasM, n_hasC, b2_0, b2_1, n_m1, Option.bind_some, bS_inl, bS_inr, n_max, n_min, n_grt, n_les]
    rw [if_pos (by omega)]
    exact ⟨_, rfl, Or.inl ⟨m, rfl, hn⟩⟩)
  rw [e]
  rcases hq with ⟨m, rfl, hn⟩ | ⟨m, i, rfl, rfl, hi⟩
  · simp only [bS_inl, b2_0]
    cases fi with
    | false => simp only [if_true, Bool.false_eq_true, if_false]; exact ⟨_, rfl⟩
    | true =>
      rw [fst1_none.mpr (hn rfl)]
      simp only [Bool.true_eq_false, if_false, if_true]
      exact ⟨_, rfl⟩
  · rw [hi]
    simp only [bS_inr, if_true]
    exact ⟨_, rfl⟩
