/-! L3: the hardest, spoilers, the weakest, peace, more oaths -/
theorem ob_s {α β : Type} (a : α) (f : α → Option β) : (some a).bind f = f a := by
  have h : ∀ o : Option α, o = some a → o.bind f = f a := fun o ho => by rw [ho]; rfl
  exact h _ (Eq.refl _)
theorem bs_l {α β : Type} (a : α) (f : α → Option β) : bS (some (.inl a)) f = f a := by
  have h : ∀ o : Option (α ⊕ β), o = some (.inl a) → bS o f = f a := fun o ho => by rw [ho]; rfl
  exact h _ (Eq.refl _)
theorem bs_r {α β : Type} (b : β) (f : α → Option β) : bS (some (.inr b)) f = some b := by
  have h : ∀ o : Option (α ⊕ β), o = some (.inr b) → bS o f = some b := fun o ho => by rw [ho]; rfl
  exact h _ (Eq.refl _)
def hds (W : Cn) : Nat := fo (fun i b => if hd W (i + 1) ≤ hd W b then b else i + 1) 0 7
theorem C_hardest {W : Cn} {mm : Mm} (h : VC W mm) (wf : WF W) : m_X1_hardest mm = some (nI (hds W)) := by
  obtain ⟨c0, c1, c12, c15, c16, c17, c18, c19, c20, c21, c22, c23⟩ := h
  obtain ⟨f1, f2, f3, f4, f5, f6, f7, f8, f9, f10, f11⟩ := wf
  unfold m_X1_hardest
  rw [o_id]
  refine loop_fo (fun (x : Nat) i => (nI x, nI (i + 1))) _ 0 7 (fun x => nI x) (fun i x => x < 8) rfl (FU_big (by decide)) (by decide) ?_ ?_ ?_
  · intro i x hi hx
    split <;> omega
  · intro i x hi hx
    have g1 := f7 x
    have g2 := f7 (i + 1)
    unfold m_X1_hardest_b4
    simp (disch := omega) only [zz_0, zz_1, zz_2, zz_3, zz_4, zz_5, zz_6, zz_7, zz_8, zz_9, zz_10, zz_11, zz_12, zz_13, zz_14, zz_15, zz_16, zz_20, zz_24, zz_25, zz_26, zz_28, zz_31, zz_32, zz_36, zz_39, zz_40, zz_48, zz_49, zz_50, zz_57, zz_59, zz_60, zz_64, zz_72, zz_97, zz_99, zz_100, zz_122, zz_144, zz_161, zz_255, zz_256, zz_288, zz_322, zz_384, zz_400, zz_448, zz_600, zz_1280, zz_1000000, nI_add, n_mul, n_sub, fa_or, fa_and, fb_xorI, n_div, n_rem, n_le, n_lt, n_eq, n_shl1, n_shr, n_andn, n_ix, n_grd, n_gdz, n_gbz, n_hasM, n_hasC, b2_0, b2_1, n_m1, Option.bind_some, bS_inl, bS_inr, n_max, n_min, n_grt, n_les, c19]
    rw [if_neg (by omega), i_nI]
  · intro x hx
    unfold m_X1_hardest_b4
    simp (disch := omega) only [zz_0, zz_1, zz_2, zz_3, zz_4, zz_5, zz_6, zz_7, zz_8, zz_9, zz_10, zz_11, zz_12, zz_13, zz_14, zz_15, zz_16, zz_20, zz_24, zz_25, zz_26, zz_28, zz_31, zz_32, zz_36, zz_39, zz_40, zz_48, zz_49, zz_50, zz_57, zz_59, zz_60, zz_64, zz_72, zz_97, zz_99, zz_100, zz_122, zz_144, zz_161, zz_255, zz_256, zz_288, zz_322, zz_384, zz_400, zz_448, zz_600, zz_1280, zz_1000000, nI_add, n_mul, n_sub, fa_or, fa_and, fb_xorI, n_div, n_rem, n_le, n_lt, n_eq, n_shl1, n_shr, n_andn, n_ix, n_grd, n_gdz, n_gbz, n_hasM, n_hasC, b2_0, b2_1, n_m1, Option.bind_some, bS_inl, bS_inr, n_max, n_min, n_grt, n_les]
    rw [if_pos (by omega)]
theorem M_hardest {W : Cn} {st c : Nat} {mm : Mm} (h : VM W st c mm) (wf : WF W) : m_X12_hardest mm = some (nI (hds W)) := by
  have hof := @M_of W st c mm h
  obtain ⟨⟨hc, v23⟩, v24, v25, v26, v56, v57, v58, v59, v60, v61, v62, v20, v28⟩ := h
  obtain ⟨f1, f2, f3, f4, f5, f6, f7, f8, f9, f10, f11⟩ := wf
  unfold m_X12_hardest
  rw [o_id]
  refine loop_fo (fun (x : Nat) i => (nI x, nI (i + 1))) _ 0 7 (fun x => nI x) (fun i x => x < 8) rfl (FU_big (by decide)) (by decide) ?_ ?_ ?_
  · intro i x hi hx
    split <;> omega
  · intro i x hi hx
    have g1 := f7 x
    have g2 := f7 (i + 1)
    unfold m_X12_hardest_b4
    simp (disch := omega) only [zz_0, zz_1, zz_2, zz_3, zz_4, zz_5, zz_6, zz_7, zz_8, zz_9, zz_10, zz_11, zz_12, zz_13, zz_14, zz_15, zz_16, zz_20, zz_24, zz_25, zz_26, zz_28, zz_31, zz_32, zz_36, zz_39, zz_40, zz_48, zz_49, zz_50, zz_57, zz_59, zz_60, zz_64, zz_72, zz_97, zz_99, zz_100, zz_122, zz_144, zz_161, zz_255, zz_256, zz_288, zz_322, zz_384, zz_400, zz_448, zz_600, zz_1280, zz_1000000, nI_add, n_mul, n_sub, fa_or, fa_and, fb_xorI, n_div, n_rem, n_le, n_lt, n_eq, n_shl1, n_shr, n_andn, n_ix, n_grd, n_gdz, n_gbz, n_hasM, n_hasC, b2_0, b2_1, n_m1, Option.bind_some, bS_inl, bS_inr, n_max, n_min, n_grt, n_les, hof, v20]
    rw [if_neg (by omega), i_nI]
  · intro x hx
    unfold m_X12_hardest_b4
    simp (disch := omega) only [zz_0, zz_1, zz_2, zz_3, zz_4, zz_5, zz_6, zz_7, zz_8, zz_9, zz_10, zz_11, zz_12, zz_13, zz_14, zz_15, zz_16, zz_20, zz_24, zz_25, zz_26, zz_28, zz_31, zz_32, zz_36, zz_39, zz_40, zz_48, zz_49, zz_50, zz_57, zz_59, zz_60, zz_64, zz_72, zz_97, zz_99, zz_100, zz_122, zz_144, zz_161, zz_255, zz_256, zz_288, zz_322, zz_384, zz_400, zz_448, zz_600, zz_1280, zz_1000000, nI_add, n_mul, n_sub, fa_or, fa_and, fb_xorI, n_div, n_rem, n_le, n_lt, n_eq, n_shl1, n_shr, n_andn, n_ix, n_grd, n_gdz, n_gbz, n_hasM, n_hasC, b2_0, b2_1, n_m1, Option.bind_some, bS_inl, bS_inr, n_max, n_min, n_grt, n_les]
    rw [if_pos (by omega)]
theorem brk_b12 {W : Cn} (wo : oa W ≤ 12) (st : Nat) : brk W st < 4096 := by
  refine fo_inv (n := fk W) (fun _ x => x < 2 ^ 12) (show 0 < 2 ^ 12 by decide) (fun i x hi hx => ?_) _ (Nat.le_refl _)
  refine fo_inv (n := oa W) (fun _ x => x < 2 ^ 12) hx (fun j x hj hx => or_b hx ?_) _ (Nat.le_refl _)
  exact ite_b (by omega)
theorem ndf_le (a b : Nat) : ndf a b ≤ a := by
  apply Nat.le_of_testBit
  intro i hi
  rw [ndf_bit] at hi
  simp only [Bool.and_eq_true] at hi
  exact hi.1
def spo (W : Cn) : Nat := fo (fun k s => s ||| if pc (ndf (brk W 0) (2 ^ k)) ≤ pc (brk W (2 ^ k)) then 0 else 2 ^ k) 0 (oa W)
theorem C_spoilers {W : Cn} {mm : Mm} (h : VC W mm) (wf : WF W) (hc : symC (cl W)) : m_X1_spoilers mm = some (nI (spo W)) := by
  have h1 := fun st hst => @C_brokenOaths W mm h wf hc st hst
  have h0 := h1 0 (by decide)
  have wo := h.2.2.1
  have hb := brk_b12 (W := W) wo
  obtain ⟨c0, c1, c12, c15, c16, c17, c18, c19, c20, c21, c22, c23⟩ := h
  unfold m_X1_spoilers
  simp only [zz_0, zz_1, zz_2, zz_3, zz_4, zz_5, zz_6, zz_7, zz_8, zz_9, zz_10, zz_11, zz_12, zz_13, zz_14, zz_15, zz_16, zz_20, zz_24, zz_25, zz_26, zz_28, zz_31, zz_32, zz_36, zz_39, zz_40, zz_48, zz_49, zz_50, zz_57, zz_59, zz_60, zz_64, zz_72, zz_97, zz_99, zz_100, zz_122, zz_144, zz_161, zz_255, zz_256, zz_288, zz_322, zz_384, zz_400, zz_448, zz_600, zz_1280, zz_1000000, h0, Option.bind_some, o_id]
  refine loop_fo (fun (x : Nat) i => (nI x, nI i)) _ 0 (oa W) (fun x => nI x) (fun i x => True) rfl (FU_big (by omega)) trivial (fun _ _ _ _ => trivial) ?_ ?_
  · intro i x hi hx
    have g1 := hb 0
    have g2 := hb (2 ^ i)
    have g3 := ndf_le (brk W 0) (2 ^ i)
    have g4 : 2 ^ i < 2 ^ 12 := pow_le (by omega)
    have g5 := pc_le (brk W (2 ^ i))
    have g6 := pc_le (ndf (brk W 0) (2 ^ i))
    unfold m_X1_spoilers_b10
    simp (disch := omega) only [zz_0, zz_1, zz_2, zz_3, zz_4, zz_5, zz_6, zz_7, zz_8, zz_9, zz_10, zz_11, zz_12, zz_13, zz_14, zz_15, zz_16, zz_20, zz_24, zz_25, zz_26, zz_28, zz_31, zz_32, zz_36, zz_39, zz_40, zz_48, zz_49, zz_50, zz_57, zz_59, zz_60, zz_64, zz_72, zz_97, zz_99, zz_100, zz_122, zz_144, zz_161, zz_255, zz_256, zz_288, zz_322, zz_384, zz_400, zz_448, zz_600, zz_1280, zz_1000000, nI_add, n_mul, n_sub, fa_or, fa_and, fb_xorI, n_div, n_rem, n_le, n_lt, n_eq, n_shl1, n_shr, n_andn, n_ix, n_grd, n_gdz, n_gbz, n_hasM, n_hasC, b2_0, b2_1, n_m1, Option.bind_some, bS_inl, bS_inr, n_max, n_min, n_grt, n_les, c1, h1, bitc_eq]
    rw [if_neg (by omega)]
    by_cases k1 : pc (ndf (brk W 0) (2 ^ i)) ≤ pc (brk W (2 ^ i)) <;> simp [k1]
  · intro x hx
    unfold m_X1_spoilers_b10
    simp (disch := omega) only [zz_0, zz_1, zz_2, zz_3, zz_4, zz_5, zz_6, zz_7, zz_8, zz_9, zz_10, zz_11, zz_12, zz_13, zz_14, zz_15, zz_16, zz_20, zz_24, zz_25, zz_26, zz_28, zz_31, zz_32, zz_36, zz_39, zz_40, zz_48, zz_49, zz_50, zz_57, zz_59, zz_60, zz_64, zz_72, zz_97, zz_99, zz_100, zz_122, zz_144, zz_161, zz_255, zz_256, zz_288, zz_322, zz_384, zz_400, zz_448, zz_600, zz_1280, zz_1000000, nI_add, n_mul, n_sub, fa_or, fa_and, fb_xorI, n_div, n_rem, n_le, n_lt, n_eq, n_shl1, n_shr, n_andn, n_ix, n_grd, n_gdz, n_gbz, n_hasM, n_hasC, b2_0, b2_1, n_m1, Option.bind_some, bS_inl, bS_inr, n_max, n_min, n_grt, n_les, c1]
    rw [if_pos (by omega)]
theorem VM_st {W : Cn} {st c : Nat} {mm : Mm} (h : VM W st c mm) (st' : Nat) : VM W st' c (sI mm 44 26 (nI st')) := by
  obtain ⟨⟨hc, v23⟩, v24, v25, v26, v56, v57, v58, v59, v60, v61, v62, v20, v28⟩ := h
  have e : ∀ b j, (b = 44 → j ≠ 26) → mI (sI mm 44 26 (nI st')) b j = mI mm b j := fun b j hb => by
    rw [rdI, if_neg]
    rintro ⟨rfl, rfl⟩
    exact hb rfl rfl
  refine ⟨⟨hc, ?_⟩, ?_, ?_, rdI_eq _ _ _ _, v56, v57, v58, v59, v60, v61, v62, v20, v28⟩
  · rw [e _ _ (by decide)]; exact v23
  · rw [e _ _ (by decide)]; exact v24
  · rw [e _ _ (by decide)]; exact v25
theorem M_spoilers {W : Cn} {st c : Nat} {mm : Mm} (h : VM W st c mm) (wf : WF W) (hc : symC (cl W)) (wo : oa W ≤ 12) : ∃ m, m_X12_spoilers mm = some (nI (spo W), m) := by
  have hb := brk_b12 (W := W) wo
  have h0 := M_brokenOnes (VM_st h 0) wf hc (by decide)
  unfold m_X12_spoilers
  simp only [zz_0, zz_1, zz_2, zz_3, zz_4, zz_5, zz_6, zz_7, zz_8, zz_9, zz_10, zz_11, zz_12, zz_13, zz_14, zz_15, zz_16, zz_20, zz_24, zz_25, zz_26, zz_28, zz_31, zz_32, zz_36, zz_39, zz_40, zz_48, zz_49, zz_50, zz_57, zz_59, zz_60, zz_64, zz_72, zz_97, zz_99, zz_100, zz_122, zz_144, zz_161, zz_255, zz_256, zz_288, zz_322, zz_384, zz_400, zz_448, zz_600, zz_1280, zz_1000000, h0, ob_s]
  obtain ⟨q, e, hq⟩ := loop_n (body := m_X12_spoilers_b14 (nI (brk W 0))) (a := (nI 0, nI 0, sI mm 44 26 (nI 0))) (fun i z => ∃ m st, z = (nI (fo (fun k s => s ||| if pc (ndf (brk W 0) (2 ^ k)) ≤ pc (brk W (2 ^ k)) then 0 else 2 ^ k) 0 i), nI i, m) ∧ VM W st c m) (fun q => q.1 = nI (spo W)) (oa W) (FU_big (by omega)) ⟨_, _, rfl, VM_st h 0⟩ (by
    rintro i z hi ⟨m, st, rfl, V⟩
    have g1 := hb 0
    have g2 := hb (2 ^ i)
    have g3 := ndf_le (brk W 0) (2 ^ i)
    have g4 : 2 ^ i < 2 ^ 12 := pow_le (by omega)
    have g5 := pc_le (brk W (2 ^ i))
    have g6 := pc_le (ndf (brk W 0) (2 ^ i))
    have h1 := M_brokenOnes (VM_st V (2 ^ i)) wf hc (by omega)
    have v25 := V.2.2.1
    unfold m_X12_spoilers_b14
    simp (disch := omega) only [zz_0, zz_1, zz_2, zz_3, zz_4, zz_5, zz_6, zz_7, zz_8, zz_9, zz_10, zz_11, zz_12, zz_13, zz_14, zz_15, zz_16, zz_20, zz_24, zz_25, zz_26, zz_28, zz_31, zz_32, zz_36, zz_39, zz_40, zz_48, zz_49, zz_50, zz_57, zz_59, zz_60, zz_64, zz_72, zz_97, zz_99, zz_100, zz_122, zz_144, zz_161, zz_255, zz_256, zz_288, zz_322, zz_384, zz_400, zz_448, zz_600, zz_1280, zz_1000000, nI_add, n_mul, n_sub, fa_or, fa_and, fb_xorI, n_div, n_rem, n_le, n_lt, n_eq, n_shl1, n_shr, n_andn, n_ix, n_grd, n_gdz, n_gbz, n_hasM, n_hasC, b2_0, b2_1, n_m1, ob_s, bs_l, bs_r, n_max, n_min, n_grt, n_les, v25, h1, ones_eq]
    rw [if_neg (by omega)]
    refine ⟨_, rfl, _, 2 ^ i, ?_, VM_st V (2 ^ i)⟩
    rw [fo]
    by_cases k1 : pc (ndf (brk W 0) (2 ^ i)) ≤ pc (brk W (2 ^ i)) <;> simp [k1, fa_or]) (by
    rintro z ⟨m, st, rfl, V⟩
    have v25 := V.2.2.1
    unfold m_X12_spoilers_b14
    simp (disch := omega) only [zz_0, zz_1, zz_2, zz_3, zz_4, zz_5, zz_6, zz_7, zz_8, zz_9, zz_10, zz_11, zz_12, zz_13, zz_14, zz_15, zz_16, zz_20, zz_24, zz_25, zz_26, zz_28, zz_31, zz_32, zz_36, zz_39, zz_40, zz_48, zz_49, zz_50, zz_57, zz_59, zz_60, zz_64, zz_72, zz_97, zz_99, zz_100, zz_122, zz_144, zz_161, zz_255, zz_256, zz_288, zz_322, zz_384, zz_400, zz_448, zz_600, zz_1280, zz_1000000, nI_add, n_mul, n_sub, fa_or, fa_and, fb_xorI, n_div, n_rem, n_le, n_lt, n_eq, n_shl1, n_shr, n_andn, n_ix, n_grd, n_gdz, n_gbz, n_hasM, n_hasC, b2_0, b2_1, n_m1, ob_s, bs_l, bs_r, n_max, n_min, n_grt, n_les, v25]
    rw [if_pos (by omega)]
    exact ⟨_, rfl, rfl⟩)
  rw [e]
  obtain ⟨q1, q2⟩ := q
  simp only at hq
  subst hq
  exact ⟨_, rfl⟩
/-- the one who keeps the least part -/
def wek (W : Cn) : Option Nat := fo (fun p o => if pc (swf W 0 p) ≤ 0 then o else match o with | none => some p | some b => if pc (kby W 0 b) * pc (swf W 0 p) ≤ pc (kby W 0 p) * pc (swf W 0 b) then some b else some p) none (fk W)
theorem wek_inv {W : Cn} : ∀ l, wek W = some l → l < fk W ∧ 0 < pc (swf W 0 l) := by
  refine fo_inv (n := fk W) (fun i (x : Option Nat) => ∀ l, x = some l → l < i ∧ 0 < pc (swf W 0 l)) (fun l hl => by cases hl) ?_ (fk W) (Nat.le_refl _)
  intro i x hi hx l hl
  by_cases h1 : pc (swf W 0 i) ≤ 0
  · rw [if_pos h1] at hl
    have := hx l hl
    omega
  · rw [if_neg h1] at hl
    cases x with
    | none => cases hl; omega
    | some b =>
      have := hx b rfl
      simp only at hl
      split at hl <;> (cases hl; omega)
theorem mul_b {a b : Nat} (ha : a ≤ 12) (hb : b ≤ 12) : a * b < 2147483648 := by
  have := Nat.mul_le_mul ha hb
  omega
theorem C_weak {W : Cn} {mm : Mm} (h : VC W mm) (wf : WF W) (hc : symC (cl W)) : m_X1_weak mm = some (enc1 (wek W)) := by
  have h1 := fun p hp => @C_keptBy W mm h wf p hp
  have h2 := fun p hp => @C_swornFor W mm h wf p hp
  have h3 := fun p => @kby_b W hc 0 p
  have h4 := swf_b wf 0
  have hf := wf.1
  obtain ⟨c0, c1, c12, c15, c16, c17, c18, c19, c20, c21, c22, c23⟩ := h
  unfold m_X1_weak
  rw [o_id]
  refine loop_fo (fun (x : Option Nat) i => (enc1 x, nI (match x with | none => 0 | some b => pc (kby W 0 b)), nI (match x with | none => 1 | some b => pc (swf W 0 b)), nI i)) _ none (fk W) (fun x => enc1 x) (fun i x => ∀ l, x = some l → l < i) rfl (FU_big (by omega)) (fun l hl => by cases hl) ?_ ?_ ?_
  · intro i x hi hx l hl
    by_cases k1 : pc (swf W 0 i) ≤ 0
    · rw [if_pos k1] at hl
      have := hx l hl
      omega
    · rw [if_neg k1] at hl
      cases x with
      | none => cases hl; omega
      | some b =>
        have := hx b rfl
        simp only at hl
        split at hl <;> (cases hl; omega)
  · intro i x hi hx
    have g1 := h3 i
    have g2 := h4 i
    have g3 := pc_le (kby W 0 i)
    have g4 := pc_le (swf W 0 i)
    unfold m_X1_weak_b9
    simp (disch := omega) only [zz_0, zz_1, zz_2, zz_3, zz_4, zz_5, zz_6, zz_7, zz_8, zz_9, zz_10, zz_11, zz_12, zz_13, zz_14, zz_15, zz_16, zz_20, zz_24, zz_25, zz_26, zz_28, zz_31, zz_32, zz_36, zz_39, zz_40, zz_48, zz_49, zz_50, zz_57, zz_59, zz_60, zz_64, zz_72, zz_97, zz_99, zz_100, zz_122, zz_144, zz_161, zz_255, zz_256, zz_288, zz_322, zz_384, zz_400, zz_448, zz_600, zz_1280, zz_1000000, c0, h1, h2, Option.bind_some, bitc_eq, nI_add, n_le]
    rw [if_neg (by omega)]
    by_cases k1 : pc (swf W 0 i) ≤ 0
    · simp only [k1, if_true]
    · simp only [k1, if_false]
      cases x with
      | none => simp only [enc1_none, n_m1, if_true, enc1_some]
      | some b =>
        have g5 := hx b rfl
        have g6 := pc_le (kby W 0 b)
        have g7 := pc_le (swf W 0 b)
        have g8 := mul_b g6 g4
        have g9 := mul_b g3 g7
        simp only [enc1_some, n_m1]
        simp (disch := omega) only [enc1_m1, if_false, n_mul, n_le]
        by_cases k2 : pc (kby W 0 b) * pc (swf W 0 i) ≤ pc (kby W 0 i) * pc (swf W 0 b)
        · simp only [k2, if_true, enc1_some]
        · simp only [k2, if_false, enc1_some]
  · intro x hx
    unfold m_X1_weak_b9
    simp (disch := omega) only [zz_0, zz_1, zz_2, zz_3, zz_4, zz_5, zz_6, zz_7, zz_8, zz_9, zz_10, zz_11, zz_12, zz_13, zz_14, zz_15, zz_16, zz_20, zz_24, zz_25, zz_26, zz_28, zz_31, zz_32, zz_36, zz_39, zz_40, zz_48, zz_49, zz_50, zz_57, zz_59, zz_60, zz_64, zz_72, zz_97, zz_99, zz_100, zz_122, zz_144, zz_161, zz_255, zz_256, zz_288, zz_322, zz_384, zz_400, zz_448, zz_600, zz_1280, zz_1000000, nI_add, n_mul, n_sub, fa_or, fa_and, fb_xorI, n_div, n_rem, n_le, n_lt, n_eq, n_shl1, n_shr, n_andn, n_ix, n_grd, n_gdz, n_gbz, n_hasM, n_hasC, b2_0, b2_1, n_m1, Option.bind_some, bS_inl, bS_inr, n_max, n_min, n_grt, n_les, c0]
    rw [if_pos (by omega)]
theorem M_weak {W : Cn} {c : Nat} {mm : Mm} (h : VM W 0 c mm) (wf : WF W) (hc : symC (cl W)) : m_X12_weak mm = some (enc1 (wek W)) := by
  have h1 := fun p hp => @M_keptBy W 0 c mm h wf hc (by decide) p hp
  have h2 := fun p hp => @M_swornFor W 0 c mm h wf (by decide) p hp
  have h3 := fun p => @kby_b W hc 0 p
  have h4 := swf_b wf 0
  have hf := wf.1
  obtain ⟨⟨hc, v23⟩, v24, v25, v26, v56, v57, v58, v59, v60, v61, v62, v20, v28⟩ := h
  unfold m_X12_weak
  rw [o_id]
  refine loop_fo (fun (x : Option Nat) i => (enc1 x, nI i)) _ none (fk W) (fun x => enc1 x) (fun i x => ∀ l, x = some l → l < i) rfl (FU_big (by omega)) (fun l hl => by cases hl) ?_ ?_ ?_
  · intro i x hi hx l hl
    by_cases k1 : pc (swf W 0 i) ≤ 0
    · rw [if_pos k1] at hl
      have := hx l hl
      omega
    · rw [if_neg k1] at hl
      cases x with
      | none => cases hl; omega
      | some b =>
        have := hx b rfl
        simp only at hl
        split at hl <;> (cases hl; omega)
  · intro i x hi hx
    have g1 := h3 i
    have g2 := h4 i
    have g3 := pc_le (kby W 0 i)
    have g4 := pc_le (swf W 0 i)
    unfold m_X12_weak_b4
    simp (disch := omega) only [zz_0, zz_1, zz_2, zz_3, zz_4, zz_5, zz_6, zz_7, zz_8, zz_9, zz_10, zz_11, zz_12, zz_13, zz_14, zz_15, zz_16, zz_20, zz_24, zz_25, zz_26, zz_28, zz_31, zz_32, zz_36, zz_39, zz_40, zz_48, zz_49, zz_50, zz_57, zz_59, zz_60, zz_64, zz_72, zz_97, zz_99, zz_100, zz_122, zz_144, zz_161, zz_255, zz_256, zz_288, zz_322, zz_384, zz_400, zz_448, zz_600, zz_1280, zz_1000000, v24, h1, h2, ob_s, ones_eq, nI_add, n_le]
    rw [if_neg (by omega)]
    by_cases k1 : pc (swf W 0 i) ≤ 0
    · simp only [k1, if_true, ob_s]
    · simp only [k1, if_false]
      cases x with
      | none => simp only [enc1_none, n_m1, if_true, enc1_some, ob_s]
      | some b =>
        have g5 := hx b rfl
        have g6 := pc_le (kby W 0 b)
        have g7 := pc_le (swf W 0 b)
        have g8 := mul_b g6 g4
        have g9 := mul_b g3 g7
        have g10 := h3 b
        have g11 := h4 b
        simp only [enc1_some, n_m1]
        simp (disch := omega) only [enc1_m1, if_false, h1, h2, ob_s, ones_eq, n_mul, n_le]
        by_cases k2 : pc (kby W 0 b) * pc (swf W 0 i) ≤ pc (kby W 0 i) * pc (swf W 0 b)
        · simp only [k2, if_true, enc1_some, ob_s]
        · simp only [k2, if_false, enc1_some, ob_s]
  · intro x hx
    unfold m_X12_weak_b4
    simp (disch := omega) only [zz_0, zz_1, zz_2, zz_3, zz_4, zz_5, zz_6, zz_7, zz_8, zz_9, zz_10, zz_11, zz_12, zz_13, zz_14, zz_15, zz_16, zz_20, zz_24, zz_25, zz_26, zz_28, zz_31, zz_32, zz_36, zz_39, zz_40, zz_48, zz_49, zz_50, zz_57, zz_59, zz_60, zz_64, zz_72, zz_97, zz_99, zz_100, zz_122, zz_144, zz_161, zz_255, zz_256, zz_288, zz_322, zz_384, zz_400, zz_448, zz_600, zz_1280, zz_1000000, nI_add, n_mul, n_sub, fa_or, fa_and, fb_xorI, n_div, n_rem, n_le, n_lt, n_eq, n_shl1, n_shr, n_andn, n_ix, n_grd, n_gdz, n_gbz, n_hasM, n_hasC, b2_0, b2_1, n_m1, ob_s, bs_l, bs_r, n_max, n_min, n_grt, n_les, v24]
    rw [if_pos (by omega)]
theorem gcd0 : ∀ a, a < 13 → ∀ b, b < 13 → 0 < a → m_X11_commonDivisor (nI a) (nI b) = some (nI (Nat.gcd a b)) ∧ m_X12_common (nI a) (nI b) = some (nI (Nat.gcd a b)) := by decide +kernel
def wkp (W : Cn) (u : Bool) : Option Nat := match wek W with
  | none => none
  | some p => some ((if u then pc (swf W 0 p) else pc (kby W 0 p)) / Nat.gcd (pc (swf W 0 p)) (pc (kby W 0 p)))
theorem C_weakPart {W : Cn} {mm : Mm} (h : VC W mm) (wf : WF W) (hc : symC (cl W)) (u : Bool) : m_X1_weakPart (b2 u) mm = some (enc1 (wkp W u)) := by
  have h0 := C_weak h wf hc
  have hf := wf.1
  unfold m_X1_weakPart wkp
  rw [h0]
  simp only [Option.bind_some]
  cases k1 : wek W with
  | none => rw [enc1_none, if_pos m1_eq]; rfl
  | some p =>
    obtain ⟨g1, g2⟩ := wek_inv p k1
    have h1 := C_keptBy h wf (p := p) (by omega)
    have h2 := C_swornFor h wf (p := p) (by omega)
    have h3 := kby_b hc 0 p
    have h4 := swf_b wf 0 p
    have g3 := pc_le (kby W 0 p)
    have g4 := pc_le (swf W 0 p)
    have g5 := (gcd0 (pc (swf W 0 p)) (by omega) (pc (kby W 0 p)) (by omega) g2).1
    have g6 : 0 < Nat.gcd (pc (swf W 0 p)) (pc (kby W 0 p)) := Nat.gcd_pos_of_pos_left _ g2
    have g7 : Nat.gcd (pc (swf W 0 p)) (pc (kby W 0 p)) ≤ pc (swf W 0 p) := Nat.gcd_le_left _ g2
    rw [enc1_some, if_neg (show ¬ nI p = -1 from enc1_m1 (by omega))]
    simp (disch := omega) only [h1, h2, Option.bind_some, bitc_eq, g5, n_gdz, zz_0, b2_0]
    cases u
    · simp (disch := omega) only [if_true, n_div]; rfl
    · simp (disch := omega) only [Bool.true_eq_false, if_false, n_div]; rfl
theorem M_ofWeak {W : Cn} {c : Nat} {mm : Mm} (h : VM W 0 c mm) (wf : WF W) (hc : symC (cl W)) {a : Nat} (ha : a = 13 ∨ a = 14 ∨ a = 15) : m_X12_ofWeak (nI a) mm = some (enc1 (if a = 13 then wek W else wkp W (decide (a = 15)))) := by
  have h0 := M_weak h wf hc
  have hf := wf.1
  unfold m_X12_ofWeak wkp
  rw [h0]
  simp (disch := omega) only [ob_s, zz_0, zz_1, zz_2, zz_3, zz_4, zz_5, zz_6, zz_7, zz_8, zz_9, zz_10, zz_11, zz_12, zz_13, zz_14, zz_15, zz_16, zz_20, zz_24, zz_25, zz_26, zz_28, zz_31, zz_32, zz_36, zz_39, zz_40, zz_48, zz_49, zz_50, zz_57, zz_59, zz_60, zz_64, zz_72, zz_97, zz_99, zz_100, zz_122, zz_144, zz_161, zz_255, zz_256, zz_288, zz_322, zz_384, zz_400, zz_448, zz_600, zz_1280, zz_1000000, n_eq, n_m1]
  cases k1 : wek W with
  | none =>
    rw [enc1_none, if_pos rfl]
    simp only [bS_inl]
    rcases ha with rfl | rfl | rfl <;> rfl
  | some p =>
    obtain ⟨g1, g2⟩ := wek_inv p k1
    have h1 := M_keptBy h wf hc (by decide) (p := p) (by omega)
    have h2 := M_swornFor h wf (by decide) (p := p) (by omega)
    have h3 := kby_b hc 0 p
    have h4 := swf_b wf 0 p
    have g3 := pc_le (kby W 0 p)
    have g4 := pc_le (swf W 0 p)
    have g5 := (gcd0 (pc (swf W 0 p)) (by omega) (pc (kby W 0 p)) (by omega) g2).2
    have g6 : 0 < Nat.gcd (pc (swf W 0 p)) (pc (kby W 0 p)) := Nat.gcd_pos_of_pos_left _ g2
    have g7 : Nat.gcd (pc (swf W 0 p)) (pc (kby W 0 p)) ≤ pc (swf W 0 p) := Nat.gcd_le_left _ g2
    rw [enc1_some, if_neg (show ¬ nI p = m1 from enc1_m1 (by omega))]
    by_cases k2 : a = 13
    · simp only [k2, if_true, bS_inl, enc1_some]
    · simp (disch := omega) only [k2, if_false, h1, h2, ob_s, ones_eq]
      unfold m_X12_part
      simp (disch := omega) only [g5, ob_s, n_gdz, bS_inr, zz_0, zz_1, zz_2, zz_3, zz_4, zz_5, zz_6, zz_7, zz_8, zz_9, zz_10, zz_11, zz_12, zz_13, zz_14, zz_15, zz_16, zz_20, zz_24, zz_25, zz_26, zz_28, zz_31, zz_32, zz_36, zz_39, zz_40, zz_48, zz_49, zz_50, zz_57, zz_59, zz_60, zz_64, zz_72, zz_97, zz_99, zz_100, zz_122, zz_144, zz_161, zz_255, zz_256, zz_288, zz_322, zz_384, zz_400, zz_448, zz_600, zz_1280, zz_1000000]
      rcases ha with rfl | rfl | rfl
      · exact absurd rfl k2
      · simp (disch := omega) only [show ¬ (14 : Nat) = 15 by decide, if_false, n_eq, if_true, n_div]; rfl
      · simp (disch := omega) only [if_true, n_eq, if_false, n_div, show ¬ (1 : Nat) = 0 by decide]; rfl
/-- how the class holds a county as told, at place a -/
def VO (W : Cn) (a : Nat) (mm : Mm) : Prop :=
  mI mm a 8 = nI (fk W) ∧ mI mm a 9 = nI (oa W) ∧ (∀ p, p < 6 → mI mm (a + 1) p = nI (wl W p)) ∧ (∀ p, p < 6 → mI mm (a + 2) p = nI (rm W p)) ∧ (∀ p, p < 6 → mI mm (a + 3) p = nI (lk W p)) ∧ (∀ t, t < 8 → mI mm (a + 4) t = nI (hd W t)) ∧ (∀ t, t < 8 → mI mm (a + 5) t = nI (cl W t)) ∧ (∀ k, k < 12 → mI mm (a + 6) k = nI (sw W k)) ∧ (∀ k, k < 12 → mI mm (a + 7) k = nI (bd W k)) ∧ (∀ k, k < 12 → mI mm (a + 8) k = nI (th W k))
theorem pea_key (W : Cn) (s : Nat) : pea W s = true ↔ ∀ t, t < 8 → s.testBit t = true → cl W t &&& s = 0 := by
  have key : ∀ n, fo (fun t b => b && (!s.testBit t || decide (cl W t &&& s = 0))) true n = true ↔ ∀ t, t < n → s.testBit t = true → cl W t &&& s = 0 := by
    intro n
    induction n with
    | zero => simp [fo]
    | succ n ih =>
      rw [fo, Bool.and_eq_true, ih]
      constructor
      · rintro ⟨h1, h2⟩ t ht hb
        by_cases e : t = n
        · rw [e] at hb ⊢
          simpa [hb] using h2
        · exact h1 t (by omega) hb
      · intro h
        refine ⟨fun t ht hb => h t (by omega) hb, ?_⟩
        cases hb : s.testBit n with
        | false => rfl
        | true => simpa using h n (by omega) hb
  exact key 8
theorem C_isPeaceful {W : Cn} {a : Nat} {mm : Mm} (h : VO W a mm) (wf : WF W) {s : Nat} (hs : s < 256) : m_X2_isPeaceful a (nI s) mm = some (b2 (pea W s)) := by
  have v5 := h.2.2.2.2.2.2.1
  have f8 := wf.2.2.2.2.2.2.2.1
  unfold m_X2_isPeaceful
  have hw := loop_fst (body := m_X2_isPeaceful_b2 (nI s) a mm) (s0 := (0 : Int32)) (fun i => nI i) (fun t => s.testBit t && decide (¬ cl W t &&& s = 0)) 8 (fun _ => .inr 0) (.inl ()) rfl (FU_big (by decide)) (by
    intro i hi hp
    have g1 := f8 i
    have g2 : s &&& cl W i < 256 := Nat.lt_of_le_of_lt Nat.and_le_left hs
    unfold m_X2_isPeaceful_b2
    simp (disch := omega) only [zz_0, zz_1, zz_2, zz_3, zz_4, zz_5, zz_6, zz_7, zz_8, zz_9, zz_10, zz_11, zz_12, zz_13, zz_14, zz_15, zz_16, zz_20, zz_24, zz_25, zz_26, zz_28, zz_31, zz_32, zz_36, zz_39, zz_40, zz_48, zz_49, zz_50, zz_57, zz_59, zz_60, zz_64, zz_72, zz_97, zz_99, zz_100, zz_122, zz_144, zz_161, zz_255, zz_256, zz_288, zz_322, zz_384, zz_400, zz_448, zz_600, zz_1280, zz_1000000, nI_add, n_mul, n_sub, fa_or, fa_and, fb_xorI, n_div, n_rem, n_le, n_lt, n_eq, n_shl1, n_shr, n_andn, n_ix, n_grd, n_gdz, n_gbz, n_hasM, n_hasC, b2_0, b2_1, n_m1, Option.bind_some, bS_inl, bS_inr, n_max, n_min, n_grt, n_les, show a + 1 + 4 = a + 5 from rfl, v5]
    rw [if_neg (by omega)]
    rw [Nat.and_comm] at g2
    cases k1 : s.testBit i with
    | false => simp only [if_true, bS_inl]
    | true =>
      simp only [k1, Bool.true_and, decide_eq_false_iff_not, Classical.not_not] at hp
      rw [Nat.and_comm] at hp
      simp only [Bool.true_eq_false, if_false, hp, if_true, bS_inl]) (by
    intro i hi hp
    have g1 := f8 i
    have g2 : s &&& cl W i < 256 := Nat.lt_of_le_of_lt Nat.and_le_left hs
    unfold m_X2_isPeaceful_b2
    simp (disch := omega) only [zz_0, zz_1, zz_2, zz_3, zz_4, zz_5, zz_6, zz_7, zz_8, zz_9, zz_10, zz_11, zz_12, zz_13, zz_14, zz_15, zz_16, zz_20, zz_24, zz_25, zz_26, zz_28, zz_31, zz_32, zz_36, zz_39, zz_40, zz_48, zz_49, zz_50, zz_57, zz_59, zz_60, zz_64, zz_72, zz_97, zz_99, zz_100, zz_122, zz_144, zz_161, zz_255, zz_256, zz_288, zz_322, zz_384, zz_400, zz_448, zz_600, zz_1280, zz_1000000, nI_add, n_mul, n_sub, fa_or, fa_and, fb_xorI, n_div, n_rem, n_le, n_lt, n_eq, n_shl1, n_shr, n_andn, n_ix, n_grd, n_gdz, n_gbz, n_hasM, n_hasC, b2_0, b2_1, n_m1, Option.bind_some, bS_inl, bS_inr, n_max, n_min, n_grt, n_les, show a + 1 + 4 = a + 5 from rfl, v5]
    rw [if_neg (by omega)]
    simp only [Bool.and_eq_true, decide_eq_true_eq] at hp
    obtain ⟨h1, h2⟩ := hp
    rw [Nat.and_comm] at h2
    simp only [h1, Bool.true_eq_false, if_false, h2, bS_inr]) (by
    unfold m_X2_isPeaceful_b2
    simp (disch := omega) only [zz_0, zz_1, zz_2, zz_3, zz_4, zz_5, zz_6, zz_7, zz_8, zz_9, zz_10, zz_11, zz_12, zz_13, zz_14, zz_15, zz_16, zz_20, zz_24, zz_25, zz_26, zz_28, zz_31, zz_32, zz_36, zz_39, zz_40, zz_48, zz_49, zz_50, zz_57, zz_59, zz_60, zz_64, zz_72, zz_97, zz_99, zz_100, zz_122, zz_144, zz_161, zz_255, zz_256, zz_288, zz_322, zz_384, zz_400, zz_448, zz_600, zz_1280, zz_1000000, nI_add, n_mul, n_sub, fa_or, fa_and, fb_xorI, n_div, n_rem, n_le, n_lt, n_eq, n_shl1, n_shr, n_andn, n_ix, n_grd, n_gdz, n_gbz, n_hasM, n_hasC, b2_0, b2_1, n_m1, Option.bind_some, bS_inl, bS_inr, n_max, n_min, n_grt, n_les]
    rw [if_pos (by omega)])
  rw [hw]
  cases k : fst1 (fun t => s.testBit t && decide (¬ cl W t &&& s = 0)) 8 with
  | none =>
    have h1 := fst1_none.mp k
    have : pea W s = true := (pea_key W s).mpr (fun t ht hb => by
      have := h1 t ht
      simp only [hb, Bool.true_and, decide_eq_false_iff_not, Classical.not_not] at this
      exact this)
    rw [this]; rfl
  | some t =>
    obtain ⟨h1, h2, h3⟩ := fst1_some.mp k
    have : pea W s = false := by
      cases hp : pea W s with
      | false => rfl
      | true =>
        simp only [Bool.and_eq_true, decide_eq_true_eq] at h2
        exact absurd ((pea_key W s).mp hp t h1 h2.1) h2.2
    rw [this]; rfl
theorem sub255 {y : Nat} (hy : y < 256) : subS y 255 := by
  intro i hi
  have h8 : i < 8 := by
    apply Classical.byContradiction
    intro hn
    rw [Nat.testBit_lt_two_pow (Nat.lt_of_lt_of_le hy (Nat.pow_le_pow_right (n := 2) (i := 8) (by decide) (by omega)))] at hi
    cases hi
  have : Nat.testBit (2 ^ 8 - 1) i = true := by rw [Nat.testBit_two_pow_sub_one]; simpa using h8
  exact this
theorem pc_le8 {y : Nat} (hy : y < 256) : pc y ≤ 8 := by
  have h : ∀ y, y < 256 → pc y ≤ 8 := by decide +kernel
  exact h y hy
theorem C_peace {W : Cn} {a : Nat} {mm : Mm} (h : VO W a mm) (wf : WF W) (hc : symC (cl W)) : m_X2_peace a mm = some (nI (bst W 255 8)) := by
  have hpe := fun s hs => @C_isPeaceful W a mm h wf s hs
  unfold m_X2_peace
  rw [o_id]
  obtain ⟨q, hq, rfl⟩ := loop_n (body := m_X2_peace_b4 a mm) (a := ((0 : Int32), (1 : Int32))) (fun i z => ∃ b, z = (nI b, nI (i + 1)) ∧ b < i + 1 ∧ okS (cl W) 255 8 b ∧ ∀ y, y < i + 1 → okS (cl W) 255 8 y → pc y < pc b ∨ (pc y = pc b ∧ b ≤ y)) (fun q => q = nI (bst W 255 8)) 255 (FU_big (by decide))
    ⟨0, rfl, by decide, ⟨fun i hi => by simp at hi, fun i j hi => by simp at hi, by rw [pc_zero]; omega⟩, fun y hy _ => Or.inr (by rw [show y = 0 by omega]; exact ⟨rfl, Nat.le_refl _⟩)⟩ (by
    rintro i z hi ⟨b, rfl, h1, h2, h3⟩
    have p1 := pc_le (i + 1)
    have p2 := pc_le b
    have p3 := pc_le8 (y := i + 1) (by omega)
    unfold m_X2_peace_b4
    simp (disch := omega) only [zz_0, zz_1, zz_2, zz_3, zz_4, zz_5, zz_6, zz_7, zz_8, zz_9, zz_10, zz_11, zz_12, zz_13, zz_14, zz_15, zz_16, zz_20, zz_24, zz_25, zz_26, zz_28, zz_31, zz_32, zz_36, zz_39, zz_40, zz_48, zz_49, zz_50, zz_57, zz_59, zz_60, zz_64, zz_72, zz_97, zz_99, zz_100, zz_122, zz_144, zz_161, zz_255, zz_256, zz_288, zz_322, zz_384, zz_400, zz_448, zz_600, zz_1280, zz_1000000, nI_add, n_mul, n_sub, fa_or, fa_and, fb_xorI, n_div, n_rem, n_le, n_lt, n_eq, n_shl1, n_shr, n_andn, n_ix, n_grd, n_gdz, n_gbz, n_hasM, n_hasC, b2_0, b2_1, n_m1, Option.bind_some, bS_inl, bS_inr, n_max, n_min, n_grt, n_les, bitc_eq, hpe]
    rw [if_neg (by omega)]
    have lift : ∀ b', (∀ y, y < i + 1 → okS (cl W) 255 8 y → pc y < pc b' ∨ (pc y = pc b' ∧ b' ≤ y)) → (okS (cl W) 255 8 (i + 1) → pc (i + 1) < pc b' ∨ (pc (i + 1) = pc b' ∧ b' ≤ i + 1)) → ∀ y, y < i + 1 + 1 → okS (cl W) 255 8 y → pc y < pc b' ∨ (pc y = pc b' ∧ b' ≤ y) := by
      intro b' g1 g2 y hy hok
      by_cases e : y = i + 1
      · subst e; exact g2 hok
      · exact g1 y (by omega) hok
    by_cases k1 : pc (i + 1) ≤ pc b
    · simp only [k1, if_true, Option.bind_some]
      refine ⟨_, rfl, b, rfl, by omega, h2, lift b h3 (fun hok => ?_)⟩
      omega
    · simp only [k1, if_false]
      cases k2 : pea W (i + 1) with
      | false =>
        simp only [if_true, Option.bind_some]
        refine ⟨_, rfl, b, rfl, by omega, h2, lift b h3 (fun hok => ?_)⟩
        have := (pea_iff wf (s := i + 1) (by omega)).mpr hok.2.1
        rw [k2] at this; cases this
      | true =>
        simp only [Bool.true_eq_false, if_false, Option.bind_some]
        refine ⟨_, rfl, i + 1, rfl, by omega, ⟨sub255 (by omega), (pea_iff wf (s := i + 1) (by omega)).mp k2, by omega⟩, lift (i + 1) (fun y hy hok => ?_) (fun _ => Or.inr ⟨rfl, Nat.le_refl _⟩)⟩
        have := h3 y hy hok
        omega) (by
    rintro z ⟨b, rfl, h1, h2, h3⟩
    unfold m_X2_peace_b4
    simp (disch := omega) only [zz_0, zz_1, zz_2, zz_3, zz_4, zz_5, zz_6, zz_7, zz_8, zz_9, zz_10, zz_11, zz_12, zz_13, zz_14, zz_15, zz_16, zz_20, zz_24, zz_25, zz_26, zz_28, zz_31, zz_32, zz_36, zz_39, zz_40, zz_48, zz_49, zz_50, zz_57, zz_59, zz_60, zz_64, zz_72, zz_97, zz_99, zz_100, zz_122, zz_144, zz_161, zz_255, zz_256, zz_288, zz_322, zz_384, zz_400, zz_448, zz_600, zz_1280, zz_1000000, nI_add, n_mul, n_sub, fa_or, fa_and, fb_xorI, n_div, n_rem, n_le, n_lt, n_eq, n_shl1, n_shr, n_andn, n_ix, n_grd, n_gdz, n_gbz, n_hasM, n_hasC, b2_0, b2_1, n_m1, Option.bind_some, bS_inl, bS_inr, n_max, n_min, n_grt, n_les]
    rw [if_pos (by omega)]
    refine ⟨_, rfl, ?_⟩
    have hb : bestS (cl W) 8 255 8 b := ⟨by omega, h2, fun y hy hok => h3 y (by omega) hok⟩
    rw [best_one hb (kp_best hc 8 (by decide) 255 8)]
    rfl)
  exact hq
