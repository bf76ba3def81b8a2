/-! L3: how the class holds a county as it stands -/
def VC (W : Cn) (mm : Mm) : Prop :=
  mI mm 14 0 = nI (fk W) ∧ mI mm 14 1 = nI (oa W) ∧ oa W ≤ 12 ∧
  (∀ p, p < 6 → mI mm 15 p = nI (wl W p)) ∧ (∀ p, p < 6 → mI mm 16 p = nI (rm W p)) ∧ (∀ p, p < 6 → mI mm 17 p = nI (lk W p)) ∧ (∀ i, i < 36 → mI mm 18 i = nI (vs W i)) ∧ (∀ t, t < 8 → mI mm 19 t = nI (hd W t)) ∧
  (∀ k, k < oa W → mI mm 20 k = nI (sw W k)) ∧ (∀ k, k < oa W → mI mm 21 k = nI (bd W k)) ∧ (∀ k, k < oa W → mI mm 22 k = nI (th W k)) ∧
  (∀ r s, r ≤ 4 → s < 256 → mI mm 23 (r * 256 + s) = nI (bst W s r))
theorem fo_rel {α β : Type} {g : Nat → α → α} {g' : Nat → β → β} {a : α} {a' : β} {n : Nat} (R : Nat → α → β → Prop) (h0 : R 0 a a') (hs : ∀ i x y, i < n → R i x y → R (i + 1) (g i x) (g' i y)) : ∀ i, i ≤ n → R i (fo g a i) (fo g' a' i)
  | 0, _ => h0
  | i + 1, h => hs i _ _ (by omega) (fo_rel R h0 hs i (by omega))
theorem or_has {x t : Nat} (h : x.testBit t = true) : x ||| 2 ^ t = x := by
  apply Nat.eq_of_testBit_eq
  intro i
  rw [fb_bit_set]
  by_cases hi : i = t
  · rw [hi, h]; rfl
  · simp [hi]
theorem ndf_or (a b c : Nat) : ndf (a ||| b) c = ndf a c ||| ndf b c := by
  apply Nat.eq_of_testBit_eq
  intro i
  rw [ndf_bit, Nat.testBit_or, Nat.testBit_or, ndf_bit, ndf_bit]
  cases a.testBit i <;> cases b.testBit i <;> cases c.testBit i <;> rfl
theorem ndf_pow (k c : Nat) : ndf (2 ^ k) c = if c.testBit k then 0 else 2 ^ k := by
  apply Nat.eq_of_testBit_eq
  intro i
  rw [ndf_bit, pow_bit]
  by_cases hi : i = k
  · rw [hi]; cases c.testBit k <;> simp [pow_bit]
  · cases c.testBit k <;> simp [pow_bit, hi]
theorem ndf_zero (c : Nat) : ndf 0 c = 0 := by unfold ndf; simp
theorem ndf_z (a : Nat) : ndf a 0 = a := by unfold ndf; simp
theorem C_heartOf {W : Cn} {mm : Mm} (h : VC W mm) (wf : WF W) {a b : Nat} (ha : a < 6) (hb : b < 6) : m_X7_heartOf (nI a) (nI b) mm = some (nI (hrt W a b)) := by
  obtain ⟨c0, c1, c12, c15, c16, c17, c18, c19, c20, c21, c22, c23⟩ := h
  obtain ⟨f1, f2, f3, f4, f5, f6, f7, f8, f9, f10, f11⟩ := wf
  have h1 := f5 b
  unfold m_X7_heartOf hrt
  simp (disch := omega) only [zz_0, zz_1, zz_2, zz_3, zz_4, zz_5, zz_6, zz_7, zz_8, zz_9, zz_10, zz_11, zz_12, zz_13, zz_14, zz_15, zz_16, zz_20, zz_24, zz_25, zz_26, zz_28, zz_31, zz_32, zz_36, zz_39, zz_40, zz_48, zz_49, zz_50, zz_57, zz_59, zz_60, zz_64, zz_72, zz_97, zz_99, zz_100, zz_122, zz_144, zz_161, zz_255, zz_256, zz_288, zz_322, zz_384, zz_400, zz_448, zz_600, zz_1280, zz_1000000, nI_add, n_mul, n_sub, fa_or, fa_and, fb_xorI, n_div, n_rem, n_le, n_lt, n_eq, n_shl1, n_shr, n_andn, n_ix, n_grd, n_gdz, n_gbz, n_hasM, n_hasC, b2_0, b2_1, n_m1, Option.bind_some, bS_inl, bS_inr, n_max, n_min, n_grt, n_les, c0, c1, c15, c16, c17, c18, c19, c20, c21, c22, n_and1, Nat.mul_comm a 6]
  cases (lk W b).testBit a <;> simp
/-- what one would open by swearing -/
def rch (W : Cn) (a b : Nat) : Nat := fo (fun t s => if hrt W a b < hd W t then s else s ||| 2 ^ t) 0 8
theorem rch_b (W : Cn) (a b : Nat) : rch W a b < 256 := by
  refine fo_inv (n := 8) (fun _ x => x < 2 ^ 8) (show 0 < 2 ^ 8 by decide) (fun i x hi hx => ?_) _ (Nat.le_refl _)
  split
  · exact hx
  · exact or_b hx (pow_le hi)
theorem C_reachOf {W : Cn} {mm : Mm} (h : VC W mm) (wf : WF W) {a b : Nat} (ha : a < 6) (hb : b < 6) : m_X7_reachOf (nI a) (nI b) mm = some (nI (rch W a b)) := by
  have h1 := C_heartOf h wf ha hb
  have h2 := hrt_le wf a b
  obtain ⟨c0, c1, c12, c15, c16, c17, c18, c19, c20, c21, c22, c23⟩ := h
  obtain ⟨f1, f2, f3, f4, f5, f6, f7, f8, f9, f10, f11⟩ := wf
  unfold m_X7_reachOf
  rw [h1]
  simp only [Option.bind_some]
  rw [o_id]
  refine loop_fo (fun (x : Nat) i => (nI x, nI i)) _ 0 8 (fun x => nI x) (fun i x => True) rfl (FU_big (by omega)) trivial (fun _ _ _ _ => trivial) ?_ ?_
  · intro i x hi hx
    have g1 := f7 i
    unfold m_X7_reachOf_b13
    simp (disch := omega) only [zz_0, zz_1, zz_2, zz_3, zz_4, zz_5, zz_6, zz_7, zz_8, zz_9, zz_10, zz_11, zz_12, zz_13, zz_14, zz_15, zz_16, zz_20, zz_24, zz_25, zz_26, zz_28, zz_31, zz_32, zz_36, zz_39, zz_40, zz_48, zz_49, zz_50, zz_57, zz_59, zz_60, zz_64, zz_72, zz_97, zz_99, zz_100, zz_122, zz_144, zz_161, zz_255, zz_256, zz_288, zz_322, zz_384, zz_400, zz_448, zz_600, zz_1280, zz_1000000, nI_add, n_mul, n_sub, fa_or, fa_and, fb_xorI, n_div, n_rem, n_le, n_lt, n_eq, n_shl1, n_shr, n_andn, n_ix, n_grd, n_gdz, n_gbz, n_hasM, n_hasC, b2_0, b2_1, n_m1, Option.bind_some, bS_inl, bS_inr, n_max, n_min, n_grt, n_les, c0, c1, c15, c16, c17, c18, c19, c20, c21, c22]
    rw [if_neg (by omega)]
    by_cases k1 : hrt W a b < hd W i <;> simp [k1]
  · intro x hx
    unfold m_X7_reachOf_b13
    simp (disch := omega) only [zz_0, zz_1, zz_2, zz_3, zz_4, zz_5, zz_6, zz_7, zz_8, zz_9, zz_10, zz_11, zz_12, zz_13, zz_14, zz_15, zz_16, zz_20, zz_24, zz_25, zz_26, zz_28, zz_31, zz_32, zz_36, zz_39, zz_40, zz_48, zz_49, zz_50, zz_57, zz_59, zz_60, zz_64, zz_72, zz_97, zz_99, zz_100, zz_122, zz_144, zz_161, zz_255, zz_256, zz_288, zz_322, zz_384, zz_400, zz_448, zz_600, zz_1280, zz_1000000, nI_add, n_mul, n_sub, fa_or, fa_and, fb_xorI, n_div, n_rem, n_le, n_lt, n_eq, n_shl1, n_shr, n_andn, n_ix, n_grd, n_gdz, n_gbz, n_hasM, n_hasC, b2_0, b2_1, n_m1, Option.bind_some, bS_inl, bS_inr, n_max, n_min, n_grt, n_les, c0, c1, c15, c16, c17, c18, c19, c20, c21, c22]
    rw [if_pos (by omega)]
theorem C_swornFor {W : Cn} {mm : Mm} (h : VC W mm) (wf : WF W) {p : Nat} (hp : p < 6) : m_X7_swornFor (nI p) mm = some (nI (swf W 0 p)) := by
  obtain ⟨c0, c1, c12, c15, c16, c17, c18, c19, c20, c21, c22, c23⟩ := h
  obtain ⟨f1, f2, f3, f4, f5, f6, f7, f8, f9, f10, f11⟩ := wf
  unfold m_X7_swornFor
  rw [o_id]
  refine loop_fo (fun (x : Nat) i => (nI x, nI i)) _ 0 (oa W) (fun x => nI x) (fun i x => True) rfl (FU_big (by omega)) trivial (fun _ _ _ _ => trivial) ?_ ?_
  · intro i x hi hx
    have g1 := f10 i
    have g2 := f11 i
    unfold m_X7_swornFor_b4
    simp (disch := omega) only [zz_0, zz_1, zz_2, zz_3, zz_4, zz_5, zz_6, zz_7, zz_8, zz_9, zz_10, zz_11, zz_12, zz_13, zz_14, zz_15, zz_16, zz_20, zz_24, zz_25, zz_26, zz_28, zz_31, zz_32, zz_36, zz_39, zz_40, zz_48, zz_49, zz_50, zz_57, zz_59, zz_60, zz_64, zz_72, zz_97, zz_99, zz_100, zz_122, zz_144, zz_161, zz_255, zz_256, zz_288, zz_322, zz_384, zz_400, zz_448, zz_600, zz_1280, zz_1000000, nI_add, n_mul, n_sub, fa_or, fa_and, fb_xorI, n_div, n_rem, n_le, n_lt, n_eq, n_shl1, n_shr, n_andn, n_ix, n_grd, n_gdz, n_gbz, n_hasM, n_hasC, b2_0, b2_1, n_m1, Option.bind_some, bS_inl, bS_inr, n_max, n_min, n_grt, n_les, c0, c1, c15, c16, c17, c18, c19, c20, c21, c22]
    rw [if_neg (by omega)]
    by_cases h1 : bd W i = p <;> simp [h1]
  · intro x hx
    unfold m_X7_swornFor_b4
    simp (disch := omega) only [zz_0, zz_1, zz_2, zz_3, zz_4, zz_5, zz_6, zz_7, zz_8, zz_9, zz_10, zz_11, zz_12, zz_13, zz_14, zz_15, zz_16, zz_20, zz_24, zz_25, zz_26, zz_28, zz_31, zz_32, zz_36, zz_39, zz_40, zz_48, zz_49, zz_50, zz_57, zz_59, zz_60, zz_64, zz_72, zz_97, zz_99, zz_100, zz_122, zz_144, zz_161, zz_255, zz_256, zz_288, zz_322, zz_384, zz_400, zz_448, zz_600, zz_1280, zz_1000000, nI_add, n_mul, n_sub, fa_or, fa_and, fb_xorI, n_div, n_rem, n_le, n_lt, n_eq, n_shl1, n_shr, n_andn, n_ix, n_grd, n_gdz, n_gbz, n_hasM, n_hasC, b2_0, b2_1, n_m1, Option.bind_some, bS_inl, bS_inr, n_max, n_min, n_grt, n_les, c0, c1, c15, c16, c17, c18, c19, c20, c21, c22]
    rw [if_pos (by omega)]
theorem C_openTo {W : Cn} {mm : Mm} (h : VC W mm) (wf : WF W) {st : Nat} (hst : st < 65536) {p : Nat} (hp : p < 6) : m_X7_openTo (nI p) (nI st) mm = some (nI (opn W st p)) := by
  have hha := fun a ha => @C_heartOf W mm h wf a p ha hp
  have hle := hrt_le wf
  obtain ⟨c0, c1, c12, c15, c16, c17, c18, c19, c20, c21, c22, c23⟩ := h
  obtain ⟨f1, f2, f3, f4, f5, f6, f7, f8, f9, f10, f11⟩ := wf
  unfold m_X7_openTo
  rw [o_id]
  refine loop_fo (fun (x : Nat) i => (nI x, nI i)) _ 0 (oa W) (fun x => nI x) (fun i x => x < 2 ^ 8) rfl (FU_big (by omega)) (by decide) (fun i x hi hx => or_b hx (ite_b (f11 i))) ?_ ?_
  · intro i x hi hx
    have g1 := f10 i
    have g2 := f11 i
    have g3 := f9 i
    have g4 := hle (sw W i) p
    have g5 := f7 (th W i)
    unfold m_X7_openTo_b5
    simp (disch := omega) only [zz_0, zz_1, zz_2, zz_3, zz_4, zz_5, zz_6, zz_7, zz_8, zz_9, zz_10, zz_11, zz_12, zz_13, zz_14, zz_15, zz_16, zz_20, zz_24, zz_25, zz_26, zz_28, zz_31, zz_32, zz_36, zz_39, zz_40, zz_48, zz_49, zz_50, zz_57, zz_59, zz_60, zz_64, zz_72, zz_97, zz_99, zz_100, zz_122, zz_144, zz_161, zz_255, zz_256, zz_288, zz_322, zz_384, zz_400, zz_448, zz_600, zz_1280, zz_1000000, nI_add, n_mul, n_sub, fa_or, fa_and, fb_xorI, n_div, n_rem, n_le, n_lt, n_eq, n_shl1, n_shr, n_andn, n_ix, n_grd, n_gdz, n_gbz, n_hasM, n_hasC, b2_0, b2_1, n_m1, Option.bind_some, bS_inl, bS_inr, n_max, n_min, n_grt, n_les, c0, c1, c15, c16, c17, c18, c19, c20, c21, c22, hha]
    rw [if_neg (by omega)]
    by_cases h1 : bd W i = p <;> cases h2 : st.testBit i <;> cases h4 : x.testBit (th W i) <;> by_cases h3 : hrt W (sw W i) p < hd W (th W i) <;> simp [h1, h3, n10, or_has, h4]
  · intro x hx
    unfold m_X7_openTo_b5
    simp (disch := omega) only [zz_0, zz_1, zz_2, zz_3, zz_4, zz_5, zz_6, zz_7, zz_8, zz_9, zz_10, zz_11, zz_12, zz_13, zz_14, zz_15, zz_16, zz_20, zz_24, zz_25, zz_26, zz_28, zz_31, zz_32, zz_36, zz_39, zz_40, zz_48, zz_49, zz_50, zz_57, zz_59, zz_60, zz_64, zz_72, zz_97, zz_99, zz_100, zz_122, zz_144, zz_161, zz_255, zz_256, zz_288, zz_322, zz_384, zz_400, zz_448, zz_600, zz_1280, zz_1000000, nI_add, n_mul, n_sub, fa_or, fa_and, fb_xorI, n_div, n_rem, n_le, n_lt, n_eq, n_shl1, n_shr, n_andn, n_ix, n_grd, n_gdz, n_gbz, n_hasM, n_hasC, b2_0, b2_1, n_m1, Option.bind_some, bS_inl, bS_inr, n_max, n_min, n_grt, n_les, c0, c1, c15, c16, c17, c18, c19, c20, c21, c22]
    rw [if_pos (by omega)]
theorem C_keptOf {W : Cn} {mm : Mm} (h : VC W mm) {s r : Nat} (hs : s < 256) (hr : r ≤ 4) : m_X7_keptOf (nI s) (nI r) mm = some (nI (bst W s r)) := by
  obtain ⟨c0, c1, c12, c15, c16, c17, c18, c19, c20, c21, c22, c23⟩ := h
  unfold m_X7_keptOf
  simp (disch := omega) only [zz_0, zz_1, zz_2, zz_3, zz_4, zz_5, zz_6, zz_7, zz_8, zz_9, zz_10, zz_11, zz_12, zz_13, zz_14, zz_15, zz_16, zz_20, zz_24, zz_25, zz_26, zz_28, zz_31, zz_32, zz_36, zz_39, zz_40, zz_48, zz_49, zz_50, zz_57, zz_59, zz_60, zz_64, zz_72, zz_97, zz_99, zz_100, zz_122, zz_144, zz_161, zz_255, zz_256, zz_288, zz_322, zz_384, zz_400, zz_448, zz_600, zz_1280, zz_1000000, nI_add, n_mul, n_sub, fa_or, fa_and, fb_xorI, n_div, n_rem, n_le, n_lt, n_eq, n_shl1, n_shr, n_andn, n_ix, n_grd, n_gdz, n_gbz, n_hasM, n_hasC, b2_0, b2_1, n_m1, Option.bind_some, bS_inl, bS_inr, n_max, n_min, n_grt, n_les, c23]
  rw [if_neg (by omega), if_neg (by omega), if_neg (by omega), if_pos (by omega), if_neg (by omega)]
theorem C_keptBy {W : Cn} {mm : Mm} (h : VC W mm) (wf : WF W) {p : Nat} (hp : p < 6) : m_X7_keptBy (nI p) mm = some (nI (kby W 0 p)) := by
  have h1 := C_openTo h wf (st := 0) (by decide) hp
  have h2 := @C_keptOf W mm h
  have h3 := opn_b wf 0 p
  have h4 := wf.2.2.2.1 p
  obtain ⟨c0, c1, c12, c15, c16, c17, c18, c19, c20, c21, c22, c23⟩ := h
  unfold m_X7_keptBy
  simp (disch := omega) only [zz_0, zz_1, zz_2, zz_3, zz_4, zz_5, zz_6, zz_7, zz_8, zz_9, zz_10, zz_11, zz_12, zz_13, zz_14, zz_15, zz_16, zz_20, zz_24, zz_25, zz_26, zz_28, zz_31, zz_32, zz_36, zz_39, zz_40, zz_48, zz_49, zz_50, zz_57, zz_59, zz_60, zz_64, zz_72, zz_97, zz_99, zz_100, zz_122, zz_144, zz_161, zz_255, zz_256, zz_288, zz_322, zz_384, zz_400, zz_448, zz_600, zz_1280, zz_1000000, nI_add, n_mul, n_sub, fa_or, fa_and, fb_xorI, n_div, n_rem, n_le, n_lt, n_eq, n_shl1, n_shr, n_andn, n_ix, n_grd, n_gdz, n_gbz, n_hasM, n_hasC, b2_0, b2_1, n_m1, Option.bind_some, bS_inl, bS_inr, n_max, n_min, n_grt, n_les, c0, c1, c15, c16, c17, c18, c19, c20, c21, c22, h1, h2]
  rfl
theorem C_brokenOaths {W : Cn} {mm : Mm} (h : VC W mm) (wf : WF W) (hc : symC (cl W)) {st : Nat} (hst : st < 65536) : m_X7_brokenOaths (nI st) mm = some (nI (brk W st)) := by
  have h1 := fun p hp => @C_openTo W mm h wf st hst p hp
  have h5 := @C_keptOf W mm h
  have h2 := fun p => @kby_b W hc st p
  have h3 := fun p => opn_b wf st p
  obtain ⟨c0, c1, c12, c15, c16, c17, c18, c19, c20, c21, c22, c23⟩ := h
  obtain ⟨f1, f2, f3, f4, f5, f6, f7, f8, f9, f10, f11⟩ := wf
  unfold m_X7_brokenOaths
  have hw : whileF FU (m_X7_brokenOaths_b4 (nI st) mm) (0, 0) = some (nI (fo (fun p x => fo (fun k s => if bd W k = p ∧ (kby W st p).testBit (th W k) = false then s ||| 2 ^ k else s) x (oa W)) 0 (fk W))) := by
    refine loop_fo (fun (x : Nat) i => (nI x, nI i)) _ 0 (fk W) (fun x => nI x) (fun i x => True) rfl (FU_big (by omega)) trivial (fun _ _ _ _ => trivial) ?_ ?_
    · intro i x hi hx
      have g3 := h3 i
      have g4 := f4 i
      unfold m_X7_brokenOaths_b4
      simp (disch := omega) only [zz_0, zz_1, zz_2, zz_3, zz_4, zz_5, zz_6, zz_7, zz_8, zz_9, zz_10, zz_11, zz_12, zz_13, zz_14, zz_15, zz_16, zz_20, zz_24, zz_25, zz_26, zz_28, zz_31, zz_32, zz_36, zz_39, zz_40, zz_48, zz_49, zz_50, zz_57, zz_59, zz_60, zz_64, zz_72, zz_97, zz_99, zz_100, zz_122, zz_144, zz_161, zz_255, zz_256, zz_288, zz_322, zz_384, zz_400, zz_448, zz_600, zz_1280, zz_1000000, nI_add, n_mul, n_sub, fa_or, fa_and, fb_xorI, n_div, n_rem, n_le, n_lt, n_eq, n_shl1, n_shr, n_andn, n_ix, n_grd, n_gdz, n_gbz, n_hasM, n_hasC, b2_0, b2_1, n_m1, Option.bind_some, bS_inl, bS_inr, n_max, n_min, n_grt, n_les, c0, c1, c15, c16, c17, c18, c19, c20, c21, c22, h1, h5]
      rw [if_neg (by omega)]
      have hw : whileF FU (m_X7_brokenOaths_b33 mm (nI x, nI i) (nI (bst W (opn W st i) (rm W i)))) (nI x, nI 0) = some (nI (fo (fun k s => if bd W k = i ∧ (kby W st i).testBit (th W k) = false then s ||| 2 ^ k else s) x (oa W))) := by
        refine loop_fo (fun (y : Nat) j => (nI y, nI j)) _ x (oa W) (fun x => nI x) (fun i x => True) rfl (FU_big (by omega)) trivial (fun _ _ _ _ => trivial) ?_ ?_
        · intro j y hj hy
          have g1 := f10 j
          have g2 := f11 j
          have g3 : bst W (opn W st i) (rm W i) < 256 := h2 i
          unfold m_X7_brokenOaths_b33
          simp (disch := omega) only [zz_0, zz_1, zz_2, zz_3, zz_4, zz_5, zz_6, zz_7, zz_8, zz_9, zz_10, zz_11, zz_12, zz_13, zz_14, zz_15, zz_16, zz_20, zz_24, zz_25, zz_26, zz_28, zz_31, zz_32, zz_36, zz_39, zz_40, zz_48, zz_49, zz_50, zz_57, zz_59, zz_60, zz_64, zz_72, zz_97, zz_99, zz_100, zz_122, zz_144, zz_161, zz_255, zz_256, zz_288, zz_322, zz_384, zz_400, zz_448, zz_600, zz_1280, zz_1000000, nI_add, n_mul, n_sub, fa_or, fa_and, fb_xorI, n_div, n_rem, n_le, n_lt, n_eq, n_shl1, n_shr, n_andn, n_ix, n_grd, n_gdz, n_gbz, n_hasM, n_hasC, b2_0, b2_1, n_m1, Option.bind_some, bS_inl, bS_inr, n_max, n_min, n_grt, n_les, c0, c1, c15, c16, c17, c18, c19, c20, c21, c22]
          rw [if_neg (by omega)]
          have g6 : kby W st i = bst W (opn W st i) (rm W i) := rfl
          rw [g6]
          by_cases k1 : bd W j = i <;> cases k3 : (bst W (opn W st i) (rm W i)).testBit (th W j) <;> simp [k1]
        · intro y hy
          unfold m_X7_brokenOaths_b33
          simp (disch := omega) only [zz_0, zz_1, zz_2, zz_3, zz_4, zz_5, zz_6, zz_7, zz_8, zz_9, zz_10, zz_11, zz_12, zz_13, zz_14, zz_15, zz_16, zz_20, zz_24, zz_25, zz_26, zz_28, zz_31, zz_32, zz_36, zz_39, zz_40, zz_48, zz_49, zz_50, zz_57, zz_59, zz_60, zz_64, zz_72, zz_97, zz_99, zz_100, zz_122, zz_144, zz_161, zz_255, zz_256, zz_288, zz_322, zz_384, zz_400, zz_448, zz_600, zz_1280, zz_1000000, nI_add, n_mul, n_sub, fa_or, fa_and, fb_xorI, n_div, n_rem, n_le, n_lt, n_eq, n_shl1, n_shr, n_andn, n_ix, n_grd, n_gdz, n_gbz, n_hasM, n_hasC, b2_0, b2_1, n_m1, Option.bind_some, bS_inl, bS_inr, n_max, n_min, n_grt, n_les, c0, c1, c15, c16, c17, c18, c19, c20, c21, c22]
          rw [if_pos (by omega)]
      rw [hw]
      rfl
    · intro x hx
      unfold m_X7_brokenOaths_b4
      simp (disch := omega) only [zz_0, zz_1, zz_2, zz_3, zz_4, zz_5, zz_6, zz_7, zz_8, zz_9, zz_10, zz_11, zz_12, zz_13, zz_14, zz_15, zz_16, zz_20, zz_24, zz_25, zz_26, zz_28, zz_31, zz_32, zz_36, zz_39, zz_40, zz_48, zz_49, zz_50, zz_57, zz_59, zz_60, zz_64, zz_72, zz_97, zz_99, zz_100, zz_122, zz_144, zz_161, zz_255, zz_256, zz_288, zz_322, zz_384, zz_400, zz_448, zz_600, zz_1280, zz_1000000, nI_add, n_mul, n_sub, fa_or, fa_and, fb_xorI, n_div, n_rem, n_le, n_lt, n_eq, n_shl1, n_shr, n_andn, n_ix, n_grd, n_gdz, n_gbz, n_hasM, n_hasC, b2_0, b2_1, n_m1, Option.bind_some, bS_inl, bS_inr, n_max, n_min, n_grt, n_les, c0, c1, c15, c16, c17, c18, c19, c20, c21, c22]
      rw [if_pos (by omega)]
  rw [hw]
  simp (disch := omega) only [zz_0, zz_1, zz_2, zz_3, zz_4, zz_5, zz_6, zz_7, zz_8, zz_9, zz_10, zz_11, zz_12, zz_13, zz_14, zz_15, zz_16, zz_20, zz_24, zz_25, zz_26, zz_28, zz_31, zz_32, zz_36, zz_39, zz_40, zz_48, zz_49, zz_50, zz_57, zz_59, zz_60, zz_64, zz_72, zz_97, zz_99, zz_100, zz_122, zz_144, zz_161, zz_255, zz_256, zz_288, zz_322, zz_384, zz_400, zz_448, zz_600, zz_1280, zz_1000000, nI_add, n_mul, n_sub, fa_or, fa_and, fb_xorI, n_div, n_rem, n_le, n_lt, n_eq, n_shl1, n_shr, n_andn, n_ix, n_grd, n_gdz, n_gbz, n_hasM, n_hasC, b2_0, b2_1, n_m1, Option.bind_some, bS_inl, bS_inr, n_max, n_min, n_grt, n_les]
  congr 2
  unfold brk
  refine fo_rel (n := fk W) (fun _ x y => ndf x st = y) (ndf_zero st) (fun p x y hp hxy => ?_) (fk W) (Nat.le_refl _)
  unfold brk1
  refine fo_rel (n := oa W) (fun _ x y => ndf x st = y) hxy (fun k x y hk hxy => ?_) (oa W) (Nat.le_refl _)
  by_cases k1 : bd W k = p <;> cases k3 : (kby W st p).testBit (th W k) <;> cases k4 : st.testBit k <;> simp [k1, hxy, ndf_or, ndf_pow, k4]
/-- who swore some of these oaths -/
def swz (W : Cn) (some : Nat) : Nat := fo (fun k s => s ||| if some.testBit k then 2 ^ sw W k else 0) 0 (oa W)
theorem swz_b {W : Cn} (wf : WF W) (s : Nat) : swz W s < 64 := by
  refine fo_inv (n := oa W) (fun _ x => x < 2 ^ 6) (by decide) (fun i x hi hx => or_b hx ?_) _ (Nat.le_refl _)
  obtain ⟨f1, f2, f3, f4, f5, f6, f7, f8, f9, f10, f11⟩ := wf
  exact ite_b (f9 i)
theorem C_swearersOf {W : Cn} {mm : Mm} (h : VC W mm) (wf : WF W) {s : Nat} (hs : s < 65536) : m_X7_swearersOf (nI s) mm = some (nI (swz W s)) := by
  obtain ⟨c0, c1, c12, c15, c16, c17, c18, c19, c20, c21, c22, c23⟩ := h
  obtain ⟨f1, f2, f3, f4, f5, f6, f7, f8, f9, f10, f11⟩ := wf
  unfold m_X7_swearersOf
  rw [o_id]
  refine loop_fo (fun (x : Nat) i => (nI x, nI i)) _ 0 (oa W) (fun x => nI x) (fun i x => True) rfl (FU_big (by omega)) trivial (fun _ _ _ _ => trivial) ?_ ?_
  · intro i x hi hx
    have g1 := f9 i
    unfold m_X7_swearersOf_b4
    simp (disch := omega) only [zz_0, zz_1, zz_2, zz_3, zz_4, zz_5, zz_6, zz_7, zz_8, zz_9, zz_10, zz_11, zz_12, zz_13, zz_14, zz_15, zz_16, zz_20, zz_24, zz_25, zz_26, zz_28, zz_31, zz_32, zz_36, zz_39, zz_40, zz_48, zz_49, zz_50, zz_57, zz_59, zz_60, zz_64, zz_72, zz_97, zz_99, zz_100, zz_122, zz_144, zz_161, zz_255, zz_256, zz_288, zz_322, zz_384, zz_400, zz_448, zz_600, zz_1280, zz_1000000, nI_add, n_mul, n_sub, fa_or, fa_and, fb_xorI, n_div, n_rem, n_le, n_lt, n_eq, n_shl1, n_shr, n_andn, n_ix, n_grd, n_gdz, n_gbz, n_hasM, n_hasC, b2_0, b2_1, n_m1, Option.bind_some, bS_inl, bS_inr, n_max, n_min, n_grt, n_les, c0, c1, c15, c16, c17, c18, c19, c20, c21, c22]
    rw [if_neg (by omega)]
    cases h1 : s.testBit i <;> simp
  · intro x hx
    unfold m_X7_swearersOf_b4
    simp (disch := omega) only [zz_0, zz_1, zz_2, zz_3, zz_4, zz_5, zz_6, zz_7, zz_8, zz_9, zz_10, zz_11, zz_12, zz_13, zz_14, zz_15, zz_16, zz_20, zz_24, zz_25, zz_26, zz_28, zz_31, zz_32, zz_36, zz_39, zz_40, zz_48, zz_49, zz_50, zz_57, zz_59, zz_60, zz_64, zz_72, zz_97, zz_99, zz_100, zz_122, zz_144, zz_161, zz_255, zz_256, zz_288, zz_322, zz_384, zz_400, zz_448, zz_600, zz_1280, zz_1000000, nI_add, n_mul, n_sub, fa_or, fa_and, fb_xorI, n_div, n_rem, n_le, n_lt, n_eq, n_shl1, n_shr, n_andn, n_ix, n_grd, n_gdz, n_gbz, n_hasM, n_hasC, b2_0, b2_1, n_m1, Option.bind_some, bS_inl, bS_inr, n_max, n_min, n_grt, n_les, c0, c1, c15, c16, c17, c18, c19, c20, c21, c22]
    rw [if_pos (by omega)]
theorem C_hasOath {W : Cn} {mm : Mm} (h : VC W mm) (wf : WF W) {a b t : Nat} (ha : a < 6) (hb : b < 6) (ht : t < 8) : m_X7_hasOath (nI a) (nI b) (nI t) mm = some (b2 (has3 W a b t)) := by
  obtain ⟨c0, c1, c12, c15, c16, c17, c18, c19, c20, c21, c22, c23⟩ := h
  obtain ⟨f1, f2, f3, f4, f5, f6, f7, f8, f9, f10, f11⟩ := wf
  unfold m_X7_hasOath
  have hw := loop_fst (body := m_X7_hasOath_b3 (nI a) (nI b) (nI t) mm) (s0 := (0 : Int32)) (fun i => nI i) (fun k => decide (sw W k = a ∧ bd W k = b ∧ th W k = t)) (oa W) (fun _ => .inr 1) (.inl ()) rfl (FU_big (by omega)) (by
    intro i hi hp
    have g1 := f9 i
    have g2 := f10 i
    have g3 := f11 i
    unfold m_X7_hasOath_b3
    simp (disch := omega) only [zz_0, zz_1, zz_2, zz_3, zz_4, zz_5, zz_6, zz_7, zz_8, zz_9, zz_10, zz_11, zz_12, zz_13, zz_14, zz_15, zz_16, zz_20, zz_24, zz_25, zz_26, zz_28, zz_31, zz_32, zz_36, zz_39, zz_40, zz_48, zz_49, zz_50, zz_57, zz_59, zz_60, zz_64, zz_72, zz_97, zz_99, zz_100, zz_122, zz_144, zz_161, zz_255, zz_256, zz_288, zz_322, zz_384, zz_400, zz_448, zz_600, zz_1280, zz_1000000, nI_add, n_mul, n_sub, fa_or, fa_and, fb_xorI, n_div, n_rem, n_le, n_lt, n_eq, n_shl1, n_shr, n_andn, n_ix, n_grd, n_gdz, n_gbz, n_hasM, n_hasC, b2_0, b2_1, n_m1, Option.bind_some, bS_inl, bS_inr, n_max, n_min, n_grt, n_les, c0, c1, c15, c16, c17, c18, c19, c20, c21, c22]
    rw [if_neg (by omega)]
    simp only [decide_eq_false_iff_not, not_and] at hp
    by_cases k1 : sw W i = a <;> by_cases k2 : bd W i = b <;> by_cases k3 : th W i = t <;> simp [k1, k2, k3, bS_inl]
    all_goals exact absurd k3 (hp k1 k2)) (by
    intro i hi hp
    have g1 := f9 i
    have g2 := f10 i
    have g3 := f11 i
    unfold m_X7_hasOath_b3
    simp (disch := omega) only [zz_0, zz_1, zz_2, zz_3, zz_4, zz_5, zz_6, zz_7, zz_8, zz_9, zz_10, zz_11, zz_12, zz_13, zz_14, zz_15, zz_16, zz_20, zz_24, zz_25, zz_26, zz_28, zz_31, zz_32, zz_36, zz_39, zz_40, zz_48, zz_49, zz_50, zz_57, zz_59, zz_60, zz_64, zz_72, zz_97, zz_99, zz_100, zz_122, zz_144, zz_161, zz_255, zz_256, zz_288, zz_322, zz_384, zz_400, zz_448, zz_600, zz_1280, zz_1000000, nI_add, n_mul, n_sub, fa_or, fa_and, fb_xorI, n_div, n_rem, n_le, n_lt, n_eq, n_shl1, n_shr, n_andn, n_ix, n_grd, n_gdz, n_gbz, n_hasM, n_hasC, b2_0, b2_1, n_m1, Option.bind_some, bS_inl, bS_inr, n_max, n_min, n_grt, n_les, c0, c1, c15, c16, c17, c18, c19, c20, c21, c22]
    rw [if_neg (by omega)]
    simp only [decide_eq_true_eq] at hp
    simp [hp.1, hp.2.1, hp.2.2, bS_inr]) (by
    unfold m_X7_hasOath_b3
    simp (disch := omega) only [zz_0, zz_1, zz_2, zz_3, zz_4, zz_5, zz_6, zz_7, zz_8, zz_9, zz_10, zz_11, zz_12, zz_13, zz_14, zz_15, zz_16, zz_20, zz_24, zz_25, zz_26, zz_28, zz_31, zz_32, zz_36, zz_39, zz_40, zz_48, zz_49, zz_50, zz_57, zz_59, zz_60, zz_64, zz_72, zz_97, zz_99, zz_100, zz_122, zz_144, zz_161, zz_255, zz_256, zz_288, zz_322, zz_384, zz_400, zz_448, zz_600, zz_1280, zz_1000000, nI_add, n_mul, n_sub, fa_or, fa_and, fb_xorI, n_div, n_rem, n_le, n_lt, n_eq, n_shl1, n_shr, n_andn, n_ix, n_grd, n_gdz, n_gbz, n_hasM, n_hasC, b2_0, b2_1, n_m1, Option.bind_some, bS_inl, bS_inr, n_max, n_min, n_grt, n_les, c0, c1, c15, c16, c17, c18, c19, c20, c21, c22]
    rw [if_pos (by omega)])
  rw [hw]
  unfold has3
  cases fst1 (fun k => decide (sw W k = a ∧ bd W k = b ∧ th W k = t)) (oa W) <;> rfl
