/-! L3: a county in numbers, and how the reference holds it -/
abbrev Cn : Type := Nat → Nat → Nat
abbrev fk (W : Cn) : Nat := W 0 0
abbrev oa (W : Cn) : Nat := W 0 1
abbrev wl (W : Cn) (p : Nat) : Nat := W 1 p
abbrev rm (W : Cn) (p : Nat) : Nat := W 2 p
abbrev lk (W : Cn) (p : Nat) : Nat := W 3 p
abbrev vs (W : Cn) (p : Nat) : Nat := W 4 p
abbrev hd (W : Cn) (p : Nat) : Nat := W 5 p
abbrev cl (W : Cn) (p : Nat) : Nat := W 6 p
abbrev sw (W : Cn) (p : Nat) : Nat := W 7 p
abbrev bd (W : Cn) (p : Nat) : Nat := W 8 p
abbrev th (W : Cn) (p : Nat) : Nat := W 9 p
def WF (W : Cn) : Prop := fk W ≤ 6 ∧ oa W ≤ 16 ∧ (∀ p, wl W p ≤ 9) ∧ (∀ p, rm W p ≤ 4) ∧ (∀ p, lk W p < 64) ∧ (∀ i, vs W i ≤ 9) ∧ (∀ t, hd W t ≤ 9) ∧ (∀ t, cl W t < 256) ∧ (∀ k, sw W k < 6) ∧ (∀ k, bd W k < 6) ∧ (∀ k, th W k < 8)
def VM (W : Cn) (st c : Nat) (mm : Mm) : Prop :=
  (c < 2 ∧ mI mm 44 23 = nI c) ∧ mI mm 44 24 = nI (fk W) ∧ mI mm 44 25 = nI (oa W) ∧ mI mm 44 26 = nI st ∧
  (∀ p, p < 6 → mI mm 56 p = nI (wl W p)) ∧ (∀ p, p < 6 → mI mm 57 p = nI (rm W p)) ∧ (∀ p, p < 6 → mI mm 58 p = nI (lk W p)) ∧ (∀ i, i < 36 → mI mm 59 i = nI (vs W i)) ∧
  (∀ k, k < oa W → mI mm 60 k = nI (sw W k)) ∧ (∀ k, k < oa W → mI mm 61 k = nI (bd W k)) ∧ (∀ k, k < oa W → mI mm 62 k = nI (th W k)) ∧
  (∀ t, t < 8 → mI mm 50 (72 * c + (20 + t)) = nI (hd W t)) ∧ (∀ t, t < 8 → mI mm 50 (72 * c + (28 + t)) = nI (cl W t))
def hrt (W : Cn) (a b : Nat) : Nat := wl W b + (if (lk W b).testBit a then 2 else 0) + vs W (6 * a + b)
theorem hrt_le {W : Cn} (wf : WF W) (a b : Nat) : hrt W a b ≤ 20 := by
  obtain ⟨f1, f2, f3, f4, f5, f6, f7, f8, f9, f10, f11⟩ := wf
  have h1 := f3 b
  have h2 := f6 (6 * a + b)
  unfold hrt
  split <;> omega
theorem n10 : ¬ nI 1 = nI 0 := by decide
theorem pow_le {n k : Nat} (h : k < n) : 2 ^ k < 2 ^ n := Nat.pow_lt_pow_right (by decide) h
theorem or_b {n a b : Nat} (ha : a < 2 ^ n) (hb : b < 2 ^ n) : a ||| b < 2 ^ n := Nat.or_lt_two_pow ha hb
theorem ite_b {n k : Nat} {c : Prop} [Decidable c] (h : k < n) : (if c then 2 ^ k else 0) < 2 ^ n := by
  split
  · exact pow_le h
  · exact Nat.two_pow_pos n
theorem M_of {W : Cn} {st c : Nat} {mm : Mm} (h : VM W st c mm) {a : Nat} (ha : a < 72) : m_X12_of (nI a) mm = some (mI mm 50 (72 * c + a)) := by
  obtain ⟨⟨hc, v23⟩, v24, v25, v26, v56, v57, v58, v59, v60, v61, v62, v20, v28⟩ := h
  unfold m_X12_of
  simp (disch := omega) only [zz_0, zz_1, zz_2, zz_3, zz_4, zz_5, zz_6, zz_7, zz_8, zz_9, zz_10, zz_11, zz_12, zz_13, zz_14, zz_15, zz_16, zz_20, zz_24, zz_25, zz_26, zz_28, zz_31, zz_32, zz_36, zz_39, zz_40, zz_48, zz_49, zz_50, zz_57, zz_59, zz_60, zz_64, zz_72, zz_97, zz_99, zz_100, zz_122, zz_144, zz_161, zz_255, zz_256, zz_288, zz_322, zz_384, zz_400, zz_448, zz_600, zz_1280, zz_1000000, nI_add, n_mul, n_sub, fa_or, fa_and, fb_xorI, n_div, n_rem, n_le, n_lt, n_eq, n_shl1, n_shr, n_andn, n_ix, n_grd, n_gdz, n_gbz, n_hasM, n_hasC, b2_0, b2_1, n_m1, Option.bind_some, bS_inl, bS_inr, n_max, n_min, n_grt, n_les, v23, v24, v25, v26, v56, v57, v58, v59, v60, v61, v62, v20, v28]
theorem M_heartOf {W : Cn} {st c : Nat} {mm : Mm} (h : VM W st c mm) (wf : WF W) {a b : Nat} (ha : a < 6) (hb : b < 6) : m_X12_heartOf (nI a) (nI b) mm = some (nI (hrt W a b)) := by
  obtain ⟨⟨hc, v23⟩, v24, v25, v26, v56, v57, v58, v59, v60, v61, v62, v20, v28⟩ := h
  obtain ⟨f1, f2, f3, f4, f5, f6, f7, f8, f9, f10, f11⟩ := wf
  have h1 := f5 b
  unfold m_X12_heartOf hrt
  simp (disch := omega) only [zz_0, zz_1, zz_2, zz_3, zz_4, zz_5, zz_6, zz_7, zz_8, zz_9, zz_10, zz_11, zz_12, zz_13, zz_14, zz_15, zz_16, zz_20, zz_24, zz_25, zz_26, zz_28, zz_31, zz_32, zz_36, zz_39, zz_40, zz_48, zz_49, zz_50, zz_57, zz_59, zz_60, zz_64, zz_72, zz_97, zz_99, zz_100, zz_122, zz_144, zz_161, zz_255, zz_256, zz_288, zz_322, zz_384, zz_400, zz_448, zz_600, zz_1280, zz_1000000, nI_add, n_mul, n_sub, fa_or, fa_and, fb_xorI, n_div, n_rem, n_le, n_lt, n_eq, n_shl1, n_shr, n_andn, n_ix, n_grd, n_gdz, n_gbz, n_hasM, n_hasC, b2_0, b2_1, n_m1, Option.bind_some, bS_inl, bS_inr, n_max, n_min, n_grt, n_les, v23, v24, v25, v26, v56, v57, v58, v59, v60, v61, v62, v20, v28]
  cases (lk W b).testBit a <;> simp [i_nI, nI_add]
def swf (W : Cn) (st p : Nat) : Nat := fo (fun k s => s ||| if bd W k = p ∧ st.testBit k = false then 2 ^ th W k else 0) 0 (oa W)
theorem swf_b {W : Cn} (wf : WF W) (st p : Nat) : swf W st p < 256 := by
  refine fo_inv (n := oa W) (fun _ x => x < 2 ^ 8) (by decide) (fun i x hi hx => or_b hx ?_) _ (Nat.le_refl _)
  obtain ⟨f1, f2, f3, f4, f5, f6, f7, f8, f9, f10, f11⟩ := wf
  exact ite_b (f11 i)
theorem M_swornFor {W : Cn} {st c : Nat} {mm : Mm} (h : VM W st c mm) (wf : WF W) (hst : st < 65536) {p : Nat} (hp : p < 6) : m_X12_swornFor (nI p) mm = some (nI (swf W st p)) := by
  obtain ⟨⟨hc, v23⟩, v24, v25, v26, v56, v57, v58, v59, v60, v61, v62, v20, v28⟩ := h
  obtain ⟨f1, f2, f3, f4, f5, f6, f7, f8, f9, f10, f11⟩ := wf
  unfold m_X12_swornFor
  rw [o_id]
  refine loop_fo (fun (x : Nat) i => (nI x, nI i)) _ 0 (oa W) (fun x => nI x) (fun i x => x < 2 ^ 8) rfl (FU_big (by omega)) (by decide) (fun i x hi hx => or_b hx (ite_b (f11 i))) ?_ ?_
  · intro i x hi hx
    have g1 := f10 i
    have g2 := f11 i
    unfold m_X12_swornFor_b4
    simp (disch := omega) only [zz_0, zz_1, zz_2, zz_3, zz_4, zz_5, zz_6, zz_7, zz_8, zz_9, zz_10, zz_11, zz_12, zz_13, zz_14, zz_15, zz_16, zz_20, zz_24, zz_25, zz_26, zz_28, zz_31, zz_32, zz_36, zz_39, zz_40, zz_48, zz_49, zz_50, zz_57, zz_59, zz_60, zz_64, zz_72, zz_97, zz_99, zz_100, zz_122, zz_144, zz_161, zz_255, zz_256, zz_288, zz_322, zz_384, zz_400, zz_448, zz_600, zz_1280, zz_1000000, nI_add, n_mul, n_sub, fa_or, fa_and, fb_xorI, n_div, n_rem, n_le, n_lt, n_eq, n_shl1, n_shr, n_andn, n_ix, n_grd, n_gdz, n_gbz, n_hasM, n_hasC, b2_0, b2_1, n_m1, Option.bind_some, bS_inl, bS_inr, n_max, n_min, n_grt, n_les, v23, v24, v25, v26, v56, v57, v58, v59, v60, v61, v62, v20, v28]
    rw [if_neg (by omega)]
    by_cases h1 : bd W i = p <;> cases h2 : st.testBit i <;> simp [h1, fa_or]
  · intro x hx
    unfold m_X12_swornFor_b4
    simp (disch := omega) only [zz_0, zz_1, zz_2, zz_3, zz_4, zz_5, zz_6, zz_7, zz_8, zz_9, zz_10, zz_11, zz_12, zz_13, zz_14, zz_15, zz_16, zz_20, zz_24, zz_25, zz_26, zz_28, zz_31, zz_32, zz_36, zz_39, zz_40, zz_48, zz_49, zz_50, zz_57, zz_59, zz_60, zz_64, zz_72, zz_97, zz_99, zz_100, zz_122, zz_144, zz_161, zz_255, zz_256, zz_288, zz_322, zz_384, zz_400, zz_448, zz_600, zz_1280, zz_1000000, nI_add, n_mul, n_sub, fa_or, fa_and, fb_xorI, n_div, n_rem, n_le, n_lt, n_eq, n_shl1, n_shr, n_andn, n_ix, n_grd, n_gdz, n_gbz, n_hasM, n_hasC, b2_0, b2_1, n_m1, Option.bind_some, bS_inl, bS_inr, n_max, n_min, n_grt, n_les, v23, v24, v25, v26, v56, v57, v58, v59, v60, v61, v62, v20, v28]
    rw [if_pos (by omega)]
def opn (W : Cn) (st p : Nat) : Nat := fo (fun k s => s ||| if bd W k = p ∧ st.testBit k = false ∧ ¬ hrt W (sw W k) p < hd W (th W k) then 2 ^ th W k else 0) 0 (oa W)
theorem opn_b {W : Cn} (wf : WF W) (st p : Nat) : opn W st p < 256 := by
  refine fo_inv (n := oa W) (fun _ x => x < 2 ^ 8) (by decide) (fun i x hi hx => or_b hx ?_) _ (Nat.le_refl _)
  obtain ⟨f1, f2, f3, f4, f5, f6, f7, f8, f9, f10, f11⟩ := wf
  exact ite_b (f11 i)
theorem M_openTo {W : Cn} {st c : Nat} {mm : Mm} (h : VM W st c mm) (wf : WF W) (hst : st < 65536) {p : Nat} (hp : p < 6) : m_X12_openTo (nI p) mm = some (nI (opn W st p)) := by
  have hof := @M_of W st c mm h
  have hha := fun a ha => @M_heartOf W st c mm h wf a p ha hp
  have hle := hrt_le wf
  obtain ⟨⟨hc, v23⟩, v24, v25, v26, v56, v57, v58, v59, v60, v61, v62, v20, v28⟩ := h
  obtain ⟨f1, f2, f3, f4, f5, f6, f7, f8, f9, f10, f11⟩ := wf
  unfold m_X12_openTo
  rw [o_id]
  refine loop_fo (fun (x : Nat) i => (nI x, nI i)) _ 0 (oa W) (fun x => nI x) (fun i x => x < 2 ^ 8) rfl (FU_big (by omega)) (by decide) (fun i x hi hx => or_b hx (ite_b (f11 i))) ?_ ?_
  · intro i x hi hx
    have g1 := f10 i
    have g2 := f11 i
    have g3 := f9 i
    have g4 := hle (sw W i) p
    have g5 := f7 (th W i)
    unfold m_X12_openTo_b4
    simp (disch := omega) only [zz_0, zz_1, zz_2, zz_3, zz_4, zz_5, zz_6, zz_7, zz_8, zz_9, zz_10, zz_11, zz_12, zz_13, zz_14, zz_15, zz_16, zz_20, zz_24, zz_25, zz_26, zz_28, zz_31, zz_32, zz_36, zz_39, zz_40, zz_48, zz_49, zz_50, zz_57, zz_59, zz_60, zz_64, zz_72, zz_97, zz_99, zz_100, zz_122, zz_144, zz_161, zz_255, zz_256, zz_288, zz_322, zz_384, zz_400, zz_448, zz_600, zz_1280, zz_1000000, nI_add, n_mul, n_sub, fa_or, fa_and, fb_xorI, n_div, n_rem, n_le, n_lt, n_eq, n_shl1, n_shr, n_andn, n_ix, n_grd, n_gdz, n_gbz, n_hasM, n_hasC, b2_0, b2_1, n_m1, Option.bind_some, bS_inl, bS_inr, n_max, n_min, n_grt, n_les, v23, v24, v25, v26, v56, v57, v58, v59, v60, v61, v62, v20, v28, hof, hha]
    rw [if_neg (by omega)]
    by_cases h1 : bd W i = p <;> cases h2 : st.testBit i <;> by_cases h3 : hrt W (sw W i) p < hd W (th W i) <;> simp [h1, h3, fa_or, n10]
  · intro x hx
    unfold m_X12_openTo_b4
    simp (disch := omega) only [zz_0, zz_1, zz_2, zz_3, zz_4, zz_5, zz_6, zz_7, zz_8, zz_9, zz_10, zz_11, zz_12, zz_13, zz_14, zz_15, zz_16, zz_20, zz_24, zz_25, zz_26, zz_28, zz_31, zz_32, zz_36, zz_39, zz_40, zz_48, zz_49, zz_50, zz_57, zz_59, zz_60, zz_64, zz_72, zz_97, zz_99, zz_100, zz_122, zz_144, zz_161, zz_255, zz_256, zz_288, zz_322, zz_384, zz_400, zz_448, zz_600, zz_1280, zz_1000000, nI_add, n_mul, n_sub, fa_or, fa_and, fb_xorI, n_div, n_rem, n_le, n_lt, n_eq, n_shl1, n_shr, n_andn, n_ix, n_grd, n_gdz, n_gbz, n_hasM, n_hasC, b2_0, b2_1, n_m1, Option.bind_some, bS_inl, bS_inr, n_max, n_min, n_grt, n_les, v23, v24, v25, v26, v56, v57, v58, v59, v60, v61, v62, v20, v28]
    rw [if_pos (by omega)]
/-- no two of a set clash -/
def pea (W : Cn) (s : Nat) : Bool := fo (fun t b => b && (!s.testBit t || decide (cl W t &&& s = 0))) true 8
theorem M_isPeace {W : Cn} {st c : Nat} {mm : Mm} (h : VM W st c mm) (wf : WF W) {s : Nat} (hs : s < 65536) : m_X12_isPeace (nI s) mm = some (b2 (pea W s)) := by
  have hof := @M_of W st c mm h
  obtain ⟨⟨hc, v23⟩, v24, v25, v26, v56, v57, v58, v59, v60, v61, v62, v20, v28⟩ := h
  obtain ⟨f1, f2, f3, f4, f5, f6, f7, f8, f9, f10, f11⟩ := wf
  unfold m_X12_isPeace
  have hw : whileF FU (m_X12_isPeace_b4 (nI s) mm) (1, 0) = some (b2 (pea W s)) := by
    refine loop_fo (fun (x : Bool) i => (b2 x, nI i)) _ true 8 (fun x => b2 x) (fun i x => True) rfl (FU_big (by omega)) trivial (fun _ _ _ _ => trivial) ?_ ?_
    · intro i x hi hx
      have g1 := f8 i
      have g2 : cl W i &&& s < 256 := Nat.lt_of_le_of_lt Nat.and_le_left g1
      unfold m_X12_isPeace_b4
      simp (disch := omega) only [zz_0, zz_1, zz_2, zz_3, zz_4, zz_5, zz_6, zz_7, zz_8, zz_9, zz_10, zz_11, zz_12, zz_13, zz_14, zz_15, zz_16, zz_20, zz_24, zz_25, zz_26, zz_28, zz_31, zz_32, zz_36, zz_39, zz_40, zz_48, zz_49, zz_50, zz_57, zz_59, zz_60, zz_64, zz_72, zz_97, zz_99, zz_100, zz_122, zz_144, zz_161, zz_255, zz_256, zz_288, zz_322, zz_384, zz_400, zz_448, zz_600, zz_1280, zz_1000000, nI_add, n_mul, n_sub, fa_or, fa_and, fb_xorI, n_div, n_rem, n_le, n_lt, n_eq, n_shl1, n_shr, n_andn, n_ix, n_grd, n_gdz, n_gbz, n_hasM, n_hasC, b2_0, b2_1, n_m1, Option.bind_some, bS_inl, bS_inr, n_max, n_min, n_grt, n_les, v23, v24, v25, v26, v56, v57, v58, v59, v60, v61, v62, v20, v28, hof]
      rw [if_neg (by omega)]
      cases x <;> cases h2 : s.testBit i <;> by_cases h3 : cl W i &&& s = 0 <;> simp [h3, b2]
    · intro x hx
      unfold m_X12_isPeace_b4
      simp (disch := omega) only [zz_0, zz_1, zz_2, zz_3, zz_4, zz_5, zz_6, zz_7, zz_8, zz_9, zz_10, zz_11, zz_12, zz_13, zz_14, zz_15, zz_16, zz_20, zz_24, zz_25, zz_26, zz_28, zz_31, zz_32, zz_36, zz_39, zz_40, zz_48, zz_49, zz_50, zz_57, zz_59, zz_60, zz_64, zz_72, zz_97, zz_99, zz_100, zz_122, zz_144, zz_161, zz_255, zz_256, zz_288, zz_322, zz_384, zz_400, zz_448, zz_600, zz_1280, zz_1000000, nI_add, n_mul, n_sub, fa_or, fa_and, fb_xorI, n_div, n_rem, n_le, n_lt, n_eq, n_shl1, n_shr, n_andn, n_ix, n_grd, n_gdz, n_gbz, n_hasM, n_hasC, b2_0, b2_1, n_m1, Option.bind_some, bS_inl, bS_inr, n_max, n_min, n_grt, n_les, v23, v24, v25, v26, v56, v57, v58, v59, v60, v61, v62, v20, v28]
      rw [if_pos (by omega)]
  rw [hw]
  simp only [Option.bind_some, n_gbz]
