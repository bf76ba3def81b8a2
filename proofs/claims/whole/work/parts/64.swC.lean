/-! L3: who should swear which, by the class -/
/-- the wants as the class holds them -/
def VW (n : Nat) (w t : Nat → Nat) (a : Nat) (S : Sk) (mm : Mm) : Prop := sR S 34 1 = some a ∧ KD S a 6 ∧ (sK S (a + 1)).2 = 4 * n ∧ mI mm a 1 = nI n ∧ (∀ j, j < n → mI mm (a + 1) (j * 4 + 1) = nI (w j)) ∧ (∀ j, j < n → mI mm (a + 1) (j * 4 + 2) = nI (t j))
theorem VW_wr {n : Nat} {w t : Nat → Nat} {a : Nat} {S : Sk} {mm : Mm} (h : VW n w t a S mm) (ha : 71 ≤ a) {p : Nat} (hp : p < 71) (j : Nat) (v : Int32) : VW n w t a S (sI mm p j v) := by
  obtain ⟨h1, h2, h3, h4, h5, h6⟩ := h
  refine ⟨h1, h2, h3, ?_, fun j hj => ?_, fun j hj => ?_⟩
  · rw [rdI_ne _ _ _ _ (by omega)]; exact h4
  · rw [rdI_ne _ _ _ _ (by omega)]; exact h5 j hj
  · rw [rdI_ne _ _ _ _ (by omega)]; exact h6 j hj
theorem C_whoOf {n : Nat} {w t : Nat → Nat} {a : Nat} {S : Sk} {mm : Mm} (h : VW n w t a S mm) (hn : n ≤ 6) {j : Nat} (hj : j < n) : m_X8_whoOf S (nI j) mm = some (nI (w j)) := by
  obtain ⟨h1, h2, h3, h4, h5, h6⟩ := h
  have h5 := h5 j hj
  unfold m_X8_whoOf
  rw [h1]
  simp only [oM]
  rw [gk_pos h2, o_id]
  unfold m_X6_cell
  simp (disch := omega) only [zz_0, zz_1, zz_2, zz_3, zz_4, zz_5, zz_6, zz_7, zz_8, zz_9, zz_10, zz_11, zz_12, zz_13, zz_14, zz_15, zz_16, zz_20, zz_24, zz_25, zz_26, zz_28, zz_31, zz_32, zz_36, zz_39, zz_40, zz_48, zz_49, zz_50, zz_57, zz_59, zz_60, zz_64, zz_72, zz_97, zz_99, zz_100, zz_122, zz_144, zz_161, zz_255, zz_256, zz_288, zz_322, zz_384, zz_400, zz_448, zz_600, zz_1280, zz_1000000, nI_add, n_mul, n_sub, fa_or, fa_and, fb_xorI, n_div, n_rem, n_le, n_lt, n_eq, n_shl1, n_shr, n_andn, n_ix, n_grd, n_gdz, n_gbz, n_hasM, n_hasC, b2_0, b2_1, n_m1, ob_s, bs_l, bs_r, n_max, n_min, n_grt, n_les, h4, h3]
  rw [if_neg (by omega), if_neg (by omega), if_neg (by omega), if_pos (by omega), h5]
theorem C_thingOf {n : Nat} {w t : Nat → Nat} {a : Nat} {S : Sk} {mm : Mm} (h : VW n w t a S mm) (hn : n ≤ 6) {j : Nat} (hj : j < n) : m_X8_thingOf S (nI j) mm = some (nI (t j)) := by
  obtain ⟨h1, h2, h3, h4, h5, h6⟩ := h
  have h6 := h6 j hj
  unfold m_X8_thingOf
  rw [h1]
  simp only [oM]
  rw [gk_pos h2, o_id]
  unfold m_X6_cell
  simp (disch := omega) only [zz_0, zz_1, zz_2, zz_3, zz_4, zz_5, zz_6, zz_7, zz_8, zz_9, zz_10, zz_11, zz_12, zz_13, zz_14, zz_15, zz_16, zz_20, zz_24, zz_25, zz_26, zz_28, zz_31, zz_32, zz_36, zz_39, zz_40, zz_48, zz_49, zz_50, zz_57, zz_59, zz_60, zz_64, zz_72, zz_97, zz_99, zz_100, zz_122, zz_144, zz_161, zz_255, zz_256, zz_288, zz_322, zz_384, zz_400, zz_448, zz_600, zz_1280, zz_1000000, nI_add, n_mul, n_sub, fa_or, fa_and, fb_xorI, n_div, n_rem, n_le, n_lt, n_eq, n_shl1, n_shr, n_andn, n_ix, n_grd, n_gdz, n_gbz, n_hasM, n_hasC, b2_0, b2_1, n_m1, ob_s, bs_l, bs_r, n_max, n_min, n_grt, n_les, h4, h3]
  rw [if_neg (by omega), if_neg (by omega), if_neg (by omega), if_pos (by omega), h6]
theorem C_openersOf {W : Cn} {mm : Mm} (h : VC W mm) (wf : WF W) (w t : Nat → Nat) {j : Nat} (hw : w j < 6) (ht : t j < 8) : m_X8_openersOf (nI (w j)) (nI (t j)) mm = some (nI (opr W w t j)) := by
  have hr := fun a ha => @C_reachOf W mm h wf a (w j) ha hw
  have rb := fun a => rch_b W a (w j)
  have hf := wf.1
  obtain ⟨c0, c1, c12, c15, c16, c17, c18, c19, c20, c21, c22, c23⟩ := h
  unfold m_X8_openersOf
  rw [o_id]
  refine loop_fo (fun (x : Nat) i => (nI x, nI i)) _ 0 (fk W) (fun x => nI x) (fun i x => True) rfl (FU_big (by omega)) trivial (fun _ _ _ _ => trivial) ?_ ?_
  · intro i x hi hx
    have g := rb i
    unfold m_X8_openersOf_b5
    simp (disch := omega) only [zz_0, zz_1, zz_2, zz_3, zz_4, zz_5, zz_6, zz_7, zz_8, zz_9, zz_10, zz_11, zz_12, zz_13, zz_14, zz_15, zz_16, zz_20, zz_24, zz_25, zz_26, zz_28, zz_31, zz_32, zz_36, zz_39, zz_40, zz_48, zz_49, zz_50, zz_57, zz_59, zz_60, zz_64, zz_72, zz_97, zz_99, zz_100, zz_122, zz_144, zz_161, zz_255, zz_256, zz_288, zz_322, zz_384, zz_400, zz_448, zz_600, zz_1280, zz_1000000, nI_add, n_mul, n_sub, fa_or, fa_and, fb_xorI, n_div, n_rem, n_le, n_lt, n_eq, n_shl1, n_shr, n_andn, n_ix, n_grd, n_gdz, n_gbz, n_hasM, n_hasC, b2_0, b2_1, n_m1, ob_s, bs_l, bs_r, n_max, n_min, n_grt, n_les, c0, hr]
    rw [if_neg (by omega)]
    by_cases k1 : i = w j
    · simp only [k1, if_true, ob_s, not_true_eq_false, false_and, if_false, Nat.or_zero]
    · cases k2 : (rch W i (w j)).testBit (t j) <;> simp [k1]
  · intro x hx
    unfold m_X8_openersOf_b5
    simp (disch := omega) only [zz_0, zz_1, zz_2, zz_3, zz_4, zz_5, zz_6, zz_7, zz_8, zz_9, zz_10, zz_11, zz_12, zz_13, zz_14, zz_15, zz_16, zz_20, zz_24, zz_25, zz_26, zz_28, zz_31, zz_32, zz_36, zz_39, zz_40, zz_48, zz_49, zz_50, zz_57, zz_59, zz_60, zz_64, zz_72, zz_97, zz_99, zz_100, zz_122, zz_144, zz_161, zz_255, zz_256, zz_288, zz_322, zz_384, zz_400, zz_448, zz_600, zz_1280, zz_1000000, nI_add, n_mul, n_sub, fa_or, fa_and, fb_xorI, n_div, n_rem, n_le, n_lt, n_eq, n_shl1, n_shr, n_andn, n_ix, n_grd, n_gdz, n_gbz, n_hasM, n_hasC, b2_0, b2_1, n_m1, ob_s, bs_l, bs_r, n_max, n_min, n_grt, n_les, c0]
    rw [if_pos (by omega)]
theorem osb_b {n : Nat} {w t : Nat → Nat} (ht : ∀ j, t j < 8) (set p : Nat) : osb n w t set p < 256 := by
  refine fo_inv (n := n) (fun _ x => x < 2 ^ 8) (show 0 < 2 ^ 8 by decide) (fun i x hi hx => or_b hx ?_) _ (Nat.le_refl _)
  exact ite_b (ht i)
theorem C_countKept {W : Cn} {mm : Mm} {n : Nat} {w t : Nat → Nat} {a : Nat} {S : Sk} (h : VC W mm) (wf : WF W) (hc : symC (cl W)) (hw : VW n w t a S mm) (ha : 71 ≤ a) (hn : n ≤ 6) (w6 : ∀ j, w j < 6) (t8 : ∀ j, t j < 8) (h34 : mI mm 34 2 = nI n) {set : Nat} (hs : set < 64) : ∃ m, m_X8_countKept S (nI set) mm = some (nI (Kct W n w t set), m) := by
  unfold m_X8_countKept
  simp only [zz_0, zz_1, zz_2, zz_3, zz_4, zz_5, zz_6, zz_7, zz_8, zz_9, zz_10, zz_11, zz_12, zz_13, zz_14, zz_15, zz_16, zz_20, zz_24, zz_25, zz_26, zz_28, zz_31, zz_32, zz_36, zz_39, zz_40, zz_48, zz_49, zz_50, zz_57, zz_59, zz_60, zz_64, zz_72, zz_97, zz_99, zz_100, zz_122, zz_144, zz_161, zz_255, zz_256, zz_288, zz_322, zz_384, zz_400, zz_448, zz_600, zz_1280, zz_1000000]
  obtain ⟨m1', e1, V1, W1, g1, z1⟩ := loop_n (body := m_X8_countKept_b2) (a := (nI 0, mm)) (fun i z => ∃ m, z = (nI i, m) ∧ VC W m ∧ VW n w t a S m ∧ mI m 34 2 = nI n ∧ (∀ a, a < i → mI m 36 a = nI 0)) (fun m => VC W m ∧ VW n w t a S m ∧ mI m 34 2 = nI n ∧ (∀ a, a < 6 → mI m 36 a = nI 0)) 6 (FU_big (by decide)) ⟨mm, rfl, h, hw, h34, fun a ha => absurd ha (Nat.not_lt_zero a)⟩ (by
    rintro i z hi ⟨m, rfl, V, hW, hn, hz⟩
    unfold m_X8_countKept_b2
    simp (disch := omega) only [zz_0, zz_1, zz_2, zz_3, zz_4, zz_5, zz_6, zz_7, zz_8, zz_9, zz_10, zz_11, zz_12, zz_13, zz_14, zz_15, zz_16, zz_20, zz_24, zz_25, zz_26, zz_28, zz_31, zz_32, zz_36, zz_39, zz_40, zz_48, zz_49, zz_50, zz_57, zz_59, zz_60, zz_64, zz_72, zz_97, zz_99, zz_100, zz_122, zz_144, zz_161, zz_255, zz_256, zz_288, zz_322, zz_384, zz_400, zz_448, zz_600, zz_1280, zz_1000000, nI_add, n_mul, n_sub, fa_or, fa_and, fb_xorI, n_div, n_rem, n_le, n_lt, n_eq, n_shl1, n_shr, n_andn, n_ix, n_grd, n_gdz, n_gbz, n_hasM, n_hasC, b2_0, b2_1, n_m1, ob_s, bs_l, bs_r, n_max, n_min, n_grt, n_les]
    rw [if_neg (by omega)]
    refine ⟨_, rfl, _, rfl, VC_wr V (by omega) _ _, VW_wr hW ha (by omega) _ _, by rw [rdI_ne _ _ _ _ (by decide)]; exact hn, fun a ha => ?_⟩
    rw [rdI_sm]
    by_cases e : a = i
    · rw [if_pos e]
    · rw [if_neg e]; exact hz a (by omega)) (by
    rintro z ⟨m, rfl, V, hz⟩
    unfold m_X8_countKept_b2
    simp (disch := omega) only [zz_0, zz_1, zz_2, zz_3, zz_4, zz_5, zz_6, zz_7, zz_8, zz_9, zz_10, zz_11, zz_12, zz_13, zz_14, zz_15, zz_16, zz_20, zz_24, zz_25, zz_26, zz_28, zz_31, zz_32, zz_36, zz_39, zz_40, zz_48, zz_49, zz_50, zz_57, zz_59, zz_60, zz_64, zz_72, zz_97, zz_99, zz_100, zz_122, zz_144, zz_161, zz_255, zz_256, zz_288, zz_322, zz_384, zz_400, zz_448, zz_600, zz_1280, zz_1000000, nI_add, n_mul, n_sub, fa_or, fa_and, fb_xorI, n_div, n_rem, n_le, n_lt, n_eq, n_shl1, n_shr, n_andn, n_ix, n_grd, n_gdz, n_gbz, n_hasM, n_hasC, b2_0, b2_1, n_m1, ob_s, bs_l, bs_r, n_max, n_min, n_grt, n_les]
    rw [if_pos (by omega)]
    exact ⟨_, rfl, V, hz⟩)
  rw [e1, ob_s]
  obtain ⟨m2, e2, V2, W2, g2, z2⟩ := loop_n (body := m_X8_countKept_b23 (nI set) S) (a := (nI 0, m1')) (fun i z => ∃ m, z = (nI i, m) ∧ VC W m ∧ VW n w t a S m ∧ mI m 34 2 = nI n ∧ (∀ p, p < 6 → mI m 36 p = nI (fo (fun j s => s ||| if set.testBit j = true ∧ w j = p then 2 ^ t j else 0) 0 i))) (fun m => VC W m ∧ VW n w t a S m ∧ mI m 34 2 = nI n ∧ (∀ p, p < 6 → mI m 36 p = nI (osb n w t set p))) n (FU_big (by omega)) ⟨m1', rfl, V1, W1, g1, z1⟩ (by
    rintro i z hi ⟨m, rfl, V, hW, h34, hz⟩
    have q1 := C_whoOf hW hn hi
    have q2 := C_thingOf hW hn hi
    have q3 := w6 i
    have q4 := t8 i
    unfold m_X8_countKept_b23
    simp (disch := omega) only [zz_0, zz_1, zz_2, zz_3, zz_4, zz_5, zz_6, zz_7, zz_8, zz_9, zz_10, zz_11, zz_12, zz_13, zz_14, zz_15, zz_16, zz_20, zz_24, zz_25, zz_26, zz_28, zz_31, zz_32, zz_36, zz_39, zz_40, zz_48, zz_49, zz_50, zz_57, zz_59, zz_60, zz_64, zz_72, zz_97, zz_99, zz_100, zz_122, zz_144, zz_161, zz_255, zz_256, zz_288, zz_322, zz_384, zz_400, zz_448, zz_600, zz_1280, zz_1000000, nI_add, n_mul, n_sub, fa_or, fa_and, fb_xorI, n_div, n_rem, n_le, n_lt, n_eq, n_shl1, n_shr, n_andn, n_ix, n_grd, n_gdz, n_gbz, n_hasM, n_hasC, b2_0, b2_1, n_m1, ob_s, bs_l, bs_r, n_max, n_min, n_grt, n_les, h34, q1, q2, hz]
    rw [if_neg (by omega)]
    cases hb : set.testBit i with
    | false =>
      simp only [if_true, ob_s]
      refine ⟨_, rfl, m, rfl, V, hW, h34, fun p hp => ?_⟩
      rw [fo, hz p hp, hb]
      simp
    | true =>
      simp only [Bool.true_eq_false, if_false, ob_s]
      refine ⟨_, rfl, _, rfl, VC_wr V (by omega) _ _, VW_wr hW ha (by omega) _ _, by rw [rdI_ne _ _ _ _ (by decide)]; exact h34, fun p hp => ?_⟩
      rw [rdI_sm, fo, hb]
      by_cases e : p = w i
      · rw [if_pos e, if_pos ⟨rfl, e.symm⟩, e]
      · rw [if_neg e, if_neg (fun q => e q.2.symm), hz p hp, Nat.or_zero]) (by
    rintro z ⟨m, rfl, V, hW, h34, hz⟩
    unfold m_X8_countKept_b23
    simp (disch := omega) only [zz_0, zz_1, zz_2, zz_3, zz_4, zz_5, zz_6, zz_7, zz_8, zz_9, zz_10, zz_11, zz_12, zz_13, zz_14, zz_15, zz_16, zz_20, zz_24, zz_25, zz_26, zz_28, zz_31, zz_32, zz_36, zz_39, zz_40, zz_48, zz_49, zz_50, zz_57, zz_59, zz_60, zz_64, zz_72, zz_97, zz_99, zz_100, zz_122, zz_144, zz_161, zz_255, zz_256, zz_288, zz_322, zz_384, zz_400, zz_448, zz_600, zz_1280, zz_1000000, nI_add, n_mul, n_sub, fa_or, fa_and, fb_xorI, n_div, n_rem, n_le, n_lt, n_eq, n_shl1, n_shr, n_andn, n_ix, n_grd, n_gdz, n_gbz, n_hasM, n_hasC, b2_0, b2_1, n_m1, ob_s, bs_l, bs_r, n_max, n_min, n_grt, n_les, h34]
    rw [if_pos (by omega)]
    exact ⟨_, rfl, V, hW, h34, hz⟩)
  rw [e2, ob_s]
  have e3 : whileF FU (m_X8_countKept_b70 S m2) (nI 0, nI 0) = some (nI (Kct W n w t set)) := by
    refine (loop_fo (fun (x : Nat) i => (nI x, nI i)) (fun j x => x + if (bst W (osb n w t set (w j)) (rm W (w j))).testBit (t j) then 1 else 0) 0 n (fun x => nI x) (fun i x => True) rfl (FU_big (by omega)) trivial (fun _ _ _ _ => trivial) ?_ ?_).trans (by rw [fo_ct]; rfl)
    · intro i x hi hx
      have q1 := C_whoOf W2 hn hi
      have q2 := C_thingOf W2 hn hi
      have q3 := w6 i
      have q4 := t8 i
      have q5 := wf.2.2.2.1 (w i)
      have q6 := V2.2.2.2.2.1 (w i) q3
      have q7 : m_X7_keptOf (nI (osb n w t set (w i))) (nI (rm W (w i))) m2 = some (nI (bst W (osb n w t set (w i)) (rm W (w i)))) := C_keptOf V2 (osb_b t8 _ _) q5
      have q8 := bst_b W hc (osb n w t set (w i)) (rm W (w i))
      unfold m_X8_countKept_b70
      simp (disch := omega) only [zz_0, zz_1, zz_2, zz_3, zz_4, zz_5, zz_6, zz_7, zz_8, zz_9, zz_10, zz_11, zz_12, zz_13, zz_14, zz_15, zz_16, zz_20, zz_24, zz_25, zz_26, zz_28, zz_31, zz_32, zz_36, zz_39, zz_40, zz_48, zz_49, zz_50, zz_57, zz_59, zz_60, zz_64, zz_72, zz_97, zz_99, zz_100, zz_122, zz_144, zz_161, zz_255, zz_256, zz_288, zz_322, zz_384, zz_400, zz_448, zz_600, zz_1280, zz_1000000, nI_add, n_mul, n_sub, fa_or, fa_and, fb_xorI, n_div, n_rem, n_le, n_lt, n_eq, n_shl1, n_shr, n_andn, n_ix, n_grd, n_gdz, n_gbz, n_hasM, n_hasC, b2_0, b2_1, n_m1, ob_s, bs_l, bs_r, n_max, n_min, n_grt, n_les, g2, q1, q2, z2, q6, q7]
      rw [if_neg (by omega)]
      cases (bst W (osb n w t set (w i)) (rm W (w i))).testBit (t i) <;> simp
    · intro x hx
      unfold m_X8_countKept_b70
      simp (disch := omega) only [zz_0, zz_1, zz_2, zz_3, zz_4, zz_5, zz_6, zz_7, zz_8, zz_9, zz_10, zz_11, zz_12, zz_13, zz_14, zz_15, zz_16, zz_20, zz_24, zz_25, zz_26, zz_28, zz_31, zz_32, zz_36, zz_39, zz_40, zz_48, zz_49, zz_50, zz_57, zz_59, zz_60, zz_64, zz_72, zz_97, zz_99, zz_100, zz_122, zz_144, zz_161, zz_255, zz_256, zz_288, zz_322, zz_384, zz_400, zz_448, zz_600, zz_1280, zz_1000000, nI_add, n_mul, n_sub, fa_or, fa_and, fb_xorI, n_div, n_rem, n_le, n_lt, n_eq, n_shl1, n_shr, n_andn, n_ix, n_grd, n_gdz, n_gbz, n_hasM, n_hasC, b2_0, b2_1, n_m1, ob_s, bs_l, bs_r, n_max, n_min, n_grt, n_les, g2]
      rw [if_pos (by omega)]
  rw [e3, ob_s]
  exact ⟨m2, rfl⟩
theorem C_canSwear {W : Cn} (wf : WF W) {w t : Nat → Nat} {n : Nat} (hn : n ≤ 6) {mm : Mm} (h34 : mI mm 34 2 = nI n) (h35 : ∀ j, j < n → mI mm 35 j = nI (opr W w t j)) {set : Nat} (hs : set < 64) : ∀ f m j free, m < f → j + m = n → free < 64 → m_X8_canSwear f (nI j) (nI set) (nI free) mm = some (b2 (csB W w t m j set free))
  | 0, m, j, free, h, _, _ => absurd h (Nat.not_lt_zero _)
  | f + 1, 0, j, free, h, hj, hfr => by
    show m_X8_canSwear_s (m_X8_canSwear f) (nI j) (nI set) (nI free) mm = _
    unfold m_X8_canSwear_s
    simp (disch := omega) only [zz_0, zz_1, zz_2, zz_3, zz_4, zz_5, zz_6, zz_7, zz_8, zz_9, zz_10, zz_11, zz_12, zz_13, zz_14, zz_15, zz_16, zz_20, zz_24, zz_25, zz_26, zz_28, zz_31, zz_32, zz_36, zz_39, zz_40, zz_48, zz_49, zz_50, zz_57, zz_59, zz_60, zz_64, zz_72, zz_97, zz_99, zz_100, zz_122, zz_144, zz_161, zz_255, zz_256, zz_288, zz_322, zz_384, zz_400, zz_448, zz_600, zz_1280, zz_1000000, h34, n_lt]
    rw [if_neg (by omega)]
    rfl
  | f + 1, m + 1, j, free, h, hj, hfr => by
    have ih := fun free hfr => C_canSwear wf hn h34 h35 hs f m (j + 1) free (by omega) (by omega) hfr
    have ob := opr_b wf w t j
    have o35 := h35 j (by omega)
    show m_X8_canSwear_s (m_X8_canSwear f) (nI j) (nI set) (nI free) mm = _
    unfold m_X8_canSwear_s
    simp (disch := omega) only [zz_0, zz_1, zz_2, zz_3, zz_4, zz_5, zz_6, zz_7, zz_8, zz_9, zz_10, zz_11, zz_12, zz_13, zz_14, zz_15, zz_16, zz_20, zz_24, zz_25, zz_26, zz_28, zz_31, zz_32, zz_36, zz_39, zz_40, zz_48, zz_49, zz_50, zz_57, zz_59, zz_60, zz_64, zz_72, zz_97, zz_99, zz_100, zz_122, zz_144, zz_161, zz_255, zz_256, zz_288, zz_322, zz_384, zz_400, zz_448, zz_600, zz_1280, zz_1000000, h34, n_lt, n_hasC, b2_0, nI_add]
    rw [if_pos (by omega), csB]
    cases hb : set.testBit j with
    | false =>
      rw [if_pos rfl, ih free hfr, ob_s, n_gbz]
      rfl
    | true =>
      rw [if_neg (by decide), if_pos rfl]
      have hw := loop_fst (body := m_X8_canSwear_b31 (nI j) (nI set) (nI free) mm (m_X8_canSwear f)) (s0 := nI 0) (fun i => nI i) (fun p => (opr W w t j).testBit p && free.testBit p && csB W w t m (j + 1) set (ndf free (2 ^ p))) 6 (fun _ => .inr (nI 1)) (.inl ()) rfl (FU_big (by decide)) (by
        intro i hi hq
        have a1 : opr W w t j &&& free < 64 := Nat.lt_of_le_of_lt Nat.and_le_left ob
        have a2 := ndf_le free (2 ^ i)
        have a3 := ih (ndf free (2 ^ i)) (by omega)
        unfold m_X8_canSwear_b31
        simp (disch := omega) only [zz_0, zz_1, zz_2, zz_3, zz_4, zz_5, zz_6, zz_7, zz_8, zz_9, zz_10, zz_11, zz_12, zz_13, zz_14, zz_15, zz_16, zz_20, zz_24, zz_25, zz_26, zz_28, zz_31, zz_32, zz_36, zz_39, zz_40, zz_48, zz_49, zz_50, zz_57, zz_59, zz_60, zz_64, zz_72, zz_97, zz_99, zz_100, zz_122, zz_144, zz_161, zz_255, zz_256, zz_288, zz_322, zz_384, zz_400, zz_448, zz_600, zz_1280, zz_1000000, nI_add, n_mul, n_sub, fa_or, fa_and, fb_xorI, n_div, n_rem, n_le, n_lt, n_eq, n_shl1, n_shr, n_andn, n_ix, n_grd, n_gdz, n_gbz, n_hasM, n_hasC, b2_0, b2_1, n_m1, ob_s, bs_l, bs_r, n_max, n_min, n_grt, n_les, o35, a3, Nat.testBit_and]
        rw [if_neg (by omega)]
        cases k1 : (opr W w t j).testBit i <;> cases k2 : free.testBit i <;> cases k3 : csB W w t m (j + 1) set (ndf free (2 ^ i)) <;> simp [bs_l]
        rw [k1, k2, k3] at hq
        cases hq) (by
        intro i hi hq
        have a1 : opr W w t j &&& free < 64 := Nat.lt_of_le_of_lt Nat.and_le_left ob
        have a2 := ndf_le free (2 ^ i)
        have a3 := ih (ndf free (2 ^ i)) (by omega)
        simp only [Bool.and_eq_true] at hq
        unfold m_X8_canSwear_b31
        simp (disch := omega) only [zz_0, zz_1, zz_2, zz_3, zz_4, zz_5, zz_6, zz_7, zz_8, zz_9, zz_10, zz_11, zz_12, zz_13, zz_14, zz_15, zz_16, zz_20, zz_24, zz_25, zz_26, zz_28, zz_31, zz_32, zz_36, zz_39, zz_40, zz_48, zz_49, zz_50, zz_57, zz_59, zz_60, zz_64, zz_72, zz_97, zz_99, zz_100, zz_122, zz_144, zz_161, zz_255, zz_256, zz_288, zz_322, zz_384, zz_400, zz_448, zz_600, zz_1280, zz_1000000, nI_add, n_mul, n_sub, fa_or, fa_and, fb_xorI, n_div, n_rem, n_le, n_lt, n_eq, n_shl1, n_shr, n_andn, n_ix, n_grd, n_gdz, n_gbz, n_hasM, n_hasC, b2_0, b2_1, n_m1, ob_s, bs_l, bs_r, n_max, n_min, n_grt, n_les, o35, a3, Nat.testBit_and, hq.1.1, hq.1.2, hq.2]
        rw [if_neg (by omega)]
        rfl) (by
        unfold m_X8_canSwear_b31
        simp (disch := omega) only [zz_0, zz_1, zz_2, zz_3, zz_4, zz_5, zz_6, zz_7, zz_8, zz_9, zz_10, zz_11, zz_12, zz_13, zz_14, zz_15, zz_16, zz_20, zz_24, zz_25, zz_26, zz_28, zz_31, zz_32, zz_36, zz_39, zz_40, zz_48, zz_49, zz_50, zz_57, zz_59, zz_60, zz_64, zz_72, zz_97, zz_99, zz_100, zz_122, zz_144, zz_161, zz_255, zz_256, zz_288, zz_322, zz_384, zz_400, zz_448, zz_600, zz_1280, zz_1000000, nI_add, n_mul, n_sub, fa_or, fa_and, fb_xorI, n_div, n_rem, n_le, n_lt, n_eq, n_shl1, n_shr, n_andn, n_ix, n_grd, n_gdz, n_gbz, n_hasM, n_hasC, b2_0, b2_1, n_m1, ob_s, bs_l, bs_r, n_max, n_min, n_grt, n_les]
        rw [if_pos (by omega)])
      rw [hw]
      cases fst1 (fun p => (opr W w t j).testBit p && free.testBit p && csB W w t m (j + 1) set (ndf free (2 ^ p))) 6 <;> rfl
