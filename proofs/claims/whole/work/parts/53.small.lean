/-! L3: likings, counts, the hardest, the weakest, peace -/
def lks (W : Cn) (s : Nat) : Nat := fo (fun p x => x ||| if s.testBit p then lk W p else 0) s (fk W)
def lkn (W : Cn) (a : Nat) : Nat → Nat
  | 0 => 2 ^ a
  | n + 1 => lks W (lkn W a n)
theorem lks_b {W : Cn} (wf : WF W) {s : Nat} (hs : s < 64) : lks W s < 64 := by
  refine fo_inv (n := fk W) (fun _ x => x < 2 ^ 6) hs (fun i x hi hx => or_b hx ?_) _ (Nat.le_refl _)
  obtain ⟨f1, f2, f3, f4, f5, f6, f7, f8, f9, f10, f11⟩ := wf
  split
  · exact f5 i
  · decide
theorem lkn_b {W : Cn} (wf : WF W) {a : Nat} (ha : a < 6) : ∀ n, lkn W a n < 64
  | 0 => pow_le (n := 6) ha
  | n + 1 => lks_b wf (lkn_b wf ha n)
def lst (W : Cn) (a b : Nat) : Option Nat := fst1 (fun n => (lkn W a n).testBit b) 6
theorem C_likingsBetween {W : Cn} {mm : Mm} (h : VC W mm) (wf : WF W) {a b : Nat} (ha : a < 6) (hb : b < 6) : m_X0_likingsBetween (nI a) (nI b) mm = some (enc1 (lst W a b)) := by
  have kb := lkn_b wf ha
  obtain ⟨c0, c1, c12, c15, c16, c17, c18, c19, c20, c21, c22, c23⟩ := h
  have hf := wf.1
  unfold m_X0_likingsBetween
  simp (disch := omega) only [zz_0, zz_1, zz_2, zz_3, zz_4, zz_5, zz_6, zz_7, zz_8, zz_9, zz_10, zz_11, zz_12, zz_13, zz_14, zz_15, zz_16, zz_20, zz_24, zz_25, zz_26, zz_28, zz_31, zz_32, zz_36, zz_39, zz_40, zz_48, zz_49, zz_50, zz_57, zz_59, zz_60, zz_64, zz_72, zz_97, zz_99, zz_100, zz_122, zz_144, zz_161, zz_255, zz_256, zz_288, zz_322, zz_384, zz_400, zz_448, zz_600, zz_1280, zz_1000000, n_shl1]
  have hstep : ∀ s i, s < 64 → whileF FU (m_X0_likingsBetween_b31 mm (nI s, nI i)) (nI s, nI 0) = some (nI (lks W s)) := by
    intro s j hs
    refine loop_fo (fun (x : Nat) i => (nI x, nI i)) _ s (fk W) (fun x => nI x) (fun i x => True) rfl (FU_big (by omega)) trivial (fun _ _ _ _ => trivial) ?_ ?_
    · intro i x hi hx
      unfold m_X0_likingsBetween_b31
      simp (disch := omega) only [zz_0, zz_1, zz_2, zz_3, zz_4, zz_5, zz_6, zz_7, zz_8, zz_9, zz_10, zz_11, zz_12, zz_13, zz_14, zz_15, zz_16, zz_20, zz_24, zz_25, zz_26, zz_28, zz_31, zz_32, zz_36, zz_39, zz_40, zz_48, zz_49, zz_50, zz_57, zz_59, zz_60, zz_64, zz_72, zz_97, zz_99, zz_100, zz_122, zz_144, zz_161, zz_255, zz_256, zz_288, zz_322, zz_384, zz_400, zz_448, zz_600, zz_1280, zz_1000000, nI_add, n_mul, n_sub, fa_or, fa_and, fb_xorI, n_div, n_rem, n_le, n_lt, n_eq, n_shl1, n_shr, n_andn, n_ix, n_grd, n_gdz, n_gbz, n_hasM, n_hasC, b2_0, b2_1, n_m1, Option.bind_some, bS_inl, bS_inr, n_max, n_min, n_grt, n_les, c0, c1, c15, c16, c17, c18, c19, c20, c21, c22]
      rw [if_neg (by omega)]
      cases k1 : s.testBit i <;> simp
    · intro x hx
      unfold m_X0_likingsBetween_b31
      simp (disch := omega) only [zz_0, zz_1, zz_2, zz_3, zz_4, zz_5, zz_6, zz_7, zz_8, zz_9, zz_10, zz_11, zz_12, zz_13, zz_14, zz_15, zz_16, zz_20, zz_24, zz_25, zz_26, zz_28, zz_31, zz_32, zz_36, zz_39, zz_40, zz_48, zz_49, zz_50, zz_57, zz_59, zz_60, zz_64, zz_72, zz_97, zz_99, zz_100, zz_122, zz_144, zz_161, zz_255, zz_256, zz_288, zz_322, zz_384, zz_400, zz_448, zz_600, zz_1280, zz_1000000, nI_add, n_mul, n_sub, fa_or, fa_and, fb_xorI, n_div, n_rem, n_le, n_lt, n_eq, n_shl1, n_shr, n_andn, n_ix, n_grd, n_gdz, n_gbz, n_hasM, n_hasC, b2_0, b2_1, n_m1, Option.bind_some, bS_inl, bS_inr, n_max, n_min, n_grt, n_les, c0, c1, c15, c16, c17, c18, c19, c20, c21, c22]
      rw [if_pos (by omega)]
  have hw := loop_fst (body := m_X0_likingsBetween_b7 (nI b) mm) (s0 := (nI (2 ^ a), nI 0)) (fun i => (nI (lkn W a i), nI i)) (fun n => (lkn W a n).testBit b) 6 (fun k => .inr (nI k)) (.inl ()) rfl (FU_big (by decide)) (by
    intro i hi hq
    have k1 := kb i
    unfold m_X0_likingsBetween_b7
    simp (disch := omega) only [zz_0, zz_1, zz_2, zz_3, zz_4, zz_5, zz_6, zz_7, zz_8, zz_9, zz_10, zz_11, zz_12, zz_13, zz_14, zz_15, zz_16, zz_20, zz_24, zz_25, zz_26, zz_28, zz_31, zz_32, zz_36, zz_39, zz_40, zz_48, zz_49, zz_50, zz_57, zz_59, zz_60, zz_64, zz_72, zz_97, zz_99, zz_100, zz_122, zz_144, zz_161, zz_255, zz_256, zz_288, zz_322, zz_384, zz_400, zz_448, zz_600, zz_1280, zz_1000000, nI_add, n_mul, n_sub, fa_or, fa_and, fb_xorI, n_div, n_rem, n_le, n_lt, n_eq, n_shl1, n_shr, n_andn, n_ix, n_grd, n_gdz, n_gbz, n_hasM, n_hasC, b2_0, b2_1, n_m1, Option.bind_some, bS_inl, bS_inr, n_max, n_min, n_grt, n_les, hstep]
    rw [if_neg (by omega), if_pos hq]
    rfl) (by
    intro i hi hq
    have k1 := kb i
    unfold m_X0_likingsBetween_b7
    simp (disch := omega) only [zz_0, zz_1, zz_2, zz_3, zz_4, zz_5, zz_6, zz_7, zz_8, zz_9, zz_10, zz_11, zz_12, zz_13, zz_14, zz_15, zz_16, zz_20, zz_24, zz_25, zz_26, zz_28, zz_31, zz_32, zz_36, zz_39, zz_40, zz_48, zz_49, zz_50, zz_57, zz_59, zz_60, zz_64, zz_72, zz_97, zz_99, zz_100, zz_122, zz_144, zz_161, zz_255, zz_256, zz_288, zz_322, zz_384, zz_400, zz_448, zz_600, zz_1280, zz_1000000, nI_add, n_mul, n_sub, fa_or, fa_and, fb_xorI, n_div, n_rem, n_le, n_lt, n_eq, n_shl1, n_shr, n_andn, n_ix, n_grd, n_gdz, n_gbz, n_hasM, n_hasC, b2_0, b2_1, n_m1, Option.bind_some, bS_inl, bS_inr, n_max, n_min, n_grt, n_les]
    rw [if_neg (by omega), if_neg (by rw [hq]; decide)]) (by
    unfold m_X0_likingsBetween_b7
    simp (disch := omega) only [zz_0, zz_1, zz_2, zz_3, zz_4, zz_5, zz_6, zz_7, zz_8, zz_9, zz_10, zz_11, zz_12, zz_13, zz_14, zz_15, zz_16, zz_20, zz_24, zz_25, zz_26, zz_28, zz_31, zz_32, zz_36, zz_39, zz_40, zz_48, zz_49, zz_50, zz_57, zz_59, zz_60, zz_64, zz_72, zz_97, zz_99, zz_100, zz_122, zz_144, zz_161, zz_255, zz_256, zz_288, zz_322, zz_384, zz_400, zz_448, zz_600, zz_1280, zz_1000000, nI_add, n_mul, n_sub, fa_or, fa_and, fb_xorI, n_div, n_rem, n_le, n_lt, n_eq, n_shl1, n_shr, n_andn, n_ix, n_grd, n_gdz, n_gbz, n_hasM, n_hasC, b2_0, b2_1, n_m1, Option.bind_some, bS_inl, bS_inr, n_max, n_min, n_grt, n_les]
    rw [if_pos (by omega)])
  rw [hw]
  unfold lst
  cases fst1 (fun n => (lkn W a n).testBit b) 6 <;> rfl
theorem M_stepsW {W : Cn} {st c : Nat} {q : Int32 × Mm} (h : VM W st c q.2) (wf : WF W) {a b : Nat} (ha : a < 6) (hb : b < 6) : bS (whileF FU (m_X12_steps_b39 (nI b) q) (xshl 1 (nI a), 0)) (fun _ => some (-1, q.2)) = some (enc1 (lst W a b), q.2) := by
  have kb := lkn_b wf ha
  obtain ⟨⟨hc, v23⟩, v24, v25, v26, v56, v57, v58, v59, v60, v61, v62, v20, v28⟩ := h
  obtain ⟨f1, f2, f3, f4, f5, f6, f7, f8, f9, f10, f11⟩ := wf
  simp (disch := omega) only [zz_0, zz_1, zz_2, zz_3, zz_4, zz_5, zz_6, zz_7, zz_8, zz_9, zz_10, zz_11, zz_12, zz_13, zz_14, zz_15, zz_16, zz_20, zz_24, zz_25, zz_26, zz_28, zz_31, zz_32, zz_36, zz_39, zz_40, zz_48, zz_49, zz_50, zz_57, zz_59, zz_60, zz_64, zz_72, zz_97, zz_99, zz_100, zz_122, zz_144, zz_161, zz_255, zz_256, zz_288, zz_322, zz_384, zz_400, zz_448, zz_600, zz_1280, zz_1000000, n_shl1]
  have hstep : ∀ s i, s < 64 → whileF FU (m_X12_steps_b65 q (nI s, nI i)) (nI s, nI 0) = some (nI (lks W s)) := by
    intro s j hs
    refine loop_fo (fun (x : Nat) i => (nI x, nI i)) _ s (fk W) (fun x => nI x) (fun i x => True) rfl (FU_big (by omega)) trivial (fun _ _ _ _ => trivial) ?_ ?_
    · intro i x hi hx
      unfold m_X12_steps_b65
      simp (disch := omega) only [zz_0, zz_1, zz_2, zz_3, zz_4, zz_5, zz_6, zz_7, zz_8, zz_9, zz_10, zz_11, zz_12, zz_13, zz_14, zz_15, zz_16, zz_20, zz_24, zz_25, zz_26, zz_28, zz_31, zz_32, zz_36, zz_39, zz_40, zz_48, zz_49, zz_50, zz_57, zz_59, zz_60, zz_64, zz_72, zz_97, zz_99, zz_100, zz_122, zz_144, zz_161, zz_255, zz_256, zz_288, zz_322, zz_384, zz_400, zz_448, zz_600, zz_1280, zz_1000000, nI_add, n_mul, n_sub, fa_or, fa_and, fb_xorI, n_div, n_rem, n_le, n_lt, n_eq, n_shl1, n_shr, n_andn, n_ix, n_grd, n_gdz, n_gbz, n_hasM, n_hasC, b2_0, b2_1, n_m1, Option.bind_some, bS_inl, bS_inr, n_max, n_min, n_grt, n_les, v23, v24, v25, v26, v56, v57, v58, v59, v60, v61, v62, v20, v28]
      rw [if_neg (by omega)]
      cases k1 : s.testBit i <;> simp [fa_or]
    · intro x hx
      unfold m_X12_steps_b65
      simp (disch := omega) only [zz_0, zz_1, zz_2, zz_3, zz_4, zz_5, zz_6, zz_7, zz_8, zz_9, zz_10, zz_11, zz_12, zz_13, zz_14, zz_15, zz_16, zz_20, zz_24, zz_25, zz_26, zz_28, zz_31, zz_32, zz_36, zz_39, zz_40, zz_48, zz_49, zz_50, zz_57, zz_59, zz_60, zz_64, zz_72, zz_97, zz_99, zz_100, zz_122, zz_144, zz_161, zz_255, zz_256, zz_288, zz_322, zz_384, zz_400, zz_448, zz_600, zz_1280, zz_1000000, nI_add, n_mul, n_sub, fa_or, fa_and, fb_xorI, n_div, n_rem, n_le, n_lt, n_eq, n_shl1, n_shr, n_andn, n_ix, n_grd, n_gdz, n_gbz, n_hasM, n_hasC, b2_0, b2_1, n_m1, Option.bind_some, bS_inl, bS_inr, n_max, n_min, n_grt, n_les, v23, v24, v25, v26, v56, v57, v58, v59, v60, v61, v62, v20, v28]
      rw [if_pos (by omega)]
  have hw := loop_fst (body := m_X12_steps_b39 (nI b) q) (s0 := (nI (2 ^ a), nI 0)) (fun i => (nI (lkn W a i), nI i)) (fun n => (lkn W a n).testBit b) 6 (fun k => .inr (nI k, q.2)) (.inl ()) rfl (FU_big (by decide)) (by
    intro i hi hq
    have k1 := kb i
    unfold m_X12_steps_b39
    simp (disch := omega) only [zz_0, zz_1, zz_2, zz_3, zz_4, zz_5, zz_6, zz_7, zz_8, zz_9, zz_10, zz_11, zz_12, zz_13, zz_14, zz_15, zz_16, zz_20, zz_24, zz_25, zz_26, zz_28, zz_31, zz_32, zz_36, zz_39, zz_40, zz_48, zz_49, zz_50, zz_57, zz_59, zz_60, zz_64, zz_72, zz_97, zz_99, zz_100, zz_122, zz_144, zz_161, zz_255, zz_256, zz_288, zz_322, zz_384, zz_400, zz_448, zz_600, zz_1280, zz_1000000, nI_add, n_mul, n_sub, fa_or, fa_and, fb_xorI, n_div, n_rem, n_le, n_lt, n_eq, n_shl1, n_shr, n_andn, n_ix, n_grd, n_gdz, n_gbz, n_hasM, n_hasC, b2_0, b2_1, n_m1, Option.bind_some, bS_inl, bS_inr, n_max, n_min, n_grt, n_les, hstep]
    rw [if_neg (by omega), if_pos hq]
    rfl) (by
    intro i hi hq
    have k1 := kb i
    unfold m_X12_steps_b39
    simp (disch := omega) only [zz_0, zz_1, zz_2, zz_3, zz_4, zz_5, zz_6, zz_7, zz_8, zz_9, zz_10, zz_11, zz_12, zz_13, zz_14, zz_15, zz_16, zz_20, zz_24, zz_25, zz_26, zz_28, zz_31, zz_32, zz_36, zz_39, zz_40, zz_48, zz_49, zz_50, zz_57, zz_59, zz_60, zz_64, zz_72, zz_97, zz_99, zz_100, zz_122, zz_144, zz_161, zz_255, zz_256, zz_288, zz_322, zz_384, zz_400, zz_448, zz_600, zz_1280, zz_1000000, nI_add, n_mul, n_sub, fa_or, fa_and, fb_xorI, n_div, n_rem, n_le, n_lt, n_eq, n_shl1, n_shr, n_andn, n_ix, n_grd, n_gdz, n_gbz, n_hasM, n_hasC, b2_0, b2_1, n_m1, Option.bind_some, bS_inl, bS_inr, n_max, n_min, n_grt, n_les]
    rw [if_neg (by omega), if_neg (by rw [hq]; decide)]) (by
    unfold m_X12_steps_b39
    simp (disch := omega) only [zz_0, zz_1, zz_2, zz_3, zz_4, zz_5, zz_6, zz_7, zz_8, zz_9, zz_10, zz_11, zz_12, zz_13, zz_14, zz_15, zz_16, zz_20, zz_24, zz_25, zz_26, zz_28, zz_31, zz_32, zz_36, zz_39, zz_40, zz_48, zz_49, zz_50, zz_57, zz_59, zz_60, zz_64, zz_72, zz_97, zz_99, zz_100, zz_122, zz_144, zz_161, zz_255, zz_256, zz_288, zz_322, zz_384, zz_400, zz_448, zz_600, zz_1280, zz_1000000, nI_add, n_mul, n_sub, fa_or, fa_and, fb_xorI, n_div, n_rem, n_le, n_lt, n_eq, n_shl1, n_shr, n_andn, n_ix, n_grd, n_gdz, n_gbz, n_hasM, n_hasC, b2_0, b2_1, n_m1, Option.bind_some, bS_inl, bS_inr, n_max, n_min, n_grt, n_les]
    rw [if_pos (by omega)])
  rw [hw]
  unfold lst
  cases fst1 (fun n => (lkn W a n).testBit b) 6 <;> rfl
/-- who has none -/
def noz (f : Nat → Nat) (n : Nat) : Nat := fo (fun p s => s ||| if f p = 0 then 2 ^ p else 0) 0 n
theorem noz_bit (f : Nat → Nat) (n i : Nat) : (noz f n).testBit i = true ↔ i < n ∧ f i = 0 := by
  unfold noz
  rw [fo_or_bit (fun p => if f p = 0 then 2 ^ p else 0)]
  simp only [ite_bit]
  constructor
  · rintro ⟨k, h1, h2, rfl⟩; exact ⟨h1, h2⟩
  · rintro ⟨h1, h2⟩; exact ⟨i, h1, h2, rfl⟩
theorem C_without {W : Cn} {S : Sk} {mm : Mm} (wf : WF W) (h0 : mI mm 25 1 = nI (fk W)) {a : Nat} (hk : (sK S a).2 = 6) (f : Nat → Nat) (hv : ∀ p, p < 6 → mI mm a p = nI (f p)) (hb : ∀ p, f p < 100) : m_X0_without S a mm = some (nI (noz f (fk W))) := by
  have hf := wf.1
  unfold m_X0_without
  rw [o_id]
  refine loop_fo (fun (x : Nat) i => (nI x, nI i)) _ 0 (fk W) (fun x => nI x) (fun i x => True) rfl (FU_big (by omega)) trivial (fun _ _ _ _ => trivial) ?_ ?_
  · intro i x hi hx
    have k1 := hb i
    unfold m_X0_without_b4
    simp (disch := omega) only [zz_0, zz_1, zz_2, zz_3, zz_4, zz_5, zz_6, zz_7, zz_8, zz_9, zz_10, zz_11, zz_12, zz_13, zz_14, zz_15, zz_16, zz_20, zz_24, zz_25, zz_26, zz_28, zz_31, zz_32, zz_36, zz_39, zz_40, zz_48, zz_49, zz_50, zz_57, zz_59, zz_60, zz_64, zz_72, zz_97, zz_99, zz_100, zz_122, zz_144, zz_161, zz_255, zz_256, zz_288, zz_322, zz_384, zz_400, zz_448, zz_600, zz_1280, zz_1000000, nI_add, n_mul, n_sub, fa_or, fa_and, fb_xorI, n_div, n_rem, n_le, n_lt, n_eq, n_shl1, n_shr, n_andn, n_ix, n_grd, n_gdz, n_gbz, n_hasM, n_hasC, b2_0, b2_1, n_m1, Option.bind_some, bS_inl, bS_inr, n_max, n_min, n_grt, n_les, h0, hk, hv]
    rw [if_neg (by omega)]
    by_cases k2 : f i = 0 <;> simp [k2]
  · intro x hx
    unfold m_X0_without_b4
    simp (disch := omega) only [zz_0, zz_1, zz_2, zz_3, zz_4, zz_5, zz_6, zz_7, zz_8, zz_9, zz_10, zz_11, zz_12, zz_13, zz_14, zz_15, zz_16, zz_20, zz_24, zz_25, zz_26, zz_28, zz_31, zz_32, zz_36, zz_39, zz_40, zz_48, zz_49, zz_50, zz_57, zz_59, zz_60, zz_64, zz_72, zz_97, zz_99, zz_100, zz_122, zz_144, zz_161, zz_255, zz_256, zz_288, zz_322, zz_384, zz_400, zz_448, zz_600, zz_1280, zz_1000000, nI_add, n_mul, n_sub, fa_or, fa_and, fb_xorI, n_div, n_rem, n_le, n_lt, n_eq, n_shl1, n_shr, n_andn, n_ix, n_grd, n_gdz, n_gbz, n_hasM, n_hasC, b2_0, b2_1, n_m1, Option.bind_some, bS_inl, bS_inr, n_max, n_min, n_grt, n_les, h0]
    rw [if_pos (by omega)]
theorem ndfs_bit (g : Nat → Nat) (i : Nat) (s : Nat) : ∀ n, (fo (fun k s => ndf s (2 ^ g k)) s n).testBit i = true ↔ s.testBit i = true ∧ ∀ k, k < n → g k ≠ i
  | 0 => by simp [fo]
  | n + 1 => by
    rw [fo, ndf_bit, Bool.and_eq_true, ndfs_bit g i s n, pow_bit]
    constructor
    · rintro ⟨⟨h1, h2⟩, h3⟩
      refine ⟨h1, fun k hk e => ?_⟩
      by_cases hkn : k = n
      · rw [hkn] at e; rw [e] at h3; simp at h3
      · exact h2 k (by omega) e
    · rintro ⟨h1, h2⟩
      refine ⟨⟨h1, fun k hk => h2 k (by omega)⟩, ?_⟩
      have := h2 n (by omega)
      simp only [Bool.not_eq_true', decide_eq_false_iff_not]
      exact fun e => this e.symm
theorem M_forNone {W : Cn} {st c : Nat} {mm : Mm} (h : VM W st c mm) (wf : WF W) : m_X12_forNone mm = some (nI (noz (cB W) (fk W))) := by
  obtain ⟨⟨hc, v23⟩, v24, v25, v26, v56, v57, v58, v59, v60, v61, v62, v20, v28⟩ := h
  obtain ⟨f1, f2, f3, f4, f5, f6, f7, f8, f9, f10, f11⟩ := wf
  have hp := Nat.two_pow_pos (fk W)
  unfold m_X12_forNone
  simp (disch := omega) only [zz_0, zz_1, zz_2, zz_3, zz_4, zz_5, zz_6, zz_7, zz_8, zz_9, zz_10, zz_11, zz_12, zz_13, zz_14, zz_15, zz_16, zz_20, zz_24, zz_25, zz_26, zz_28, zz_31, zz_32, zz_36, zz_39, zz_40, zz_48, zz_49, zz_50, zz_57, zz_59, zz_60, zz_64, zz_72, zz_97, zz_99, zz_100, zz_122, zz_144, zz_161, zz_255, zz_256, zz_288, zz_322, zz_384, zz_400, zz_448, zz_600, zz_1280, zz_1000000, nI_add, n_mul, n_sub, fa_or, fa_and, fb_xorI, n_div, n_rem, n_le, n_lt, n_eq, n_shl1, n_shr, n_andn, n_ix, n_grd, n_gdz, n_gbz, n_hasM, n_hasC, b2_0, b2_1, n_m1, Option.bind_some, bS_inl, bS_inr, n_max, n_min, n_grt, n_les, v23, v24, v25, v26, v56, v57, v58, v59, v60, v61, v62, v20, v28, o_id]
  refine (loop_fo (fun (x : Nat) i => (nI x, nI i)) (fun k s => ndf s (2 ^ bd W k)) (2 ^ fk W - 1) (oa W) (fun x => nI x) (fun i x => True) rfl (FU_big (by omega)) trivial (fun _ _ _ _ => trivial) ?_ ?_).trans ?_
  · intro i x hi hx
    have g1 := f10 i
    unfold m_X12_forNone_b11
    simp (disch := omega) only [zz_0, zz_1, zz_2, zz_3, zz_4, zz_5, zz_6, zz_7, zz_8, zz_9, zz_10, zz_11, zz_12, zz_13, zz_14, zz_15, zz_16, zz_20, zz_24, zz_25, zz_26, zz_28, zz_31, zz_32, zz_36, zz_39, zz_40, zz_48, zz_49, zz_50, zz_57, zz_59, zz_60, zz_64, zz_72, zz_97, zz_99, zz_100, zz_122, zz_144, zz_161, zz_255, zz_256, zz_288, zz_322, zz_384, zz_400, zz_448, zz_600, zz_1280, zz_1000000, nI_add, n_mul, n_sub, fa_or, fa_and, fb_xorI, n_div, n_rem, n_le, n_lt, n_eq, n_shl1, n_shr, n_andn, n_ix, n_grd, n_gdz, n_gbz, n_hasM, n_hasC, b2_0, b2_1, n_m1, Option.bind_some, bS_inl, bS_inr, n_max, n_min, n_grt, n_les, v23, v24, v25, v26, v56, v57, v58, v59, v60, v61, v62, v20, v28]
    rw [if_neg (by omega)]
  · intro x hx
    unfold m_X12_forNone_b11
    simp (disch := omega) only [zz_0, zz_1, zz_2, zz_3, zz_4, zz_5, zz_6, zz_7, zz_8, zz_9, zz_10, zz_11, zz_12, zz_13, zz_14, zz_15, zz_16, zz_20, zz_24, zz_25, zz_26, zz_28, zz_31, zz_32, zz_36, zz_39, zz_40, zz_48, zz_49, zz_50, zz_57, zz_59, zz_60, zz_64, zz_72, zz_97, zz_99, zz_100, zz_122, zz_144, zz_161, zz_255, zz_256, zz_288, zz_322, zz_384, zz_400, zz_448, zz_600, zz_1280, zz_1000000, nI_add, n_mul, n_sub, fa_or, fa_and, fb_xorI, n_div, n_rem, n_le, n_lt, n_eq, n_shl1, n_shr, n_andn, n_ix, n_grd, n_gdz, n_gbz, n_hasM, n_hasC, b2_0, b2_1, n_m1, Option.bind_some, bS_inl, bS_inr, n_max, n_min, n_grt, n_les, v23, v24, v25, v26, v56, v57, v58, v59, v60, v61, v62, v20, v28]
    rw [if_pos (by omega)]
  · congr 2
    apply Nat.eq_of_testBit_eq
    intro i
    rw [Bool.eq_iff_iff, ndfs_bit, noz_bit, Nat.testBit_two_pow_sub_one]
    unfold cB
    rw [fb_ct_zero]
    simp only [decide_eq_true_eq, decide_eq_false_iff_not, ne_eq]
theorem M_silent {W : Cn} {st c : Nat} {mm : Mm} (h : VM W st c mm) (wf : WF W) : m_X12_silent mm = some (nI (noz (cS W) (fk W))) := by
  obtain ⟨⟨hc, v23⟩, v24, v25, v26, v56, v57, v58, v59, v60, v61, v62, v20, v28⟩ := h
  obtain ⟨f1, f2, f3, f4, f5, f6, f7, f8, f9, f10, f11⟩ := wf
  have hp := Nat.two_pow_pos (fk W)
  unfold m_X12_silent
  simp (disch := omega) only [zz_0, zz_1, zz_2, zz_3, zz_4, zz_5, zz_6, zz_7, zz_8, zz_9, zz_10, zz_11, zz_12, zz_13, zz_14, zz_15, zz_16, zz_20, zz_24, zz_25, zz_26, zz_28, zz_31, zz_32, zz_36, zz_39, zz_40, zz_48, zz_49, zz_50, zz_57, zz_59, zz_60, zz_64, zz_72, zz_97, zz_99, zz_100, zz_122, zz_144, zz_161, zz_255, zz_256, zz_288, zz_322, zz_384, zz_400, zz_448, zz_600, zz_1280, zz_1000000, nI_add, n_mul, n_sub, fa_or, fa_and, fb_xorI, n_div, n_rem, n_le, n_lt, n_eq, n_shl1, n_shr, n_andn, n_ix, n_grd, n_gdz, n_gbz, n_hasM, n_hasC, b2_0, b2_1, n_m1, Option.bind_some, bS_inl, bS_inr, n_max, n_min, n_grt, n_les, v23, v24, v25, v26, v56, v57, v58, v59, v60, v61, v62, v20, v28, o_id]
  refine (loop_fo (fun (x : Nat) i => (nI x, nI i)) (fun k s => ndf s (2 ^ sw W k)) (2 ^ fk W - 1) (oa W) (fun x => nI x) (fun i x => True) rfl (FU_big (by omega)) trivial (fun _ _ _ _ => trivial) ?_ ?_).trans ?_
  · intro i x hi hx
    have g1 := f9 i
    unfold m_X12_silent_b11
    simp (disch := omega) only [zz_0, zz_1, zz_2, zz_3, zz_4, zz_5, zz_6, zz_7, zz_8, zz_9, zz_10, zz_11, zz_12, zz_13, zz_14, zz_15, zz_16, zz_20, zz_24, zz_25, zz_26, zz_28, zz_31, zz_32, zz_36, zz_39, zz_40, zz_48, zz_49, zz_50, zz_57, zz_59, zz_60, zz_64, zz_72, zz_97, zz_99, zz_100, zz_122, zz_144, zz_161, zz_255, zz_256, zz_288, zz_322, zz_384, zz_400, zz_448, zz_600, zz_1280, zz_1000000, nI_add, n_mul, n_sub, fa_or, fa_and, fb_xorI, n_div, n_rem, n_le, n_lt, n_eq, n_shl1, n_shr, n_andn, n_ix, n_grd, n_gdz, n_gbz, n_hasM, n_hasC, b2_0, b2_1, n_m1, Option.bind_some, bS_inl, bS_inr, n_max, n_min, n_grt, n_les, v23, v24, v25, v26, v56, v57, v58, v59, v60, v61, v62, v20, v28]
    rw [if_neg (by omega)]
  · intro x hx
    unfold m_X12_silent_b11
    simp (disch := omega) only [zz_0, zz_1, zz_2, zz_3, zz_4, zz_5, zz_6, zz_7, zz_8, zz_9, zz_10, zz_11, zz_12, zz_13, zz_14, zz_15, zz_16, zz_20, zz_24, zz_25, zz_26, zz_28, zz_31, zz_32, zz_36, zz_39, zz_40, zz_48, zz_49, zz_50, zz_57, zz_59, zz_60, zz_64, zz_72, zz_97, zz_99, zz_100, zz_122, zz_144, zz_161, zz_255, zz_256, zz_288, zz_322, zz_384, zz_400, zz_448, zz_600, zz_1280, zz_1000000, nI_add, n_mul, n_sub, fa_or, fa_and, fb_xorI, n_div, n_rem, n_le, n_lt, n_eq, n_shl1, n_shr, n_andn, n_ix, n_grd, n_gdz, n_gbz, n_hasM, n_hasC, b2_0, b2_1, n_m1, Option.bind_some, bS_inl, bS_inr, n_max, n_min, n_grt, n_les, v23, v24, v25, v26, v56, v57, v58, v59, v60, v61, v62, v20, v28]
    rw [if_pos (by omega)]
  · congr 2
    apply Nat.eq_of_testBit_eq
    intro i
    rw [Bool.eq_iff_iff, ndfs_bit, noz_bit, Nat.testBit_two_pow_sub_one]
    unfold cS
    rw [fb_ct_zero]
    simp only [decide_eq_true_eq, decide_eq_false_iff_not, ne_eq]
/-- the first of the greatest, above 0 -/
def grt1 (f : Nat → Nat) (n : Nat) : Option Nat × Nat := fo (fun i x => if f i ≤ x.2 then x else (some i, f i)) (none, 0) n
theorem grt1_b {f : Nat → Nat} {b : Nat} (hb : ∀ p, f p < b) : ∀ n, (grt1 f n).2 < b ∨ (grt1 f n).2 = 0
  | 0 => Or.inr rfl
  | n + 1 => by
    have ih := grt1_b hb n
    have h1 := hb n
    have e : grt1 f (n + 1) = if f n ≤ (grt1 f n).2 then grt1 f n else (some n, f n) := rfl
    rw [e]
    split
    · exact ih
    · exact Or.inl h1
theorem C_greatest {S : Sk} {mm : Mm} {a : Nat} (hk : (sK S a).2 = 6) (f : Nat → Nat) {n : Nat} (hn : n ≤ 6) (hv : ∀ p, p < n → mI mm a p = nI (f p)) (hb : ∀ p, f p < 1000) : m_X11_greatest S a (nI n) mm = some (enc1 (grt1 f n).1) := by
  unfold m_X11_greatest
  rw [o_id]
  refine loop_fo (fun (x : Option Nat × Nat) i => (enc1 x.1, nI x.2, nI i)) (fun i x => if f i ≤ x.2 then x else (some i, f i)) (none, 0) n (fun x => enc1 x.1) (fun i x => x.2 < 1000) rfl (FU_big (by omega)) (by decide) ?_ ?_ ?_
  · intro i x hi hx
    have := hb i
    split
    · exact hx
    · exact this
  · intro i x hi hx
    have k1 := hb i
    unfold m_X11_greatest_b7
    simp (disch := omega) only [zz_0, zz_1, zz_2, zz_3, zz_4, zz_5, zz_6, zz_7, zz_8, zz_9, zz_10, zz_11, zz_12, zz_13, zz_14, zz_15, zz_16, zz_20, zz_24, zz_25, zz_26, zz_28, zz_31, zz_32, zz_36, zz_39, zz_40, zz_48, zz_49, zz_50, zz_57, zz_59, zz_60, zz_64, zz_72, zz_97, zz_99, zz_100, zz_122, zz_144, zz_161, zz_255, zz_256, zz_288, zz_322, zz_384, zz_400, zz_448, zz_600, zz_1280, zz_1000000, nI_add, n_mul, n_sub, fa_or, fa_and, fb_xorI, n_div, n_rem, n_le, n_lt, n_eq, n_shl1, n_shr, n_andn, n_ix, n_grd, n_gdz, n_gbz, n_hasM, n_hasC, b2_0, b2_1, n_m1, Option.bind_some, bS_inl, bS_inr, n_max, n_min, n_grt, n_les, hk, hv, show Int32.ofNat 6 = nI 6 from rfl]
    rw [if_neg (by omega), if_neg (by omega)]
    by_cases k2 : f i ≤ x.2
    · simp only [k2, if_true, Option.bind_some]
    · simp only [k2, if_false, Option.bind_some]; rfl
  · intro x hx
    unfold m_X11_greatest_b7
    simp (disch := omega) only [zz_0, zz_1, zz_2, zz_3, zz_4, zz_5, zz_6, zz_7, zz_8, zz_9, zz_10, zz_11, zz_12, zz_13, zz_14, zz_15, zz_16, zz_20, zz_24, zz_25, zz_26, zz_28, zz_31, zz_32, zz_36, zz_39, zz_40, zz_48, zz_49, zz_50, zz_57, zz_59, zz_60, zz_64, zz_72, zz_97, zz_99, zz_100, zz_122, zz_144, zz_161, zz_255, zz_256, zz_288, zz_322, zz_384, zz_400, zz_448, zz_600, zz_1280, zz_1000000, nI_add, n_mul, n_sub, fa_or, fa_and, fb_xorI, n_div, n_rem, n_le, n_lt, n_eq, n_shl1, n_shr, n_andn, n_ix, n_grd, n_gdz, n_gbz, n_hasM, n_hasC, b2_0, b2_1, n_m1, Option.bind_some, bS_inl, bS_inr, n_max, n_min, n_grt, n_les]
    rw [if_pos (by omega)]
def kcnt (W : Cn) (k : Nat) : Nat → Nat := if k = 0 then cS W else if k = 1 then cB W else cL W
theorem cnt_b {W : Cn} (wf : WF W) (k p : Nat) : kcnt W k p < 100 := by
  have h1 := fb_ct_le (fun k => decide (sw W k = p)) (oa W)
  have h2 := fb_ct_le (fun k => decide (bd W k = p)) (oa W)
  have h3 := fb_ct_le (fun q => (lk W q).testBit p) (fk W)
  obtain ⟨f1, f2, f3, f4, f5, f6, f7, f8, f9, f10, f11⟩ := wf
  unfold kcnt
  split
  · unfold cS; omega
  · split
    · unfold cB; omega
    · unfold cL; omega
theorem M_mostly {W : Cn} {st c : Nat} {mm : Mm} (h : VM W st c mm) (wf : WF W) {k : Nat} (hk : k < 3) : m_X12_mostly (nI k) mm = some (enc1 (grt1 (kcnt W k) (fk W)).1) := by
  have cb := cnt_b wf k
  obtain ⟨⟨hc, v23⟩, v24, v25, v26, v56, v57, v58, v59, v60, v61, v62, v20, v28⟩ := h
  obtain ⟨f1, f2, f3, f4, f5, f6, f7, f8, f9, f10, f11⟩ := wf
  unfold m_X12_mostly
  rw [o_id]
  refine loop_fo (fun (x : Option Nat × Nat) i => (enc1 x.1, nI x.2, nI i)) (fun i x => if kcnt W k i ≤ x.2 then x else (some i, kcnt W k i)) (none, 0) (fk W) (fun x => enc1 x.1) (fun i x => x.2 < 1000) rfl (FU_big (by omega)) (by decide) ?_ ?_ ?_
  · intro i x hi hx
    have := cb i
    split
    · exact hx
    · omega
  · intro p x hp hx
    have k1 := cb p
    unfold m_X12_mostly_b7
    simp (disch := omega) only [zz_0, zz_1, zz_2, zz_3, zz_4, zz_5, zz_6, zz_7, zz_8, zz_9, zz_10, zz_11, zz_12, zz_13, zz_14, zz_15, zz_16, zz_20, zz_24, zz_25, zz_26, zz_28, zz_31, zz_32, zz_36, zz_39, zz_40, zz_48, zz_49, zz_50, zz_57, zz_59, zz_60, zz_64, zz_72, zz_97, zz_99, zz_100, zz_122, zz_144, zz_161, zz_255, zz_256, zz_288, zz_322, zz_384, zz_400, zz_448, zz_600, zz_1280, zz_1000000, nI_add, n_mul, n_sub, fa_or, fa_and, fb_xorI, n_div, n_rem, n_le, n_lt, n_eq, n_shl1, n_shr, n_andn, n_ix, n_grd, n_gdz, n_gbz, n_hasM, n_hasC, b2_0, b2_1, n_m1, Option.bind_some, bS_inl, bS_inr, n_max, n_min, n_grt, n_les, v23, v24, v25, v26, v56, v57, v58, v59, v60, v61, v62, v20, v28]
    rw [if_neg (by omega)]
    have w1 : whileF FU (m_X12_mostly_b22 (nI k) mm (enc1 x.1, nI x.2, nI p)) (nI 0, nI 0) = some (nI (if k < 2 then kcnt W k p else 0)) := by
      by_cases k2 : k < 2
      · rw [if_pos k2]
        refine (loop_fo (fun (x : Nat) i => (nI x, nI i)) (fun j y => y + if (if k = 0 then decide (sw W j = p) else decide (bd W j = p)) then 1 else 0) 0 (oa W) (fun x => nI x) (fun i x => True) rfl (FU_big (by omega)) trivial (fun _ _ _ _ => trivial) ?_ ?_).trans ?_
        · intro j y hj hy
          have g1 := f9 j
          have g2 := f10 j
          unfold m_X12_mostly_b22
          simp (disch := omega) only [zz_0, zz_1, zz_2, zz_3, zz_4, zz_5, zz_6, zz_7, zz_8, zz_9, zz_10, zz_11, zz_12, zz_13, zz_14, zz_15, zz_16, zz_20, zz_24, zz_25, zz_26, zz_28, zz_31, zz_32, zz_36, zz_39, zz_40, zz_48, zz_49, zz_50, zz_57, zz_59, zz_60, zz_64, zz_72, zz_97, zz_99, zz_100, zz_122, zz_144, zz_161, zz_255, zz_256, zz_288, zz_322, zz_384, zz_400, zz_448, zz_600, zz_1280, zz_1000000, nI_add, n_mul, n_sub, fa_or, fa_and, fb_xorI, n_div, n_rem, n_le, n_lt, n_eq, n_shl1, n_shr, n_andn, n_ix, n_grd, n_gdz, n_gbz, n_hasM, n_hasC, b2_0, b2_1, n_m1, Option.bind_some, bS_inl, bS_inr, n_max, n_min, n_grt, n_les, v23, v24, v25, v26, v56, v57, v58, v59, v60, v61, v62, v20, v28]
          rw [if_neg (by omega), if_neg (by omega)]
          by_cases k3 : k = 0
          · simp (disch := omega) only [k3, if_true, Option.bind_some, n_eq]
            by_cases k4 : sw W j = p <;> simp [k4, nI_add]
          · simp (disch := omega) only [k3, if_false, Option.bind_some, n_eq]
            by_cases k4 : bd W j = p <;> simp [k4, nI_add]
        · intro y hy
          unfold m_X12_mostly_b22
          simp (disch := omega) only [zz_0, zz_1, zz_2, zz_3, zz_4, zz_5, zz_6, zz_7, zz_8, zz_9, zz_10, zz_11, zz_12, zz_13, zz_14, zz_15, zz_16, zz_20, zz_24, zz_25, zz_26, zz_28, zz_31, zz_32, zz_36, zz_39, zz_40, zz_48, zz_49, zz_50, zz_57, zz_59, zz_60, zz_64, zz_72, zz_97, zz_99, zz_100, zz_122, zz_144, zz_161, zz_255, zz_256, zz_288, zz_322, zz_384, zz_400, zz_448, zz_600, zz_1280, zz_1000000, nI_add, n_mul, n_sub, fa_or, fa_and, fb_xorI, n_div, n_rem, n_le, n_lt, n_eq, n_shl1, n_shr, n_andn, n_ix, n_grd, n_gdz, n_gbz, n_hasM, n_hasC, b2_0, b2_1, n_m1, Option.bind_some, bS_inl, bS_inr, n_max, n_min, n_grt, n_les, v23, v24, v25, v26, v56, v57, v58, v59, v60, v61, v62, v20, v28]
          rw [if_pos (by omega)]
        · rw [fo_ct]
          unfold kcnt cS cB
          by_cases k3 : k = 0
          · simp [k3]
          · rw [if_neg k3, if_pos (show k = 1 by omega)]; simp [k3]
      · rw [if_neg k2]
        refine loop_seq (fun _ : Nat => (nI 0, nI 0)) 0 rfl (FU_big (by omega)) (fun i hi => by omega) ?_
        unfold m_X12_mostly_b22
        simp (disch := omega) only [zz_0, zz_1, zz_2, zz_3, zz_4, zz_5, zz_6, zz_7, zz_8, zz_9, zz_10, zz_11, zz_12, zz_13, zz_14, zz_15, zz_16, zz_20, zz_24, zz_25, zz_26, zz_28, zz_31, zz_32, zz_36, zz_39, zz_40, zz_48, zz_49, zz_50, zz_57, zz_59, zz_60, zz_64, zz_72, zz_97, zz_99, zz_100, zz_122, zz_144, zz_161, zz_255, zz_256, zz_288, zz_322, zz_384, zz_400, zz_448, zz_600, zz_1280, zz_1000000, nI_add, n_mul, n_sub, fa_or, fa_and, fb_xorI, n_div, n_rem, n_le, n_lt, n_eq, n_shl1, n_shr, n_andn, n_ix, n_grd, n_gdz, n_gbz, n_hasM, n_hasC, b2_0, b2_1, n_m1, Option.bind_some, bS_inl, bS_inr, n_max, n_min, n_grt, n_les, v23, v24, v25, v26, v56, v57, v58, v59, v60, v61, v62, v20, v28]
        rw [if_pos (show 2 ≤ k by omega)]
        split <;> rfl
    rw [w1]
    simp only [Option.bind_some]
    have w2 : whileF FU (m_X12_mostly_b81 (nI k) mm (enc1 x.1, nI x.2, nI p)) (nI (if k < 2 then kcnt W k p else 0), nI 0) = some (nI (kcnt W k p)) := by
      by_cases k2 : k < 2
      · rw [if_pos k2]
        refine loop_seq (fun _ : Nat => (nI (kcnt W k p), nI 0)) 0 rfl (FU_big (by omega)) (fun i hi => by omega) ?_
        unfold m_X12_mostly_b81
        simp (disch := omega) only [zz_0, zz_1, zz_2, zz_3, zz_4, zz_5, zz_6, zz_7, zz_8, zz_9, zz_10, zz_11, zz_12, zz_13, zz_14, zz_15, zz_16, zz_20, zz_24, zz_25, zz_26, zz_28, zz_31, zz_32, zz_36, zz_39, zz_40, zz_48, zz_49, zz_50, zz_57, zz_59, zz_60, zz_64, zz_72, zz_97, zz_99, zz_100, zz_122, zz_144, zz_161, zz_255, zz_256, zz_288, zz_322, zz_384, zz_400, zz_448, zz_600, zz_1280, zz_1000000, nI_add, n_mul, n_sub, fa_or, fa_and, fb_xorI, n_div, n_rem, n_le, n_lt, n_eq, n_shl1, n_shr, n_andn, n_ix, n_grd, n_gdz, n_gbz, n_hasM, n_hasC, b2_0, b2_1, n_m1, Option.bind_some, bS_inl, bS_inr, n_max, n_min, n_grt, n_les, v23, v24, v25, v26, v56, v57, v58, v59, v60, v61, v62, v20, v28]
        rw [if_neg (show ¬ fk W ≤ 0 by omega), if_neg (show ¬ k = 2 by omega)]
      · rw [if_neg k2]
        refine (loop_fo (fun (x : Nat) i => (nI x, nI i)) (fun j y => y + if (lk W j).testBit p then 1 else 0) 0 (fk W) (fun x => nI x) (fun i x => True) rfl (FU_big (by omega)) trivial (fun _ _ _ _ => trivial) ?_ ?_).trans ?_
        · intro j y hj hy
          have g1 := f5 j
          unfold m_X12_mostly_b81
          simp (disch := omega) only [zz_0, zz_1, zz_2, zz_3, zz_4, zz_5, zz_6, zz_7, zz_8, zz_9, zz_10, zz_11, zz_12, zz_13, zz_14, zz_15, zz_16, zz_20, zz_24, zz_25, zz_26, zz_28, zz_31, zz_32, zz_36, zz_39, zz_40, zz_48, zz_49, zz_50, zz_57, zz_59, zz_60, zz_64, zz_72, zz_97, zz_99, zz_100, zz_122, zz_144, zz_161, zz_255, zz_256, zz_288, zz_322, zz_384, zz_400, zz_448, zz_600, zz_1280, zz_1000000, nI_add, n_mul, n_sub, fa_or, fa_and, fb_xorI, n_div, n_rem, n_le, n_lt, n_eq, n_shl1, n_shr, n_andn, n_ix, n_grd, n_gdz, n_gbz, n_hasM, n_hasC, b2_0, b2_1, n_m1, Option.bind_some, bS_inl, bS_inr, n_max, n_min, n_grt, n_les, v23, v24, v25, v26, v56, v57, v58, v59, v60, v61, v62, v20, v28]
          rw [if_neg (by omega), if_pos (show k = 2 by omega)]
          cases k4 : (lk W j).testBit p <;> simp [nI_add]
        · intro y hy
          unfold m_X12_mostly_b81
          simp (disch := omega) only [zz_0, zz_1, zz_2, zz_3, zz_4, zz_5, zz_6, zz_7, zz_8, zz_9, zz_10, zz_11, zz_12, zz_13, zz_14, zz_15, zz_16, zz_20, zz_24, zz_25, zz_26, zz_28, zz_31, zz_32, zz_36, zz_39, zz_40, zz_48, zz_49, zz_50, zz_57, zz_59, zz_60, zz_64, zz_72, zz_97, zz_99, zz_100, zz_122, zz_144, zz_161, zz_255, zz_256, zz_288, zz_322, zz_384, zz_400, zz_448, zz_600, zz_1280, zz_1000000, nI_add, n_mul, n_sub, fa_or, fa_and, fb_xorI, n_div, n_rem, n_le, n_lt, n_eq, n_shl1, n_shr, n_andn, n_ix, n_grd, n_gdz, n_gbz, n_hasM, n_hasC, b2_0, b2_1, n_m1, Option.bind_some, bS_inl, bS_inr, n_max, n_min, n_grt, n_les, v23, v24, v25, v26, v56, v57, v58, v59, v60, v61, v62, v20, v28]
          rw [if_pos (by omega)]
        · rw [fo_ct]
          unfold kcnt cL
          rw [if_neg (by omega), if_neg (by omega)]
    rw [w2]
    simp (disch := omega) only [Option.bind_some, n_le, n_grt, nI_add]
    by_cases k2 : kcnt W k p ≤ x.2
    · simp only [k2, if_true, Nat.max_eq_left]
    · simp only [k2, if_false, Nat.max_eq_right (Nat.le_of_lt (Nat.lt_of_not_le k2))]; rfl
  · intro x hx
    unfold m_X12_mostly_b7
    simp (disch := omega) only [zz_0, zz_1, zz_2, zz_3, zz_4, zz_5, zz_6, zz_7, zz_8, zz_9, zz_10, zz_11, zz_12, zz_13, zz_14, zz_15, zz_16, zz_20, zz_24, zz_25, zz_26, zz_28, zz_31, zz_32, zz_36, zz_39, zz_40, zz_48, zz_49, zz_50, zz_57, zz_59, zz_60, zz_64, zz_72, zz_97, zz_99, zz_100, zz_122, zz_144, zz_161, zz_255, zz_256, zz_288, zz_322, zz_384, zz_400, zz_448, zz_600, zz_1280, zz_1000000, nI_add, n_mul, n_sub, fa_or, fa_and, fb_xorI, n_div, n_rem, n_le, n_lt, n_eq, n_shl1, n_shr, n_andn, n_ix, n_grd, n_gdz, n_gbz, n_hasM, n_hasC, b2_0, b2_1, n_m1, Option.bind_some, bS_inl, bS_inr, n_max, n_min, n_grt, n_les, v23, v24, v25, v26, v56, v57, v58, v59, v60, v61, v62, v20, v28]
    rw [if_pos (by omega)]
theorem M_hasSworn {W : Cn} {st c : Nat} {mm : Mm} (h : VM W st c mm) (wf : WF W) {a b : Nat} (ha : a < 6) (hb : b < 6) : m_X12_hasSworn (nI a) (nI b) mm = some (b2 ((swr W a).testBit b)) := by
  obtain ⟨⟨hc, v23⟩, v24, v25, v26, v56, v57, v58, v59, v60, v61, v62, v20, v28⟩ := h
  obtain ⟨f1, f2, f3, f4, f5, f6, f7, f8, f9, f10, f11⟩ := wf
  unfold m_X12_hasSworn
  have hw : whileF FU (m_X12_hasSworn_b5 (nI a) (nI b) mm) (0, 0) = some (b2 ((swr W a).testBit b)) := by
    refine (loop_fo (fun (x : Bool) i => (b2 x, nI i)) (fun k x => x || decide (sw W k = a ∧ bd W k = b)) false (oa W) (fun x => b2 x) (fun i x => True) rfl (FU_big (by omega)) trivial (fun _ _ _ _ => trivial) ?_ ?_).trans ?_
    · intro i x hi hx
      have g1 := f9 i
      have g2 := f10 i
      unfold m_X12_hasSworn_b5
      simp (disch := omega) only [zz_0, zz_1, zz_2, zz_3, zz_4, zz_5, zz_6, zz_7, zz_8, zz_9, zz_10, zz_11, zz_12, zz_13, zz_14, zz_15, zz_16, zz_20, zz_24, zz_25, zz_26, zz_28, zz_31, zz_32, zz_36, zz_39, zz_40, zz_48, zz_49, zz_50, zz_57, zz_59, zz_60, zz_64, zz_72, zz_97, zz_99, zz_100, zz_122, zz_144, zz_161, zz_255, zz_256, zz_288, zz_322, zz_384, zz_400, zz_448, zz_600, zz_1280, zz_1000000, nI_add, n_mul, n_sub, fa_or, fa_and, fb_xorI, n_div, n_rem, n_le, n_lt, n_eq, n_shl1, n_shr, n_andn, n_ix, n_grd, n_gdz, n_gbz, n_hasM, n_hasC, b2_0, b2_1, n_m1, Option.bind_some, bS_inl, bS_inr, n_max, n_min, n_grt, n_les, v23, v24, v25, v26, v56, v57, v58, v59, v60, v61, v62, v20, v28]
      rw [if_neg (by omega)]
      cases x <;> by_cases k1 : sw W i = a <;> by_cases k2 : bd W i = b <;> simp [k1, k2, b2]
    · intro x hx
      unfold m_X12_hasSworn_b5
      simp (disch := omega) only [zz_0, zz_1, zz_2, zz_3, zz_4, zz_5, zz_6, zz_7, zz_8, zz_9, zz_10, zz_11, zz_12, zz_13, zz_14, zz_15, zz_16, zz_20, zz_24, zz_25, zz_26, zz_28, zz_31, zz_32, zz_36, zz_39, zz_40, zz_48, zz_49, zz_50, zz_57, zz_59, zz_60, zz_64, zz_72, zz_97, zz_99, zz_100, zz_122, zz_144, zz_161, zz_255, zz_256, zz_288, zz_322, zz_384, zz_400, zz_448, zz_600, zz_1280, zz_1000000, nI_add, n_mul, n_sub, fa_or, fa_and, fb_xorI, n_div, n_rem, n_le, n_lt, n_eq, n_shl1, n_shr, n_andn, n_ix, n_grd, n_gdz, n_gbz, n_hasM, n_hasC, b2_0, b2_1, n_m1, Option.bind_some, bS_inl, bS_inr, n_max, n_min, n_grt, n_les, v23, v24, v25, v26, v56, v57, v58, v59, v60, v61, v62, v20, v28]
      rw [if_pos (by omega)]
    · congr 2
      have key : ∀ n, fo (fun k x => x || decide (sw W k = a ∧ bd W k = b)) false n = true ↔ ∃ k, k < n ∧ sw W k = a ∧ bd W k = b := by
        intro n
        induction n with
        | zero => simp [fo]
        | succ n ih =>
          rw [fo, Bool.or_eq_true, ih, decide_eq_true_eq]
          constructor
          · rintro (⟨k, h1, h2⟩ | h)
            · exact ⟨k, by omega, h2⟩
            · exact ⟨n, by omega, h⟩
          · rintro ⟨k, h1, h2⟩
            by_cases e : k = n
            · right; rw [← e]; exact h2
            · left; exact ⟨k, by omega, h2⟩
      rw [Bool.eq_iff_iff, key, swr_bit]
  rw [hw]
  simp only [Option.bind_some, n_gbz]
def mtl (W : Cn) (p q : Nat) : Bool := (swr W p).testBit q && (swr W q).testBit p
theorem fo_sm (f : Nat → Nat) : ∀ n, fo (fun i x => x + f i) 0 n = fb_sm f n
  | 0 => rfl
  | n + 1 => by rw [fo, fb_sm, fo_sm f n]
theorem fo_add (f : Nat → Nat) (x : Nat) : ∀ n, fo (fun i y => y + f i) x n = x + fb_sm f n
  | 0 => rfl
  | n + 1 => by rw [fo, fb_sm, fo_add f x n, Nat.add_assoc]
theorem ct_sm (p : Nat → Bool) : ∀ n, fb_ct p n = fb_sm (fun i => if p i then 1 else 0) n
  | 0 => rfl
  | n + 1 => by rw [fb_ct, fb_sm, ct_sm p n]
theorem mut_sum {g : Nat → Nat → Bool} (hs : ∀ a b, g a b = g b a) : ∀ n, fb_sm (fun p => fb_ct (fun i => g p (p + 1 + i)) (n - (p + 1))) n = fb_sm (fun a => fb_ct (fun b => g a b) a) n
  | 0 => rfl
  | n + 1 => by
    rw [fb_sm_succ, fb_sm_succ, ← mut_sum hs n, show n + 1 - (n + 1) = 0 by omega]
    have e : fb_sm (fun p => fb_ct (fun i => g p (p + 1 + i)) (n + 1 - (p + 1))) n = fb_sm (fun p => fb_ct (fun i => g p (p + 1 + i)) (n - (p + 1)) + (if g n p then 1 else 0)) n := fb_sm_cong (fun p hp => by
      rw [show n + 1 - (p + 1) = n - (p + 1) + 1 by omega, fb_ct_succ, show p + 1 + (n - (p + 1)) = n by omega, hs p n])
    rw [e, fb_sm_add, ct_sm (fun b => g n b) n]
    rfl
theorem C_mutual {W : Cn} {mm : Mm} (h : VB W mm) (wf : WF W) : m_X0_mutual mm = some (nI (fb_sm (fun a => fb_ct (fun b => mtl W a b) a) (fk W))) := by
  obtain ⟨b0, b26, b27, b28, b29⟩ := h
  have hf := wf.1
  have sb := swr_b wf
  unfold m_X0_mutual
  rw [o_id]
  refine (loop_fo (fun (x : Nat) i => (nI x, nI i)) (fun p x => x + fb_ct (fun i => mtl W p (p + 1 + i)) (fk W - (p + 1))) 0 (fk W) (fun x => nI x) (fun i x => True) rfl (FU_big (by omega)) trivial (fun _ _ _ _ => trivial) ?_ ?_).trans ?_
  · intro p x hp hx
    unfold m_X0_mutual_b4
    simp (disch := omega) only [zz_0, zz_1, zz_2, zz_3, zz_4, zz_5, zz_6, zz_7, zz_8, zz_9, zz_10, zz_11, zz_12, zz_13, zz_14, zz_15, zz_16, zz_20, zz_24, zz_25, zz_26, zz_28, zz_31, zz_32, zz_36, zz_39, zz_40, zz_48, zz_49, zz_50, zz_57, zz_59, zz_60, zz_64, zz_72, zz_97, zz_99, zz_100, zz_122, zz_144, zz_161, zz_255, zz_256, zz_288, zz_322, zz_384, zz_400, zz_448, zz_600, zz_1280, zz_1000000, nI_add, n_mul, n_sub, fa_or, fa_and, fb_xorI, n_div, n_rem, n_le, n_lt, n_eq, n_shl1, n_shr, n_andn, n_ix, n_grd, n_gdz, n_gbz, n_hasM, n_hasC, b2_0, b2_1, n_m1, Option.bind_some, bS_inl, bS_inr, n_max, n_min, n_grt, n_les, b0]
    rw [if_neg (by omega)]
    have hw : whileF FU (m_X0_mutual_b16 mm (nI x, nI p)) (nI x, nI (p + 1)) = some (nI (x + fb_ct (fun i => mtl W p (p + 1 + i)) (fk W - (p + 1)))) := by
      refine (loop_fo (fun (y : Nat) i => (nI y, nI (p + 1 + i))) (fun i y => y + if mtl W p (p + 1 + i) then 1 else 0) x (fk W - (p + 1)) (fun x => nI x) (fun i x => True) rfl (FU_big (by omega)) trivial (fun _ _ _ _ => trivial) ?_ ?_).trans ?_
      · intro i y hi hy
        have g1 := sb p
        have g2 := sb (p + 1 + i)
        unfold m_X0_mutual_b16
        simp (disch := omega) only [zz_0, zz_1, zz_2, zz_3, zz_4, zz_5, zz_6, zz_7, zz_8, zz_9, zz_10, zz_11, zz_12, zz_13, zz_14, zz_15, zz_16, zz_20, zz_24, zz_25, zz_26, zz_28, zz_31, zz_32, zz_36, zz_39, zz_40, zz_48, zz_49, zz_50, zz_57, zz_59, zz_60, zz_64, zz_72, zz_97, zz_99, zz_100, zz_122, zz_144, zz_161, zz_255, zz_256, zz_288, zz_322, zz_384, zz_400, zz_448, zz_600, zz_1280, zz_1000000, nI_add, n_mul, n_sub, fa_or, fa_and, fb_xorI, n_div, n_rem, n_le, n_lt, n_eq, n_shl1, n_shr, n_andn, n_ix, n_grd, n_gdz, n_gbz, n_hasM, n_hasC, b2_0, b2_1, n_m1, Option.bind_some, bS_inl, bS_inr, n_max, n_min, n_grt, n_les, b0, b26]
        rw [if_neg (by omega)]
        unfold mtl
        cases k1 : (swr W p).testBit (p + 1 + i) <;> cases k2 : (swr W (p + 1 + i)).testBit p <;> simp [nI_add, Nat.add_assoc]
      · intro y hy
        unfold m_X0_mutual_b16
        simp (disch := omega) only [zz_0, zz_1, zz_2, zz_3, zz_4, zz_5, zz_6, zz_7, zz_8, zz_9, zz_10, zz_11, zz_12, zz_13, zz_14, zz_15, zz_16, zz_20, zz_24, zz_25, zz_26, zz_28, zz_31, zz_32, zz_36, zz_39, zz_40, zz_48, zz_49, zz_50, zz_57, zz_59, zz_60, zz_64, zz_72, zz_97, zz_99, zz_100, zz_122, zz_144, zz_161, zz_255, zz_256, zz_288, zz_322, zz_384, zz_400, zz_448, zz_600, zz_1280, zz_1000000, nI_add, n_mul, n_sub, fa_or, fa_and, fb_xorI, n_div, n_rem, n_le, n_lt, n_eq, n_shl1, n_shr, n_andn, n_ix, n_grd, n_gdz, n_gbz, n_hasM, n_hasC, b2_0, b2_1, n_m1, Option.bind_some, bS_inl, bS_inr, n_max, n_min, n_grt, n_les, b0]
        rw [if_pos (by omega)]
      · rw [fo_add, ← ct_sm]
    rw [hw]
    rfl
  · intro x hx
    unfold m_X0_mutual_b4
    simp (disch := omega) only [zz_0, zz_1, zz_2, zz_3, zz_4, zz_5, zz_6, zz_7, zz_8, zz_9, zz_10, zz_11, zz_12, zz_13, zz_14, zz_15, zz_16, zz_20, zz_24, zz_25, zz_26, zz_28, zz_31, zz_32, zz_36, zz_39, zz_40, zz_48, zz_49, zz_50, zz_57, zz_59, zz_60, zz_64, zz_72, zz_97, zz_99, zz_100, zz_122, zz_144, zz_161, zz_255, zz_256, zz_288, zz_322, zz_384, zz_400, zz_448, zz_600, zz_1280, zz_1000000, nI_add, n_mul, n_sub, fa_or, fa_and, fb_xorI, n_div, n_rem, n_le, n_lt, n_eq, n_shl1, n_shr, n_andn, n_ix, n_grd, n_gdz, n_gbz, n_hasM, n_hasC, b2_0, b2_1, n_m1, Option.bind_some, bS_inl, bS_inr, n_max, n_min, n_grt, n_les, b0]
    rw [if_pos (by omega)]
  · rw [fo_sm, mut_sum]
    intro a b
    unfold mtl
    exact Bool.and_comm _ _
theorem M_mutual {W : Cn} {st c : Nat} {mm : Mm} (h : VM W st c mm) (wf : WF W) : m_X12_mutual mm = some (nI (fb_sm (fun a => fb_ct (fun b => mtl W a b) a) (fk W))) := by
  have hh := fun a b ha hb => @M_hasSworn W st c mm h wf a b ha hb
  obtain ⟨⟨hc, v23⟩, v24, v25, v26, v56, v57, v58, v59, v60, v61, v62, v20, v28⟩ := h
  obtain ⟨f1, f2, f3, f4, f5, f6, f7, f8, f9, f10, f11⟩ := wf
  unfold m_X12_mutual
  rw [o_id]
  refine (loop_fo (fun (x : Nat) i => (nI x, nI i)) (fun p x => x + fb_ct (fun b => mtl W p b) p) 0 (fk W) (fun x => nI x) (fun i x => True) rfl (FU_big (by omega)) trivial (fun _ _ _ _ => trivial) ?_ ?_).trans (by rw [fo_sm])
  · intro p x hp hx
    unfold m_X12_mutual_b4
    simp (disch := omega) only [zz_0, zz_1, zz_2, zz_3, zz_4, zz_5, zz_6, zz_7, zz_8, zz_9, zz_10, zz_11, zz_12, zz_13, zz_14, zz_15, zz_16, zz_20, zz_24, zz_25, zz_26, zz_28, zz_31, zz_32, zz_36, zz_39, zz_40, zz_48, zz_49, zz_50, zz_57, zz_59, zz_60, zz_64, zz_72, zz_97, zz_99, zz_100, zz_122, zz_144, zz_161, zz_255, zz_256, zz_288, zz_322, zz_384, zz_400, zz_448, zz_600, zz_1280, zz_1000000, nI_add, n_mul, n_sub, fa_or, fa_and, fb_xorI, n_div, n_rem, n_le, n_lt, n_eq, n_shl1, n_shr, n_andn, n_ix, n_grd, n_gdz, n_gbz, n_hasM, n_hasC, b2_0, b2_1, n_m1, Option.bind_some, bS_inl, bS_inr, n_max, n_min, n_grt, n_les, v23, v24, v25, v26, v56, v57, v58, v59, v60, v61, v62, v20, v28]
    rw [if_neg (by omega)]
    have hw : whileF FU (m_X12_mutual_b14 mm (nI x, nI p)) (nI x, nI 0) = some (nI (x + fb_ct (fun b => mtl W p b) p)) := by
      refine (loop_fo (fun (y : Nat) i => (nI y, nI i)) (fun i y => y + if mtl W p i then 1 else 0) x p (fun x => nI x) (fun i x => True) rfl (FU_big (by omega)) trivial (fun _ _ _ _ => trivial) ?_ ?_).trans ?_
      · intro i y hi hy
        unfold m_X12_mutual_b14
        simp (disch := omega) only [zz_0, zz_1, zz_2, zz_3, zz_4, zz_5, zz_6, zz_7, zz_8, zz_9, zz_10, zz_11, zz_12, zz_13, zz_14, zz_15, zz_16, zz_20, zz_24, zz_25, zz_26, zz_28, zz_31, zz_32, zz_36, zz_39, zz_40, zz_48, zz_49, zz_50, zz_57, zz_59, zz_60, zz_64, zz_72, zz_97, zz_99, zz_100, zz_122, zz_144, zz_161, zz_255, zz_256, zz_288, zz_322, zz_384, zz_400, zz_448, zz_600, zz_1280, zz_1000000, nI_add, n_mul, n_sub, fa_or, fa_and, fb_xorI, n_div, n_rem, n_le, n_lt, n_eq, n_shl1, n_shr, n_andn, n_ix, n_grd, n_gdz, n_gbz, n_hasM, n_hasC, b2_0, b2_1, n_m1, Option.bind_some, bS_inl, bS_inr, n_max, n_min, n_grt, n_les, hh]
        rw [if_neg (by omega)]
        unfold mtl
        cases k1 : (swr W p).testBit i <;> cases k2 : (swr W i).testBit p <;> simp [nI_add]
      · intro y hy
        unfold m_X12_mutual_b14
        simp (disch := omega) only [zz_0, zz_1, zz_2, zz_3, zz_4, zz_5, zz_6, zz_7, zz_8, zz_9, zz_10, zz_11, zz_12, zz_13, zz_14, zz_15, zz_16, zz_20, zz_24, zz_25, zz_26, zz_28, zz_31, zz_32, zz_36, zz_39, zz_40, zz_48, zz_49, zz_50, zz_57, zz_59, zz_60, zz_64, zz_72, zz_97, zz_99, zz_100, zz_122, zz_144, zz_161, zz_255, zz_256, zz_288, zz_322, zz_384, zz_400, zz_448, zz_600, zz_1280, zz_1000000, nI_add, n_mul, n_sub, fa_or, fa_and, fb_xorI, n_div, n_rem, n_le, n_lt, n_eq, n_shl1, n_shr, n_andn, n_ix, n_grd, n_gdz, n_gbz, n_hasM, n_hasC, b2_0, b2_1, n_m1, Option.bind_some, bS_inl, bS_inr, n_max, n_min, n_grt, n_les]
        rw [if_pos (by omega)]
      · rw [fo_add, ← ct_sm]
    rw [hw]
    rfl
  · intro x hx
    unfold m_X12_mutual_b4
    simp (disch := omega) only [zz_0, zz_1, zz_2, zz_3, zz_4, zz_5, zz_6, zz_7, zz_8, zz_9, zz_10, zz_11, zz_12, zz_13, zz_14, zz_15, zz_16, zz_20, zz_24, zz_25, zz_26, zz_28, zz_31, zz_32, zz_36, zz_39, zz_40, zz_48, zz_49, zz_50, zz_57, zz_59, zz_60, zz_64, zz_72, zz_97, zz_99, zz_100, zz_122, zz_144, zz_161, zz_255, zz_256, zz_288, zz_322, zz_384, zz_400, zz_448, zz_600, zz_1280, zz_1000000, nI_add, n_mul, n_sub, fa_or, fa_and, fb_xorI, n_div, n_rem, n_le, n_lt, n_eq, n_shl1, n_shr, n_andn, n_ix, n_grd, n_gdz, n_gbz, n_hasM, n_hasC, b2_0, b2_1, n_m1, Option.bind_some, bS_inl, bS_inr, n_max, n_min, n_grt, n_les, v23, v24, v25, v26, v56, v57, v58, v59, v60, v61, v62, v20, v28]
    rw [if_pos (by omega)]
