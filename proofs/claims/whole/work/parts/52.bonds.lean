/-! L3: who swore for whom: counts, rings -/
theorem loop_n {σ ρ : Type} {body : σ → Option (σ ⊕ ρ)} (I : Nat → σ → Prop) (P : ρ → Prop) (n : Nat) {a : σ} (hn : n < FU) (h0 : I 0 a) (hs : ∀ i s, i < n → I i s → ∃ s', body s = some (.inl s') ∧ I (i + 1) s') (hx : ∀ s, I n s → ∃ r, body s = some (.inr r) ∧ P r) : ∃ r, whileF FU body a = some r ∧ P r :=
  loop_inv I P n hn h0 (fun i s hi h => Or.inl (hs i s hi h)) hx
theorem fo_or_bit (f : Nat → Nat) (i : Nat) : ∀ n, (fo (fun k s => s ||| f k) 0 n).testBit i = true ↔ ∃ k, k < n ∧ (f k).testBit i = true
  | 0 => by simp [fo]
  | n + 1 => by
    rw [fo, Nat.testBit_or, Bool.or_eq_true, fo_or_bit f i n]
    constructor
    · rintro (⟨k, h1, h2⟩ | h)
      · exact ⟨k, by omega, h2⟩
      · exact ⟨n, by omega, h⟩
    · rintro ⟨k, h1, h2⟩
      by_cases e : k = n
      · right; rw [← e]; exact h2
      · left; exact ⟨k, by omega, h2⟩
theorem ite_bit {c : Prop} [Decidable c] (k i : Nat) : (if c then 2 ^ k else 0).testBit i = true ↔ c ∧ k = i := by
  by_cases h : c
  · simp only [h, if_true, pow_bit, decide_eq_true_eq, true_and]
    exact eq_comm
  · simp [h]
/-- a county as told: its oaths are of its folk -/
def WO (W : Cn) : Prop := oa W ≤ 12 ∧ ∀ k, k < oa W → sw W k < fk W ∧ bd W k < fk W ∧ sw W k ≠ bd W k
def swr (W : Cn) (p : Nat) : Nat := fo (fun k s => s ||| if sw W k = p then 2 ^ bd W k else 0) 0 (oa W)
theorem swr_bit (W : Cn) (p q : Nat) : (swr W p).testBit q = true ↔ ∃ k, k < oa W ∧ sw W k = p ∧ bd W k = q := by
  unfold swr
  rw [fo_or_bit (fun k => if sw W k = p then 2 ^ bd W k else 0)]
  simp only [ite_bit]
theorem swr_b {W : Cn} (wf : WF W) (p : Nat) : swr W p < 64 := by
  refine fo_inv (n := oa W) (fun _ x => x < 2 ^ 6) (by decide) (fun i x hi hx => or_b hx ?_) _ (Nat.le_refl _)
  obtain ⟨f1, f2, f3, f4, f5, f6, f7, f8, f9, f10, f11⟩ := wf
  exact ite_b (f10 i)
def cS (W : Cn) (p : Nat) : Nat := fb_ct (fun k => decide (sw W k = p)) (oa W)
def cB (W : Cn) (p : Nat) : Nat := fb_ct (fun k => decide (bd W k = p)) (oa W)
def cL (W : Cn) (q : Nat) : Nat := fb_ct (fun p => (lk W p).testBit q) (fk W)
def VB (W : Cn) (mm : Mm) : Prop := mI mm 25 1 = nI (fk W) ∧ (∀ p, p < 6 → mI mm 26 p = nI (swr W p)) ∧ (∀ p, p < 6 → mI mm 27 p = nI (cS W p)) ∧ (∀ p, p < 6 → mI mm 28 p = nI (cB W p)) ∧ (∀ q, q < fk W → mI mm 29 q = nI (cL W q))
theorem C_learn {W : Cn} {mm : Mm} (h : VC W mm) (wf : WF W) : ∃ m, m_X0_learn mm = some m ∧ VB W m ∧ VC W m := by
  have hf := wf.1
  unfold m_X0_learn
  rw [h.1]
  have V0 : VC W (sI mm 25 1 (nI (fk W))) := VC_wr h (by omega) _ _
  obtain ⟨m1, e1, V1, g1, z1⟩ := loop_n (body := m_X0_learn_b10) (a := ((0 : Int32), sI mm 25 1 (nI (fk W)))) (fun i z => ∃ m, z = (nI i, m) ∧ VC W m ∧ mI m 25 1 = nI (fk W) ∧ ∀ p, p < i → mI m 26 p = nI 0 ∧ mI m 27 p = nI 0 ∧ mI m 28 p = nI 0 ∧ mI m 29 p = nI 0) (fun m => VC W m ∧ mI m 25 1 = nI (fk W) ∧ ∀ p, p < 6 → mI m 26 p = nI 0 ∧ mI m 27 p = nI 0 ∧ mI m 28 p = nI 0 ∧ mI m 29 p = nI 0) 6 (FU_big (by decide)) ⟨_, rfl, V0, rdI_eq _ _ _ _, fun p hp => absurd hp (Nat.not_lt_zero p)⟩ (by
    rintro i z hi ⟨m, rfl, V, f, hz⟩
    unfold m_X0_learn_b10
    simp (disch := omega) only [zz_0, zz_1, zz_2, zz_3, zz_4, zz_5, zz_6, zz_7, zz_8, zz_9, zz_10, zz_11, zz_12, zz_13, zz_14, zz_15, zz_16, zz_20, zz_24, zz_25, zz_26, zz_28, zz_31, zz_32, zz_36, zz_39, zz_40, zz_48, zz_49, zz_50, zz_57, zz_59, zz_60, zz_64, zz_72, zz_97, zz_99, zz_100, zz_122, zz_144, zz_161, zz_255, zz_256, zz_288, zz_322, zz_384, zz_400, zz_448, zz_600, zz_1280, zz_1000000, nI_add, n_mul, n_sub, fa_or, fa_and, fb_xorI, n_div, n_rem, n_le, n_lt, n_eq, n_shl1, n_shr, n_andn, n_ix, n_grd, n_gdz, n_gbz, n_hasM, n_hasC, b2_0, b2_1, n_m1, Option.bind_some, bS_inl, bS_inr, n_max, n_min, n_grt, n_les]
    rw [if_neg (by omega)]
    refine ⟨_, rfl, _, rfl, VC_wr (VC_wr (VC_wr (VC_wr V (by omega) _ _) (by omega) _ _) (by omega) _ _) (by omega) _ _, ?_, fun p hp => ?_⟩
    · simp (disch := omega) only [rdI_ne]
      exact f
    · simp (disch := omega) only [rdI_ne, rdI_sm]
      by_cases hpi : p = i
      · simp [hpi]
      · simp only [hpi, if_false]
        exact hz p (by omega)) (by
    rintro z ⟨m, rfl, V, f, hz⟩
    unfold m_X0_learn_b10
    simp (disch := omega) only [zz_0, zz_1, zz_2, zz_3, zz_4, zz_5, zz_6, zz_7, zz_8, zz_9, zz_10, zz_11, zz_12, zz_13, zz_14, zz_15, zz_16, zz_20, zz_24, zz_25, zz_26, zz_28, zz_31, zz_32, zz_36, zz_39, zz_40, zz_48, zz_49, zz_50, zz_57, zz_59, zz_60, zz_64, zz_72, zz_97, zz_99, zz_100, zz_122, zz_144, zz_161, zz_255, zz_256, zz_288, zz_322, zz_384, zz_400, zz_448, zz_600, zz_1280, zz_1000000, nI_add, n_mul, n_sub, fa_or, fa_and, fb_xorI, n_div, n_rem, n_le, n_lt, n_eq, n_shl1, n_shr, n_andn, n_ix, n_grd, n_gdz, n_gbz, n_hasM, n_hasC, b2_0, b2_1, n_m1, Option.bind_some, bS_inl, bS_inr, n_max, n_min, n_grt, n_les]
    rw [if_pos (by omega)]
    exact ⟨_, rfl, V, f, hz⟩)
  rw [e1]
  simp only [Option.bind_some]
  obtain ⟨m2, e2, V2, g2, z2⟩ := loop_n (body := m_X0_learn_b52) (a := ((0 : Int32), m1)) (fun i z => ∃ m, z = (nI i, m) ∧ VC W m ∧ mI m 25 1 = nI (fk W) ∧ (∀ p, p < 6 → mI m 26 p = nI (fo (fun k s => s ||| if sw W k = p then 2 ^ bd W k else 0) 0 i)) ∧ (∀ p, p < 6 → mI m 27 p = nI (fb_ct (fun k => decide (sw W k = p)) i)) ∧ (∀ p, p < 6 → mI m 28 p = nI (fb_ct (fun k => decide (bd W k = p)) i)) ∧ (∀ p, p < 6 → mI m 29 p = nI 0)) (fun m => VC W m ∧ mI m 25 1 = nI (fk W) ∧ (∀ p, p < 6 → mI m 26 p = nI (swr W p)) ∧ (∀ p, p < 6 → mI m 27 p = nI (cS W p)) ∧ (∀ p, p < 6 → mI m 28 p = nI (cB W p)) ∧ (∀ p, p < 6 → mI m 29 p = nI 0)) (oa W) (FU_big (by have := h.2.2.1; omega)) ⟨_, rfl, V1, g1, fun p hp => (z1 p hp).1, fun p hp => (z1 p hp).2.1, fun p hp => (z1 p hp).2.2.1, fun p hp => (z1 p hp).2.2.2⟩ (by
    rintro i z hi ⟨m, rfl, V, f, hz1, hz2, hz3, hz4⟩
    have V' := V
    obtain ⟨c0, c1, c12, c15, c16, c17, c18, c19, c20, c21, c22, c23⟩ := V'
    have k1 := wf.2.2.2.2.2.2.2.2.1 i
    have k2 := wf.2.2.2.2.2.2.2.2.2.1 i
    unfold m_X0_learn_b52
    simp (disch := omega) only [zz_0, zz_1, zz_2, zz_3, zz_4, zz_5, zz_6, zz_7, zz_8, zz_9, zz_10, zz_11, zz_12, zz_13, zz_14, zz_15, zz_16, zz_20, zz_24, zz_25, zz_26, zz_28, zz_31, zz_32, zz_36, zz_39, zz_40, zz_48, zz_49, zz_50, zz_57, zz_59, zz_60, zz_64, zz_72, zz_97, zz_99, zz_100, zz_122, zz_144, zz_161, zz_255, zz_256, zz_288, zz_322, zz_384, zz_400, zz_448, zz_600, zz_1280, zz_1000000, nI_add, n_mul, n_sub, fa_or, fa_and, fb_xorI, n_div, n_rem, n_le, n_lt, n_eq, n_shl1, n_shr, n_andn, n_ix, n_grd, n_gdz, n_gbz, n_hasM, n_hasC, b2_0, b2_1, n_m1, Option.bind_some, bS_inl, bS_inr, n_max, n_min, n_grt, n_les, c0, c1, c20, c21, rdI_ne, hz1, hz2, hz3]
    rw [if_neg (by omega)]
    refine ⟨_, rfl, _, rfl, VC_wr (VC_wr (VC_wr V (by omega) _ _) (by omega) _ _) (by omega) _ _, ?_, fun p hp => ?_, fun p hp => ?_, fun p hp => ?_, fun p hp => ?_⟩
    · simp (disch := omega) only [rdI_ne]
      exact f
    · simp (disch := omega) only [rdI_ne, rdI_sm]
      rw [fo]
      by_cases q1 : p = sw W i
      · rw [q1]; simp
      · rw [if_neg q1, if_neg (fun e => q1 e.symm), hz1 p hp, Nat.or_zero]
    · simp (disch := omega) only [rdI_ne, rdI_sm]
      rw [fb_ct_succ]
      by_cases q1 : p = sw W i
      · rw [q1]; simp
      · rw [if_neg q1, hz2 p hp, decide_eq_false (fun e => q1 e.symm)]; rfl
    · simp (disch := omega) only [rdI_ne, rdI_sm]
      rw [fb_ct_succ]
      by_cases q1 : p = bd W i
      · rw [q1]; simp
      · rw [if_neg q1, hz3 p hp, decide_eq_false (fun e => q1 e.symm)]; rfl
    · simp (disch := omega) only [rdI_ne]
      exact hz4 p hp) (by
    rintro z ⟨m, rfl, V, f, hz⟩
    have V' := V
    obtain ⟨c0, c1, c12, c15, c16, c17, c18, c19, c20, c21, c22, c23⟩ := V'
    unfold m_X0_learn_b52
    simp (disch := omega) only [zz_0, zz_1, zz_2, zz_3, zz_4, zz_5, zz_6, zz_7, zz_8, zz_9, zz_10, zz_11, zz_12, zz_13, zz_14, zz_15, zz_16, zz_20, zz_24, zz_25, zz_26, zz_28, zz_31, zz_32, zz_36, zz_39, zz_40, zz_48, zz_49, zz_50, zz_57, zz_59, zz_60, zz_64, zz_72, zz_97, zz_99, zz_100, zz_122, zz_144, zz_161, zz_255, zz_256, zz_288, zz_322, zz_384, zz_400, zz_448, zz_600, zz_1280, zz_1000000, nI_add, n_mul, n_sub, fa_or, fa_and, fb_xorI, n_div, n_rem, n_le, n_lt, n_eq, n_shl1, n_shr, n_andn, n_ix, n_grd, n_gdz, n_gbz, n_hasM, n_hasC, b2_0, b2_1, n_m1, Option.bind_some, bS_inl, bS_inr, n_max, n_min, n_grt, n_les, c1]
    rw [if_pos (by omega)]
    exact ⟨_, rfl, V, f, hz⟩)
  rw [e2]
  simp only [Option.bind_some]
  obtain ⟨m3, e3, hB, hV⟩ := loop_n (body := m_X0_learn_b120) (a := ((0 : Int32), m2)) (fun i z => ∃ m, z = (nI i, m) ∧ VC W m ∧ mI m 25 1 = nI (fk W) ∧ (∀ p, p < 6 → mI m 26 p = nI (swr W p)) ∧ (∀ p, p < 6 → mI m 27 p = nI (cS W p)) ∧ (∀ p, p < 6 → mI m 28 p = nI (cB W p)) ∧ (∀ q, q < fk W → mI m 29 q = nI (fb_ct (fun p => (lk W p).testBit q) i))) (fun m => VB W m ∧ VC W m) (fk W) (FU_big (by omega)) ⟨_, rfl, V2, g2, z2.1, z2.2.1, z2.2.2.1, fun q hq => z2.2.2.2 q (by omega)⟩ (by
    rintro i z hi ⟨m, rfl, V, f, hz1, hz2, hz3, hz4⟩
    unfold m_X0_learn_b120
    simp (disch := omega) only [zz_0, zz_1, zz_2, zz_3, zz_4, zz_5, zz_6, zz_7, zz_8, zz_9, zz_10, zz_11, zz_12, zz_13, zz_14, zz_15, zz_16, zz_20, zz_24, zz_25, zz_26, zz_28, zz_31, zz_32, zz_36, zz_39, zz_40, zz_48, zz_49, zz_50, zz_57, zz_59, zz_60, zz_64, zz_72, zz_97, zz_99, zz_100, zz_122, zz_144, zz_161, zz_255, zz_256, zz_288, zz_322, zz_384, zz_400, zz_448, zz_600, zz_1280, zz_1000000, nI_add, n_mul, n_sub, fa_or, fa_and, fb_xorI, n_div, n_rem, n_le, n_lt, n_eq, n_shl1, n_shr, n_andn, n_ix, n_grd, n_gdz, n_gbz, n_hasM, n_hasC, b2_0, b2_1, n_m1, Option.bind_some, bS_inl, bS_inr, n_max, n_min, n_grt, n_les, f]
    rw [if_neg (by omega)]
    obtain ⟨m', e', V', f', y1, y2, y3, y4⟩ := loop_n (body := m_X0_learn_b130 (nI i, m)) (a := (nI 0, m)) (fun j z => ∃ m, z = (nI j, m) ∧ VC W m ∧ mI m 25 1 = nI (fk W) ∧ (∀ p, p < 6 → mI m 26 p = nI (swr W p)) ∧ (∀ p, p < 6 → mI m 27 p = nI (cS W p)) ∧ (∀ p, p < 6 → mI m 28 p = nI (cB W p)) ∧ (∀ q, q < fk W → mI m 29 q = nI (fb_ct (fun p => (lk W p).testBit q) (if q < j then i + 1 else i)))) (fun m => VC W m ∧ mI m 25 1 = nI (fk W) ∧ (∀ p, p < 6 → mI m 26 p = nI (swr W p)) ∧ (∀ p, p < 6 → mI m 27 p = nI (cS W p)) ∧ (∀ p, p < 6 → mI m 28 p = nI (cB W p)) ∧ (∀ q, q < fk W → mI m 29 q = nI (fb_ct (fun p => (lk W p).testBit q) (i + 1)))) (fk W) (FU_big (by omega)) ⟨_, rfl, V, f, hz1, hz2, hz3, fun q hq => by rw [if_neg (by omega)]; exact hz4 q hq⟩ (by
      rintro j z hj ⟨m, rfl, V, f, hz1, hz2, hz3, hz4⟩
      have V' := V
      obtain ⟨c0, c1, c12, c15, c16, c17, c18, c19, c20, c21, c22, c23⟩ := V'
      have k1 := wf.2.2.2.2.1 i
      unfold m_X0_learn_b130
      simp (disch := omega) only [zz_0, zz_1, zz_2, zz_3, zz_4, zz_5, zz_6, zz_7, zz_8, zz_9, zz_10, zz_11, zz_12, zz_13, zz_14, zz_15, zz_16, zz_20, zz_24, zz_25, zz_26, zz_28, zz_31, zz_32, zz_36, zz_39, zz_40, zz_48, zz_49, zz_50, zz_57, zz_59, zz_60, zz_64, zz_72, zz_97, zz_99, zz_100, zz_122, zz_144, zz_161, zz_255, zz_256, zz_288, zz_322, zz_384, zz_400, zz_448, zz_600, zz_1280, zz_1000000, nI_add, n_mul, n_sub, fa_or, fa_and, fb_xorI, n_div, n_rem, n_le, n_lt, n_eq, n_shl1, n_shr, n_andn, n_ix, n_grd, n_gdz, n_gbz, n_hasM, n_hasC, b2_0, b2_1, n_m1, Option.bind_some, bS_inl, bS_inr, n_max, n_min, n_grt, n_les, f, c17, hz4]
      rw [if_neg (by omega)]
      refine ⟨_, rfl, _, rfl, VC_wr V (by omega) _ _, ?_, fun p hp => ?_, fun p hp => ?_, fun p hp => ?_, fun q hq => ?_⟩
      · rw [rdI_ne _ _ _ _ (by omega)]; exact f
      · rw [rdI_ne _ _ _ _ (by omega)]; exact hz1 p hp
      · rw [rdI_ne _ _ _ _ (by omega)]; exact hz2 p hp
      · rw [rdI_ne _ _ _ _ (by omega)]; exact hz3 p hp
      · rw [rdI_sm]
        by_cases e : q = j
        · rw [e, if_pos rfl, if_neg (by omega), if_pos (by omega), fb_ct_succ, n_and1]
        · rw [if_neg e, hz4 q hq]
          by_cases e2 : q < j
          · rw [if_pos e2, if_pos (by omega)]
          · rw [if_neg e2, if_neg (by omega)]) (by
      rintro z ⟨m, rfl, V, f, hz1, hz2, hz3, hz4⟩
      unfold m_X0_learn_b130
      simp (disch := omega) only [zz_0, zz_1, zz_2, zz_3, zz_4, zz_5, zz_6, zz_7, zz_8, zz_9, zz_10, zz_11, zz_12, zz_13, zz_14, zz_15, zz_16, zz_20, zz_24, zz_25, zz_26, zz_28, zz_31, zz_32, zz_36, zz_39, zz_40, zz_48, zz_49, zz_50, zz_57, zz_59, zz_60, zz_64, zz_72, zz_97, zz_99, zz_100, zz_122, zz_144, zz_161, zz_255, zz_256, zz_288, zz_322, zz_384, zz_400, zz_448, zz_600, zz_1280, zz_1000000, nI_add, n_mul, n_sub, fa_or, fa_and, fb_xorI, n_div, n_rem, n_le, n_lt, n_eq, n_shl1, n_shr, n_andn, n_ix, n_grd, n_gdz, n_gbz, n_hasM, n_hasC, b2_0, b2_1, n_m1, Option.bind_some, bS_inl, bS_inr, n_max, n_min, n_grt, n_les, f]
      rw [if_pos (by omega)]
      refine ⟨_, rfl, V, f, hz1, hz2, hz3, fun q hq => ?_⟩
      rw [hz4 q hq, if_pos hq])
    rw [e']
    simp (disch := omega) only [Option.bind_some, nI_add]
    exact ⟨_, rfl, _, rfl, V', f', y1, y2, y3, y4⟩) (by
    rintro z ⟨m, rfl, V, f, hz1, hz2, hz3, hz4⟩
    unfold m_X0_learn_b120
    simp (disch := omega) only [zz_0, zz_1, zz_2, zz_3, zz_4, zz_5, zz_6, zz_7, zz_8, zz_9, zz_10, zz_11, zz_12, zz_13, zz_14, zz_15, zz_16, zz_20, zz_24, zz_25, zz_26, zz_28, zz_31, zz_32, zz_36, zz_39, zz_40, zz_48, zz_49, zz_50, zz_57, zz_59, zz_60, zz_64, zz_72, zz_97, zz_99, zz_100, zz_122, zz_144, zz_161, zz_255, zz_256, zz_288, zz_322, zz_384, zz_400, zz_448, zz_600, zz_1280, zz_1000000, nI_add, n_mul, n_sub, fa_or, fa_and, fb_xorI, n_div, n_rem, n_le, n_lt, n_eq, n_shl1, n_shr, n_andn, n_ix, n_grd, n_gdz, n_gbz, n_hasM, n_hasC, b2_0, b2_1, n_m1, Option.bind_some, bS_inl, bS_inr, n_max, n_min, n_grt, n_les, f]
    rw [if_pos (by omega)]
    exact ⟨_, rfl, ⟨f, hz1, hz2, hz3, hz4⟩, V⟩)
  rw [e3]
  exact ⟨_, rfl, hB, hV⟩
/-- for whom some swore -/
def nxt (W : Cn) (s : Nat) : Nat := fo (fun k x => x ||| if s.testBit (sw W k) then 2 ^ bd W k else 0) 0 (oa W)
theorem nxt_bit (W : Cn) (s q : Nat) : (nxt W s).testBit q = true ↔ ∃ k, k < oa W ∧ s.testBit (sw W k) = true ∧ bd W k = q := by
  unfold nxt
  rw [fo_or_bit (fun k => if s.testBit (sw W k) then 2 ^ bd W k else 0)]
  simp only [ite_bit]
theorem nxt_b {W : Cn} (wf : WF W) (s : Nat) : nxt W s < 64 := by
  refine fo_inv (n := oa W) (fun _ x => x < 2 ^ 6) (by decide) (fun i x hi hx => or_b hx ?_) _ (Nat.le_refl _)
  obtain ⟨f1, f2, f3, f4, f5, f6, f7, f8, f9, f10, f11⟩ := wf
  exact ite_b (f10 i)
theorem C_nextOf {W : Cn} {mm : Mm} (h : VB W mm) (wf : WF W) (wo : WO W) {s : Nat} (hs : s < 64) : m_X0_nextOf (nI s) mm = some (nI (nxt W s)) := by
  obtain ⟨b0, b26, b27, b28, b29⟩ := h
  have hf := wf.1
  unfold m_X0_nextOf
  rw [o_id]
  refine (loop_fo (fun (x : Nat) i => (nI x, nI i)) (fun p x => x ||| if s.testBit p then swr W p else 0) 0 (fk W) (fun x => nI x) (fun i x => True) rfl (FU_big (by omega)) trivial (fun _ _ _ _ => trivial) ?_ ?_).trans ?_
  · intro i x hi hx
    unfold m_X0_nextOf_b4
    simp (disch := omega) only [zz_0, zz_1, zz_2, zz_3, zz_4, zz_5, zz_6, zz_7, zz_8, zz_9, zz_10, zz_11, zz_12, zz_13, zz_14, zz_15, zz_16, zz_20, zz_24, zz_25, zz_26, zz_28, zz_31, zz_32, zz_36, zz_39, zz_40, zz_48, zz_49, zz_50, zz_57, zz_59, zz_60, zz_64, zz_72, zz_97, zz_99, zz_100, zz_122, zz_144, zz_161, zz_255, zz_256, zz_288, zz_322, zz_384, zz_400, zz_448, zz_600, zz_1280, zz_1000000, nI_add, n_mul, n_sub, fa_or, fa_and, fb_xorI, n_div, n_rem, n_le, n_lt, n_eq, n_shl1, n_shr, n_andn, n_ix, n_grd, n_gdz, n_gbz, n_hasM, n_hasC, b2_0, b2_1, n_m1, Option.bind_some, bS_inl, bS_inr, n_max, n_min, n_grt, n_les, b0, b26]
    rw [if_neg (by omega)]
    cases k1 : s.testBit i <;> simp
  · intro x hx
    unfold m_X0_nextOf_b4
    simp (disch := omega) only [zz_0, zz_1, zz_2, zz_3, zz_4, zz_5, zz_6, zz_7, zz_8, zz_9, zz_10, zz_11, zz_12, zz_13, zz_14, zz_15, zz_16, zz_20, zz_24, zz_25, zz_26, zz_28, zz_31, zz_32, zz_36, zz_39, zz_40, zz_48, zz_49, zz_50, zz_57, zz_59, zz_60, zz_64, zz_72, zz_97, zz_99, zz_100, zz_122, zz_144, zz_161, zz_255, zz_256, zz_288, zz_322, zz_384, zz_400, zz_448, zz_600, zz_1280, zz_1000000, nI_add, n_mul, n_sub, fa_or, fa_and, fb_xorI, n_div, n_rem, n_le, n_lt, n_eq, n_shl1, n_shr, n_andn, n_ix, n_grd, n_gdz, n_gbz, n_hasM, n_hasC, b2_0, b2_1, n_m1, Option.bind_some, bS_inl, bS_inr, n_max, n_min, n_grt, n_les, b0]
    rw [if_pos (by omega)]
  · congr 2
    apply Nat.eq_of_testBit_eq
    intro i
    rw [Bool.eq_iff_iff, nxt_bit, fo_or_bit (fun p => if s.testBit p then swr W p else 0)]
    constructor
    · rintro ⟨p, hp, h1⟩
      by_cases h2 : s.testBit p = true
      · rw [if_pos h2, swr_bit] at h1
        obtain ⟨k, h3, h4, h5⟩ := h1
        exact ⟨k, h3, by rw [h4]; exact h2, h5⟩
      · rw [if_neg h2] at h1; simp at h1
    · rintro ⟨k, h3, h4, h5⟩
      refine ⟨sw W k, (wo.2 k h3).1, ?_⟩
      rw [if_pos h4, swr_bit]
      exact ⟨k, h3, rfl, h5⟩
/-- the ones that are reached by n + 1 oaths -/
def rin (W : Cn) (p : Nat) : Nat → Nat
  | 0 => swr W p
  | n + 1 => nxt W (rin W p n)
theorem rin_b {W : Cn} (wf : WF W) (p : Nat) : ∀ n, rin W p n < 64
  | 0 => swr_b wf p
  | n + 1 => nxt_b wf _
theorem nxt_pow {W : Cn} (p : Nat) : nxt W (2 ^ p) = swr W p := by
  apply Nat.eq_of_testBit_eq
  intro i
  rw [Bool.eq_iff_iff, nxt_bit, swr_bit]
  simp only [pow_bit, decide_eq_true_eq]
/-- a ring of n + 1 through one is met by as many oaths as there are folk -/
theorem rin_few {W : Cn} (wf : WF W) (wo : WO W) {p : Nat} : ∀ n, (rin W p n).testBit p = true → ∃ j, j < fk W ∧ (rin W p j).testBit p = true := by
  have hf := wf.1
  intro n hn
  let U : Nat → Nat := fun n => fo (fun k s => s ||| rin W p k) 0 n
  have ub : ∀ n i, (U n).testBit i = true ↔ ∃ k, k < n ∧ (rin W p k).testBit i = true := fun n i => fo_or_bit (fun k => rin W p k) i n
  have inb : ∀ k i, (rin W p k).testBit i = true → i < fk W := by
    intro k i h
    cases k with
    | zero =>
      obtain ⟨k, h1, h2, h3⟩ := (swr_bit W p i).mp h
      rw [← h3]; exact (wo.2 k h1).2.1
    | succ k =>
      obtain ⟨k, h1, h2, h3⟩ := (nxt_bit W _ i).mp h
      rw [← h3]; exact (wo.2 k h1).2.1
  have stay : ∀ m, U (m + 1) = U m → ∀ d i, (rin W p (m + d)).testBit i = true → (U m).testBit i = true := by
    intro m hm d
    induction d with
    | zero =>
      intro i hi
      rw [← hm, ub]
      exact ⟨m, by omega, hi⟩
    | succ d ih =>
      intro i hi
      obtain ⟨k, h1, h2, h3⟩ := (nxt_bit W _ i).mp hi
      obtain ⟨e, h4, h5⟩ := (ub m _).mp (ih _ h2)
      rw [← hm, ub]
      exact ⟨e + 1, by omega, (nxt_bit W _ i).mpr ⟨k, h1, h5, h3⟩⟩
  have grow : ∀ m, (∀ j, j < m → U (j + 1) ≠ U j) → m ≤ fb_ct (U m).testBit (fk W) := by
    intro m
    induction m with
    | zero => intro _; omega
    | succ m ih =>
      intro hj
      have h1 := ih (fun j hj2 => hj j (by omega))
      have h2 := hj m (by omega)
      have h3 : ∃ i, (U (m + 1)).testBit i = true ∧ (U m).testBit i = false := by
        apply Classical.byContradiction
        intro hno
        apply h2
        apply Nat.eq_of_testBit_eq
        intro i
        cases a : (U (m + 1)).testBit i with
        | true =>
          cases b : (U m).testBit i with
          | true => rfl
          | false => exact absurd ⟨i, a, b⟩ hno
        | false =>
          cases b : (U m).testBit i with
          | false => rfl
          | true =>
            obtain ⟨k, h5, h6⟩ := (ub m i).mp b
            have := (ub (m + 1) i).mpr ⟨k, by omega, h6⟩
            rw [a] at this; cases this
      obtain ⟨i, a, b⟩ := h3
      obtain ⟨k, _, h6⟩ := (ub (m + 1) i).mp a
      have hi := inb k i h6
      have h7 := fb_ct_upd (U m).testBit true hi
      rw [b] at h7
      have h8 : fb_ct (fun k => if k = i then true else (U m).testBit k) (fk W) ≤ fb_ct (U (m + 1)).testBit (fk W) := fb_ct_sub (fun k _ hk => by
        by_cases e : k = i
        · rw [e]; exact a
        · rw [if_neg e] at hk
          obtain ⟨l, h9, h10⟩ := (ub m k).mp hk
          exact (ub (m + 1) k).mpr ⟨l, by omega, h10⟩)
      simp only [Bool.false_eq_true, if_false, if_true] at h7
      omega
  by_cases hall : ∀ j, j < fk W + 1 → U (j + 1) ≠ U j
  · have h1 := grow (fk W + 1) hall
    have h2 := fb_ct_le (U (fk W + 1)).testBit (fk W)
    omega
  · have h9 : ∃ m, m < fk W + 1 ∧ U (m + 1) = U m := by
      apply Classical.byContradiction
      intro hno
      exact hall (fun j hj e => hno ⟨j, hj, e⟩)
    obtain ⟨m, hm, e⟩ := h9
    by_cases hnm : n < m
    · exact ⟨n, by omega, hn⟩
    · have := stay m e (n - m) p (by rw [show m + (n - m) = n by omega]; exact hn)
      obtain ⟨k, h1, h2⟩ := (ub m p).mp this
      exact ⟨k, by omega, h2⟩
/-- the least ring that one is in, less one -/
def rng1 (W : Cn) (p : Nat) : Option Nat := fst1 (fun n => (rin W p n).testBit p) 6
theorem rng1_lt {W : Cn} {p k : Nat} (h : rng1 W p = some k) : k < 6 := (fst1_some.mp h).1
theorem rng1_fk {W : Cn} (wf : WF W) (wo : WO W) (p : Nat) : fst1 (fun n => (rin W p n).testBit p) (fk W) = rng1 W p := by
  have hf := wf.1
  unfold rng1
  cases h : fst1 (fun n => (rin W p n).testBit p) 6 with
  | none =>
    have h1 := fst1_none.mp h
    exact fst1_none.mpr (fun k hk => h1 k (by omega))
  | some k =>
    obtain ⟨h1, h2, h3⟩ := fst1_some.mp h
    obtain ⟨j, hj, h4⟩ := rin_few wf wo k h2
    refine fst1_some.mpr ⟨?_, h2, h3⟩
    apply Classical.byContradiction
    intro hk
    have := h3 j (by omega)
    rw [h4] at this; cases this
theorem C_ringOf {W : Cn} {mm : Mm} (h : VB W mm) (wf : WF W) (wo : WO W) {p : Nat} (hp : p < fk W) : m_X0_ringOf (nI p) mm = some (match rng1 W p with | some k => nI (k + 1) | none => nI 0) := by
  have hn := fun s hs => @C_nextOf W mm h wf wo s hs
  have hb := rin_b wf p
  obtain ⟨b0, b26, b27, b28, b29⟩ := h
  have hf := wf.1
  unfold m_X0_ringOf
  simp (disch := omega) only [zz_0, zz_1, zz_2, zz_3, zz_4, zz_5, zz_6, zz_7, zz_8, zz_9, zz_10, zz_11, zz_12, zz_13, zz_14, zz_15, zz_16, zz_20, zz_24, zz_25, zz_26, zz_28, zz_31, zz_32, zz_36, zz_39, zz_40, zz_48, zz_49, zz_50, zz_57, zz_59, zz_60, zz_64, zz_72, zz_97, zz_99, zz_100, zz_122, zz_144, zz_161, zz_255, zz_256, zz_288, zz_322, zz_384, zz_400, zz_448, zz_600, zz_1280, zz_1000000, nI_add, n_mul, n_sub, fa_or, fa_and, fb_xorI, n_div, n_rem, n_le, n_lt, n_eq, n_shl1, n_shr, n_andn, n_ix, n_grd, n_gdz, n_gbz, n_hasM, n_hasC, b2_0, b2_1, n_m1, Option.bind_some, bS_inl, bS_inr, n_max, n_min, n_grt, n_les, b26]
  have hw := loop_fst (body := m_X0_ringOf_b9 (nI p) mm) (s0 := (nI (swr W p), nI 1)) (fun i => (nI (rin W p i), nI (i + 1))) (fun n => (rin W p n).testBit p) (fk W) (fun k => .inr (nI (k + 1))) (.inl ()) rfl (FU_big (by omega)) (by
    intro i hi hq
    have k1 := hb i
    unfold m_X0_ringOf_b9
    simp (disch := omega) only [zz_0, zz_1, zz_2, zz_3, zz_4, zz_5, zz_6, zz_7, zz_8, zz_9, zz_10, zz_11, zz_12, zz_13, zz_14, zz_15, zz_16, zz_20, zz_24, zz_25, zz_26, zz_28, zz_31, zz_32, zz_36, zz_39, zz_40, zz_48, zz_49, zz_50, zz_57, zz_59, zz_60, zz_64, zz_72, zz_97, zz_99, zz_100, zz_122, zz_144, zz_161, zz_255, zz_256, zz_288, zz_322, zz_384, zz_400, zz_448, zz_600, zz_1280, zz_1000000, nI_add, n_mul, n_sub, fa_or, fa_and, fb_xorI, n_div, n_rem, n_le, n_lt, n_eq, n_shl1, n_shr, n_andn, n_ix, n_grd, n_gdz, n_gbz, n_hasM, n_hasC, b2_0, b2_1, n_m1, Option.bind_some, bS_inl, bS_inr, n_max, n_min, n_grt, n_les, b0, hn]
    rw [if_neg (by omega), if_pos hq]
    rfl) (by
    intro i hi hq
    have k1 := hb i
    unfold m_X0_ringOf_b9
    simp (disch := omega) only [zz_0, zz_1, zz_2, zz_3, zz_4, zz_5, zz_6, zz_7, zz_8, zz_9, zz_10, zz_11, zz_12, zz_13, zz_14, zz_15, zz_16, zz_20, zz_24, zz_25, zz_26, zz_28, zz_31, zz_32, zz_36, zz_39, zz_40, zz_48, zz_49, zz_50, zz_57, zz_59, zz_60, zz_64, zz_72, zz_97, zz_99, zz_100, zz_122, zz_144, zz_161, zz_255, zz_256, zz_288, zz_322, zz_384, zz_400, zz_448, zz_600, zz_1280, zz_1000000, nI_add, n_mul, n_sub, fa_or, fa_and, fb_xorI, n_div, n_rem, n_le, n_lt, n_eq, n_shl1, n_shr, n_andn, n_ix, n_grd, n_gdz, n_gbz, n_hasM, n_hasC, b2_0, b2_1, n_m1, Option.bind_some, bS_inl, bS_inr, n_max, n_min, n_grt, n_les, b0]
    rw [if_neg (by omega), if_neg (by rw [hq]; decide)]) (by
    unfold m_X0_ringOf_b9
    simp (disch := omega) only [zz_0, zz_1, zz_2, zz_3, zz_4, zz_5, zz_6, zz_7, zz_8, zz_9, zz_10, zz_11, zz_12, zz_13, zz_14, zz_15, zz_16, zz_20, zz_24, zz_25, zz_26, zz_28, zz_31, zz_32, zz_36, zz_39, zz_40, zz_48, zz_49, zz_50, zz_57, zz_59, zz_60, zz_64, zz_72, zz_97, zz_99, zz_100, zz_122, zz_144, zz_161, zz_255, zz_256, zz_288, zz_322, zz_384, zz_400, zz_448, zz_600, zz_1280, zz_1000000, nI_add, n_mul, n_sub, fa_or, fa_and, fb_xorI, n_div, n_rem, n_le, n_lt, n_eq, n_shl1, n_shr, n_andn, n_ix, n_grd, n_gdz, n_gbz, n_hasM, n_hasC, b2_0, b2_1, n_m1, Option.bind_some, bS_inl, bS_inr, n_max, n_min, n_grt, n_les, b0]
    rw [if_pos (by omega)])
  rw [hw, rng1_fk wf wo]
  cases rng1 W p <;> rfl
theorem M_swornTo {W : Cn} {st c : Nat} {mm : Mm} (h : VM W st c mm) (wf : WF W) {s : Nat} (hs : s < 65536) : m_X12_swornTo (nI s) mm = some (nI (nxt W s)) := by
  obtain ⟨⟨hc, v23⟩, v24, v25, v26, v56, v57, v58, v59, v60, v61, v62, v20, v28⟩ := h
  obtain ⟨f1, f2, f3, f4, f5, f6, f7, f8, f9, f10, f11⟩ := wf
  unfold m_X12_swornTo
  rw [o_id]
  refine loop_fo (fun (x : Nat) i => (nI x, nI i)) _ 0 (oa W) (fun x => nI x) (fun i x => True) rfl (FU_big (by omega)) trivial (fun _ _ _ _ => trivial) ?_ ?_
  · intro i x hi hx
    have g1 := f9 i
    have g2 := f10 i
    unfold m_X12_swornTo_b4
    simp (disch := omega) only [zz_0, zz_1, zz_2, zz_3, zz_4, zz_5, zz_6, zz_7, zz_8, zz_9, zz_10, zz_11, zz_12, zz_13, zz_14, zz_15, zz_16, zz_20, zz_24, zz_25, zz_26, zz_28, zz_31, zz_32, zz_36, zz_39, zz_40, zz_48, zz_49, zz_50, zz_57, zz_59, zz_60, zz_64, zz_72, zz_97, zz_99, zz_100, zz_122, zz_144, zz_161, zz_255, zz_256, zz_288, zz_322, zz_384, zz_400, zz_448, zz_600, zz_1280, zz_1000000, nI_add, n_mul, n_sub, fa_or, fa_and, fb_xorI, n_div, n_rem, n_le, n_lt, n_eq, n_shl1, n_shr, n_andn, n_ix, n_grd, n_gdz, n_gbz, n_hasM, n_hasC, b2_0, b2_1, n_m1, Option.bind_some, bS_inl, bS_inr, n_max, n_min, n_grt, n_les, v23, v24, v25, v26, v56, v57, v58, v59, v60, v61, v62, v20, v28]
    rw [if_neg (by omega)]
    cases k1 : s.testBit (sw W i) <;> simp [fa_or]
  · intro x hx
    unfold m_X12_swornTo_b4
    simp (disch := omega) only [zz_0, zz_1, zz_2, zz_3, zz_4, zz_5, zz_6, zz_7, zz_8, zz_9, zz_10, zz_11, zz_12, zz_13, zz_14, zz_15, zz_16, zz_20, zz_24, zz_25, zz_26, zz_28, zz_31, zz_32, zz_36, zz_39, zz_40, zz_48, zz_49, zz_50, zz_57, zz_59, zz_60, zz_64, zz_72, zz_97, zz_99, zz_100, zz_122, zz_144, zz_161, zz_255, zz_256, zz_288, zz_322, zz_384, zz_400, zz_448, zz_600, zz_1280, zz_1000000, nI_add, n_mul, n_sub, fa_or, fa_and, fb_xorI, n_div, n_rem, n_le, n_lt, n_eq, n_shl1, n_shr, n_andn, n_ix, n_grd, n_gdz, n_gbz, n_hasM, n_hasC, b2_0, b2_1, n_m1, Option.bind_some, bS_inl, bS_inr, n_max, n_min, n_grt, n_les, v23, v24, v25, v26, v56, v57, v58, v59, v60, v61, v62, v20, v28]
    rw [if_pos (by omega)]
def prv (W : Cn) (p : Nat) : Nat → Nat
  | 0 => 2 ^ p
  | j + 1 => rin W p j
theorem prv_ok {W : Cn} (wf : WF W) {p : Nat} (hp : p < 6) (i : Nat) : prv W p i < 64 ∧ nxt W (prv W p i) = rin W p i := by
  cases i with
  | zero => exact ⟨pow_le (n := 6) hp, nxt_pow p⟩
  | succ i => exact ⟨rin_b wf p i, rfl⟩
theorem M_ringOf {W : Cn} {st c : Nat} {mm : Mm} (h : VM W st c mm) (wf : WF W) {p : Nat} (hp : p < 6) : m_X12_ringOf (nI p) mm = some (match rng1 W p with | some k => nI (k + 1) | none => -1) := by
  have hn := fun s hs => @M_swornTo W st c mm h wf s hs
  have hb := rin_b wf p
  unfold m_X12_ringOf
  simp (disch := omega) only [zz_0, zz_1, zz_2, zz_3, zz_4, zz_5, zz_6, zz_7, zz_8, zz_9, zz_10, zz_11, zz_12, zz_13, zz_14, zz_15, zz_16, zz_20, zz_24, zz_25, zz_26, zz_28, zz_31, zz_32, zz_36, zz_39, zz_40, zz_48, zz_49, zz_50, zz_57, zz_59, zz_60, zz_64, zz_72, zz_97, zz_99, zz_100, zz_122, zz_144, zz_161, zz_255, zz_256, zz_288, zz_322, zz_384, zz_400, zz_448, zz_600, zz_1280, zz_1000000, n_shl1]
  have hw := loop_fst (body := m_X12_ringOf_b6 (nI p) mm) (s0 := (nI (2 ^ p), nI 1)) (fun i => (nI (prv W p i), nI (i + 1))) (fun n => (rin W p n).testBit p) 6 (fun k => .inr (nI (k + 1))) (.inl ()) rfl (FU_big (by omega)) (by
    intro i hi hq
    have k1 := hb i
    obtain ⟨k2, k3⟩ := prv_ok wf hp i
    unfold m_X12_ringOf_b6
    simp (disch := omega) only [zz_0, zz_1, zz_2, zz_3, zz_4, zz_5, zz_6, zz_7, zz_8, zz_9, zz_10, zz_11, zz_12, zz_13, zz_14, zz_15, zz_16, zz_20, zz_24, zz_25, zz_26, zz_28, zz_31, zz_32, zz_36, zz_39, zz_40, zz_48, zz_49, zz_50, zz_57, zz_59, zz_60, zz_64, zz_72, zz_97, zz_99, zz_100, zz_122, zz_144, zz_161, zz_255, zz_256, zz_288, zz_322, zz_384, zz_400, zz_448, zz_600, zz_1280, zz_1000000, nI_add, n_mul, n_sub, fa_or, fa_and, fb_xorI, n_div, n_rem, n_le, n_lt, n_eq, n_shl1, n_shr, n_andn, n_ix, n_grd, n_gdz, n_gbz, n_hasM, n_hasC, b2_0, b2_1, n_m1, Option.bind_some, bS_inl, bS_inr, n_max, n_min, n_grt, n_les, hn, k3]
    rw [if_neg (by omega), if_pos hq]
    rfl) (by
    intro i hi hq
    have k1 := hb i
    obtain ⟨k2, k3⟩ := prv_ok wf hp i
    unfold m_X12_ringOf_b6
    simp (disch := omega) only [zz_0, zz_1, zz_2, zz_3, zz_4, zz_5, zz_6, zz_7, zz_8, zz_9, zz_10, zz_11, zz_12, zz_13, zz_14, zz_15, zz_16, zz_20, zz_24, zz_25, zz_26, zz_28, zz_31, zz_32, zz_36, zz_39, zz_40, zz_48, zz_49, zz_50, zz_57, zz_59, zz_60, zz_64, zz_72, zz_97, zz_99, zz_100, zz_122, zz_144, zz_161, zz_255, zz_256, zz_288, zz_322, zz_384, zz_400, zz_448, zz_600, zz_1280, zz_1000000, nI_add, n_mul, n_sub, fa_or, fa_and, fb_xorI, n_div, n_rem, n_le, n_lt, n_eq, n_shl1, n_shr, n_andn, n_ix, n_grd, n_gdz, n_gbz, n_hasM, n_hasC, b2_0, b2_1, n_m1, Option.bind_some, bS_inl, bS_inr, n_max, n_min, n_grt, n_les, hn, k3]
    rw [if_neg (by omega), if_neg (by rw [hq]; decide)]) (by
    unfold m_X12_ringOf_b6
    simp (disch := omega) only [zz_0, zz_1, zz_2, zz_3, zz_4, zz_5, zz_6, zz_7, zz_8, zz_9, zz_10, zz_11, zz_12, zz_13, zz_14, zz_15, zz_16, zz_20, zz_24, zz_25, zz_26, zz_28, zz_31, zz_32, zz_36, zz_39, zz_40, zz_48, zz_49, zz_50, zz_57, zz_59, zz_60, zz_64, zz_72, zz_97, zz_99, zz_100, zz_122, zz_144, zz_161, zz_255, zz_256, zz_288, zz_322, zz_384, zz_400, zz_448, zz_600, zz_1280, zz_1000000, nI_add, n_mul, n_sub, fa_or, fa_and, fb_xorI, n_div, n_rem, n_le, n_lt, n_eq, n_shl1, n_shr, n_andn, n_ix, n_grd, n_gdz, n_gbz, n_hasM, n_hasC, b2_0, b2_1, n_m1, Option.bind_some, bS_inl, bS_inr, n_max, n_min, n_grt, n_les]
    rw [if_pos (by omega)])
  rw [hw]
  unfold rng1
  cases fst1 (fun n => (rin W p n).testBit p) 6 <;> rfl
/-- none, or a number -/
def lRing (W : Cn) : Option Nat := fo (fun p o => match rng1 W p with | none => o | some k => match o with | none => some (k + 1) | some l => some (min l (k + 1))) none (fk W)
def rgd (W : Cn) : Nat := fo (fun p s => s ||| match rng1 W p with | none => 0 | some _ => 2 ^ p) 0 (fk W)
theorem enc1_none : enc1 none = m1 := rfl
theorem m1_eq : m1 = -1 := rfl
theorem enc1_some (k : Nat) : enc1 (some k) = nI k := rfl
theorem enc1_m1 {k : Nat} (h : k < 2147483648) : ¬ nI k = m1 := by
  rw [m1_eq]
  intro e
  have := congrArg Int32.toInt e
  rw [nI_toInt h] at this
  have h7 : (-1 : Int32).toInt = -1 := by decide
  omega
theorem C_leastRing {W : Cn} {mm : Mm} (h : VB W mm) (wf : WF W) (wo : WO W) : m_X0_leastRing mm = some (enc1 (lRing W)) := by
  have hn := fun p hp => @C_ringOf W mm h wf wo p hp
  have hl := fun p k => @rng1_lt W p k
  obtain ⟨b0, b26, b27, b28, b29⟩ := h
  have hf := wf.1
  unfold m_X0_leastRing
  rw [o_id]
  refine loop_fo (fun (x : Option Nat) i => (enc1 x, nI i)) _ none (fk W) (fun x => enc1 x) (fun i x => ∀ l, x = some l → l < 100) rfl (FU_big (by omega)) (fun l hl => by cases hl) ?_ ?_ ?_
  · intro i x hi hx l hl2
    cases k1 : rng1 W i with
    | none => rw [k1] at hl2; exact hx l hl2
    | some k =>
      have := hl i k k1
      rw [k1] at hl2
      cases x with
      | none => cases hl2; omega
      | some m => cases hl2; have := hx m rfl; omega
  · intro i x hi hx
    unfold m_X0_leastRing_b4
    simp (disch := omega) only [zz_0, zz_1, zz_2, zz_3, zz_4, zz_5, zz_6, zz_7, zz_8, zz_9, zz_10, zz_11, zz_12, zz_13, zz_14, zz_15, zz_16, zz_20, zz_24, zz_25, zz_26, zz_28, zz_31, zz_32, zz_36, zz_39, zz_40, zz_48, zz_49, zz_50, zz_57, zz_59, zz_60, zz_64, zz_72, zz_97, zz_99, zz_100, zz_122, zz_144, zz_161, zz_255, zz_256, zz_288, zz_322, zz_384, zz_400, zz_448, zz_600, zz_1280, zz_1000000, nI_add, n_mul, n_sub, fa_or, fa_and, fb_xorI, n_div, n_rem, n_le, n_lt, n_eq, n_shl1, n_shr, n_andn, n_ix, n_grd, n_gdz, n_gbz, n_hasM, n_hasC, b2_0, b2_1, n_m1, Option.bind_some, bS_inl, bS_inr, n_max, n_min, n_grt, n_les, b0, hn]
    rw [if_neg (by omega)]
    cases k1 : rng1 W i with
    | none => simp (disch := omega) only [n_le, Nat.le_refl, if_true]
    | some k =>
      have k2 := hl i k k1
      simp (disch := omega) only [n_le]
      rw [if_neg (by omega)]
      cases x with
      | none => rw [enc1_none, if_pos rfl]; rfl
      | some m =>
        have k3 := hx m rfl
        rw [enc1_some, if_neg (enc1_m1 (by omega))]
        simp (disch := omega) only [n_le]
        by_cases k4 : m ≤ k + 1
        · rw [if_pos k4]; simp only [Nat.min_eq_left k4, enc1_some]
        · rw [if_neg k4]; simp only [Nat.min_eq_right (Nat.le_of_lt (Nat.lt_of_not_le k4)), enc1_some]
  · intro x hx
    unfold m_X0_leastRing_b4
    simp (disch := omega) only [zz_0, zz_1, zz_2, zz_3, zz_4, zz_5, zz_6, zz_7, zz_8, zz_9, zz_10, zz_11, zz_12, zz_13, zz_14, zz_15, zz_16, zz_20, zz_24, zz_25, zz_26, zz_28, zz_31, zz_32, zz_36, zz_39, zz_40, zz_48, zz_49, zz_50, zz_57, zz_59, zz_60, zz_64, zz_72, zz_97, zz_99, zz_100, zz_122, zz_144, zz_161, zz_255, zz_256, zz_288, zz_322, zz_384, zz_400, zz_448, zz_600, zz_1280, zz_1000000, nI_add, n_mul, n_sub, fa_or, fa_and, fb_xorI, n_div, n_rem, n_le, n_lt, n_eq, n_shl1, n_shr, n_andn, n_ix, n_grd, n_gdz, n_gbz, n_hasM, n_hasC, b2_0, b2_1, n_m1, Option.bind_some, bS_inl, bS_inr, n_max, n_min, n_grt, n_les, b0]
    rw [if_pos (by omega)]
theorem C_ringed {W : Cn} {mm : Mm} (h : VB W mm) (wf : WF W) (wo : WO W) : m_X0_ringed mm = some (nI (rgd W)) := by
  have hn := fun p hp => @C_ringOf W mm h wf wo p hp
  have hl := fun p k => @rng1_lt W p k
  obtain ⟨b0, b26, b27, b28, b29⟩ := h
  have hf := wf.1
  unfold m_X0_ringed
  rw [o_id]
  refine loop_fo (fun (x : Nat) i => (nI x, nI i)) _ 0 (fk W) (fun x => nI x) (fun i x => True) rfl (FU_big (by omega)) trivial (fun _ _ _ _ => trivial) ?_ ?_
  · intro i x hi hx
    unfold m_X0_ringed_b4
    simp (disch := omega) only [zz_0, zz_1, zz_2, zz_3, zz_4, zz_5, zz_6, zz_7, zz_8, zz_9, zz_10, zz_11, zz_12, zz_13, zz_14, zz_15, zz_16, zz_20, zz_24, zz_25, zz_26, zz_28, zz_31, zz_32, zz_36, zz_39, zz_40, zz_48, zz_49, zz_50, zz_57, zz_59, zz_60, zz_64, zz_72, zz_97, zz_99, zz_100, zz_122, zz_144, zz_161, zz_255, zz_256, zz_288, zz_322, zz_384, zz_400, zz_448, zz_600, zz_1280, zz_1000000, nI_add, n_mul, n_sub, fa_or, fa_and, fb_xorI, n_div, n_rem, n_le, n_lt, n_eq, n_shl1, n_shr, n_andn, n_ix, n_grd, n_gdz, n_gbz, n_hasM, n_hasC, b2_0, b2_1, n_m1, Option.bind_some, bS_inl, bS_inr, n_max, n_min, n_grt, n_les, b0, hn]
    rw [if_neg (by omega)]
    cases k1 : rng1 W i with
    | none => simp (disch := omega) only [n_le, Nat.le_refl, if_true, Nat.or_zero]
    | some k =>
      have k2 := hl i k k1
      simp (disch := omega) only [n_le]
      rw [if_neg (by omega)]
  · intro x hx
    unfold m_X0_ringed_b4
    simp (disch := omega) only [zz_0, zz_1, zz_2, zz_3, zz_4, zz_5, zz_6, zz_7, zz_8, zz_9, zz_10, zz_11, zz_12, zz_13, zz_14, zz_15, zz_16, zz_20, zz_24, zz_25, zz_26, zz_28, zz_31, zz_32, zz_36, zz_39, zz_40, zz_48, zz_49, zz_50, zz_57, zz_59, zz_60, zz_64, zz_72, zz_97, zz_99, zz_100, zz_122, zz_144, zz_161, zz_255, zz_256, zz_288, zz_322, zz_384, zz_400, zz_448, zz_600, zz_1280, zz_1000000, nI_add, n_mul, n_sub, fa_or, fa_and, fb_xorI, n_div, n_rem, n_le, n_lt, n_eq, n_shl1, n_shr, n_andn, n_ix, n_grd, n_gdz, n_gbz, n_hasM, n_hasC, b2_0, b2_1, n_m1, Option.bind_some, bS_inl, bS_inr, n_max, n_min, n_grt, n_les, b0]
    rw [if_pos (by omega)]
theorem M_ring {W : Cn} {st c : Nat} {mm : Mm} (h : VM W st c mm) (wf : WF W) (a : Bool) : m_X12_ring (b2 a) mm = some (if a then nI (rgd W) else enc1 (lRing W)) := by
  have hn := fun p hp => @M_ringOf W st c mm h wf p hp
  have hl := fun p k => @rng1_lt W p k
  obtain ⟨⟨hc, v23⟩, v24, v25, v26, v56, v57, v58, v59, v60, v61, v62, v20, v28⟩ := h
  obtain ⟨f1, f2, f3, f4, f5, f6, f7, f8, f9, f10, f11⟩ := wf
  unfold m_X12_ring
  have hw : whileF FU (m_X12_ring_b7 mm) (-1, 0, 0) = some (enc1 (lRing W), nI (rgd W)) := by
    refine (loop_fo (fun (x : Option Nat × Nat) i => (enc1 x.1, nI x.2, nI i)) (fun p o => (match rng1 W p with | none => o.1 | some k => match o.1 with | none => some (k + 1) | some l => some (min l (k + 1)), o.2 ||| match rng1 W p with | none => 0 | some _ => 2 ^ p)) (none, 0) (fk W) (fun x => (enc1 x.1, nI x.2)) (fun i x => ∀ l, x.1 = some l → l < 100) rfl (FU_big (by omega)) (fun l hl => by cases hl) ?_ ?_ ?_).trans ?_
    · intro i x hi hx l hl2
      obtain ⟨x, y⟩ := x
      simp only at hx hl2
      cases k1 : rng1 W i with
      | none => rw [k1] at hl2; exact hx l hl2
      | some k =>
        have := hl i k k1
        rw [k1] at hl2
        cases x with
        | none => cases hl2; omega
        | some m => cases hl2; have := hx m rfl; omega
    · intro i x hi hx
      obtain ⟨x, y⟩ := x
      simp only at hx
      unfold m_X12_ring_b7
      simp (disch := omega) only [zz_0, zz_1, zz_2, zz_3, zz_4, zz_5, zz_6, zz_7, zz_8, zz_9, zz_10, zz_11, zz_12, zz_13, zz_14, zz_15, zz_16, zz_20, zz_24, zz_25, zz_26, zz_28, zz_31, zz_32, zz_36, zz_39, zz_40, zz_48, zz_49, zz_50, zz_57, zz_59, zz_60, zz_64, zz_72, zz_97, zz_99, zz_100, zz_122, zz_144, zz_161, zz_255, zz_256, zz_288, zz_322, zz_384, zz_400, zz_448, zz_600, zz_1280, zz_1000000, nI_add, n_mul, n_sub, fa_or, fa_and, fb_xorI, n_div, n_rem, n_le, n_lt, n_eq, n_shl1, n_shr, n_andn, n_ix, n_grd, n_gdz, n_gbz, n_hasM, n_hasC, b2_0, b2_1, n_m1, Option.bind_some, bS_inl, bS_inr, n_max, n_min, n_grt, n_les, v23, v24, v25, v26, v56, v57, v58, v59, v60, v61, v62, v20, v28, hn]
      rw [if_neg (by omega)]
      cases k1 : rng1 W i with
      | none => simp only [if_true, Nat.or_zero, fa_or]
      | some k =>
        have k2 := hl i k k1
        simp (disch := omega) only [enc1_m1, if_false]
        cases x with
        | none => rw [enc1_none, if_pos rfl, fa_or]; rfl
        | some m =>
          have k3 := hx m rfl
          rw [enc1_some, if_neg (enc1_m1 (by omega))]
          simp (disch := omega) only [n_le, fa_or]
          by_cases k4 : m ≤ k + 1
          · rw [if_pos k4]; simp only [Nat.min_eq_left k4, enc1_some]
          · rw [if_neg k4]; simp only [Nat.min_eq_right (Nat.le_of_lt (Nat.lt_of_not_le k4)), enc1_some]
    · intro x hx
      unfold m_X12_ring_b7
      simp (disch := omega) only [zz_0, zz_1, zz_2, zz_3, zz_4, zz_5, zz_6, zz_7, zz_8, zz_9, zz_10, zz_11, zz_12, zz_13, zz_14, zz_15, zz_16, zz_20, zz_24, zz_25, zz_26, zz_28, zz_31, zz_32, zz_36, zz_39, zz_40, zz_48, zz_49, zz_50, zz_57, zz_59, zz_60, zz_64, zz_72, zz_97, zz_99, zz_100, zz_122, zz_144, zz_161, zz_255, zz_256, zz_288, zz_322, zz_384, zz_400, zz_448, zz_600, zz_1280, zz_1000000, nI_add, n_mul, n_sub, fa_or, fa_and, fb_xorI, n_div, n_rem, n_le, n_lt, n_eq, n_shl1, n_shr, n_andn, n_ix, n_grd, n_gdz, n_gbz, n_hasM, n_hasC, b2_0, b2_1, n_m1, Option.bind_some, bS_inl, bS_inr, n_max, n_min, n_grt, n_les, v23, v24, v25, v26, v56, v57, v58, v59, v60, v61, v62, v20, v28]
      rw [if_pos (by omega)]
    · have key := fo_rel (g := fun p (o : Option Nat × Nat) => (match rng1 W p with | none => o.1 | some k => match o.1 with | none => some (k + 1) | some l => some (min l (k + 1)), o.2 ||| match rng1 W p with | none => 0 | some _ => 2 ^ p)) (g' := fun p (o : Option Nat × Nat) => (match rng1 W p with | none => o.1 | some k => match o.1 with | none => some (k + 1) | some l => some (min l (k + 1)), o.2 ||| match rng1 W p with | none => 0 | some _ => 2 ^ p)) (a := (none, 0)) (a' := (none, 0)) (n := fk W) (fun i x _ => x.1 = fo (fun p o => match rng1 W p with | none => o | some k => match o with | none => some (k + 1) | some l => some (min l (k + 1))) none i ∧ x.2 = fo (fun p s => s ||| match rng1 W p with | none => 0 | some _ => 2 ^ p) 0 i) ⟨rfl, rfl⟩ (fun i x y hi hxy => ⟨by simp only [fo, hxy.1], by simp only [fo, hxy.2]⟩) (fk W) (Nat.le_refl _)
      rw [key.1, key.2]
      rfl
  rw [hw]
  cases a
  · simp only [Option.bind_some]; rfl
  · simp only [Option.bind_some]; rfl
