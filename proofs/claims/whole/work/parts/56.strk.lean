/-! L3: more oaths by the class; which oaths to strike out -/
def encV (o : Option Nat) : Int32 := match o with
  | none => -1
  | some i => nI (mV i)
theorem mV_b {i : Nat} (h : i < 288) : mV i < 1000 := by unfold mV; omega
theorem C_findMoreOf {W : Cn} {mm : Mm} (h : VC W mm) (wf : WF W) (hc : symC (cl W)) {a b : Nat} (ha : a < fk W) (hb : b < fk W) (hab : a ≠ b) (h2 : mI mm 32 2 = nI (fb_ct (mP W) (48 * a + 8 * b))) (h3 : mI mm 32 3 = encV (fst1 (mP W) (48 * a + 8 * b))) : ∃ m, m_X1_findMoreOf (nI a) (nI b) mm = some m ∧ VC W m ∧ mI m 32 2 = nI (fb_ct (mP W) (48 * a + 8 * b + 8)) ∧ mI m 32 3 = encV (fst1 (mP W) (48 * a + 8 * b + 8)) := by
  have hf := wf.1
  have e1 := C_openTo h wf (st := 0) (by decide) (p := b) (by omega)
  have e2 := C_keptBy h wf (p := b) (by omega)
  have e3 := C_reachOf h wf (a := a) (b := b) (by omega) (by omega)
  unfold m_X1_findMoreOf
  simp only [zz_0, zz_1, zz_2, zz_3, zz_4, zz_5, zz_6, zz_7, zz_8, zz_9, zz_10, zz_11, zz_12, zz_13, zz_14, zz_15, zz_16, zz_20, zz_24, zz_25, zz_26, zz_28, zz_31, zz_32, zz_36, zz_39, zz_40, zz_48, zz_49, zz_50, zz_57, zz_59, zz_60, zz_64, zz_72, zz_97, zz_99, zz_100, zz_122, zz_144, zz_161, zz_255, zz_256, zz_288, zz_322, zz_384, zz_400, zz_448, zz_600, zz_1280, zz_1000000, e1, e2, e3, Option.bind_some, o_id]
  refine loop_n (body := m_X1_findMoreOf_b26 (nI a) (nI b) (nI (opn W 0 b)) (nI (kby W 0 b)) (nI (rch W a b))) (a := (nI 0, mm)) (fun j z => ∃ m, z = (nI j, m) ∧ VC W m ∧ mI m 32 2 = nI (fb_ct (mP W) (48 * a + 8 * b + j)) ∧ mI m 32 3 = encV (fst1 (mP W) (48 * a + 8 * b + j))) (fun m => VC W m ∧ mI m 32 2 = nI (fb_ct (mP W) (48 * a + 8 * b + 8)) ∧ mI m 32 3 = encV (fst1 (mP W) (48 * a + 8 * b + 8))) 8 (FU_big (by decide)) ⟨mm, rfl, h, h2, h3⟩ ?_ ?_
  · rintro t z ht ⟨m, rfl, V, g2, g3⟩
    have ob := opn_b wf 0 b
    have rb := rch_b W a b
    have kb := kby_b hc 0 b
    have g4 := wf.2.2.2.1 b
    have g5 := V.2.2.2.2.1 b (by omega)
    have pt : 2 ^ t < 2 ^ 8 := pow_le ht
    have ab : rch W a b &&& 2 ^ t < 2 ^ 8 := Nat.lt_of_le_of_lt Nat.and_le_left rb
    have xb : opn W 0 b ||| (rch W a b &&& 2 ^ t) < 2 ^ 8 := or_b ob ab
    have tb : thn W a b t < 256 := bst_b W hc _ _
    have nd := ndf_le (kby W 0 b) (thn W a b t)
    have ek : m_X7_keptOf (nI (opn W 0 b ||| (rch W a b &&& 2 ^ t))) (nI (rm W b)) m = some (nI (thn W a b t)) := C_keptOf V xb g4
    have eo := C_hasOath V wf (a := a) (b := b) (t := t) (by omega) (by omega) ht
    have i1 : (48 * a + 8 * b + t) / 48 = a := by omega
    have i2 : (48 * a + 8 * b + t) / 8 % 6 = b := by omega
    have i3 : (48 * a + 8 * b + t) % 8 = t := by omega
    have ep : mP W (48 * a + 8 * b + t) = (!has3 W a b t && decide ((thn W a b t).testBit t = true ∧ ndf (kby W 0 b) (thn W a b t) = 0)) := by
      unfold mP
      rw [i1, i2, i3, decide_eq_true (⟨ha, hb, hab⟩ : a < fk W ∧ b < fk W ∧ a ≠ b), Bool.true_and]
      congr 1
      exact decide_eq_decide.mpr (more_iff hc hb ht)
    have ev : mV (48 * a + 8 * b + t) = 100 * a + 10 * b + t := by unfold mV; rw [i1, i2, i3]
    have stay : mP W (48 * a + 8 * b + t) = false → VC W m ∧ mI m 32 2 = nI (fb_ct (mP W) (48 * a + 8 * b + (t + 1))) ∧ mI m 32 3 = encV (fst1 (mP W) (48 * a + 8 * b + (t + 1))) := fun hp => by
      rw [← Nat.add_assoc]
      refine ⟨V, ?_, ?_⟩
      · rw [fb_ct_succ, hp, g2]; rfl
      · rw [g3, fst1, hp]
        cases fst1 (mP W) (48 * a + 8 * b + t) <;> rfl
    unfold m_X1_findMoreOf_b26
    simp (disch := omega) only [zz_0, zz_1, zz_2, zz_3, zz_4, zz_5, zz_6, zz_7, zz_8, zz_9, zz_10, zz_11, zz_12, zz_13, zz_14, zz_15, zz_16, zz_20, zz_24, zz_25, zz_26, zz_28, zz_31, zz_32, zz_36, zz_39, zz_40, zz_48, zz_49, zz_50, zz_57, zz_59, zz_60, zz_64, zz_72, zz_97, zz_99, zz_100, zz_122, zz_144, zz_161, zz_255, zz_256, zz_288, zz_322, zz_384, zz_400, zz_448, zz_600, zz_1280, zz_1000000, nI_add, n_mul, n_sub, fa_or, fa_and, fb_xorI, n_div, n_rem, n_le, n_lt, n_eq, n_shl1, n_shr, n_andn, n_ix, n_grd, n_gdz, n_gbz, n_hasM, n_hasC, b2_0, b2_1, n_m1, Option.bind_some, bS_inl, bS_inr, n_max, n_min, n_grt, n_les, g5, ek]
    rw [if_neg (by omega)]
    cases k1 : (thn W a b t).testBit t with
    | false =>
      simp only [if_true, Option.bind_some]
      exact ⟨_, rfl, m, rfl, stay (by rw [ep, k1]; simp)⟩
    | true =>
      simp only [Bool.true_eq_false, if_false]
      by_cases k2 : ndf (kby W 0 b) (thn W a b t) = 0
      · simp only [k2, if_true, n10, if_false, eo, Option.bind_some]
        cases k3 : has3 W a b t with
        | true =>
          simp only [b2_0, Bool.true_eq_false, if_false, Option.bind_some]
          exact ⟨_, rfl, m, rfl, stay (by rw [ep, k3]; rfl)⟩
        | false =>
          have hp : mP W (48 * a + 8 * b + t) = true := by rw [ep, k1, k2, k3]; simp
          simp (disch := omega) only [b2_0, if_true, Option.bind_some, g2, nI_add, rdI_nj]
          refine ⟨_, rfl, _, rfl, VC_wr (VC_wr V (by omega) _ _) (by omega) _ _, ?_, ?_⟩
          · rw [rdI_nj _ _ _ _ (by decide), rdI_eq, ← Nat.add_assoc, fb_ct_succ, hp]; rfl
          · rw [rdI_eq, g3, ← Nat.add_assoc, fst1, hp]
            cases k4 : fst1 (mP W) (48 * a + 8 * b + t) with
            | none =>
              rw [show encV none = m1 from rfl, if_pos rfl]
              show _ = nI (mV (48 * a + 8 * b + t))
              rw [ev]
            | some i =>
              have h9 := (fst1_some.mp k4).1
              have h10 := mV_b (i := i) (by omega)
              rw [show encV (some i) = nI (mV i) from rfl, if_neg (show ¬ nI (mV i) = m1 from enc1_m1 (by omega))]
      · simp only [k2, if_false, if_true, Option.bind_some]
        exact ⟨_, rfl, m, rfl, stay (by rw [ep]; simp [k2])⟩
  · rintro z ⟨m, rfl, V, g2, g3⟩
    unfold m_X1_findMoreOf_b26
    simp (disch := omega) only [zz_0, zz_1, zz_2, zz_3, zz_4, zz_5, zz_6, zz_7, zz_8, zz_9, zz_10, zz_11, zz_12, zz_13, zz_14, zz_15, zz_16, zz_20, zz_24, zz_25, zz_26, zz_28, zz_31, zz_32, zz_36, zz_39, zz_40, zz_48, zz_49, zz_50, zz_57, zz_59, zz_60, zz_64, zz_72, zz_97, zz_99, zz_100, zz_122, zz_144, zz_161, zz_255, zz_256, zz_288, zz_322, zz_384, zz_400, zz_448, zz_600, zz_1280, zz_1000000, nI_add, n_mul, n_sub, fa_or, fa_and, fb_xorI, n_div, n_rem, n_le, n_lt, n_eq, n_shl1, n_shr, n_andn, n_ix, n_grd, n_gdz, n_gbz, n_hasM, n_hasC, b2_0, b2_1, n_m1, Option.bind_some, bS_inl, bS_inr, n_max, n_min, n_grt, n_les]
    rw [if_pos (by omega)]
    exact ⟨_, rfl, V, g2, g3⟩
theorem C_findMore {W : Cn} {mm : Mm} (h : VC W mm) (wf : WF W) (hc : symC (cl W)) : ∃ m, m_X1_findMore mm = some m ∧ mI m 32 2 = nI (fb_ct (mP W) 288) ∧ mI m 32 3 = encV (fst1 (mP W) 288) := by
  have hf := wf.1
  have off : ∀ a b t, a < 6 → b < 6 → t < 8 → (fk W ≤ a ∨ fk W ≤ b ∨ a = b) → mP W (48 * a + 8 * b + t) = false := by
    intro a b t ha hb ht hn
    unfold mP
    rw [show (48 * a + 8 * b + t) / 48 = a by omega, show (48 * a + 8 * b + t) / 8 % 6 = b by omega, decide_eq_false (by omega)]
    rfl
  have off2 : ∀ i, i < 288 → (fk W ≤ i / 48 ∨ fk W ≤ i / 8 % 6 ∨ i / 48 = i / 8 % 6) → mP W i = false := by
    intro i hi hn
    have := off (i / 48) (i / 8 % 6) (i % 8) (by omega) (by omega) (by omega) hn
    rwa [show 48 * (i / 48) + 8 * (i / 8 % 6) + i % 8 = i by omega] at this
  unfold m_X1_findMore
  simp only [zz_0, zz_1, zz_2, zz_3, zz_4, zz_5, zz_6, zz_7, zz_8, zz_9, zz_10, zz_11, zz_12, zz_13, zz_14, zz_15, zz_16, zz_20, zz_24, zz_25, zz_26, zz_28, zz_31, zz_32, zz_36, zz_39, zz_40, zz_48, zz_49, zz_50, zz_57, zz_59, zz_60, zz_64, zz_72, zz_97, zz_99, zz_100, zz_122, zz_144, zz_161, zz_255, zz_256, zz_288, zz_322, zz_384, zz_400, zz_448, zz_600, zz_1280, zz_1000000, o_id]
  obtain ⟨q, e, hq⟩ := loop_n (body := m_X1_findMore_b12) (a := (nI 0, sI (sI mm 32 2 (nI 0)) 32 3 (-nI 1))) (fun a z => ∃ m, z = (nI a, m) ∧ VC W m ∧ mI m 32 2 = nI (fb_ct (mP W) (48 * a)) ∧ mI m 32 3 = encV (fst1 (mP W) (48 * a))) (fun m => mI m 32 2 = nI (fb_ct (mP W) 288) ∧ mI m 32 3 = encV (fst1 (mP W) 288)) (fk W) (FU_big (by omega)) ⟨_, rfl, VC_wr (VC_wr h (by omega) _ _) (by omega) _ _, by rw [rdI_nj _ _ _ _ (by decide), rdI_eq]; rfl, by rw [rdI_eq]; rfl⟩ (by
    rintro a z ha ⟨m, rfl, V, g2, g3⟩
    have c0 := V.1
    unfold m_X1_findMore_b12
    simp (disch := omega) only [zz_0, zz_1, zz_2, zz_3, zz_4, zz_5, zz_6, zz_7, zz_8, zz_9, zz_10, zz_11, zz_12, zz_13, zz_14, zz_15, zz_16, zz_20, zz_24, zz_25, zz_26, zz_28, zz_31, zz_32, zz_36, zz_39, zz_40, zz_48, zz_49, zz_50, zz_57, zz_59, zz_60, zz_64, zz_72, zz_97, zz_99, zz_100, zz_122, zz_144, zz_161, zz_255, zz_256, zz_288, zz_322, zz_384, zz_400, zz_448, zz_600, zz_1280, zz_1000000, nI_add, n_mul, n_sub, fa_or, fa_and, fb_xorI, n_div, n_rem, n_le, n_lt, n_eq, n_shl1, n_shr, n_andn, n_ix, n_grd, n_gdz, n_gbz, n_hasM, n_hasC, b2_0, b2_1, n_m1, Option.bind_some, bS_inl, bS_inr, n_max, n_min, n_grt, n_les, c0]
    rw [if_neg (by omega)]
    obtain ⟨m', e', V', y2, y3⟩ := loop_n (body := m_X1_findMore_b22 (nI a, m)) (a := (nI 0, m)) (fun b z => ∃ m, z = (nI b, m) ∧ VC W m ∧ mI m 32 2 = nI (fb_ct (mP W) (48 * a + 8 * b)) ∧ mI m 32 3 = encV (fst1 (mP W) (48 * a + 8 * b))) (fun m => VC W m ∧ mI m 32 2 = nI (fb_ct (mP W) (48 * (a + 1))) ∧ mI m 32 3 = encV (fst1 (mP W) (48 * (a + 1)))) (fk W) (FU_big (by omega)) ⟨m, rfl, V, g2, g3⟩ (by
      rintro b z hb ⟨m, rfl, V, g2, g3⟩
      have c0 := V.1
      unfold m_X1_findMore_b22
      simp (disch := omega) only [zz_0, zz_1, zz_2, zz_3, zz_4, zz_5, zz_6, zz_7, zz_8, zz_9, zz_10, zz_11, zz_12, zz_13, zz_14, zz_15, zz_16, zz_20, zz_24, zz_25, zz_26, zz_28, zz_31, zz_32, zz_36, zz_39, zz_40, zz_48, zz_49, zz_50, zz_57, zz_59, zz_60, zz_64, zz_72, zz_97, zz_99, zz_100, zz_122, zz_144, zz_161, zz_255, zz_256, zz_288, zz_322, zz_384, zz_400, zz_448, zz_600, zz_1280, zz_1000000, nI_add, n_mul, n_sub, fa_or, fa_and, fb_xorI, n_div, n_rem, n_le, n_lt, n_eq, n_shl1, n_shr, n_andn, n_ix, n_grd, n_gdz, n_gbz, n_hasM, n_hasC, b2_0, b2_1, n_m1, Option.bind_some, bS_inl, bS_inr, n_max, n_min, n_grt, n_les, c0]
      rw [if_neg (by omega)]
      by_cases hab : a = b
      · simp only [hab, if_true, Option.bind_some]
        refine ⟨_, rfl, m, rfl, V, ?_, ?_⟩
        · rw [g2, ct_same (m := 48 * a + 8 * b) (n := 48 * b + 8 * (b + 1)) (by omega) (fun i h1 h2 => by
            have h9 := off b b (i - (48 * b + 8 * b)) (by omega) (by omega) (by omega) (Or.inr (Or.inr rfl))
            rwa [show 48 * b + 8 * b + (i - (48 * b + 8 * b)) = i by omega] at h9)]
        · rw [g3, fst1_same (m := 48 * a + 8 * b) (n := 48 * b + 8 * (b + 1)) (by omega) (fun i h1 h2 => by
            have h9 := off b b (i - (48 * b + 8 * b)) (by omega) (by omega) (by omega) (Or.inr (Or.inr rfl))
            rwa [show 48 * b + 8 * b + (i - (48 * b + 8 * b)) = i by omega] at h9)]
      · obtain ⟨m', e1, V', y2, y3⟩ := C_findMoreOf V wf hc ha hb hab g2 g3
        simp only [hab, if_false, e1, Option.bind_some]
        exact ⟨_, rfl, m', rfl, V', y2, y3⟩) (by
      rintro z ⟨m, rfl, V, g2, g3⟩
      have c0 := V.1
      unfold m_X1_findMore_b22
      simp (disch := omega) only [zz_0, zz_1, zz_2, zz_3, zz_4, zz_5, zz_6, zz_7, zz_8, zz_9, zz_10, zz_11, zz_12, zz_13, zz_14, zz_15, zz_16, zz_20, zz_24, zz_25, zz_26, zz_28, zz_31, zz_32, zz_36, zz_39, zz_40, zz_48, zz_49, zz_50, zz_57, zz_59, zz_60, zz_64, zz_72, zz_97, zz_99, zz_100, zz_122, zz_144, zz_161, zz_255, zz_256, zz_288, zz_322, zz_384, zz_400, zz_448, zz_600, zz_1280, zz_1000000, nI_add, n_mul, n_sub, fa_or, fa_and, fb_xorI, n_div, n_rem, n_le, n_lt, n_eq, n_shl1, n_shr, n_andn, n_ix, n_grd, n_gdz, n_gbz, n_hasM, n_hasC, b2_0, b2_1, n_m1, Option.bind_some, bS_inl, bS_inr, n_max, n_min, n_grt, n_les, c0]
      rw [if_pos (by omega)]
      refine ⟨_, rfl, V, ?_, ?_⟩
      · rw [g2, ct_same (m := 48 * a + 8 * fk W) (n := 48 * (a + 1)) (by omega) (fun i h1 h2 => off2 i (by omega) (by omega))]
      · rw [g3, fst1_same (m := 48 * a + 8 * fk W) (n := 48 * (a + 1)) (by omega) (fun i h1 h2 => off2 i (by omega) (by omega))])
    rw [e']
    simp only [Option.bind_some]
    exact ⟨_, rfl, m', rfl, V', y2, y3⟩) (by
    rintro z ⟨m, rfl, V, g2, g3⟩
    have c0 := V.1
    unfold m_X1_findMore_b12
    simp (disch := omega) only [zz_0, zz_1, zz_2, zz_3, zz_4, zz_5, zz_6, zz_7, zz_8, zz_9, zz_10, zz_11, zz_12, zz_13, zz_14, zz_15, zz_16, zz_20, zz_24, zz_25, zz_26, zz_28, zz_31, zz_32, zz_36, zz_39, zz_40, zz_48, zz_49, zz_50, zz_57, zz_59, zz_60, zz_64, zz_72, zz_97, zz_99, zz_100, zz_122, zz_144, zz_161, zz_255, zz_256, zz_288, zz_322, zz_384, zz_400, zz_448, zz_600, zz_1280, zz_1000000, nI_add, n_mul, n_sub, fa_or, fa_and, fb_xorI, n_div, n_rem, n_le, n_lt, n_eq, n_shl1, n_shr, n_andn, n_ix, n_grd, n_gdz, n_gbz, n_hasM, n_hasC, b2_0, b2_1, n_m1, Option.bind_some, bS_inl, bS_inr, n_max, n_min, n_grt, n_les, c0]
    rw [if_pos (by omega)]
    refine ⟨_, rfl, ?_, ?_⟩
    · rw [g2, ct_same (m := 48 * fk W) (n := 288) (by omega) (fun i h1 h2 => off2 i (by omega) (by omega))]
    · rw [g3, fst1_same (m := 48 * fk W) (n := 288) (by omega) (fun i h1 h2 => off2 i (by omega) (by omega))])
  exact ⟨q, e, hq⟩
/-- the oaths for one of things that are not in a set -/
def oout (W : Cn) (p T : Nat) : Nat := fo (fun k s => s ||| if bd W k = p ∧ T.testBit (th W k) = false then 2 ^ k else 0) 0 (oa W)
theorem oout_bit (W : Cn) (p T k : Nat) : (oout W p T).testBit k = true ↔ k < oa W ∧ bd W k = p ∧ T.testBit (th W k) = false := by
  unfold oout
  rw [fo_or_bit (fun k => if bd W k = p ∧ T.testBit (th W k) = false then 2 ^ k else 0)]
  simp only [ite_bit]
  constructor
  · rintro ⟨j, h1, h2, rfl⟩; exact ⟨h1, h2⟩
  · rintro ⟨h1, h2⟩; exact ⟨k, h1, h2, rfl⟩
theorem oout_b {W : Cn} (wo : oa W ≤ 12) (p T : Nat) : oout W p T < 4096 := by
  refine fo_inv (n := oa W) (fun _ x => x < 2 ^ 12) (show 0 < 2 ^ 12 by decide) (fun i x hi hx => or_b hx ?_) _ (Nat.le_refl _)
  exact ite_b (by omega)
theorem C_oathsOutside {W : Cn} {mm : Mm} (h : VC W mm) (wf : WF W) {p T : Nat} (hp : p < 6) (hT : T < 256) : m_X1_oathsOutside (nI p) (nI T) mm = some (nI (oout W p T)) := by
  obtain ⟨c0, c1, c12, c15, c16, c17, c18, c19, c20, c21, c22, c23⟩ := h
  obtain ⟨f1, f2, f3, f4, f5, f6, f7, f8, f9, f10, f11⟩ := wf
  unfold m_X1_oathsOutside
  rw [o_id]
  refine loop_fo (fun (x : Nat) i => (nI x, nI i)) _ 0 (oa W) (fun x => nI x) (fun i x => True) rfl (FU_big (by omega)) trivial (fun _ _ _ _ => trivial) ?_ ?_
  · intro i x hi hx
    have g1 := f10 i
    have g2 := f11 i
    unfold m_X1_oathsOutside_b5
    simp (disch := omega) only [zz_0, zz_1, zz_2, zz_3, zz_4, zz_5, zz_6, zz_7, zz_8, zz_9, zz_10, zz_11, zz_12, zz_13, zz_14, zz_15, zz_16, zz_20, zz_24, zz_25, zz_26, zz_28, zz_31, zz_32, zz_36, zz_39, zz_40, zz_48, zz_49, zz_50, zz_57, zz_59, zz_60, zz_64, zz_72, zz_97, zz_99, zz_100, zz_122, zz_144, zz_161, zz_255, zz_256, zz_288, zz_322, zz_384, zz_400, zz_448, zz_600, zz_1280, zz_1000000, nI_add, n_mul, n_sub, fa_or, fa_and, fb_xorI, n_div, n_rem, n_le, n_lt, n_eq, n_shl1, n_shr, n_andn, n_ix, n_grd, n_gdz, n_gbz, n_hasM, n_hasC, b2_0, b2_1, n_m1, Option.bind_some, bS_inl, bS_inr, n_max, n_min, n_grt, n_les, c0, c1, c15, c16, c17, c18, c19, c20, c21, c22]
    rw [if_neg (by omega)]
    by_cases k1 : bd W i = p <;> cases k2 : T.testBit (th W i) <;> simp [k1]
  · intro x hx
    unfold m_X1_oathsOutside_b5
    simp (disch := omega) only [zz_0, zz_1, zz_2, zz_3, zz_4, zz_5, zz_6, zz_7, zz_8, zz_9, zz_10, zz_11, zz_12, zz_13, zz_14, zz_15, zz_16, zz_20, zz_24, zz_25, zz_26, zz_28, zz_31, zz_32, zz_36, zz_39, zz_40, zz_48, zz_49, zz_50, zz_57, zz_59, zz_60, zz_64, zz_72, zz_97, zz_99, zz_100, zz_122, zz_144, zz_161, zz_255, zz_256, zz_288, zz_322, zz_384, zz_400, zz_448, zz_600, zz_1280, zz_1000000, nI_add, n_mul, n_sub, fa_or, fa_and, fb_xorI, n_div, n_rem, n_le, n_lt, n_eq, n_shl1, n_shr, n_andn, n_ix, n_grd, n_gdz, n_gbz, n_hasM, n_hasC, b2_0, b2_1, n_m1, Option.bind_some, bS_inl, bS_inr, n_max, n_min, n_grt, n_les, c0, c1, c15, c16, c17, c18, c19, c20, c21, c22]
    rw [if_pos (by omega)]
/-- fewer, or as many and less -/
def lexL (x y : Nat) : Prop := pc x < pc y ∨ (pc x = pc y ∧ x ≤ y)
theorem lexL_rf (x : Nat) : lexL x x := Or.inr ⟨rfl, Nat.le_refl _⟩
theorem lexL_tr {x y z : Nat} (h1 : lexL x y) (h2 : lexL y z) : lexL x z := by unfold lexL at *; omega
def cand (W : Cn) (p T : Nat) : Prop := subS T (opn W 0 p) ∧ bst W T (rm W p) = T
theorem pc_sub {x y : Nat} (h : subS x y) : pc x ≤ pc y := fb_ct_sub (fun k _ hk => h k hk)
theorem bst_0 {W : Cn} (hc : symC (cl W)) (r : Nat) : bst W 0 r = 0 := by
  have h := (bst_ok hc 0 r).1
  have := sub_le h
  omega
theorem dif0 : ∀ a, a < 13 → ∀ b, b < 13 → (0 < nI a - nI b ↔ b < a) ∧ (nI a - nI b = 0 ↔ a = b) := by decide +kernel
theorem C_strikesFor {W : Cn} {mm : Mm} (h : VC W mm) (wf : WF W) (hc : symC (cl W)) {p : Nat} (hp : p < 6) : ∃ T, cand W p T ∧ (∀ T', cand W p T' → lexL (oout W p T) (oout W p T')) ∧ m_X1_strikesFor (nI p) mm = some (nI (oout W p T)) := by
  have wo := h.2.2.1
  have e1 := C_openTo h wf (st := 0) (by decide) hp
  have e2 := C_oathsOutside h wf hp (T := 0) (by decide)
  have ob := opn_b wf 0 p
  have g4 := wf.2.2.2.1 p
  have g5 := h.2.2.2.2.1 p hp
  unfold m_X1_strikesFor
  simp only [zz_0, zz_1, zz_2, zz_3, zz_4, zz_5, zz_6, zz_7, zz_8, zz_9, zz_10, zz_11, zz_12, zz_13, zz_14, zz_15, zz_16, zz_20, zz_24, zz_25, zz_26, zz_28, zz_31, zz_32, zz_36, zz_39, zz_40, zz_48, zz_49, zz_50, zz_57, zz_59, zz_60, zz_64, zz_72, zz_97, zz_99, zz_100, zz_122, zz_144, zz_161, zz_255, zz_256, zz_288, zz_322, zz_384, zz_400, zz_448, zz_600, zz_1280, zz_1000000, e1, e2, Option.bind_some, o_id]
  obtain ⟨q, e, T, hT, rfl, hall⟩ := loop_n (body := m_X1_strikesFor_b17 (nI p) mm (nI (opn W 0 p))) (a := (nI (oout W p 0), nI 1)) (fun i z => ∃ T, cand W p T ∧ z = (nI (oout W p T), nI (i + 1)) ∧ ∀ T', T' < i + 1 → cand W p T' → lexL (oout W p T) (oout W p T')) (fun q => ∃ T, cand W p T ∧ q = nI (oout W p T) ∧ ∀ T', T' < opn W 0 p + 1 → cand W p T' → lexL (oout W p T) (oout W p T')) (opn W 0 p) (FU_big (by omega)) ⟨0, ⟨fun i hi => by simp at hi, bst_0 hc _⟩, rfl, fun T' hT' _ => by rw [show T' = 0 by omega]; exact lexL_rf _⟩ (by
    rintro i z hi ⟨T, hT, rfl, hall⟩
    have o1 := oout_b wo p T
    have o2 := oout_b wo p (i + 1)
    have nb := ndf_le (i + 1) (opn W 0 p)
    have ek : m_X7_keptOf (nI (i + 1)) (nI (rm W p)) mm = some (nI (bst W (i + 1) (rm W p))) := C_keptOf h (by omega) g4
    have eo := C_oathsOutside h wf hp (T := i + 1) (by omega)
    have kb := bst_b W hc (i + 1) (rm W p)
    have p1 := pc_le (oout W p T)
    have p2 := pc_le (oout W p (i + 1))
    have d := dif0 (pc (oout W p T)) (by omega) (pc (oout W p (i + 1))) (by omega)
    have stay : (¬ cand W p (i + 1)) → ∀ T', T' < i + 1 + 1 → cand W p T' → lexL (oout W p T) (oout W p T') := fun hn T' h1 h2 => by
      by_cases e : T' = i + 1
      · rw [e] at h2; exact absurd h2 hn
      · exact hall T' (by omega) h2
    unfold m_X1_strikesFor_b17
    simp (disch := omega) only [zz_0, zz_1, zz_2, zz_3, zz_4, zz_5, zz_6, zz_7, zz_8, zz_9, zz_10, zz_11, zz_12, zz_13, zz_14, zz_15, zz_16, zz_20, zz_24, zz_25, zz_26, zz_28, zz_31, zz_32, zz_36, zz_39, zz_40, zz_48, zz_49, zz_50, zz_57, zz_59, zz_60, zz_64, zz_72, zz_97, zz_99, zz_100, zz_122, zz_144, zz_161, zz_255, zz_256, zz_288, zz_322, zz_384, zz_400, zz_448, zz_600, zz_1280, zz_1000000, nI_add, n_mul, n_sub, fa_or, fa_and, fb_xorI, n_div, n_rem, n_le, n_lt, n_eq, n_shl1, n_shr, n_andn, n_ix, n_grd, n_gdz, n_gbz, n_hasM, n_hasC, b2_0, b2_1, n_m1, Option.bind_some, bS_inl, bS_inr, n_max, n_min, n_grt, n_les, g5, ek, eo, bitc_eq]
    rw [if_neg (by omega)]
    by_cases k1 : ndf (i + 1) (opn W 0 p) = 0
    · have hs : subS (i + 1) (opn W 0 p) := ndf_0.mp k1
      simp only [k1, if_true]
      by_cases k2 : bst W (i + 1) (rm W p) = i + 1
      · have hcd : cand W p (i + 1) := ⟨hs, k2⟩
        simp only [k2, if_true, Option.bind_some, show (nI 0 : Int32) = 0 from rfl, d.1, d.2]
        by_cases k3 : pc (oout W p (i + 1)) < pc (oout W p T)
        · simp only [k3, if_true]
          refine ⟨_, rfl, i + 1, hcd, rfl, fun T' h1 h2 => ?_⟩
          by_cases e : T' = i + 1
          · rw [e]; exact lexL_rf _
          · exact lexL_tr (Or.inl k3) (hall T' (by omega) h2)
        · simp only [k3, if_false]
          by_cases k4 : pc (oout W p T) = pc (oout W p (i + 1))
          · simp only [k4, if_true]
            by_cases k5 : oout W p T ≤ oout W p (i + 1)
            · simp only [k5, if_true]
              refine ⟨_, rfl, T, hT, rfl, fun T' h1 h2 => ?_⟩
              by_cases e : T' = i + 1
              · rw [e]; exact Or.inr ⟨k4, k5⟩
              · exact hall T' (by omega) h2
            · simp only [k5, if_false]
              refine ⟨_, rfl, i + 1, hcd, rfl, fun T' h1 h2 => ?_⟩
              by_cases e : T' = i + 1
              · rw [e]; exact lexL_rf _
              · exact lexL_tr (Or.inr ⟨k4.symm, by omega⟩) (hall T' (by omega) h2)
          · simp only [k4, if_false]
            refine ⟨_, rfl, T, hT, rfl, fun T' h1 h2 => ?_⟩
            by_cases e : T' = i + 1
            · rw [e]; exact Or.inl (by omega)
            · exact hall T' (by omega) h2
      · simp only [k2, if_false, Option.bind_some]
        exact ⟨_, rfl, T, hT, rfl, stay (fun q => k2 q.2)⟩
    · simp only [k1, if_false, Option.bind_some]
      exact ⟨_, rfl, T, hT, rfl, stay (fun q => k1 (ndf_0.mpr q.1))⟩) (by
    rintro z ⟨T, hT, rfl, hall⟩
    unfold m_X1_strikesFor_b17
    simp (disch := omega) only [zz_0, zz_1, zz_2, zz_3, zz_4, zz_5, zz_6, zz_7, zz_8, zz_9, zz_10, zz_11, zz_12, zz_13, zz_14, zz_15, zz_16, zz_20, zz_24, zz_25, zz_26, zz_28, zz_31, zz_32, zz_36, zz_39, zz_40, zz_48, zz_49, zz_50, zz_57, zz_59, zz_60, zz_64, zz_72, zz_97, zz_99, zz_100, zz_122, zz_144, zz_161, zz_255, zz_256, zz_288, zz_322, zz_384, zz_400, zz_448, zz_600, zz_1280, zz_1000000, nI_add, n_mul, n_sub, fa_or, fa_and, fb_xorI, n_div, n_rem, n_le, n_lt, n_eq, n_shl1, n_shr, n_andn, n_ix, n_grd, n_gdz, n_gbz, n_hasM, n_hasC, b2_0, b2_1, n_m1, Option.bind_some, bS_inl, bS_inr, n_max, n_min, n_grt, n_les]
    rw [if_pos (by omega)]
    exact ⟨_, rfl, T, hT, rfl, hall⟩)
  refine ⟨T, hT, fun T' h2 => hall T' ?_ h2, e⟩
  have := sub_le h2.1
  omega
/-- none of the oaths for one that are left is broken -/
def fine (W : Cn) (p y : Nat) : Prop := ∀ k, k < oa W → bd W k = p → y.testBit k = false → (kby W y p).testBit (th W k) = true
theorem fine_out {W : Cn} {p T : Nat} (h : cand W p T) {y : Nat} (hy : ∀ k, k < oa W → bd W k = p → y.testBit k = (oout W p T).testBit k) : fine W p y := by
  have ho : opn W y p = T := by
    apply Nat.eq_of_testBit_eq
    intro i
    rw [Bool.eq_iff_iff, opn_bit]
    constructor
    · rintro ⟨k, h1, ⟨h2, h3, h4⟩, h5⟩
      rw [hy k h1 h2] at h3
      cases hT : T.testBit i with
      | true => rfl
      | false =>
        have := (oout_bit W p T k).mpr ⟨h1, h2, by rw [h5]; exact hT⟩
        rw [this] at h3; cases h3
    · intro hi
      obtain ⟨k, h1, ⟨h2, h3, h4⟩, h5⟩ := (opn_bit W 0 p i).mp (h.1 i hi)
      refine ⟨k, h1, ⟨h2, ?_, h4⟩, h5⟩
      rw [hy k h1 h2]
      cases ho : (oout W p T).testBit k with
      | false => rfl
      | true =>
        have := ((oout_bit W p T k).mp ho).2.2
        rw [h5, hi] at this; cases this
  intro k h1 h2 h3
  unfold kby
  rw [ho, h.2]
  cases hT : T.testBit (th W k) with
  | true => rfl
  | false =>
    have := (oout_bit W p T k).mpr ⟨h1, h2, hT⟩
    rw [← hy k h1 h2, h3] at this; cases this
theorem swf_bit (W : Cn) (st p t : Nat) : (swf W st p).testBit t = true ↔ ∃ k, k < oa W ∧ (bd W k = p ∧ st.testBit k = false) ∧ th W k = t := by
  unfold swf
  rw [fo_or_bit (fun k => if bd W k = p ∧ st.testBit k = false then 2 ^ th W k else 0)]
  simp only [ite_bit]
theorem fine_cand {W : Cn} (hc : symC (cl W)) {p y : Nat} (h : fine W p y) : cand W p (swf W y p) ∧ ∀ k, (oout W p (swf W y p)).testBit k = true → y.testBit k = true := by
  have h1 : ∀ i, (swf W y p).testBit i = true → (kby W y p).testBit i = true := by
    intro i hi
    obtain ⟨k, h2, ⟨h3, h4⟩, h5⟩ := (swf_bit W y p i).mp hi
    rw [← h5]; exact h k h2 h3 h4
  have h2 : ∀ i, (kby W y p).testBit i = true → (opn W y p).testBit i = true := (bst_ok hc _ _).1
  have h3 : ∀ i, (opn W y p).testBit i = true → (swf W y p).testBit i = true := by
    intro i hi
    obtain ⟨k, h2, ⟨h3, h4, _⟩, h5⟩ := (opn_bit W y p i).mp hi
    exact (swf_bit W y p i).mpr ⟨k, h2, ⟨h3, h4⟩, h5⟩
  have e1 : opn W y p = swf W y p := by
    apply Nat.eq_of_testBit_eq
    intro i
    rw [Bool.eq_iff_iff]
    exact ⟨h3 i, fun q => h2 i (h1 i q)⟩
  have e2 : kby W y p = swf W y p := by
    apply Nat.eq_of_testBit_eq
    intro i
    rw [Bool.eq_iff_iff]
    exact ⟨fun q => h3 i (h2 i q), h1 i⟩
  refine ⟨⟨fun i hi => ?_, ?_⟩, fun k hk => ?_⟩
  · rw [← e1] at hi
    obtain ⟨k, h2, ⟨h3, h4, h5⟩, h6⟩ := (opn_bit W y p i).mp hi
    exact (opn_bit W 0 p i).mpr ⟨k, h2, ⟨h3, by simp, h5⟩, h6⟩
  · have : bst W (opn W y p) (rm W p) = swf W y p := e2
    rw [e1] at this
    exact this
  · obtain ⟨h4, h5, h6⟩ := (oout_bit W p _ k).mp hk
    cases hy : y.testBit k with
    | true => rfl
    | false =>
      have := (swf_bit W y p (th W k)).mpr ⟨k, h4, ⟨h5, hy⟩, rfl⟩
      rw [h6] at this; cases this
theorem or_disj : ∀ (n a b : Nat), a ≤ n → a &&& b = 0 → a ||| b = a + b
  | 0, a, b, hn, h => by rw [show a = 0 by omega]; simp
  | n + 1, a, b, hn, h => by
    by_cases h0 : a = 0
    · rw [h0]; simp
    · have d1 := Nat.and_div_two (a := a) (b := b)
      have d2 := Nat.or_div_two (a := a) (b := b)
      have e1 : (a &&& b) % 2 = (a % 2) &&& (b % 2) := Nat.and_mod_two_pow (n := 1)
      have e2 : (a ||| b) % 2 = (a % 2) ||| (b % 2) := Nat.or_mod_two_pow (n := 1)
      rw [h] at d1 e1
      have ih := or_disj n (a / 2) (b / 2) (by omega) d1.symm
      have ha : a % 2 = 0 ∨ a % 2 = 1 := by omega
      have hb : b % 2 = 0 ∨ b % 2 = 1 := by omega
      rcases ha with ha | ha <;> rcases hb with hb | hb <;> rw [ha, hb] at e1 e2
      · have : (a ||| b) % 2 = 0 := e2
        omega
      · have : (a ||| b) % 2 = 1 := e2
        omega
      · have : (a ||| b) % 2 = 1 := e2
        omega
      · exact absurd e1 (by decide)
theorem pc_or {a b : Nat} (h : ∀ i, ¬ (a.testBit i = true ∧ b.testBit i = true)) : pc (a ||| b) = pc a + pc b := by
  unfold pc
  rw [← fb_ct_or (fun k _ => h k)]
  exact fb_ct_cong (fun k _ => Nat.testBit_or a b k)
theorem add_or {a b : Nat} (h : ∀ i, ¬ (a.testBit i = true ∧ b.testBit i = true)) : a ||| b = a + b := by
  apply or_disj a a b (Nat.le_refl _)
  apply Nat.eq_of_testBit_eq
  intro i
  rw [Nat.testBit_and, Nat.zero_testBit]
  have h9 := h i
  cases ha : a.testBit i <;> cases hb : b.testBit i
  · rfl
  · rfl
  · rfl
  · exact absurd ⟨ha, hb⟩ h9
theorem lex_or {a b a' b' : Nat} (h1 : lexL a a') (h2 : lexL b b') (d : ∀ i, ¬ (a.testBit i = true ∧ b.testBit i = true)) (d' : ∀ i, ¬ (a'.testBit i = true ∧ b'.testBit i = true)) : lexL (a ||| b) (a' ||| b') := by
  unfold lexL at *
  rw [pc_or d, pc_or d', add_or d, add_or d']
  omega
/-- what of a set of oaths is for some -/
def rstr (W : Cn) (q : Nat → Bool) (y : Nat) : Nat := fo (fun k s => s ||| if q (bd W k) = true ∧ y.testBit k = true then 2 ^ k else 0) 0 (oa W)
theorem rstr_bit (W : Cn) (q : Nat → Bool) (y k : Nat) : (rstr W q y).testBit k = true ↔ k < oa W ∧ q (bd W k) = true ∧ y.testBit k = true := by
  unfold rstr
  rw [fo_or_bit (fun k => if q (bd W k) = true ∧ y.testBit k = true then 2 ^ k else 0)]
  simp only [ite_bit]
  constructor
  · rintro ⟨j, h1, h2, rfl⟩; exact ⟨h1, h2⟩
  · rintro ⟨h1, h2⟩; exact ⟨k, h1, h2, rfl⟩
/-- the fewest, of several the least, by which none is broken -/
def strk (W : Cn) (x : Nat) : Prop := x < 2 ^ oa W ∧ brk W x = 0 ∧ ∀ y, y < 2 ^ oa W → brk W y = 0 → lexL x y
theorem strk_one {W : Cn} {x y : Nat} (hx : strk W x) (hy : strk W y) : x = y := by
  have h1 := hx.2.2 y hy.1 hy.2.1
  have h2 := hy.2.2 x hx.1 hx.2.1
  unfold lexL at h1 h2
  omega
theorem brk_fine {W : Cn} (wo : WO W) (y : Nat) : brk W y = 0 ↔ ∀ p, fine W p y := by
  constructor
  · intro h p k h1 h2 h3
    cases hk : (kby W y p).testBit (th W k) with
    | true => rfl
    | false =>
      have := (brk_bit W y k).mpr ⟨h1, (wo.2 k h1).2.1, h3, by rw [h2]; exact hk⟩
      rw [h] at this; simp at this
  · intro h
    apply Nat.eq_of_testBit_eq
    intro i
    rw [Nat.zero_testBit]
    cases hi : (brk W y).testBit i with
    | false => rfl
    | true =>
      obtain ⟨h1, h2, h3, h4⟩ := (brk_bit W y i).mp hi
      rw [h _ i h1 rfl h3] at h4
      cases h4
theorem C_strikes {W : Cn} {mm : Mm} (h : VC W mm) (wf : WF W) (hc : symC (cl W)) (wo : WO W) : ∃ x, strk W x ∧ m_X1_strikes mm = some (nI x) := by
  have hf := wf.1
  have c0 := h.1
  unfold m_X1_strikes
  simp only [zz_0, zz_1, zz_2, zz_3, zz_4, zz_5, zz_6, zz_7, zz_8, zz_9, zz_10, zz_11, zz_12, zz_13, zz_14, zz_15, zz_16, zz_20, zz_24, zz_25, zz_26, zz_28, zz_31, zz_32, zz_36, zz_39, zz_40, zz_48, zz_49, zz_50, zz_57, zz_59, zz_60, zz_64, zz_72, zz_97, zz_99, zz_100, zz_122, zz_144, zz_161, zz_255, zz_256, zz_288, zz_322, zz_384, zz_400, zz_448, zz_600, zz_1280, zz_1000000, o_id]
  obtain ⟨q, e, x, rfl, h1, h2, h3⟩ := loop_n (body := m_X1_strikes_b4 mm) (a := (nI 0, nI 0)) (fun i z => ∃ x, z = (nI x, nI i) ∧ (∀ k, x.testBit k = true → k < oa W ∧ bd W k < i) ∧ (∀ p, p < i → ∀ y, (∀ k, k < oa W → bd W k < i → y.testBit k = x.testBit k) → fine W p y) ∧ ∀ y, (∀ p, p < i → fine W p y) → lexL x (rstr W (fun p => decide (p < i)) y)) (fun q => ∃ x, q = nI x ∧ (∀ k, x.testBit k = true → k < oa W ∧ bd W k < fk W) ∧ (∀ p, p < fk W → ∀ y, (∀ k, k < oa W → bd W k < fk W → y.testBit k = x.testBit k) → fine W p y) ∧ ∀ y, (∀ p, p < fk W → fine W p y) → lexL x (rstr W (fun p => decide (p < fk W)) y)) (fk W) (FU_big (by omega)) ⟨0, rfl, fun k hk => by simp at hk, fun p hp => absurd hp (Nat.not_lt_zero p), fun y _ => by
      have : pc 0 ≤ pc (rstr W (fun p => decide (p < 0)) y) := by rw [pc_zero]; omega
      unfold lexL; omega⟩ (by
    rintro i z hi ⟨x, rfl, g1, g2, g3⟩
    obtain ⟨T, hT, hall, eT⟩ := C_strikesFor h wf hc (p := i) (by omega)
    unfold m_X1_strikes_b4
    simp (disch := omega) only [zz_0, zz_1, zz_2, zz_3, zz_4, zz_5, zz_6, zz_7, zz_8, zz_9, zz_10, zz_11, zz_12, zz_13, zz_14, zz_15, zz_16, zz_20, zz_24, zz_25, zz_26, zz_28, zz_31, zz_32, zz_36, zz_39, zz_40, zz_48, zz_49, zz_50, zz_57, zz_59, zz_60, zz_64, zz_72, zz_97, zz_99, zz_100, zz_122, zz_144, zz_161, zz_255, zz_256, zz_288, zz_322, zz_384, zz_400, zz_448, zz_600, zz_1280, zz_1000000, nI_add, n_mul, n_sub, fa_or, fa_and, fb_xorI, n_div, n_rem, n_le, n_lt, n_eq, n_shl1, n_shr, n_andn, n_ix, n_grd, n_gdz, n_gbz, n_hasM, n_hasC, b2_0, b2_1, n_m1, Option.bind_some, bS_inl, bS_inr, n_max, n_min, n_grt, n_les, c0, eT]
    rw [if_neg (by omega)]
    refine ⟨_, rfl, _, rfl, fun k hk => ?_, fun p hp y hy => ?_, fun y hy => ?_⟩
    · rw [Nat.testBit_or, Bool.or_eq_true] at hk
      rcases hk with hk | hk
      · have := g1 k hk; omega
      · have := (oout_bit W i T k).mp hk; omega
    · by_cases hpi : p = i
      · subst hpi
        refine fine_out hT (fun k h1 h2 => ?_)
        rw [hy k h1 (by omega), Nat.testBit_or]
        cases hx : x.testBit k with
        | false => rfl
        | true => have := g1 k hx; omega
      · refine g2 p (by omega) y (fun k h1 h2 => ?_)
        rw [hy k h1 (by omega), Nat.testBit_or]
        cases ho : (oout W i T).testBit k with
        | false => exact Bool.or_false _
        | true => have := (oout_bit W i T k).mp ho; omega
    · have hl := g3 y (fun p hp => hy p (by omega))
      obtain ⟨h4, h5⟩ := fine_cand hc (hy i (by omega))
      have hl2 := hall _ h4
      have hs : subS (oout W i (swf W y i)) (rstr W (fun p => decide (p = i)) y) := fun k hk => by
        obtain ⟨h6, h7, h8⟩ := (oout_bit W i _ k).mp hk
        exact (rstr_bit W _ y k).mpr ⟨h6, by simpa using h7, h5 k hk⟩
      have hl3 : lexL (oout W i (swf W y i)) (rstr W (fun p => decide (p = i)) y) := by
        have a1 := pc_sub hs
        have a2 := sub_le hs
        unfold lexL; omega
      have hor : rstr W (fun p => decide (p < i + 1)) y = rstr W (fun p => decide (p < i)) y ||| rstr W (fun p => decide (p = i)) y := by
        apply Nat.eq_of_testBit_eq
        intro k
        rw [Bool.eq_iff_iff, Nat.testBit_or, Bool.or_eq_true, rstr_bit, rstr_bit, rstr_bit]
        simp only [decide_eq_true_eq]
        constructor
        · rintro ⟨a1, a2, a3⟩
          by_cases e : bd W k = i
          · exact Or.inr ⟨a1, e, a3⟩
          · exact Or.inl ⟨a1, by omega, a3⟩
        · rintro (⟨a1, a2, a3⟩ | ⟨a1, a2, a3⟩)
          · exact ⟨a1, by omega, a3⟩
          · exact ⟨a1, by omega, a3⟩
      rw [hor]
      refine lex_or hl (lexL_tr hl2 hl3) (fun k ⟨a1, a2⟩ => ?_) (fun k ⟨a1, a2⟩ => ?_)
      · have b1 := g1 k a1
        have b2 := (oout_bit W i T k).mp a2
        omega
      · have b1 := (rstr_bit W _ y k).mp a1
        have b2 := (rstr_bit W _ y k).mp a2
        simp only [decide_eq_true_eq] at b1 b2
        omega) (by
    rintro z ⟨x, rfl, g1, g2, g3⟩
    unfold m_X1_strikes_b4
    simp (disch := omega) only [zz_0, zz_1, zz_2, zz_3, zz_4, zz_5, zz_6, zz_7, zz_8, zz_9, zz_10, zz_11, zz_12, zz_13, zz_14, zz_15, zz_16, zz_20, zz_24, zz_25, zz_26, zz_28, zz_31, zz_32, zz_36, zz_39, zz_40, zz_48, zz_49, zz_50, zz_57, zz_59, zz_60, zz_64, zz_72, zz_97, zz_99, zz_100, zz_122, zz_144, zz_161, zz_255, zz_256, zz_288, zz_322, zz_384, zz_400, zz_448, zz_600, zz_1280, zz_1000000, nI_add, n_mul, n_sub, fa_or, fa_and, fb_xorI, n_div, n_rem, n_le, n_lt, n_eq, n_shl1, n_shr, n_andn, n_ix, n_grd, n_gdz, n_gbz, n_hasM, n_hasC, b2_0, b2_1, n_m1, Option.bind_some, bS_inl, bS_inr, n_max, n_min, n_grt, n_les, c0]
    rw [if_pos (by omega)]
    exact ⟨_, rfl, x, rfl, g1, g2, g3⟩)
  refine ⟨x, ⟨?_, ?_, fun y hy hb => ?_⟩, e⟩
  · apply Nat.lt_pow_two_of_testBit
    intro i hi
    cases hx : x.testBit i with
    | false => rfl
    | true => have := h1 i hx; omega
  · rw [brk_fine wo]
    intro p k a1 a2 a3
    have := (wo.2 k a1).2.1
    exact h2 p (by omega) x (fun _ _ _ => rfl) k a1 a2 a3
  · have h4 := h3 y (fun p _ => (brk_fine wo y).mp hb p)
    have : rstr W (fun p => decide (p < fk W)) y = y := by
      apply Nat.eq_of_testBit_eq
      intro k
      rw [Bool.eq_iff_iff, rstr_bit]
      constructor
      · exact fun q => q.2.2
      · intro hk
        have hko : k < oa W := by
          apply Classical.byContradiction
          intro hn
          rw [Nat.testBit_lt_two_pow (Nat.lt_of_lt_of_le hy (Nat.pow_le_pow_right (by decide) (by omega)))] at hk
          cases hk
        exact ⟨hko, by simpa using (wo.2 k hko).2.1, hk⟩
    rw [this] at h4
    exact h4
theorem M_strikes {W : Cn} {st c : Nat} {mm : Mm} (h : VM W st c mm) (wf : WF W) (hc : symC (cl W)) (wo : WO W) : ∃ x m, strk W x ∧ m_X12_strikes mm = some (nI x, m) := by
  have wo1 := wo.1
  have po : 2 ^ oa W ≤ 2 ^ 12 := Nat.pow_le_pow_right (by decide) wo1
  have pp := Nat.two_pow_pos (oa W)
  unfold m_X12_strikes
  simp only [zz_0, zz_1, zz_2, zz_3, zz_4, zz_5, zz_6, zz_7, zz_8, zz_9, zz_10, zz_11, zz_12, zz_13, zz_14, zz_15, zz_16, zz_20, zz_24, zz_25, zz_26, zz_28, zz_31, zz_32, zz_36, zz_39, zz_40, zz_48, zz_49, zz_50, zz_57, zz_59, zz_60, zz_64, zz_72, zz_97, zz_99, zz_100, zz_122, zz_144, zz_161, zz_255, zz_256, zz_288, zz_322, zz_384, zz_400, zz_448, zz_600, zz_1280, zz_1000000]
  obtain ⟨q, e, x, m, rfl, hx⟩ := loop_n (body := m_X12_strikes_b4) (a := (-nI 1, nI 0, mm)) (fun i z => ∃ o m st, z = (enc1 o, nI i, m) ∧ VM W st c m ∧ (o = none → ∀ y, y < i → ¬ brk W y = 0) ∧ (∀ x, o = some x → x < i ∧ brk W x = 0 ∧ ∀ y, y < i → brk W y = 0 → lexL x y)) (fun q => ∃ x m, q = (nI x, m) ∧ strk W x) (2 ^ oa W) (FU_big (by omega)) ⟨none, mm, st, rfl, h, fun _ y hy => absurd hy (Nat.not_lt_zero y), fun x hx => by cases hx⟩ (by
    rintro i z hi ⟨o, m, st, rfl, V, g1, g2⟩
    have v25 := V.2.2.1
    have eb := M_brokenOnes (VM_st V i) wf hc (by omega)
    have bb := brk_b wf i
    have p1 := pc_le i
    unfold m_X12_strikes_b4
    simp (disch := omega) only [zz_0, zz_1, zz_2, zz_3, zz_4, zz_5, zz_6, zz_7, zz_8, zz_9, zz_10, zz_11, zz_12, zz_13, zz_14, zz_15, zz_16, zz_20, zz_24, zz_25, zz_26, zz_28, zz_31, zz_32, zz_36, zz_39, zz_40, zz_48, zz_49, zz_50, zz_57, zz_59, zz_60, zz_64, zz_72, zz_97, zz_99, zz_100, zz_122, zz_144, zz_161, zz_255, zz_256, zz_288, zz_322, zz_384, zz_400, zz_448, zz_600, zz_1280, zz_1000000, nI_add, n_mul, n_sub, fa_or, fa_and, fb_xorI, n_div, n_rem, n_le, n_lt, n_eq, n_shl1, n_shr, n_andn, n_ix, n_grd, n_gdz, n_gbz, n_hasM, n_hasC, b2_0, b2_1, n_m1, ob_s, bs_l, bs_r, n_max, n_min, n_grt, n_les, v25, ones_eq, eb]
    rw [if_neg (by omega)]
    cases o with
    | none =>
      rw [if_pos (show enc1 none = m1 from rfl)]
      simp (disch := omega) only [ob_s, n_eq, show ¬ (1 : Nat) = 0 by decide, if_false]
      by_cases k1 : brk W i = 0
      · simp only [k1, if_true, ob_s]
        refine ⟨_, rfl, some i, _, i, rfl, VM_st V i, fun h9 => (by cases h9), fun x hx => ?_⟩
        cases hx
        refine ⟨by omega, k1, fun y hy hb => ?_⟩
        by_cases e : y = i
        · rw [e]; exact lexL_rf _
        · exact absurd hb (g1 rfl y (by omega))
      · simp only [k1, if_false, ob_s]
        refine ⟨_, rfl, none, _, i, rfl, VM_st V i, fun _ y hy => ?_, fun x hx => by cases hx⟩
        by_cases e : y = i
        · rw [e]; exact k1
        · exact g1 rfl y (by omega)
    | some b =>
      obtain ⟨a1, a2, a3⟩ := g2 b rfl
      have p2 := pc_le b
      rw [if_neg (show ¬ enc1 (some b) = m1 from enc1_m1 (by omega)), enc1_some]
      simp (disch := omega) only [ones_eq, ob_s, n_le]
      have stay : (brk W i = 0 → lexL b i) → ∀ y, y < i + 1 → brk W y = 0 → lexL b y := fun hn y h1 h2 => by
        by_cases e : y = i
        · rw [e] at h2 ⊢; exact hn h2
        · exact a3 y (by omega) h2
      by_cases k0 : pc b ≤ pc i
      · simp (disch := omega) only [k0, if_true, ob_s, n_eq]
        refine ⟨_, rfl, some b, _, i, rfl, VM_st V i, fun h9 => (by cases h9), fun x hx => ?_⟩
        cases hx
        exact ⟨by omega, a2, stay (fun _ => by unfold lexL; omega)⟩
      · simp (disch := omega) only [k0, if_false, ob_s, n_eq, show ¬ (1 : Nat) = 0 by decide]
        by_cases k1 : brk W i = 0
        · simp only [k1, if_true, ob_s]
          refine ⟨_, rfl, some i, _, i, rfl, VM_st V i, fun h9 => (by cases h9), fun x hx => ?_⟩
          cases hx
          refine ⟨by omega, k1, fun y hy hb => ?_⟩
          by_cases e : y = i
          · rw [e]; exact lexL_rf _
          · exact lexL_tr (Or.inl (by omega)) (a3 y (by omega) hb)
        · simp only [k1, if_false, ob_s]
          refine ⟨_, rfl, some b, _, i, rfl, VM_st V i, fun h9 => (by cases h9), fun x hx => ?_⟩
          cases hx
          exact ⟨by omega, a2, stay (fun q => absurd q k1)⟩) (by
    rintro z ⟨o, m, st, rfl, V, g1, g2⟩
    have v25 := V.2.2.1
    unfold m_X12_strikes_b4
    simp (disch := omega) only [zz_0, zz_1, zz_2, zz_3, zz_4, zz_5, zz_6, zz_7, zz_8, zz_9, zz_10, zz_11, zz_12, zz_13, zz_14, zz_15, zz_16, zz_20, zz_24, zz_25, zz_26, zz_28, zz_31, zz_32, zz_36, zz_39, zz_40, zz_48, zz_49, zz_50, zz_57, zz_59, zz_60, zz_64, zz_72, zz_97, zz_99, zz_100, zz_122, zz_144, zz_161, zz_255, zz_256, zz_288, zz_322, zz_384, zz_400, zz_448, zz_600, zz_1280, zz_1000000, nI_add, n_mul, n_sub, fa_or, fa_and, fb_xorI, n_div, n_rem, n_le, n_lt, n_eq, n_shl1, n_shr, n_andn, n_ix, n_grd, n_gdz, n_gbz, n_hasM, n_hasC, b2_0, b2_1, n_m1, ob_s, bs_l, bs_r, n_max, n_min, n_grt, n_les, v25]
    rw [if_pos (by omega)]
    cases o with
    | none =>
      exfalso
      refine g1 rfl (2 ^ oa W - 1) (by omega) ((brk_fine wo _).mpr (fun p k h1 h2 h3 => ?_))
      rw [Nat.testBit_two_pow_sub_one] at h3
      simp [h1] at h3
    | some b =>
      obtain ⟨a1, a2, a3⟩ := g2 b rfl
      exact ⟨_, rfl, b, m, rfl, a1, a2, a3⟩)
  rw [e]
  exact ⟨x, m, hx, rfl⟩
