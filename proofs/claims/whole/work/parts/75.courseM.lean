/-! L3: deeds by the reference; mondays -/
theorem M_in9 : ∀ v, v < 10 → m_X12_in (nI v + m1) (nI 0) (nI 9) = b2 (decide (1 ≤ v)) ∧ m_X12_in (nI v + nI 1) (nI 0) (nI 9) = b2 (decide (v < 9)) := by decide +kernel
theorem b2_ne (b : Bool) : (b2 b = 0) = (b = false) := by cases b <;> decide
theorem M_does {W : Cn} {c md kp br pj : Nat} {mm : Mm} (h : VR W c md kp br pj mm) (ok : okW W) (hpj : pj < 64) {k a b t : Nat} {a2 a3 a4 : Int32} (hk0 : k ≠ 0) (hk : k < 7) (ha : a < 6) (hb : b < 6) (ht : t < 8) (e2 : a2 = nI a) (e3 : 3 ≤ k → a3 = nI b) (e4 : k = 6 → a4 = nI t) : ∃ m, m_X12_does (nI k) a2 a3 a4 mm = some (b2 (stp k a b t W pj).isSome, m) ∧ VR ((stp k a b t W pj).getD W) c md kp br pj m := by
  obtain ⟨wf, hc, ho⟩ := ok
  have hf := wf.1
  have V := h.1
  have f3 := wf.2.2.1 a
  have f5 := wf.2.2.2.2.1 b
  have f6 := wf.2.2.2.2.2.1 (6 * a + b)
  have g56 := V.2.2.2.2.1 a ha
  have g58 := V.2.2.2.2.2.2.1 b hb
  have g59 := V.2.2.2.2.2.2.2.1 (6 * a + b) (by omega)
  have same : (stp k a b t W pj) = none → VR ((stp k a b t W pj).getD W) c md kp br pj mm := fun e => by
    rw [e]; exact h
  subst e2
  unfold m_X12_does
  simp (disch := omega) only [zz_0, zz_1, zz_2, zz_3, zz_4, zz_5, zz_6, zz_7, zz_8, zz_9, zz_10, zz_11, zz_12, zz_13, zz_14, zz_15, zz_16, zz_20, zz_24, zz_25, zz_26, zz_28, zz_31, zz_32, zz_36, zz_39, zz_40, zz_48, zz_49, zz_50, zz_57, zz_59, zz_60, zz_64, zz_72, zz_97, zz_99, zz_100, zz_122, zz_144, zz_161, zz_255, zz_256, zz_288, zz_322, zz_384, zz_400, zz_448, zz_600, zz_1280, zz_1000000, n_eq, n_lt]
  rw [if_neg hk0]
  by_cases hgt : 2 < k
  · rw [if_pos hgt]
    have e3' := e3 (by omega)
    subst e3'
    have k1 : ¬ k = 1 := by omega
    have k2 : ¬ k = 2 := by omega
    have es : stp k a b t W pj = if ¬ (a < fk W ∧ b < fk W ∧ a ≠ b) then none else if k = 3 then (if vs W (6 * a + b) < 9 then some (upW W 4 (6 * a + b) (vs W (6 * a + b) + 1)) else none) else if k = 4 then (if (lk W b).testBit a = false then some (upW W 3 b (lk W b ||| 2 ^ a)) else none) else if k = 5 then (if (lk W b).testBit a = true then some (upW W 3 b (ndf (lk W b) (2 ^ a))) else none) else (if pj.testBit a = false ∧ oa W < 12 ∧ has3 W a b t = false then some (addO W a b t) else none) := by unfold stp; rw [if_neg k1, if_neg k2]
    by_cases h2 : a < fk W ∧ b < fk W ∧ a ≠ b
    · rw [M_areTwo V wf h2.1 h2.2.1 h2.2.2, ob_s, if_neg (by decide)]
      rw [if_neg (fun q => q h2)] at es
      by_cases k3 : k = 3
      · rw [if_pos k3]
        rw [if_pos k3] at es
        unfold m_X12_visitsOne
        simp (disch := omega) only [zz_0, zz_1, zz_2, zz_3, zz_4, zz_5, zz_6, zz_7, zz_8, zz_9, zz_10, zz_11, zz_12, zz_13, zz_14, zz_15, zz_16, zz_20, zz_24, zz_25, zz_26, zz_28, zz_31, zz_32, zz_36, zz_39, zz_40, zz_48, zz_49, zz_50, zz_57, zz_59, zz_60, zz_64, zz_72, zz_97, zz_99, zz_100, zz_122, zz_144, zz_161, zz_255, zz_256, zz_288, zz_322, zz_384, zz_400, zz_448, zz_600, zz_1280, zz_1000000, n_mul, nI_add, n_grd, n_ix, g59, n_eq]
        by_cases hz : vs W (6 * a + b) < 9
        · rw [if_neg (by omega), ob_s]
          rw [if_pos hz] at es
          rw [es]
          exact ⟨_, rfl, VR_st h (VM_vis V _ _) (fun j _ _ => rdI_ne _ _ _ _ (by decide))⟩
        · rw [if_pos (by omega), ob_s]
          rw [if_neg hz] at es
          refine ⟨mm, ?_, same es⟩
          rw [es]; rfl
      rw [if_neg k3]
      rw [if_neg k3] at es
      by_cases k4 : k = 4
      · rw [if_pos k4, if_pos k4]
        rw [if_pos k4] at es
        unfold m_X12_courts
        simp (disch := omega) only [zz_0, zz_1, zz_2, zz_3, zz_4, zz_5, zz_6, zz_7, zz_8, zz_9, zz_10, zz_11, zz_12, zz_13, zz_14, zz_15, zz_16, zz_20, zz_24, zz_25, zz_26, zz_28, zz_31, zz_32, zz_36, zz_39, zz_40, zz_48, zz_49, zz_50, zz_57, zz_59, zz_60, zz_64, zz_72, zz_97, zz_99, zz_100, zz_122, zz_144, zz_161, zz_255, zz_256, zz_288, zz_322, zz_384, zz_400, zz_448, zz_600, zz_1280, zz_1000000, n_grd, n_ix, g58, n_hasM, n_shl1, fa_or, b2_1, n_eq]
        cases hz : (lk W b).testBit a with
        | false =>
          rw [if_neg (by decide), if_neg (by decide), ob_s]
          rw [if_pos hz] at es
          rw [es]
          exact ⟨_, rfl, VR_st h (VM_lik V _ _) (fun j _ _ => rdI_ne _ _ _ _ (by decide))⟩
        | true =>
          rw [if_pos rfl, ob_s]
          rw [if_neg (by rw [hz]; decide)] at es
          refine ⟨mm, ?_, same es⟩
          rw [es]; rfl
      rw [if_neg k4]
      rw [if_neg k4] at es
      by_cases k5 : k = 5
      · rw [if_pos k5, if_neg k4]
        rw [if_pos k5] at es
        unfold m_X12_courts
        simp (disch := omega) only [zz_0, zz_1, zz_2, zz_3, zz_4, zz_5, zz_6, zz_7, zz_8, zz_9, zz_10, zz_11, zz_12, zz_13, zz_14, zz_15, zz_16, zz_20, zz_24, zz_25, zz_26, zz_28, zz_31, zz_32, zz_36, zz_39, zz_40, zz_48, zz_49, zz_50, zz_57, zz_59, zz_60, zz_64, zz_72, zz_97, zz_99, zz_100, zz_122, zz_144, zz_161, zz_255, zz_256, zz_288, zz_322, zz_384, zz_400, zz_448, zz_600, zz_1280, zz_1000000, n_grd, n_ix, g58, n_hasM, n_shl1, n_m1, n_andn, b2_0]
        cases hz : (lk W b).testBit a with
        | true =>
          rw [if_neg (by decide), if_pos trivial, ob_s]
          rw [if_pos hz] at es
          rw [es]
          exact ⟨_, rfl, VR_st h (VM_lik V _ _) (fun j _ _ => rdI_ne _ _ _ _ (by decide))⟩
        | false =>
          rw [if_pos rfl, ob_s]
          rw [if_neg (by rw [hz]; decide)] at es
          refine ⟨mm, ?_, same es⟩
          rw [es]; rfl
      rw [if_neg k5]
      rw [if_neg k5] at es
      have k6 : k = 6 := by omega
      have e4' := e4 k6
      subst e4'
      unfold m_X12_swears
      rw [h.2.1, V.2.2.1, M_isThere V wf ha hb ht]
      simp (disch := omega) only [zz_0, zz_1, zz_2, zz_3, zz_4, zz_5, zz_6, zz_7, zz_8, zz_9, zz_10, zz_11, zz_12, zz_13, zz_14, zz_15, zz_16, zz_20, zz_24, zz_25, zz_26, zz_28, zz_31, zz_32, zz_36, zz_39, zz_40, zz_48, zz_49, zz_50, zz_57, zz_59, zz_60, zz_64, zz_72, zz_97, zz_99, zz_100, zz_122, zz_144, zz_161, zz_255, zz_256, zz_288, zz_322, zz_384, zz_400, zz_448, zz_600, zz_1280, zz_1000000, n_hasM, b2_0, n_eq, ob_s]
      cases hz : pj.testBit a with
      | true =>
        rw [if_neg (by decide), ob_s]
        rw [if_neg (fun q => by rw [hz] at q; exact absurd q.1 (by decide))] at es
        refine ⟨mm, ?_, same es⟩
        rw [es]; rfl
      | false =>
        rw [if_pos rfl]
        by_cases h12 : oa W = 12
        · rw [if_pos h12, ob_s]
          rw [if_neg (by omega)] at es
          refine ⟨mm, ?_, same es⟩
          rw [es]; rfl
        · rw [if_neg h12]
          cases hh : has3 W a b t with
          | true =>
            rw [if_neg (by decide), ob_s]
            rw [if_neg (fun q => by rw [hh] at q; exact absurd q.2.2 (by decide))] at es
            refine ⟨mm, ?_, same es⟩
            rw [es]; rfl
          | false =>
            obtain ⟨m', q1, q2, _, _⟩ := VM_addO V wf (a := a) (b := b) (t := t) (by omega)
            have fr := fr_X12_addOath q1
            rw [if_pos rfl, q1, ob_s, ob_s]
            rw [if_pos ⟨hz, by omega, hh⟩] at es
            rw [es]
            refine ⟨m', rfl, VR_st h q2 (fun j h1 h3 => (fr 44 j ?_).1)⟩
            simp [covB]
            omega
    · rw [if_pos h2] at es
      have e5 : m_X12_areTwo (nI a) (nI b) mm = some (b2 false) := by
        rcases two_cases wf (nI a) (nI b) with ⟨p, q, h7, h8, h9, h10, h11⟩ | ⟨_, h7⟩
        · exfalso
          apply h2
          have q1 : a = p := (nI_eq (by omega) (by omega)).mp h7
          have q2 : b = q := (nI_eq (by omega) (by omega)).mp h8
          rw [q1, q2]
          exact ⟨h9, h10, h11⟩
        · exact h7 0 c mm V
      rw [e5, ob_s, if_pos (by decide)]
      refine ⟨mm, ?_, same es⟩
      rw [es]; rfl
  · rw [if_neg hgt]
    unfold m_X12_changesWill
    by_cases k1 : k = 1
    · have es : stp k a b t W pj = if a < fk W ∧ 1 ≤ wl W a then some (upW W 1 a (wl W a - 1)) else none := by unfold stp; rw [if_pos k1]
      rw [if_neg (show ¬ k = 2 by omega)]
      by_cases hlt : a < fk W
      · have wm := wlm (wl W a) (by omega)
        rw [M_isOne_yes V wf hlt, ob_s, if_neg (by decide)]
        simp (disch := omega) only [n_grd, n_ix, g56, n_m1, zz_0, zz_1, zz_2, zz_3, zz_4, zz_5, zz_6, zz_7, zz_8, zz_9, zz_10, zz_11, zz_12, zz_13, zz_14, zz_15, zz_16, zz_20, zz_24, zz_25, zz_26, zz_28, zz_31, zz_32, zz_36, zz_39, zz_40, zz_48, zz_49, zz_50, zz_57, zz_59, zz_60, zz_64, zz_72, zz_97, zz_99, zz_100, zz_122, zz_144, zz_161, zz_255, zz_256, zz_288, zz_322, zz_384, zz_400, zz_448, zz_600, zz_1280, zz_1000000, M_in9]
        simp only [b2_0]
        by_cases hz : 1 ≤ wl W a
        · rw [decide_eq_true hz, if_neg (by decide), (wm.2 (by omega)).2, ob_s]
          rw [if_pos ⟨hlt, hz⟩] at es
          rw [es]
          exact ⟨_, rfl, VR_st h (VM_will V a _) (fun j _ _ => rdI_ne _ _ _ _ (by decide))⟩
        · rw [decide_eq_false hz, if_pos rfl, ob_s]
          rw [if_neg (fun q => hz q.2)] at es
          refine ⟨mm, ?_, same es⟩
          rw [es]; rfl
      · rw [M_isOne_no V wf (a := nI a) (Or.inr (by rw [n_le (by omega) (by omega)]; omega)), ob_s, if_pos (by decide), ob_s]
        rw [if_neg (fun q => hlt q.1)] at es
        refine ⟨mm, ?_, same es⟩
        rw [es]; rfl
    · have k2 : k = 2 := by omega
      have es : stp k a b t W pj = if a < fk W ∧ wl W a < 9 then some (upW W 1 a (wl W a + 1)) else none := by unfold stp; rw [if_neg k1, if_pos k2]
      rw [if_pos k2]
      by_cases hlt : a < fk W
      · rw [M_isOne_yes V wf hlt, ob_s, if_neg (by decide)]
        simp (disch := omega) only [n_grd, n_ix, g56, zz_0, zz_1, zz_2, zz_3, zz_4, zz_5, zz_6, zz_7, zz_8, zz_9, zz_10, zz_11, zz_12, zz_13, zz_14, zz_15, zz_16, zz_20, zz_24, zz_25, zz_26, zz_28, zz_31, zz_32, zz_36, zz_39, zz_40, zz_48, zz_49, zz_50, zz_57, zz_59, zz_60, zz_64, zz_72, zz_97, zz_99, zz_100, zz_122, zz_144, zz_161, zz_255, zz_256, zz_288, zz_322, zz_384, zz_400, zz_448, zz_600, zz_1280, zz_1000000, M_in9]
        simp only [b2_0, nI_add]
        by_cases hz : wl W a < 9
        · rw [decide_eq_true hz, if_neg (by decide), ob_s]
          rw [if_pos ⟨hlt, hz⟩] at es
          rw [es]
          exact ⟨_, rfl, VR_st h (VM_will V a _) (fun j _ _ => rdI_ne _ _ _ _ (by decide))⟩
        · rw [decide_eq_false hz, if_pos rfl, ob_s]
          rw [if_neg (fun q => hz q.2)] at es
          refine ⟨mm, ?_, same es⟩
          rw [es]; rfl
      · rw [M_isOne_no V wf (a := nI a) (Or.inr (by rw [n_le (by omega) (by omega)]; omega)), ob_s, if_pos (by decide), ob_s]
        rw [if_neg (fun q => hlt q.1)] at es
        refine ⟨mm, ?_, same es⟩
        rw [es]; rfl
def kn (W : Cn) : Nat := oa W - pc (brk W 0)
theorem pc_oa {W : Cn} (ho : oa W ≤ 12) : pc (brk W 0) ≤ oa W := by
  have h1 : fb_ct (brk W 0).testBit 12 = fb_ct (brk W 0).testBit (oa W) := ct_same ho (fun i h1 h2 => by
    cases hb : (brk W 0).testBit i with
    | false => rfl
    | true => have := ((brk_bit W 0 i).mp hb).1; omega)
  unfold pc
  rw [h1]
  exact fb_ct_le _ _
theorem M_monday {W : Cn} {c md kp br pj : Nat} {mm : Mm} (h : VR W c md kp br pj mm) (ok : okW W) : ∃ m, m_X12_itIsMonday mm = some (1, m) ∧ VR (zeroO W) c (md + 1) (kp + kn W) (br + pc (brk W 0)) (pj ||| swz W (brk W 0)) m := by
  obtain ⟨wf, hc, ho⟩ := ok
  have bb := brk_b wf 0
  have po := pc_oa ho
  have eo := ones_eq (s := brk W 0) (by omega)
  obtain ⟨V, h27, h28, h29, h30⟩ := h
  unfold m_X12_itIsMonday
  rw [M_brokenOnes V wf hc (by decide), ob_s]
  obtain ⟨m1', e1, V1, k27, k28, k29, k30⟩ := loop_n (body := m_X12_itIsMonday_b7 (nI (brk W 0))) (a := ((0 : Int32), mm)) (fun i z => ∃ m, z = (nI i, m) ∧ VM W 0 c m ∧ mI m 44 27 = nI (pj ||| fo (fun k s => s ||| if (brk W 0).testBit k then 2 ^ sw W k else 0) 0 i) ∧ mI m 44 28 = nI md ∧ mI m 44 29 = nI kp ∧ mI m 44 30 = nI br) (fun m => VM W 0 c m ∧ mI m 44 27 = nI (pj ||| swz W (brk W 0)) ∧ mI m 44 28 = nI md ∧ mI m 44 29 = nI kp ∧ mI m 44 30 = nI br) (oa W) (FU_big (by omega)) ⟨mm, rfl, V, by rw [h27]; simp [fo], h28, h29, h30⟩ (by
    rintro i z hi ⟨m, rfl, V', g27, g28, g29, g30⟩
    have g25 := V'.2.2.1
    have g60 := V'.2.2.2.2.2.2.2.2.1 i hi
    have g1 := wf.2.2.2.2.2.2.2.2.1 i
    unfold m_X12_itIsMonday_b7
    simp (disch := omega) only [zz_0, zz_1, zz_2, zz_3, zz_4, zz_5, zz_6, zz_7, zz_8, zz_9, zz_10, zz_11, zz_12, zz_13, zz_14, zz_15, zz_16, zz_20, zz_24, zz_25, zz_26, zz_28, zz_31, zz_32, zz_36, zz_39, zz_40, zz_48, zz_49, zz_50, zz_57, zz_59, zz_60, zz_64, zz_72, zz_97, zz_99, zz_100, zz_122, zz_144, zz_161, zz_255, zz_256, zz_288, zz_322, zz_384, zz_400, zz_448, zz_600, zz_1280, zz_1000000, g25, n_le, n_hasM, b2_0, n_grd, n_ix, g60, n_shl1, g27, nI_add]
    rw [if_neg (by omega)]
    have key : ∀ v, v = (if (brk W 0).testBit i then 2 ^ sw W i else 0) → ∃ m2, VM W 0 c m2 ∧ m2 = sI m 44 27 (nI (pj ||| fo (fun k s => s ||| if (brk W 0).testBit k then 2 ^ sw W k else 0) 0 i ||| v)) ∧ mI m2 44 27 = nI (pj ||| fo (fun k s => s ||| if (brk W 0).testBit k then 2 ^ sw W k else 0) 0 (i + 1)) ∧ mI m2 44 28 = nI md ∧ mI m2 44 29 = nI kp ∧ mI m2 44 30 = nI br := fun v hv => by
      refine ⟨_, VM_wr44 V' (by omega) _, rfl, ?_, ?_, ?_, ?_⟩
      · rw [rdI_eq, fo, hv, Nat.or_assoc]
      · rw [rdI_nj _ _ _ _ (by decide)]; exact g28
      · rw [rdI_nj _ _ _ _ (by decide)]; exact g29
      · rw [rdI_nj _ _ _ _ (by decide)]; exact g30
    cases hb : (brk W 0).testBit i with
    | false =>
      obtain ⟨m2, q1, q2, q3⟩ := key 0 (by rw [hb]; rfl)
      rw [if_pos rfl, ob_s, fa_or, ← q2]
      exact ⟨_, rfl, m2, rfl, q1, q3⟩
    | true =>
      obtain ⟨m2, q1, q2, q3⟩ := key (2 ^ sw W i) (by rw [hb]; rfl)
      rw [if_neg (by decide), ob_s, fa_or, ← q2]
      exact ⟨_, rfl, m2, rfl, q1, q3⟩) (by
    rintro z ⟨m, rfl, V', g⟩
    unfold m_X12_itIsMonday_b7
    rw [V'.2.2.1]
    simp (disch := omega) only [n_le]
    rw [if_pos (by omega)]
    exact ⟨_, rfl, V', g⟩)
  rw [e1, ob_s, eo, ob_s, ob_s]
  simp (disch := omega) only [rdI_nj, k28, k29, k30, V1.2.2.1, zz_0, zz_1, zz_2, zz_3, zz_4, zz_5, zz_6, zz_7, zz_8, zz_9, zz_10, zz_11, zz_12, zz_13, zz_14, zz_15, zz_16, zz_20, zz_24, zz_25, zz_26, zz_28, zz_31, zz_32, zz_36, zz_39, zz_40, zz_48, zz_49, zz_50, zz_57, zz_59, zz_60, zz_64, zz_72, zz_97, zz_99, zz_100, zz_122, zz_144, zz_161, zz_255, zz_256, zz_288, zz_322, zz_384, zz_400, zz_448, zz_600, zz_1280, zz_1000000, n_sub, nI_add]
  refine ⟨_, rfl, ?_, ?_, ?_, ?_, ?_⟩
  · have := VM_drop (VM_wr44 (VM_wr44 (VM_wr44 V1 (j := 30) (by omega) (nI (br + pc (brk W 0)))) (j := 29) (by omega) (nI (kp + (oa W - pc (brk W 0))))) (j := 28) (by omega) (nI (md + 1))) (zeroO_ext W)
    exact this
  · simp (disch := omega) only [rdI_nj]; exact k27
  · simp (disch := omega) only [rdI_nj, rdI_eq]
  · simp (disch := omega) only [rdI_nj, rdI_eq]; rfl
  · simp (disch := omega) only [rdI_nj, rdI_eq]
