/-! L3: swearers by the reference, whole -/
theorem grt0 : ∀ a, a < 7 → ∀ b, b < 7 → m_X12_greater (nI a) m1 = nI a ∧ m_X12_greater m1 (nI b) = nI b ∧ m_X12_greater m1 m1 = m1 ∧ m_X12_greater (nI a) (nI b) = nI (max a b) ∧ ¬ nI b ≤ m1 ∧ m1 ≤ nI a ∧ m1 ≤ m1 := by decide +kernel
theorem M_copyBest {W U : Cn} {c : Nat} {n : Nat} {w t : Nat → Nat} {x : Nat} {z28 : Int32 × Int32 × Mm} {p37 : Int32 × Mm} (hV : VM U 0 c p37.2) (hE : extW (zeroO W) U) (hX : VX n w t x p37.2) : ∃ m, whileF FU (m_X12_swearers_b117 z28 p37) (nI 0, p37.2) = some m ∧ VM U 0 c m ∧ VX n w t x m ∧ (p37.1 ≤ z28.1 → m = p37.2) ∧ (¬ p37.1 ≤ z28.1 → ∀ j, j < 6 → mI m 66 j = mI p37.2 65 j) := by
  by_cases hle : p37.1 ≤ z28.1
  · refine ⟨p37.2, ?_, hV, hX, fun _ => rfl, fun q => absurd hle q⟩
    refine loop_seq (fun _ : Nat => (nI 0, p37.2)) 0 rfl (FU_big (by decide)) (fun i hi => by omega) ?_
    unfold m_X12_swearers_b117
    rw [if_neg (show ¬ (6 : Int32) ≤ nI 0 by decide), if_pos hle]
  · obtain ⟨m, e, h1, h2, h3⟩ := loop_n (body := m_X12_swearers_b117 z28 p37) (a := (nI 0, p37.2)) (fun i z => ∃ m, z = (nI i, m) ∧ VM U 0 c m ∧ VX n w t x m ∧ (∀ j, mI m 65 j = mI p37.2 65 j) ∧ (∀ j, j < i → mI m 66 j = mI p37.2 65 j)) (fun m => VM U 0 c m ∧ VX n w t x m ∧ (∀ j, j < 6 → mI m 66 j = mI p37.2 65 j)) 6 (FU_big (by decide)) ⟨_, rfl, hV, hX, fun _ => rfl, fun j hj => absurd hj (Nat.not_lt_zero j)⟩ (by
      rintro i z hi ⟨m, rfl, V, X, h65, h66⟩
      unfold m_X12_swearers_b117
      simp (disch := omega) only [zz_0, zz_1, zz_2, zz_3, zz_4, zz_5, zz_6, zz_7, zz_8, zz_9, zz_10, zz_11, zz_12, zz_13, zz_14, zz_15, zz_16, zz_20, zz_24, zz_25, zz_26, zz_28, zz_31, zz_32, zz_36, zz_39, zz_40, zz_48, zz_49, zz_50, zz_57, zz_59, zz_60, zz_64, zz_72, zz_97, zz_99, zz_100, zz_122, zz_144, zz_161, zz_255, zz_256, zz_288, zz_322, zz_384, zz_400, zz_448, zz_600, zz_1280, zz_1000000, n_le, n_grd, n_ix, nI_add]
      rw [if_neg (by omega), if_neg hle]
      refine ⟨_, rfl, _, rfl, VM_wr V (by omega) _ _, VX_wr X (by decide) (by omega) _, fun j => ?_, fun j hj => ?_⟩
      · rw [rdI_ne _ _ _ _ (by decide)]; exact h65 j
      · rw [rdI_sm]
        by_cases e : j = i
        · rw [if_pos e, e]; exact h65 i
        · rw [if_neg e]; exact h66 j (by omega)) (by
      rintro z ⟨m, rfl, V, X, h65, h66⟩
      unfold m_X12_swearers_b117
      simp (disch := omega) only [zz_0, zz_1, zz_2, zz_3, zz_4, zz_5, zz_6, zz_7, zz_8, zz_9, zz_10, zz_11, zz_12, zz_13, zz_14, zz_15, zz_16, zz_20, zz_24, zz_25, zz_26, zz_28, zz_31, zz_32, zz_36, zz_39, zz_40, zz_48, zz_49, zz_50, zz_57, zz_59, zz_60, zz_64, zz_72, zz_97, zz_99, zz_100, zz_122, zz_144, zz_161, zz_255, zz_256, zz_288, zz_322, zz_384, zz_400, zz_448, zz_600, zz_1280, zz_1000000, n_le]
      rw [if_pos (by omega)]
      exact ⟨_, rfl, V, X, h66⟩)
    exact ⟨m, e, h1, h2, fun q => absurd q hle, fun _ => h3⟩
theorem ext_fk {W U : Cn} (hE : extW (zeroO W) U) : fk U = fk W := hE.2.1
theorem M_swearersW {W : Cn} (wf : WF W) (hc : symC (cl W)) {c : Nat} {mm : Mm} (h : VM W 0 c mm) {n : Nat} {w t : Nat → Nat} {x : Nat} (hx : VX n w t x mm) (hn : n ≤ 6) (w6 : ∀ j, w j < 6) (t8 : ∀ j, t j < 8) : ∃ m M num, whileF FU (m_X12_swearers_b88 (nI (7 ^ n))) (m1, nI 0, mm) = some (nI M, m) ∧ mxM W n w t M ∧ fstN W n w t M num ∧ ∀ k, k < n → mI m 66 k = nI (rowN n num k) := by
  have hf := wf.1
  have p7 : 7 ^ n ≤ 117649 := Nat.pow_le_pow_right (n := 7) (j := 6) (by decide) hn
  have pp : 0 < 7 ^ n := Nat.pow_pos (by decide)
  obtain ⟨q, e, M, num, hq1, hq2, hq3, hq4⟩ := loop_n (body := m_X12_swearers_b88 (nI (7 ^ n))) (a := (m1, nI 0, mm)) (fun i z => ∃ o m U, z = (enc1 o, nI i, m) ∧ VM U 0 c m ∧ extW (zeroO W) U ∧ WF U ∧ VX n w t x m ∧ (o = none → ∀ y, y < i → ¬ vrd W w (rowN n y) n) ∧ (∀ M, o = some M → M ≤ n ∧ ∃ num, num < i ∧ vrd W w (rowN n num) n ∧ Kct W n w t (Sr W n w t (rowN n num)) = M ∧ (∀ y, y < num → vrd W w (rowN n y) n → Kct W n w t (Sr W n w t (rowN n y)) ≠ M) ∧ (∀ y, y < i → vrd W w (rowN n y) n → Kct W n w t (Sr W n w t (rowN n y)) ≤ M) ∧ ∀ k, k < n → mI m 66 k = nI (rowN n num k))) (fun q => ∃ M num, q.1 = nI M ∧ mxM W n w t M ∧ fstN W n w t M num ∧ ∀ k, k < n → mI q.2 66 k = nI (rowN n num k)) (7 ^ n) (FU_big (by omega)) ⟨none, mm, W, rfl, h, zeroO_ext W, wf, hx, fun _ y hy => absurd hy (Nat.not_lt_zero y), fun M hM => by cases hM⟩ (by
    rintro i z hi ⟨o, m, U, rfl, hV, hE, hF, hX, ho1, ho2⟩
    have efk := ext_fk hE
    have vU : ∀ r, vrd U w r n ↔ vrd W w r n := fun r => by unfold vrd; rw [efk]
    obtain ⟨m2, V2, X2, h66, hcase⟩ := M_layRow hV hF hX hn w6 hi
    unfold m_X12_swearers_b88
    simp (disch := omega) only [zz_0, zz_1, zz_2, zz_3, zz_4, zz_5, zz_6, zz_7, zz_8, zz_9, zz_10, zz_11, zz_12, zz_13, zz_14, zz_15, zz_16, zz_20, zz_24, zz_25, zz_26, zz_28, zz_31, zz_32, zz_36, zz_39, zz_40, zz_48, zz_49, zz_50, zz_57, zz_59, zz_60, zz_64, zz_72, zz_97, zz_99, zz_100, zz_122, zz_144, zz_161, zz_255, zz_256, zz_288, zz_322, zz_384, zz_400, zz_448, zz_600, zz_1280, zz_1000000, n_le, n_m1]
    rw [if_neg (by omega)]
    rcases hcase with ⟨hv, e2, h65⟩ | ⟨hv, e2⟩
    · rw [vU] at hv
      obtain ⟨m3, U3, e3, V3, E3, F3, X3, A3⟩ := M_keptWants wf hc V2 hE X2 hn w6 t8 hv h65
      have kl := Kct_le W n w t (Sr W n w t (rowN n i))
      rw [e2, ob_s, show (1 : Int32) = nI 1 from rfl, if_neg n10, e3, ob_s, ob_s]
      obtain ⟨m4, e4, V4, X4, h4a, h4b⟩ := M_copyBest (W := W) (U := U3) (z28 := (enc1 o, nI i, m)) (p37 := (nI (Kct W n w t (Sr W n w t (rowN n i))), m3)) V3 E3 X3
      rw [e4, ob_s, nI_add]
      cases o with
      | none =>
        have g := grt0 0 (by decide) (Kct W n w t (Sr W n w t (rowN n i))) (by omega)
        refine ⟨_, rfl, some (Kct W n w t (Sr W n w t (rowN n i))), m4, U3, ?_, V4, E3, F3, X4, fun q => (by cases q), fun M hM => ?_⟩
        · show (m_X12_greater m1 (nI _), _, _) = _
          rw [g.2.1]; rfl
        · cases hM
          refine ⟨by omega, i, by omega, hv, rfl, fun y hy hvy => absurd hvy (ho1 rfl y hy), fun y hy hvy => ?_, fun k hk => ?_⟩
          · by_cases e : y = i
            · rw [e]; exact Nat.le_refl _
            · exact absurd hvy (ho1 rfl y (by omega))
          · rw [h4b g.2.2.2.2.1 k (by omega)]
            show mI m3 65 k = _
            rw [A3 65 k (by decide) (by decide) (by decide) (by decide)]
            exact h65 k hk
      | some M =>
        obtain ⟨hMn, num, a1, a2, a3, a4, a5, a6⟩ := ho2 M rfl
        have g := grt0 M (by omega) (Kct W n w t (Sr W n w t (rowN n i))) (by omega)
        have hcmp : (nI (Kct W n w t (Sr W n w t (rowN n i))) ≤ nI M) ↔ Kct W n w t (Sr W n w t (rowN n i)) ≤ M := by rw [n_le (by omega) (by omega)]
        refine ⟨_, rfl, some (max M (Kct W n w t (Sr W n w t (rowN n i)))), m4, U3, ?_, V4, E3, F3, X4, fun q => (by cases q), fun M' hM' => ?_⟩
        · show (m_X12_greater (nI M) (nI _), _, _) = _
          rw [g.2.2.2.1]; rfl
        · cases hM'
          by_cases hle : Kct W n w t (Sr W n w t (rowN n i)) ≤ M
          · have h4 : m4 = m3 := h4a (hcmp.mpr hle)
            rw [Nat.max_eq_left hle]
            refine ⟨hMn, num, by omega, a2, a3, a4, fun y hy hvy => ?_, fun k hk => ?_⟩
            · by_cases e : y = i
              · rw [e]; exact hle
              · exact a5 y (by omega) hvy
            · rw [h4, A3 66 k (by decide) (by decide) (by decide) (by decide), h66 k (by omega)]
              exact a6 k hk
          · rw [Nat.max_eq_right (by omega)]
            refine ⟨by omega, i, by omega, hv, rfl, fun y hy hvy => ?_, fun y hy hvy => ?_, fun k hk => ?_⟩
            · have := a5 y hy hvy
              omega
            · by_cases e : y = i
              · rw [e]; exact Nat.le_refl _
              · have := a5 y (by omega) hvy
                omega
            · rw [h4b (fun q => hle (hcmp.mp q)) k (by omega)]
              show mI m3 65 k = _
              rw [A3 65 k (by decide) (by decide) (by decide) (by decide)]
              exact h65 k hk
    · rw [vU] at hv
      rw [e2, ob_s, show (0 : Int32) = nI 0 from rfl, if_pos rfl, ob_s]
      obtain ⟨m4, e4, V4, X4, h4a, h4b⟩ := M_copyBest (W := W) (U := U) (z28 := (enc1 o, nI i, m)) (p37 := (m1, m2)) V2 hE X2
      have hle : m1 ≤ enc1 o := by
        cases o with
        | none => exact (grt0 0 (by decide) 0 (by decide)).2.2.2.2.2.2
        | some M => exact (grt0 M (by have := (ho2 M rfl).1; omega) 0 (by decide)).2.2.2.2.2.1
      have h4 : m4 = m2 := h4a hle
      have hg : m_X12_greater (enc1 o) m1 = enc1 o := by
        cases o with
        | none => exact (grt0 0 (by decide) 0 (by decide)).2.2.1
        | some M => exact (grt0 M (by have := (ho2 M rfl).1; omega) 0 (by decide)).1
      rw [e4, ob_s, nI_add]
      refine ⟨_, rfl, o, m4, U, ?_, V4, hE, hF, X4, fun h9 y hy => ?_, fun M hM => ?_⟩
      · show (m_X12_greater (enc1 o) m1, _, _) = _
        rw [hg]
      · by_cases e : y = i
        · rw [e]; exact hv
        · exact ho1 h9 y (by omega)
      · obtain ⟨hMn, num, a1, a2, a3, a4, a5, a6⟩ := ho2 M hM
        refine ⟨hMn, num, by omega, a2, a3, a4, fun y hy hvy => ?_, fun k hk => ?_⟩
        · by_cases e : y = i
          · rw [e] at hvy; exact absurd hvy hv
          · exact a5 y (by omega) hvy
        · rw [h4, h66 k (by omega)]
          exact a6 k hk) (by
    rintro z ⟨o, m, U, rfl, hV, hE, hF, hX, ho1, ho2⟩
    unfold m_X12_swearers_b88
    simp (disch := omega) only [zz_0, zz_1, zz_2, zz_3, zz_4, zz_5, zz_6, zz_7, zz_8, zz_9, zz_10, zz_11, zz_12, zz_13, zz_14, zz_15, zz_16, zz_20, zz_24, zz_25, zz_26, zz_28, zz_31, zz_32, zz_36, zz_39, zz_40, zz_48, zz_49, zz_50, zz_57, zz_59, zz_60, zz_64, zz_72, zz_97, zz_99, zz_100, zz_122, zz_144, zz_161, zz_255, zz_256, zz_288, zz_322, zz_384, zz_400, zz_448, zz_600, zz_1280, zz_1000000, n_le]
    rw [if_pos (by omega)]
    cases o with
    | none =>
      exfalso
      obtain ⟨y, hy, hd⟩ := rowN_ex (r := fun _ => 6) (n := n) (fun _ _ => Nat.le_refl _)
      refine ho1 rfl y hy (fun i hi => ?_)
      rw [hd i hi]
      exact ⟨Nat.le_refl _, fun q => by omega⟩
    | some M =>
      obtain ⟨hMn, num, a1, a2, a3, a4, a5, a6⟩ := ho2 M rfl
      refine ⟨_, rfl, M, num, rfl, ⟨⟨rowN n num, a2, a3⟩, fun r hr => ?_⟩, ⟨a1, a2, a3, a4⟩, a6⟩
      obtain ⟨y, hy, hd⟩ := rowN_ex (r := r) (n := n) (fun i hi => (hr i hi).1)
      have := a5 y hy (vrd_cong (fun i hi => (hd i hi).symm) hr)
      rwa [Sr_cong (r' := r) hd] at this)
  refine ⟨q.2, M, num, ?_, hq2, hq3, hq4⟩
  rw [e, ← hq1]
