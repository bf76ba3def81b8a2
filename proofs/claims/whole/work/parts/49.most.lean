theorem sub_le {y s : Nat} (h : subS y s) : y ≤ s := by
  have := and_sub.mp h
  rw [← this]
  exact Nat.and_le_right
theorem pc_none {x : Nat} (hx : x < 4096) (h : pc x = 0) : x = 0 := by
  apply Nat.eq_of_testBit_eq
  intro i
  rw [Nat.zero_testBit]
  by_cases hi : i < 12
  · exact fb_ct_zero.mp h i hi
  · exact Nat.testBit_lt_two_pow (Nat.lt_of_lt_of_le hx (Nat.pow_le_pow_right (n := 2) (i := 12) (by decide) (by omega)))
theorem M_mostOf {W : Cn} {st c : Nat} {mm : Mm} (h : VM W st c mm) (wf : WF W) (hc : symC (cl W)) {s r : Nat} (hs : s < 256) (hr : r < 100) : m_X12_mostOf (nI s) (nI r) mm = some (nI (bst W s r)) := by
  have hpe := @M_isPeace W st c mm h wf
  unfold m_X12_mostOf
  rw [o_id]
  obtain ⟨q, hq, rfl⟩ := loop_inv (body := m_X12_mostOf_b5 (nI s) (nI r) mm) (a := ((0 : Int32), nI s)) (fun i z => ∃ b t, z = (nI b, nI t) ∧ t + i ≤ 256 ∧ subS t s ∧ okS (cl W) s r b ∧ b < 256 ∧ ∀ y, y < 256 → okS (cl W) s r y → t < y → pc y < pc b ∨ (pc y = pc b ∧ b ≤ y)) (fun q => q = nI (bst W s r)) 257 (FU_big (by decide))
    ⟨0, s, rfl, by omega, fun i hi => hi, ⟨fun i hi => by simp at hi, fun i j hi => by simp at hi, by rw [pc_zero]; omega⟩, by decide, fun y _ hy hlt => absurd (sub_le hy.1) (by omega)⟩
    (by
      rintro i z hi ⟨b, t, rfl, h1, h2, h3, h4, h5⟩
      have ht : t < 256 := by have := sub_le h2; omega
      have p1 := pc_le t
      have p2 := pc_le b
      unfold m_X12_mostOf_b5
      simp (disch := omega) only [zz_0, zz_1, zz_2, zz_3, zz_4, zz_5, zz_6, zz_7, zz_8, zz_9, zz_10, zz_11, zz_12, zz_13, zz_14, zz_15, zz_16, zz_20, zz_24, zz_25, zz_26, zz_28, zz_31, zz_32, zz_36, zz_39, zz_40, zz_48, zz_49, zz_50, zz_57, zz_59, zz_60, zz_64, zz_72, zz_97, zz_99, zz_100, zz_122, zz_144, zz_161, zz_255, zz_256, zz_288, zz_322, zz_384, zz_400, zz_448, zz_600, zz_1280, zz_1000000, nI_add, n_mul, n_sub, fa_or, fa_and, fb_xorI, n_div, n_rem, n_le, n_lt, n_eq, n_shl1, n_shr, n_andn, n_ix, n_grd, n_gdz, n_gbz, n_hasM, n_hasC, b2_0, b2_1, n_m1, Option.bind_some, bS_inl, bS_inr, n_max, n_min, n_grt, n_les, ones_eq]
      by_cases h0 : t ≤ 0
      · rw [if_pos h0]
        right
        refine ⟨_, rfl, ?_⟩
        have hb : bestS (cl W) 8 s r b := by
          refine ⟨h4, h3, fun y hy hok => ?_⟩
          by_cases hy0 : y = 0
          · rw [hy0, pc_zero]
            by_cases hb0 : pc b = 0
            · right
              rw [pc_none (by omega) hb0]
              exact ⟨rfl, Nat.le_refl _⟩
            · left; omega
          · exact h5 y hy hok (by omega)
        show nI b = nI (bst W s r)
        rw [best_one hb (kp_best hc 8 (by decide) s r)]
        rfl
      · rw [if_neg h0]
        left
        simp (disch := omega) only [zz_0, zz_1, zz_2, zz_3, zz_4, zz_5, zz_6, zz_7, zz_8, zz_9, zz_10, zz_11, zz_12, zz_13, zz_14, zz_15, zz_16, zz_20, zz_24, zz_25, zz_26, zz_28, zz_31, zz_32, zz_36, zz_39, zz_40, zz_48, zz_49, zz_50, zz_57, zz_59, zz_60, zz_64, zz_72, zz_97, zz_99, zz_100, zz_122, zz_144, zz_161, zz_255, zz_256, zz_288, zz_322, zz_384, zz_400, zz_448, zz_600, zz_1280, zz_1000000, nI_add, n_mul, n_sub, fa_or, fa_and, fb_xorI, n_div, n_rem, n_le, n_lt, n_eq, n_shl1, n_shr, n_andn, n_ix, n_grd, n_gdz, n_gbz, n_hasM, n_hasC, b2_0, b2_1, n_m1, Option.bind_some, bS_inl, bS_inr, n_max, n_min, n_grt, n_les, hpe]
        have hnext : ∀ y, subS y s → y < t → y ≤ (t - 1) &&& s := fun y hy hlt => next_sub t y t s (Nat.le_refl _) (and_sub.mp hy) (and_sub.mp h2) hlt
        have hn1 : subS ((t - 1) &&& s) s := fun i hi => by
          rw [Nat.testBit_and] at hi
          simp only [Bool.and_eq_true] at hi
          exact hi.2
        have hn2 : (t - 1) &&& s ≤ t - 1 := Nat.and_le_left
        have okt : pea W t = true → pc t ≤ r → okS (cl W) s r t := fun ha hb => ⟨h2, (pea_iff wf ht).mp ha, hb⟩
        have stay : (¬ (pc b ≤ pc t ∧ pc t ≤ r ∧ pea W t = true)) → ∀ y, y < 256 → okS (cl W) s r y → (t - 1) &&& s < y → pc y < pc b ∨ (pc y = pc b ∧ b ≤ y) := by
          intro hn y hy hok hlt
          by_cases hyt : t < y
          · exact h5 y hy hok hyt
          · have : y = t := by
              apply Classical.byContradiction
              intro hne
              have := hnext y hok.1 (by omega)
              omega
            subst this
            left
            apply Classical.byContradiction
            intro hge
            exact hn ⟨by omega, hok.2.2, (pea_iff wf hy).mpr hok.2.1⟩
        by_cases c1 : pc t < pc b
        · simp (disch := omega) only [c1, if_true, zz_0, zz_1, zz_2, zz_3, zz_4, zz_5, zz_6, zz_7, zz_8, zz_9, zz_10, zz_11, zz_12, zz_13, zz_14, zz_15, zz_16, zz_20, zz_24, zz_25, zz_26, zz_28, zz_31, zz_32, zz_36, zz_39, zz_40, zz_48, zz_49, zz_50, zz_57, zz_59, zz_60, zz_64, zz_72, zz_97, zz_99, zz_100, zz_122, zz_144, zz_161, zz_255, zz_256, zz_288, zz_322, zz_384, zz_400, zz_448, zz_600, zz_1280, zz_1000000, nI_add, n_mul, n_sub, fa_or, fa_and, fb_xorI, n_div, n_rem, n_le, n_lt, n_eq, n_shl1, n_shr, n_andn, n_ix, n_grd, n_gdz, n_gbz, n_hasM, n_hasC, b2_0, b2_1, n_m1, Option.bind_some, bS_inl, bS_inr, n_max, n_min, n_grt, n_les, Option.bind_some]
          exact ⟨_, rfl, b, _, rfl, by omega, hn1, h3, h4, stay (fun q => by omega)⟩
        · by_cases c2 : r < pc t
          · simp (disch := omega) only [c1, c2, if_true, if_false, zz_0, zz_1, zz_2, zz_3, zz_4, zz_5, zz_6, zz_7, zz_8, zz_9, zz_10, zz_11, zz_12, zz_13, zz_14, zz_15, zz_16, zz_20, zz_24, zz_25, zz_26, zz_28, zz_31, zz_32, zz_36, zz_39, zz_40, zz_48, zz_49, zz_50, zz_57, zz_59, zz_60, zz_64, zz_72, zz_97, zz_99, zz_100, zz_122, zz_144, zz_161, zz_255, zz_256, zz_288, zz_322, zz_384, zz_400, zz_448, zz_600, zz_1280, zz_1000000, nI_add, n_mul, n_sub, fa_or, fa_and, fb_xorI, n_div, n_rem, n_le, n_lt, n_eq, n_shl1, n_shr, n_andn, n_ix, n_grd, n_gdz, n_gbz, n_hasM, n_hasC, b2_0, b2_1, n_m1, Option.bind_some, bS_inl, bS_inr, n_max, n_min, n_grt, n_les, Option.bind_some]
            exact ⟨_, rfl, b, _, rfl, by omega, hn1, h3, h4, stay (fun q => by omega)⟩
          · cases c3 : pea W t with
            | false =>
              simp (disch := omega) only [c1, c2, if_true, if_false, zz_0, zz_1, zz_2, zz_3, zz_4, zz_5, zz_6, zz_7, zz_8, zz_9, zz_10, zz_11, zz_12, zz_13, zz_14, zz_15, zz_16, zz_20, zz_24, zz_25, zz_26, zz_28, zz_31, zz_32, zz_36, zz_39, zz_40, zz_48, zz_49, zz_50, zz_57, zz_59, zz_60, zz_64, zz_72, zz_97, zz_99, zz_100, zz_122, zz_144, zz_161, zz_255, zz_256, zz_288, zz_322, zz_384, zz_400, zz_448, zz_600, zz_1280, zz_1000000, nI_add, n_mul, n_sub, fa_or, fa_and, fb_xorI, n_div, n_rem, n_le, n_lt, n_eq, n_shl1, n_shr, n_andn, n_ix, n_grd, n_gdz, n_gbz, n_hasM, n_hasC, b2_0, b2_1, n_m1, Option.bind_some, bS_inl, bS_inr, n_max, n_min, n_grt, n_les, Option.bind_some, n10]
              exact ⟨_, rfl, b, _, rfl, by omega, hn1, h3, h4, stay (fun q => by rw [c3] at q; exact absurd q.2.2 (by decide))⟩
            | true =>
              simp (disch := omega) only [c1, c2, if_true, if_false, zz_0, zz_1, zz_2, zz_3, zz_4, zz_5, zz_6, zz_7, zz_8, zz_9, zz_10, zz_11, zz_12, zz_13, zz_14, zz_15, zz_16, zz_20, zz_24, zz_25, zz_26, zz_28, zz_31, zz_32, zz_36, zz_39, zz_40, zz_48, zz_49, zz_50, zz_57, zz_59, zz_60, zz_64, zz_72, zz_97, zz_99, zz_100, zz_122, zz_144, zz_161, zz_255, zz_256, zz_288, zz_322, zz_384, zz_400, zz_448, zz_600, zz_1280, zz_1000000, nI_add, n_mul, n_sub, fa_or, fa_and, fb_xorI, n_div, n_rem, n_le, n_lt, n_eq, n_shl1, n_shr, n_andn, n_ix, n_grd, n_gdz, n_gbz, n_hasM, n_hasC, b2_0, b2_1, n_m1, Option.bind_some, bS_inl, bS_inr, n_max, n_min, n_grt, n_les, Option.bind_some, n10]
              refine ⟨_, rfl, t, _, by simp, by omega, hn1, okt c3 (by omega), ht, fun y hy hok hlt => ?_⟩
              by_cases hyt : t < y
              · have := h5 y hy hok hyt
                omega
              · have : y = t := by
                  apply Classical.byContradiction
                  intro hne
                  have := hnext y hok.1 (by omega)
                  omega
                subst this
                exact Or.inr ⟨rfl, Nat.le_refl _⟩)
    (by
      rintro z ⟨b, t, rfl, h1, _⟩
      omega)
  exact hq
/-- what one keeps -/
def kby (W : Cn) (st p : Nat) : Nat := bst W (opn W st p) (rm W p)
theorem M_keptBy {W : Cn} {st c : Nat} {mm : Mm} (h : VM W st c mm) (wf : WF W) (hc : symC (cl W)) (hst : st < 65536) {p : Nat} (hp : p < 6) : m_X12_keptBy (nI p) mm = some (nI (kby W st p)) := by
  have h1 := M_openTo h wf hst hp
  have h2 := @M_mostOf W st c mm h wf hc
  have h3 := opn_b wf st p
  have h4 := wf.2.2.2.1 p
  obtain ⟨⟨hc, v23⟩, v24, v25, v26, v56, v57, v58, v59, v60, v61, v62, v20, v28⟩ := h
  unfold m_X12_keptBy
  simp (disch := omega) only [zz_0, zz_1, zz_2, zz_3, zz_4, zz_5, zz_6, zz_7, zz_8, zz_9, zz_10, zz_11, zz_12, zz_13, zz_14, zz_15, zz_16, zz_20, zz_24, zz_25, zz_26, zz_28, zz_31, zz_32, zz_36, zz_39, zz_40, zz_48, zz_49, zz_50, zz_57, zz_59, zz_60, zz_64, zz_72, zz_97, zz_99, zz_100, zz_122, zz_144, zz_161, zz_255, zz_256, zz_288, zz_322, zz_384, zz_400, zz_448, zz_600, zz_1280, zz_1000000, nI_add, n_mul, n_sub, fa_or, fa_and, fb_xorI, n_div, n_rem, n_le, n_lt, n_eq, n_shl1, n_shr, n_andn, n_ix, n_grd, n_gdz, n_gbz, n_hasM, n_hasC, b2_0, b2_1, n_m1, Option.bind_some, bS_inl, bS_inr, n_max, n_min, n_grt, n_les, v23, v24, v25, v26, v56, v57, v58, v59, v60, v61, v62, v20, v28, h1, h2]
  rfl
/-- the oaths that are not struck out and broken -/
def brk1 (W : Cn) (st p s : Nat) : Nat := fo (fun k s => s ||| if bd W k = p ∧ st.testBit k = false ∧ (kby W st p).testBit (th W k) = false then 2 ^ k else 0) s (oa W)
def brk (W : Cn) (st : Nat) : Nat := fo (fun p s => brk1 W st p s) 0 (fk W)
theorem brk1_b {W : Cn} (wf : WF W) (st p : Nat) {s : Nat} (hs : s < 65536) : brk1 W st p s < 65536 := by
  refine fo_inv (n := oa W) (fun _ x => x < 2 ^ 16) hs (fun i x hi hx => or_b hx ?_) _ (Nat.le_refl _)
  exact ite_b (by have := wf.2.1; omega)
theorem brk_b {W : Cn} (wf : WF W) (st : Nat) : brk W st < 65536 :=
  fo_inv (n := fk W) (fun _ x => x < 2 ^ 16) (by decide) (fun i x hi hx => brk1_b wf st i hx) _ (Nat.le_refl _)
theorem kby_b {W : Cn} (hc : symC (cl W)) (st p : Nat) : kby W st p < 256 := bst_b W hc _ _
theorem M_brokenOnes {W : Cn} {st c : Nat} {mm : Mm} (h : VM W st c mm) (wf : WF W) (hc : symC (cl W)) (hst : st < 65536) : m_X12_brokenOnes mm = some (nI (brk W st)) := by
  have h1 := fun p hp => @M_keptBy W st c mm h wf hc hst p hp
  have h2 := fun p => @kby_b W hc st p
  have h3 := @brk1_b W wf st
  obtain ⟨⟨hc, v23⟩, v24, v25, v26, v56, v57, v58, v59, v60, v61, v62, v20, v28⟩ := h
  obtain ⟨f1, f2, f3, f4, f5, f6, f7, f8, f9, f10, f11⟩ := wf
  unfold m_X12_brokenOnes
  rw [o_id]
  refine loop_fo (fun (x : Nat) i => (nI x, nI i)) _ 0 (fk W) (fun x => nI x) (fun i x => x < 65536) rfl (FU_big (by omega)) (by decide) (fun i x hi hx => h3 i hx) ?_ ?_
  · intro i x hi hx
    unfold m_X12_brokenOnes_b4
    simp (disch := omega) only [zz_0, zz_1, zz_2, zz_3, zz_4, zz_5, zz_6, zz_7, zz_8, zz_9, zz_10, zz_11, zz_12, zz_13, zz_14, zz_15, zz_16, zz_20, zz_24, zz_25, zz_26, zz_28, zz_31, zz_32, zz_36, zz_39, zz_40, zz_48, zz_49, zz_50, zz_57, zz_59, zz_60, zz_64, zz_72, zz_97, zz_99, zz_100, zz_122, zz_144, zz_161, zz_255, zz_256, zz_288, zz_322, zz_384, zz_400, zz_448, zz_600, zz_1280, zz_1000000, nI_add, n_mul, n_sub, fa_or, fa_and, fb_xorI, n_div, n_rem, n_le, n_lt, n_eq, n_shl1, n_shr, n_andn, n_ix, n_grd, n_gdz, n_gbz, n_hasM, n_hasC, b2_0, b2_1, n_m1, Option.bind_some, bS_inl, bS_inr, n_max, n_min, n_grt, n_les, v23, v24, v25, v26, v56, v57, v58, v59, v60, v61, v62, v20, v28, h1]
    rw [if_neg (by omega)]
    have hw : whileF FU (m_X12_brokenOnes_b21 mm (nI x, nI i) (nI (kby W st i))) (nI x, nI 0) = some (nI (brk1 W st i x)) := by
      refine loop_fo (fun (y : Nat) j => (nI y, nI j)) _ x (oa W) (fun x => nI x) (fun i x => x < 2 ^ 16) rfl (FU_big (by omega)) hx (fun j y hj hy => or_b hy (ite_b (by omega))) ?_ ?_
      · intro j y hj hy
        have g1 := f10 j
        have g2 := f11 j
        have g3 := h2 i
        unfold m_X12_brokenOnes_b21
        simp (disch := omega) only [zz_0, zz_1, zz_2, zz_3, zz_4, zz_5, zz_6, zz_7, zz_8, zz_9, zz_10, zz_11, zz_12, zz_13, zz_14, zz_15, zz_16, zz_20, zz_24, zz_25, zz_26, zz_28, zz_31, zz_32, zz_36, zz_39, zz_40, zz_48, zz_49, zz_50, zz_57, zz_59, zz_60, zz_64, zz_72, zz_97, zz_99, zz_100, zz_122, zz_144, zz_161, zz_255, zz_256, zz_288, zz_322, zz_384, zz_400, zz_448, zz_600, zz_1280, zz_1000000, nI_add, n_mul, n_sub, fa_or, fa_and, fb_xorI, n_div, n_rem, n_le, n_lt, n_eq, n_shl1, n_shr, n_andn, n_ix, n_grd, n_gdz, n_gbz, n_hasM, n_hasC, b2_0, b2_1, n_m1, Option.bind_some, bS_inl, bS_inr, n_max, n_min, n_grt, n_les, v23, v24, v25, v26, v56, v57, v58, v59, v60, v61, v62, v20, v28]
        rw [if_neg (by omega)]
        by_cases k1 : bd W j = i <;> cases k2 : st.testBit j <;> cases k3 : (kby W st i).testBit (th W j) <;> simp [k1, fa_or]
      · intro y hy
        unfold m_X12_brokenOnes_b21
        simp (disch := omega) only [zz_0, zz_1, zz_2, zz_3, zz_4, zz_5, zz_6, zz_7, zz_8, zz_9, zz_10, zz_11, zz_12, zz_13, zz_14, zz_15, zz_16, zz_20, zz_24, zz_25, zz_26, zz_28, zz_31, zz_32, zz_36, zz_39, zz_40, zz_48, zz_49, zz_50, zz_57, zz_59, zz_60, zz_64, zz_72, zz_97, zz_99, zz_100, zz_122, zz_144, zz_161, zz_255, zz_256, zz_288, zz_322, zz_384, zz_400, zz_448, zz_600, zz_1280, zz_1000000, nI_add, n_mul, n_sub, fa_or, fa_and, fb_xorI, n_div, n_rem, n_le, n_lt, n_eq, n_shl1, n_shr, n_andn, n_ix, n_grd, n_gdz, n_gbz, n_hasM, n_hasC, b2_0, b2_1, n_m1, Option.bind_some, bS_inl, bS_inr, n_max, n_min, n_grt, n_les, v23, v24, v25, v26, v56, v57, v58, v59, v60, v61, v62, v20, v28]
        rw [if_pos (by omega)]
    rw [hw]
    rfl
  · intro x hx
    unfold m_X12_brokenOnes_b4
    simp (disch := omega) only [zz_0, zz_1, zz_2, zz_3, zz_4, zz_5, zz_6, zz_7, zz_8, zz_9, zz_10, zz_11, zz_12, zz_13, zz_14, zz_15, zz_16, zz_20, zz_24, zz_25, zz_26, zz_28, zz_31, zz_32, zz_36, zz_39, zz_40, zz_48, zz_49, zz_50, zz_57, zz_59, zz_60, zz_64, zz_72, zz_97, zz_99, zz_100, zz_122, zz_144, zz_161, zz_255, zz_256, zz_288, zz_322, zz_384, zz_400, zz_448, zz_600, zz_1280, zz_1000000, nI_add, n_mul, n_sub, fa_or, fa_and, fb_xorI, n_div, n_rem, n_le, n_lt, n_eq, n_shl1, n_shr, n_andn, n_ix, n_grd, n_gdz, n_gbz, n_hasM, n_hasC, b2_0, b2_1, n_m1, Option.bind_some, bS_inl, bS_inr, n_max, n_min, n_grt, n_les, v23, v24, v25, v26, v56, v57, v58, v59, v60, v61, v62, v20, v28]
    rw [if_pos (by omega)]
/-- is there such an oath -/
def has3 (W : Cn) (a b t : Nat) : Bool := (fst1 (fun k => decide (sw W k = a ∧ bd W k = b ∧ th W k = t)) (oa W)).isSome
theorem M_isThere {W : Cn} {st c : Nat} {mm : Mm} (h : VM W st c mm) (wf : WF W) {a b t : Nat} (ha : a < 6) (hb : b < 6) (ht : t < 8) : m_X12_isThere (nI a) (nI b) (nI t) mm = some (b2 (has3 W a b t)) := by
  obtain ⟨⟨hc, v23⟩, v24, v25, v26, v56, v57, v58, v59, v60, v61, v62, v20, v28⟩ := h
  obtain ⟨f1, f2, f3, f4, f5, f6, f7, f8, f9, f10, f11⟩ := wf
  unfold m_X12_isThere
  have hw := loop_fst (body := m_X12_isThere_b3 (nI a) (nI b) (nI t) mm) (s0 := (0 : Int32)) (fun i => nI i) (fun k => decide (sw W k = a ∧ bd W k = b ∧ th W k = t)) (oa W) (fun _ => .inr 1) (.inl ()) rfl (FU_big (by omega)) (by
    intro i hi hp
    have g1 := f9 i
    have g2 := f10 i
    have g3 := f11 i
    unfold m_X12_isThere_b3
    simp (disch := omega) only [zz_0, zz_1, zz_2, zz_3, zz_4, zz_5, zz_6, zz_7, zz_8, zz_9, zz_10, zz_11, zz_12, zz_13, zz_14, zz_15, zz_16, zz_20, zz_24, zz_25, zz_26, zz_28, zz_31, zz_32, zz_36, zz_39, zz_40, zz_48, zz_49, zz_50, zz_57, zz_59, zz_60, zz_64, zz_72, zz_97, zz_99, zz_100, zz_122, zz_144, zz_161, zz_255, zz_256, zz_288, zz_322, zz_384, zz_400, zz_448, zz_600, zz_1280, zz_1000000, nI_add, n_mul, n_sub, fa_or, fa_and, fb_xorI, n_div, n_rem, n_le, n_lt, n_eq, n_shl1, n_shr, n_andn, n_ix, n_grd, n_gdz, n_gbz, n_hasM, n_hasC, b2_0, b2_1, n_m1, Option.bind_some, bS_inl, bS_inr, n_max, n_min, n_grt, n_les, v23, v24, v25, v26, v56, v57, v58, v59, v60, v61, v62, v20, v28]
    rw [if_neg (by omega)]
    simp only [decide_eq_false_iff_not, not_and] at hp
    by_cases k1 : sw W i = a <;> by_cases k2 : bd W i = b <;> by_cases k3 : th W i = t <;> simp [k1, k2, k3, bS_inl]
    all_goals exact absurd k3 (hp k1 k2)) (by
    intro i hi hp
    have g1 := f9 i
    have g2 := f10 i
    have g3 := f11 i
    unfold m_X12_isThere_b3
    simp (disch := omega) only [zz_0, zz_1, zz_2, zz_3, zz_4, zz_5, zz_6, zz_7, zz_8, zz_9, zz_10, zz_11, zz_12, zz_13, zz_14, zz_15, zz_16, zz_20, zz_24, zz_25, zz_26, zz_28, zz_31, zz_32, zz_36, zz_39, zz_40, zz_48, zz_49, zz_50, zz_57, zz_59, zz_60, zz_64, zz_72, zz_97, zz_99, zz_100, zz_122, zz_144, zz_161, zz_255, zz_256, zz_288, zz_322, zz_384, zz_400, zz_448, zz_600, zz_1280, zz_1000000, nI_add, n_mul, n_sub, fa_or, fa_and, fb_xorI, n_div, n_rem, n_le, n_lt, n_eq, n_shl1, n_shr, n_andn, n_ix, n_grd, n_gdz, n_gbz, n_hasM, n_hasC, b2_0, b2_1, n_m1, Option.bind_some, bS_inl, bS_inr, n_max, n_min, n_grt, n_les, v23, v24, v25, v26, v56, v57, v58, v59, v60, v61, v62, v20, v28]
    rw [if_neg (by omega)]
    simp only [decide_eq_true_eq] at hp
    simp [hp.1, hp.2.1, hp.2.2, bS_inr]) (by
    unfold m_X12_isThere_b3
    simp (disch := omega) only [zz_0, zz_1, zz_2, zz_3, zz_4, zz_5, zz_6, zz_7, zz_8, zz_9, zz_10, zz_11, zz_12, zz_13, zz_14, zz_15, zz_16, zz_20, zz_24, zz_25, zz_26, zz_28, zz_31, zz_32, zz_36, zz_39, zz_40, zz_48, zz_49, zz_50, zz_57, zz_59, zz_60, zz_64, zz_72, zz_97, zz_99, zz_100, zz_122, zz_144, zz_161, zz_255, zz_256, zz_288, zz_322, zz_384, zz_400, zz_448, zz_600, zz_1280, zz_1000000, nI_add, n_mul, n_sub, fa_or, fa_and, fb_xorI, n_div, n_rem, n_le, n_lt, n_eq, n_shl1, n_shr, n_andn, n_ix, n_grd, n_gdz, n_gbz, n_hasM, n_hasC, b2_0, b2_1, n_m1, Option.bind_some, bS_inl, bS_inr, n_max, n_min, n_grt, n_les, v23, v24, v25, v26, v56, v57, v58, v59, v60, v61, v62, v20, v28]
    rw [if_pos (by omega)])
  rw [hw]
  unfold has3
  cases fst1 (fun k => decide (sw W k = a ∧ bd W k = b ∧ th W k = t)) (oa W) <;> rfl
