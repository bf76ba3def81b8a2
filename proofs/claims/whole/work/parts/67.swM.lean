/-! L3: swearers by the reference -/
def VX (n : Nat) (w t : Nat → Nat) (x : Nat) (mm : Mm) : Prop := x < 2 ∧ mI mm 44 41 = nI x ∧ mI mm 52 (13 * x) = nI n ∧ (∀ k, k < n → mI mm 52 (13 * x + 1 + 2 * k) = nI (w k)) ∧ (∀ k, k < n → mI mm 52 (13 * x + 1 + 2 * k + 1) = nI (t k))
theorem VX_wr {n : Nat} {w t : Nat → Nat} {x : Nat} {mm : Mm} (h : VX n w t x mm) {p : Nat} (hp : p ≠ 52) {j : Nat} (hj : p = 44 → j ≠ 41) (v : Int32) : VX n w t x (sI mm p j v) := by
  obtain ⟨h1, h2, h3, h4, h5⟩ := h
  refine ⟨h1, ?_, ?_, fun k hk => ?_, fun k hk => ?_⟩
  · rw [rdI, if_neg]
    · exact h2
    · rintro ⟨rfl, rfl⟩; exact hj rfl rfl
  · rw [rdI_ne _ _ _ _ (fun e => hp e.symm)]; exact h3
  · rw [rdI_ne _ _ _ _ (fun e => hp e.symm)]; exact h4 k hk
  · rw [rdI_ne _ _ _ _ (fun e => hp e.symm)]; exact h5 k hk
theorem VX_agx {n : Nat} {w t : Nat → Nat} {x : Nat} {mm m : Mm} {Wl : List (Nat × Option Nat)} (h : VX n w t x mm) (hg : agx Wl mm m) (h1' : ∀ j, covB Wl 52 j = false) (h2' : covB Wl 44 41 = false) : VX n w t x m := by
  obtain ⟨h1, h2, h3, h4, h5⟩ := h
  refine ⟨h1, ?_, ?_, fun k hk => ?_, fun k hk => ?_⟩
  · rw [(hg _ _ h2').1]; exact h2
  · rw [(hg _ _ (h1' _)).1]; exact h3
  · rw [(hg _ _ (h1' _)).1]; exact h4 k hk
  · rw [(hg _ _ (h1' _)).1]; exact h5 k hk
theorem M_allWants {n : Nat} {w t : Nat → Nat} {x : Nat} {mm : Mm} (h : VX n w t x mm) : m_X12_allWants mm = some (nI n) := by
  obtain ⟨h1, h2, h3, h4, h5⟩ := h
  unfold m_X12_allWants
  rw [h2, show (13 : Int32) = nI 13 from rfl]
  simp (disch := omega) only [n_mul, n_grd, n_ix, h3]
theorem M_wantWho {n : Nat} {w t : Nat → Nat} {x : Nat} {mm : Mm} (h : VX n w t x mm) (hn : n ≤ 6) {k : Nat} (hk : k < n) : m_X12_wantOf (nI k) (nI 0) mm = some (nI (w k)) := by
  obtain ⟨h1, h2, h3, h4, h5⟩ := h
  have g := h4 k hk
  unfold m_X12_wantOf
  rw [h2]
  simp (disch := omega) only [zz_0, zz_1, zz_2, zz_3, zz_4, zz_5, zz_6, zz_7, zz_8, zz_9, zz_10, zz_11, zz_12, zz_13, zz_14, zz_15, zz_16, zz_20, zz_24, zz_25, zz_26, zz_28, zz_31, zz_32, zz_36, zz_39, zz_40, zz_48, zz_49, zz_50, zz_57, zz_59, zz_60, zz_64, zz_72, zz_97, zz_99, zz_100, zz_122, zz_144, zz_161, zz_255, zz_256, zz_288, zz_322, zz_384, zz_400, zz_448, zz_600, zz_1280, zz_1000000, n_mul, nI_add, n_grd, n_ix, Nat.add_zero, g]
theorem M_wantThing {n : Nat} {w t : Nat → Nat} {x : Nat} {mm : Mm} (h : VX n w t x mm) (hn : n ≤ 6) {k : Nat} (hk : k < n) : m_X12_wantOf (nI k) (nI 1) mm = some (nI (t k)) := by
  obtain ⟨h1, h2, h3, h4, h5⟩ := h
  have g := h5 k hk
  unfold m_X12_wantOf
  rw [h2]
  simp (disch := omega) only [zz_0, zz_1, zz_2, zz_3, zz_4, zz_5, zz_6, zz_7, zz_8, zz_9, zz_10, zz_11, zz_12, zz_13, zz_14, zz_15, zz_16, zz_20, zz_24, zz_25, zz_26, zz_28, zz_31, zz_32, zz_36, zz_39, zz_40, zz_48, zz_49, zz_50, zz_57, zz_59, zz_60, zz_64, zz_72, zz_97, zz_99, zz_100, zz_122, zz_144, zz_161, zz_255, zz_256, zz_288, zz_322, zz_384, zz_400, zz_448, zz_600, zz_1280, zz_1000000, n_mul, nI_add, n_grd, n_ix, g]
theorem M_layRow {W : Cn} {st c : Nat} {mm : Mm} (h : VM W st c mm) (wf : WF W) {n : Nat} {w t : Nat → Nat} {x : Nat} (hx : VX n w t x mm) (hn : n ≤ 6) (w6 : ∀ j, w j < 6) {num : Nat} (hnum : num < 7 ^ n) : ∃ m, VM W st c m ∧ VX n w t x m ∧ (∀ j, j < 6 → mI m 66 j = mI mm 66 j) ∧ ((vrd W w (rowN n num) n ∧ m_X12_layRow (nI num) mm = some (1, m) ∧ ∀ k, k < n → mI m 65 k = nI (rowN n num k)) ∨ (¬ vrd W w (rowN n num) n ∧ m_X12_layRow (nI num) mm = some (0, m))) := by
  have hf := wf.1
  have p7 : 7 ^ n ≤ 117649 := Nat.pow_le_pow_right (n := 7) (j := 6) (by decide) hn
  unfold m_X12_layRow
  rw [M_allWants hx, ob_s]
  simp only [zz_0, zz_1, zz_2, zz_3, zz_4, zz_5, zz_6, zz_7, zz_8, zz_9, zz_10, zz_11, zz_12, zz_13, zz_14, zz_15, zz_16, zz_20, zz_24, zz_25, zz_26, zz_28, zz_31, zz_32, zz_36, zz_39, zz_40, zz_48, zz_49, zz_50, zz_57, zz_59, zz_60, zz_64, zz_72, zz_97, zz_99, zz_100, zz_122, zz_144, zz_161, zz_255, zz_256, zz_288, zz_322, zz_384, zz_400, zz_448, zz_600, zz_1280, zz_1000000]
  obtain ⟨q, e, hq⟩ := loop_inv (body := m_X12_layRow_b12) (a := (nI num, nI 0, nI n - nI 1, mm)) (fun i z => ∃ m had, z = (nI (num / 7 ^ i), nI had, nI (n - i) - nI 1, m) ∧ VM W st c m ∧ VX n w t x m ∧ (∀ j, j < 6 → mI m 66 j = mI mm 66 j) ∧ had < 64 ∧ (∀ p, had.testBit p = true ↔ p < 6 ∧ ∃ k, n - i ≤ k ∧ k < n ∧ rowN n num k = p) ∧ (∀ k, n - i ≤ k → k < n → mI m 65 k = nI (rowN n num k)) ∧ (∀ k, n - i ≤ k → k < n → rowN n num k < 6 → rowN n num k < fk W ∧ rowN n num k ≠ w k ∧ ∀ k', k < k' → k' < n → rowN n num k' ≠ rowN n num k)) (fun q => (∃ m, q = .inl m ∧ VM W st c m ∧ VX n w t x m ∧ (∀ j, j < 6 → mI m 66 j = mI mm 66 j) ∧ (∀ k, k < n → mI m 65 k = nI (rowN n num k)) ∧ vrd W w (rowN n num) n) ∨ (∃ m, q = .inr (nI 0, m) ∧ VM W st c m ∧ VX n w t x m ∧ (∀ j, j < 6 → mI m 66 j = mI mm 66 j) ∧ ¬ vrd W w (rowN n num) n)) n (FU_big (by omega)) ⟨mm, 0, by simp, h, hx, fun _ _ => rfl, by decide, fun p => by
      simp only [Nat.zero_testBit, Bool.false_eq_true, false_iff]
      rintro ⟨_, k, h1, h2, _⟩
      omega, fun k h1 h2 => by omega, fun k h1 h2 => by omega⟩ (by
    rintro i z hi ⟨m, had, rfl, V, X, h66, hb, hhad, hrow, hval⟩
    obtain ⟨k, hk⟩ : ∃ k, n - i = k + 1 := ⟨n - i - 1, by omega⟩
    have hk2 : n - (i + 1) = k := by omega
    have hki : n - 1 - k = i := by omega
    rw [hk] at hhad hrow hval ⊢
    rw [hk2]
    have hle : num / 7 ^ i ≤ num := Nat.div_le_self _ _
    have hr : num / 7 ^ i % 7 = rowN n num k := by unfold rowN; rw [hki]
    have r6 := rowN_le n num k
    have hdd : num / 7 ^ (i + 1) = num / 7 ^ i / 7 := by rw [Nat.pow_succ, Nat.div_div_eq_div_mul]
    rw [hdd]
    have V1 : VM W st c (sI m 65 k (nI (rowN n num k))) := VM_wr V (by omega) _ _
    have X1 : VX n w t x (sI m 65 k (nI (rowN n num k))) := VX_wr X (by decide) (by omega) _
    have r1 : mI (sI m 65 k (nI (rowN n num k))) 65 k = nI (rowN n num k) := rdI_eq _ _ _ _
    have r2 : mI (sI m 65 k (nI (rowN n num k))) 44 24 = nI (fk W) := V1.2.1
    have r3 := M_wantWho X1 hn (k := k) (by omega)
    have r4 := w6 k
    have h66' : ∀ j, j < 6 → mI (sI m 65 k (nI (rowN n num k))) 66 j = mI mm 66 j := fun j hj => by rw [rdI_ne _ _ _ _ (by decide)]; exact h66 j hj
    have hrow' : ∀ k', k ≤ k' → k' < n → mI (sI m 65 k (nI (rowN n num k))) 65 k' = nI (rowN n num k') := fun k' h1 h2 => by
      rw [rdI_sm]
      by_cases e : k' = k
      · rw [if_pos e, e]
      · rw [if_neg e]; exact hrow k' (by omega) h2
    unfold m_X12_layRow_b12
    simp (disch := omega) only [zz_0, zz_1, zz_2, zz_3, zz_4, zz_5, zz_6, zz_7, zz_8, zz_9, zz_10, zz_11, zz_12, zz_13, zz_14, zz_15, zz_16, zz_20, zz_24, zz_25, zz_26, zz_28, zz_31, zz_32, zz_36, zz_39, zz_40, zz_48, zz_49, zz_50, zz_57, zz_59, zz_60, zz_64, zz_72, zz_97, zz_99, zz_100, zz_122, zz_144, zz_161, zz_255, zz_256, zz_288, zz_322, zz_384, zz_400, zz_448, zz_600, zz_1280, zz_1000000, n_m1, n_pm1, n_sub, show k + 1 - 1 = k from rfl, n_lt, n_rem, hr, n_grd, n_ix, n_div]
    rw [if_neg (by omega)]
    generalize sI m 65 k (nI (rowN n num k)) = m2 at *
    simp (disch := omega) only [r1, r2, r3, n_le, n_hasM, b2_0, ob_s, n_eq, n_shl1]
    by_cases k6 : 6 ≤ rowN n num k
    · rw [if_pos k6, if_pos k6, bs_l, ob_s, fa_or, Nat.or_zero]
      left
      refine ⟨_, rfl, m2, had, rfl, V1, X1, h66', hb, fun p => ?_, hrow', fun k' h1 h2 h3 => ?_⟩
      · rw [hhad]
        constructor
        · rintro ⟨h1, k', h2, h3, h4⟩; exact ⟨h1, k', by omega, h3, h4⟩
        · rintro ⟨h1, k', h2, h3, h4⟩
          refine ⟨h1, k', ?_, h3, h4⟩
          by_cases e : k' = k
          · rw [e] at h4; omega
          · omega
      · by_cases e : k' = k
        · rw [e] at h3; omega
        · exact hval k' (by omega) h2 h3
    · rw [if_neg k6, if_neg k6]
      by_cases k7 : fk W ≤ rowN n num k
      · rw [if_pos k7, bs_r]
        right
        refine ⟨_, rfl, Or.inr ⟨m2, rfl, V1, X1, h66', fun hv => ?_⟩⟩
        have := ((hv k (by omega)).2 (by omega)).1
        omega
      · rw [if_neg k7]
        cases k8 : had.testBit (rowN n num k) with
        | true =>
          rw [if_neg (by decide), bs_r]
          right
          refine ⟨_, rfl, Or.inr ⟨m2, rfl, V1, X1, h66', fun hv => ?_⟩⟩
          obtain ⟨_, k', h2, h3, h4⟩ := (hhad _).mp k8
          exact ((hv k (by omega)).2 (by omega)).2.2 k' h3 (by omega) h4
        | false =>
          rw [if_pos rfl]
          by_cases k9 : rowN n num k = w k
          · rw [if_pos k9, bs_r]
            right
            refine ⟨_, rfl, Or.inr ⟨m2, rfl, V1, X1, h66', fun hv => ?_⟩⟩
            exact ((hv k (by omega)).2 (by omega)).2.1 k9
          · rw [if_neg k9, bs_l, ob_s, fa_or]
            left
            refine ⟨_, rfl, m2, had ||| 2 ^ rowN n num k, rfl, V1, X1, h66', or_b (n := 6) hb (pow_le (by omega)), fun p => ?_, hrow', fun k' h1 h2 h3 => ?_⟩
            · rw [fb_bit_set, Bool.or_eq_true, hhad, decide_eq_true_eq]
              constructor
              · rintro (⟨h1, k', h2, h3, h4⟩ | h1)
                · exact ⟨h1, k', by omega, h3, h4⟩
                · exact ⟨by omega, k, by omega, by omega, h1.symm⟩
              · rintro ⟨h1, k', h2, h3, h4⟩
                by_cases e : k' = k
                · right; rw [← h4, e]
                · left; exact ⟨h1, k', by omega, h3, h4⟩
            · by_cases e : k' = k
              · subst e
                refine ⟨by omega, k9, fun k'' h4 h5 h6 => ?_⟩
                have := (hhad (rowN n num k')).mpr ⟨by omega, k'', by omega, h5, h6⟩
                rw [k8] at this; cases this
              · exact hval k' (by omega) h2 h3) (by
    rintro z ⟨m, had, rfl, V, X, h66, hb, hhad, hrow, hval⟩
    unfold m_X12_layRow_b12
    rw [show n - n = 0 by omega] at *
    rw [if_pos (show (nI 0 - nI 1 : Int32) < 0 by decide)]
    refine ⟨_, rfl, Or.inl ⟨m, rfl, V, X, h66, fun k hk => hrow k (by omega) hk, fun i hi => ⟨rowN_le _ _ _, fun h6 => ?_⟩⟩⟩
    obtain ⟨h1, h2, h3⟩ := hval i (by omega) hi h6
    refine ⟨h1, h2, fun i' h4 h5 h7 => ?_⟩
    by_cases hlt : i < i'
    · exact h3 i' hlt h4 h7
    · exact (hval i' (by omega) h4 (by omega)).2.2 i (by omega) hi h7.symm)
  rw [e]
  rcases hq with ⟨m, rfl, V, X, h66, hrow, hv⟩ | ⟨m, rfl, V, X, h66, hv⟩
  · rw [bs_l]
    exact ⟨m, V, X, h66, Or.inl ⟨hv, rfl, hrow⟩⟩
  · rw [bs_r]
    exact ⟨m, V, X, h66, Or.inr ⟨hv, rfl⟩⟩
def zeroO (W : Cn) : Cn := fun x j => if x = 0 ∧ j = 1 then 0 else W x j
theorem zeroO_oa (W : Cn) : oa (zeroO W) = 0 := rfl
theorem zeroO_ext (W : Cn) : extW (zeroO W) W := by
  refine ⟨by rw [zeroO_oa]; omega, rfl, fun x h1 h2 => ?_, fun k hk => by rw [zeroO_oa] at hk; omega⟩
  funext j
  unfold zeroO
  rw [if_neg (by omega)]
theorem zeroO_row (W : Cn) {x : Nat} (hx : 1 ≤ x) : (zeroO W) x = W x := by
  funext j
  unfold zeroO
  rw [if_neg (by omega)]
theorem zeroO_WF {W : Cn} (wf : WF W) : WF (zeroO W) := by
  obtain ⟨f1, f2, f3, f4, f5, f6, f7, f8, f9, f10, f11⟩ := wf
  refine ⟨f1, by rw [zeroO_oa]; omega, ?_, ?_, ?_, ?_, ?_, ?_, ?_, ?_, ?_⟩
  · exact f3
  · exact f4
  · exact f5
  · exact f6
  · exact f7
  · exact f8
  · exact f9
  · exact f10
  · exact f11
theorem ext_tr {W U V : Cn} (h : extW W U) (h' : extW U V) : extW W V := by
  obtain ⟨a1, a2, a3, a4⟩ := h
  obtain ⟨b1, b2, b3, b4⟩ := h'
  refine ⟨by omega, b2.trans a2, fun x h1 h2 => (b3 x h1 h2).trans (a3 x h1 h2), fun k hk => ?_⟩
  obtain ⟨c1, c2, c3⟩ := a4 k hk
  obtain ⟨d1, d2, d3⟩ := b4 k (by omega)
  exact ⟨d1.trans c1, d2.trans c2, d3.trans c3⟩
theorem zeroO_rch (W : Cn) (a b : Nat) : rch (zeroO W) a b = rch W a b := rfl
theorem zeroO_bst (W : Cn) (s r : Nat) : bst (zeroO W) s r = bst W s r := rfl
theorem M_keptWants {W : Cn} (wf : WF W) (hc : symC (cl W)) {U : Cn} {c : Nat} {mm : Mm} (h : VM U 0 c mm) (hE : extW (zeroO W) U) {n : Nat} {w t : Nat → Nat} {x : Nat} (hx : VX n w t x mm) (hn : n ≤ 6) (w6 : ∀ j, w j < 6) (t8 : ∀ j, t j < 8) {r : Nat → Nat} (hv : vrd W w r n) (h65 : ∀ k, k < n → mI mm 65 k = nI (r k)) : ∃ m V, m_X12_keptWants mm = some (nI (Kct W n w t (Sr W n w t r)), m) ∧ VM V 0 c m ∧ extW (zeroO W) V ∧ WF V ∧ VX n w t x m ∧ (∀ p j, p ≠ 44 → p ≠ 60 → p ≠ 61 → p ≠ 62 → mI m p j = mI mm p j) := by
  have hf := wf.1
  have h0 := VM_drop h hE
  rw [zeroO_oa] at h0
  unfold m_X12_keptWants
  simp only [zz_0, zz_1, zz_2, zz_3, zz_4, zz_5, zz_6, zz_7, zz_8, zz_9, zz_10, zz_11, zz_12, zz_13, zz_14, zz_15, zz_16, zz_20, zz_24, zz_25, zz_26, zz_28, zz_31, zz_32, zz_36, zz_39, zz_40, zz_48, zz_49, zz_50, zz_57, zz_59, zz_60, zz_64, zz_72, zz_97, zz_99, zz_100, zz_122, zz_144, zz_161, zz_255, zz_256, zz_288, zz_322, zz_384, zz_400, zz_448, zz_600, zz_1280, zz_1000000]
  obtain ⟨m1', e1, V, hV, hEV, hWV, hX, h65', hA, hop⟩ := loop_n (body := m_X12_keptWants_b7) (a := (nI 0, sI mm 44 25 (nI 0))) (fun i z => ∃ m V, z = (nI i, m) ∧ VM V 0 c m ∧ extW (zeroO W) V ∧ WF V ∧ oa V ≤ i ∧ VX n w t x m ∧ (∀ k, k < n → mI m 65 k = nI (r k)) ∧ (∀ p j, p ≠ 44 → p ≠ 60 → p ≠ 61 → p ≠ 62 → mI m p j = mI mm p j) ∧ ∀ p, opn V 0 p = fo (fun k s => s ||| if (opr W w t k).testBit (r k) = true ∧ w k = p then 2 ^ t k else 0) 0 i) (fun m => ∃ V, VM V 0 c m ∧ extW (zeroO W) V ∧ WF V ∧ VX n w t x m ∧ (∀ k, k < n → mI m 65 k = nI (r k)) ∧ (∀ p j, p ≠ 44 → p ≠ 60 → p ≠ 61 → p ≠ 62 → mI m p j = mI mm p j) ∧ ∀ p, opn V 0 p = osb n w t (Sr W n w t r) p) n (FU_big (by omega)) ⟨_, zeroO W, rfl, h0, extW_rf _, zeroO_WF wf, Nat.le_refl 0, VX_wr hx (by decide) (by omega) _, fun k hk => by rw [rdI_ne _ _ _ _ (by decide)]; exact h65 k hk, fun p j h1 _ _ _ => rdI_ne _ _ _ _ h1, fun p => rfl⟩ (by
    rintro i z hi ⟨m, V, rfl, hV, hE, hF, ho, hX, g65, hA, hop⟩
    have q1 := M_wantWho hX hn hi
    have q2 := M_wantThing hX hn hi
    have q3 := g65 i hi
    obtain ⟨q4, q5⟩ := hv i hi
    have q6 := w6 i
    have q7 := t8 i
    unfold m_X12_keptWants_b7
    rw [M_allWants hX, ob_s]
    simp (disch := omega) only [zz_0, zz_1, zz_2, zz_3, zz_4, zz_5, zz_6, zz_7, zz_8, zz_9, zz_10, zz_11, zz_12, zz_13, zz_14, zz_15, zz_16, zz_20, zz_24, zz_25, zz_26, zz_28, zz_31, zz_32, zz_36, zz_39, zz_40, zz_48, zz_49, zz_50, zz_57, zz_59, zz_60, zz_64, zz_72, zz_97, zz_99, zz_100, zz_122, zz_144, zz_161, zz_255, zz_256, zz_288, zz_322, zz_384, zz_400, zz_448, zz_600, zz_1280, zz_1000000, n_le, n_grd, n_ix, q3, q1, q2, ob_s]
    rw [if_neg (by omega)]
    by_cases k6 : 6 ≤ r i
    · rw [if_pos k6, ob_s, nI_add]
      refine ⟨_, rfl, m, V, rfl, hV, hE, hF, by omega, hX, g65, hA, fun p => ?_⟩
      rw [fo, ← hop p, if_neg, Nat.or_zero]
      rintro ⟨h1, _⟩
      have := ((opr_bit W w t i (r i)).mp h1).1
      omega
    · obtain ⟨h1, h2, _⟩ := q5 (by omega)
      obtain ⟨m', a1, a2, _, a4⟩ := VM_addO hV hF (a := r i) (b := w i) (t := t i) (by omega)
      rw [if_neg k6, a1, ob_s, ob_s, nI_add]
      have fr := fr_X12_addOath a1
      refine ⟨_, rfl, m', _, rfl, a2, extW_add hE _ _ _, addO_WF hF (by omega) q6 q7 (by omega), by rw [addO_oa]; omega, VX_agx hX fr (by intro j; simp [covB]) (by rfl), fun k hk => ?_, fun p j b1 b2 b3 b4 => ?_, fun p => ?_⟩
      · rw [a4 65 k (by decide) (by decide) (by decide) (by decide)]; exact g65 k hk
      · rw [a4 p j b2 b3 b4 b1]; exact hA p j b1 b2 b3 b4
      · rw [ext_opn hE q7, fo, ← hop p, zeroO_rch]
        congr 1
        by_cases e : p = w i
        · rw [if_pos e, and_pow]
          by_cases e2 : (rch W (r i) (w i)).testBit (t i) = true
          · rw [if_pos e2, if_pos ⟨(opr_bit W w t i (r i)).mpr ⟨h1, h2, e2⟩, e.symm⟩]
          · rw [if_neg e2, if_neg (fun q => e2 ((opr_bit W w t i (r i)).mp q.1).2.2)]
        · rw [if_neg e, if_neg (fun q => e q.2.symm)]) (by
    rintro z ⟨m, V, rfl, hV, hE, hF, ho, hX, g65, hA, hop⟩
    unfold m_X12_keptWants_b7
    rw [M_allWants hX, ob_s]
    simp (disch := omega) only [zz_0, zz_1, zz_2, zz_3, zz_4, zz_5, zz_6, zz_7, zz_8, zz_9, zz_10, zz_11, zz_12, zz_13, zz_14, zz_15, zz_16, zz_20, zz_24, zz_25, zz_26, zz_28, zz_31, zz_32, zz_36, zz_39, zz_40, zz_48, zz_49, zz_50, zz_57, zz_59, zz_60, zz_64, zz_72, zz_97, zz_99, zz_100, zz_122, zz_144, zz_161, zz_255, zz_256, zz_288, zz_322, zz_384, zz_400, zz_448, zz_600, zz_1280, zz_1000000, n_le]
    rw [if_pos (by omega)]
    refine ⟨_, rfl, V, hV, hE, hF, hX, g65, hA, fun p => ?_⟩
    rw [hop p]
    unfold osb
    refine fo_cong (n := n) (fun k s hk => ?_) n (Nat.le_refl _)
    congr 1
    by_cases h1 : (opr W w t k).testBit (r k) = true ∧ w k = p
    · rw [if_pos h1, if_pos ⟨(Sr_bit W n w t r k).mpr ⟨hk, h1.1⟩, h1.2⟩]
    · rw [if_neg h1, if_neg (fun q => h1 ⟨((Sr_bit W n w t r k).mp q.1).2, q.2⟩)])
  rw [e1, ob_s]
  have hcV : symC (cl V) := by
    show symC (V 6)
    rw [hEV.2.2.1 6 (by decide) (by decide)]; exact hc
  have e2 : whileF FU (m_X12_keptWants_b58 m1') (nI 0, nI 0) = some (nI (Kct W n w t (Sr W n w t r))) := by
    refine (loop_fo (fun (x : Nat) i => (nI x, nI i)) (fun j x => x + if (bst W (osb n w t (Sr W n w t r) (w j)) (rm W (w j))).testBit (t j) then 1 else 0) 0 n (fun x => nI x) (fun i x => True) rfl (FU_big (by omega)) trivial (fun _ _ _ _ => trivial) ?_ ?_).trans (by rw [fo_ct]; rfl)
    · intro i y hi hy
      have q1 := M_wantWho hX hn hi
      have q2 := M_wantThing hX hn hi
      have q6 := w6 i
      have q7 := t8 i
      have q3 := M_keptBy hV hWV hcV (by decide) q6
      have q4 : kby V 0 (w i) = bst W (osb n w t (Sr W n w t r) (w i)) (rm W (w i)) := by
        unfold kby
        rw [ext_bst hEV, hop, zeroO_bst]
        exact congrArg (bst W _) (congrFun (hEV.2.2.1 2 (by decide) (by decide)) (w i))
      rw [q4] at q3
      have q8 := bst_b W hc (osb n w t (Sr W n w t r) (w i)) (rm W (w i))
      unfold m_X12_keptWants_b58
      rw [M_allWants hX, ob_s]
      simp (disch := omega) only [zz_0, zz_1, zz_2, zz_3, zz_4, zz_5, zz_6, zz_7, zz_8, zz_9, zz_10, zz_11, zz_12, zz_13, zz_14, zz_15, zz_16, zz_20, zz_24, zz_25, zz_26, zz_28, zz_31, zz_32, zz_36, zz_39, zz_40, zz_48, zz_49, zz_50, zz_57, zz_59, zz_60, zz_64, zz_72, zz_97, zz_99, zz_100, zz_122, zz_144, zz_161, zz_255, zz_256, zz_288, zz_322, zz_384, zz_400, zz_448, zz_600, zz_1280, zz_1000000, n_le, q1, q2, q3, ob_s, n_hasM, b2_0]
      rw [if_neg (by omega)]
      cases (bst W (osb n w t (Sr W n w t r) (w i)) (rm W (w i))).testBit (t i) <;> simp [nI_add]
    · intro y hy
      unfold m_X12_keptWants_b58
      rw [M_allWants hX, ob_s]
      simp (disch := omega) only [zz_0, zz_1, zz_2, zz_3, zz_4, zz_5, zz_6, zz_7, zz_8, zz_9, zz_10, zz_11, zz_12, zz_13, zz_14, zz_15, zz_16, zz_20, zz_24, zz_25, zz_26, zz_28, zz_31, zz_32, zz_36, zz_39, zz_40, zz_48, zz_49, zz_50, zz_57, zz_59, zz_60, zz_64, zz_72, zz_97, zz_99, zz_100, zz_122, zz_144, zz_161, zz_255, zz_256, zz_288, zz_322, zz_384, zz_400, zz_448, zz_600, zz_1280, zz_1000000, n_le]
      rw [if_pos (by omega)]
  rw [e2, ob_s]
  exact ⟨m1', V, rfl, hV, hEV, hWV, hX, hA⟩
