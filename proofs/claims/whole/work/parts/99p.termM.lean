/-! L3: a term's line, as the reference reads it -/
noncomputable def trmX (d : Int32) (p7 : Mm) : Option (Int32 × Mm) := bS (if (m_X12_in d 1 2) = 0 then (some (.inl p7)) else ((m_X12_take 1 0 5 p7).bind (fun q19 => if q19.1 = 0 then (some (.inr (0, q19.2))) else (some (.inl q19.2)))) : Option ((Mm) ⊕ (Int32 × Mm))) (fun p14 => bS (if d < 3 then (some (.inl p14)) else ((m_X12_takeTwo 1 5 p14).bind (fun q27 => if q27.1 = 0 then (some (.inr (0, q27.2))) else (some (.inl q27.2)))) : Option ((Mm) ⊕ (Int32 × Mm))) (fun p22 => bS (if d = 6 then ((m_X12_take 3 0 7 p22).bind (fun q35 => if q35.1 = 0 then (some (.inr (0, q35.2))) else (some (.inl q35.2)))) else (some (.inl p22)) : Option ((Mm) ⊕ (Int32 × Mm))) (fun p30 => (m_X12_keepRow 4 40 (sI p30 55 (ix 0) d)).bind (fun q38 => some (1, q38)))))
theorem termLine_eq (w : Int64) (a : Int32) (m : Mm) : m_X12_termLine w a m = if (m_X12_deedBy w) = -1 then (gbz ((m_X12_fails m).1) (some ((m_X12_fails m).1, ((m_X12_fails m).2)))) else ((m_X12_full 0 40 a m).bind (fun q2 => (m_X12_token q2).bind (fun q4 => (whileF FU (m_X12_termLine_b33) (1, q4)).bind (fun p7 => trmX (m_X12_deedBy w) p7)))) := rfl
theorem M_clear (m : Mm) : ∃ m', whileF FU (m_X12_termLine_b33) (1, m) = some m' ∧ mI m' 55 1 = -1 ∧ mI m' 55 2 = -1 ∧ mI m' 55 3 = -1 ∧ agx [(55, none)] m m' := by
  have st : ∀ (i : Nat) (z : Mm), i < 4 → m_X12_termLine_b33 (nI i, z) = some (.inl (nI (i + 1), sI z 55 i (-1))) := by
    intro i z hi
    unfold m_X12_termLine_b33
    simp only
    rw [if_neg (by rw [show (4 : Int32) = nI 4 from rfl, n_le (by decide) (by omega)]; omega), n_grd (by omega) (by decide), n_ix (by omega), show (1 : Int32) = nI 1 from rfl, nI_add]
  have e := while3 (body := m_X12_termLine_b33) (st 1 m (by decide)) (st 2 _ (by decide)) (st 3 _ (by decide)) (r := sI (sI (sI m 55 1 (-1)) 55 2 (-1)) 55 3 (-1)) rfl
  refine ⟨_, e, ?_, ?_, ?_, agx_wr (agx_wr (agx_wr (agx_rf _) (by rfl)) (by rfl)) (by rfl)⟩
  · rw [rdI_nj _ _ _ _ (by decide), rdI_nj _ _ _ _ (by decide), rdI_eq]
  · rw [rdI_nj _ _ _ _ (by decide), rdI_eq]
  · rw [rdI_eq]
theorem M_deedBy {u : Nat → Nat} {n : Nat} {t : Tk} (hu : ∀ i, u i < 256) (gt : GT u n t) (hl : t.1 = 1 → t.2.1 < t.2.2) : m_X12_deedBy (if t.1 = 1 ∧ t.2.2 - t.2.1 ≤ 8 then pk u t.2.1 (t.2.2 - t.2.1) else 0) = if kdA 1 (tw u t) = 7 then -1 else nI (kdA 1 (tw u t)) := by
  have T : ∀ a, a < 17 → 1 ≤ a → a ≠ 6 → (lg_cmp (if t.1 = 1 ∧ t.2.2 - t.2.1 ≤ 8 then pk u t.2.1 (t.2.2 - t.2.1) else 0) (cW a) = 0) = (tw u t = a) := fun a x y z => M_word hu gt x y z
  have tb := tw_b (u := u) (t := t) hl
  generalize (if t.1 = 1 ∧ t.2.2 - t.2.1 ≤ 8 then pk u t.2.1 (t.2.2 - t.2.1) else 0) = w at T ⊢
  unfold m_X12_deedBy
  rw [cw_7, cw_8, cw_9, cw_10, cw_11, cw_12, cw_13]
  simp only [T 7 (by decide) (by decide) (by decide), T 8 (by decide) (by decide) (by decide), T 9 (by decide) (by decide) (by decide), T 10 (by decide) (by decide) (by decide), T 11 (by decide) (by decide) (by decide), T 12 (by decide) (by decide) (by decide), T 13 (by decide) (by decide) (by decide)]
  generalize tw u t = a at tb ⊢
  have key : ∀ a, a < 17 → a ≠ 6 → (if a = 7 then (0 : Int32) else (if a = 8 then 1 else (if a = 9 then 2 else (if a = 10 then 3 else (if a = 11 then 4 else (if a = 12 then 5 else (if a = 13 then 6 else (-1)))))))) = if kdA 1 a = 7 then -1 else nI (kdA 1 a) := by decide +kernel
  exact key a tb.1 tb.2.1
theorem M_trm {u : Nat → Nat} {n : Nat} {A : As} {m p7 : Mm} (h : MBn u n 1 A m) (gq : GPs u n (q0A u n 1 A)) (dq : pd (q0A u n 1 A) = 0) (hp : MPs u n (q0A u n 1 A) p7) (r1 : mI p7 55 1 = -1) (r2 : mI p7 55 2 = -1) (r3 : mI p7 55 3 = -1) (y54 : ∀ j, mI p7 54 j = mI m 54 j) {k : Nat} (hk : k < 7) : ∃ m', trmX (nI k) p7 = some (b2 (decide (pd (l3A u n (sgN 1 k) (q0A u n 1 A)) = 0)), m') ∧ MLn u n 1 A k m' := by
  have h' := h
  obtain ⟨h1, h2, h3, h4, h5, h6, h7⟩ := h'
  have gb := GT_b h2.1.2.2.1
  have n6 := h1.1.1
  have hN := h2.2.1
  have fin : ∀ {z : Mm}, MPs u n (l3A u n (sgN 1 k) (q0A u n 1 A)) z → pd (l3A u n (sgN 1 k) (q0A u n 1 A)) = 0 → (∀ j, mI z 54 j = mI m 54 j) → mI z 55 1 = enX 1 (roA u n 1 k (q0A u n 1 A)) 1 → mI z 55 2 = enX 1 (roA u n 1 k (q0A u n 1 A)) 2 → mI z 55 3 = enX 1 (roA u n 1 k (q0A u n 1 A)) 3 → ∃ m', (m_X12_keepRow 4 40 (sI z 55 (ix 0) (nI k))).bind (fun q38 => some ((1 : Int32), q38)) = some (b2 (decide (pd (l3A u n (sgN 1 k) (q0A u n 1 A)) = 0)), m') ∧ MLn u n 1 A k m' := by
    intro z c dd z54 z1 z2 z3
    obtain ⟨m', e1, e2, e3, e4⟩ := M_row (g := 1) (m2 := sI z 55 0 (nI k)) (v := roA u n 1 k (q0A u n 1 A)) (by decide) (by decide) (by omega) h5 (fun j => by rw [rdI_ne _ _ _ _ (by decide)]; exact z54 j) (x := 4) (y := 40) rfl rfl
    rw [ix0, e1, ob_s, decide_eq_true dd]
    refine ⟨m', rfl, MPs_a (MPs_a c (agx_wr (W := [(55, none)]) (agx_rf _) (by rfl)) (fun i => by rfl) (by rfl)) e2 (fun i => by rfl) (by rfl), fun _ => ⟨e3, fun f0 => ?_⟩⟩
    obtain ⟨p1, p2⟩ := ML_g h (by decide) gq dd f0
    refine e4 p2 p1 (fun q hq => ?_)
    have hq : q < 4 := hq
    rcases (by omega : q = 0 ∨ q = 1 ∨ q = 2 ∨ q = 3) with rfl | rfl | rfl | rfl
    · rw [rdI_eq]; rfl
    · rw [rdI_nj _ _ _ _ (by decide)]; exact z1
    · rw [rdI_nj _ _ _ _ (by decide)]; exact z2
    · rw [rdI_nj _ _ _ _ (by decide)]; exact z3
  have k3 : (nI k < 3) = (k < 3) := n_lt (b := 3) (by omega) (by decide)
  have k6 : (nI k = 6) = (k = 6) := n_eq (b := 6) (by omega) (by decide)
  have kin : ∀ k, k < 7 → (m_X12_in (nI k) 1 2 = 0 ↔ ¬ (k = 1 ∨ k = 2)) := by decide
  unfold trmX
  rcases (by omega : k = 0 ∨ (k = 1 ∨ k = 2) ∨ (k = 3 ∨ k = 4 ∨ k = 5) ∨ k = 6) with e | e | e | e
  · subst e
    have s0 : sgN 1 0 = 6 := by decide +kernel
    have L3 : l3A u n 6 (q0A u n 1 A) = q0A u n 1 A := by rw [l3_n (by decide +kernel), l2_n (by decide +kernel), l1_n (by decide +kernel)]
    rw [if_pos ((kin 0 (by decide)).mpr (by decide)), bs_l, if_pos (by rw [k3]; decide), bs_l, if_neg (by rw [k6]; decide), bs_l]
    refine fin (by rw [s0, L3]; exact hp) (by rw [s0, L3]; exact dq) y54 ?_ ?_ ?_
    · rw [enX_1, r1, show sgN 1 (roA u n 1 0 (q0A u n 1 A)).1 = 6 from s0, if_neg (by decide +kernel)]
    · rw [enX_2, r2, show sgN 1 (roA u n 1 0 (q0A u n 1 A)).1 = 6 from s0, if_neg (by decide +kernel)]
    · rw [enX_3, r3, show sgN 1 (roA u n 1 0 (q0A u n 1 A)).1 = 6 from s0, if_neg (by decide +kernel)]
  · have s0 : sgN 1 k = 22 := by
      have key : ∀ k, k < 7 → (k = 1 ∨ k = 2) → sgN 1 k = 22 := by decide +kernel
      exact key k hk e
    have L3 : l3A u n 22 (q0A u n 1 A) = nsA u n 5 5000 (q0A u n 1 A) := by rw [l3_n (by decide +kernel), l2_n (by decide +kernel), l1_y (by decide +kernel), show hiN 22 0 = 5 by decide +kernel]
    obtain ⟨z, eT, cT, vT, jT, aT⟩ := M_take hp gq dq (kx := 1) (hi := 5) (by decide) (by decide)
    have eT' : m_X12_take 1 0 5 p7 = some (b2 (decide (pd (nsA u n 5 5000 (q0A u n 1 A)) = 0)), z) := eT
    rw [if_neg (fun q => (kin k hk).mp q e), eT', ob_s]
    by_cases dd : pd (nsA u n 5 5000 (q0A u n 1 A)) = 0
    · rw [decide_eq_true dd, if_neg i2t, bs_l, if_pos (by rw [k3]; omega), bs_l, if_neg (by rw [k6]; omega), bs_l]
      refine fin (by rw [s0, L3]; exact cT) (by rw [s0, L3]; exact dd) (fun j => by rw [(aT 54 j (by rfl)).1]; exact y54 j) ?_ ?_ ?_
      · rw [enX_1, (vT dd).1, show sgN 1 (roA u n 1 k (q0A u n 1 A)).1 = 22 from s0, if_pos (by decide +kernel)]; rfl
      · rw [enX_2, jT 2 (by decide), r2, show sgN 1 (roA u n 1 k (q0A u n 1 A)).1 = 22 from s0, if_neg (by decide +kernel)]
      · rw [enX_3, jT 3 (by decide), r3, show sgN 1 (roA u n 1 k (q0A u n 1 A)).1 = 22 from s0, if_neg (by decide +kernel)]
    · rw [decide_eq_false dd, if_pos i2f, bs_r]
      unfold MLn
      rw [s0, L3, decide_eq_false dd]
      exact ⟨z, rfl, cT, fun q => absurd q dd⟩
  · have s0 : sgN 1 k = 20 := by
      have key : ∀ k, k < 7 → (k = 3 ∨ k = 4 ∨ k = 5) → sgN 1 k = 20 := by decide +kernel
      exact key k hk e
    have L1 : l1A u n 20 (q0A u n 1 A) = nsA u n 5 5000 (q0A u n 1 A) := by rw [l1_y (by decide +kernel), show hiN 20 0 = 5 by decide +kernel]
    have L3 : l3A u n 20 (q0A u n 1 A) = nsA u n 5 (xv u (q0A u n 1 A)) (nsA u n 5 5000 (q0A u n 1 A)) := by rw [l3_n (by decide +kernel), l2_y (by decide +kernel), show hiN 20 1 = 5 by decide +kernel, L1, b0_y (by decide +kernel)]
    obtain ⟨z, eT, cT, vT, jT, aT⟩ := M_two hp gq dq (kx := 1) (hi := 5) (by decide) (by decide)
    have eT' : m_X12_takeTwo 1 5 p7 = some (b2 (decide (pd (nsA u n 5 (xv u (q0A u n 1 A)) (nsA u n 5 5000 (q0A u n 1 A))) = 0)), z) := eT
    rw [if_pos ((kin k hk).mpr (by omega)), bs_l, if_neg (by rw [k3]; omega), eT', ob_s]
    by_cases dd : pd (nsA u n 5 (xv u (q0A u n 1 A)) (nsA u n 5 5000 (q0A u n 1 A))) = 0
    · rw [decide_eq_true dd, if_neg i2t, bs_l, if_neg (by rw [k6]; omega), bs_l]
      obtain ⟨w0, w1, _⟩ := vT dd
      refine fin (by rw [s0, L3]; exact cT) (by rw [s0, L3]; exact dd) (fun j => by rw [(aT 54 j (by rfl)).1]; exact y54 j) ?_ ?_ ?_
      · rw [enX_1, w0, show sgN 1 (roA u n 1 k (q0A u n 1 A)).1 = 20 from s0, if_pos (by decide +kernel)]; rfl
      · rw [enX_2, w1, show sgN 1 (roA u n 1 k (q0A u n 1 A)).1 = 20 from s0, if_pos (by decide +kernel)]
        show _ = nI (xv u (l1A u n (sgN 1 k) (q0A u n 1 A)))
        rw [s0, L1]
      · rw [enX_3, jT 3 (by decide) (by decide), r3, show sgN 1 (roA u n 1 k (q0A u n 1 A)).1 = 20 from s0, if_neg (by decide +kernel)]
    · rw [decide_eq_false dd, if_pos i2f, bs_r]
      unfold MLn
      rw [s0, L3, decide_eq_false dd]
      exact ⟨z, rfl, cT, fun q => absurd q dd⟩
  · subst e
    have s0 : sgN 1 6 = 21 := by decide +kernel
    have L1 : l1A u n 21 (q0A u n 1 A) = nsA u n 5 5000 (q0A u n 1 A) := by rw [l1_y (by decide +kernel), show hiN 21 0 = 5 by decide +kernel]
    have L2 : l2A u n 21 (q0A u n 1 A) = nsA u n 5 (xv u (q0A u n 1 A)) (nsA u n 5 5000 (q0A u n 1 A)) := by rw [l2_y (by decide +kernel), show hiN 21 1 = 5 by decide +kernel, L1, b0_y (by decide +kernel)]
    have L3 : l3A u n 21 (q0A u n 1 A) = nsA u n 7 5000 (nsA u n 5 (xv u (q0A u n 1 A)) (nsA u n 5 5000 (q0A u n 1 A))) := by rw [l3_y (by decide +kernel), L2, show hiN 21 2 = 7 by decide +kernel]
    obtain ⟨z, eT, cT, vT, jT, aT⟩ := M_two hp gq dq (kx := 1) (hi := 5) (by decide) (by decide)
    have eT' : m_X12_takeTwo 1 5 p7 = some (b2 (decide (pd (nsA u n 5 (xv u (q0A u n 1 A)) (nsA u n 5 5000 (q0A u n 1 A))) = 0)), z) := eT
    obtain ⟨gp1, _⟩ := GP_ns gq 5 5000
    obtain ⟨gp2, _⟩ := GP_ns gp1 5 (xv u (q0A u n 1 A))
    rw [if_pos ((kin 6 (by decide)).mpr (by decide)), bs_l, if_neg (by rw [k3]; decide), eT', ob_s]
    by_cases d2 : pd (nsA u n 5 (xv u (q0A u n 1 A)) (nsA u n 5 5000 (q0A u n 1 A))) = 0
    · rw [decide_eq_true d2, if_neg i2t, bs_l, if_pos (by rw [k6])]
      obtain ⟨w0, w1, _⟩ := vT d2
      obtain ⟨z3, eU, cU, vU, jU, aU⟩ := M_take cT gp2 d2 (kx := 3) (hi := 7) (by decide) (by decide)
      have eU' : m_X12_take 3 0 7 z = some (b2 (decide (pd (nsA u n 7 5000 (nsA u n 5 (xv u (q0A u n 1 A)) (nsA u n 5 5000 (q0A u n 1 A)))) = 0)), z3) := eU
      rw [eU', ob_s]
      by_cases dd : pd (nsA u n 7 5000 (nsA u n 5 (xv u (q0A u n 1 A)) (nsA u n 5 5000 (q0A u n 1 A)))) = 0
      · rw [decide_eq_true dd, if_neg i2t, bs_l]
        refine fin (by rw [s0, L3]; exact cU) (by rw [s0, L3]; exact dd) (fun j => by rw [(aU 54 j (by rfl)).1, (aT 54 j (by rfl)).1]; exact y54 j) ?_ ?_ ?_
        · rw [enX_1, jU 1 (by decide), w0, show sgN 1 (roA u n 1 6 (q0A u n 1 A)).1 = 21 from s0, if_pos (by decide +kernel)]; rfl
        · rw [enX_2, jU 2 (by decide), w1, show sgN 1 (roA u n 1 6 (q0A u n 1 A)).1 = 21 from s0, if_pos (by decide +kernel)]
          show _ = nI (xv u (l1A u n (sgN 1 6) (q0A u n 1 A)))
          rw [s0, L1]
        · rw [enX_3, (vU dd).1, show sgN 1 (roA u n 1 6 (q0A u n 1 A)).1 = 21 from s0, if_pos (by decide +kernel)]
          show _ = nI (xv u (l2A u n (sgN 1 6) (q0A u n 1 A)))
          rw [s0, L2]
      · rw [decide_eq_false dd, if_pos i2f, bs_r]
        unfold MLn
        rw [s0, L3, decide_eq_false dd]
        exact ⟨z3, rfl, cU, fun q => absurd q dd⟩
    · have d1 : pd (nsA u n 5 (xv u (q0A u n 1 A)) (nsA u n 5 5000 (q0A u n 1 A))) = 1 := by have := gp2.1; omega
      rw [decide_eq_false d2, if_pos i2f, bs_r]
      unfold MLn
      rw [s0, L3, nsA_dd d1, decide_eq_false d2]
      exact ⟨z, rfl, cT, fun q => absurd q d2⟩
theorem M_term {u : Nat → Nat} {n : Nat} {A : As} {m : Mm} (h : MBn u n 1 A m) {w : Int64} (hw : w = if (pt A.1).1 = 1 ∧ (pt A.1).2.2 - (pt A.1).2.1 ≤ 8 then pk u (pt A.1).2.1 ((pt A.1).2.2 - (pt A.1).2.1) else 0) : LRn u n 1 A (m_X12_termLine w (nI (pt A.1).2.1) m) := by
  have h' := h
  obtain ⟨h1, h2, h3, h4, h5, h6, h7⟩ := h'
  have gb := GT_b h2.1.2.2.1
  have tb := tw_b (u := u) (t := pt A.1) (fun _ => gb.2.2.2.2 h4)
  have kb := kdA_b 1 (by decide) _ tb.1
  have D := M_deedBy h1.1.2.1 h2.1.2.2.1 (fun _ => gb.2.2.2.2 h4)
  rw [← hw] at D
  rw [termLine_eq, D]
  generalize hk : kdA 1 (tw u (pt A.1)) = k at kb
  by_cases k7 : k = 7
  · refine LR_7 (hk.trans k7) ?_
    rw [if_pos k7, if_pos rfl]
    exact M_fails h1
  · have k6 : k < 7 := by omega
    have km : ¬ nI k = -1 := by
      have key : ∀ k, k < 7 → ¬ nI k = -1 := by decide
      exact key k k6
    refine LR_k hk k7 ?_
    have fu : fuA 1 (kdA 1 (tw u (pt A.1))) A.2.1 A.2.2 = decide (40 ≤ A.2.1) := by unfold fuA; rw [if_neg (by decide)]; rfl
    obtain ⟨m1, m0, e1, e2, d0, gq, dq, a0⟩ := M_q0 h (x := 0) (y := 40) (ax := 0) (most := 40) (c := A.2.1) rfl rfl (by decide) (by decide) (h5.2 (by decide)) fu
    obtain ⟨p7, e3, r1, r2, r3, a3⟩ := M_clear m0
    rw [if_neg k7, if_neg km, e1, ob_s, e2, ob_s, e3, ob_s]
    exact M_trm h gq dq (MPs_a d0 a3 (fun i => by rfl) (by rfl)) r1 r2 r3 (fun j => by rw [(a3 54 j (by rfl)).1, (a0 54 j (by rfl)).1]) k6
