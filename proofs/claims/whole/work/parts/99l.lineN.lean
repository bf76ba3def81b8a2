/-! L3: further lines of a county, as the reference reads them -/
theorem gr_far : ∀ f, f < 11 → ∀ x, x < 10 → ∀ y, y < 10 → m_X12_greater (nI f - 1) (m_X12_greater (nI x) (nI y)) = nI (max f (max (x + 1) (y + 1))) - 1 := by decide +kernel
theorem faA_b {D : Dr} : ∀ {N : Nat}, (∀ j, j < N → ((D j).1 = 3 ∨ (D j).1 = 4) → (D j).2.1 ≤ 9 ∧ (D j).2.2.1 ≤ 9) → faA D N < 11
  | 0, _ => by unfold faA; decide
  | N + 1, h => by
    have ih := faA_b (D := D) (N := N) (fun j hj => h j (by omega))
    rw [faA]
    split
    · rename_i q
      have := h N (by omega) q
      omega
    · exact ih
theorem okA_9 {N : Nat} {D : Dr} (h : okA 0 N D) : ∀ j, j < N → ((D j).1 = 3 ∨ (D j).1 = 4) → (D j).2.1 ≤ 9 ∧ (D j).2.2.1 ≤ 9 := fun j hj k34 => by
  obtain ⟨d1, d2, d3, _⟩ := h.2.2 j hj
  have l1 := okD_k34 _ d1 k34
  have x0 := d3 0 (by omega)
  have x1 := d3 1 l1
  have s3 := (sgN_eq 0 (by decide) _ d1).2.2.1
  have y0 := (hiN_eq (sgN 0 (D j).1) s3 0 (by decide)).2
  have y1 := (hiN_eq (sgN 0 (D j).1) s3 1 (by decide)).2
  exact ⟨Nat.le_trans x0 y0, Nat.le_trans x1 y1⟩
/-- what is at hand behind a line without a fault -/
theorem ML_f {u : Nat → Nat} {n : Nat} {A : As} {m : Mm} (h : MBn u n 0 A m) (gq : GPs u n (q0A u n 0 A)) {g : Nat} (dd : pd (l3A u n g (q0A u n 0 A)) = 0) (f0 : pf (l3A u n g (q0A u n 0 A)) = 0) : M54 (WDr A.2.2 A.2.1) m ∧ mI m 44 21 = nI (faA A.2.2 A.2.1) - 1 ∧ faA A.2.2 A.2.1 < 11 ∧ okA 0 A.2.1 A.2.2 ∧ fk (WDr A.2.2 A.2.1) = cnK A.2.2 0 A.2.1 ∧ oa (WDr A.2.2 A.2.1) = cnK A.2.2 4 A.2.1 ∧ fuA 0 (kdA 0 (tw u (pt A.1))) A.2.1 A.2.2 = false := by
  obtain ⟨h1, h2, h3, h4, h5, h6, h7⟩ := h
  have gf := (GP_l3f gq dd).2.2.2 f0
  have gq4 := (GP_q0 (g := 0) h2.1 h4).2.2.2 gf.1
  obtain ⟨t1, t2⟩ := h6 gq4.1
  obtain ⟨t1, t3⟩ := t1 rfl
  have ok := h2.2.2.2 h3 gq4.1
  have cn := WDr_n (okA_5 ok)
  exact ⟨t1, t3, faA_b (okA_9 ok), ok, cn.1, cn.2, gq4.2⟩
theorem M_hard {u : Nat → Nat} {n : Nat} {A : As} {m : Mm} (h : MBn u n 0 A m) (hk : kdA 0 (tw u (pt A.1)) = 1) : ∃ m', (m_X12_token m).bind (fun q10 => (m_X12_take 0 0 7 q10).bind (fun q37 => if q37.1 = 0 then (some (0, q37.2)) else ((m_X12_take 1 0 9 q37.2).bind (fun q40 => if q40.1 = 0 then (some (0, q40.2)) else (if (mI q40.2 44 22) = 0 then (some (1, q40.2)) else (grd (20 + (mI q40.2 55 (ix 0))) 161 (some (1, (sI q40.2 54 (ix (20 + (mI q40.2 55 (ix 0)))) (mI q40.2 55 (ix 1))))))))))) = some (b2 (decide (pd (l3A u n (sgN 0 1) (q0A u n 0 A)) = 0)), m') ∧ MLn u n 0 A 1 m' := by
  have h' := h
  obtain ⟨h1, h2, h3, h4, h5, h6, h7⟩ := h'
  have s0 : sgN 0 1 = 18 := by decide +kernel
  have fu : fuA 0 (kdA 0 (tw u (pt A.1))) A.2.1 A.2.2 = false := by unfold fuA; rw [if_pos rfl, hk, if_neg (by decide), if_neg (by decide)]
  obtain ⟨m0, e2, d0, gq, dq, a0⟩ := M_q1 h fu
  obtain ⟨m2, eK, d2, v2, j2, a2⟩ := M_pair d0 gq dq (x0 := 0) (x1 := 1) (y0 := 7) (y1 := 9) (k0 := 0) (k1 := 1) (i0 := 7) (i1 := 9) rfl rfl rfl rfl (by decide) (by decide) (by decide) (by decide) (by decide)
  have L1 : l1A u n 18 (q0A u n 0 A) = nsA u n 7 5000 (q0A u n 0 A) := by rw [l1_y (by decide +kernel), show hiN 18 0 = 7 by decide +kernel]
  have L2 : l2A u n 18 (q0A u n 0 A) = nsA u n 9 5000 (nsA u n 7 5000 (q0A u n 0 A)) := by rw [l2_y (by decide +kernel), show hiN 18 1 = 9 by decide +kernel, L1, b0_n (by decide +kernel)]
  have L3 : l3A u n 18 (q0A u n 0 A) = nsA u n 9 5000 (nsA u n 7 5000 (q0A u n 0 A)) := by rw [l3_n (by decide +kernel), L2]
  unfold MLn
  rw [e2, ob_s, eK, s0, L3]
  by_cases dd : pd (nsA u n 9 5000 (nsA u n 7 5000 (q0A u n 0 A))) = 0
  · obtain ⟨w0, w1, w2⟩ := v2 dd
    have y54 : ∀ j, mI m2 54 j = mI m 54 j := fun j => by rw [(a2 54 j (by rfl)).1, (a0 54 j (by rfl)).1]
    have y22 : mI m0 44 22 = 1 := by
      have : mI m0 44 22 = mI m 44 22 := by
        obtain ⟨z, ez, _, _, _, az⟩ := M_q1 h fu
        rw [e2] at ez
        cases ez
        exact (fr_X12_token e2 44 22 (by rfl)).1
      rw [this, h7]
    rw [if_pos dd, decide_eq_true dd]
    simp only
    by_cases gd : xv u (q0A u n 0 A) ≤ 7 ∧ xv u (nsA u n 7 5000 (q0A u n 0 A)) ≤ 9
    · rw [if_pos gd, y22] at w2
      rw [if_neg (by rw [w2]; decide), ix0, show ix (1 : Int32) = 1 from rfl, w0, w1, show (20 : Int32) = nI 20 from rfl, nI_add, n_grd (by omega) (by decide), n_ix (by omega)]
      refine ⟨_, rfl, MPs_a d2 (agx_wr (W := [(54, none)]) (agx_rf _) (by rfl)) (fun i => by rfl) (by rfl), fun _ => ⟨TCn_k h5 (show ¬ (1 : Nat) = 0 by decide) (show ¬ (1 : Nat) = 4 by decide) (fun j hj => by rw [rdI_nj _ _ _ _ (by omega), y54]), fun f0 => ⟨fun _ => ⟨?_, ?_⟩, fun q => absurd rfl q⟩⟩⟩
      · obtain ⟨t1, t2, t3, t4, t5, t6, t7⟩ := ML_f h gq (g := 18) (by rw [L3]; exact dd) (by rw [L3]; exact f0)
        rw [WDr_upd, tkW_1 (show (roA u n 0 1 (q0A u n 0 A)).1 = 1 from rfl)]
        show M54 (tk1 (WDr A.2.2 A.2.1) (xv u (q0A u n 0 A)) (xv u (l1A u n (sgN 0 1) (q0A u n 0 A)))) _
        rw [s0, L1]
        exact M54_1 (M54_a t1 y54) (by omega) _
      · obtain ⟨t1, t2, t3, t4, t5, t6, t7⟩ := ML_f h gq (g := 18) (by rw [L3]; exact dd) (by rw [L3]; exact f0)
        rw [rdI_ne _ _ _ _ (by decide), (a2 44 21 (by rfl)).1, (a0 44 21 (by rfl)).1, t2, faA_upd, if_neg (show ¬ ((roA u n 0 1 (q0A u n 0 A)).1 = 3 ∨ (roA u n 0 1 (q0A u n 0 A)).1 = 4) from (by decide : ¬ ((1 : Nat) = 3 ∨ (1 : Nat) = 4)))]
    · rw [if_neg gd] at w2
      rw [if_pos w2]
      refine ⟨m2, rfl, d2, fun _ => ⟨TCn_k h5 (show ¬ (1 : Nat) = 0 by decide) (show ¬ (1 : Nat) = 4 by decide) (fun j hj => y54 j), fun f0 => ?_⟩⟩
      exfalso
      have gf := (GP_l3f (g := 18) gq (by rw [L3]; exact dd)).2.2.2 (by rw [L3]; exact f0)
      have r0 := gf.2.1 (by decide +kernel)
      have r1 := (gf.2.2.1 (by decide +kernel)).1
      rw [show hiN 18 0 = 7 by decide +kernel] at r0
      rw [show hiN 18 1 = 9 by decide +kernel, L1] at r1
      exact gd ⟨r0, r1⟩
  · rw [if_neg dd, decide_eq_false dd]
    exact ⟨m2, rfl, d2, fun q => absurd q dd⟩
theorem tok_22 {m m0 : Mm} (e : m_X12_token m = some m0) : mI m0 44 22 = mI m 44 22 := (fr_X12_token e 44 22 (by rfl)).1
theorem M_clash {u : Nat → Nat} {n : Nat} {A : As} {m : Mm} (h : MBn u n 0 A m) (hk : kdA 0 (tw u (pt A.1)) = 2) : ∃ m0 m2 v, m_X12_token m = some m0 ∧ m_X12_takeTwo 0 7 m0 = some (v, m2) ∧ (v = 0 → v = b2 (decide (pd (l3A u n (sgN 0 2) (q0A u n 0 A)) = 0)) ∧ MLn u n 0 A 2 m2) ∧ (v ≠ 0 → pd (l3A u n (sgN 0 2) (q0A u n 0 A)) = 0 ∧ (mI m2 44 22 = 0 → MLn u n 0 A 2 m2) ∧ (mI m2 44 22 ≠ 0 → ∃ x y : Nat, x < 8 ∧ y < 8 ∧ mI m2 55 0 = nI x ∧ mI m2 55 1 = nI y ∧ MLn u n 0 A 2 (sI (sI m2 54 (28 + x) (mI m2 54 (28 + x) ||| nI (2 ^ y))) 54 (28 + y) (mI (sI m2 54 (28 + x) (mI m2 54 (28 + x) ||| nI (2 ^ y))) 54 (28 + y) ||| nI (2 ^ x))))) := by
  have h' := h
  obtain ⟨h1, h2, h3, h4, h5, h6, h7⟩ := h'
  have s0 : sgN 0 2 = 19 := by decide +kernel
  have fu : fuA 0 (kdA 0 (tw u (pt A.1))) A.2.1 A.2.2 = false := by unfold fuA; rw [if_pos rfl, hk, if_neg (by decide), if_neg (by decide)]
  obtain ⟨m0, e2, d0, gq, dq, a0⟩ := M_q1 h fu
  obtain ⟨m2, eK, d2, v2, j2, a2⟩ := M_two d0 gq dq (kx := 0) (hi := 7) (by decide) (by decide)
  have L1 : l1A u n 19 (q0A u n 0 A) = nsA u n 7 5000 (q0A u n 0 A) := by rw [l1_y (by decide +kernel), show hiN 19 0 = 7 by decide +kernel]
  have L2 : l2A u n 19 (q0A u n 0 A) = nsA u n 7 (xv u (q0A u n 0 A)) (nsA u n 7 5000 (q0A u n 0 A)) := by rw [l2_y (by decide +kernel), show hiN 19 1 = 7 by decide +kernel, L1, b0_y (by decide +kernel)]
  have L3 : l3A u n 19 (q0A u n 0 A) = nsA u n 7 (xv u (q0A u n 0 A)) (nsA u n 7 5000 (q0A u n 0 A)) := by rw [l3_n (by decide +kernel), L2]
  refine ⟨m0, m2, _, e2, eK, fun q => ?_, fun q => ?_⟩
  · unfold MLn
    rw [s0, L3]
    refine ⟨rfl, d2, fun z => ?_⟩
    rw [decide_eq_true z] at q
    exact absurd q i2t
  · have dd : pd (nsA u n 7 (xv u (q0A u n 0 A)) (nsA u n 7 5000 (q0A u n 0 A))) = 0 := by
      by_cases z : pd (nsA u n 7 (xv u (q0A u n 0 A)) (nsA u n 7 5000 (q0A u n 0 A))) = 0
      · exact z
      · rw [decide_eq_false z] at q
        exact absurd i2f q
    obtain ⟨w0, w1, w2⟩ := v2 dd
    have y54 : ∀ j, mI m2 54 j = mI m 54 j := fun j => by rw [(a2 54 j (by rfl)).1, (a0 54 j (by rfl)).1]
    rw [tok_22 e2, h7] at w2
    unfold MLn
    rw [s0, L3]
    refine ⟨dd, fun gd => ⟨d2, fun _ => ⟨TCn_k h5 (show ¬ (2 : Nat) = 0 by decide) (show ¬ (2 : Nat) = 4 by decide) (fun j hj => y54 j), fun f0 => ?_⟩⟩, fun gd => ?_⟩
    · exfalso
      have gf := (GP_l3f (g := 19) gq (by rw [L3]; exact dd)).2.2.2 (by rw [L3]; exact f0)
      have r0 := gf.2.1 (by decide +kernel)
      have r1 := gf.2.2.1 (by decide +kernel)
      rw [show hiN 19 0 = 7 by decide +kernel] at r0
      rw [show hiN 19 1 = 7 by decide +kernel, L1, b0_y (by decide +kernel)] at r1
      rw [if_pos ⟨r0, r1⟩] at w2
      rw [w2] at gd
      exact absurd gd (by decide)
    · have gc : xv u (q0A u n 0 A) ≤ 7 ∧ xv u (nsA u n 7 5000 (q0A u n 0 A)) ≤ 7 ∧ xv u (nsA u n 7 5000 (q0A u n 0 A)) ≠ xv u (q0A u n 0 A) := by
        by_cases z : xv u (q0A u n 0 A) ≤ 7 ∧ xv u (nsA u n 7 5000 (q0A u n 0 A)) ≤ 7 ∧ xv u (nsA u n 7 5000 (q0A u n 0 A)) ≠ xv u (q0A u n 0 A)
        · exact z
        · rw [if_neg z] at w2
          exact absurd w2 gd
      refine ⟨xv u (q0A u n 0 A), xv u (nsA u n 7 5000 (q0A u n 0 A)), by omega, by omega, w0, w1, MPs_a (MPs_a d2 (agx_wr (W := [(54, none)]) (agx_rf _) (by rfl)) (fun i => by rfl) (by rfl)) (agx_wr (W := [(54, none)]) (agx_rf _) (by rfl)) (fun i => by rfl) (by rfl), fun _ => ⟨TCn_k h5 (show ¬ (2 : Nat) = 0 by decide) (show ¬ (2 : Nat) = 4 by decide) (fun j hj => by rw [rdI_nj _ _ _ _ (by omega), rdI_nj _ _ _ _ (by omega), y54]), fun f0 => ⟨fun _ => ⟨?_, ?_⟩, fun q => absurd rfl q⟩⟩⟩
      · obtain ⟨t1, t2, t3, t4, t5, t6, t7⟩ := ML_f h gq (g := 19) (by rw [L3]; exact dd) (by rw [L3]; exact f0)
        rw [WDr_upd, tkW_2 (show (roA u n 0 2 (q0A u n 0 A)).1 = 2 from rfl)]
        show M54 (tk2 (WDr A.2.2 A.2.1) (xv u (q0A u n 0 A)) (xv u (l1A u n (sgN 0 2) (q0A u n 0 A)))) _
        have t1 := M54_a t1 y54
        rw [s0, L1, rdI_nj _ _ _ _ (by omega), t1.2.2.2.2.1 _ (by omega), t1.2.2.2.2.1 _ (by omega), fa_or, fa_or]
        exact M54_2 t1 (by omega) (by omega)
      · obtain ⟨t1, t2, t3, t4, t5, t6, t7⟩ := ML_f h gq (g := 19) (by rw [L3]; exact dd) (by rw [L3]; exact f0)
        rw [rdI_ne _ _ _ _ (by decide), rdI_ne _ _ _ _ (by decide), (a2 44 21 (by rfl)).1, (a0 44 21 (by rfl)).1, t2, faA_upd, if_neg (show ¬ ((roA u n 0 2 (q0A u n 0 A)).1 = 3 ∨ (roA u n 0 2 (q0A u n 0 A)).1 = 4) from (by decide : ¬ ((2 : Nat) = 3 ∨ (2 : Nat) = 4)))]
theorem M_likes {u : Nat → Nat} {n : Nat} {A : As} {m : Mm} (h : MBn u n 0 A m) (hk : kdA 0 (tw u (pt A.1)) = 3) : ∃ m0 m2 v, m_X12_token m = some m0 ∧ m_X12_takeTwo 0 5 m0 = some (v, m2) ∧ (v = 0 → v = b2 (decide (pd (l3A u n (sgN 0 3) (q0A u n 0 A)) = 0)) ∧ MLn u n 0 A 3 m2) ∧ (v ≠ 0 → pd (l3A u n (sgN 0 3) (q0A u n 0 A)) = 0 ∧ (mI m2 44 22 = 0 → MLn u n 0 A 3 (sI m2 44 21 (m_X12_greater (mI m2 44 21) (m_X12_greater (mI m2 55 0) (mI m2 55 1))))) ∧ (mI m2 44 22 ≠ 0 → ∃ x y : Nat, x < 6 ∧ y < 6 ∧ mI m2 55 0 = nI x ∧ mI m2 55 1 = nI y ∧ MLn u n 0 A 3 (sI (sI m2 44 21 (m_X12_greater (mI m2 44 21) (m_X12_greater (mI m2 55 0) (mI m2 55 1)))) 54 (14 + x) (mI m2 54 (14 + x) ||| nI (2 ^ y))))) := by
  have h' := h
  obtain ⟨h1, h2, h3, h4, h5, h6, h7⟩ := h'
  have s0 : sgN 0 3 = 20 := by decide +kernel
  have fu : fuA 0 (kdA 0 (tw u (pt A.1))) A.2.1 A.2.2 = false := by unfold fuA; rw [if_pos rfl, hk, if_neg (by decide), if_neg (by decide)]
  obtain ⟨m0, e2, d0, gq, dq, a0⟩ := M_q1 h fu
  obtain ⟨m2, eK, d2, v2, j2, a2⟩ := M_two d0 gq dq (kx := 0) (hi := 5) (by decide) (by decide)
  have L1 : l1A u n 20 (q0A u n 0 A) = nsA u n 5 5000 (q0A u n 0 A) := by rw [l1_y (by decide +kernel), show hiN 20 0 = 5 by decide +kernel]
  have L2 : l2A u n 20 (q0A u n 0 A) = nsA u n 5 (xv u (q0A u n 0 A)) (nsA u n 5 5000 (q0A u n 0 A)) := by rw [l2_y (by decide +kernel), show hiN 20 1 = 5 by decide +kernel, L1, b0_y (by decide +kernel)]
  have L3 : l3A u n 20 (q0A u n 0 A) = nsA u n 5 (xv u (q0A u n 0 A)) (nsA u n 5 5000 (q0A u n 0 A)) := by rw [l3_n (by decide +kernel), L2]
  refine ⟨m0, m2, _, e2, eK, fun q => ?_, fun q => ?_⟩
  · unfold MLn
    rw [s0, L3]
    refine ⟨rfl, d2, fun z => ?_⟩
    rw [decide_eq_true z] at q
    exact absurd q i2t
  · have dd : pd (nsA u n 5 (xv u (q0A u n 0 A)) (nsA u n 5 5000 (q0A u n 0 A))) = 0 := by
      by_cases z : pd (nsA u n 5 (xv u (q0A u n 0 A)) (nsA u n 5 5000 (q0A u n 0 A))) = 0
      · exact z
      · rw [decide_eq_false z] at q
        exact absurd i2f q
    obtain ⟨w0, w1, w2⟩ := v2 dd
    have y54 : ∀ j, mI m2 54 j = mI m 54 j := fun j => by rw [(a2 54 j (by rfl)).1, (a0 54 j (by rfl)).1]
    rw [tok_22 e2, h7] at w2
    unfold MLn
    rw [s0, L3]
    refine ⟨dd, fun gd => ⟨MPs_a d2 (agx_wr (W := [(44, some 21)]) (agx_rf _) (by rfl)) (fun i => by rfl) (by rfl), fun _ => ⟨TCn_k h5 (show ¬ (3 : Nat) = 0 by decide) (show ¬ (3 : Nat) = 4 by decide) (fun j hj => by rw [rdI_ne _ _ _ _ (by decide)]; exact y54 j), fun f0 => ?_⟩⟩, fun gd => ?_⟩
    · exfalso
      have gf := (GP_l3f (g := 20) gq (by rw [L3]; exact dd)).2.2.2 (by rw [L3]; exact f0)
      have r0 := gf.2.1 (by decide +kernel)
      have r1 := gf.2.2.1 (by decide +kernel)
      rw [show hiN 20 0 = 5 by decide +kernel] at r0
      rw [show hiN 20 1 = 5 by decide +kernel, L1, b0_y (by decide +kernel)] at r1
      rw [if_pos ⟨r0, r1⟩] at w2
      rw [w2] at gd
      exact absurd gd (by decide)
    · have gc : xv u (q0A u n 0 A) ≤ 5 ∧ xv u (nsA u n 5 5000 (q0A u n 0 A)) ≤ 5 ∧ xv u (nsA u n 5 5000 (q0A u n 0 A)) ≠ xv u (q0A u n 0 A) := by
        by_cases z : xv u (q0A u n 0 A) ≤ 5 ∧ xv u (nsA u n 5 5000 (q0A u n 0 A)) ≤ 5 ∧ xv u (nsA u n 5 5000 (q0A u n 0 A)) ≠ xv u (q0A u n 0 A)
        · exact z
        · rw [if_neg z] at w2
          exact absurd w2 gd
      refine ⟨xv u (q0A u n 0 A), xv u (nsA u n 5 5000 (q0A u n 0 A)), by omega, by omega, w0, w1, MPs_a (MPs_a d2 (agx_wr (W := [(44, some 21)]) (agx_rf _) (by rfl)) (fun i => by rfl) (by rfl)) (agx_wr (W := [(54, none)]) (agx_rf _) (by rfl)) (fun i => by rfl) (by rfl), fun _ => ⟨TCn_k h5 (show ¬ (3 : Nat) = 0 by decide) (show ¬ (3 : Nat) = 4 by decide) (fun j hj => by rw [rdI_nj _ _ _ _ (by omega), rdI_ne _ _ _ _ (by decide), y54]), fun f0 => ⟨fun _ => ⟨?_, ?_⟩, fun q => absurd rfl q⟩⟩⟩
      · obtain ⟨t1, t2, t3, t4, t5, t6, t7⟩ := ML_f h gq (g := 20) (by rw [L3]; exact dd) (by rw [L3]; exact f0)
        rw [WDr_upd, tkW_3 (show (roA u n 0 3 (q0A u n 0 A)).1 = 3 from rfl)]
        show M54 (tk3 (WDr A.2.2 A.2.1) (xv u (q0A u n 0 A)) (xv u (l1A u n (sgN 0 3) (q0A u n 0 A)))) _
        have t1 := M54_a t1 y54
        rw [s0, L1, t1.2.2.1 _ (by omega), fa_or]
        exact M54_3 (M54_a t1 (fun j => rdI_ne _ _ _ _ (by decide))) (by omega)
      · obtain ⟨t1, t2, t3, t4, t5, t6, t7⟩ := ML_f h gq (g := 20) (by rw [L3]; exact dd) (by rw [L3]; exact f0)
        rw [rdI_ne _ _ _ _ (by decide), rdI_eq, (a2 44 21 (by rfl)).1, (a0 44 21 (by rfl)).1, t2, w0, w1, gr_far _ t3 _ (by omega) _ (by omega), faA_upd, if_pos (show ((roA u n 0 3 (q0A u n 0 A)).1 = 3 ∨ (roA u n 0 3 (q0A u n 0 A)).1 = 4) from Or.inl rfl)]
        show _ = nI (max _ (max (xv u (q0A u n 0 A) + 1) (xv u (l1A u n (sgN 0 3) (q0A u n 0 A)) + 1))) - 1
        rw [s0, L1]
