/-! L3: lines of terms, wants and logs, as the reference reads them -/
theorem M_keep {m : Mm} {wide most N : Nat} {x y : Int32} (hx : x = nI wide) (hy : y = nI most) (h4 : wide ≤ 4) (h161 : 1 + wide * most ≤ 161) (hm : most ≤ 100) (hN : N ≤ 600) (h : mI m 54 0 = nI (min most N)) : ∃ m', m_X12_keepRow x y m = some m' ∧ mI m' 54 0 = nI (min most (N + 1)) ∧ (N < most → ∀ q, q < wide → mI m' 54 (1 + wide * N + q) = mI m 55 q) ∧ (∀ j, j ≠ 0 → j < 1 + wide * N → mI m' 54 j = mI m 54 j) ∧ agx [(54, none)] m m' := by
  subst hx hy
  have lp : ∃ p2, whileF FU (m_X12_keepRow_b10 (nI wide) (nI most) m) (0, m) = some p2 ∧ (N < most → ∀ q, q < wide → mI p2 54 (1 + wide * N + q) = mI m 55 q) ∧ (∀ j, j < 1 + wide * N → mI p2 54 j = mI m 54 j) ∧ agx [(54, none)] m p2 := by
    by_cases c : N < most
    · have hb : wide * N + wide ≤ wide * most := by
        have := Nat.mul_le_mul_left wide (show N + 1 ≤ most from c)
        rwa [Nat.mul_add, Nat.mul_one] at this
      refine loop_inv (body := m_X12_keepRow_b10 (nI wide) (nI most) m) (fun i z => z.1 = nI i ∧ (∀ q, q < i → mI z.2 54 (1 + wide * N + q) = mI m 55 q) ∧ (∀ j, j < 1 + wide * N → mI z.2 54 j = mI m 54 j) ∧ (∀ q, mI z.2 55 q = mI m 55 q) ∧ agx [(54, none)] m z.2) (fun p2 => (N < most → ∀ q, q < wide → mI p2 54 (1 + wide * N + q) = mI m 55 q) ∧ (∀ j, j < 1 + wide * N → mI p2 54 j = mI m 54 j) ∧ agx [(54, none)] m p2) wide (FU_big (by omega)) ⟨rfl, fun q hq => absurd hq (Nat.not_lt_zero _), fun _ _ => rfl, fun _ => rfl, agx_rf _⟩ ?_ ?_
      · rintro i ⟨z1, z⟩ hi ⟨q1, q2, q3, q4, q5⟩
        simp only at q1 q2 q3 q4 q5
        subst q1
        left
        unfold m_X12_keepRow_b10
        simp only
        rw [if_neg (by rw [n_le (by omega) (by omega)]; omega), ix0, h, if_neg (by rw [n_le (by omega) (by omega)]; omega), n_grd (by omega) (by decide), show min most N = N by omega, n_mul, show (1 : Int32) = nI 1 from rfl, nI_add, nI_add, nI_add, n_grd (by omega) (by decide), n_ix (by omega), n_ix (by omega)]
        refine ⟨_, rfl, rfl, fun q hq => ?_, fun j hj => ?_, fun q => ?_, agx_wr q5 (by rfl)⟩
        · show mI (sI z 54 (1 + wide * N + i) (mI z 55 i)) 54 (1 + wide * N + q) = mI m 55 q
          by_cases eq : q = i
          · rw [eq, rdI_eq, q4]
          · rw [rdI_nj _ _ _ _ (by omega)]; exact q2 q (by omega)
        · show mI (sI z 54 (1 + wide * N + i) (mI z 55 i)) 54 j = mI m 54 j
          rw [rdI_nj _ _ _ _ (by omega)]; exact q3 j hj
        · show mI (sI z 54 (1 + wide * N + i) (mI z 55 i)) 55 q = mI m 55 q
          rw [rdI_ne _ _ _ _ (by decide)]; exact q4 q
      · rintro ⟨z1, z⟩ ⟨q1, q2, q3, q4, q5⟩
        simp only at q1 q2 q3 q4 q5
        subst q1
        unfold m_X12_keepRow_b10
        simp only
        rw [if_pos (by rw [n_le (by omega) (by omega)]; omega)]
        exact ⟨z, rfl, fun _ => q2, q3, q5⟩
    · refine ⟨m, loop_seq (fun _ => ((0 : Int32), m)) 0 rfl (FU_big (by decide)) (fun i hi => absurd hi (Nat.not_lt_zero _)) ?_, fun q => absurd q c, fun _ _ => rfl, agx_rf _⟩
      unfold m_X12_keepRow_b10
      simp only
      rw [ix0, h, if_pos (show nI most ≤ nI (min most N) by rw [n_le (by omega) (by omega)]; omega), ite_self]
  obtain ⟨p2, e2, z1, z2, z3⟩ := lp
  unfold m_X12_keepRow
  rw [e2, ob_s, ix0, h, show (1 : Int32) = nI 1 from rfl, nI_add, n_les (by omega) (by omega)]
  refine ⟨_, rfl, by rw [rdI_eq]; congr 1; omega, fun c q hq => ?_, fun j j0 hj => by rw [rdI_nj _ _ _ _ j0]; exact z2 j hj, agx_wr z3 (by rfl)⟩
  rw [rdI_nj _ _ _ _ (by omega)]
  exact z1 c q hq
theorem M_row {g : Nat} (g1 : 1 ≤ g) (hg : g < 4) {N : Nat} {D : Dr} {v : Nat × Nat × Nat × Nat} {m m2 : Mm} (hN : N ≤ 600) (tc : TCn g N D m) (y54 : ∀ j, mI m2 54 j = mI m 54 j) {x y : Int32} (hx : x = nI (rwn g)) (hy : y = nI (rwm g)) : ∃ m', m_X12_keepRow x y m2 = some m' ∧ agx [(54, none)] m2 m' ∧ TCn g (N + 1) (updR D N v) m' ∧ (N < rwm g → TDn g N D m → (∀ q, q < rwn g → mI m2 55 q = enX g v (rw0 g + q)) → TDn g (N + 1) (updR D N v) m') := by
  have hz : rwn g ≤ 4 ∧ 1 + rwn g * rwm g ≤ 161 ∧ rwm g ≤ 100 := by rcases (by omega : g = 1 ∨ g = 2 ∨ g = 3) with rfl | rfl | rfl <;> decide
  obtain ⟨m', e1, e2, e3, e4, e5⟩ := M_keep (m := m2) (N := N) hx hy hz.1 hz.2.1 hz.2.2 hN (by rw [y54]; exact tc.2 (by omega))
  refine ⟨m', e1, e5, ⟨fun q => by omega, fun _ => e2⟩, fun c td rd => ⟨fun q => by omega, fun _ j q hj hq => ?_⟩⟩
  by_cases ej : j = N
  · rw [ej, updR_eq, e3 c q hq]
    exact rd q hq
  · have hj' : j < N := by omega
    have : rwn g * j + rwn g ≤ rwn g * N := by
      have := Nat.mul_le_mul_left (rwn g) (show j + 1 ≤ N from hj')
      rwa [Nat.mul_add, Nat.mul_one] at this
    rw [updR_lt hj', e4 _ (by omega) (by omega), y54]
    exact td.2 (by omega) j q hj' hq
theorem ML_g {u : Nat → Nat} {n g : Nat} {A : As} {m : Mm} (h : MBn u n g A m) (g0 : g ≠ 0) (gq : GPs u n (q0A u n g A)) {s : Nat} (dd : pd (l3A u n s (q0A u n g A)) = 0) (f0 : pf (l3A u n s (q0A u n g A)) = 0) : TDn g A.2.1 A.2.2 m ∧ A.2.1 < rwm g := by
  obtain ⟨h1, h2, h3, h4, h5, h6, h7⟩ := h
  have gf := (GP_l3f gq dd).2.2.2 f0
  have gq4 := (GP_q0 (g := g) h2.1 h4).2.2.2 gf.1
  have := gq4.2
  unfold fuA at this
  rw [if_neg g0, decide_eq_false_iff_not] at this
  exact ⟨h6 gq4.1, by omega⟩
theorem M_want {u : Nat → Nat} {n : Nat} {A : As} {m : Mm} (h : MBn u n 2 A m) {w : Int64} (hw : w = if (pt A.1).1 = 1 ∧ (pt A.1).2.2 - (pt A.1).2.1 ≤ 8 then pk u (pt A.1).2.1 ((pt A.1).2.2 - (pt A.1).2.1) else 0) : LRn u n 2 A (m_X12_wantLine w (nI (pt A.1).2.1) m) := by
  have h' := h
  obtain ⟨h1, h2, h3, h4, h5, h6, h7⟩ := h'
  have gb := GT_b h2.1.2.2.1
  have n6 := h1.1.1
  have hN := h2.2.1
  have tb := tw_b (u := u) (t := pt A.1) (fun _ => gb.2.2.2.2 h4)
  have T : (lg_cmp w (cW 14) = 0) = (tw u (pt A.1) = 14) := by rw [hw]; exact M_word h1.1.2.1 h2.1.2.2.1 (by decide) (by decide) (by decide)
  unfold m_X12_wantLine
  rw [cw_14]
  by_cases x1 : tw u (pt A.1) = 14
  · have hk : kdA 2 (tw u (pt A.1)) = 0 := by rw [x1]; decide +kernel
    refine LR_k hk (by decide) ?_
    have s0 : sgN 2 0 = 23 := by decide +kernel
    have fu : fuA 2 (kdA 2 (tw u (pt A.1))) A.2.1 A.2.2 = decide (6 ≤ A.2.1) := by unfold fuA; rw [if_neg (by decide)]; rfl
    obtain ⟨m1, m0, e1, e2, d0, gq, dq, a0⟩ := M_q0 h (x := 0) (y := 6) (ax := 0) (most := 6) (c := A.2.1) rfl rfl (by decide) (by decide) (h5.2 (by decide)) fu
    obtain ⟨m2, eK, d2, v2, j2, a2⟩ := M_pair d0 gq dq (x0 := 0) (x1 := 1) (y0 := 5) (y1 := 7) (k0 := 0) (k1 := 1) (i0 := 5) (i1 := 7) rfl rfl rfl rfl (by decide) (by decide) (by decide) (by decide) (by decide)
    have L1 : l1A u n 23 (q0A u n 2 A) = nsA u n 5 5000 (q0A u n 2 A) := by rw [l1_y (by decide +kernel), show hiN 23 0 = 5 by decide +kernel]
    have L3 : l3A u n 23 (q0A u n 2 A) = nsA u n 7 5000 (nsA u n 5 5000 (q0A u n 2 A)) := by rw [l3_n (by decide +kernel), l2_y (by decide +kernel), show hiN 23 1 = 7 by decide +kernel, L1, b0_n (by decide +kernel)]
    unfold MLn
    rw [if_pos (show lg_cmp w (cW 14) = 0 by rw [T]; exact x1), e1, ob_s, e2, ob_s, eK, s0, L3]
    by_cases dd : pd (nsA u n 7 5000 (nsA u n 5 5000 (q0A u n 2 A))) = 0
    · obtain ⟨w0, w1, w2⟩ := v2 dd
      have y54 : ∀ j, mI m2 54 j = mI m 54 j := fun j => by rw [(a2 54 j (by rfl)).1, (a0 54 j (by rfl)).1]
      obtain ⟨m', r1, r2, r3, r4⟩ := M_row (g := 2) (v := roA u n 2 0 (q0A u n 2 A)) (by decide) (by decide) (by omega) h5 y54 (x := 2) (y := 6) rfl rfl
      rw [if_pos dd, decide_eq_true dd]
      simp only
      rw [r1, ob_s]
      refine ⟨m', rfl, MPs_a d2 r2 (fun i => by rfl) (by rfl), fun _ => ⟨r3, fun f0 => ?_⟩⟩
      obtain ⟨p1, p2⟩ := ML_g h (by decide) gq (s := 23) (by rw [L3]; exact dd) (by rw [L3]; exact f0)
      refine r4 p2 p1 (fun q hq => ?_)
      have hq : q < 2 := hq
      rcases (by omega : q = 0 ∨ q = 1) with rfl | rfl
      · show mI m2 55 0 = enX 2 (roA u n 2 0 (q0A u n 2 A)) 1
        rw [enX_1, w0, show sgN 2 (roA u n 2 0 (q0A u n 2 A)).1 = 23 from s0, if_pos (by decide +kernel)]; rfl
      · show mI m2 55 1 = enX 2 (roA u n 2 0 (q0A u n 2 A)) 2
        rw [enX_2, w1, show sgN 2 (roA u n 2 0 (q0A u n 2 A)).1 = 23 from s0, if_pos (by decide +kernel), ← L1]
        show _ = nI (xv u (l1A u n (sgN 2 0) (q0A u n 2 A)))
        rw [s0]
    · rw [if_neg dd, decide_eq_false dd]
      exact ⟨m2, rfl, d2, fun q => absurd q dd⟩
  · have hk : kdA 2 (tw u (pt A.1)) = 7 := by
      have key : ∀ a, a < 17 → (a = 14 ∨ a = 6) ∨ kdA 2 a = 7 := by decide +kernel
      rcases key _ tb.1 with q | q
      · have := tb.2.1; omega
      · exact q
    refine LR_7 hk ?_
    rw [if_neg (show ¬ lg_cmp w (cW 14) = 0 by rw [T]; exact x1)]
    exact M_fails h1
theorem M_log {u : Nat → Nat} {n : Nat} {A : As} {m : Mm} (h : MBn u n 3 A m) {w : Int64} (hw : w = if (pt A.1).1 = 1 ∧ (pt A.1).2.2 - (pt A.1).2.1 ≤ 8 then pk u (pt A.1).2.1 ((pt A.1).2.2 - (pt A.1).2.1) else 0) : LRn u n 3 A (m_X12_logLine w (nI (pt A.1).2.1) m) := by
  have h' := h
  obtain ⟨h1, h2, h3, h4, h5, h6, h7⟩ := h'
  have gb := GT_b h2.1.2.2.1
  have n6 := h1.1.1
  have hN := h2.2.1
  have tb := tw_b (u := u) (t := pt A.1) (fun _ => gb.2.2.2.2 h4)
  have T : (lg_cmp w (cW 15) = 0) = (tw u (pt A.1) = 15) := by rw [hw]; exact M_word h1.1.2.1 h2.1.2.2.1 (by decide) (by decide) (by decide)
  have T' : (lg_cmp w (cW 16) = 0) = (tw u (pt A.1) = 16) := by rw [hw]; exact M_word h1.1.2.1 h2.1.2.2.1 (by decide) (by decide) (by decide)
  unfold m_X12_logLine
  rw [cw_15, cw_16]
  by_cases x1 : tw u (pt A.1) = 15 ∨ tw u (pt A.1) = 16
  · have hk : ∃ k, kdA 3 (tw u (pt A.1)) = k ∧ k < 2 ∧ (if lg_cmp w (cW 15) = 0 then (1 : Int32) else 0) = nI k := by
      rcases x1 with x | x
      · exact ⟨1, by rw [x]; decide +kernel, by decide, by rw [if_pos (show lg_cmp w (cW 15) = 0 by rw [T]; exact x)]; rfl⟩
      · exact ⟨0, by rw [x]; decide +kernel, by decide, by rw [if_neg (show ¬ lg_cmp w (cW 15) = 0 by rw [T, x]; decide)]; rfl⟩
    obtain ⟨k, hk, k2, kv⟩ := hk
    refine LR_k hk (by omega) ?_
    have s0 : sgN 3 k = 23 := by
      have key : ∀ k, k < 2 → sgN 3 k = 23 := by decide +kernel
      exact key k k2
    have fu : fuA 3 (kdA 3 (tw u (pt A.1))) A.2.1 A.2.2 = decide (8 ≤ A.2.1) := by unfold fuA; rw [if_neg (by decide)]; rfl
    obtain ⟨m1, m0, e1, e2, d0, gq, dq, a0⟩ := M_q0 h (x := 0) (y := 8) (ax := 0) (most := 8) (c := A.2.1) rfl rfl (by decide) (by decide) (h5.2 (by decide)) fu
    obtain ⟨m2, eK, d2, v2, j2, a2⟩ := M_pair d0 gq dq (x0 := 1) (x1 := 2) (y0 := 5) (y1 := 7) (k0 := 1) (k1 := 2) (i0 := 5) (i1 := 7) rfl rfl rfl rfl (by decide) (by decide) (by decide) (by decide) (by decide)
    have L1 : l1A u n 23 (q0A u n 3 A) = nsA u n 5 5000 (q0A u n 3 A) := by rw [l1_y (by decide +kernel), show hiN 23 0 = 5 by decide +kernel]
    have L3 : l3A u n 23 (q0A u n 3 A) = nsA u n 7 5000 (nsA u n 5 5000 (q0A u n 3 A)) := by rw [l3_n (by decide +kernel), l2_y (by decide +kernel), show hiN 23 1 = 7 by decide +kernel, L1, b0_n (by decide +kernel)]
    have hd : (if (lg_cmp w (cW 15)) = 0 then (some (.inl ())) else (if (lg_cmp w (cW 16)) = 0 then (some (.inl ())) else (gbz ((m_X12_fails m).1) (some (.inr ((m_X12_fails m).1, ((m_X12_fails m).2)))))) : Option ((Unit) ⊕ (Int32 × Mm))) = some (.inl ()) := by
      rcases x1 with x | x
      · rw [if_pos (show lg_cmp w (cW 15) = 0 by rw [T]; exact x)]
      · rw [if_pos (show lg_cmp w (cW 16) = 0 by rw [T']; exact x), ite_self]
    unfold MLn
    rw [hd, bs_l, kv, e1, ob_s, e2, ob_s, eK, s0, L3]
    by_cases dd : pd (nsA u n 7 5000 (nsA u n 5 5000 (q0A u n 3 A))) = 0
    · obtain ⟨w0, w1, w2⟩ := v2 dd
      have y54 : ∀ j, mI (sI m2 55 0 (nI k)) 54 j = mI m 54 j := fun j => by rw [rdI_ne _ _ _ _ (by decide), (a2 54 j (by rfl)).1, (a0 54 j (by rfl)).1]
      obtain ⟨m', r1, r2, r3, r4⟩ := M_row (g := 3) (v := roA u n 3 k (q0A u n 3 A)) (by decide) (by decide) (by omega) h5 y54 (x := 3) (y := 8) rfl rfl
      rw [if_pos dd, decide_eq_true dd]
      simp only
      rw [ix0, r1, ob_s]
      refine ⟨m', rfl, MPs_a (MPs_a d2 (agx_wr (W := [(55, none)]) (agx_rf _) (by rfl)) (fun i => by rfl) (by rfl)) r2 (fun i => by rfl) (by rfl), fun _ => ⟨r3, fun f0 => ?_⟩⟩
      obtain ⟨p1, p2⟩ := ML_g h (by decide) gq (s := 23) (by rw [L3]; exact dd) (by rw [L3]; exact f0)
      refine r4 p2 p1 (fun q hq => ?_)
      have hq : q < 3 := hq
      rcases (by omega : q = 0 ∨ q = 1 ∨ q = 2) with rfl | rfl | rfl
      · show mI _ 55 0 = enX 3 (roA u n 3 k (q0A u n 3 A)) 0
        rw [enX_0, rdI_eq]; rfl
      · show mI _ 55 1 = enX 3 (roA u n 3 k (q0A u n 3 A)) 1
        rw [enX_1, rdI_nj _ _ _ _ (by decide), w0, show sgN 3 (roA u n 3 k (q0A u n 3 A)).1 = 23 from s0, if_pos (by decide +kernel)]; rfl
      · show mI _ 55 2 = enX 3 (roA u n 3 k (q0A u n 3 A)) 2
        rw [enX_2, rdI_nj _ _ _ _ (by decide), w1, show sgN 3 (roA u n 3 k (q0A u n 3 A)).1 = 23 from s0, if_pos (by decide +kernel), ← L1]
        show _ = nI (xv u (l1A u n (sgN 3 k) (q0A u n 3 A)))
        rw [s0]
    · rw [if_neg dd, decide_eq_false dd]
      exact ⟨m2, rfl, d2, fun q => absurd q dd⟩
  · have hk : kdA 3 (tw u (pt A.1)) = 7 := by
      have key : ∀ a, a < 17 → (a = 15 ∨ a = 16 ∨ a = 6) ∨ kdA 3 a = 7 := by decide +kernel
      rcases key _ tb.1 with q | q
      · have := tb.2.1; omega
      · exact q
    refine LR_7 hk ?_
    rw [if_neg (show ¬ lg_cmp w (cW 15) = 0 by rw [T]; exact fun q => x1 (Or.inl q)), if_neg (show ¬ lg_cmp w (cW 16) = 0 by rw [T']; exact fun q => x1 (Or.inr q))]
    refine ⟨_, ?_, M_dd h1⟩
    unfold m_X12_fails
    rw [gbz_pos (Or.inl rfl), bs_r]
    rfl
