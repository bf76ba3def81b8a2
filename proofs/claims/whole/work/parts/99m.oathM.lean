/-! L3: oaths, and a county's line, as the reference reads them -/
theorem M_oath {u : Nat → Nat} {n : Nat} {A : As} {m : Mm} (h : MBn u n 0 A m) (hk : kdA 0 (tw u (pt A.1)) = 4) : ∃ m', m_X12_oathLine (nI (pt A.1).2.1) m = some (b2 (decide (pd (l3A u n (sgN 0 4) (q0A u n 0 A)) = 0)), m') ∧ MLn u n 0 A 4 m' := by
  have h' := h
  obtain ⟨h1, h2, h3, h4, h5, h6, h7⟩ := h'
  obtain ⟨t0, t4⟩ := h5.1 rfl
  have gb := GT_b h2.1.2.2.1
  have n6 := h1.1.1
  have hN := h2.2.1
  have cb := cnK_b A.2.2 4 A.2.1
  have s0 : sgN 0 4 = 21 := by decide +kernel
  have fu : fuA 0 (kdA 0 (tw u (pt A.1))) A.2.1 A.2.2 = decide (12 ≤ cnK A.2.2 4 A.2.1) := by unfold fuA; rw [if_pos rfl, hk, if_neg (by decide), if_pos rfl]
  obtain ⟨m1, m0, e1, e2, d0, gq, dq, a0⟩ := M_q0 h (x := 1) (y := 12) (ax := 1) (most := 12) rfl rfl (by decide) (by decide) t4 fu
  obtain ⟨m2, eK, d2, v2, j2, a2⟩ := M_two d0 gq dq (kx := 0) (hi := 5) (by decide) (by decide)
  have eK' : m_X12_takeTwo 0 5 m0 = some (b2 (decide (pd (nsA u n 5 (xv u (q0A u n 0 A)) (nsA u n 5 5000 (q0A u n 0 A))) = 0)), m2) := eK
  obtain ⟨gp1, _⟩ := GP_ns gq 5 5000
  obtain ⟨gp2, _⟩ := GP_ns gp1 5 (xv u (q0A u n 0 A))
  have L1 : l1A u n 21 (q0A u n 0 A) = nsA u n 5 5000 (q0A u n 0 A) := by rw [l1_y (by decide +kernel), show hiN 21 0 = 5 by decide +kernel]
  have L2 : l2A u n 21 (q0A u n 0 A) = nsA u n 5 (xv u (q0A u n 0 A)) (nsA u n 5 5000 (q0A u n 0 A)) := by rw [l2_y (by decide +kernel), show hiN 21 1 = 5 by decide +kernel, L1, b0_y (by decide +kernel)]
  have L3 : l3A u n 21 (q0A u n 0 A) = nsA u n 7 5000 (nsA u n 5 (xv u (q0A u n 0 A)) (nsA u n 5 5000 (q0A u n 0 A))) := by rw [l3_y (by decide +kernel), L2, show hiN 21 2 = 7 by decide +kernel]
  unfold m_X12_oathLine MLn
  rw [e1, ob_s, e2, ob_s, eK', ob_s, s0, L3]
  by_cases d3 : pd (nsA u n 5 (xv u (q0A u n 0 A)) (nsA u n 5 5000 (q0A u n 0 A))) = 0
  · rw [decide_eq_true d3, if_neg i2t]
    obtain ⟨w0, w1, w2⟩ := v2 d3
    obtain ⟨m3, eT, c3, v3, j3, a3⟩ := M_take d2 gp2 d3 (kx := 2) (hi := 7) (by decide) (by decide)
    have eT' : m_X12_take 2 0 7 m2 = some (b2 (decide (pd (nsA u n 7 5000 (nsA u n 5 (xv u (q0A u n 0 A)) (nsA u n 5 5000 (q0A u n 0 A)))) = 0)), m3) := eT
    rw [eT', ob_s]
    by_cases dd : pd (nsA u n 7 5000 (nsA u n 5 (xv u (q0A u n 0 A)) (nsA u n 5 5000 (q0A u n 0 A)))) = 0
    · rw [decide_eq_true dd, if_neg i2t]
      obtain ⟨w3, w4⟩ := v3 dd
      have r0 : mI m3 55 0 = nI (xv u (q0A u n 0 A)) := by rw [j3 0 (by decide)]; exact w0
      have r1 : mI m3 55 1 = nI (xv u (nsA u n 5 5000 (q0A u n 0 A))) := by rw [j3 1 (by decide)]; exact w1
      have y54 : ∀ j, mI m3 54 j = mI m 54 j := fun j => by rw [(a3 54 j (by rfl)).1, (a2 54 j (by rfl)).1, (a0 54 j (by rfl)).1]
      have y21 : mI m3 44 21 = mI m 44 21 := by rw [(a3 44 21 (by rfl)).1, (a2 44 21 (by rfl)).1, (a0 44 21 (by rfl)).1]
      have ex : ∃ m', ((whileF FU (m_X12_oathLine_b69 (b2 true, m3)) (0, (sI m3 44 21 (m_X12_greater (mI m3 44 21) (m_X12_greater (mI m3 55 (ix 0)) (mI m3 55 (ix 1))))))).bind (fun p12 => some ((1 : Int32), (sI p12 54 (ix 1) (m_X12_lesser 12 ((mI (sI m3 44 21 (m_X12_greater (mI m3 44 21) (m_X12_greater (mI m3 55 (ix 0)) (mI m3 55 (ix 1))))) 54 (ix 1)) + 1)))))) = some (b2 true, m') ∧ agx [(44, some 21), (54, none)] m3 m' ∧ mI m' 54 0 = mI m3 54 0 ∧ mI m' 54 1 = nI (min 12 (cnK A.2.2 4 A.2.1 + 1)) ∧ mI m' 44 21 = m_X12_greater (mI m3 44 21) (m_X12_greater (mI m3 55 0) (mI m3 55 1)) ∧ (cnK A.2.2 4 A.2.1 < 12 → ∃ z, (∀ j, mI z 54 j = mI m3 54 j) ∧ m' = sI (sI (sI (sI z 54 (36 + 3 * cnK A.2.2 4 A.2.1) (nI (xv u (q0A u n 0 A)))) 54 (36 + 3 * cnK A.2.2 4 A.2.1 + 1) (nI (xv u (nsA u n 5 5000 (q0A u n 0 A))))) 54 (36 + 3 * cnK A.2.2 4 A.2.1 + 2) (nI (xv u (nsA u n 5 (xv u (q0A u n 0 A)) (nsA u n 5 5000 (q0A u n 0 A)))))) 54 1 (nI (min 12 (cnK A.2.2 4 A.2.1 + 1)))) := by
        rw [ix0, show ix (1 : Int32) = 1 from rfl]
        have aX : agx [(44, some 21), (54, none)] m3 (sI m3 44 21 (m_X12_greater (mI m3 44 21) (m_X12_greater (mI m3 55 0) (mI m3 55 1)))) := agx_wr (agx_rf _) (by rfl)
        have X21 : mI (sI m3 44 21 (m_X12_greater (mI m3 44 21) (m_X12_greater (mI m3 55 0) (mI m3 55 1)))) 44 21 = m_X12_greater (mI m3 44 21) (m_X12_greater (mI m3 55 0) (mI m3 55 1)) := rdI_eq _ _ _ _
        have X54 : ∀ j, mI (sI m3 44 21 (m_X12_greater (mI m3 44 21) (m_X12_greater (mI m3 55 0) (mI m3 55 1)))) 54 j = mI m3 54 j := fun j => rdI_ne _ _ _ _ (by decide)
        have X55 : ∀ j, mI (sI m3 44 21 (m_X12_greater (mI m3 44 21) (m_X12_greater (mI m3 55 0) (mI m3 55 1)))) 55 j = mI m3 55 j := fun j => rdI_ne _ _ _ _ (by decide)
        have bd : ∀ z : Int32 × Mm, m_X12_oathLine_b69 (b2 true, m3) z = if 3 ≤ z.1 then (some (.inr z.2)) else (if nI 12 ≤ nI (min 12 (cnK A.2.2 4 A.2.1)) then (some (.inr z.2)) else (grd z.1 4 (grd ((36 + (3 * nI (min 12 (cnK A.2.2 4 A.2.1)))) + z.1) 161 (some (.inl (z.1 + 1, (sI z.2 54 (ix ((36 + (3 * nI (min 12 (cnK A.2.2 4 A.2.1)))) + z.1)) (mI z.2 55 (ix z.1))))))))) := by
          intro z
          unfold m_X12_oathLine_b69
          simp only
          rw [ix0, show ix (1 : Int32) = 1 from rfl, X54, y54, t4]
          rfl
        have X1 : mI (sI m3 44 21 (m_X12_greater (mI m3 44 21) (m_X12_greater (mI m3 55 0) (mI m3 55 1)))) 54 1 = nI (min 12 (cnK A.2.2 4 A.2.1)) := by rw [X54, y54, t4]
        rw [X1, show (12 : Int32) = nI 12 from rfl, show (1 : Int32) = nI 1 from rfl, nI_add, n_les (by decide) (by omega)]
        generalize sI m3 44 21 (m_X12_greater (mI m3 44 21) (m_X12_greater (mI m3 55 0) (mI m3 55 1))) = X at *
        by_cases c6 : cnK A.2.2 4 A.2.1 < 12
        · have st : ∀ (i : Nat) (z : Mm), i < 3 → m_X12_oathLine_b69 (b2 true, m3) (nI i, z) = some (.inl (nI (i + 1), sI z 54 (36 + 3 * cnK A.2.2 4 A.2.1 + i) (mI z 55 i))) := by
            intro i z hi
            rw [bd]
            simp only
            rw [if_neg (by rw [show (3 : Int32) = nI 3 from rfl, n_le (by decide) (by omega)]; omega), if_neg (by rw [n_le (by decide) (by omega)]; omega), show min 12 (cnK A.2.2 4 A.2.1) = cnK A.2.2 4 A.2.1 by omega, n_grd (by omega) (by decide), show (36 : Int32) = nI 36 from rfl, show (3 : Int32) = nI 3 from rfl, n_mul, nI_add, nI_add, n_grd (by omega) (by decide), n_ix (by omega), n_ix (by omega), show (1 : Int32) = nI 1 from rfl, nI_add]
          rw [show ((0 : Int32), X) = (nI 0, X) from rfl, while3 (st 0 X (by decide)) (st 1 _ (by decide)) (st 2 _ (by decide)) (by rw [bd]; rfl), ob_s, rdI_ne _ _ _ _ (by decide), rdI_ne _ _ _ _ (by decide), rdI_ne _ _ _ _ (by decide), X55, X55, X55, r0, r1, w3, Nat.add_zero]
          refine ⟨_, rfl, agx_tr aX (agx_wr (agx_wr (agx_wr (agx_wr (agx_rf _) (by rfl)) (by rfl)) (by rfl)) (by rfl)), ?_, ?_, ?_, fun _ => ⟨X, X54, ?_⟩⟩
          · rw [rdI_nj _ _ _ _ (by decide), rdI_nj _ _ _ _ (by omega), rdI_nj _ _ _ _ (by omega), rdI_nj _ _ _ _ (by omega), X54]
          · rw [rdI_eq]; congr 1; omega
          · rw [rdI_ne _ _ _ _ (by decide), rdI_ne _ _ _ _ (by decide), rdI_ne _ _ _ _ (by decide), rdI_ne _ _ _ _ (by decide), X21, r0, r1]
          · congr 2; omega
        · have wz : whileF FU (m_X12_oathLine_b69 (b2 true, m3)) (0, X) = some X := by
            refine loop_seq (fun _ => ((0 : Int32), X)) 0 rfl (FU_big (by decide)) (fun i hi => absurd hi (Nat.not_lt_zero _)) ?_
            rw [bd]
            simp only
            rw [if_neg (by decide), if_pos (by rw [n_le (by decide) (by omega)]; omega)]
          rw [wz, ob_s]
          refine ⟨_, rfl, agx_wr aX (by rfl), ?_, ?_, ?_, fun q => absurd q c6⟩
          · rw [rdI_nj _ _ _ _ (by decide), X54]
          · rw [rdI_eq]; congr 1; omega
          · rw [rdI_ne _ _ _ _ (by decide)]; exact X21
      obtain ⟨m', ex, am, z0, z1, z21, z2⟩ := ex
      refine ⟨m', ex, MPs_a c3 am (fun i => by rfl) (by rfl), fun _ => ⟨⟨fun _ => ⟨?_, ?_⟩, fun q => absurd rfl q⟩, fun f0 => ?_⟩⟩
      · rw [z0, y54 0, t0, cnK_upd, if_neg (show ¬ (roA u n 0 4 (q0A u n 0 A)).1 = 0 from (by decide : ¬ (4 : Nat) = 0))]; rfl
      · rw [z1, cnK_upd, if_pos (show (roA u n 0 4 (q0A u n 0 A)).1 = 4 from rfl)]
      · obtain ⟨q1, q2, q3, q4, q5, q6, q7⟩ := ML_f h gq (g := 21) (by rw [L3]; exact dd) (by rw [L3]; exact f0)
        have gf := (GP_l3f (g := 21) gq (by rw [L3]; exact dd)).2.2.2 (by rw [L3]; exact f0)
        have p0 := gf.2.1 (by decide +kernel)
        have p1 := (gf.2.2.1 (by decide +kernel)).1
        rw [show hiN 21 0 = 5 by decide +kernel] at p0
        rw [show hiN 21 1 = 5 by decide +kernel, L1] at p1
        have c6 : cnK A.2.2 4 A.2.1 < 12 := by
          rw [fu, decide_eq_false_iff_not] at q7
          omega
        obtain ⟨z, zz, ze⟩ := z2 c6
        refine ⟨fun _ => ⟨?_, ?_⟩, fun q => absurd rfl q⟩
        · rw [WDr_upd, tkW_4 (show (roA u n 0 4 (q0A u n 0 A)).1 = 4 from rfl), ze]
          show M54 (tk4 (WDr A.2.2 A.2.1) (xv u (q0A u n 0 A)) (xv u (l1A u n (sgN 0 4) (q0A u n 0 A))) (xv u (l2A u n (sgN 0 4) (q0A u n 0 A)))) _
          rw [s0, L1, L2]
          have := M54_4 (M54_a q1 (fun j => (zz j).trans (y54 j))) (by rw [q6]; exact c6) (xv u (q0A u n 0 A)) (xv u (nsA u n 5 5000 (q0A u n 0 A))) (xv u (nsA u n 5 (xv u (q0A u n 0 A)) (nsA u n 5 5000 (q0A u n 0 A)))) (nI (min 12 (cnK A.2.2 4 A.2.1 + 1)))
          rw [q6] at this
          exact this
        · rw [z21, y21, q2, r0, r1, gr_far _ q3 _ (by omega) _ (by omega), faA_upd, if_pos (show ((roA u n 0 4 (q0A u n 0 A)).1 = 3 ∨ (roA u n 0 4 (q0A u n 0 A)).1 = 4) from Or.inr rfl)]
          show _ = nI (max _ (max (xv u (q0A u n 0 A) + 1) (xv u (l1A u n (sgN 0 4) (q0A u n 0 A)) + 1))) - 1
          rw [s0, L1]
    · rw [decide_eq_false dd, if_pos i2f]
      exact ⟨m3, rfl, c3, fun q => absurd q dd⟩
  · have d1 : pd (nsA u n 5 (xv u (q0A u n 0 A)) (nsA u n 5 5000 (q0A u n 0 A))) = 1 := by have := gp2.1; omega
    rw [nsA_dd d1, decide_eq_false d3, if_pos i2f]
    exact ⟨m2, rfl, d2, fun q => absurd q d3⟩
noncomputable def LRn (u : Nat → Nat) (n g : Nat) (A : As) (r : Option (Int32 × Mm)) : Prop := (kdA g (tw u (pt A.1)) = 7 → ∃ m', r = some (b2 false, m') ∧ MPs u n (ddA A.1) m') ∧ ∀ k, kdA g (tw u (pt A.1)) = k → k ≠ 7 → ∃ m', r = some (b2 (decide (pd (l3A u n (sgN g k) (q0A u n g A)) = 0)), m') ∧ MLn u n g A k m'
theorem LR_k {u : Nat → Nat} {n g : Nat} {A : As} {r : Option (Int32 × Mm)} {k : Nat} (hk : kdA g (tw u (pt A.1)) = k) (h7 : k ≠ 7) (h : ∃ m', r = some (b2 (decide (pd (l3A u n (sgN g k) (q0A u n g A)) = 0)), m') ∧ MLn u n g A k m') : LRn u n g A r :=
  ⟨fun q => absurd (hk.symm.trans q) h7, fun k' hk' _ => by rw [hk] at hk'; subst hk'; exact h⟩
theorem LR_7 {u : Nat → Nat} {n g : Nat} {A : As} {r : Option (Int32 × Mm)} (hk : kdA g (tw u (pt A.1)) = 7) (h : ∃ m', r = some (b2 false, m') ∧ MPs u n (ddA A.1) m') : LRn u n g A r :=
  ⟨fun _ => h, fun k' hk' h7 => absurd (hk'.symm.trans hk) h7⟩
theorem M_fails {u : Nat → Nat} {n : Nat} {P : Ps} {m : Mm} (h : MPs u n P m) : ∃ m', gbz ((m_X12_fails m).1) (some ((m_X12_fails m).1, ((m_X12_fails m).2))) = some (b2 false, m') ∧ MPs u n (ddA P) m' :=
  ⟨_, by unfold m_X12_fails; rw [gbz_pos (Or.inl rfl)]; rfl, M_dd h⟩
