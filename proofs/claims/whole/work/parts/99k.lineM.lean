/-! L3: lines of a county, as the reference reads them -/
def TCn (g N : Nat) (D : Dr) (m : Mm) : Prop := (g = 0 → mI m 54 0 = nI (min 6 (cnK D 0 N)) ∧ mI m 54 1 = nI (min 12 (cnK D 4 N))) ∧ (g ≠ 0 → mI m 54 0 = nI (min (rwm g) N))
noncomputable def TDn (g N : Nat) (D : Dr) (m : Mm) : Prop := (g = 0 → M54 (WDr D N) m ∧ mI m 44 21 = nI (faA D N) - 1) ∧ (g ≠ 0 → ∀ j q, j < N → q < rwn g → mI m 54 (1 + rwn g * j + q) = enX g (D j) (rw0 g + q))
noncomputable def MLn (u : Nat → Nat) (n g : Nat) (A : As) (k : Nat) (m : Mm) : Prop := MPs u n (l3A u n (sgN g k) (q0A u n g A)) m ∧ (pd (l3A u n (sgN g k) (q0A u n g A)) = 0 → TCn g (A.2.1 + 1) (updR A.2.2 A.2.1 (roA u n g k (q0A u n g A))) m ∧ (pf (l3A u n (sgN g k) (q0A u n g A)) = 0 → TDn g (A.2.1 + 1) (updR A.2.2 A.2.1 (roA u n g k (q0A u n g A))) m))
/-- before a line: the reference's state -/
noncomputable def MBn (u : Nat → Nat) (n g : Nat) (A : As) (m : Mm) : Prop := MPs u n A.1 m ∧ GA u n g A ∧ pd A.1 = 0 ∧ (pt A.1).1 ≠ 0 ∧ TCn g A.2.1 A.2.2 m ∧ (pf A.1 = 0 → TDn g A.2.1 A.2.2 m) ∧ mI m 44 22 = 1
theorem l1_y {u : Nat → Nat} {n g : Nat} {P : Ps} (h : 0 < lnN g) : l1A u n g P = nsA u n (hiN g 0) 5000 P := by unfold l1A nsX; rw [if_neg (by omega)]
theorem l1_n {u : Nat → Nat} {n g : Nat} {P : Ps} (h : lnN g = 0) : l1A u n g P = P := by unfold l1A nsX; rw [if_pos (by omega)]
theorem l2_y {u : Nat → Nat} {n g : Nat} {P : Ps} (h : 1 < lnN g) : l2A u n g P = nsA u n (hiN g 1) (b0A u g P) (l1A u n g P) := by unfold l2A nsX; rw [if_neg (by omega)]
theorem l2_n {u : Nat → Nat} {n g : Nat} {P : Ps} (h : lnN g ≤ 1) : l2A u n g P = l1A u n g P := by unfold l2A nsX; rw [if_pos (by omega)]
theorem l3_y {u : Nat → Nat} {n g : Nat} {P : Ps} (h : 2 < lnN g) : l3A u n g P = nsA u n (hiN g 2) 5000 (l2A u n g P) := by unfold l3A nsX; rw [if_neg (by omega)]
theorem l3_n {u : Nat → Nat} {n g : Nat} {P : Ps} (h : lnN g ≤ 2) : l3A u n g P = l2A u n g P := by unfold l3A nsX; rw [if_pos (by omega)]
theorem b0_y {u : Nat → Nat} {g : Nat} {P : Ps} (h : twc g = true) : b0A u g P = xv u P := by unfold b0A; rw [if_pos h]
theorem b0_n {u : Nat → Nat} {g : Nat} {P : Ps} (h : twc g = false) : b0A u g P = 5000 := by unfold b0A; rw [if_neg (by rw [h]; decide)]
theorem GP_l3f {u : Nat → Nat} {n g : Nat} {P : Ps} (h : GPs u n P) (e0 : pd (l3A u n g P) = 0) : pd (l2A u n g P) = 0 ∧ pd (l1A u n g P) = 0 ∧ pd P = 0 ∧ (pf (l3A u n g P) = 0 → pf P = 0 ∧ (0 < lnN g → xv u P ≤ hiN g 0) ∧ (1 < lnN g → xv u (l1A u n g P) ≤ hiN g 1 ∧ xv u (l1A u n g P) ≠ b0A u g P) ∧ (2 < lnN g → xv u (l2A u n g P) ≤ hiN g 2)) := by
  obtain ⟨a1, a2, a3, a4⟩ := GP_nsX h g 0 5000
  obtain ⟨c1, c2, c3, c4⟩ := GP_nsX a1 g 1 (b0A u g P)
  obtain ⟨d1, d2, d3, d4⟩ := GP_nsX c1 g 2 5000
  obtain ⟨y1, y2⟩ := d4 e0
  obtain ⟨z1, z2⟩ := c4 y1
  obtain ⟨w1, w2⟩ := a4 z1
  refine ⟨y1, z1, w1, fun f3 => ?_⟩
  have f2 := d3 f3
  have f1 := c3 f2
  exact ⟨a3 f1, fun l => ((w2 l).2.2 f1).1, fun l => (z2 l).2.2 f2, fun l => ((y2 l).2.2 f3).1⟩
theorem M_q0 {u : Nat → Nat} {n g : Nat} {A : As} {m : Mm} (h : MBn u n g A m) {ax most c : Nat} {x y : Int32} (hx : x = nI ax) (hy : y = nI most) (ha : ax < 161) (hm : most < 100) (h54 : mI m 54 ax = nI (min most c)) (hfu : fuA g (kdA g (tw u (pt A.1))) A.2.1 A.2.2 = decide (most ≤ c)) : ∃ m1 m0, m_X12_full x y (nI (pt A.1).2.1) m = some m1 ∧ m_X12_token m1 = some m0 ∧ MPs u n (q0A u n g A) m0 ∧ GPs u n (q0A u n g A) ∧ pd (q0A u n g A) = 0 ∧ agx tbL m m0 := by
  obtain ⟨h1, h2, h3, h4, _⟩ := h
  subst hx hy
  obtain ⟨m1, e1, c1, a1⟩ := M_full h1 h2.1 h3 ha hm h54
  rw [← hfu] at c1
  have dt : pd (if fuA g (kdA g (tw u (pt A.1))) A.2.1 A.2.2 = true then ntA 3 (pt A.1).2.1 A.1 else A.1) = 0 ∧ pt (if fuA g (kdA g (tw u (pt A.1))) A.2.1 A.2.2 = true then ntA 3 (pt A.1).2.1 A.1 else A.1) = pt A.1 := by
    split
    · exact ⟨h3, rfl⟩
    · exact ⟨h3, rfl⟩
  obtain ⟨m0, e0, c0, a0⟩ := M_nx c1 dt.1 (by rw [dt.2]; exact h2.1.2.2.1)
  obtain ⟨q1, q2, q3, q4⟩ := GP_q0 (g := g) h2.1 h4
  exact ⟨m1, m0, e1, e0, c0, q1, q3.trans h3, agx_tr (agx_mono (by rfl) a1) (agx_mono (by rfl) a0)⟩
theorem M_q1 {u : Nat → Nat} {n g : Nat} {A : As} {m : Mm} (h : MBn u n g A m) (hfu : fuA g (kdA g (tw u (pt A.1))) A.2.1 A.2.2 = false) : ∃ m0, m_X12_token m = some m0 ∧ MPs u n (q0A u n g A) m0 ∧ GPs u n (q0A u n g A) ∧ pd (q0A u n g A) = 0 ∧ agx tbL m m0 := by
  obtain ⟨h1, h2, h3, h4, _⟩ := h
  obtain ⟨m0, e0, c0, a0⟩ := M_nx h1 h3 h2.1.2.2.1
  obtain ⟨q1, q2, q3, q4⟩ := GP_q0 (g := g) h2.1 h4
  refine ⟨m0, e0, ?_, q1, q3.trans h3, agx_mono (by rfl) a0⟩
  unfold q0A
  rw [hfu, if_neg (by decide)]
  exact c0
theorem M_pair {u : Nat → Nat} {n : Nat} {P : Ps} {m : Mm} (h : MPs u n P m) (gp : GPs u n P) (h0 : pd P = 0) {k0 k1 i0 i1 : Nat} {x0 x1 y0 y1 : Int32} (hx0 : x0 = nI k0) (hx1 : x1 = nI k1) (hy0 : y0 = nI i0) (hy1 : y1 = nI i1) (hk0 : k0 < 4) (hk1 : k1 < 4) (hne : k0 ≠ k1) (hh0 : i0 < 100) (hh1 : i1 < 100) : ∃ m', (∀ K : Int32 × Mm → Option (Int32 × Mm), (m_X12_take x0 0 y0 m).bind (fun q5 => if q5.1 = 0 then some (0, q5.2) else (m_X12_take x1 0 y1 q5.2).bind (fun q8 => if q8.1 = 0 then some (0, q8.2) else K q8)) = if pd (nsA u n i1 5000 (nsA u n i0 5000 P)) = 0 then K (b2 true, m') else some (0, m')) ∧ MPs u n (nsA u n i1 5000 (nsA u n i0 5000 P)) m' ∧ (pd (nsA u n i1 5000 (nsA u n i0 5000 P)) = 0 → mI m' 55 k0 = nI (xv u P) ∧ mI m' 55 k1 = nI (xv u (nsA u n i0 5000 P)) ∧ mI m' 44 22 = if xv u P ≤ i0 ∧ xv u (nsA u n i0 5000 P) ≤ i1 then mI m 44 22 else 0) ∧ (∀ j, j ≠ k0 → j ≠ k1 → mI m' 55 j = mI m 55 j) ∧ agx tbL m m' := by
  subst hx0 hx1 hy0 hy1
  obtain ⟨m1, e1, c1, v1, j1, a1⟩ := M_take h gp h0 (kx := k0) hk0 hh0
  obtain ⟨g1, g2, g3, g4⟩ := GP_ns gp i0 5000
  have xb : xv u P < 3000 := nvI_b h.1.2.1 _ _
  have xc : xv u (nsA u n i0 5000 P) < 3000 := nvI_b h.1.2.1 _ _
  by_cases d1 : pd (nsA u n i0 5000 P) = 1
  · refine ⟨m1, fun K => ?_, by rw [nsA_dd d1]; exact c1, fun q => by rw [nsA_dd d1] at q; omega, fun j hj _ => j1 j hj, a1⟩
    rw [e1, ob_s, nsA_dd d1, if_neg (show ¬ pd (nsA u n i0 5000 P) = 0 by omega), decide_eq_false (show ¬ pd (nsA u n i0 5000 P) = 0 by omega), if_pos i2f]
  · have d0 : pd (nsA u n i0 5000 P) = 0 := by have := g1.1; omega
    obtain ⟨w1, w2⟩ := v1 d0
    obtain ⟨m2, e2, c2, v2, j2, a2⟩ := M_take c1 g1 d0 (kx := k1) hk1 hh1
    refine ⟨m2, fun K => ?_, c2, fun q => ?_, fun j h1 h2 => by rw [j2 j h2, j1 j h1], agx_tr a1 a2⟩
    · rw [e1, ob_s, decide_eq_true d0, if_neg i2t, e2, ob_s]
      by_cases q : pd (nsA u n i1 5000 (nsA u n i0 5000 P)) = 0
      · rw [decide_eq_true q, if_pos q, if_neg i2t]
      · rw [decide_eq_false q, if_neg q, if_pos i2f]
    · obtain ⟨r1, r2⟩ := v2 q
      refine ⟨by rw [j2 k0 hne]; exact w1, r1, ?_⟩
      rw [r2, w2]
      by_cases s1 : xv u P ≤ i0
      · rw [if_pos (show xv u P ≤ i0 ∧ xv u P ≠ 5000 from ⟨s1, by omega⟩)]
        by_cases s2 : xv u (nsA u n i0 5000 P) ≤ i1
        · rw [if_pos (show xv u (nsA u n i0 5000 P) ≤ i1 ∧ xv u (nsA u n i0 5000 P) ≠ 5000 from ⟨s2, by omega⟩), if_pos ⟨s1, s2⟩]
        · rw [if_neg (show ¬ (xv u (nsA u n i0 5000 P) ≤ i1 ∧ xv u (nsA u n i0 5000 P) ≠ 5000) from fun q => s2 q.1), if_neg (fun q => s2 q.2)]
      · rw [if_neg (show ¬ (xv u P ≤ i0 ∧ xv u P ≠ 5000) from fun q => s1 q.1), ite_self, if_neg (fun q => s1 q.1)]
theorem TCn_k {D : Dr} {N : Nat} {v : Nat × Nat × Nat × Nat} {m m' : Mm} (h : TCn 0 N D m) (h0 : v.1 ≠ 0) (h4 : v.1 ≠ 4) (e : ∀ j, j < 2 → mI m' 54 j = mI m 54 j) : TCn 0 (N + 1) (updR D N v) m' := by
  obtain ⟨a, b⟩ := h.1 rfl
  refine ⟨fun _ => ⟨?_, ?_⟩, fun q => absurd rfl q⟩
  · rw [e 0 (by decide), a, cnK_upd, if_neg h0]; rfl
  · rw [e 1 (by decide), b, cnK_upd, if_neg h4]; rfl
theorem okA_5 {N : Nat} {D : Dr} (h : okA 0 N D) : ∀ j, j < N → (D j).1 < 5 := fun j hj => by
  obtain ⟨d1, d2, _⟩ := h.2.2 j hj
  exact k_okD _ d1 d2
theorem M_folk {u : Nat → Nat} {n : Nat} {A : As} {m : Mm} (h : MBn u n 0 A m) (hk : kdA 0 (tw u (pt A.1)) = 0) : ∃ m', m_X12_folkLine (nI (pt A.1).2.1) m = some (b2 (decide (pd (l3A u n (sgN 0 0) (q0A u n 0 A)) = 0)), m') ∧ MLn u n 0 A 0 m' := by
  have h' := h
  obtain ⟨h1, h2, h3, h4, h5, h6, h7⟩ := h'
  obtain ⟨t0, t4⟩ := h5.1 rfl
  have gb := GT_b h2.1.2.2.1
  have n6 := h1.1.1
  have hN := h2.2.1
  have cb := cnK_b A.2.2 0 A.2.1
  have s0 : sgN 0 0 = 17 := by decide +kernel
  have fu : fuA 0 (kdA 0 (tw u (pt A.1))) A.2.1 A.2.2 = decide (6 ≤ cnK A.2.2 0 A.2.1) := by unfold fuA; rw [if_pos rfl, hk, if_pos rfl]
  obtain ⟨m1, m0, e1, e2, d0, gq, dq, a0⟩ := M_q0 h (x := 0) (y := 6) rfl rfl (by decide) (by decide) t0 fu
  obtain ⟨m2, eK, d2, v2, j2, a2⟩ := M_pair d0 gq dq (x0 := 0) (x1 := 1) (y0 := 9) (y1 := 4) (k0 := 0) (k1 := 1) (i0 := 9) (i1 := 4) rfl rfl rfl rfl (by decide) (by decide) (by decide) (by decide) (by decide)
  have L1 : l1A u n 17 (q0A u n 0 A) = nsA u n 9 5000 (q0A u n 0 A) := by rw [l1_y (by decide +kernel), show hiN 17 0 = 9 by decide +kernel]
  have L2 : l2A u n 17 (q0A u n 0 A) = nsA u n 4 5000 (nsA u n 9 5000 (q0A u n 0 A)) := by rw [l2_y (by decide +kernel), show hiN 17 1 = 4 by decide +kernel, L1, b0_n (by decide +kernel)]
  have L3 : l3A u n 17 (q0A u n 0 A) = nsA u n 4 5000 (nsA u n 9 5000 (q0A u n 0 A)) := by rw [l3_n (by decide +kernel), L2]
  unfold m_X12_folkLine MLn
  rw [e1, ob_s, e2, ob_s, eK, s0, L3]
  by_cases dd : pd (nsA u n 4 5000 (nsA u n 9 5000 (q0A u n 0 A))) = 0
  · obtain ⟨w0, w1, w2⟩ := v2 dd
    have y54 : ∀ j, mI m2 54 j = mI m 54 j := fun j => by rw [(a2 54 j (by rfl)).1, (a0 54 j (by rfl)).1]
    rw [if_pos dd, decide_eq_true dd]
    have ex : ∃ m', ((if 6 ≤ (mI m2 54 (ix 0)) then (some m2) else (grd (2 + (mI m2 54 (ix 0))) 161 (grd (8 + (mI m2 54 (ix 0))) 161 (some (sI (sI m2 54 (ix (2 + (mI m2 54 (ix 0)))) (mI m2 55 (ix 0))) 54 (ix (8 + (mI m2 54 (ix 0)))) (mI (sI m2 54 (ix (2 + (mI m2 54 (ix 0)))) (mI m2 55 (ix 0))) 55 (ix 1)))))) : Option (Mm)).bind (fun p11 => some ((1 : Int32), (sI p11 54 (ix 0) (m_X12_lesser 6 ((mI m2 54 (ix 0)) + 1)))))) = some (b2 true, m') ∧ agx [(54, none)] m2 m' ∧ mI m' 54 0 = nI (min 6 (cnK A.2.2 0 A.2.1 + 1)) ∧ mI m' 54 1 = mI m2 54 1 ∧ (cnK A.2.2 0 A.2.1 < 6 → m' = sI (sI (sI m2 54 (2 + cnK A.2.2 0 A.2.1) (nI (xv u (q0A u n 0 A)))) 54 (8 + cnK A.2.2 0 A.2.1) (nI (xv u (nsA u n 9 5000 (q0A u n 0 A))))) 54 0 (nI (min 6 (cnK A.2.2 0 A.2.1 + 1)))) := by
      rw [ix0, show ix (1 : Int32) = 1 from rfl, y54 0, t0, show (6 : Int32) = nI 6 from rfl, show (1 : Int32) = nI 1 from rfl, nI_add, n_les (by decide) (by omega)]
      by_cases c6 : cnK A.2.2 0 A.2.1 < 6
      · rw [if_neg (by rw [n_le (by decide) (by omega)]; omega), show min 6 (cnK A.2.2 0 A.2.1) = cnK A.2.2 0 A.2.1 by omega, show (2 : Int32) = nI 2 from rfl, show (8 : Int32) = nI 8 from rfl, nI_add, nI_add, n_grd (by omega) (by decide), n_grd (by omega) (by decide), n_ix (by omega), n_ix (by omega), rdI_ne _ _ _ _ (by decide), w0, w1, ob_s]
        refine ⟨_, rfl, agx_wr (agx_wr (agx_wr (agx_rf _) (by rfl)) (by rfl)) (by rfl), rdI_eq _ _ _ _, ?_, fun _ => rfl⟩
        rw [rdI_nj _ _ _ _ (by decide), rdI_nj _ _ _ _ (by omega), rdI_nj _ _ _ _ (by omega)]
      · rw [if_pos (by rw [n_le (by decide) (by omega)]; omega), ob_s]
        refine ⟨_, rfl, agx_wr (agx_rf _) (by rfl), ?_, ?_, fun q => absurd q c6⟩
        · rw [rdI_eq]; congr 1; omega
        · rw [rdI_nj _ _ _ _ (by decide)]
    obtain ⟨m', ex, am, z0, z1, z2⟩ := ex
    refine ⟨m', ex, MPs_a d2 am (fun i => by rfl) (by rfl), fun _ => ⟨⟨fun _ => ⟨?_, ?_⟩, fun q => absurd rfl q⟩, fun f0 => ?_⟩⟩
    · rw [z0, cnK_upd, if_pos (show (roA u n 0 0 (q0A u n 0 A)).1 = 0 from rfl)]
    · rw [z1, y54 1, t4, cnK_upd, if_neg (show ¬ (roA u n 0 0 (q0A u n 0 A)).1 = 4 from (by decide : ¬ (0 : Nat) = 4))]; rfl
    · have gl := GP_l3f (g := 17) gq (by rw [L3]; exact dd)
      have gf := gl.2.2.2 (by rw [L3]; exact f0)
      have gq4 := (GP_q0 (g := 0) h2.1 h4).2.2.2 gf.1
      obtain ⟨t1, t2⟩ := h6 gq4.1
      obtain ⟨t1, t3⟩ := t1 rfl
      have ok := h2.2.2.2 h3 gq4.1
      have cn := WDr_n (okA_5 ok)
      have c6 : cnK A.2.2 0 A.2.1 < 6 := by
        have := gq4.2
        rw [fu, decide_eq_false_iff_not] at this
        omega
      refine ⟨fun _ => ⟨?_, ?_⟩, fun q => absurd rfl q⟩
      · rw [WDr_upd, tkW_0 (show (roA u n 0 0 (q0A u n 0 A)).1 = 0 from rfl), z2 c6]
        have := M54_0 (M54_a t1 y54) (by rw [cn.1]; exact c6) (xv u (q0A u n 0 A)) (xv u (nsA u n 9 5000 (q0A u n 0 A))) (nI (min 6 (cnK A.2.2 0 A.2.1 + 1)))
        rw [cn.1] at this
        show M54 (tk0 (WDr A.2.2 A.2.1) (xv u (q0A u n 0 A)) (xv u (l1A u n (sgN 0 0) (q0A u n 0 A)))) _
        rw [s0, L1]
        exact this
      · rw [(am 44 21 (by rfl)).1, (a2 44 21 (by rfl)).1, (a0 44 21 (by rfl)).1, t3, faA_upd, if_neg (show ¬ ((roA u n 0 0 (q0A u n 0 A)).1 = 3 ∨ (roA u n 0 0 (q0A u n 0 A)).1 = 4) by rintro (q | q) <;> cases q)]
  · rw [if_neg dd, decide_eq_false dd]
    exact ⟨m2, rfl, d2, fun q => absurd q dd⟩
