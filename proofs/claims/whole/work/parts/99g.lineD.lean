/-! L3: a line of the class, whole -/
theorem C_addR {m : Mm} {N : Nat} (hN : N ≤ 100) (h1 : mI m 8 1 = nI N) (a b c d : Int32) : ∃ m', m_X6_add a b c d m = some m' ∧ mI m' 8 1 = nI (min (N + 1) 100) ∧ (∀ j q, j < N → q < 4 → mI m' 9 (j * 4 + q) = mI m 9 (j * 4 + q)) ∧ (N < 100 → mI m' 9 (N * 4) = a ∧ mI m' 9 (N * 4 + 1) = b ∧ mI m' 9 (N * 4 + 2) = c ∧ mI m' 9 (N * 4 + 3) = d) ∧ agx [(8, some 1), (9, none)] m m' := by
  by_cases c100 : N < 100
  · have ex : m_X6_add a b c d m = some (sI (sI (sI (sI (sI m 9 (N * 4) a) 9 (N * 4 + 1) b) 9 (N * 4 + 2) c) 9 (N * 4 + 3) d) 8 1 (nI (N + 1))) := by
      unfold m_X6_add
      simp (disch := omega) only [h1, zz_1, zz_2, zz_3, zz_4, zz_400, n_mul, nI_add, n_le, n_grd, n_ix, rdI_ne]
      rw [if_pos (by omega)]
    refine ⟨_, ex, by rw [rdI_eq]; congr 1; omega, fun j q hj hq => ?_, fun _ => ⟨?_, ?_, ?_, ?_⟩, fr_X6_add ex⟩
    · rw [rdI_ne _ _ _ _ (by decide), rdI_nj _ _ _ _ (by omega), rdI_nj _ _ _ _ (by omega), rdI_nj _ _ _ _ (by omega), rdI_nj _ _ _ _ (by omega)]
    · rw [rdI_ne _ _ _ _ (by decide), rdI_nj _ _ _ _ (by omega), rdI_nj _ _ _ _ (by omega), rdI_nj _ _ _ _ (by omega), rdI_eq]
    · rw [rdI_ne _ _ _ _ (by decide), rdI_nj _ _ _ _ (by omega), rdI_nj _ _ _ _ (by omega), rdI_eq]
    · rw [rdI_ne _ _ _ _ (by decide), rdI_nj _ _ _ _ (by omega), rdI_eq]
    · rw [rdI_ne _ _ _ _ (by decide), rdI_eq]
  · have ex : m_X6_add a b c d m = some m := by
      unfold m_X6_add
      rw [h1, show (4 : Int32) = nI 4 from rfl, n_mul, nI_add, if_neg (by rw [show (400 : Int32) = nI 400 from rfl, n_le (by omega) (by decide)]; omega)]
    exact ⟨m, ex, by rw [h1]; congr 1; omega, fun j q _ _ => rfl, fun q => by omega, agx_rf _⟩
theorem enX_0 (g : Nat) (d : Nat × Nat × Nat × Nat) : enX g d 0 = nI d.1 := rfl
theorem enX_1 (g : Nat) (d : Nat × Nat × Nat × Nat) : enX g d 1 = if 0 < lnN (sgN g d.1) then nI d.2.1 else -1 := rfl
theorem enX_2 (g : Nat) (d : Nat × Nat × Nat × Nat) : enX g d 2 = if 1 < lnN (sgN g d.1) then nI d.2.2.1 else -1 := rfl
theorem enX_3 (g : Nat) (d : Nat × Nat × Nat × Nat) : enX g d 3 = if 2 < lnN (sgN g d.1) then nI d.2.2.2 else -1 := rfl
theorem lnA_7 {u : Nat → Nat} {n g : Nat} {A : As} (h : kdA g (tw u (pt A.1)) = 7) : lnA u n g A = (ddA A.1, A.2) := by
  unfold lnA; rw [if_pos h]
theorem lnA_d {u : Nat → Nat} {n g : Nat} {A : As} {k : Nat} (hk : kdA g (tw u (pt A.1)) = k) (h7 : k ≠ 7) (h : pd (l4A u n (sgN g k) (q0A u n g A)) = 1) : lnA u n g A = (l4A u n (sgN g k) (q0A u n g A), A.2) := by
  subst hk
  unfold lnA; rw [if_neg h7, if_pos h]
theorem lnA_l {u : Nat → Nat} {n g : Nat} {A : As} {k : Nat} (hk : kdA g (tw u (pt A.1)) = k) (h7 : k ≠ 7) (h : pd (l4A u n (sgN g k) (q0A u n g A)) = 0) : lnA u n g A = (l4A u n (sgN g k) (q0A u n g A), A.2.1 + 1, updR A.2.2 A.2.1 (roA u n g k (q0A u n g A))) := by
  subst hk
  unfold lnA; rw [if_neg h7, if_neg (by omega)]
theorem l4A_d {u : Nat → Nat} {n g : Nat} {P : Ps} (h : pd (l3A u n g P) = 1) : l4A u n g P = l3A u n g P := by
  unfold l4A; rw [if_pos h]
theorem l4A_s {u : Nat → Nat} {n g : Nat} {P : Ps} (h : pd (l3A u n g P) = 0) (h3 : (pt (l3A u n g P)).1 = 3) : l4A u n g P = nxA u n (l3A u n g P) := by
  unfold l4A; rw [if_neg (by omega), if_pos h3]
theorem l4A_x {u : Nat → Nat} {n g : Nat} {P : Ps} (h : pd (l3A u n g P) = 0) (h3 : (pt (l3A u n g P)).1 ≠ 3) : l4A u n g P = ddA (l3A u n g P) := by
  unfold l4A; rw [if_neg (by omega), if_neg h3]
theorem GP_l3 {u : Nat → Nat} {n g : Nat} {P : Ps} (h : GPs u n P) : GPs u n (l3A u n g P) := (GP_nsX (GP_nsX (GP_nsX h g 0 5000).1 g 1 (b0A u g P)).1 g 2 5000).1
theorem C_line {u : Nat → Nat} {n g : Nat} {A : As} {S : Sk} {m : Mm} (h : CA u n g A S m) (ga : GA u n g A) (hg : g < 4) (h0 : pd A.1 = 0) (hk : (pt A.1).1 ≠ 0) : ∃ m', m_X5_readLine S m = some m' ∧ CA u n g (lnA u n g A) S m' := by
  have h' := h
  obtain ⟨c1, c2, c3, c4, c5⟩ := h'
  have gb := GT_b ga.1.2.2.1
  have n6 := c1.1.1
  have gN := ga.2.1
  have tb := tw_b (u := u) (t := pt A.1) (fun _ => gb.2.2.2.2 hk)
  have kb := kdA_b g hg _ tb.1
  have tail : ∀ {P' : Ps} {m' : Mm}, agx nuL m m' → CPs u n S P' m' → CA u n g (P', A.2) S m' := fun hA hP => ⟨hP, by rw [(hA 7 7 (by rfl)).1]; exact c2, by rw [(hA 8 1 (by rfl)).1]; exact c3, fun j q hj hq => by rw [(hA 9 _ (by rfl)).1]; exact c4 j q hj hq, fun k hk => by rw [(hA 10 k (by rfl)).1]; exact c5 k hk⟩
  have K := C_kind c1.1 c1.2.1 ga.1.2.2.1 hg c2
  generalize hκ : kdA g (tw u (pt A.1)) = k at K kb
  unfold m_X5_readLine
  rw [K, ob_s]
  by_cases k7 : k = 7
  · rw [if_pos k7, if_pos rfl, lnA_7 (hκ.trans k7)]
    exact ⟨_, rfl, tail (agx_mono (by rfl) fr_X5_giveUp) (C_dd c1)⟩
  · have k6 : k < 7 := by omega
    have km : ¬ nI k = -1 := by
      have key : ∀ k, k < 7 → ¬ nI k = -1 := by decide
      exact key k k6
    rw [if_neg k7, if_neg km, C_isFull h hg (by omega) k6, ob_s]
    have key : ∃ mf, (if b2 (fuA g k A.2.1 A.2.2) = 0 then m else m_X5_note 3 (mI m 7 9) m) = mf ∧ CPs u n S (if fuA g k A.2.1 A.2.2 = true then ntA 3 (pt A.1).2.1 A.1 else A.1) mf ∧ agx [(7, some 1), (7, some 2)] m mf := by
      cases fuA g k A.2.1 A.2.2 with
      | false => rw [if_pos i2f, if_neg (by decide)]; exact ⟨m, rfl, c1, agx_rf _⟩
      | true =>
        rw [if_neg i2t, if_pos rfl, c1.2.1.2.1]
        have pf3 := ga.1.2.1
        exact ⟨_, rfl, C_nt (x := 3) c1 h0 (by omega) (by decide), fr_X5_note⟩
    obtain ⟨mf, ef, cf, af⟩ := key
    have dt : pd (if fuA g k A.2.1 A.2.2 = true then ntA 3 (pt A.1).2.1 A.1 else A.1) = 0 ∧ pt (if fuA g k A.2.1 A.2.2 = true then ntA 3 (pt A.1).2.1 A.1 else A.1) = pt A.1 := by
      split
      · exact ⟨h0, rfl⟩
      · exact ⟨h0, rfl⟩
    obtain ⟨m0, e0, d0, a0⟩ := C_nx cf dt.1 (by rw [dt.2]; exact ga.1.2.2.1)
    have q0 : nxA u n (if fuA g k A.2.1 A.2.2 = true then ntA 3 (pt A.1).2.1 A.1 else A.1) = q0A u n g A := by unfold q0A; rw [hκ]
    rw [q0] at d0
    have am0 : agx nuL m m0 := agx_tr (agx_mono (by rfl) af) (agx_mono (by rfl) a0)
    obtain ⟨s1, s2, s3, s4⟩ := sgN_eq g hg k k6
    rw [ef, e0, ob_s, (am0 7 7 (by rfl)).1, c2, s1, ob_s]
    have gq := GP_q0 (g := g) ga.1 hk
    obtain ⟨m3, e3, d3, v3, a3⟩ := C_nums d0 gq.1 s3 s2
    have am3 : agx nuL m m3 := agx_tr am0 a3
    have g3 := GP_l3 (g := sgN g k) gq.1
    rw [e3, ob_s]
    by_cases dd : pd (l3A u n (sgN g k) (q0A u n g A)) = 1
    · rw [if_pos (by rw [(d3.2.2.1 dd).1]; rfl), lnA_d hκ k7 (by rw [l4A_d dd]; exact dd), l4A_d dd]
      exact ⟨m3, rfl, tail am3 d3⟩
    · have dz : pd (l3A u n (sgN g k) (q0A u n g A)) = 0 := by have := g3.1; omega
      have f3 := g3.2.1
      have tb3 := (GT_b g3.2.2.1).1
      rw [if_neg (by rw [(d3.2.2.2 dz).1, show (1 : Int32) = nI 1 from rfl, n_eq (by omega) (by decide)]; omega), d3.2.1.1]
      by_cases k3 : (pt (l3A u n (sgN g k) (q0A u n g A))).1 = 3
      · obtain ⟨m4, e4, d4, a4⟩ := C_nx d3 dz g3.2.2.1
        have am4 : agx nuL m m4 := agx_tr am3 (agx_mono (by rfl) a4)
        obtain ⟨v0, v1, v2⟩ := v3 dz
        rw [if_pos (by rw [k3]; rfl), e4, ob_s, ix0, show ix (1 : Int32) = 1 from rfl, show ix (2 : Int32) = 2 from rfl, (a4 11 0 (by rfl)).1, (a4 11 1 (by rfl)).1, (a4 11 2 (by rfl)).1, v0, v1, v2]
        obtain ⟨m5, e5, z1, z2, z3, a5⟩ := C_addR (N := min A.2.1 100) (by omega) (by rw [(am4 8 1 (by rfl)).1]; exact c3) (nI k) (if 0 < lnN (sgN g k) then nI (xv u (q0A u n g A)) else -1) (if 1 < lnN (sgN g k) then nI (xv u (l1A u n (sgN g k) (q0A u n g A))) else -1) (if 2 < lnN (sgN g k) then nI (xv u (l2A u n (sgN g k) (q0A u n g A))) else -1)
        rw [e5, ob_s, n_grd (by omega) (by decide), n_grd (by omega) (by decide), n_ix (by omega), lnA_l hκ k7 (by rw [l4A_s dz k3]; exact dz), l4A_s dz k3]
        refine ⟨_, rfl, CPs_a (CPs_a d4 a5 (fun i => by rfl) (fun i => by rfl)) (agx_wr (W := [(10, none)]) (agx_rf _) (by rfl)) (fun i => by rfl) (fun i => by rfl), ?_, ?_, fun j q hj hq => ?_, fun x hx => ?_⟩
        · rw [rdI_ne _ _ _ _ (by decide), (a5 7 7 (by rfl)).1, (am4 7 7 (by rfl)).1]; exact c2
        · rw [rdI_ne _ _ _ _ (by decide), z1]
          show nI (min (min A.2.1 100 + 1) 100) = nI (min (A.2.1 + 1) 100)
          congr 1; omega
        · rw [rdI_ne _ _ _ _ (by decide)]
          have hj : j < min (A.2.1 + 1) 100 := hj
          show mI m5 9 (j * 4 + q) = enX g (updR A.2.2 A.2.1 (roA u n g k (q0A u n g A)) j) q
          by_cases ej : j < A.2.1
          · rw [z2 j q (by omega) hq, (am4 9 _ (by rfl)).1, updR_lt ej]
            exact c4 j q (by omega) hq
          · have ej : j = A.2.1 := by omega
            rw [ej, updR_eq]
            obtain ⟨y0, y1, y2, y3⟩ := z3 (by omega)
            rw [show min A.2.1 100 = A.2.1 by omega] at y0 y1 y2 y3
            rcases (by omega : q = 0 ∨ q = 1 ∨ q = 2 ∨ q = 3) with rfl | rfl | rfl | rfl
            · exact y0
            · exact y1
            · exact y2
            · exact y3
        · show mI _ 10 x = nI (cnK (updR A.2.2 A.2.1 (roA u n g k (q0A u n g A))) x (A.2.1 + 1))
          rw [cnK_upd]
          have cx := cnK_b A.2.2 x A.2.1
          by_cases ex : x = k
          · rw [ex, rdI_eq, (a5 10 k (by rfl)).1, (am4 10 k (by rfl)).1, c5 k k6, if_pos (show (roA u n g k (q0A u n g A)).1 = k from rfl), show (1 : Int32) = nI 1 from rfl, nI_add]
          · rw [rdI_nj _ _ _ _ ex, (a5 10 x (by rfl)).1, (am4 10 x (by rfl)).1, c5 x hx, if_neg (show ¬ (roA u n g k (q0A u n g A)).1 = x from fun q => ex q.symm)]
            rfl
      · rw [if_neg (by rw [show (3 : Int32) = nI 3 from rfl, n_eq (by omega) (by decide)]; exact k3), lnA_d hκ k7 (by rw [l4A_x dz k3]; rfl), l4A_x dz k3]
        exact ⟨_, rfl, tail (agx_tr am3 (agx_mono (by rfl) fr_X5_giveUp)) (C_dd d3)⟩
