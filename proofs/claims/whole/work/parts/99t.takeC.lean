/-! L3: the class builds a county out of lines -/
theorem VO_0 {W : Cn} {a : Nat} {m : Mm} (h : VO W a m) (x y : Nat) : VO (tk0 W x y) a (sI (sI (sI m (a + 1 + 0) (fk W) (nI x)) (a + 1 + 1) (fk W) (nI y)) a 8 (nI (fk W + 1))) := by
  obtain ⟨h0, h9, h1, h2, h3, h4, h5, h6, h7, h8⟩ := h
  refine ⟨rdI_eq _ _ _ _, ?_, fun p hp => ?_, fun p hp => ?_, fun p hp => ?_, fun p hp => ?_, fun p hp => ?_, fun p hp => ?_, fun p hp => ?_, fun p hp => ?_⟩
  · rw [rdI_nj _ _ _ _ (by decide), rdI_ne _ _ _ _ (by omega), rdI_ne _ _ _ _ (by omega)]; exact h9
  · rw [rdI_ne _ _ _ _ (by omega), rdI_ne _ _ _ _ (by omega)]
    by_cases e : p = fk W
    · rw [e, rdI, if_pos ⟨rfl, rfl⟩]; show nI x = nI (tk0 W x y 1 (W 0 0)); unfold tk0; rw [if_neg (by omega), if_pos ⟨rfl, rfl⟩]
    · rw [rdI_nj _ _ _ _ e, h1 p hp]; show nI (W 1 p) = nI (tk0 W x y 1 p); unfold tk0; rw [if_neg (by omega), if_neg (fun q => e q.2), if_neg (by omega)]
  · rw [rdI_ne _ _ _ _ (by omega)]
    by_cases e : p = fk W
    · rw [e, rdI, if_pos ⟨rfl, rfl⟩]; show nI y = nI (tk0 W x y 2 (W 0 0)); unfold tk0; rw [if_neg (by omega), if_neg (by omega), if_pos ⟨rfl, rfl⟩]
    · rw [rdI_nj _ _ _ _ e, rdI_ne _ _ _ _ (by omega), h2 p hp]; show nI (W 2 p) = nI (tk0 W x y 2 p); unfold tk0; rw [if_neg (by omega), if_neg (by omega), if_neg (fun q => e q.2)]
  · rw [rdI_ne _ _ _ _ (by omega), rdI_ne _ _ _ _ (by omega), rdI_ne _ _ _ _ (by omega)]; exact h3 p hp
  · rw [rdI_ne _ _ _ _ (by omega), rdI_ne _ _ _ _ (by omega), rdI_ne _ _ _ _ (by omega)]; exact h4 p hp
  · rw [rdI_ne _ _ _ _ (by omega), rdI_ne _ _ _ _ (by omega), rdI_ne _ _ _ _ (by omega)]; exact h5 p hp
  · rw [rdI_ne _ _ _ _ (by omega), rdI_ne _ _ _ _ (by omega), rdI_ne _ _ _ _ (by omega)]; exact h6 p hp
  · rw [rdI_ne _ _ _ _ (by omega), rdI_ne _ _ _ _ (by omega), rdI_ne _ _ _ _ (by omega)]; exact h7 p hp
  · rw [rdI_ne _ _ _ _ (by omega), rdI_ne _ _ _ _ (by omega), rdI_ne _ _ _ _ (by omega)]; exact h8 p hp
theorem VO_1 {W : Cn} {a : Nat} {m : Mm} (h : VO W a m) (x y : Nat) : VO (tk1 W x y) a (sI m (a + 1 + 3) x (nI y)) := by
  obtain ⟨h0, h9, h1, h2, h3, h4, h5, h6, h7, h8⟩ := h
  refine ⟨?_, ?_, fun p hp => ?_, fun p hp => ?_, fun p hp => ?_, fun p hp => ?_, fun p hp => ?_, fun p hp => ?_, fun p hp => ?_, fun p hp => ?_⟩
  · rw [rdI_ne _ _ _ _ (by omega)]; exact h0
  · rw [rdI_ne _ _ _ _ (by omega)]; exact h9
  · rw [rdI_ne _ _ _ _ (by omega)]; exact h1 p hp
  · rw [rdI_ne _ _ _ _ (by omega)]; exact h2 p hp
  · rw [rdI_ne _ _ _ _ (by omega)]; exact h3 p hp
  · by_cases e : p = x
    · rw [e, rdI, if_pos ⟨rfl, rfl⟩]; show nI y = nI (tk1 W x y 5 x); unfold tk1; rw [if_pos ⟨rfl, rfl⟩]
    · rw [rdI_nj _ _ _ _ e, h4 p hp]; show nI (W 5 p) = nI (tk1 W x y 5 p); unfold tk1; rw [if_neg (fun q => e q.2)]
  · rw [rdI_ne _ _ _ _ (by omega)]; exact h5 p hp
  · rw [rdI_ne _ _ _ _ (by omega)]; exact h6 p hp
  · rw [rdI_ne _ _ _ _ (by omega)]; exact h7 p hp
  · rw [rdI_ne _ _ _ _ (by omega)]; exact h8 p hp
theorem VO_2 {W : Cn} {a : Nat} {m : Mm} (h : VO W a m) (x y : Nat) : VO (tk2 W x y) a (sI (sI m (a + 1 + 4) x (nI (cl W x ||| 2 ^ y))) (a + 1 + 4) y (nI (cl W y ||| 2 ^ x))) := by
  obtain ⟨h0, h9, h1, h2, h3, h4, h5, h6, h7, h8⟩ := h
  refine ⟨?_, ?_, fun p hp => ?_, fun p hp => ?_, fun p hp => ?_, fun p hp => ?_, fun p hp => ?_, fun p hp => ?_, fun p hp => ?_, fun p hp => ?_⟩
  · rw [rdI_ne _ _ _ _ (by omega), rdI_ne _ _ _ _ (by omega)]; exact h0
  · rw [rdI_ne _ _ _ _ (by omega), rdI_ne _ _ _ _ (by omega)]; exact h9
  · rw [rdI_ne _ _ _ _ (by omega), rdI_ne _ _ _ _ (by omega)]; exact h1 p hp
  · rw [rdI_ne _ _ _ _ (by omega), rdI_ne _ _ _ _ (by omega)]; exact h2 p hp
  · rw [rdI_ne _ _ _ _ (by omega), rdI_ne _ _ _ _ (by omega)]; exact h3 p hp
  · rw [rdI_ne _ _ _ _ (by omega), rdI_ne _ _ _ _ (by omega)]; exact h4 p hp
  · by_cases e : p = y
    · rw [e, rdI, if_pos ⟨rfl, rfl⟩]; show _ = nI (tk2 W x y 6 y); unfold tk2; rw [if_pos ⟨rfl, rfl⟩]
    · rw [rdI_nj _ _ _ _ e]
      by_cases e2 : p = x
      · rw [e2, rdI, if_pos ⟨rfl, rfl⟩]; show _ = nI (tk2 W x y 6 x); unfold tk2; rw [if_neg (fun q => e (e2.trans q.2)), if_pos ⟨rfl, rfl⟩]
      · rw [rdI_nj _ _ _ _ e2, h5 p hp]; show nI (W 6 p) = nI (tk2 W x y 6 p); unfold tk2; rw [if_neg (fun q => e q.2), if_neg (fun q => e2 q.2)]
  · rw [rdI_ne _ _ _ _ (by omega), rdI_ne _ _ _ _ (by omega)]; exact h6 p hp
  · rw [rdI_ne _ _ _ _ (by omega), rdI_ne _ _ _ _ (by omega)]; exact h7 p hp
  · rw [rdI_ne _ _ _ _ (by omega), rdI_ne _ _ _ _ (by omega)]; exact h8 p hp
theorem VO_3 {W : Cn} {a : Nat} {m : Mm} (h : VO W a m) (x y : Nat) : VO (tk3 W x y) a (sI m (a + 1 + 2) x (nI (lk W x ||| 2 ^ y))) := by
  obtain ⟨h0, h9, h1, h2, h3, h4, h5, h6, h7, h8⟩ := h
  refine ⟨?_, ?_, fun p hp => ?_, fun p hp => ?_, fun p hp => ?_, fun p hp => ?_, fun p hp => ?_, fun p hp => ?_, fun p hp => ?_, fun p hp => ?_⟩
  · rw [rdI_ne _ _ _ _ (by omega)]; exact h0
  · rw [rdI_ne _ _ _ _ (by omega)]; exact h9
  · rw [rdI_ne _ _ _ _ (by omega)]; exact h1 p hp
  · rw [rdI_ne _ _ _ _ (by omega)]; exact h2 p hp
  · by_cases e : p = x
    · rw [e, rdI, if_pos ⟨rfl, rfl⟩]; show _ = nI (tk3 W x y 3 x); unfold tk3; rw [if_pos ⟨rfl, rfl⟩]
    · rw [rdI_nj _ _ _ _ e, h3 p hp]; show nI (W 3 p) = nI (tk3 W x y 3 p); unfold tk3; rw [if_neg (fun q => e q.2)]
  · rw [rdI_ne _ _ _ _ (by omega)]; exact h4 p hp
  · rw [rdI_ne _ _ _ _ (by omega)]; exact h5 p hp
  · rw [rdI_ne _ _ _ _ (by omega)]; exact h6 p hp
  · rw [rdI_ne _ _ _ _ (by omega)]; exact h7 p hp
  · rw [rdI_ne _ _ _ _ (by omega)]; exact h8 p hp
theorem VO_4 {W : Cn} {a : Nat} {m : Mm} (h : VO W a m) (x y z : Nat) : VO (tk4 W x y z) a (sI (sI (sI (sI m (a + 1 + 5) (oa W) (nI x)) (a + 1 + 6) (oa W) (nI y)) (a + 1 + 7) (oa W) (nI z)) a 9 (nI (oa W + 1))) := by
  obtain ⟨h0, h9, h1, h2, h3, h4, h5, h6, h7, h8⟩ := h
  refine ⟨?_, rdI_eq _ _ _ _, fun p hp => ?_, fun p hp => ?_, fun p hp => ?_, fun p hp => ?_, fun p hp => ?_, fun p hp => ?_, fun p hp => ?_, fun p hp => ?_⟩
  · rw [rdI_nj _ _ _ _ (by decide), rdI_ne _ _ _ _ (by omega), rdI_ne _ _ _ _ (by omega), rdI_ne _ _ _ _ (by omega)]; exact h0
  · rw [rdI_ne _ _ _ _ (by omega), rdI_ne _ _ _ _ (by omega), rdI_ne _ _ _ _ (by omega), rdI_ne _ _ _ _ (by omega)]; exact h1 p hp
  · rw [rdI_ne _ _ _ _ (by omega), rdI_ne _ _ _ _ (by omega), rdI_ne _ _ _ _ (by omega), rdI_ne _ _ _ _ (by omega)]; exact h2 p hp
  · rw [rdI_ne _ _ _ _ (by omega), rdI_ne _ _ _ _ (by omega), rdI_ne _ _ _ _ (by omega), rdI_ne _ _ _ _ (by omega)]; exact h3 p hp
  · rw [rdI_ne _ _ _ _ (by omega), rdI_ne _ _ _ _ (by omega), rdI_ne _ _ _ _ (by omega), rdI_ne _ _ _ _ (by omega)]; exact h4 p hp
  · rw [rdI_ne _ _ _ _ (by omega), rdI_ne _ _ _ _ (by omega), rdI_ne _ _ _ _ (by omega), rdI_ne _ _ _ _ (by omega)]; exact h5 p hp
  · rw [rdI_ne _ _ _ _ (by omega), rdI_ne _ _ _ _ (by omega), rdI_ne _ _ _ _ (by omega)]
    by_cases e : p = oa W
    · rw [e, rdI, if_pos ⟨rfl, rfl⟩]; show nI x = nI (tk4 W x y z 7 (W 0 1)); unfold tk4; rw [if_neg (by omega), if_pos ⟨rfl, rfl⟩]
    · rw [rdI_nj _ _ _ _ e, h6 p hp]; show nI (W 7 p) = nI (tk4 W x y z 7 p); unfold tk4; rw [if_neg (by omega), if_neg (fun q => e q.2), if_neg (by omega), if_neg (by omega)]
  · rw [rdI_ne _ _ _ _ (by omega), rdI_ne _ _ _ _ (by omega)]
    by_cases e : p = oa W
    · rw [e, rdI, if_pos ⟨rfl, rfl⟩]; show nI y = nI (tk4 W x y z 8 (W 0 1)); unfold tk4; rw [if_neg (by omega), if_neg (by omega), if_pos ⟨rfl, rfl⟩]
    · rw [rdI_nj _ _ _ _ e, rdI_ne _ _ _ _ (by omega), h7 p hp]; show nI (W 8 p) = nI (tk4 W x y z 8 p); unfold tk4; rw [if_neg (by omega), if_neg (by omega), if_neg (fun q => e q.2), if_neg (by omega)]
  · rw [rdI_ne _ _ _ _ (by omega)]
    by_cases e : p = oa W
    · rw [e, rdI, if_pos ⟨rfl, rfl⟩]; show nI z = nI (tk4 W x y z 9 (W 0 1)); unfold tk4; rw [if_neg (by omega), if_neg (by omega), if_neg (by omega), if_pos ⟨rfl, rfl⟩]
    · rw [rdI_nj _ _ _ _ e, rdI_ne _ _ _ _ (by omega), rdI_ne _ _ _ _ (by omega), h8 p hp]; show nI (W 9 p) = nI (tk4 W x y z 9 p); unfold tk4; rw [if_neg (by omega), if_neg (by omega), if_neg (by omega), if_neg (fun q => e q.2)]
theorem okD_r {d : Nat × Nat × Nat × Nat} (h : okD 0 d) : d.1 < 5 ∧ enX 0 d 1 = nI d.2.1 ∧ enX 0 d 2 = nI d.2.2.1 ∧ (d.1 = 0 → d.2.1 ≤ 9 ∧ d.2.2.1 ≤ 4) ∧ (d.1 = 1 → d.2.1 ≤ 7 ∧ d.2.2.1 ≤ 9) ∧ (d.1 = 2 → d.2.1 ≤ 7 ∧ d.2.2.1 ≤ 7 ∧ d.2.1 ≠ d.2.2.1) ∧ (d.1 = 3 → d.2.1 ≤ 5 ∧ d.2.2.1 ≤ 5 ∧ d.2.1 ≠ d.2.2.1) ∧ (d.1 = 4 → enX 0 d 3 = nI d.2.2.2 ∧ d.2.1 ≤ 5 ∧ d.2.2.1 ≤ 5 ∧ d.2.1 ≠ d.2.2.1 ∧ d.2.2.2 ≤ 7) := by
  obtain ⟨h1, h2, h3, h4⟩ := h
  have k5 := k_okD _ h1 h2
  have ln : ∀ k, k < 5 → 1 < lnN (sgN 0 k) := by decide +kernel
  have l1 := ln _ k5
  have x0 : d.2.1 ≤ hiN (sgN 0 d.1) 0 := h3 0 (by omega)
  have x1 : d.2.2.1 ≤ hiN (sgN 0 d.1) 1 := h3 1 l1
  have tc := h4 l1
  refine ⟨k5, by rw [enX_1, if_pos (by omega)], by rw [enX_2, if_pos l1], fun e => ?_, fun e => ?_, fun e => ?_, fun e => ?_, fun e => ?_⟩
  · rw [e] at x0 x1
    rw [show hiN (sgN 0 0) 0 = 9 by decide +kernel] at x0
    rw [show hiN (sgN 0 0) 1 = 4 by decide +kernel] at x1
    exact ⟨x0, x1⟩
  · rw [e] at x0 x1
    rw [show hiN (sgN 0 1) 0 = 7 by decide +kernel] at x0
    rw [show hiN (sgN 0 1) 1 = 9 by decide +kernel] at x1
    exact ⟨x0, x1⟩
  · rw [e] at x0 x1 tc
    rw [show hiN (sgN 0 2) 0 = 7 by decide +kernel] at x0
    rw [show hiN (sgN 0 2) 1 = 7 by decide +kernel] at x1
    exact ⟨x0, x1, tc (by decide +kernel)⟩
  · rw [e] at x0 x1 tc
    rw [show hiN (sgN 0 3) 0 = 5 by decide +kernel] at x0
    rw [show hiN (sgN 0 3) 1 = 5 by decide +kernel] at x1
    exact ⟨x0, x1, tc (by decide +kernel)⟩
  · have l2 : 2 < lnN (sgN 0 d.1) := by rw [e]; decide +kernel
    have x2 : d.2.2.2 ≤ hiN (sgN 0 d.1) 2 := h3 2 l2
    refine ⟨by rw [enX_3, if_pos l2], ?_⟩
    rw [e] at x0 x1 x2 tc
    rw [show hiN (sgN 0 4) 0 = 5 by decide +kernel] at x0
    rw [show hiN (sgN 0 4) 1 = 5 by decide +kernel] at x1
    rw [show hiN (sgN 0 4) 2 = 7 by decide +kernel] at x2
    exact ⟨x0, x1, tc (by decide +kernel), x2⟩
theorem C_take {W : Cn} {a : Nat} {m : Mm} (h : VO W a m) {d : Nat × Nat × Nat × Nat} (hd : okD 0 d) (h0 : d.1 = 0 → fk W < 6) (h4 : d.1 = 4 → oa W < 12) : ∃ m', m_X2_take a (enX 0 d 0) (enX 0 d 1) (enX 0 d 2) (enX 0 d 3) m = some m' ∧ VO (tkW W d) a m' ∧ ∀ p j, p < a → mI m' p j = mI m p j := by
  obtain ⟨k5, e1, e2, o0, o1, o2, o3, o4⟩ := okD_r hd
  rw [enX_0, e1, e2]
  unfold m_X2_take
  rcases (by omega : d.1 = 0 ∨ d.1 = 1 ∨ d.1 = 2 ∨ d.1 = 3 ∨ d.1 = 4) with e | e | e | e | e
  · have c6 := h0 e
    rw [e, if_pos (by rfl), tkW_0 e]
    simp (disch := omega) only [h.1, rdI_ne, n_grd, n_ix, zz_1, nI_add]
    exact ⟨_, rfl, VO_0 h _ _, fun p j hp => by rw [rdI_ne _ _ _ _ (by omega), rdI_ne _ _ _ _ (by omega), rdI_ne _ _ _ _ (by omega)]⟩
  · obtain ⟨x0, x1⟩ := o1 e
    rw [e, if_neg (by decide), if_pos (by rfl), tkW_1 e, n_grd (by omega) (by decide), n_ix (by omega)]
    exact ⟨_, rfl, VO_1 h _ _, fun p j hp => by rw [rdI_ne _ _ _ _ (by omega)]⟩
  · obtain ⟨x0, x1, x2⟩ := o2 e
    rw [e, if_neg (by decide), if_neg (by decide), if_pos (by rfl), tkW_2 e]
    simp (disch := omega) only [n_grd, n_ix, zz_1, n_shl1, rdI_nj]
    have c0 : mI m (a + 1 + 4) d.2.1 = nI (cl W d.2.1) := h.2.2.2.2.2.2.1 _ (by omega)
    have c1 : mI m (a + 1 + 4) d.2.2.1 = nI (cl W d.2.2.1) := h.2.2.2.2.2.2.1 _ (by omega)
    rw [c0, c1, fa_or, fa_or]
    exact ⟨_, rfl, VO_2 h _ _, fun p j hp => by rw [rdI_ne _ _ _ _ (by omega), rdI_ne _ _ _ _ (by omega)]⟩
  · obtain ⟨x0, x1, x2⟩ := o3 e
    rw [e, if_neg (by decide), if_neg (by decide), if_neg (by decide), if_pos (by rfl), tkW_3 e]
    simp (disch := omega) only [n_grd, n_ix, zz_1, n_shl1]
    have c0 : mI m (a + 1 + 2) d.2.1 = nI (lk W d.2.1) := h.2.2.2.2.1 _ (by omega)
    rw [c0, fa_or]
    exact ⟨_, rfl, VO_3 h _ _, fun p j hp => by rw [rdI_ne _ _ _ _ (by omega)]⟩
  · obtain ⟨y3, x0, x1, x2, x3⟩ := o4 e
    have c12 := h4 e
    rw [e, y3, if_neg (by decide), if_neg (by decide), if_neg (by decide), if_neg (by decide), tkW_4 e]
    simp (disch := omega) only [h.2.1, rdI_ne, n_grd, n_ix, zz_1, nI_add]
    exact ⟨_, rfl, VO_4 h _ _ _, fun p j hp => by rw [rdI_ne _ _ _ _ (by omega), rdI_ne _ _ _ _ (by omega), rdI_ne _ _ _ _ (by omega), rdI_ne _ _ _ _ (by omega)]⟩
