/-! L3: the tokens of a tape, as the reference takes them -/
/-- the reference's tape: n bytes u -/
def TPM (u : Nat → Nat) (n : Nat) (m : Mm) : Prop := n ≤ 600 ∧ (∀ i, u i < 256) ∧ mI m 44 11 = nI n ∧ ∀ i, i < n → (mI m 45 i) &&& 255 = nI (u i)
theorem TPM_wr {u : Nat → Nat} {n : Nat} {m : Mm} (h : TPM u n m) {p j : Nat} (hp : p ≠ 45) (hj : p = 44 → j ≠ 11) (v : Int32) : TPM u n (sI m p j v) := by
  obtain ⟨h1, h2, h4, h5⟩ := h
  refine ⟨h1, h2, ?_, fun i hi => by rw [rdI_ne _ _ _ _ (fun q => hp q.symm)]; exact h5 i hi⟩
  rw [rdI, if_neg]
  · exact h4
  · rintro ⟨rfl, rfl⟩; exact hj rfl rfl
theorem TPM_wl {u : Nat → Nat} {n : Nat} {m : Mm} (h : TPM u n m) (p j : Nat) (v : Int64) : TPM u n (sL m p j v) := h
theorem M_see {u : Nat → Nat} {n : Nat} {m : Mm} (h : TPM u n m) {i : Nat} (hi : i < n) (h10 : mI m 44 10 = nI i) : m_X12_see m = some (nI (u i)) := by
  obtain ⟨h1, h2, h4, h5⟩ := h
  unfold m_X12_see
  rw [h4, h10, if_neg (by rw [n_le (by omega) (by omega)]; omega), n_grd (by omega) (by decide), n_ix (by omega), h5 i hi]
theorem M_seeN {u : Nat → Nat} {n : Nat} {m : Mm} (h : TPM u n m) (h10 : mI m 44 10 = nI n) : m_X12_see m = some (-1) := by
  unfold m_X12_see
  have := h.1
  rw [h.2.2.1, h10, if_pos (by rw [n_le (by omega) (by omega)]; omega)]
theorem M_skip {u : Nat → Nat} {n : Nat} {m : Mm} (h : TPM u n m) {pos : Nat} (hp : pos ≤ n) (h9 : mI m 44 10 = nI pos) : ∃ m' s, whileF FU m_X12_token_b0 m = some m' ∧ skS (bk u) n pos s ∧ mI m' 44 10 = nI s ∧ TPM u n m' := by
  have n6 := h.1
  obtain ⟨m', e, s, g1, g2, g3⟩ := loop_inv (body := m_X12_token_b0) (a := m) (fun i z => mI z 44 10 = nI (pos + i) ∧ pos + i ≤ n ∧ (∀ j, pos ≤ j → j < pos + i → bk u j = true) ∧ TPM u n z) (fun z => ∃ s, skS (bk u) n pos s ∧ mI z 44 10 = nI s ∧ TPM u n z) (n - pos) (FU_big (by omega)) ⟨h9, hp, fun j h1 h2 => by omega, h⟩ (by
    rintro i z hi ⟨z9, zi, zb, zt⟩
    have hu := zt.2.1 (pos + i)
    unfold m_X12_token_b0
    rw [M_see zt (by omega) z9, ob_s, ob_s]
    have b1 : (nI (u (pos + i)) = 10) = (u (pos + i) = 10) := n_eq (b := 10) (by omega) (by decide)
    have b2' : (nI (u (pos + i)) = 32) = (u (pos + i) = 32) := n_eq (b := 32) (by omega) (by decide)
    by_cases q : u (pos + i) = 32 ∨ u (pos + i) = 10
    · left
      have e1 : (if nI (u (pos + i)) = 10 then (some (Sum.inl ()) : Option (Unit ⊕ (Mm ⊕ Mm))) else if nI (u (pos + i)) = 32 then some (Sum.inl ()) else some (Sum.inr (Sum.inr z))) = some (Sum.inl ()) := by
        rcases q with q | q
        · rw [if_pos (show nI (u (pos + i)) = 32 from b2'.mpr q), ite_self]
        · rw [if_pos (b1 ▸ q)]
      rw [e1, bs_l]
      refine ⟨_, rfl, ?_, by omega, fun j j1 j2 => ?_, TPM_wr zt (by decide) (fun _ => by decide) _⟩
      · rw [rdI_eq, z9, show (1 : Int32) = nI 1 from rfl, nI_add]; rfl
      · by_cases ej : j = pos + i
        · rw [ej]; unfold bk; exact decide_eq_true q
        · exact zb j j1 (by omega)
    · right
      rw [if_neg (fun w => q (Or.inr (b1 ▸ w))), if_neg (fun w => q (Or.inl (b2' ▸ w))), bs_r]
      exact ⟨_, rfl, pos + i, ⟨by omega, by omega, zb, Or.inr (by unfold bk; exact decide_eq_false q)⟩, z9, zt⟩) (by
    rintro z ⟨z9, zi, zb, zt⟩
    unfold m_X12_token_b0
    rw [show pos + (n - pos) = n by omega] at z9 zb
    rw [M_seeN zt z9, ob_s, ob_s, if_neg (by decide), if_neg (by decide), bs_r]
    exact ⟨_, rfl, n, ⟨by omega, by omega, zb, Or.inl rfl⟩, z9, zt⟩)
  exact ⟨m', s, e, g1, g2, g3⟩
theorem M_rng {x lo hi : Nat} (hx : x < 256) (hl : lo < 256) (hh : hi < 256) : m_X12_in (nI x) (nI lo) (nI hi) = b2 (decide (lo ≤ x ∧ x ≤ hi)) := by
  unfold m_X12_in
  by_cases q1 : x < lo
  · rw [if_pos (by rw [n_lt (by omega) (by omega)]; exact q1), decide_eq_false (by omega)]; rfl
  · rw [if_neg (by rw [n_lt (by omega) (by omega)]; exact q1)]
    by_cases q2 : hi < x
    · rw [if_pos (by rw [n_lt (by omega) (by omega)]; exact q2), decide_eq_false (by omega)]; rfl
    · rw [if_neg (by rw [n_lt (by omega) (by omega)]; exact q2), decide_eq_true (by omega)]; rfl
theorem M_numW {u : Nat → Nat} {n : Nat} {m : Mm} (h : TPM u n m) {s : Nat} (hs : s ≤ n) (h10 : mI m 44 10 = nI s) (h14 : mI m 44 14 = nI 0) : ∃ m' e, whileF FU m_X12_token_b163 (0, m) = some (nI (e - s), m') ∧ skS (dg u) n s e ∧ mI m' 44 10 = nI e ∧ mI m' 44 12 = mI m 44 12 ∧ mI m' 44 14 = nI (nvI u s (e - s)) ∧ mL m' 44 15 = mL m 44 15 ∧ TPM u n m' := by
  have n6 := h.1
  obtain ⟨r, e, m', t, hr, g1, g2, g3, g4, g5, g6⟩ := loop_inv (body := m_X12_token_b163) (a := ((0 : Int32), m)) (fun i z => ∃ w, z = (nI i, w) ∧ mI w 44 10 = nI (s + i) ∧ s + i ≤ n ∧ (∀ j, s ≤ j → j < s + i → dg u j = true) ∧ mI w 44 14 = nI (nvI u s i) ∧ mI w 44 12 = mI m 44 12 ∧ mL w 44 15 = mL m 44 15 ∧ TPM u n w) (fun r => ∃ w e, r = (nI (e - s), w) ∧ skS (dg u) n s e ∧ mI w 44 10 = nI e ∧ mI w 44 12 = mI m 44 12 ∧ mI w 44 14 = nI (nvI u s (e - s)) ∧ mL w 44 15 = mL m 44 15 ∧ TPM u n w) (n - s) (FU_big (by omega)) ⟨m, rfl, h10, hs, fun j h1 h2 => by omega, h14, rfl, rfl, h⟩ (by
    rintro i z hi ⟨w, rfl, z9, zi, zb, z8, zs, zl, zt⟩
    unfold m_X12_token_b163
    simp only
    rw [M_see zt (by omega) z9, ob_s, show (48 : Int32) = nI 48 from rfl, show (57 : Int32) = nI 57 from rfl, M_rng (zt.2.1 _) (by decide) (by decide)]
    cases q : decide (48 ≤ u (s + i) ∧ u (s + i) ≤ 57) with
    | true =>
      left
      have q' := q
      rw [decide_eq_true_eq] at q'
      rw [if_neg i2t, z8, ob_s]
      have ev : (if (2 : Int32) ≤ nI i then some (nI (nvI u s i)) else some (10 * nI (nvI u s i) + nI (u (s + i)) - nI 48)) = some (nI (nvI u s (i + 1))) := by
        by_cases i2 : 2 ≤ i
        · rw [if_pos (by rw [show (2 : Int32) = nI 2 from rfl, n_le (by omega) (by omega)]; exact i2)]
          unfold nvI
          rw [if_neg (by omega), if_neg (by omega), if_neg (by omega), if_neg (by omega)]
        · rw [if_neg (by rw [show (2 : Int32) = nI 2 from rfl, n_le (by omega) (by omega)]; exact i2), show (10 : Int32) = nI 10 from rfl, n_mul, nI_add, n_sub (by omega)]
          rcases (by omega : i = 0 ∨ i = 1) with rfl | rfl
          · unfold nvI
            simp only [if_true, Nat.add_zero, Nat.mul_zero, Nat.zero_add, if_neg (show ¬ 1 = 0 by decide)]
          · unfold nvI
            simp only [if_true, if_neg (show ¬ 1 = 0 by decide), if_neg (show ¬ 1 + 1 = 0 by decide), if_neg (show ¬ 1 + 1 = 1 by decide)]
            congr 2
            omega
      rw [ev, ob_s]
      refine ⟨_, rfl, _, Prod.ext (show nI i + 1 = nI (i + 1) by rw [show (1 : Int32) = nI 1 from rfl, nI_add]) rfl, ?_, by omega, fun j j1 j2 => ?_, ?_, ?_, zl, TPM_wr (TPM_wr zt (by decide) (fun _ => by decide) _) (by decide) (fun _ => by decide) _⟩
      · rw [rdI_eq, rdI_nj _ _ _ _ (by decide), z9, show (1 : Int32) = nI 1 from rfl, nI_add]; rfl
      · by_cases ej : j = s + i
        · rw [ej]; exact q
        · exact zb j j1 (by omega)
      · rw [rdI_nj _ _ _ _ (by decide), rdI_eq]
      · rw [rdI_nj _ _ _ _ (by decide), rdI_nj _ _ _ _ (by decide)]; exact zs
    | false =>
      right
      rw [if_pos i2f]
      exact ⟨_, rfl, w, s + i, by rw [show s + i - s = i by omega], ⟨by omega, by omega, zb, Or.inr q⟩, z9, zs, by rw [show s + i - s = i by omega]; exact z8, zl, zt⟩) (by
    rintro z ⟨w, rfl, z9, zi, zb, z8, zs, zl, zt⟩
    unfold m_X12_token_b163
    simp only
    rw [show s + (n - s) = n by omega] at z9 zb
    rw [M_seeN zt z9, ob_s, if_pos (by decide)]
    exact ⟨_, rfl, w, n, rfl, ⟨by omega, by omega, zb, Or.inl rfl⟩, z9, zs, z8, zl, zt⟩)
  subst hr
  exact ⟨m', t, e, g1, g2, g3, g4, g5, g6⟩
/-- the letters from s on, packed -/
def pk (u : Nat → Nat) (s : Nat) : Nat → Int64
  | 0 => 0
  | i + 1 => (xlshl (pk u s i) 8) ||| (nI (u (s + i))).toInt64
theorem rdL_eq (m : Mm) (p j : Nat) (v : Int64) : mL (sL m p j v) p j = v := by
  show (if p = p ∧ j = j then v else mL m p j) = v
  rw [if_pos ⟨rfl, rfl⟩]
theorem M_wordW {u : Nat → Nat} {n : Nat} {m : Mm} (h : TPM u n m) {s : Nat} (hs : s ≤ n) (h10 : mI m 44 10 = nI s) (h15 : mL m 44 15 = 0) : ∃ m' e, whileF FU m_X12_token_b74 (0, m) = some (nI (e - s), m') ∧ skS (lt u) n s e ∧ mI m' 44 10 = nI e ∧ mI m' 44 12 = mI m 44 12 ∧ mL m' 44 15 = pk u s (e - s) ∧ TPM u n m' := by
  have n6 := h.1
  obtain ⟨r, e, m', t, hr, g1, g2, g3, g4, g5⟩ := loop_inv (body := m_X12_token_b74) (a := ((0 : Int32), m)) (fun i z => ∃ w, z = (nI i, w) ∧ mI w 44 10 = nI (s + i) ∧ s + i ≤ n ∧ (∀ j, s ≤ j → j < s + i → lt u j = true) ∧ mI w 44 12 = mI m 44 12 ∧ mL w 44 15 = pk u s i ∧ TPM u n w) (fun r => ∃ w e, r = (nI (e - s), w) ∧ skS (lt u) n s e ∧ mI w 44 10 = nI e ∧ mI w 44 12 = mI m 44 12 ∧ mL w 44 15 = pk u s (e - s) ∧ TPM u n w) (n - s) (FU_big (by omega)) ⟨m, rfl, h10, hs, fun j h1 h2 => by omega, rfl, h15, h⟩ (by
    rintro i z hi ⟨w, rfl, z9, zi, zb, zs, zl, zt⟩
    unfold m_X12_token_b74
    simp only
    rw [M_see zt (by omega) z9, ob_s, show (97 : Int32) = nI 97 from rfl, show (122 : Int32) = nI 122 from rfl, M_rng (zt.2.1 _) (by decide) (by decide)]
    cases q : decide (97 ≤ u (s + i) ∧ u (s + i) ≤ 122) with
    | true =>
      left
      rw [if_neg i2t, ob_s]
      refine ⟨_, rfl, _, Prod.ext (show nI i + 1 = nI (i + 1) by rw [show (1 : Int32) = nI 1 from rfl, nI_add]) rfl, ?_, by omega, fun j j1 j2 => ?_, ?_, ?_, TPM_wr (TPM_wl zt _ _ _) (by decide) (fun _ => by decide) _⟩
      · rw [rdI_eq, rdI_L, z9, show (1 : Int32) = nI 1 from rfl, nI_add]; rfl
      · by_cases ej : j = s + i
        · rw [ej]; exact q
        · exact zb j j1 (by omega)
      · rw [rdI_nj _ _ _ _ (by decide), rdI_L]; exact zs
      · rw [rdL_I, rdL_eq, zl]; rfl
    | false =>
      right
      rw [if_pos i2f]
      exact ⟨_, rfl, w, s + i, by rw [show s + i - s = i by omega], ⟨by omega, by omega, zb, Or.inr q⟩, z9, zs, by rw [show s + i - s = i by omega]; exact zl, zt⟩) (by
    rintro z ⟨w, rfl, z9, zi, zb, zs, zl, zt⟩
    unfold m_X12_token_b74
    simp only
    rw [show s + (n - s) = n by omega] at z9 zb
    rw [M_seeN zt z9, ob_s, if_pos (by decide)]
    exact ⟨_, rfl, w, n, rfl, ⟨by omega, by omega, zb, Or.inl rfl⟩, z9, zs, zl, zt⟩)
  subst hr
  exact ⟨m', t, e, g1, g2, g3, g4, g5⟩
/-- the reference's name of a kind of token -/
def kM (k : Nat) : Nat := if k = 0 then 0 else if k = 1 then 2 else if k = 2 then 3 else if k = 3 then 4 else 1
theorem M_token {u : Nat → Nat} {n : Nat} {m : Mm} (h : TPM u n m) {pos : Nat} (hp : pos ≤ n) (h10 : mI m 44 10 = nI pos) : ∃ m' k s e, m_X12_token m = some m' ∧ tokS u n pos k s e ∧ mI m' 44 13 = nI (kM k) ∧ mI m' 44 12 = nI s ∧ mI m' 44 10 = nI e ∧ (k = 2 → mI m' 44 14 = nI (nvI u s (e - s))) ∧ mL m' 44 15 = (if k = 1 ∧ e - s ≤ 8 then pk u s (e - s) else 0) ∧ TPM u n m' := by
  have n6 := h.1
  obtain ⟨m1, s, e1, k1, s10, t1⟩ := M_skip h hp h10
  have sn := k1.2.1
  have t2 : TPM u n (sI m1 44 12 (mI m1 44 10)) := TPM_wr t1 (by decide) (fun _ => by decide) _
  have q12 : mI (sI m1 44 12 (mI m1 44 10)) 44 12 = nI s := by rw [rdI_eq]; exact s10
  have q10 : mI (sI m1 44 12 (mI m1 44 10)) 44 10 = nI s := by rw [rdI_nj _ _ _ _ (by decide)]; exact s10
  unfold m_X12_token
  rw [e1, ob_s]
  generalize sI m1 44 12 (mI m1 44 10) = z at *
  by_cases hs : s < n
  · have hu := t2.2.1 s
    rw [M_see t2 hs q10, ob_s, if_pos (by rw [show (0 : Int32) = nI 0 from rfl, n_le (by decide) (by omega)]; omega), show (97 : Int32) = nI 97 from rfl, show (122 : Int32) = nI 122 from rfl, M_rng hu (by decide) (by decide), show (48 : Int32) = nI 48 from rfl, show (57 : Int32) = nI 57 from rfl, M_rng hu (by decide) (by decide)]
    have tL := TPM_wl t2 44 15 (0 : Int64)
    cases ql : decide (97 ≤ u s ∧ u s ≤ 122) with
    | true =>
      rw [if_neg i2t]
      obtain ⟨m3, e, e3, k3, w10, w12, w15, t3⟩ := M_wordW tL (s := s) (by omega) q10 (rdL_eq _ _ _ _)
      have es := k3.1
      have en := k3.2.1
      rw [e3, ob_s]
      refine ⟨_, 1, s, e, rfl, ⟨k1, Or.inr (Or.inl ⟨hs, ql, rfl, k3⟩)⟩, by rw [rdI_eq]; rfl, ?_, ?_, fun q => by omega, ?_, TPM_wr (TPM_wl t3 _ _ _) (by decide) (fun _ => by decide) _⟩
      · rw [rdI_nj _ _ _ _ (by decide), rdI_L]; exact w12.trans q12
      · rw [rdI_nj _ _ _ _ (by decide), rdI_L]; exact w10
      · rw [rdL_I, rdL_eq, w15]
        by_cases q8 : e - s ≤ 8
        · rw [if_pos (show nI (e - s) ≤ 8 by rw [show (8 : Int32) = nI 8 from rfl, n_le (by omega) (by decide)]; exact q8), if_pos ⟨rfl, q8⟩]
        · rw [if_neg (show ¬ nI (e - s) ≤ 8 by rw [show (8 : Int32) = nI 8 from rfl, n_le (by omega) (by decide)]; exact q8), if_neg (fun q => q8 q.2)]
    | false =>
      rw [if_pos i2f]
      cases qd : decide (48 ≤ u s ∧ u s ≤ 57) with
      | true =>
        rw [if_neg i2t]
        obtain ⟨m3, e, e3, k3, w10, w12, w14, w15, t3⟩ := M_numW (TPM_wr tL (p := 44) (j := 14) (by decide) (fun _ => by decide) 0) (s := s) (by omega) (by rw [rdI_nj _ _ _ _ (by decide)]; exact q10) (rdI_eq _ _ _ _)
        have es := k3.1
        have en := k3.2.1
        rw [e3, ob_s]
        refine ⟨_, (if e - s ≤ 2 then 2 else 4), s, e, rfl, ⟨k1, Or.inr (Or.inr (Or.inl ⟨hs, qd, k3, rfl⟩))⟩, ?_, ?_, ?_, fun _ => ?_, ?_, TPM_wr t3 (by decide) (fun _ => by decide) _⟩
        · rw [rdI_eq]
          by_cases q : e - s ≤ 2
          · rw [if_pos q, if_pos (show nI (e - s) ≤ 2 by rw [show (2 : Int32) = nI 2 from rfl, n_le (by omega) (by decide)]; exact q)]; rfl
          · rw [if_neg q, if_neg (show ¬ nI (e - s) ≤ 2 by rw [show (2 : Int32) = nI 2 from rfl, n_le (by omega) (by decide)]; exact q)]; rfl
        · rw [rdI_nj _ _ _ _ (by decide), w12, rdI_nj _ _ _ _ (by decide), rdI_L]; exact q12
        · rw [rdI_nj _ _ _ _ (by decide)]; exact w10
        · rw [rdI_nj _ _ _ _ (by decide)]; exact w14
        · rw [rdL_I, w15, rdL_I, rdL_eq, if_neg]
          rintro ⟨q, _⟩
          by_cases w : e - s ≤ 2
          · rw [if_pos w] at q; omega
          · rw [if_neg w] at q; omega
      | false =>
        rw [if_pos i2f]
        have b : (nI (u s) = 59) = (u s = 59) := n_eq (b := 59) (by omega) (by decide)
        by_cases q : u s = 59
        · rw [if_pos (b.mpr q)]
          refine ⟨_, 3, s, s + 1, rfl, ⟨k1, Or.inr (Or.inr (Or.inr ⟨hs, ql, qd, rfl, by rw [if_pos q]⟩))⟩, by rw [rdI_eq]; rfl, ?_, ?_, fun w => by omega, ?_, TPM_wr (TPM_wr tL (by decide) (fun _ => by decide) _) (by decide) (fun _ => by decide) _⟩
          · rw [rdI_nj _ _ _ _ (by decide), rdI_nj _ _ _ _ (by decide), rdI_L]; exact q12
          · rw [rdI_nj _ _ _ _ (by decide), rdI_eq, rdI_L, q10, show (1 : Int32) = nI 1 from rfl, nI_add]
          · rw [rdL_I, rdL_I, rdL_eq, if_neg (by omega)]
        · rw [if_neg (fun w => q (b.mp w))]
          refine ⟨_, 4, s, s + 1, rfl, ⟨k1, Or.inr (Or.inr (Or.inr ⟨hs, ql, qd, rfl, by rw [if_neg q]⟩))⟩, by rw [rdI_eq]; rfl, ?_, ?_, fun w => by omega, ?_, TPM_wr (TPM_wr tL (by decide) (fun _ => by decide) _) (by decide) (fun _ => by decide) _⟩
          · rw [rdI_nj _ _ _ _ (by decide), rdI_nj _ _ _ _ (by decide), rdI_L]; exact q12
          · rw [rdI_nj _ _ _ _ (by decide), rdI_eq, rdI_L, q10, show (1 : Int32) = nI 1 from rfl, nI_add]
          · rw [rdL_I, rdL_I, rdL_eq, if_neg (by omega)]
  · have es : s = n := by omega
    subst es
    rw [M_seeN t2 q10, ob_s, if_neg (by decide)]
    refine ⟨_, 0, s, s, rfl, ⟨k1, Or.inl ⟨rfl, rfl, rfl⟩⟩, by rw [rdI_eq]; rfl, ?_, ?_, fun q => by omega, ?_, TPM_wr (TPM_wl t2 _ _ _) (by decide) (fun _ => by decide) _⟩
    · rw [rdI_nj _ _ _ _ (by decide), rdI_L]; exact q12
    · rw [rdI_nj _ _ _ _ (by decide), rdI_L]; exact q10
    · rw [rdL_I, rdL_eq, if_neg (by omega)]
