/-! L3: words and numbers of a tape, by the class -/
theorem C_word {u : Nat → Nat} {n : Nat} {S : Sk} {m : Mm} (h : TPC u n S m) {s : Nat} (hs : s ≤ n) (h10 : mI m 7 10 = nI s) : ∃ m' e, whileF FU (m_X5_nextToken_b103 S) m = some m' ∧ skS (lt u) n s e ∧ mI m' 7 10 = nI e ∧ mI m' 7 8 = mI m 7 8 ∧ mI m' 7 9 = mI m 7 9 ∧ TPC u n S m' := by
  have n6 := h.1
  obtain ⟨m', e, t, g1, g2, g3, g4, g5⟩ := loop_inv (body := m_X5_nextToken_b103 S) (a := m) (fun i z => mI z 7 10 = nI (s + i) ∧ s + i ≤ n ∧ (∀ j, s ≤ j → j < s + i → lt u j = true) ∧ mI z 7 8 = mI m 7 8 ∧ mI z 7 9 = mI m 7 9 ∧ TPC u n S z) (fun z => ∃ e, skS (lt u) n s e ∧ mI z 7 10 = nI e ∧ mI z 7 8 = mI m 7 8 ∧ mI z 7 9 = mI m 7 9 ∧ TPC u n S z) (n - s) (FU_big (by omega)) ⟨h10, hs, fun j h1 h2 => by omega, rfl, rfl, h⟩ (by
    rintro i z hi ⟨z9, zi, zb, z8, zs, zt⟩
    unfold m_X5_nextToken_b103
    rw [zt.2.2.2.1, z9, if_neg (by rw [n_le (by omega) (by omega)]; omega), C_isLetter zt (by omega), ob_s]
    cases q : lt u (s + i) with
    | true =>
      left
      rw [if_neg i2t]
      refine ⟨_, rfl, ?_, by omega, fun j j1 j2 => ?_, ?_, ?_, TPC_wr zt (by decide) (fun _ => by decide) _⟩
      · rw [rdI_eq, show (1 : Int32) = nI 1 from rfl, nI_add]; rfl
      · by_cases ej : j = s + i
        · rw [ej]; exact q
        · exact zb j j1 (by omega)
      · rw [rdI_nj _ _ _ _ (by decide)]; exact z8
      · rw [rdI_nj _ _ _ _ (by decide)]; exact zs
    | false =>
      right
      rw [if_pos i2f]
      exact ⟨_, rfl, s + i, ⟨by omega, by omega, zb, Or.inr q⟩, z9, z8, zs, zt⟩) (by
    rintro z ⟨z9, zi, zb, z8, zs, zt⟩
    unfold m_X5_nextToken_b103
    rw [zt.2.2.2.1, z9, if_pos (by rw [n_le (by omega) (by omega)]; omega)]
    exact ⟨_, rfl, n, ⟨by omega, by omega, fun j j1 j2 => zb j j1 (by omega), Or.inl rfl⟩, by rw [z9]; congr 1; omega, z8, zs, zt⟩)
  exact ⟨m', t, e, g1, g2, g3, g4, g5⟩
def nvI (u : Nat → Nat) (s i : Nat) : Nat := if i = 0 then 0 else if i = 1 then u s - 48 else 10 * (u s - 48) + (u (s + 1) - 48)
theorem C_number {u : Nat → Nat} {n : Nat} {S : Sk} {m : Mm} (h : TPC u n S m) {s : Nat} (hs : s ≤ n) (h10 : mI m 7 10 = nI s) (h9 : mI m 7 9 = nI s) : ∃ m' e, m_X5_takeNumber S m = some m' ∧ skS (dg u) n s e ∧ mI m' 7 10 = nI e ∧ mI m' 7 8 = nI (if e - s ≤ 2 then 2 else 4) ∧ mI m' 7 9 = nI s ∧ mI m' 7 11 = nI (nvI u s (e - s)) ∧ TPC u n S m' := by
  have n6 := h.1
  have h0 : TPC u n S (sI m 7 11 0) := TPC_wr h (by decide) (fun _ => by decide) _
  obtain ⟨m', e, t, g1, g2, g3, g4, g5⟩ := loop_inv (body := m_X5_takeNumber_b5 S) (a := sI m 7 11 0) (fun i z => mI z 7 10 = nI (s + i) ∧ s + i ≤ n ∧ (∀ j, s ≤ j → j < s + i → dg u j = true) ∧ mI z 7 11 = nI (nvI u s i) ∧ mI z 7 9 = nI s ∧ TPC u n S z) (fun z => ∃ e, skS (dg u) n s e ∧ mI z 7 10 = nI e ∧ mI z 7 11 = nI (nvI u s (e - s)) ∧ mI z 7 9 = nI s ∧ TPC u n S z) (n - s) (FU_big (by omega)) ⟨by rw [rdI_nj _ _ _ _ (by decide)]; exact h10, hs, fun j h1 h2 => by omega, by rw [rdI_eq]; rfl, by rw [rdI_nj _ _ _ _ (by decide)]; exact h9, h0⟩ (by
    rintro i z hi ⟨z9, zi, zb, z8, zs, zt⟩
    unfold m_X5_takeNumber_b5
    rw [zt.2.2.2.1, z9, if_neg (by rw [n_le (by omega) (by omega)]; omega), C_isDigit zt (by omega), ob_s]
    cases q : dg u (s + i) with
    | true =>
      left
      have q' := q
      unfold dg at q'
      rw [decide_eq_true_eq] at q'
      rw [if_neg i2t, zs, z8, n_sub (by omega), show s + i - s = i by omega]
      have hb : mI z 2 (s + i) = nI (u (s + i)) := by
        rw [zt.2.2.2.2 _ (by omega)]; unfold sb; rw [if_pos (by omega)]
      have ev : (if (2 : Int32) ≤ nI i then some (nI (nvI u s i)) else gR (sR S 7 5) 2 (grd (nI (s + i)) 600 (some (nI (nvI u s i) * 10 + mI z 2 (ix (nI (s + i))) - 48)))) = some (nI (nvI u s (i + 1))) := by
        by_cases i2 : 2 ≤ i
        · rw [if_pos (by rw [show (2 : Int32) = nI 2 from rfl, n_le (by omega) (by omega)]; exact i2)]
          unfold nvI
          rw [if_neg (by omega), if_neg (by omega), if_neg (by omega), if_neg (by omega)]
        · rw [if_neg (by rw [show (2 : Int32) = nI 2 from rfl, n_le (by omega) (by omega)]; exact i2), gR_pos zt.2.2.1, n_grd (by omega) (by decide), n_ix (by omega), hb, show (10 : Int32) = nI 10 from rfl, show (48 : Int32) = nI 48 from rfl, n_mul, nI_add, n_sub (by omega)]
          rcases (by omega : i = 0 ∨ i = 1) with rfl | rfl
          · unfold nvI
            simp only [if_true, Nat.add_zero, Nat.zero_mul, Nat.zero_add, if_neg (show ¬ 1 = 0 by decide)]
          · unfold nvI
            simp only [if_true, if_neg (show ¬ 1 = 0 by decide), if_neg (show ¬ 1 + 1 = 0 by decide), if_neg (show ¬ 1 + 1 = 1 by decide)]
            congr 2
            omega
      rw [ev, ob_s]
      refine ⟨_, rfl, ?_, by omega, fun j j1 j2 => ?_, ?_, ?_, TPC_wr (TPC_wr zt (by decide) (fun _ => by decide) _) (by decide) (fun _ => by decide) _⟩
      · rw [rdI_eq, rdI_nj _ _ _ _ (by decide), z9, show (1 : Int32) = nI 1 from rfl, nI_add]; rfl
      · by_cases ej : j = s + i
        · rw [ej]; exact q
        · exact zb j j1 (by omega)
      · rw [rdI_nj _ _ _ _ (by decide), rdI_eq]
      · rw [rdI_nj _ _ _ _ (by decide), rdI_nj _ _ _ _ (by decide)]; exact zs
    | false =>
      right
      rw [if_pos i2f]
      exact ⟨_, rfl, s + i, ⟨by omega, by omega, zb, Or.inr q⟩, z9, by rw [show s + i - s = i by omega]; exact z8, zs, zt⟩) (by
    rintro z ⟨z9, zi, zb, z8, zs, zt⟩
    unfold m_X5_takeNumber_b5
    rw [zt.2.2.2.1, z9, if_pos (by rw [n_le (by omega) (by omega)]; omega)]
    exact ⟨_, rfl, n, ⟨by omega, by omega, fun j j1 j2 => zb j j1 (by omega), Or.inl rfl⟩, by rw [z9]; congr 1; omega, z8, zs, zt⟩)
  have t1 := g1.1
  have t2 := g1.2.1
  unfold m_X5_takeNumber
  rw [e, ob_s, g2, g4, n_sub (by omega)]
  by_cases q : t - s ≤ 2
  · rw [if_pos (by rw [show (2 : Int32) = nI 2 from rfl, n_le (by omega) (by omega)]; exact q)]
    refine ⟨_, t, rfl, g1, ?_, ?_, ?_, ?_, TPC_wr g5 (by decide) (fun _ => by decide) _⟩
    · rw [rdI_nj _ _ _ _ (by decide)]; exact g2
    · rw [rdI_eq, if_pos q]; rfl
    · rw [rdI_nj _ _ _ _ (by decide)]; exact g4
    · rw [rdI_nj _ _ _ _ (by decide)]; exact g3
  · rw [if_neg (by rw [show (2 : Int32) = nI 2 from rfl, n_le (by omega) (by omega)]; exact q)]
    refine ⟨_, t, rfl, g1, ?_, ?_, ?_, ?_, TPC_wr g5 (by decide) (fun _ => by decide) _⟩
    · rw [rdI_nj _ _ _ _ (by decide)]; exact g2
    · rw [rdI_eq, if_neg q]; rfl
    · rw [rdI_nj _ _ _ _ (by decide)]; exact g4
    · rw [rdI_nj _ _ _ _ (by decide)]; exact g3
theorem C_token {u : Nat → Nat} {n : Nat} {S : Sk} {m : Mm} (h : TPC u n S m) {pos : Nat} (hp : pos ≤ n) (h10 : mI m 7 10 = nI pos) : ∃ m' k s e, m_X5_nextToken S m = some m' ∧ tokS u n pos k s e ∧ mI m' 7 8 = nI k ∧ mI m' 7 9 = nI s ∧ mI m' 7 10 = nI e ∧ (k = 2 → mI m' 7 11 = nI (nvI u s (e - s))) ∧ TPC u n S m' := by
  have n6 := h.1
  obtain ⟨m1, s, e1, k1, s9, t1⟩ := C_skip (TPC_wr h (p := 7) (j := 9) (by decide) (fun _ => by decide) (mI m 7 10)) hp (by rw [rdI_eq]; exact h10)
  have t2 : TPC u n S (sI m1 7 10 (mI m1 7 9)) := TPC_wr t1 (by decide) (fun _ => by decide) _
  have q9 : mI (sI m1 7 10 (mI m1 7 9)) 7 9 = nI s := by rw [rdI_nj _ _ _ _ (by decide)]; exact s9
  have q10 : mI (sI m1 7 10 (mI m1 7 9)) 7 10 = nI s := by rw [rdI_eq]; exact s9
  have sn := k1.2.1
  unfold m_X5_nextToken
  rw [e1, ob_s]
  generalize sI m1 7 10 (mI m1 7 9) = z at *
  rw [q9, t2.2.2.2.1]
  by_cases hs : s < n
  · rw [if_pos (by rw [n_lt (by omega) (by omega)]; exact hs), C_isLetter t2 hs, ob_s]
    cases ql : lt u s with
    | true =>
      rw [if_neg i2t]
      obtain ⟨m3, e, e3, k3, w10, w8, w9, t3⟩ := C_word (TPC_wr t2 (p := 7) (j := 8) (by decide) (fun _ => by decide) 1) (s := s) (by omega) (by rw [rdI_nj _ _ _ _ (by decide)]; exact q10)
      rw [e3, ob_s]
      exact ⟨m3, 1, s, e, rfl, ⟨k1, Or.inr (Or.inl ⟨hs, ql, rfl, k3⟩)⟩, by rw [w8, rdI_eq]; rfl, by rw [w9, rdI_nj _ _ _ _ (by decide)]; exact q9, w10, fun q => by omega, t3⟩
    | false =>
      rw [if_pos i2f, C_isDigit t2 hs, ob_s]
      cases qd : dg u s with
      | true =>
        rw [if_neg i2t]
        obtain ⟨m3, e, e3, k3, w10, w8, w9, w11, t3⟩ := C_number t2 (s := s) (by omega) q10 q9
        rw [e3, ob_s]
        exact ⟨m3, _, s, e, rfl, ⟨k1, Or.inr (Or.inr (Or.inl ⟨hs, qd, k3, rfl⟩))⟩, w8, w9, w10, fun _ => w11, t3⟩
      | false =>
        have b := sb_eq (u s) (t2.2.1 s)
        rw [if_pos i2f, gR_pos t2.2.2.1, n_grd (by omega) (by decide), n_ix (by omega), t2.2.2.2.2 s hs]
        refine ⟨_, if u s = 59 then 3 else 4, s, s + 1, rfl, ⟨k1, Or.inr (Or.inr (Or.inr ⟨hs, ql, qd, rfl, rfl⟩))⟩, ?_, ?_, ?_, fun q => ?_, TPC_wr (TPC_wr t2 (by decide) (fun _ => by decide) _) (by decide) (fun _ => by decide) _⟩
        · rw [rdI_nj _ _ _ _ (by decide), rdI_eq]
          by_cases q : u s = 59
          · rw [if_pos (b.2.2.1.mpr q), if_pos q]; rfl
          · rw [if_neg (fun w => q (b.2.2.1.mp w)), if_neg q]; rfl
        · rw [rdI_nj _ _ _ _ (by decide), rdI_nj _ _ _ _ (by decide)]; exact q9
        · rw [rdI_eq, rdI_nj _ _ _ _ (by decide), q10, show (1 : Int32) = nI 1 from rfl, nI_add]
        · by_cases w : u s = 59
          · rw [if_pos w] at q; omega
          · rw [if_neg w] at q; omega
  · have es : s = n := by omega
    rw [if_neg (by rw [n_lt (by omega) (by omega)]; exact hs)]
    refine ⟨_, 0, s, n, rfl, ⟨k1, Or.inl ⟨es, rfl, rfl⟩⟩, by rw [rdI_eq]; rfl, ?_, ?_, fun q => by omega, TPC_wr t2 (by decide) (fun _ => by decide) _⟩
    · rw [rdI_nj _ _ _ _ (by decide)]; exact q9
    · rw [rdI_nj _ _ _ _ (by decide), q10, es]
