/-! L3: words and numbers of a tape, by the class -/
theorem C_word {u : Nat → Nat} {n : Nat} {S : Sk} {m : Mm} (h : TPC u n S m) {s : Nat} (hs : s ≤ n) (h10 : mI m 7 10 = nI s) : ∃ m' e, whileF FU (m_X5_nextToken_b103 S) m = some m' ∧ skS (lt u) n s e ∧ mI m' 7 10 = nI e ∧ mI m' 7 8 = mI m 7 8 ∧ mI m' 7 9 = mI m 7 9 ∧ TPC u n S m' := by
  have n6 := h.1
  obtain ⟨m', e, t, g1, g2, g3, g4, g5⟩ := loop_inv (body := m_X5_nextToken_b103 S) (a := m) (fun i z => mI z 7 10 = nI (s + i) ∧ s + i ≤ n ∧ (∀ j, s ≤ j → j < s + i → lt u j = true) ∧ mI z 7 8 = mI m 7 8 ∧ mI z 7 9 = mI m 7 9 ∧ TPC u n S z) (fun z => ∃ e, skS (lt u) n s e ∧ mI z 7 10 = nI e ∧ mI z 7 8 = mI m 7 8 ∧ mI z 7 9 = mI m 7 9 ∧ TPC u n S z) (n - s) (FU_big (by omega)) ⟨h10, hs, fun j h1 h2 => by omega, rfl, rfl, h⟩ (by
    rintro i z hi ⟨z9, zi, zb, z8, zs, zt⟩
    unfold m_X5_nextToken_b103
    rw [zt.2.2.2.1, z9, if_neg (by rw [n_le (by omega) (by omega)]; omega), C_isLetter zt (by omega), ob_s]
    cases q : lt u (s + i) with
    | true =>
      left
      rw [if_neg i2t]
      refine ⟨_, rfl, ?_, by omega, fun j j1 j2 => ?_, ?_, ?_, TPC_wr zt (by decide) (fun _ => by decide) _⟩
      · rw [rdI_eq, show (1 : Int32) = nI 1 from rfl, nI_add]; rfl
      · by_cases ej : j = s + i
        · rw [ej]; exact q
        · exact zb j j1 (by omega)
      · rw [rdI_nj _ _ _ _ (by decide)]; exact z8
      · rw [rdI_nj _ _ _ _ (by decide)]; exact zs
    | false =>
      right
      rw [if_pos i2f]
      exact ⟨_, rfl, s + i, ⟨by omega, by omega, zb, Or.inr q⟩, z9, z8, zs, zt⟩) (by
    rintro z ⟨z9, zi, zb, z8, zs, zt⟩
    unfold m_X5_nextToken_b103
    rw [zt.2.2.2.1, z9, if_pos (by rw [n_le (by omega) (by omega)]; omega)]
    exact ⟨_, rfl, n, ⟨by omega, by omega, fun j j1 j2 => zb j j1 (by omega), Or.inl rfl⟩, by rw [z9]; congr 1; omega, z8, zs, zt⟩)
  exact ⟨m', t, e, g1, g2, g3, g4, g5⟩
