/-! L3: the tokens of a tape, as the reference takes them -/
/-- the reference's tape: n bytes u -/
def TPM (u : Nat → Nat) (n : Nat) (m : Mm) : Prop := n ≤ 600 ∧ (∀ i, u i < 256) ∧ mI m 44 11 = nI n ∧ ∀ i, i < n → (mI m 45 i) &&& 255 = nI (u i)
theorem TPM_wr {u : Nat → Nat} {n : Nat} {m : Mm} (h : TPM u n m) {p j : Nat} (hp : p ≠ 45) (hj : p = 44 → j ≠ 11) (v : Int32) : TPM u n (sI m p j v) := by
  obtain ⟨h1, h2, h4, h5⟩ := h
  refine ⟨h1, h2, ?_, fun i hi => by rw [rdI_ne _ _ _ _ (fun q => hp q.symm)]; exact h5 i hi⟩
  rw [rdI, if_neg]
  · exact h4
  · rintro ⟨rfl, rfl⟩; exact hj rfl rfl
theorem TPM_wl {u : Nat → Nat} {n : Nat} {m : Mm} (h : TPM u n m) (p j : Nat) (v : Int64) : TPM u n (sL m p j v) := h
theorem M_see {u : Nat → Nat} {n : Nat} {m : Mm} (h : TPM u n m) {i : Nat} (hi : i < n) (h10 : mI m 44 10 = nI i) : m_X12_see m = some (nI (u i)) := by
  obtain ⟨h1, h2, h4, h5⟩ := h
  unfold m_X12_see
  rw [h4, h10, if_neg (by rw [n_le (by omega) (by omega)]; omega), n_grd (by omega) (by decide), n_ix (by omega), h5 i hi]
theorem M_seeN {u : Nat → Nat} {n : Nat} {m : Mm} (h : TPM u n m) (h10 : mI m 44 10 = nI n) : m_X12_see m = some (-1) := by
  unfold m_X12_see
  have := h.1
  rw [h.2.2.1, h10, if_pos (by rw [n_le (by omega) (by omega)]; omega)]
theorem M_skip {u : Nat → Nat} {n : Nat} {m : Mm} (h : TPM u n m) {pos : Nat} (hp : pos ≤ n) (h9 : mI m 44 10 = nI pos) : ∃ m' s, whileF FU m_X12_token_b0 m = some m' ∧ skS (bk u) n pos s ∧ mI m' 44 10 = nI s ∧ TPM u n m' := by
  have n6 := h.1
  obtain ⟨m', e, s, g1, g2, g3⟩ := loop_inv (body := m_X12_token_b0) (a := m) (fun i z => mI z 44 10 = nI (pos + i) ∧ pos + i ≤ n ∧ (∀ j, pos ≤ j → j < pos + i → bk u j = true) ∧ TPM u n z) (fun z => ∃ s, skS (bk u) n pos s ∧ mI z 44 10 = nI s ∧ TPM u n z) (n - pos) (FU_big (by omega)) ⟨h9, hp, fun j h1 h2 => by omega, h⟩ (by
    rintro i z hi ⟨z9, zi, zb, zt⟩
    have hu := zt.2.1 (pos + i)
    unfold m_X12_token_b0
    rw [M_see zt (by omega) z9, ob_s, ob_s]
    have b1 : (nI (u (pos + i)) = 10) = (u (pos + i) = 10) := n_eq (b := 10) (by omega) (by decide)
    have b2' : (nI (u (pos + i)) = 32) = (u (pos + i) = 32) := n_eq (b := 32) (by omega) (by decide)
    by_cases q : u (pos + i) = 32 ∨ u (pos + i) = 10
    · left
      have e1 : (if nI (u (pos + i)) = 10 then (some (Sum.inl ()) : Option (Unit ⊕ (Mm ⊕ Mm))) else if nI (u (pos + i)) = 32 then some (Sum.inl ()) else some (Sum.inr (Sum.inr z))) = some (Sum.inl ()) := by
        rcases q with q | q
        · rw [if_pos (show nI (u (pos + i)) = 32 from b2'.mpr q), ite_self]
        · rw [if_pos (b1 ▸ q)]
      rw [e1, bs_l]
      refine ⟨_, rfl, ?_, by omega, fun j j1 j2 => ?_, TPM_wr zt (by decide) (fun _ => by decide) _⟩
      · rw [rdI_eq, z9, show (1 : Int32) = nI 1 from rfl, nI_add]; rfl
      · by_cases ej : j = pos + i
        · rw [ej]; unfold bk; exact decide_eq_true q
        · exact zb j j1 (by omega)
    · right
      rw [if_neg (fun w => q (Or.inr (b1 ▸ w))), if_neg (fun w => q (Or.inl (b2' ▸ w))), bs_r]
      exact ⟨_, rfl, pos + i, ⟨by omega, by omega, zb, Or.inr (by unfold bk; exact decide_eq_false q)⟩, z9, zt⟩) (by
    rintro z ⟨z9, zi, zb, zt⟩
    unfold m_X12_token_b0
    rw [show pos + (n - pos) = n by omega] at z9 zb
    rw [M_seeN zt z9, ob_s, ob_s, if_neg (by decide), if_neg (by decide), bs_r]
    exact ⟨_, rfl, n, ⟨by omega, by omega, zb, Or.inl rfl⟩, z9, zt⟩)
  exact ⟨m', s, e, g1, g2, g3⟩
