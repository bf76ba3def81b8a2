/-! L3: text() in both -/
theorem okR_D {g : Nat} (g1 : 1 ≤ g) (hg : g < 4) {N : Nat} {D : Dr} (ok : okA g N D) : okRz g N (fun j q => enX g (D j) q) := by
  obtain ⟨_, hN, hD⟩ := ok
  refine ⟨hN (by omega), fun e => ?_, fun e => ?_, fun e => ?_⟩
  · subst e
    have kA : ∀ k, k < 7 → k ≠ 0 → 0 < lnN (sgN 1 k) ∧ hiN (sgN 1 k) 0 = 5 := by decide +kernel
    have kB : ∀ k, k < 7 → 3 ≤ k → 1 < lnN (sgN 1 k) ∧ hiN (sgN 1 k) 1 = 5 := by decide +kernel
    have kC : 2 < lnN (sgN 1 6) ∧ hiN (sgN 1 6) 2 = 7 := by decide +kernel
    refine ⟨fun j => if j < N then (D j).1 else 0, fun j => if j < N ∧ (D j).1 ≠ 0 then (D j).2.1 else 0, fun j => if j < N ∧ 3 ≤ (D j).1 then (D j).2.2.1 else 0, fun j => if j < N ∧ (D j).1 = 6 then (D j).2.2.2 else 0, ⟨hN (by decide), fun j => ?_, fun j => ?_, fun j => ?_, fun j => ?_, fun j hj h0 => ?_, fun j hj h0 => ?_, fun j hj h0 => ?_⟩, fun j hj => ?_⟩
    · show (if j < N then (D j).1 else 0) < 7
      split
      · exact (hD j (by assumption)).1
      · decide
    · show (if j < N ∧ (D j).1 ≠ 0 then (D j).2.1 else 0) < 6
      split
      · rename_i q
        obtain ⟨a, b⟩ := kA _ (hD j q.1).1 q.2
        have := (hD j q.1).2.2.1 0 a
        rw [b] at this
        exact Nat.lt_succ_of_le this
      · decide
    · show (if j < N ∧ 3 ≤ (D j).1 then (D j).2.2.1 else 0) < 6
      split
      · rename_i q
        obtain ⟨a, b⟩ := kB _ (hD j q.1).1 q.2
        have := (hD j q.1).2.2.1 1 a
        rw [b] at this
        exact Nat.lt_succ_of_le this
      · decide
    · show (if j < N ∧ (D j).1 = 6 then (D j).2.2.2 else 0) < 8
      split
      · rename_i q
        have := (hD j q.1).2.2.1 2 (by rw [q.2]; exact kC.1)
        rw [q.2, kC.2] at this
        exact Nat.lt_succ_of_le this
      · decide
    · have h0 : (if j < N then (D j).1 else 0) ≠ 0 := h0
      rw [if_pos hj] at h0
      show enX 1 (D j) 1 = nI (if j < N ∧ (D j).1 ≠ 0 then (D j).2.1 else 0)
      rw [if_pos ⟨hj, h0⟩, enX_1, if_pos (kA _ (hD j hj).1 h0).1]
    · have h0 : 3 ≤ (if j < N then (D j).1 else 0) := h0
      rw [if_pos hj] at h0
      show enX 1 (D j) 2 = nI (if j < N ∧ 3 ≤ (D j).1 then (D j).2.2.1 else 0)
      rw [if_pos ⟨hj, h0⟩, enX_2, if_pos (kB _ (hD j hj).1 h0).1]
    · have h0 : (if j < N then (D j).1 else 0) = 6 := h0
      rw [if_pos hj] at h0
      show enX 1 (D j) 3 = nI (if j < N ∧ (D j).1 = 6 then (D j).2.2.2 else 0)
      rw [if_pos ⟨hj, h0⟩, enX_3, if_pos (by rw [h0]; exact kC.1)]
    · show enX 1 (D j) 0 = nI (if j < N then (D j).1 else 0)
      rw [if_pos hj]; rfl
  · subst e
    have kA : ∀ k, k < 7 → wN 2 k ≠ 6 → 1 < lnN (sgN 2 k) ∧ hiN (sgN 2 k) 0 = 5 ∧ hiN (sgN 2 k) 1 = 7 := by decide +kernel
    refine ⟨fun j => if j < N then (D j).2.1 else 0, fun j => if j < N then (D j).2.2.1 else 0, fun j => ?_, fun j hj => ?_⟩
    · show (if j < N then (D j).2.1 else 0) < 6 ∧ (if j < N then (D j).2.2.1 else 0) < 8
      by_cases hj : j < N
      · obtain ⟨d1, d2, d3, _⟩ := hD j hj
        obtain ⟨a, b, c⟩ := kA _ d1 d2
        have x0 : (D j).2.1 ≤ _ := d3 0 (by omega)
        have x1 : (D j).2.2.1 ≤ _ := d3 1 a
        rw [b] at x0
        rw [c] at x1
        rw [if_pos hj, if_pos hj]
        omega
      · rw [if_neg hj, if_neg hj]; decide
    · obtain ⟨d1, d2, d3, _⟩ := hD j hj
      obtain ⟨a, b, c⟩ := kA _ d1 d2
      show enX 2 (D j) 1 = nI (if j < N then (D j).2.1 else 0) ∧ enX 2 (D j) 2 = nI (if j < N then (D j).2.2.1 else 0)
      rw [if_pos hj, if_pos hj, enX_1, enX_2, if_pos (by omega), if_pos a]
      exact ⟨rfl, rfl⟩
  · subst e
    have kA : ∀ k, k < 7 → wN 3 k ≠ 6 → 1 < lnN (sgN 3 k) ∧ hiN (sgN 3 k) 0 = 5 ∧ hiN (sgN 3 k) 1 = 7 := by decide +kernel
    have kB : ∀ k, k < 7 → wN 3 k ≠ 6 → k < 2 := by decide +kernel
    refine ⟨fun j => if j < N then (D j).1 else 0, fun j => if j < N then (D j).2.1 else 0, fun j => if j < N then (D j).2.2.1 else 0, fun j => ?_, fun j hj => ?_⟩
    · show (if j < N then (D j).1 else 0) < 2 ∧ (if j < N then (D j).2.1 else 0) < 6 ∧ (if j < N then (D j).2.2.1 else 0) < 8
      by_cases hj : j < N
      · obtain ⟨d1, d2, d3, _⟩ := hD j hj
        obtain ⟨a, b, c⟩ := kA _ d1 d2
        have k2 := kB _ d1 d2
        have x0 : (D j).2.1 ≤ _ := d3 0 (by omega)
        have x1 : (D j).2.2.1 ≤ _ := d3 1 a
        rw [b] at x0
        rw [c] at x1
        rw [if_pos hj, if_pos hj, if_pos hj]
        omega
      · rw [if_neg hj, if_neg hj, if_neg hj]; decide
    · obtain ⟨d1, d2, d3, _⟩ := hD j hj
      obtain ⟨a, b, c⟩ := kA _ d1 d2
      show enX 3 (D j) 0 = nI (if j < N then (D j).1 else 0) ∧ enX 3 (D j) 1 = nI (if j < N then (D j).2.1 else 0) ∧ enX 3 (D j) 2 = nI (if j < N then (D j).2.2.1 else 0)
      rw [if_pos hj, if_pos hj, if_pos hj, enX_0, enX_1, enX_2, if_pos (by omega), if_pos a]
      exact ⟨rfl, rfl, rfl⟩
def rsX (mc : Mm) : Mm := sI (sI (sI (sI (sI mc 44 0 0) 44 11 (mI (sI mc 44 0 0) 46 (ix 0))) 46 (ix 0) 0) 47 (ix 0) 0) 48 (ix 0) (-1)
theorem rsX_o (mc : Mm) {p j : Nat} (h : ¬ (p = 44 ∧ (j = 0 ∨ j = 11))) (h2 : ¬ ((p = 46 ∨ p = 47 ∨ p = 48) ∧ j = 0)) : mI (rsX mc) p j = mI mc p j := by
  unfold rsX
  rw [ix0, rdI, if_neg (by omega), rdI, if_neg (by omega), rdI, if_neg (by omega), rdI, if_neg (by omega), rdI, if_neg (by omega)]
theorem rsX_11 (mc : Mm) : mI (rsX mc) 44 11 = mI mc 46 0 := by
  unfold rsX
  rw [ix0, rdI_ne _ _ _ _ (by decide), rdI_ne _ _ _ _ (by decide), rdI_ne _ _ _ _ (by decide), rdI_eq, rdI_ne _ _ _ _ (by decide)]
theorem rsX_46 (mc : Mm) : mI (rsX mc) 46 0 = 0 := by
  unfold rsX
  rw [ix0, rdI_ne _ _ _ _ (by decide), rdI_ne _ _ _ _ (by decide), rdI_eq]
theorem rsX_47 (mc : Mm) : mI (rsX mc) 47 0 = 0 := by
  unfold rsX
  rw [ix0, rdI_ne _ _ _ _ (by decide), rdI_eq]
theorem rsX_48 (mc : Mm) : mI (rsX mc) 48 0 = -1 := by
  unfold rsX
  rw [ix0, rdI_eq]
theorem cov_ra {p j : Nat} (h : p ≠ 7 ∧ p ≠ 8 ∧ p ≠ 9 ∧ p ≠ 10 ∧ p ≠ 11) : covB raL p j = false := by
  cases hcv : covB raL p j with
  | false => rfl
  | true => exfalso; simp [covB] at hcv; omega
theorem cov_rb {p j : Nat} (h : p ≠ 44 ∧ p ≠ 54 ∧ p ≠ 55) (h2 : ¬ ((p = 47 ∨ p = 48) ∧ j = 0)) : covB rbL p j = false := by
  cases hcv : covB rbL p j with
  | false => rfl
  | true => exfalso; simp [covB] at hcv; omega
def clX (mm : Mm) : Mm := sI (sI (sI mm 1 1 0) 1 2 0) 1 3 (-1)
theorem clX_o (mm : Mm) {p j : Nat} (h : ¬ (p = 1 ∧ (j = 1 ∨ j = 2 ∨ j = 3))) : mI (clX mm) p j = mI mm p j := by
  unfold clX
  rw [rdI, if_neg (by omega), rdI, if_neg (by omega), rdI, if_neg (by omega)]
theorem clX_1 (mm : Mm) : mI (clX mm) 1 1 = 0 := by
  unfold clX
  rw [rdI_nj _ _ _ _ (by decide), rdI_nj _ _ _ _ (by decide), rdI_eq]
theorem text_no {S : Sk} {mm : Mm} {a1 a2 : Int32} (h : Inv S mm) (hp : m_X9_placeFor a1 a2 mm = some (-1)) (hr : m_X12_text S a1 a2 (clX mm) = some (-2, rsX (clX mm))) : OpG S (m_X11_text S a1 a2 mm) (fun S' => m_X12_text S' a1 a2) := by
  refine ⟨-2, S, clX mm, rsX (clX mm), ?_, hr, Inv_flt h h.1 (scR_rf S) rfl 0 (-1) (fun p j hk h1 h2 => ?_) (fun j => ?_) ?_ ?_ ?_ (rsX_46 _) (rsX_47 _) (rsX_48 _), by omega, by omega⟩
  · unfold m_X11_text
    rw [hp, ob_s, if_neg (by decide)]
    rfl
  · have : p ≠ 44 := by rintro rfl; exact absurd hk (by decide)
    rw [rsX_o _ (by omega) h2, clX_o _ h1]
  · rw [rsX_o _ (by omega) (by omega), clX_o _ (by omega)]
  · rw [rsX_o _ (by omega) (by omega)]; exact clX_1 mm
  · rw [rsX_o _ (by omega) (by omega)]; unfold clX; rw [rdI_nj _ _ _ _ (by decide), rdI_eq]
  · rw [rsX_o _ (by omega) (by omega)]; unfold clX; rw [rdI_eq]
