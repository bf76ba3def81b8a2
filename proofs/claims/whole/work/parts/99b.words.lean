/-! L3: the words of a line, in both -/
theorem kM_0 : ∀ k, k < 5 → ((kM k = 0 ↔ k = 0) ∧ (kM k = 2 ↔ k = 1) ∧ (kM k = 3 ↔ k = 2) ∧ (kM k = 4 ↔ k = 3)) := by decide
theorem tokS_k {u : Nat → Nat} {n pos k s e : Nat} (h : tokS u n pos k s e) : k < 5 ∧ pos ≤ s ∧ s ≤ e ∧ e ≤ n ∧ (k = 0 → s = n) ∧ (k ≠ 0 → s < n) := by
  obtain ⟨⟨h1, h2, _, _⟩, h3⟩ := h
  rcases h3 with ⟨a1, a2, a3⟩ | ⟨a1, a2, a3, a4⟩ | ⟨a1, a2, a3, a4⟩ | ⟨a1, a2, a3, a4, a5⟩
  · exact ⟨by omega, h1, by omega, by omega, fun _ => a1, fun q => absurd a2 q⟩
  · exact ⟨by omega, h1, a4.1, a4.2.1, fun q => by omega, fun _ => a1⟩
  · refine ⟨?_, h1, a3.1, a3.2.1, fun q => ?_, fun _ => a1⟩
    · rw [a4]; split <;> decide
    · rw [a4] at q; split at q <;> omega
  · refine ⟨?_, h1, by omega, by omega, fun q => ?_, fun _ => a1⟩
    · rw [a5]; split <;> decide
    · rw [a5] at q; split at q <;> omega
