/-! L3: the world behind the constructors keeps the invariant -/
theorem w4_lay : Lay w4 := ⟨by rw [show sN w4 = 71 from w4_1]; decide, by decide +kernel, by decide +kernel⟩
theorem w4_kd : ∀ c, c < 71 → ((sK w4 c).1 ≠ 2 ∧ ((sK w4 c).1 = 6 → c = 8) ∧ ((sK w4 c).1 = 9 → c = 1)) := by decide +kernel
theorem w4_SI : SI w4 := by
  refine ⟨w4_lay, fun c hc => ?_, fun c hc => ?_, fun c hc => ?_⟩
  · have h1 : c < 71 := by rw [← w4_1]; exact hc.1
    exact absurd hc.2 (w4_kd c h1).1
  · have h1 : c < 71 := by rw [← w4_1]; exact hc.1
    have := (w4_kd c h1).2.1 hc.2
    subst this
    exact ⟨w4_lay.2.2 (8, 0, 9) (by decide), by rw [show sN w4 = 71 from w4_1]; decide, by rw [w4_lay.2.1 9 (by decide)]; rfl⟩
  · have h1 : c < 71 := by rw [← w4_1]; exact hc.1
    have := (w4_kd c h1).2.2 hc.2
    subst this
    exact ⟨⟨w4_lay.2.2 (1, 0, 2) (by decide), by rw [show sN w4 = 71 from w4_1]; decide, w4_lay.2.1 2 (by decide)⟩, ⟨w4_lay.2.2 (1, 4, 3) (by decide), by rw [show sN w4 = 71 from w4_1]; decide, w4_lay.2.1 3 (by decide)⟩, ⟨w4_lay.2.2 (1, 5, 4) (by decide), by rw [show sN w4 = 71 from w4_1]; decide, w4_lay.2.1 4 (by decide)⟩, ⟨w4_lay.2.2 (1, 6, 5) (by decide), by rw [show sN w4 = 71 from w4_1]; decide, w4_lay.2.1 5 (by decide)⟩⟩
def T0 : Td := ((0, fun _ => 0), (0, -1), fun _ => 0, fun _ _ _ => 0, fun _ _ => 0, fun _ _ _ _ => 0)
theorem w4_told : mI n4 1 1 = nI 0 ∧ mI n4 1 2 = 0 ∧ mI n4 1 3 = -1 ∧ mI n4 46 0 = nI 0 ∧ mI n4 47 0 = 0 ∧ mI n4 48 0 = -1 := by decide +kernel
theorem w4_many : ∀ s, s < 4 → mI n4 3 s = nI 0 ∧ mI n4 49 s = nI 0 := by decide +kernel
theorem w4_im : ∀ k, k < 3 → sR w4 6 k = none ∧ mI n4 70 k = nI 0 := by decide +kernel
theorem w4_tb : (∀ s, s < 256 → mI n4 23 s = nI 0) ∧ ∀ r, r < 5 → mI n4 23 (r * 256) = nI 0 := by decide +kernel
theorem w4_r : sR w4 14 11 = none ∧ (∀ i, i < 2 → sR w4 4 i = none) ∧ ∀ i, i < 8 → sR w4 5 i = none := by decide +kernel
theorem w4_W : sW w4 ≤ 100000 := by decide +kernel
theorem Inv_start : Inv w4 n4 := by
  refine ⟨w4_SI, ⟨T0, ⟨by decide, fun s _ => Nat.zero_le 2, fun i hi => absurd hi (Nat.not_lt_zero i), fun s i _ _ hi => absurd hi (Nat.not_lt_zero i)⟩, ⟨w4_told.1, fun i hi => absurd hi (Nat.not_lt_zero i), w4_told.2.1, w4_told.2.2.1, fun s hs => (w4_many s hs).1, fun i hi => absurd hi (Nat.not_lt_zero i), fun s i _ _ hi => absurd hi (Nat.not_lt_zero i)⟩, ⟨w4_told.2.2.2.1, fun i hi => absurd hi (Nat.not_lt_zero i), w4_told.2.2.2.2.1, w4_told.2.2.2.2.2, fun s hs => by rw [Nat.mul_zero, Nat.zero_add]; exact (w4_many s hs).2, fun i hi => absurd hi (Nat.not_lt_zero i), fun s i _ _ hi => absurd hi (Nat.not_lt_zero i)⟩⟩, fun k hk => Or.inl (w4_im k hk), fun k l c hk _ e1 _ => absurd ((w4_im k hk).1.symm.trans e1) (by intro q; cases q), ⟨w4_tb.1, w4_tb.2, fun c hc => absurd (w4_r.1.symm.trans hc) (by intro q; cases q)⟩, fun a ha => ?_⟩
  have h1 : a < 71 := by rw [← w4_1]; exact ha.1
  have := (w4_kd a h1).2.2 ha.2
  subst this
  exact ⟨fun i v hi hv => absurd ((w4_r.2.1 i hi).symm.trans hv) (by intro q; cases q), fun i v hi hv => absurd ((w4_r.2.2 i hi).symm.trans hv) (by intro q; cases q)⟩
