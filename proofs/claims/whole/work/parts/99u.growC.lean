/-! L3: the class's world grows by a county or by rows -/
theorem grow_SI {S S' : Sk} (hS : SI S) (hRF : RF S) (n5 : sN S ≤ sN S') (K0 : ∀ p, p < sN S → sK S' p = sK S p) (R0 : ∀ p i, p < sN S → sR S' p i = sR S p i) (hnew : ∀ p, sN S ≤ p → p < sN S' → p = sN S ∨ 20 ≤ (sK S' p).1) (hk : ((sK S' (sN S)).1 = 2 ∧ At2 S' (sN S)) ∨ ((sK S' (sN S)).1 = 6 ∧ At6 S' (sN S))) : SI S' ∧ RF S' := by
  have n71 : 71 ≤ sN S := hS.1.1
  have old : ∀ c k, k < 20 → KD S' c k → c = sN S ∨ KD S c k := fun c k h20 hc => by
    obtain ⟨c1, c2⟩ := hc
    by_cases q : c < sN S
    · exact Or.inr ⟨q, by rw [← K0 c q]; exact c2⟩
    · rcases hnew c (by omega) c1 with e | e
      · exact Or.inl e
      · omega
  have up : ∀ v k, KD S v k → KD S' v k := fun v k hv => ⟨Nat.lt_of_lt_of_le hv.1 n5, by rw [K0 v hv.1]; exact hv.2⟩
  have old9 : ∀ c, KD S' c 9 → KD S c 9 := fun c hc => by
    rcases old c 9 (by decide) hc with e | e
    · exfalso
      have := hc.2
      rw [e] at this
      rcases hk with h | h
      · rw [h.1] at this; exact absurd this (by decide)
      · rw [h.1] at this; exact absurd this (by decide)
    · exact e
  refine ⟨⟨⟨by omega, fun p hp => by rw [K0 p (by omega)]; exact hS.1.2.1 p hp, fun q hq => ?_⟩, fun c hc => ?_, fun c hc => ?_, fun c hc => ?_⟩, fun a ha => ?_⟩
  · have key : layR.all (fun q => decide (q.1 < 71)) = true := by decide
    have := List.all_eq_true.mp key q hq
    rw [decide_eq_true_eq] at this
    rw [R0 _ _ (by omega)]; exact hS.1.2.2 q hq
  · rcases old c 2 (by decide) hc with e | hc0
    · rcases hk with h | h
      · rw [e]; exact h.2
      · have := hc.2
        rw [e, h.1] at this
        exact absurd this (by decide)
    · intro j hj
      obtain ⟨g1, g2, g3⟩ := hS.2.1 c hc0 j hj
      exact ⟨by rw [R0 _ _ hc0.1]; exact g1, Nat.lt_of_lt_of_le g2 n5, by rw [K0 _ g2]; exact g3⟩
  · rcases old c 6 (by decide) hc with e | hc0
    · rcases hk with h | h
      · have := hc.2
        rw [e, h.1] at this
        exact absurd this (by decide)
      · rw [e]; exact h.2
    · obtain ⟨g1, g2, g3⟩ := hS.2.2.1 c hc0
      exact ⟨by rw [R0 _ _ hc0.1]; exact g1, Nat.lt_of_lt_of_le g2 n5, by rw [K0 _ g2]; exact g3⟩
  · have hc0 := old9 c hc
    obtain ⟨g1, g2, g3, g4⟩ := hS.2.2.2 c hc0
    have h0 := hc0.1
    exact ⟨⟨by rw [R0 _ _ h0]; exact g1.1, Nat.lt_of_lt_of_le g1.2.1 n5, by rw [K0 _ g1.2.1]; exact g1.2.2⟩, ⟨by rw [R0 _ _ h0]; exact g2.1, Nat.lt_of_lt_of_le g2.2.1 n5, by rw [K0 _ g2.2.1]; exact g2.2.2⟩, ⟨by rw [R0 _ _ h0]; exact g3.1, Nat.lt_of_lt_of_le g3.2.1 n5, by rw [K0 _ g3.2.1]; exact g3.2.2⟩, ⟨by rw [R0 _ _ h0]; exact g4.1, Nat.lt_of_lt_of_le g4.2.1 n5, by rw [K0 _ g4.2.1]; exact g4.2.2⟩⟩
  · have ha0 := old9 a ha
    obtain ⟨_, _, g3, g4⟩ := hS.2.2.2 a ha0
    exact ⟨fun i v hi hv => up v 2 ((hRF a ha0).1 i v hi (by rw [← R0 _ _ g3.2.1]; exact hv)), fun i v hi hv => up v 6 ((hRF a ha0).2 i v hi (by rw [← R0 _ _ g4.2.1]; exact hv))⟩
theorem lay_no {p i : Nat} (hp : layR.all (fun q => decide (q.1 ≠ p)) = true) : layR.all (fun q => !(q.1 == p && q.2.1 == i)) = true := by
  rw [List.all_eq_true] at hp ⊢
  intro q hq
  have := hp q hq
  rw [decide_eq_true_eq] at this
  rw [show (q.1 == p) = false from beq_false_of_ne this]
  rfl
theorem RF_4 {S : Sk} (hS : SI S) (h : RF S) {i c : Nat} (hc : KD S c 2) : RF (sRs S 4 i (some c)) := fun a ha => by
  have ha' : KD S a 9 := ha
  obtain ⟨h1, h2⟩ := h a ha'
  have := kd9 hS.1 ha'
  refine ⟨fun j v hj hv => ?_, fun j v hj hv => ?_⟩
  · rw [rdR] at hv
    by_cases q : a + 3 = 4 ∧ j = i
    · rw [if_pos q] at hv
      cases hv
      exact hc
    · rw [if_neg q] at hv
      exact h1 j v hj hv
  · rw [rdR, if_neg (by omega)] at hv
    exact h2 j v hj hv
theorem RF_5 {S : Sk} (hS : SI S) (h : RF S) {i c : Nat} (hc : KD S c 6) : RF (sRs S 5 i (some c)) := fun a ha => by
  have ha' : KD S a 9 := ha
  obtain ⟨h1, h2⟩ := h a ha'
  have := kd9 hS.1 ha'
  refine ⟨fun j v hj hv => ?_, fun j v hj hv => ?_⟩
  · rw [rdR, if_neg (by omega)] at hv
    exact h1 j v hj hv
  · rw [rdR] at hv
    by_cases q : a + 4 = 5 ∧ j = i
    · rw [if_pos q] at hv
      cases hv
      exact hc
    · rw [if_neg q] at hv
      exact h2 j v hj hv
def skC (S : Sk) (a0 : Nat) : Sk := (sRs (nwS (sRs (nwS (sRs (nwS (sRs (nwS (sRs (nwS (sRs (nwS (sRs (nwS (sRs (nwS S 20 6 6) a0 0 (some S.1)) 20 6 6) a0 1 (some (S.1 + 1))) 20 6 6) a0 2 (some (S.1 + 2))) 20 8 8) a0 3 (some (S.1 + 3))) 20 8 8) a0 4 (some (S.1 + 4))) 20 12 12) a0 5 (some (S.1 + 5))) 20 12 12) a0 6 (some (S.1 + 6))) 20 12 12) a0 7 (some (S.1 + 7)))
theorem skC_f (S : Sk) : sN (skC (nwS S 2 0 10) S.1) = S.1 + 9 ∧ sW (skC (nwS S 2 0 10) S.1) = sW S + 80 ∧ (∀ p, sK (skC (nwS S 2 0 10) S.1) p = if p = S.1 + 8 then (20, 12) else if p = S.1 + 7 then (20, 12) else if p = S.1 + 6 then (20, 12) else if p = S.1 + 5 then (20, 8) else if p = S.1 + 4 then (20, 8) else if p = S.1 + 3 then (20, 6) else if p = S.1 + 2 then (20, 6) else if p = S.1 + 1 then (20, 6) else if p = S.1 then (2, 0) else sK S p) ∧ (∀ p i, p < S.1 → sR (skC (nwS S 2 0 10) S.1) p i = sR S p i) ∧ (∀ j, j < 8 → sR (skC (nwS S 2 0 10) S.1) S.1 j = some (S.1 + 1 + j)) := by
  unfold skC
  refine ⟨rfl, rfl, fun p => ?_, fun p i hp => ?_, fun j hj => ?_⟩
  · simp only [sK_nw, sK_s, one_s, one_nw, Nat.add_assoc]
    rfl
  · simp (disch := omega) only [rdR, sR_nw, one_s, one_nw, if_neg]
  · rcases (by omega : j = 0 ∨ j = 1 ∨ j = 2 ∨ j = 3 ∨ j = 4 ∨ j = 5 ∨ j = 6 ∨ j = 7) with rfl | rfl | rfl | rfl | rfl | rfl | rfl | rfl <;> simp (disch := omega) only [rdR, sR_nw, one_s, one_nw, if_neg, true_and, and_true, if_true] <;> rfl
