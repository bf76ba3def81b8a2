/-! L3: who should swear which: rows, sets, numbers -/
/-- by whom a want's thing becomes open -/
def opr (W : Cn) (w t : Nat → Nat) (j : Nat) : Nat := fo (fun p s => s ||| if ¬ p = w j ∧ (rch W p (w j)).testBit (t j) = true then 2 ^ p else 0) 0 (fk W)
theorem opr_bit (W : Cn) (w t : Nat → Nat) (j p : Nat) : (opr W w t j).testBit p = true ↔ p < fk W ∧ p ≠ w j ∧ (rch W p (w j)).testBit (t j) = true := by
  unfold opr
  rw [fo_or_bit (fun p => if ¬ p = w j ∧ (rch W p (w j)).testBit (t j) = true then 2 ^ p else 0)]
  simp only [ite_bit]
  constructor
  · rintro ⟨k, h1, h2, rfl⟩; exact ⟨h1, h2⟩
  · rintro ⟨h1, h2⟩; exact ⟨p, h1, h2, rfl⟩
theorem opr_b {W : Cn} (wf : WF W) (w t : Nat → Nat) (j : Nat) : opr W w t j < 64 := by
  refine fo_inv (n := fk W) (fun _ x => x < 2 ^ 6) (show 0 < 2 ^ 6 by decide) (fun i x hi hx => or_b hx ?_) _ (Nat.le_refl _)
  have := wf.1
  exact ite_b (by omega)
def osb (n : Nat) (w t : Nat → Nat) (set p : Nat) : Nat := fo (fun j s => s ||| if set.testBit j = true ∧ w j = p then 2 ^ t j else 0) 0 n
def Kct (W : Cn) (n : Nat) (w t : Nat → Nat) (set : Nat) : Nat := fb_ct (fun j => (bst W (osb n w t set (w j)) (rm W (w j))).testBit (t j)) n
/-- can each want of a set, from the j-th on, have an opener of its own -/
def csB (W : Cn) (w t : Nat → Nat) : Nat → Nat → Nat → Nat → Bool
  | 0, _, _, _ => true
  | m + 1, j, set, free => if set.testBit j then (fst1 (fun p => (opr W w t j).testBit p && free.testBit p && csB W w t m (j + 1) set (ndf free (2 ^ p))) 6).isSome else csB W w t m (j + 1) set free
theorem fst1_is {P : Nat → Bool} {n : Nat} : (fst1 P n).isSome = true ↔ ∃ k, k < n ∧ P k = true := by
  cases h : fst1 P n with
  | none =>
    have h1 := fst1_none.mp h
    simp only [Option.isSome_none, Bool.false_eq_true, false_iff]
    rintro ⟨k, h2, h3⟩
    rw [h1 k h2] at h3; cases h3
  | some k =>
    have h1 := fst1_some.mp h
    simp only [Option.isSome_some, true_iff]
    exact ⟨k, h1.1, h1.2.1⟩
theorem ndfp_bit (x p i : Nat) : (ndf x (2 ^ p)).testBit i = true ↔ x.testBit i = true ∧ i ≠ p := by
  rw [ndf_bit, pow_bit, Bool.and_eq_true]
  simp
theorem csB_iff {W : Cn} (wf : WF W) (w t : Nat → Nat) (set : Nat) : ∀ m j free, csB W w t m j set free = true ↔ ∃ f : Nat → Nat, ∀ i, j ≤ i → i < j + m → set.testBit i = true → (opr W w t i).testBit (f i) = true ∧ free.testBit (f i) = true ∧ ∀ i', j ≤ i' → i' < i → set.testBit i' = true → f i' ≠ f i
  | 0, j, free => by
    rw [csB]
    simp only [true_iff]
    exact ⟨fun _ => 0, fun i h1 h2 => by omega⟩
  | m + 1, j, free => by
    rw [csB]
    by_cases hb : set.testBit j = true
    · rw [if_pos hb, fst1_is]
      constructor
      · rintro ⟨p, hp, h⟩
        simp only [Bool.and_eq_true] at h
        obtain ⟨⟨h1, h2⟩, h3⟩ := h
        obtain ⟨f, hf⟩ := (csB_iff wf w t set m (j + 1) _).mp h3
        refine ⟨fun i => if i = j then p else f i, fun i h4 h5 h6 => ?_⟩
        by_cases e : i = j
        · simp only [e, if_true]
          refine ⟨h1, h2, fun i' h7 h8 => by omega⟩
        · simp only [e, if_false]
          obtain ⟨h7, h8, h9⟩ := hf i (by omega) (by omega) h6
          rw [ndfp_bit] at h8
          refine ⟨h7, h8.1, fun i' h10 h11 h12 => ?_⟩
          by_cases e' : i' = j
          · rw [if_pos e']; exact fun q => h8.2 q.symm
          · rw [if_neg e']; exact h9 i' (by omega) h11 h12
      · rintro ⟨f, hf⟩
        obtain ⟨h1, h2, _⟩ := hf j (Nat.le_refl _) (by omega) hb
        have hp := ((opr_bit W w t j (f j)).mp h1).1
        have hf6 := wf.1
        refine ⟨f j, by omega, ?_⟩
        simp only [Bool.and_eq_true]
        refine ⟨⟨h1, h2⟩, (csB_iff wf w t set m (j + 1) _).mpr ⟨f, fun i h4 h5 h6 => ?_⟩⟩
        obtain ⟨h7, h8, h9⟩ := hf i (by omega) (by omega) h6
        refine ⟨h7, ?_, fun i' h10 h11 h12 => h9 i' (by omega) h11 h12⟩
        rw [ndfp_bit]
        exact ⟨h8, fun q => h9 j (Nat.le_refl _) (by omega) hb q.symm⟩
    · rw [if_neg hb, csB_iff wf w t set m (j + 1) free]
      constructor
      · rintro ⟨f, hf⟩
        refine ⟨f, fun i h4 h5 h6 => ?_⟩
        by_cases e : i = j
        · rw [e] at h6; exact absurd h6 hb
        · obtain ⟨h7, h8, h9⟩ := hf i (by omega) (by omega) h6
          refine ⟨h7, h8, fun i' h10 h11 h12 => ?_⟩
          by_cases e' : i' = j
          · rw [e'] at h12; exact absurd h12 hb
          · exact h9 i' (by omega) h11 h12
      · rintro ⟨f, hf⟩
        refine ⟨f, fun i h4 h5 h6 => ?_⟩
        obtain ⟨h7, h8, h9⟩ := hf i (by omega) (by omega) h6
        exact ⟨h7, h8, fun i' h10 h11 h12 => h9 i' (by omega) h11 h12⟩
/-- the wants whose thing is open by a row -/
def Sr (W : Cn) (n : Nat) (w t r : Nat → Nat) : Nat := fo (fun j s => s ||| if (opr W w t j).testBit (r j) = true then 2 ^ j else 0) 0 n
theorem Sr_bit (W : Cn) (n : Nat) (w t r : Nat → Nat) (j : Nat) : (Sr W n w t r).testBit j = true ↔ j < n ∧ (opr W w t j).testBit (r j) = true := by
  unfold Sr
  rw [fo_or_bit (fun j => if (opr W w t j).testBit (r j) = true then 2 ^ j else 0)]
  simp only [ite_bit]
  constructor
  · rintro ⟨k, h1, h2, rfl⟩; exact ⟨h1, h2⟩
  · rintro ⟨h1, h2⟩; exact ⟨j, h1, h2, rfl⟩
theorem Sr_b (W : Cn) (n : Nat) (w t r : Nat → Nat) : Sr W n w t r < 2 ^ n := by
  apply Nat.lt_pow_two_of_testBit
  intro i hi
  cases h : (Sr W n w t r).testBit i with
  | false => rfl
  | true => have := (Sr_bit W n w t r i).mp h; omega
/-- a row that may be: none twice, none for oneself -/
def vrd (W : Cn) (w r : Nat → Nat) (n : Nat) : Prop := ∀ i, i < n → r i ≤ 6 ∧ (r i < 6 → r i < fk W ∧ r i ≠ w i ∧ ∀ i', i' < n → i' ≠ i → r i' ≠ r i)
theorem cs_row {W : Cn} (wf : WF W) {w t r : Nat → Nat} {n j set free : Nat} (hj : j ≤ n) (hs : set < 2 ^ n) (hv : vrd W w r j) (hset : ∀ i, i < j → (set.testBit i = true ↔ (opr W w t i).testBit (r i) = true)) (hfree : ∀ p, free.testBit p = true → ∀ i, i < j → r i ≠ p) (hc : csB W w t (n - j) j set free = true) : ∃ r', vrd W w r' n ∧ (∀ i, i < j → r' i = r i) ∧ Sr W n w t r' = set := by
  obtain ⟨f, hf⟩ := (csB_iff wf w t set (n - j) j free).mp hc
  have hf6 := wf.1
  have hf' : ∀ i, j ≤ i → i < n → set.testBit i = true → (opr W w t i).testBit (f i) = true ∧ free.testBit (f i) = true ∧ ∀ i', j ≤ i' → i' < i → set.testBit i' = true → f i' ≠ f i := fun i h1 h2 h3 => hf i h1 (by omega) h3
  refine ⟨fun i => if i < j then r i else if set.testBit i = true then f i else 6, ?_, fun i hi => by simp [hi], ?_⟩
  · intro i hi
    by_cases h1 : i < j
    · simp only [h1, if_true]
      refine ⟨(hv i h1).1, fun h6 => ?_⟩
      obtain ⟨h7, h8, h9⟩ := (hv i h1).2 h6
      refine ⟨h7, h8, fun i' h10 h11 => ?_⟩
      by_cases h2 : i' < j
      · rw [if_pos h2]; exact h9 i' h2 h11
      · rw [if_neg h2]
        by_cases h3 : set.testBit i' = true
        · rw [if_pos h3]
          have := (hf' i' (by omega) h10 h3).2.1
          exact fun q => hfree _ this i h1 q.symm
        · rw [if_neg h3]; omega
    · simp only [h1, if_false]
      by_cases h3 : set.testBit i = true
      · simp only [h3, if_true]
        obtain ⟨h4, h5, h6⟩ := hf' i (by omega) hi h3
        obtain ⟨h7, h8, _⟩ := (opr_bit W w t i (f i)).mp h4
        refine ⟨by omega, fun _ => ⟨h7, h8, fun i' h10 h11 => ?_⟩⟩
        by_cases h2 : i' < j
        · rw [if_pos h2]; exact hfree _ h5 i' h2
        · rw [if_neg h2]
          by_cases h9 : set.testBit i' = true
          · rw [if_pos h9]
            by_cases hlt : i' < i
            · exact h6 i' (by omega) hlt h9
            · exact fun q => (hf' i' (by omega) h10 h9).2.2 i (by omega) (by omega) h3 q.symm
          · rw [if_neg h9]; omega
      · simp only [h3, Bool.false_eq_true, if_false]
        exact ⟨Nat.le_refl _, fun q => by omega⟩
  · apply Nat.eq_of_testBit_eq
    intro i
    rw [Bool.eq_iff_iff, Sr_bit]
    constructor
    · rintro ⟨h1, h2⟩
      by_cases h3 : i < j
      · simp only [h3, if_true] at h2
        exact (hset i h3).mpr h2
      · simp only [h3, if_false] at h2
        by_cases h4 : set.testBit i = true
        · exact h4
        · simp only [h4, Bool.false_eq_true, if_false] at h2
          have := ((opr_bit W w t i 6).mp h2).1
          omega
    · intro h1
      have hin : i < n := by
        apply Classical.byContradiction
        intro hn
        rw [Nat.testBit_lt_two_pow (Nat.lt_of_lt_of_le hs (Nat.pow_le_pow_right (by decide) (by omega)))] at h1
        cases h1
      refine ⟨hin, ?_⟩
      by_cases h3 : i < j
      · simp only [h3, if_true]
        exact (hset i h3).mp h1
      · simp only [h3, if_false, h1, if_true]
        exact (hf' i (by omega) hin h1).1
theorem row_cs {W : Cn} (wf : WF W) {w t r : Nat → Nat} {n j free : Nat} (hj : j ≤ n) (hv : vrd W w r n) (hfree : ∀ p, p < fk W → (∀ i, i < j → r i ≠ p) → free.testBit p = true) : csB W w t (n - j) j (Sr W n w t r) free = true := by
  refine (csB_iff wf w t _ (n - j) j free).mpr ⟨r, fun i h1 h2 h3 => ?_⟩
  have hf6 := wf.1
  obtain ⟨h4, h5⟩ := (Sr_bit W n w t r i).mp h3
  obtain ⟨h6, h7, _⟩ := (opr_bit W w t i (r i)).mp h5
  obtain ⟨_, h8⟩ := hv i h4
  obtain ⟨_, _, h9⟩ := h8 (by omega)
  exact ⟨h5, hfree _ h6 (fun i' hi' => h9 i' (by omega) (by omega)), fun i' h10 h11 _ => h9 i' (by omega) (by omega)⟩
/-- rows by numbers, the first want's swearer the highest digit -/
def rowN (n x i : Nat) : Nat := x / 7 ^ (n - 1 - i) % 7
theorem rowN_le (n x i : Nat) : rowN n x i ≤ 6 := by
  have : rowN n x i < 7 := Nat.mod_lt _ (by decide)
  omega
theorem div7 (x m : Nat) : x / 7 ^ m = 7 * (x / 7 ^ (m + 1)) + x / 7 ^ m % 7 := by
  rw [Nat.pow_succ, ← Nat.div_div_eq_div_mul]
  exact (Nat.div_add_mod _ 7).symm
theorem pre_eq {n x y : Nat} (hx : x < 7 ^ n) (hy : y < 7 ^ n) : ∀ j, j ≤ n → (∀ i, i < j → rowN n x i = rowN n y i) → x / 7 ^ (n - j) = y / 7 ^ (n - j)
  | 0, _, _ => by rw [Nat.sub_zero, Nat.div_eq_of_lt hx, Nat.div_eq_of_lt hy]
  | j + 1, hj, h => by
    have ih := pre_eq hx hy j (by omega) (fun i hi => h i (by omega))
    have hd := h j (by omega)
    unfold rowN at hd
    rw [show n - 1 - j = n - (j + 1) by omega] at hd
    rw [div7 x, div7 y, hd, show n - (j + 1) + 1 = n - j by omega, ih]
theorem lex_lt {n x y j : Nat} (hx : x < 7 ^ n) (hy : y < 7 ^ n) (hj : j < n) (h : ∀ i, i < j → rowN n x i = rowN n y i) (hlt : rowN n x j < rowN n y j) : x < y := by
  have h1 := pre_eq hx hy j (by omega) h
  unfold rowN at hlt
  have h2 := div7 x (n - 1 - j)
  have h3 := div7 y (n - 1 - j)
  rw [show n - 1 - j + 1 = n - j by omega] at h2 h3
  have h4 : x / 7 ^ (n - 1 - j) < y / 7 ^ (n - 1 - j) := by omega
  apply Classical.byContradiction
  intro hn
  have := Nat.div_le_div_right (c := 7 ^ (n - 1 - j)) (show y ≤ x by omega)
  omega
theorem num7 (r : Nat → Nat) (n : Nat) (hr : ∀ i, i < n → r i ≤ 6) : ∀ j, j ≤ n → ∃ x, x < 7 ^ j ∧ ∀ i, i < j → x / 7 ^ (j - 1 - i) % 7 = r i
  | 0, _ => ⟨0, by decide, fun i hi => absurd hi (Nat.not_lt_zero i)⟩
  | j + 1, hj => by
    obtain ⟨x, h1, h2⟩ := num7 r n hr j (by omega)
    have hrj := hr j (by omega)
    refine ⟨7 * x + r j, ?_, fun i hi => ?_⟩
    · rw [Nat.pow_succ]; omega
    · by_cases e : i = j
      · rw [e, show j + 1 - 1 - j = 0 by omega, Nat.pow_zero, Nat.div_one]
        omega
      · rw [← h2 i (by omega), show j + 1 - 1 - i = (j - 1 - i) + 1 by omega, Nat.pow_succ, Nat.mul_comm (7 ^ (j - 1 - i)) 7, ← Nat.div_div_eq_div_mul]
        rw [show (7 * x + r j) / 7 = x by omega]
theorem rowN_ex {r : Nat → Nat} {n : Nat} (hr : ∀ i, i < n → r i ≤ 6) : ∃ x, x < 7 ^ n ∧ ∀ i, i < n → rowN n x i = r i := num7 r n hr n (Nat.le_refl _)
theorem Sr_cong {W : Cn} {n : Nat} {w t r r' : Nat → Nat} (h : ∀ i, i < n → r i = r' i) : Sr W n w t r = Sr W n w t r' := by
  apply Nat.eq_of_testBit_eq
  intro i
  rw [Bool.eq_iff_iff, Sr_bit, Sr_bit]
  constructor
  · rintro ⟨h1, h2⟩; rw [h i h1] at h2; exact ⟨h1, h2⟩
  · rintro ⟨h1, h2⟩; rw [← h i h1] at h2; exact ⟨h1, h2⟩
theorem vrd_cong {W : Cn} {n : Nat} {w r r' : Nat → Nat} (h : ∀ i, i < n → r i = r' i) (hv : vrd W w r n) : vrd W w r' n := by
  intro i hi
  rw [← h i hi]
  refine ⟨(hv i hi).1, fun h6 => ?_⟩
  obtain ⟨a, b, c⟩ := (hv i hi).2 h6
  exact ⟨a, b, fun i' h1 h2 => by rw [← h i' h1]; exact c i' h1 h2⟩
/-- the most wants that can be kept -/
def mxM (W : Cn) (n : Nat) (w t : Nat → Nat) (M : Nat) : Prop := (∃ r, vrd W w r n ∧ Kct W n w t (Sr W n w t r) = M) ∧ ∀ r, vrd W w r n → Kct W n w t (Sr W n w t r) ≤ M
theorem mxM_one {W : Cn} {n : Nat} {w t : Nat → Nat} {M M' : Nat} (h : mxM W n w t M) (h' : mxM W n w t M') : M = M' := by
  obtain ⟨⟨r, h1, h2⟩, h3⟩ := h
  obtain ⟨⟨r', h1', h2'⟩, h3'⟩ := h'
  have := h3 r' h1'
  have := h3' r h1
  omega
/-- the first row by numbers by which most are kept -/
def fstN (W : Cn) (n : Nat) (w t : Nat → Nat) (M x : Nat) : Prop := x < 7 ^ n ∧ vrd W w (rowN n x) n ∧ Kct W n w t (Sr W n w t (rowN n x)) = M ∧ ∀ y, y < x → vrd W w (rowN n y) n → Kct W n w t (Sr W n w t (rowN n y)) ≠ M
theorem fstN_one {W : Cn} {n : Nat} {w t : Nat → Nat} {M x y : Nat} (h : fstN W n w t M x) (h' : fstN W n w t M y) : x = y := by
  have h1 : ¬ y < x := fun q => h.2.2.2 y q h'.2.1 h'.2.2.1
  have h2 : ¬ x < y := fun q => h'.2.2.2 x q h.2.1 h.2.2.1
  omega
