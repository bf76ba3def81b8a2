/-! L3: of some things as many as may be: the table's way and the reference's -/
def kp (cl : Nat → Nat) : Nat → Nat → Nat → Nat
  | 0, _, _ => 0
  | t + 1, 0, s => kp cl t 0 s
  | t + 1, r + 1, s => if s.testBit t then (if pc (kp cl t (r + 1) s) < pc (kp cl t r (ndf s (cl t)) ||| 2 ^ t) then kp cl t r (ndf s (cl t)) ||| 2 ^ t else kp cl t (r + 1) s) else kp cl t (r + 1) s
def subS (x s : Nat) : Prop := ∀ i, x.testBit i = true → s.testBit i = true
def okS (cl : Nat → Nat) (s r x : Nat) : Prop := subS x s ∧ (∀ i j, x.testBit i = true → x.testBit j = true → (cl i).testBit j = false) ∧ pc x ≤ r
def bestS (cl : Nat → Nat) (t s r x : Nat) : Prop := x < 2 ^ t ∧ okS cl s r x ∧ ∀ y, y < 2 ^ t → okS cl s r y → pc y < pc x ∨ (pc y = pc x ∧ x ≤ y)
def symC (cl : Nat → Nat) : Prop := (∀ i j, (cl i).testBit j = (cl j).testBit i) ∧ ∀ i, (cl i).testBit i = false
theorem pc_zero : pc 0 = 0 := by decide
theorem lt_of_top {y t : Nat} (h : y < 2 ^ (t + 1)) (hb : y.testBit t = false) : y < 2 ^ t := by
  apply Nat.lt_pow_two_of_testBit
  intro i hi
  by_cases h1 : i = t
  · rw [h1]; exact hb
  · exact Nat.testBit_lt_two_pow (Nat.lt_of_lt_of_le h (Nat.pow_le_pow_right (by decide) (by omega)))
theorem pc_set {x t : Nat} (ht : t < 12) (hb : x.testBit t = false) : pc (x ||| 2 ^ t) = pc x + 1 := by
  unfold pc
  have h := fb_ct_upd x.testBit true ht
  rw [hb] at h
  rw [show fb_ct (x ||| 2 ^ t).testBit 12 = fb_ct (fun k => if k = t then true else x.testBit k) 12 from fb_ct_cong (fun k _ => by
    rw [fb_bit_set]
    by_cases hk : k = t
    · simp [hk]
    · simp [hk])]
  simpa using h
theorem or_add {x t : Nat} (h : x < 2 ^ t) : x ||| 2 ^ t = x + 2 ^ t := by
  have := Nat.two_pow_add_eq_or_of_lt h 1
  rw [Nat.mul_one] at this
  rw [Nat.or_comm, ← this, Nat.add_comm]
theorem top_bit {x t : Nat} (h : x < 2 ^ t) : x.testBit t = false := Nat.testBit_lt_two_pow h
theorem split_top {y t : Nat} (h : y < 2 ^ (t + 1)) (hb : y.testBit t = true) : ∃ z, z < 2 ^ t ∧ y = z ||| 2 ^ t := by
  refine ⟨y - 2 ^ t, ?_, ?_⟩
  · rw [Nat.pow_succ] at h
    have := Nat.two_pow_pos t
    omega
  · have h1 : 2 ^ t ≤ y := Nat.ge_two_pow_of_testBit hb
    have h2 : y - 2 ^ t < 2 ^ t := by rw [Nat.pow_succ] at h; omega
    rw [or_add h2]
    omega
theorem pow_bit (t i : Nat) : (2 ^ t).testBit i = decide (i = t) := by
  rw [Nat.testBit_two_pow]
  exact decide_eq_decide.mpr eq_comm
theorem kp_best {cl : Nat → Nat} (hc : symC cl) : ∀ t, t ≤ 12 → ∀ s r, bestS cl t s r (kp cl t r s)
  | 0, _, s, r => by
    have e : kp cl 0 r s = 0 := by cases r <;> rfl
    rw [e]
    refine ⟨by decide, ⟨fun i h => by simp at h, fun i j h => by simp at h, by rw [pc_zero]; omega⟩, fun y hy _ => ?_⟩
    have : y = 0 := by simpa using hy
    rw [this]
    exact Or.inr ⟨rfl, Nat.le_refl _⟩
  | t + 1, ht, s, 0 => by
    have ih := kp_best hc t (by omega) s 0
    show bestS cl (t + 1) s 0 (kp cl t 0 s)
    refine ⟨Nat.lt_of_lt_of_le ih.1 (Nat.pow_le_pow_right (by decide) (by omega)), ih.2.1, fun y hy h => ?_⟩
    refine ih.2.2 y (lt_of_top hy ?_) h
    have h0 : fb_ct y.testBit 12 = 0 := by have := h.2.2; unfold pc at this; omega
    exact fb_ct_zero.mp h0 t (by omega)
  | t + 1, ht, s, r + 1 => by
    have ih := kp_best hc t (by omega) s (r + 1)
    have ih2 := kp_best hc t (by omega) (ndf s (cl t)) r
    rw [kp]
    cases hs : s.testBit t with
    | false =>
      rw [if_neg (by decide)]
      refine ⟨Nat.lt_of_lt_of_le ih.1 (Nat.pow_le_pow_right (by decide) (by omega)), ih.2.1, fun y hy h => ?_⟩
      refine ih.2.2 y (lt_of_top hy ?_) h
      cases hb : y.testBit t with
      | false => rfl
      | true => rw [h.1 t hb] at hs; cases hs
    | true =>
      rw [if_pos rfl]
      generalize hA : kp cl t (r + 1) s = A at ih
      generalize hB : kp cl t r (ndf s (cl t)) = B at ih2
      have hBt := top_bit ih2.1
      have hAt := top_bit ih.1
      have pB : pc (B ||| 2 ^ t) = pc B + 1 := pc_set (by omega) hBt
      have okB : okS cl s (r + 1) (B ||| 2 ^ t) := by
        refine ⟨fun i hi => ?_, fun i j hi hj => ?_, by rw [pB]; have := ih2.2.1.2.2; omega⟩
        · rw [fb_bit_set] at hi
          by_cases h1 : i = t
          · rw [h1]; exact hs
          · have h2 : B.testBit i = true := by simpa [h1] using hi
            have h3 := ih2.2.1.1 i h2
            rw [ndf_bit] at h3
            simp only [Bool.and_eq_true] at h3
            exact h3.1
        · rw [fb_bit_set] at hi hj
          by_cases h1 : i = t
          · by_cases h2 : j = t
            · rw [h1, h2]; exact hc.2 t
            · have h3 : B.testBit j = true := by simpa [h2] using hj
              have h4 := ih2.2.1.1 j h3
              rw [ndf_bit] at h4
              rw [h1]
              simp only [Bool.and_eq_true, Bool.not_eq_true'] at h4
              exact h4.2
          · have h3 : B.testBit i = true := by simpa [h1] using hi
            by_cases h2 : j = t
            · have h4 := ih2.2.1.1 i h3
              rw [ndf_bit] at h4
              simp only [Bool.and_eq_true, Bool.not_eq_true'] at h4
              rw [h2, hc.1]
              exact h4.2
            · have h5 : B.testBit j = true := by simpa [h2] using hj
              exact ih2.2.1.2.1 i j h3 h5
      have hlt : B ||| 2 ^ t < 2 ^ (t + 1) := by
        rw [or_add ih2.1, Nat.pow_succ]; have := ih2.1; omega
      have hwith : ∀ y, y < 2 ^ (t + 1) → okS cl s (r + 1) y → y.testBit t = true → pc y < pc (B ||| 2 ^ t) ∨ (pc y = pc (B ||| 2 ^ t) ∧ B ||| 2 ^ t ≤ y) := by
        intro y hy h hb
        obtain ⟨z, hz, rfl⟩ := split_top hy hb
        have hzt := top_bit hz
        have pz : pc (z ||| 2 ^ t) = pc z + 1 := pc_set (by omega) hzt
        have bz : ∀ i, z.testBit i = true → (z ||| 2 ^ t).testBit i = true := fun i hi => by rw [fb_bit_set, hi]; rfl
        have okz : okS cl (ndf s (cl t)) r z := by
          refine ⟨fun i hi => ?_, fun i j hi hj => h.2.1 i j (bz i hi) (bz j hj), by have := h.2.2; omega⟩
          rw [ndf_bit, h.1 i (bz i hi), h.2.1 t i hb (bz i hi)]
          rfl
        have h4 := ih2.2.2 z hz okz
        rw [pz, pB, or_add hz, or_add ih2.1]
        omega
      have hwo : ∀ y, y < 2 ^ (t + 1) → okS cl s (r + 1) y → y.testBit t = false → pc y < pc A ∨ (pc y = pc A ∧ A ≤ y) := fun y hy h hb => ih.2.2 y (lt_of_top hy hb) h
      by_cases hgt : pc A < pc (B ||| 2 ^ t)
      · rw [if_pos hgt]
        refine ⟨hlt, okB, fun y hy h => ?_⟩
        cases hb : y.testBit t with
        | true => exact hwith y hy h hb
        | false =>
          have := hwo y hy h hb
          left; omega
      · rw [if_neg hgt]
        refine ⟨Nat.lt_of_lt_of_le ih.1 (Nat.pow_le_pow_right (by decide) (by omega)), ih.2.1, fun y hy h => ?_⟩
        cases hb : y.testBit t with
        | false => exact hwo y hy h hb
        | true =>
          have h5 := hwith y hy h hb
          have h6 : 2 ^ t ≤ y := Nat.ge_two_pow_of_testBit hb
          have h7 := ih.1
          omega
theorem best_one {cl : Nat → Nat} {t s r x y : Nat} (hx : bestS cl t s r x) (hy : bestS cl t s r y) : x = y := by
  have h1 := hx.2.2 y hy.1 hy.2.1
  have h2 := hy.2.2 x hx.1 hx.2.1
  omega
/-- what is kept of what is open, by so much room -/
def bst (W : Cn) (s r : Nat) : Nat := kp (cl W) 8 r s
theorem bst_b (W : Cn) (hc : symC (cl W)) (s r : Nat) : bst W s r < 256 := (kp_best hc 8 (by decide) s r).1
theorem and_sub {y m : Nat} : subS y m ↔ y &&& m = y := by
  constructor
  · intro h
    apply Nat.eq_of_testBit_eq
    intro i
    rw [Nat.testBit_and]
    cases hb : y.testBit i with
    | false => rfl
    | true => rw [h i hb]; rfl
  · intro h i hi
    have : (y &&& m).testBit i = true := by rw [h]; exact hi
    rw [Nat.testBit_and] at this
    simp only [Bool.and_eq_true] at this
    exact this.2
theorem next_sub : ∀ (n y s m : Nat), s ≤ n → y &&& m = y → s &&& m = s → y < s → y ≤ (s - 1) &&& m
  | 0, y, s, m, hn, _, _, h => by omega
  | n + 1, y, s, m, hn, hy, hs, h => by
    have d1 := Nat.and_div_two (a := y) (b := m)
    have d2 := Nat.and_div_two (a := s) (b := m)
    have d3 := Nat.and_div_two (a := s - 1) (b := m)
    have e1 : (y &&& m) % 2 = (y % 2) &&& (m % 2) := Nat.and_mod_two_pow (n := 1)
    have e3 : ((s - 1) &&& m) % 2 = ((s - 1) % 2) &&& (m % 2) := Nat.and_mod_two_pow (n := 1)
    rw [hy] at d1 e1
    rw [hs] at d2
    by_cases c : s % 2 = 1
    · have h1 : (s - 1) / 2 = s / 2 := by omega
      rw [h1, ← d2] at d3
      have : (s - 1) % 2 = 0 := by omega
      omega
    · have h1 : (s - 1) / 2 = s / 2 - 1 := by omega
      have h2 : (s - 1) % 2 = 1 := by omega
      rw [h1] at d3
      rw [h2] at e3
      have h4 := next_sub n (y / 2) (s / 2) (m / 2) (by omega) d1.symm d2.symm (by omega)
      rw [← d3] at h4
      have hm : m % 2 = 0 ∨ m % 2 = 1 := by omega
      have hyy : y % 2 = 0 ∨ y % 2 = 1 := by omega
      rcases hm with hm | hm
      · rw [hm] at e1 e3
        have : y % 2 = 0 := by rw [e1]; exact Nat.and_zero _
        omega
      · rw [hm] at e1 e3
        have : ((s - 1) &&& m) % 2 = 1 := e3
        omega
theorem pea_iff {W : Cn} (wf : WF W) {s : Nat} (hs : s < 256) : pea W s = true ↔ ∀ i j, s.testBit i = true → s.testBit j = true → (cl W i).testBit j = false := by
  have key : ∀ n, fo (fun t b => b && (!s.testBit t || decide (cl W t &&& s = 0))) true n = true ↔ ∀ t, t < n → s.testBit t = true → cl W t &&& s = 0 := by
    intro n
    induction n with
    | zero => simp [fo]
    | succ n ih =>
      rw [fo, Bool.and_eq_true, ih]
      constructor
      · rintro ⟨h1, h2⟩ t ht hb
        by_cases e : t = n
        · rw [e] at hb ⊢
          simpa [hb] using h2
        · exact h1 t (by omega) hb
      · intro h
        refine ⟨fun t ht hb => h t (by omega) hb, ?_⟩
        cases hb : s.testBit n with
        | false => rfl
        | true => simpa using h n (by omega) hb
  unfold pea
  rw [key 8]
  constructor
  · intro h i j hi hj
    have h8 : i < 8 := by
      apply Classical.byContradiction
      intro hn
      rw [Nat.testBit_lt_two_pow (Nat.lt_of_lt_of_le hs (Nat.pow_le_pow_right (n := 2) (i := 8) (by decide) (by omega)))] at hi
      cases hi
    have h2 := h i h8 hi
    have h3 : (cl W i &&& s).testBit j = false := by rw [h2]; exact Nat.zero_testBit j
    rw [Nat.testBit_and, hj, Bool.and_true] at h3
    exact h3
  · intro h t ht hb
    apply Nat.eq_of_testBit_eq
    intro j
    rw [Nat.testBit_and, Nat.zero_testBit]
    cases hj : s.testBit j with
    | false => exact Bool.and_false _
    | true => rw [h t j hb hj]; rfl
