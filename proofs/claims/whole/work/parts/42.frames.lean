/-! frames: what a function may change -/
def covB (W : List (Nat × Option Nat)) (p j : Nat) : Bool := W.any (fun e => e.1 == p && (match e.2 with | none => true | some k => k == j))
def agx (W : List (Nat × Option Nat)) (m m' : Mm) : Prop := ∀ p j, covB W p j = false → mI m' p j = mI m p j ∧ mL m' p j = mL m p j
theorem agx_rf {W : List (Nat × Option Nat)} (m : Mm) : agx W m m := fun _ _ _ => ⟨rfl, rfl⟩
theorem agx_tr {W : List (Nat × Option Nat)} {a b c : Mm} (h1 : agx W a b) (h2 : agx W b c) : agx W a c := fun p j h => ⟨((h2 p j h).1).trans (h1 p j h).1, ((h2 p j h).2).trans (h1 p j h).2⟩
theorem agx_wr {W : List (Nat × Option Nat)} {m m' : Mm} {p j : Nat} {v : Int32} (h : agx W m m') (hc : covB W p j = true) : agx W m (sI m' p j v) := fun a i ha => by
  refine ⟨?_, (h a i ha).2⟩
  rw [rdI, if_neg]
  · exact (h a i ha).1
  · rintro ⟨rfl, rfl⟩
    rw [hc] at ha
    cases ha
theorem agx_wl {W : List (Nat × Option Nat)} {m m' : Mm} {p j : Nat} {v : Int64} (h : agx W m m') (hc : covB W p j = true) : agx W m (sL m' p j v) := fun a i ha => by
  refine ⟨(h a i ha).1, ?_⟩
  show (if a = p ∧ i = j then v else mL m' a i) = _
  rw [if_neg]
  · exact (h a i ha).2
  · rintro ⟨rfl, rfl⟩
    rw [hc] at ha
    cases ha
theorem agx_cp {W : List (Nat × Option Nat)} {m m' : Mm} {a sp b dp n : Nat} (h : agx W m m') (hc : ∀ j, covB W b j = true) : agx W m (cpM m' a sp b dp n) := fun x i hx => by
  refine ⟨?_, (h x i hx).2⟩
  show (if x = b ∧ dp ≤ i ∧ i < dp + n then _ else mI m' x i) = _
  rw [if_neg]
  · exact (h x i hx).1
  · rintro ⟨rfl, -⟩
    rw [hc i] at hx
    cases hx
theorem agx_ite {W : List (Nat × Option Nat)} {c : Prop} [Decidable c] {m a b : Mm} (h1 : agx W m a) (h2 : agx W m b) : agx W m (if c then a else b) := by
  split
  · exact h1
  · exact h2
theorem cov_sub {W1 W2 : List (Nat × Option Nat)} (hs : W1.all (fun e => W2.contains e) = true) {p j : Nat} (h : covB W2 p j = false) : covB W1 p j = false := by
  cases h1 : covB W1 p j with
  | false => rfl
  | true =>
    exfalso
    obtain ⟨e, he, h2⟩ := List.any_eq_true.mp h1
    have h3 := List.all_eq_true.mp hs e he
    have h4 : e ∈ W2 := by simpa using h3
    have : covB W2 p j = true := List.any_eq_true.mpr ⟨e, h4, h2⟩
    rw [this] at h
    cases h
theorem agx_mono {W1 W2 : List (Nat × Option Nat)} {m m' : Mm} (hs : W1.all (fun e => W2.contains e) = true) (h : agx W1 m m') : agx W2 m m' := fun p j hp => h p j (cov_sub hs hp)
theorem while_fr {σ ρ : Type} {body : σ → Option (σ ⊕ ρ)} {Inv : σ → Prop} {Post : ρ → Prop} {n : Nat} {s : σ} {r : ρ} (h : whileF n body s = some r) (h0 : Inv s) (step : ∀ s x, body s = some x → Inv s → (∀ s', x = .inl s' → Inv s') ∧ (∀ r, x = .inr r → Post r)) : Post r := by
  induction n generalizing s with
  | zero => cases h
  | succ n ih =>
    rw [whileF] at h
    cases hb : body s with
    | none => rw [hb] at h; cases h
    | some x =>
      rw [hb] at h
      have hx := step s x hb h0
      cases x with
      | inl s' => exact ih h (hx.1 s' rfl)
      | inr q =>
        cases h
        exact hx.2 _ rfl
