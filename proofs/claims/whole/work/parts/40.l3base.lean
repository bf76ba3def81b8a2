/-! L3: pure rows: loops, reads behind writes, guards that pass -/
theorem while_seq {σ ρ : Type} {body : σ → Option (σ ⊕ ρ)} (s : Nat → σ) (r : ρ) (n : Nat) (hs : ∀ i, i < n → body (s i) = some (.inl (s (i + 1)))) (hx : body (s n) = some (.inr r)) : ∀ (m i N : Nat), i + m = n → m < N → whileF N body (s i) = some r
  | 0, i, N, hi, hN => by
    obtain ⟨k, rfl⟩ : ∃ k, N = k + 1 := ⟨N - 1, by omega⟩
    rw [whileF, show i = n by omega, hx]
  | m + 1, i, N, hi, hN => by
    obtain ⟨k, rfl⟩ : ∃ k, N = k + 1 := ⟨N - 1, by omega⟩
    rw [whileF, hs i (by omega)]
    exact while_seq s r n hs hx m (i + 1) k (by omega) (by omega)
/-- a loop whose states are known one by one -/
theorem loop_seq {σ ρ : Type} {body : σ → Option (σ ⊕ ρ)} (s : Nat → σ) (n : Nat) {r : ρ} {a : σ} (h0 : a = s 0) (hn : n < FU) (hs : ∀ i, i < n → body (s i) = some (.inl (s (i + 1)))) (hx : body (s n) = some (.inr r)) : whileF FU body a = some r := by
  rw [h0]
  exact while_seq s r n hs hx n 0 FU (by omega) hn
theorem while_inv {σ ρ : Type} {body : σ → Option (σ ⊕ ρ)} (I : Nat → σ → Prop) (P : ρ → Prop) (n : Nat) (hs : ∀ i s, i < n → I i s → (∃ s', body s = some (.inl s') ∧ I (i + 1) s') ∨ ∃ r, body s = some (.inr r) ∧ P r) (hx : ∀ s, I n s → ∃ r, body s = some (.inr r) ∧ P r) : ∀ (m i N : Nat) (s : σ), i + m = n → m < N → I i s → ∃ r, whileF N body s = some r ∧ P r
  | 0, i, N, s, hi, hN, h => by
    obtain ⟨k, rfl⟩ : ∃ k, N = k + 1 := ⟨N - 1, by omega⟩
    obtain ⟨r, h1, h2⟩ := hx s (by rw [← hi]; exact h)
    exact ⟨r, by rw [whileF, h1], h2⟩
  | m + 1, i, N, s, hi, hN, h => by
    obtain ⟨k, rfl⟩ : ∃ k, N = k + 1 := ⟨N - 1, by omega⟩
    rcases hs i s (by omega) h with ⟨s', h1, h2⟩ | ⟨r, h1, h2⟩
    · obtain ⟨r, h3, h4⟩ := while_inv I P n hs hx m (i + 1) k s' (by omega) (by omega) h2
      exact ⟨r, by rw [whileF, h1]; exact h3, h4⟩
    · exact ⟨r, by rw [whileF, h1], h2⟩
/-- a loop by an invariant: at most n turns, then out (or out before) -/
theorem loop_inv {σ ρ : Type} {body : σ → Option (σ ⊕ ρ)} (I : Nat → σ → Prop) (P : ρ → Prop) (n : Nat) {a : σ} (hn : n < FU) (h0 : I 0 a) (hs : ∀ i s, i < n → I i s → (∃ s', body s = some (.inl s') ∧ I (i + 1) s') ∨ ∃ r, body s = some (.inr r) ∧ P r) (hx : ∀ s, I n s → ∃ r, body s = some (.inr r) ∧ P r) : ∃ r, whileF FU body a = some r ∧ P r :=
  while_inv I P n hs hx n 0 FU a (by omega) hn h0
theorem FU_big {n : Nat} (h : n < 100000000) : n < FU := h
theorem grd_pos {α : Type} {i : Int32} {n : Nat} {k : Option α} (h : 0 ≤ i.toInt ∧ i.toInt < n) : grd i n k = k := by unfold grd; rw [if_pos h]
theorem grd_nI {α : Type} {j n : Nat} {k : Option α} (h : j < n) (hn : n < 2 ^ 31) : grd (nI j) n k = k := grd_pos (by rw [nI_toInt (by omega)]; omega)
theorem ix_nI {j : Nat} (h : j < 2 ^ 31) : ix (nI j) = j := nI_clamp h
theorem gdz_pos {α : Type} {y : Int32} {k : Option α} (h : ¬ y = 0) : gdz y k = k := by unfold gdz; rw [if_neg h]
theorem gbz_pos {α : Type} {x : Int32} {k : Option α} (h : x = 0 ∨ x = 1) : gbz x k = k := by unfold gbz; rw [if_pos h]
theorem gk_pos {α : Type} {S : Sk} {a c : Nat} {k : Option α} (h : KD S a c) : gk S a c k = k := by unfold gk; rw [if_pos (show a < sN S ∧ (sK S a).1 = c from h)]
theorem rdI (mm : Mm) (p j : Nat) (v : Int32) (a i : Nat) : mI (sI mm p j v) a i = if a = p ∧ i = j then v else mI mm a i := rfl
theorem rdI_ne (mm : Mm) {p a : Nat} (j : Nat) (v : Int32) (i : Nat) (h : a ≠ p) : mI (sI mm p j v) a i = mI mm a i := by rw [rdI, if_neg (fun q => h q.1)]
theorem rdI_nj (mm : Mm) (p : Nat) {j i : Nat} (v : Int32) (a : Nat) (h : i ≠ j) : mI (sI mm p j v) a i = mI mm a i := by rw [rdI, if_neg (fun q => h q.2)]
theorem rdI_eq (mm : Mm) (p j : Nat) (v : Int32) : mI (sI mm p j v) p j = v := by rw [rdI, if_pos ⟨rfl, rfl⟩]
theorem rdL_I (mm : Mm) (p j : Nat) (v : Int32) : mL (sI mm p j v) = mL mm := rfl
theorem rdI_L (mm : Mm) (p j : Nat) (v : Int64) : mI (sL mm p j v) = mI mm := rfl
theorem bind_some' {α β : Type} {x : Option α} {a : α} {f : α → Option β} (h : x = some a) : x.bind f = f a := by rw [h]; rfl
theorem ix0 : ix (0 : Int32) = 0 := by decide
theorem lit_nI (n : Nat) : (OfNat.ofNat n : Int32) = nI n := by rfl
/-- a call touches only the reference's places, only the others -/
def onM (p : Nat) : Prop := 44 ≤ p ∧ p < 71
def agC (m m' : Mm) : Prop := ∀ p, ¬ onM p → ∀ j, mI m' p j = mI m p j
def agM (m m' : Mm) : Prop := ∀ p, onM p → (∀ j, mI m' p j = mI m p j) ∧ ∀ j, mL m' p j = mL m p j
theorem agC.rf (m : Mm) : agC m m := fun _ _ _ => rfl
theorem agM.rf (m : Mm) : agM m m := fun _ _ => ⟨fun _ => rfl, fun _ => rfl⟩
theorem agC.tr {a b c : Mm} (h1 : agC a b) (h2 : agC b c) : agC a c := fun p hp j => (h2 p hp j).trans (h1 p hp j)
theorem agM.tr {a b c : Mm} (h1 : agM a b) (h2 : agM b c) : agM a c := fun p hp => ⟨fun j => ((h2 p hp).1 j).trans ((h1 p hp).1 j), fun j => ((h2 p hp).2 j).trans ((h1 p hp).2 j)⟩
theorem agC.wr {m m' : Mm} (h : agC m m') {p : Nat} (j : Nat) (v : Int32) (hp : onM p) : agC m (sI m' p j v) := fun a ha i => by
  rw [rdI_ne _ _ _ _ (fun e => ha (by rw [e]; exact hp))]
  exact h a ha i
theorem agC.wl {m m' : Mm} (h : agC m m') (p j : Nat) (v : Int64) : agC m (sL m' p j v) := h
theorem agM.wr {m m' : Mm} (h : agM m m') {p : Nat} (j : Nat) (v : Int32) (hp : ¬ onM p) : agM m (sI m' p j v) := fun a ha => ⟨fun i => by
  rw [rdI_ne _ _ _ _ (fun e => hp (by rw [← e]; exact ha))]
  exact (h a ha).1 i, fun i => (h a ha).2 i⟩
theorem onM_of {p : Nat} (h : (Nat.ble 44 p && Nat.blt p 71) = true) : onM p := by
  simp only [Bool.and_eq_true] at h
  exact ⟨Nat.le_of_ble_eq_true h.1, Nat.le_of_ble_eq_true h.2⟩
theorem offM_of {p : Nat} (h : (Nat.ble 44 p && Nat.blt p 71) = false) : ¬ onM p := by
  intro q
  have h1 : Nat.ble 44 p = true := Nat.ble_eq.mpr q.1
  have h2 : Nat.blt p 71 = true := Nat.ble_eq.mpr q.2
  rw [h1, h2] at h
  cases h
