/-! L3: the tokens of a tape, as the class takes them -/
def sb (u : Nat) : Int32 := if u < 128 then nI u else nI u - nI 256
theorem sb_eq : ∀ u, u < 256 → (sb u = 32 ↔ u = 32) ∧ (sb u = 10 ↔ u = 10) ∧ (sb u = 59 ↔ u = 59) ∧ (sb u < 97 ↔ (128 ≤ u ∨ u < 97)) ∧ (122 < sb u ↔ (122 < u ∧ u < 128)) ∧ (sb u < 48 ↔ (128 ≤ u ∨ u < 48)) ∧ (57 < sb u ↔ (57 < u ∧ u < 128)) := by decide +kernel
def bk (u : Nat → Nat) (i : Nat) : Bool := decide (u i = 32 ∨ u i = 10)
def lt (u : Nat → Nat) (i : Nat) : Bool := decide (97 ≤ u i ∧ u i ≤ 122)
def dg (u : Nat → Nat) (i : Nat) : Bool := decide (48 ≤ u i ∧ u i ≤ 57)
/-- e is where the run of P from pos on ends -/
def skS (P : Nat → Bool) (n pos e : Nat) : Prop := pos ≤ e ∧ e ≤ n ∧ (∀ j, pos ≤ j → j < e → P j = true) ∧ (e = n ∨ P e = false)
theorem skS_one {P : Nat → Bool} {n pos e e' : Nat} (h : skS P n pos e) (h' : skS P n pos e') : e = e' := by
  have key : ∀ {e e'}, skS P n pos e → skS P n pos e' → ¬ e < e' := by
    intro e e' h h' hlt
    rcases h.2.2.2 with q | q
    · have := h'.2.1; omega
    · rw [h'.2.2.1 e h.1 hlt] at q; cases q
  have h1 := key h h'
  have h2 := key h' h
  omega
def nvl (u : Nat → Nat) (s e : Nat) : Nat := if e - s < 2 then u s - 48 else 10 * (u s - 48) + (u (s + 1) - 48)
/-- kind, start and end of the token from pos on -/
def tokS (u : Nat → Nat) (n pos k s e : Nat) : Prop := skS (bk u) n pos s ∧ ((s = n ∧ k = 0 ∧ e = n) ∨ (s < n ∧ lt u s = true ∧ k = 1 ∧ skS (lt u) n s e) ∨ (s < n ∧ dg u s = true ∧ skS (dg u) n s e ∧ k = (if e - s ≤ 2 then 2 else 4)) ∨ (s < n ∧ lt u s = false ∧ dg u s = false ∧ e = s + 1 ∧ k = (if u s = 59 then 3 else 4)))
theorem ltdg {u : Nat → Nat} {s : Nat} (h : lt u s = true) : dg u s = false := by
  unfold lt at h; unfold dg
  rw [decide_eq_true_eq] at h
  rw [decide_eq_false_iff_not]; omega
theorem tokS_one {u : Nat → Nat} {n pos k s e k' s' e' : Nat} (h : tokS u n pos k s e) (h' : tokS u n pos k' s' e') : k = k' ∧ s = s' ∧ e = e' := by
  obtain ⟨h1, h2⟩ := h
  obtain ⟨h1', h2'⟩ := h'
  obtain rfl := skS_one h1 h1'
  rcases h2 with ⟨a1, a2, a3⟩ | ⟨a1, a2, a3, a4⟩ | ⟨a1, a2, a3, a4⟩ | ⟨a1, a2, a3, a4, a5⟩ <;> rcases h2' with ⟨b1, b2', b3⟩ | ⟨b1, b2', b3, b4⟩ | ⟨b1, b2', b3, b4⟩ | ⟨b1, b2', b3, b4, b5⟩
  · exact ⟨by rw [a2, b2'], rfl, by rw [a3, b3]⟩
  · omega
  · omega
  · omega
  · omega
  · exact ⟨by rw [a3, b3], rfl, skS_one a4 b4⟩
  · rw [ltdg a2] at b2'; cases b2'
  · rw [a2] at b2'; cases b2'
  · omega
  · rw [ltdg b2'] at a2; cases a2
  · obtain rfl := skS_one a3 b3
    exact ⟨by rw [a4, b4], rfl, rfl⟩
  · rw [a2] at b3; cases b3
  · omega
  · rw [a2] at b2'; cases b2'
  · rw [a3] at b2'; cases b2'
  · exact ⟨by rw [a5, b5], rfl, by rw [a4, b4]⟩
theorem gR_pos {α : Type} {o : Option Nat} {c : Nat} {x : Option α} (h : o = some c) : gR o c x = x := by
  unfold gR; rw [if_pos h]
/-- the class's tape: n bytes u -/
def TPC (u : Nat → Nat) (n : Nat) (S : Sk) (m : Mm) : Prop := n ≤ 600 ∧ (∀ i, u i < 256) ∧ sR S 7 5 = some 2 ∧ mI m 7 6 = nI n ∧ ∀ i, i < n → mI m 2 i = sb (u i)
theorem TPC_wr {u : Nat → Nat} {n : Nat} {S : Sk} {m : Mm} (h : TPC u n S m) {p j : Nat} (hp : p ≠ 2) (hj : p = 7 → j ≠ 6) (v : Int32) : TPC u n S (sI m p j v) := by
  obtain ⟨h1, h2, h3, h4, h5⟩ := h
  refine ⟨h1, h2, h3, ?_, fun i hi => by rw [rdI_ne _ _ _ _ (fun q => hp q.symm)]; exact h5 i hi⟩
  rw [rdI, if_neg]
  · exact h4
  · rintro ⟨rfl, rfl⟩; exact hj rfl rfl
theorem C_isLetter {u : Nat → Nat} {n : Nat} {S : Sk} {m : Mm} (h : TPC u n S m) {i : Nat} (hi : i < n) : m_X5_isLetter S (nI i) m = some (b2 (lt u i)) := by
  obtain ⟨h1, h2, h3, h4, h5⟩ := h
  have b := sb_eq (u i) (h2 i)
  unfold m_X5_isLetter lt
  rw [gR_pos h3, n_grd (by omega) (by decide), n_ix (by omega), h5 i hi, n_grd (by omega) (by decide)]
  by_cases q : sb (u i) < 97
  · rw [if_pos q]
    have := b.2.2.2.1.mp q
    rw [decide_eq_false (by have := h2 i; omega)]; rfl
  · rw [if_neg q]
    have q' : ¬ (128 ≤ u i ∨ u i < 97) := fun z => q (b.2.2.2.1.mpr z)
    by_cases w : 122 < sb (u i)
    · rw [if_pos w]
      have := b.2.2.2.2.1.mp w
      rw [decide_eq_false (by omega)]; rfl
    · rw [if_neg w]
      have w' : ¬ (122 < u i ∧ u i < 128) := fun z => w (b.2.2.2.2.1.mpr z)
      rw [decide_eq_true (by omega)]; rfl
theorem C_isDigit {u : Nat → Nat} {n : Nat} {S : Sk} {m : Mm} (h : TPC u n S m) {i : Nat} (hi : i < n) : m_X5_isDigit S (nI i) m = some (b2 (dg u i)) := by
  obtain ⟨h1, h2, h3, h4, h5⟩ := h
  have b := sb_eq (u i) (h2 i)
  unfold m_X5_isDigit dg
  rw [gR_pos h3, n_grd (by omega) (by decide), n_ix (by omega), h5 i hi, n_grd (by omega) (by decide)]
  by_cases q : sb (u i) < 48
  · rw [if_pos q]
    have := b.2.2.2.2.2.1.mp q
    rw [decide_eq_false (by have := h2 i; omega)]; rfl
  · rw [if_neg q]
    have q' : ¬ (128 ≤ u i ∨ u i < 48) := fun z => q (b.2.2.2.2.2.1.mpr z)
    by_cases w : 57 < sb (u i)
    · rw [if_pos w]
      have := b.2.2.2.2.2.2.mp w
      rw [decide_eq_false (by omega)]; rfl
    · rw [if_neg w]
      have w' : ¬ (57 < u i ∧ u i < 128) := fun z => w (b.2.2.2.2.2.2.mpr z)
      rw [decide_eq_true (by omega)]; rfl
theorem C_skip {u : Nat → Nat} {n : Nat} {S : Sk} {m : Mm} (h : TPC u n S m) {pos : Nat} (hp : pos ≤ n) (h9 : mI m 7 9 = nI pos) : ∃ m' s, whileF FU (m_X5_nextToken_b8 S) m = some m' ∧ skS (bk u) n pos s ∧ mI m' 7 9 = nI s ∧ TPC u n S m' := by
  have n6 := h.1
  obtain ⟨m', e, s, g1, g2, g3⟩ := loop_inv (body := m_X5_nextToken_b8 S) (a := m) (fun i z => mI z 7 9 = nI (pos + i) ∧ pos + i ≤ n ∧ (∀ j, pos ≤ j → j < pos + i → bk u j = true) ∧ TPC u n S z) (fun z => ∃ s, skS (bk u) n pos s ∧ mI z 7 9 = nI s ∧ TPC u n S z) (n - pos) (FU_big (by omega)) ⟨h9, hp, fun j h1 h2 => by omega, h⟩ (by
    rintro i z hi ⟨z9, zi, zb, zt⟩
    have zt' := zt
    obtain ⟨h1, h2, h3, h4, h5⟩ := zt'
    have b := sb_eq (u (pos + i)) (h2 _)
    have h5i := h5 (pos + i) (by omega)
    unfold m_X5_nextToken_b8
    rw [h4, z9, if_neg (by rw [n_le (by omega) (by omega)]; omega), gR_pos h3, n_grd (by omega) (by decide), n_ix (by omega), h5i, n_grd (by omega) (by decide)]
    by_cases q : u (pos + i) = 32 ∨ u (pos + i) = 10
    · left
      have e1 : (if sb (u (pos + i)) = 32 then (some (Sum.inl ()) : Option (Unit ⊕ (Mm ⊕ Mm))) else if sb (u (pos + i)) = 10 then some (Sum.inl ()) else some (Sum.inr (Sum.inr z))) = some (Sum.inl ()) := by
        rcases q with q | q
        · rw [if_pos (b.1.mpr q)]
        · rw [if_pos (b.2.1.mpr q), ite_self]
      rw [e1, bs_l]
      refine ⟨_, rfl, ?_, by omega, fun j j1 j2 => ?_, TPC_wr zt (by decide) (fun _ => by decide) _⟩
      · rw [rdI_eq, show (1 : Int32) = nI 1 from rfl, nI_add]; rfl
      · by_cases ej : j = pos + i
        · rw [ej]; unfold bk; exact decide_eq_true q
        · exact zb j j1 (by omega)
    · right
      rw [if_neg (fun w => q (Or.inl (b.1.mp w))), if_neg (fun w => q (Or.inr (b.2.1.mp w))), bs_r]
      exact ⟨_, rfl, pos + i, ⟨by omega, by omega, zb, Or.inr (by unfold bk; exact decide_eq_false q)⟩, z9, zt⟩) (by
    rintro z ⟨z9, zi, zb, zt⟩
    unfold m_X5_nextToken_b8
    rw [zt.2.2.2.1, z9, if_pos (by rw [n_le (by omega) (by omega)]; omega)]
    exact ⟨_, rfl, n, ⟨by omega, by omega, fun j j1 j2 => zb j j1 (by omega), Or.inl rfl⟩, by rw [z9]; congr 1; omega, zt⟩)
  exact ⟨m', s, e, g1, g2, g3⟩
