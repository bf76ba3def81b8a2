/-! L3: the told state, as the class and as the reference hold it -/
/-- tape, fault, numbers, counties, rows -/
abbrev Td : Type := (Nat × (Nat → Int32)) × (Int32 × Int32) × (Nat → Nat) × (Nat → Cn) × (Nat → Nat → Nat) × (Nat → Nat → Nat → Nat → Int32)
abbrev tl (T : Td) : Nat := T.1.1
abbrev tp (T : Td) : Nat → Int32 := T.1.2
abbrev tf (T : Td) : Int32 := T.2.1.1
abbrev tq (T : Td) : Int32 := T.2.1.2
abbrev tn (T : Td) : Nat → Nat := T.2.2.1
abbrev tc (T : Td) : Nat → Cn := T.2.2.2.1
abbrev tr (T : Td) : Nat → Nat → Nat := T.2.2.2.2.1
abbrev tz (T : Td) : Nat → Nat → Nat → Nat → Int32 := T.2.2.2.2.2
/-- the widths of a row in the reference: its first cell, its cells, its room, its place -/
def rw0 (s : Nat) : Nat := if s = 2 then 1 else 0
def rwn (s : Nat) : Nat := if s = 1 then 4 else if s = 2 then 2 else 3
def rwz (s : Nat) : Nat := if s = 1 then 161 else if s = 2 then 13 else 25
def rwm (s : Nat) : Nat := if s = 1 then 40 else if s = 2 then 6 else 8
def okR (T : Td) (s i : Nat) : Prop := tr T s i ≤ rwm s ∧
  (s = 1 → ∃ dk da db dt, dOK (tr T 1 i) dk da db dt (fun j => tz T 1 i j 1) (fun j => tz T 1 i j 2) (fun j => tz T 1 i j 3) ∧ ∀ j, j < tr T 1 i → tz T 1 i j 0 = nI (dk j)) ∧
  (s = 2 → ∃ w t : Nat → Nat, (∀ j, w j < 6 ∧ t j < 8) ∧ ∀ j, j < tr T 2 i → tz T 2 i j 1 = nI (w j) ∧ tz T 2 i j 2 = nI (t j)) ∧
  (s = 3 → ∃ kd wh tg : Nat → Nat, (∀ j, kd j < 2 ∧ wh j < 6 ∧ tg j < 8) ∧ ∀ j, j < tr T 3 i → tz T 3 i j 0 = nI (kd j) ∧ tz T 3 i j 1 = nI (wh j) ∧ tz T 3 i j 2 = nI (tg j))
def okC (W : Cn) : Prop := okW W ∧ WO W ∧ ∀ i, vs W i = 0
def WT (T : Td) : Prop := tl T ≤ 600 ∧ (∀ s, s < 4 → tn T s ≤ 2) ∧ (∀ i, i < tn T 0 → okC (tc T i)) ∧ ∀ s i, 1 ≤ s → s < 4 → i < tn T s → okR T s i
/-- a row of the class at place c -/
def RO (n : Nat) (z : Nat → Nat → Int32) (c : Nat) (S : Sk) (mm : Mm) : Prop := KD S c 6 ∧ (sK S (c + 1)).2 = 4 * n ∧ mI mm c 1 = nI n ∧ ∀ j q, j < n → q < 4 → mI mm (c + 1) (j * 4 + q) = z j q
def CT (T : Td) (a : Nat) (S : Sk) (mm : Mm) : Prop := mI mm a 1 = nI (tl T) ∧ (∀ i, i < tl T → mI mm (a + 1) i = tp T i ∧ fits .byte (.int (tp T i)) = true) ∧ mI mm a 2 = tf T ∧ mI mm a 3 = tq T ∧ (∀ s, s < 4 → mI mm (a + 2) s = nI (tn T s)) ∧
  (∀ i, i < tn T 0 → ∃ c, 71 ≤ c ∧ sR S (a + 3) i = some c ∧ KD S c 2 ∧ VO (tc T i) c mm) ∧
  ∀ s i, 1 ≤ s → s < 4 → i < tn T s → ∃ c, 71 ≤ c ∧ sR S (a + 4) (s * 2 + i) = some c ∧ RO (tr T s i) (tz T s i) c S mm
/-- a row of the reference from o on at place 50 + s -/
def RM (n : Nat) (z : Nat → Nat → Int32) (s o : Nat) (mm : Mm) : Prop := mI mm (50 + s) o = nI n ∧ ∀ j q, j < n → q < rwn s → mI mm (50 + s) (o + 1 + rwn s * j + q) = z j (rw0 s + q)
def MT (T : Td) (b : Nat) (mm : Mm) : Prop := mI mm 46 b = nI (tl T) ∧ (∀ i, i < tl T → mI mm 45 (600 * b + i) = tp T i) ∧ mI mm 47 b = tf T ∧ mI mm 48 b = tq T ∧ (∀ s, s < 4 → mI mm 49 (4 * b + s) = nI (tn T s)) ∧
  (∀ i, i < tn T 0 → MV (tc T i) (144 * b + 72 * i) mm) ∧ ∀ s i, 1 ≤ s → s < 4 → i < tn T s → RM (tr T s i) (tz T s i) s (2 * rwz s * b + rwz s * i) mm
def ImO (S : Sk) (mm : Mm) (k : Nat) : Prop := (sR S 6 k = none ∧ mI mm 70 k = nI 0) ∨ ∃ c T, sR S 6 k = some c ∧ 71 ≤ c ∧ KD S c 9 ∧ mI mm 70 k = nI 1 ∧ WT T ∧ CT T c S mm ∧ MT T (k + 1) mm
/-- what the told objects refer to is of its kind -/
def RF (S : Sk) : Prop := ∀ a, KD S a 9 → (∀ i v, i < 2 → sR S (a + 3) i = some v → KD S v 2) ∧ ∀ i v, i < 8 → sR S (a + 4) i = some v → KD S v 6
def Inv (S : Sk) (mm : Mm) : Prop := SI S ∧ (∃ T, WT T ∧ CT T 1 S mm ∧ MT T 0 mm) ∧ (∀ k, k < 3 → ImO S mm k) ∧ (∀ k l c, k < 3 → l < 3 → sR S 6 k = some c → sR S 6 l = some c → k = l) ∧ TBI S mm ∧ RF S
theorem kd9 {S : Sk} (h : Lay S) {a : Nat} (hk : KD S a 9) : a = 1 ∨ 71 ≤ a := by
  by_cases ha : a < 71
  · left
    have h1 := h.2.1 a ha
    have h2 := hk.2
    rw [h1] at h2
    have key : ∀ a, a < 71 → (layL.getD a (0, 0)).1 = 9 → a = 1 := by decide
    exact key a ha h2
  · exact Or.inr (by omega)
/-- places that hold what was told -/
def kept (p : Nat) : Bool := Nat.blt p 7 || (Nat.ble 45 p && Nat.ble p 53) || Nat.ble 70 p
def agK (m m' : Mm) : Prop := ∀ p j, kept p = true → mI m' p j = mI m p j
theorem kept_of {p : Nat} (h : p < 7 ∨ (45 ≤ p ∧ p ≤ 53) ∨ 70 ≤ p) : kept p = true := by
  unfold kept
  simp only [Bool.or_eq_true, Bool.and_eq_true, Nat.blt_eq, Nat.ble_eq]
  omega
theorem agK_rf (m : Mm) : agK m m := fun _ _ _ => rfl
theorem agK_tr {a b c : Mm} (h1 : agK a b) (h2 : agK b c) : agK a c := fun p j h => (h2 p j h).trans (h1 p j h)
theorem agx_K {L : List (Nat × Option Nat)} {m m' : Mm} (hL : L.all (fun e => !kept e.1) = true) (h : agx L m m') : agK m m' := fun p j hp => (h p j (covN (by
  rw [List.all_eq_true]
  intro e he
  have := List.all_eq_true.mp hL e he
  rw [decide_eq_true_eq]
  rintro rfl
  rw [hp] at this
  exact absurd this (by decide)))).1
theorem VO_K {W : Cn} {a : Nat} {m m' : Mm} (e : ∀ p j, 71 ≤ p → mI m' p j = mI m p j) (ha : 71 ≤ a) (h : VO W a m) : VO W a m' := by
  unfold VO at h ⊢
  simp (disch := omega) only [e]
  exact h
theorem RO_K {n : Nat} {z : Nat → Nat → Int32} {c : Nat} {S : Sk} {m m' : Mm} (e : ∀ p j, 71 ≤ p → mI m' p j = mI m p j) (hc : 71 ≤ c) (h : RO n z c S m) : RO n z c S m' := by
  unfold RO at h ⊢
  simp (disch := omega) only [e]
  exact h
theorem CT_K {T : Td} {a : Nat} {S : Sk} {m m' : Mm} (ha : a = 1 ∨ 71 ≤ a) (e : agK m m') (h : CT T a S m) : CT T a S m' := by
  have e1 : ∀ p j, 71 ≤ p → mI m' p j = mI m p j := fun p j hp => e p j (kept_of (by omega))
  have e0 : ∀ j, mI m' a j = mI m a j := fun j => e a j (kept_of (by omega))
  have e2 : ∀ j, mI m' (a + 1) j = mI m (a + 1) j := fun j => e _ j (kept_of (by omega))
  have e3 : ∀ j, mI m' (a + 2) j = mI m (a + 2) j := fun j => e _ j (kept_of (by omega))
  obtain ⟨h1, h2, h3, h4, h5, h6, h7⟩ := h
  refine ⟨by rw [e0, h1], fun i hi => by rw [e2]; exact h2 i hi, by rw [e0, h3], by rw [e0, h4], fun s hs => by rw [e3, h5 s hs], fun i hi => ?_, fun s i h0 hs hi => ?_⟩
  · obtain ⟨c, hc, hr, hk, hv⟩ := h6 i hi
    exact ⟨c, hc, hr, hk, VO_K e1 hc hv⟩
  · obtain ⟨c, hc, hr, hv⟩ := h7 s i h0 hs hi
    exact ⟨c, hc, hr, RO_K e1 hc hv⟩
theorem MT_K {T : Td} {b : Nat} {m m' : Mm} (e : agK m m') (h : MT T b m) : MT T b m' := by
  have e0 : ∀ p j, 45 ≤ p → p ≤ 53 → mI m' p j = mI m p j := fun p j h1 h2 => e p j (kept_of (by omega))
  obtain ⟨h1, h2, h3, h4, h5, h6, h7⟩ := h
  refine ⟨by rw [e0 _ _ (by decide) (by decide), h1], fun i hi => by rw [e0 _ _ (by decide) (by decide)]; exact h2 i hi, by rw [e0 _ _ (by decide) (by decide), h3], by rw [e0 _ _ (by decide) (by decide), h4], fun s hs => by rw [e0 _ _ (by decide) (by decide), h5 s hs], fun i hi => MV_eq (h6 i hi) (fun j => e0 _ _ (by decide) (by decide)), fun s i h0 hs hi => ?_⟩
  obtain ⟨g1, g2⟩ := h7 s i h0 hs hi
  exact ⟨by rw [e0 _ _ (by omega) (by omega), g1], fun j q hj hq => by rw [e0 _ _ (by omega) (by omega)]; exact g2 j q hj hq⟩
/-- a world that differs in one reference of scratch alone -/
def scR (S S' : Sk) : Prop := sN S' = sN S ∧ sW S' = sW S ∧ (∀ p, sK S' p = sK S p) ∧ ∀ p i, (p < 7 ∨ 71 ≤ p) → sR S' p i = sR S p i
theorem scR_rf (S : Sk) : scR S S := ⟨rfl, rfl, fun _ => rfl, fun _ _ _ => rfl⟩
theorem scR_tr {A B C : Sk} (h1 : scR A B) (h2 : scR B C) : scR A C := ⟨h2.1.trans h1.1, h2.2.1.trans h1.2.1, fun p => (h2.2.2.1 p).trans (h1.2.2.1 p), fun p i h => (h2.2.2.2 p i h).trans (h1.2.2.2 p i h)⟩
theorem scR_s {S : Sk} {p i : Nat} {o : Option Nat} (h : 7 ≤ p ∧ p < 71) : scR S (sRs S p i o) := ⟨rfl, rfl, fun _ => rfl, fun q j hq => by
  rw [rdR, if_neg (by omega)]⟩
theorem Lay_s {S : Sk} {p i : Nat} {o : Option Nat} (h : Lay S) (hp : layR.all (fun q => !(q.1 == p && q.2.1 == i)) = true) : Lay (sRs S p i o) := ⟨h.1, h.2.1, fun q hq => by
  have := List.all_eq_true.mp hp q hq
  rw [rdR, if_neg]
  · exact h.2.2 q hq
  · rintro ⟨e1, e2⟩
    rw [e1, e2] at this
    simp at this⟩
theorem kd_s {S : Sk} {p i : Nat} {o : Option Nat} {c k : Nat} : KD (sRs S p i o) c k ↔ KD S c k := Iff.rfl
theorem SI_s {S : Sk} {p i : Nat} {o : Option Nat} (h : SI S) (hp : layR.all (fun q => !(q.1 == p && q.2.1 == i)) = true) (hk : (sK S p).1 ≠ 2 ∧ (sK S p).1 ≠ 6 ∧ (sK S p).1 ≠ 9) : SI (sRs S p i o) := by
  obtain ⟨h1, h2, h3, h4⟩ := h
  have ne : ∀ c k, KD S c k → (sK S p).1 ≠ k → ∀ j, sR (sRs S p i o) c j = sR S c j := fun c k hc hk j => by
    rw [rdR, if_neg]
    rintro ⟨rfl, _⟩
    exact hk hc.2
  refine ⟨Lay_s h1 hp, fun c hc j hj => ?_, fun c hc => ?_, fun c hc => ?_⟩
  · rw [ne c 2 hc hk.1]; exact h2 c hc j hj
  · have := h3 c hc
    unfold At6 at this ⊢
    rw [ne c 6 hc hk.2.1]; exact this
  · have := h4 c hc
    unfold At9 at this ⊢
    rw [ne c 9 hc hk.2.2, ne c 9 hc hk.2.2, ne c 9 hc hk.2.2, ne c 9 hc hk.2.2]; exact this
theorem RO_s {n : Nat} {z : Nat → Nat → Int32} {c : Nat} {S S' : Sk} {m : Mm} (e : scR S S') (h : RO n z c S m) : RO n z c S' m := by
  obtain ⟨h1, h2, h3⟩ := h
  exact ⟨⟨by rw [e.1]; exact h1.1, by rw [e.2.2.1]; exact h1.2⟩, by rw [e.2.2.1]; exact h2, h3⟩
theorem kd_c {S S' : Sk} (e : scR S S') {c k : Nat} (h : KD S c k) : KD S' c k := ⟨by rw [e.1]; exact h.1, by rw [e.2.2.1]; exact h.2⟩
theorem CT_s {T : Td} {a : Nat} {S S' : Sk} {m : Mm} (ha : a = 1 ∨ 71 ≤ a) (e : scR S S') (h : CT T a S m) : CT T a S' m := by
  obtain ⟨h1, h2, h3, h4, h5, h6, h7⟩ := h
  refine ⟨h1, h2, h3, h4, h5, fun i hi => ?_, fun s i h0 hs hi => ?_⟩
  · obtain ⟨c, hc, hr, hk, hv⟩ := h6 i hi
    exact ⟨c, hc, by rw [e.2.2.2 _ _ (by omega)]; exact hr, kd_c e hk, hv⟩
  · obtain ⟨c, hc, hr, hv⟩ := h7 s i h0 hs hi
    exact ⟨c, hc, by rw [e.2.2.2 _ _ (by omega)]; exact hr, RO_s e hv⟩
theorem RF_s {S S' : Sk} (hL : Lay S) (e : scR S S') (h : RF S) : RF S' := fun a ha => by
  have ha' : KD S a 9 := ⟨by rw [← e.1]; exact ha.1, by rw [← e.2.2.1]; exact ha.2⟩
  obtain ⟨h1, h2⟩ := h a ha'
  have := kd9 hL ha'
  exact ⟨fun i v hi hv => kd_c e (h1 i v hi (by rw [← e.2.2.2 _ _ (by omega)]; exact hv)), fun i v hi hv => kd_c e (h2 i v hi (by rw [← e.2.2.2 _ _ (by omega)]; exact hv))⟩
theorem Inv_fr {S S' : Sk} {m m' : Mm} (h : Inv S m) (hS : SI S') (e : scR S S') (hK : agK m m') (hT : TBI S' m') : Inv S' m' := by
  obtain ⟨h0, ⟨T, h1, h2, h3⟩, h4, h5, _, h6⟩ := h
  refine ⟨hS, ⟨T, h1, CT_K (Or.inl rfl) hK (CT_s (Or.inl rfl) e h2), MT_K hK h3⟩, fun k hk => ?_, fun k l c hk hl e1 e2 => h5 k l c hk hl (by rw [← e.2.2.2 _ _ (by omega)]; exact e1) (by rw [← e.2.2.2 _ _ (by omega)]; exact e2), hT, RF_s h0.1 e h6⟩
  have e70 : mI m' 70 k = mI m 70 k := hK 70 k rfl
  rcases h4 k hk with ⟨a, b⟩ | ⟨c, V, a, ha, b, d, w1, w2, w3⟩
  · exact Or.inl ⟨by rw [e.2.2.2 _ _ (by omega)]; exact a, by rw [e70]; exact b⟩
  · exact Or.inr ⟨c, V, by rw [e.2.2.2 _ _ (by omega)]; exact a, ha, kd_c e b, by rw [e70]; exact d, w1, CT_K (Or.inr ha) hK (CT_s (Or.inr ha) e w2), MT_K hK w3⟩
theorem TBI_fr {S S' : Sk} {m m' : Mm} (h : TBI S m) (e14 : sR S' 14 11 = sR S 14 11) (e : scR S S') (hK : agK m m') (h23 : ∀ j, mI m' 23 j = mI m 23 j) : TBI S' m' := by
  obtain ⟨h1, h2, h3⟩ := h
  refine ⟨fun s hs => by rw [h23]; exact h1 s hs, fun r hr => by rw [h23]; exact h2 r hr, fun c hc => ?_⟩
  obtain ⟨a, b, W, w1, w2, w3⟩ := h3 c (by rw [← e14]; exact hc)
  exact ⟨a, kd_c e b, W, VO_K (fun p j hp => hK p j (kept_of (by omega))) a w1, w2, fun r hr s hs => by rw [h23]; exact w3 r hr s hs⟩
/-- a question leaves what was told -/
def qOK (L : List (Nat × Option Nat)) : Bool := L.all (fun e => !kept e.1 && decide (e.1 ≠ 23))
theorem Inv_q {S S' : Sk} {m m' : Mm} {L : List (Nat × Option Nat)} (h : Inv S m) (hS : SI S') (e : scR S S') (e14 : sR S' 14 11 = sR S 14 11) (hL : qOK L = true) (hA : agx L m m') : Inv S' m' ∧ agK m m' := by
  have hK : agK m m' := agx_K (by
    rw [List.all_eq_true]
    intro x hx
    have := List.all_eq_true.mp hL x hx
    rw [Bool.and_eq_true] at this
    exact this.1) hA
  have h23 : ∀ j, mI m' 23 j = mI m 23 j := fun j => (hA 23 j (covN (by
    rw [List.all_eq_true]
    intro x hx
    have := List.all_eq_true.mp hL x hx
    rw [Bool.and_eq_true] at this
    exact this.2))).1
  exact ⟨Inv_fr h hS e hK (TBI_fr h.2.2.2.2.1 e14 e hK h23), hK⟩
theorem Inv_m {S : Sk} {m m' : Mm} {L : List (Nat × Option Nat)} (h : Inv S m) (hL : qOK L = true) (hA : agx L m m') : Inv S m' ∧ agK m m' := Inv_q h h.1 (scR_rf S) rfl hL hA
