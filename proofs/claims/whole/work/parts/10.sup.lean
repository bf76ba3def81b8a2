/-! L2: guards, loops, joins -/
def FU : Nat := 100000000
def grd {α : Type} (i : Int32) (n : Nat) (k : Option α) : Option α := if 0 ≤ i.toInt ∧ i.toInt < n then k else none
def gdz {α : Type} (y : Int32) (k : Option α) : Option α := if y = 0 then none else k
def gbz {α : Type} (x : Int32) (k : Option α) : Option α := if x = 0 ∨ x = 1 then k else none
def bS {α β : Type} (x : Option (α ⊕ β)) (f : α → Option β) : Option β := match x with
  | none => none
  | some (.inl a) => f a
  | some (.inr b) => some b
def whileF {σ ρ : Type} : Nat → (σ → Option (σ ⊕ ρ)) → σ → Option ρ
  | 0, _, _ => none
  | n + 1, body, s => match body s with
    | none => none
    | some (.inl s') => whileF n body s'
    | some (.inr r) => some r
theorem grd_some {α : Type} {i : Int32} {n : Nat} {k : Option α} {r : α} (h : grd i n k = some r) : vp_in i n ∧ k = some r := by
  unfold grd at h
  split at h
  · rename_i c
    exact ⟨vp_in_iff.mpr c, h⟩
  · cases h
theorem gdz_some {α : Type} {y : Int32} {k : Option α} {r : α} (h : gdz y k = some r) : ¬ y = 0 ∧ k = some r := by
  unfold gdz at h
  split at h
  · cases h
  · rename_i c
    exact ⟨c, h⟩
theorem gbz_some {α : Type} {x : Int32} {k : Option α} {r : α} (h : gbz x k = some r) : (x = 0 ∨ x = 1) ∧ k = some r := by
  unfold gbz at h
  split at h
  · rename_i c
    exact ⟨c, h⟩
  · cases h
theorem obind {α β : Type} {x : Option α} {f : α → Option β} {r : β} (h : x.bind f = some r) : ∃ a, x = some a ∧ f a = some r := by
  cases x with
  | none => cases h
  | some a => exact ⟨a, rfl, h⟩
theorem bS_some {α β : Type} {x : Option (α ⊕ β)} {f : α → Option β} {r : β} (h : bS x f = some r) : ∃ y, x = some y ∧ (∀ a, y = .inl a → f a = some r) ∧ (∀ b, y = .inr b → b = r) := by
  cases x with
  | none => cases h
  | some y =>
    refine ⟨y, rfl, fun a ha => ?_, fun b hb => ?_⟩
    · subst ha
      exact h
    · subst hb
      exact Option.some.inj h
def lpOK {σ ρ : Type} (Gs : σ → Prop) (p : ρ) : σ ⊕ ρ → Prop
  | .inl s => Gs s
  | .inr q => q = p
theorem while_run {σ ρ : Type} {body : σ → Option (σ ⊕ ρ)} {Gs : σ → Prop} {p : ρ} {n : Nat} {s : σ} (h : whileF n body s = some p) (step : ∀ s x, body s = some x → lpOK Gs p x → Gs s) : Gs s := by
  induction n generalizing s with
  | zero => cases h
  | succ n ih =>
    rw [whileF] at h
    cases hb : body s with
    | none => rw [hb] at h; cases h
    | some x =>
      rw [hb] at h
      cases x with
      | inl s' => exact step s _ hb (ih h)
      | inr q => exact step s _ hb (Option.some.inj h)
theorem ite_t {c : Prop} [Decidable c] {α : Type} {a b r : α} (h : c) (e : (if c then a else b) = r) : a = r := by rw [if_pos h] at e; exact e
theorem ite_f {c : Prop} [Decidable c] {α : Type} {a b r : α} (h : ¬ c) (e : (if c then a else b) = r) : b = r := by rw [if_neg h] at e; exact e
theorem nz_b {x : Int32} (h : x = 0 ∨ x = 1) : narrow .boolean (.int x) = .int x ∧ fits .boolean (.int x) = true := by
  rcases h with rfl | rfl <;> decide
def wk : List (Option V1) → List (Option V1) → Prop
  | [], _ => True
  | none :: a, b => wk a b.tail
  | some v :: a, b => b.head? = some (some v) ∧ wk a b.tail
theorem wk_get : ∀ {a b : List (Option V1)}, wk a b → ∀ {j : Nat} {v : V1}, a[j]? = some (some v) → b[j]? = some (some v)
  | [], _, _, j, v, h => by simp at h
  | none :: a, b, hw, j, v, h => by
    cases j with
    | zero => simp at h
    | succ j =>
      have := wk_get (a := a) (b := b.tail) hw (by simpa using h)
      simpa using this
  | some u :: a, b, hw, j, v, h => by
    cases j with
    | zero =>
      simp at h
      subst h
      rw [← List.head?_eq_getElem?]
      exact hw.1
    | succ j =>
      have := wk_get (a := a) (b := b.tail) hw.2 (by simpa using h)
      simpa using this
theorem r_weak {l : Launch} {G : Gt} {M : MI} {d pc : Nat} {L L' : List (Option V1)} {st : List V1} {S : Sk} {mm : Mm} {r : Option V1} {S' : Sk} {mm' : Mm} (hw : wk L' L) (k : Run l G M d pc L' st S mm r S' mm') : Run l G M d pc L st S mm r S' mm' :=
  ⟨k.1, fun p e R s m args below meth c Hr locs cells slots ls F Rp hl lv hdp hlo hc hs => k.2 p e R s m args below meth c Hr locs cells slots ls F Rp hl (lv_weak lv (fun q hq => by
    obtain ⟨i, w⟩ := q
    obtain ⟨j, v, h1, h2, h3⟩ := loL_mem.mp hq
    exact loL_mem.mpr ⟨j, v, h1, wk_get hw h2, h3⟩)) hdp hlo hc hs⟩
theorem arr_k {S : Sk} {a : Nat} (h : a < sN S ∧ (sK S a).1 = 20) : sK S a = (20, (sK S a).2) := Prod.ext h.2 rfl
theorem ci_m8 : Int32.ofInt (-8) = (-8 : Int32) := by decide
theorem ci_m2 : Int32.ofInt (-2) = (-2 : Int32) := by decide
theorem ci_m1 : Int32.ofInt (-1) = (-1 : Int32) := by decide
theorem ci_0 : Int32.ofInt (0) = (0 : Int32) := by decide
theorem ci_1 : Int32.ofInt (1) = (1 : Int32) := by decide
theorem ci_2 : Int32.ofInt (2) = (2 : Int32) := by decide
theorem ci_3 : Int32.ofInt (3) = (3 : Int32) := by decide
theorem ci_4 : Int32.ofInt (4) = (4 : Int32) := by decide
theorem ci_5 : Int32.ofInt (5) = (5 : Int32) := by decide
theorem ci_6 : Int32.ofInt (6) = (6 : Int32) := by decide
theorem ci_7 : Int32.ofInt (7) = (7 : Int32) := by decide
theorem ci_8 : Int32.ofInt (8) = (8 : Int32) := by decide
theorem ci_9 : Int32.ofInt (9) = (9 : Int32) := by decide
theorem cb_m99 : (Int8.ofInt (-99)).toInt32 = (-99 : Int32) := by decide
theorem cb_m9 : (Int8.ofInt (-9)).toInt32 = (-9 : Int32) := by decide
theorem cb_m2 : (Int8.ofInt (-2)).toInt32 = (-2 : Int32) := by decide
theorem cb_6 : (Int8.ofInt (6)).toInt32 = (6 : Int32) := by decide
theorem cb_7 : (Int8.ofInt (7)).toInt32 = (7 : Int32) := by decide
theorem cb_8 : (Int8.ofInt (8)).toInt32 = (8 : Int32) := by decide
theorem cb_9 : (Int8.ofInt (9)).toInt32 = (9 : Int32) := by decide
theorem cb_10 : (Int8.ofInt (10)).toInt32 = (10 : Int32) := by decide
theorem cb_12 : (Int8.ofInt (12)).toInt32 = (12 : Int32) := by decide
theorem cb_13 : (Int8.ofInt (13)).toInt32 = (13 : Int32) := by decide
theorem cb_14 : (Int8.ofInt (14)).toInt32 = (14 : Int32) := by decide
theorem cb_15 : (Int8.ofInt (15)).toInt32 = (15 : Int32) := by decide
theorem cb_16 : (Int8.ofInt (16)).toInt32 = (16 : Int32) := by decide
theorem cb_20 : (Int8.ofInt (20)).toInt32 = (20 : Int32) := by decide
theorem cb_24 : (Int8.ofInt (24)).toInt32 = (24 : Int32) := by decide
theorem cb_25 : (Int8.ofInt (25)).toInt32 = (25 : Int32) := by decide
theorem cb_26 : (Int8.ofInt (26)).toInt32 = (26 : Int32) := by decide
theorem cb_27 : (Int8.ofInt (27)).toInt32 = (27 : Int32) := by decide
theorem cb_28 : (Int8.ofInt (28)).toInt32 = (28 : Int32) := by decide
theorem cb_32 : (Int8.ofInt (32)).toInt32 = (32 : Int32) := by decide
theorem cb_36 : (Int8.ofInt (36)).toInt32 = (36 : Int32) := by decide
theorem cb_40 : (Int8.ofInt (40)).toInt32 = (40 : Int32) := by decide
theorem cb_48 : (Int8.ofInt (48)).toInt32 = (48 : Int32) := by decide
theorem cb_50 : (Int8.ofInt (50)).toInt32 = (50 : Int32) := by decide
theorem cb_57 : (Int8.ofInt (57)).toInt32 = (57 : Int32) := by decide
theorem cb_59 : (Int8.ofInt (59)).toInt32 = (59 : Int32) := by decide
theorem cb_60 : (Int8.ofInt (60)).toInt32 = (60 : Int32) := by decide
theorem cb_64 : (Int8.ofInt (64)).toInt32 = (64 : Int32) := by decide
theorem cb_72 : (Int8.ofInt (72)).toInt32 = (72 : Int32) := by decide
theorem cb_97 : (Int8.ofInt (97)).toInt32 = (97 : Int32) := by decide
theorem cb_100 : (Int8.ofInt (100)).toInt32 = (100 : Int32) := by decide
theorem cb_122 : (Int8.ofInt (122)).toInt32 = (122 : Int32) := by decide
theorem cs_144 : (Int16.ofInt (144)).toInt32 = (144 : Int32) := by decide
theorem cs_161 : (Int16.ofInt (161)).toInt32 = (161 : Int32) := by decide
theorem cs_255 : (Int16.ofInt (255)).toInt32 = (255 : Int32) := by decide
theorem cs_288 : (Int16.ofInt (288)).toInt32 = (288 : Int32) := by decide
theorem cs_322 : (Int16.ofInt (322)).toInt32 = (322 : Int32) := by decide
theorem cs_384 : (Int16.ofInt (384)).toInt32 = (384 : Int32) := by decide
theorem cs_400 : (Int16.ofInt (400)).toInt32 = (400 : Int32) := by decide
theorem cs_600 : (Int16.ofInt (600)).toInt32 = (600 : Int32) := by decide
theorem cs_12345 : (Int16.ofInt (12345)).toInt32 = (12345 : Int32) := by decide
def layL : List (Nat × Nat) := [(11, 0), (9, 0), (21, 600), (20, 4), (23, 2), (24, 8), (25, 3), (5, 0), (6, 0), (20, 400), (20, 7), (20, 3), (21, 0), (3, 0), (7, 0), (20, 6), (20, 6), (20, 6), (20, 36), (20, 8), (20, 12), (20, 12), (20, 12), (20, 1280), (20, 6), (0, 0), (20, 6), (20, 6), (20, 6), (20, 6), (20, 6), (20, 6), (1, 0), (20, 6), (8, 0), (20, 6), (20, 6), (20, 64), (10, 0), (20, 7), (4, 0), (20, 50), (20, 50), (20, 50), (12, 0), (21, 2400), (20, 4), (20, 4), (20, 4), (20, 16), (20, 576), (20, 1288), (20, 104), (20, 200), (20, 161), (20, 4), (20, 6), (20, 6), (20, 6), (20, 36), (20, 16), (20, 16), (20, 16), (20, 8), (20, 6), (20, 6), (20, 6), (20, 729), (20, 8), (20, 448), (22, 3)]
def layR : List (Nat × Nat × Nat) := [(0, 0, 1), (0, 1, 6), (0, 2, 7), (0, 3, 13), (0, 4, 25), (0, 5, 32), (0, 6, 34), (0, 7, 38), (0, 8, 40), (1, 0, 2), (1, 4, 3), (1, 5, 4), (1, 6, 5), (7, 0, 8), (7, 3, 10), (7, 4, 11), (8, 0, 9), (13, 0, 14), (13, 10, 24), (14, 2, 15), (14, 3, 16), (14, 4, 17), (14, 5, 18), (14, 6, 19), (14, 7, 20), (14, 8, 21), (14, 9, 22), (14, 10, 23), (25, 2, 26), (25, 3, 27), (25, 4, 28), (25, 5, 29), (25, 6, 30), (25, 7, 31), (32, 0, 33), (34, 3, 35), (34, 4, 36), (34, 5, 37), (38, 9, 39), (40, 1, 41), (40, 2, 42), (40, 3, 43), (44, 1, 45), (44, 2, 46), (44, 3, 47), (44, 4, 48), (44, 5, 49), (44, 6, 50), (44, 7, 51), (44, 8, 52), (44, 9, 53), (44, 19, 54), (44, 20, 55), (44, 31, 56), (44, 32, 57), (44, 33, 58), (44, 34, 59), (44, 35, 60), (44, 36, 61), (44, 37, 62), (44, 39, 63), (44, 40, 64), (44, 42, 65), (44, 43, 66), (44, 44, 67), (44, 53, 68), (44, 55, 69), (44, 56, 70)]
def Lay (S : Sk) : Prop := 71 ≤ sN S ∧ (∀ p, p < 71 → sK S p = layL.getD p (0, 0)) ∧ ∀ q ∈ layR, sR S q.1 q.2.1 = some q.2.2
theorem lp_0 {S : Sk} (h : Lay S) : 0 < sN S := Nat.lt_of_lt_of_le (by decide) h.1
theorem lk_0 {S : Sk} (h : Lay S) : sK S 0 = (11, 0) := h.2.1 0 (by decide)
theorem lq_0 {S : Sk} (h : Lay S) : (sK S 0).1 = 11 := by rw [lk_0 h]
theorem lp_1 {S : Sk} (h : Lay S) : 1 < sN S := Nat.lt_of_lt_of_le (by decide) h.1
theorem lk_1 {S : Sk} (h : Lay S) : sK S 1 = (9, 0) := h.2.1 1 (by decide)
theorem lq_1 {S : Sk} (h : Lay S) : (sK S 1).1 = 9 := by rw [lk_1 h]
theorem lp_2 {S : Sk} (h : Lay S) : 2 < sN S := Nat.lt_of_lt_of_le (by decide) h.1
theorem lk_2 {S : Sk} (h : Lay S) : sK S 2 = (21, 600) := h.2.1 2 (by decide)
theorem lq_2 {S : Sk} (h : Lay S) : (sK S 2).1 = 21 := by rw [lk_2 h]
theorem lp_3 {S : Sk} (h : Lay S) : 3 < sN S := Nat.lt_of_lt_of_le (by decide) h.1
theorem lk_3 {S : Sk} (h : Lay S) : sK S 3 = (20, 4) := h.2.1 3 (by decide)
theorem lq_3 {S : Sk} (h : Lay S) : (sK S 3).1 = 20 := by rw [lk_3 h]
theorem la_3 {S : Sk} (h : Lay S) : 3 < sN S ∧ (sK S 3).1 = 20 := ⟨lp_3 h, lq_3 h⟩
theorem lp_4 {S : Sk} (h : Lay S) : 4 < sN S := Nat.lt_of_lt_of_le (by decide) h.1
theorem lk_4 {S : Sk} (h : Lay S) : sK S 4 = (23, 2) := h.2.1 4 (by decide)
theorem lq_4 {S : Sk} (h : Lay S) : (sK S 4).1 = 23 := by rw [lk_4 h]
theorem lp_5 {S : Sk} (h : Lay S) : 5 < sN S := Nat.lt_of_lt_of_le (by decide) h.1
theorem lk_5 {S : Sk} (h : Lay S) : sK S 5 = (24, 8) := h.2.1 5 (by decide)
theorem lq_5 {S : Sk} (h : Lay S) : (sK S 5).1 = 24 := by rw [lk_5 h]
theorem lp_6 {S : Sk} (h : Lay S) : 6 < sN S := Nat.lt_of_lt_of_le (by decide) h.1
theorem lk_6 {S : Sk} (h : Lay S) : sK S 6 = (25, 3) := h.2.1 6 (by decide)
theorem lq_6 {S : Sk} (h : Lay S) : (sK S 6).1 = 25 := by rw [lk_6 h]
theorem lp_7 {S : Sk} (h : Lay S) : 7 < sN S := Nat.lt_of_lt_of_le (by decide) h.1
theorem lk_7 {S : Sk} (h : Lay S) : sK S 7 = (5, 0) := h.2.1 7 (by decide)
theorem lq_7 {S : Sk} (h : Lay S) : (sK S 7).1 = 5 := by rw [lk_7 h]
theorem lp_8 {S : Sk} (h : Lay S) : 8 < sN S := Nat.lt_of_lt_of_le (by decide) h.1
theorem lk_8 {S : Sk} (h : Lay S) : sK S 8 = (6, 0) := h.2.1 8 (by decide)
theorem lq_8 {S : Sk} (h : Lay S) : (sK S 8).1 = 6 := by rw [lk_8 h]
theorem lp_9 {S : Sk} (h : Lay S) : 9 < sN S := Nat.lt_of_lt_of_le (by decide) h.1
theorem lk_9 {S : Sk} (h : Lay S) : sK S 9 = (20, 400) := h.2.1 9 (by decide)
theorem lq_9 {S : Sk} (h : Lay S) : (sK S 9).1 = 20 := by rw [lk_9 h]
theorem la_9 {S : Sk} (h : Lay S) : 9 < sN S ∧ (sK S 9).1 = 20 := ⟨lp_9 h, lq_9 h⟩
theorem lp_10 {S : Sk} (h : Lay S) : 10 < sN S := Nat.lt_of_lt_of_le (by decide) h.1
theorem lk_10 {S : Sk} (h : Lay S) : sK S 10 = (20, 7) := h.2.1 10 (by decide)
theorem lq_10 {S : Sk} (h : Lay S) : (sK S 10).1 = 20 := by rw [lk_10 h]
theorem la_10 {S : Sk} (h : Lay S) : 10 < sN S ∧ (sK S 10).1 = 20 := ⟨lp_10 h, lq_10 h⟩
theorem lp_11 {S : Sk} (h : Lay S) : 11 < sN S := Nat.lt_of_lt_of_le (by decide) h.1
theorem lk_11 {S : Sk} (h : Lay S) : sK S 11 = (20, 3) := h.2.1 11 (by decide)
theorem lq_11 {S : Sk} (h : Lay S) : (sK S 11).1 = 20 := by rw [lk_11 h]
theorem la_11 {S : Sk} (h : Lay S) : 11 < sN S ∧ (sK S 11).1 = 20 := ⟨lp_11 h, lq_11 h⟩
theorem lp_12 {S : Sk} (h : Lay S) : 12 < sN S := Nat.lt_of_lt_of_le (by decide) h.1
theorem lk_12 {S : Sk} (h : Lay S) : sK S 12 = (21, 0) := h.2.1 12 (by decide)
theorem lq_12 {S : Sk} (h : Lay S) : (sK S 12).1 = 21 := by rw [lk_12 h]
theorem lp_13 {S : Sk} (h : Lay S) : 13 < sN S := Nat.lt_of_lt_of_le (by decide) h.1
theorem lk_13 {S : Sk} (h : Lay S) : sK S 13 = (3, 0) := h.2.1 13 (by decide)
theorem lq_13 {S : Sk} (h : Lay S) : (sK S 13).1 = 3 := by rw [lk_13 h]
theorem lp_14 {S : Sk} (h : Lay S) : 14 < sN S := Nat.lt_of_lt_of_le (by decide) h.1
theorem lk_14 {S : Sk} (h : Lay S) : sK S 14 = (7, 0) := h.2.1 14 (by decide)
theorem lq_14 {S : Sk} (h : Lay S) : (sK S 14).1 = 7 := by rw [lk_14 h]
theorem lp_15 {S : Sk} (h : Lay S) : 15 < sN S := Nat.lt_of_lt_of_le (by decide) h.1
theorem lk_15 {S : Sk} (h : Lay S) : sK S 15 = (20, 6) := h.2.1 15 (by decide)
theorem lq_15 {S : Sk} (h : Lay S) : (sK S 15).1 = 20 := by rw [lk_15 h]
theorem la_15 {S : Sk} (h : Lay S) : 15 < sN S ∧ (sK S 15).1 = 20 := ⟨lp_15 h, lq_15 h⟩
theorem lp_16 {S : Sk} (h : Lay S) : 16 < sN S := Nat.lt_of_lt_of_le (by decide) h.1
theorem lk_16 {S : Sk} (h : Lay S) : sK S 16 = (20, 6) := h.2.1 16 (by decide)
theorem lq_16 {S : Sk} (h : Lay S) : (sK S 16).1 = 20 := by rw [lk_16 h]
theorem la_16 {S : Sk} (h : Lay S) : 16 < sN S ∧ (sK S 16).1 = 20 := ⟨lp_16 h, lq_16 h⟩
theorem lp_17 {S : Sk} (h : Lay S) : 17 < sN S := Nat.lt_of_lt_of_le (by decide) h.1
theorem lk_17 {S : Sk} (h : Lay S) : sK S 17 = (20, 6) := h.2.1 17 (by decide)
theorem lq_17 {S : Sk} (h : Lay S) : (sK S 17).1 = 20 := by rw [lk_17 h]
theorem la_17 {S : Sk} (h : Lay S) : 17 < sN S ∧ (sK S 17).1 = 20 := ⟨lp_17 h, lq_17 h⟩
theorem lp_18 {S : Sk} (h : Lay S) : 18 < sN S := Nat.lt_of_lt_of_le (by decide) h.1
theorem lk_18 {S : Sk} (h : Lay S) : sK S 18 = (20, 36) := h.2.1 18 (by decide)
theorem lq_18 {S : Sk} (h : Lay S) : (sK S 18).1 = 20 := by rw [lk_18 h]
theorem la_18 {S : Sk} (h : Lay S) : 18 < sN S ∧ (sK S 18).1 = 20 := ⟨lp_18 h, lq_18 h⟩
theorem lp_19 {S : Sk} (h : Lay S) : 19 < sN S := Nat.lt_of_lt_of_le (by decide) h.1
theorem lk_19 {S : Sk} (h : Lay S) : sK S 19 = (20, 8) := h.2.1 19 (by decide)
theorem lq_19 {S : Sk} (h : Lay S) : (sK S 19).1 = 20 := by rw [lk_19 h]
theorem la_19 {S : Sk} (h : Lay S) : 19 < sN S ∧ (sK S 19).1 = 20 := ⟨lp_19 h, lq_19 h⟩
theorem lp_20 {S : Sk} (h : Lay S) : 20 < sN S := Nat.lt_of_lt_of_le (by decide) h.1
theorem lk_20 {S : Sk} (h : Lay S) : sK S 20 = (20, 12) := h.2.1 20 (by decide)
theorem lq_20 {S : Sk} (h : Lay S) : (sK S 20).1 = 20 := by rw [lk_20 h]
theorem la_20 {S : Sk} (h : Lay S) : 20 < sN S ∧ (sK S 20).1 = 20 := ⟨lp_20 h, lq_20 h⟩
theorem lp_21 {S : Sk} (h : Lay S) : 21 < sN S := Nat.lt_of_lt_of_le (by decide) h.1
theorem lk_21 {S : Sk} (h : Lay S) : sK S 21 = (20, 12) := h.2.1 21 (by decide)
theorem lq_21 {S : Sk} (h : Lay S) : (sK S 21).1 = 20 := by rw [lk_21 h]
theorem la_21 {S : Sk} (h : Lay S) : 21 < sN S ∧ (sK S 21).1 = 20 := ⟨lp_21 h, lq_21 h⟩
theorem lp_22 {S : Sk} (h : Lay S) : 22 < sN S := Nat.lt_of_lt_of_le (by decide) h.1
theorem lk_22 {S : Sk} (h : Lay S) : sK S 22 = (20, 12) := h.2.1 22 (by decide)
theorem lq_22 {S : Sk} (h : Lay S) : (sK S 22).1 = 20 := by rw [lk_22 h]
theorem la_22 {S : Sk} (h : Lay S) : 22 < sN S ∧ (sK S 22).1 = 20 := ⟨lp_22 h, lq_22 h⟩
theorem lp_23 {S : Sk} (h : Lay S) : 23 < sN S := Nat.lt_of_lt_of_le (by decide) h.1
theorem lk_23 {S : Sk} (h : Lay S) : sK S 23 = (20, 1280) := h.2.1 23 (by decide)
theorem lq_23 {S : Sk} (h : Lay S) : (sK S 23).1 = 20 := by rw [lk_23 h]
theorem la_23 {S : Sk} (h : Lay S) : 23 < sN S ∧ (sK S 23).1 = 20 := ⟨lp_23 h, lq_23 h⟩
theorem lp_24 {S : Sk} (h : Lay S) : 24 < sN S := Nat.lt_of_lt_of_le (by decide) h.1
theorem lk_24 {S : Sk} (h : Lay S) : sK S 24 = (20, 6) := h.2.1 24 (by decide)
theorem lq_24 {S : Sk} (h : Lay S) : (sK S 24).1 = 20 := by rw [lk_24 h]
theorem la_24 {S : Sk} (h : Lay S) : 24 < sN S ∧ (sK S 24).1 = 20 := ⟨lp_24 h, lq_24 h⟩
theorem lp_25 {S : Sk} (h : Lay S) : 25 < sN S := Nat.lt_of_lt_of_le (by decide) h.1
theorem lk_25 {S : Sk} (h : Lay S) : sK S 25 = (0, 0) := h.2.1 25 (by decide)
theorem lq_25 {S : Sk} (h : Lay S) : (sK S 25).1 = 0 := by rw [lk_25 h]
theorem lp_26 {S : Sk} (h : Lay S) : 26 < sN S := Nat.lt_of_lt_of_le (by decide) h.1
theorem lk_26 {S : Sk} (h : Lay S) : sK S 26 = (20, 6) := h.2.1 26 (by decide)
theorem lq_26 {S : Sk} (h : Lay S) : (sK S 26).1 = 20 := by rw [lk_26 h]
theorem la_26 {S : Sk} (h : Lay S) : 26 < sN S ∧ (sK S 26).1 = 20 := ⟨lp_26 h, lq_26 h⟩
theorem lp_27 {S : Sk} (h : Lay S) : 27 < sN S := Nat.lt_of_lt_of_le (by decide) h.1
theorem lk_27 {S : Sk} (h : Lay S) : sK S 27 = (20, 6) := h.2.1 27 (by decide)
theorem lq_27 {S : Sk} (h : Lay S) : (sK S 27).1 = 20 := by rw [lk_27 h]
theorem la_27 {S : Sk} (h : Lay S) : 27 < sN S ∧ (sK S 27).1 = 20 := ⟨lp_27 h, lq_27 h⟩
theorem lp_28 {S : Sk} (h : Lay S) : 28 < sN S := Nat.lt_of_lt_of_le (by decide) h.1
theorem lk_28 {S : Sk} (h : Lay S) : sK S 28 = (20, 6) := h.2.1 28 (by decide)
theorem lq_28 {S : Sk} (h : Lay S) : (sK S 28).1 = 20 := by rw [lk_28 h]
theorem la_28 {S : Sk} (h : Lay S) : 28 < sN S ∧ (sK S 28).1 = 20 := ⟨lp_28 h, lq_28 h⟩
theorem lp_29 {S : Sk} (h : Lay S) : 29 < sN S := Nat.lt_of_lt_of_le (by decide) h.1
theorem lk_29 {S : Sk} (h : Lay S) : sK S 29 = (20, 6) := h.2.1 29 (by decide)
theorem lq_29 {S : Sk} (h : Lay S) : (sK S 29).1 = 20 := by rw [lk_29 h]
theorem la_29 {S : Sk} (h : Lay S) : 29 < sN S ∧ (sK S 29).1 = 20 := ⟨lp_29 h, lq_29 h⟩
theorem lp_30 {S : Sk} (h : Lay S) : 30 < sN S := Nat.lt_of_lt_of_le (by decide) h.1
theorem lk_30 {S : Sk} (h : Lay S) : sK S 30 = (20, 6) := h.2.1 30 (by decide)
theorem lq_30 {S : Sk} (h : Lay S) : (sK S 30).1 = 20 := by rw [lk_30 h]
theorem la_30 {S : Sk} (h : Lay S) : 30 < sN S ∧ (sK S 30).1 = 20 := ⟨lp_30 h, lq_30 h⟩
theorem lp_31 {S : Sk} (h : Lay S) : 31 < sN S := Nat.lt_of_lt_of_le (by decide) h.1
theorem lk_31 {S : Sk} (h : Lay S) : sK S 31 = (20, 6) := h.2.1 31 (by decide)
theorem lq_31 {S : Sk} (h : Lay S) : (sK S 31).1 = 20 := by rw [lk_31 h]
theorem la_31 {S : Sk} (h : Lay S) : 31 < sN S ∧ (sK S 31).1 = 20 := ⟨lp_31 h, lq_31 h⟩
theorem lp_32 {S : Sk} (h : Lay S) : 32 < sN S := Nat.lt_of_lt_of_le (by decide) h.1
theorem lk_32 {S : Sk} (h : Lay S) : sK S 32 = (1, 0) := h.2.1 32 (by decide)
theorem lq_32 {S : Sk} (h : Lay S) : (sK S 32).1 = 1 := by rw [lk_32 h]
theorem lp_33 {S : Sk} (h : Lay S) : 33 < sN S := Nat.lt_of_lt_of_le (by decide) h.1
theorem lk_33 {S : Sk} (h : Lay S) : sK S 33 = (20, 6) := h.2.1 33 (by decide)
theorem lq_33 {S : Sk} (h : Lay S) : (sK S 33).1 = 20 := by rw [lk_33 h]
theorem la_33 {S : Sk} (h : Lay S) : 33 < sN S ∧ (sK S 33).1 = 20 := ⟨lp_33 h, lq_33 h⟩
theorem lp_34 {S : Sk} (h : Lay S) : 34 < sN S := Nat.lt_of_lt_of_le (by decide) h.1
theorem lk_34 {S : Sk} (h : Lay S) : sK S 34 = (8, 0) := h.2.1 34 (by decide)
theorem lq_34 {S : Sk} (h : Lay S) : (sK S 34).1 = 8 := by rw [lk_34 h]
theorem lp_35 {S : Sk} (h : Lay S) : 35 < sN S := Nat.lt_of_lt_of_le (by decide) h.1
theorem lk_35 {S : Sk} (h : Lay S) : sK S 35 = (20, 6) := h.2.1 35 (by decide)
theorem lq_35 {S : Sk} (h : Lay S) : (sK S 35).1 = 20 := by rw [lk_35 h]
theorem la_35 {S : Sk} (h : Lay S) : 35 < sN S ∧ (sK S 35).1 = 20 := ⟨lp_35 h, lq_35 h⟩
theorem lp_36 {S : Sk} (h : Lay S) : 36 < sN S := Nat.lt_of_lt_of_le (by decide) h.1
theorem lk_36 {S : Sk} (h : Lay S) : sK S 36 = (20, 6) := h.2.1 36 (by decide)
theorem lq_36 {S : Sk} (h : Lay S) : (sK S 36).1 = 20 := by rw [lk_36 h]
theorem la_36 {S : Sk} (h : Lay S) : 36 < sN S ∧ (sK S 36).1 = 20 := ⟨lp_36 h, lq_36 h⟩
theorem lp_37 {S : Sk} (h : Lay S) : 37 < sN S := Nat.lt_of_lt_of_le (by decide) h.1
theorem lk_37 {S : Sk} (h : Lay S) : sK S 37 = (20, 64) := h.2.1 37 (by decide)
theorem lq_37 {S : Sk} (h : Lay S) : (sK S 37).1 = 20 := by rw [lk_37 h]
theorem la_37 {S : Sk} (h : Lay S) : 37 < sN S ∧ (sK S 37).1 = 20 := ⟨lp_37 h, lq_37 h⟩
theorem lp_38 {S : Sk} (h : Lay S) : 38 < sN S := Nat.lt_of_lt_of_le (by decide) h.1
theorem lk_38 {S : Sk} (h : Lay S) : sK S 38 = (10, 0) := h.2.1 38 (by decide)
theorem lq_38 {S : Sk} (h : Lay S) : (sK S 38).1 = 10 := by rw [lk_38 h]
theorem lp_39 {S : Sk} (h : Lay S) : 39 < sN S := Nat.lt_of_lt_of_le (by decide) h.1
theorem lk_39 {S : Sk} (h : Lay S) : sK S 39 = (20, 7) := h.2.1 39 (by decide)
theorem lq_39 {S : Sk} (h : Lay S) : (sK S 39).1 = 20 := by rw [lk_39 h]
theorem la_39 {S : Sk} (h : Lay S) : 39 < sN S ∧ (sK S 39).1 = 20 := ⟨lp_39 h, lq_39 h⟩
theorem lp_40 {S : Sk} (h : Lay S) : 40 < sN S := Nat.lt_of_lt_of_le (by decide) h.1
theorem lk_40 {S : Sk} (h : Lay S) : sK S 40 = (4, 0) := h.2.1 40 (by decide)
theorem lq_40 {S : Sk} (h : Lay S) : (sK S 40).1 = 4 := by rw [lk_40 h]
theorem lp_41 {S : Sk} (h : Lay S) : 41 < sN S := Nat.lt_of_lt_of_le (by decide) h.1
theorem lk_41 {S : Sk} (h : Lay S) : sK S 41 = (20, 50) := h.2.1 41 (by decide)
theorem lq_41 {S : Sk} (h : Lay S) : (sK S 41).1 = 20 := by rw [lk_41 h]
theorem la_41 {S : Sk} (h : Lay S) : 41 < sN S ∧ (sK S 41).1 = 20 := ⟨lp_41 h, lq_41 h⟩
theorem lp_42 {S : Sk} (h : Lay S) : 42 < sN S := Nat.lt_of_lt_of_le (by decide) h.1
theorem lk_42 {S : Sk} (h : Lay S) : sK S 42 = (20, 50) := h.2.1 42 (by decide)
theorem lq_42 {S : Sk} (h : Lay S) : (sK S 42).1 = 20 := by rw [lk_42 h]
theorem la_42 {S : Sk} (h : Lay S) : 42 < sN S ∧ (sK S 42).1 = 20 := ⟨lp_42 h, lq_42 h⟩
theorem lp_43 {S : Sk} (h : Lay S) : 43 < sN S := Nat.lt_of_lt_of_le (by decide) h.1
theorem lk_43 {S : Sk} (h : Lay S) : sK S 43 = (20, 50) := h.2.1 43 (by decide)
theorem lq_43 {S : Sk} (h : Lay S) : (sK S 43).1 = 20 := by rw [lk_43 h]
theorem la_43 {S : Sk} (h : Lay S) : 43 < sN S ∧ (sK S 43).1 = 20 := ⟨lp_43 h, lq_43 h⟩
theorem lp_44 {S : Sk} (h : Lay S) : 44 < sN S := Nat.lt_of_lt_of_le (by decide) h.1
theorem lk_44 {S : Sk} (h : Lay S) : sK S 44 = (12, 0) := h.2.1 44 (by decide)
theorem lq_44 {S : Sk} (h : Lay S) : (sK S 44).1 = 12 := by rw [lk_44 h]
theorem lp_45 {S : Sk} (h : Lay S) : 45 < sN S := Nat.lt_of_lt_of_le (by decide) h.1
theorem lk_45 {S : Sk} (h : Lay S) : sK S 45 = (21, 2400) := h.2.1 45 (by decide)
theorem lq_45 {S : Sk} (h : Lay S) : (sK S 45).1 = 21 := by rw [lk_45 h]
theorem lp_46 {S : Sk} (h : Lay S) : 46 < sN S := Nat.lt_of_lt_of_le (by decide) h.1
theorem lk_46 {S : Sk} (h : Lay S) : sK S 46 = (20, 4) := h.2.1 46 (by decide)
theorem lq_46 {S : Sk} (h : Lay S) : (sK S 46).1 = 20 := by rw [lk_46 h]
theorem la_46 {S : Sk} (h : Lay S) : 46 < sN S ∧ (sK S 46).1 = 20 := ⟨lp_46 h, lq_46 h⟩
theorem lp_47 {S : Sk} (h : Lay S) : 47 < sN S := Nat.lt_of_lt_of_le (by decide) h.1
theorem lk_47 {S : Sk} (h : Lay S) : sK S 47 = (20, 4) := h.2.1 47 (by decide)
theorem lq_47 {S : Sk} (h : Lay S) : (sK S 47).1 = 20 := by rw [lk_47 h]
theorem la_47 {S : Sk} (h : Lay S) : 47 < sN S ∧ (sK S 47).1 = 20 := ⟨lp_47 h, lq_47 h⟩
theorem lp_48 {S : Sk} (h : Lay S) : 48 < sN S := Nat.lt_of_lt_of_le (by decide) h.1
theorem lk_48 {S : Sk} (h : Lay S) : sK S 48 = (20, 4) := h.2.1 48 (by decide)
theorem lq_48 {S : Sk} (h : Lay S) : (sK S 48).1 = 20 := by rw [lk_48 h]
theorem la_48 {S : Sk} (h : Lay S) : 48 < sN S ∧ (sK S 48).1 = 20 := ⟨lp_48 h, lq_48 h⟩
theorem lp_49 {S : Sk} (h : Lay S) : 49 < sN S := Nat.lt_of_lt_of_le (by decide) h.1
theorem lk_49 {S : Sk} (h : Lay S) : sK S 49 = (20, 16) := h.2.1 49 (by decide)
theorem lq_49 {S : Sk} (h : Lay S) : (sK S 49).1 = 20 := by rw [lk_49 h]
theorem la_49 {S : Sk} (h : Lay S) : 49 < sN S ∧ (sK S 49).1 = 20 := ⟨lp_49 h, lq_49 h⟩
theorem lp_50 {S : Sk} (h : Lay S) : 50 < sN S := Nat.lt_of_lt_of_le (by decide) h.1
theorem lk_50 {S : Sk} (h : Lay S) : sK S 50 = (20, 576) := h.2.1 50 (by decide)
theorem lq_50 {S : Sk} (h : Lay S) : (sK S 50).1 = 20 := by rw [lk_50 h]
theorem la_50 {S : Sk} (h : Lay S) : 50 < sN S ∧ (sK S 50).1 = 20 := ⟨lp_50 h, lq_50 h⟩
theorem lp_51 {S : Sk} (h : Lay S) : 51 < sN S := Nat.lt_of_lt_of_le (by decide) h.1
theorem lk_51 {S : Sk} (h : Lay S) : sK S 51 = (20, 1288) := h.2.1 51 (by decide)
theorem lq_51 {S : Sk} (h : Lay S) : (sK S 51).1 = 20 := by rw [lk_51 h]
theorem la_51 {S : Sk} (h : Lay S) : 51 < sN S ∧ (sK S 51).1 = 20 := ⟨lp_51 h, lq_51 h⟩
theorem lp_52 {S : Sk} (h : Lay S) : 52 < sN S := Nat.lt_of_lt_of_le (by decide) h.1
theorem lk_52 {S : Sk} (h : Lay S) : sK S 52 = (20, 104) := h.2.1 52 (by decide)
theorem lq_52 {S : Sk} (h : Lay S) : (sK S 52).1 = 20 := by rw [lk_52 h]
theorem la_52 {S : Sk} (h : Lay S) : 52 < sN S ∧ (sK S 52).1 = 20 := ⟨lp_52 h, lq_52 h⟩
theorem lp_53 {S : Sk} (h : Lay S) : 53 < sN S := Nat.lt_of_lt_of_le (by decide) h.1
theorem lk_53 {S : Sk} (h : Lay S) : sK S 53 = (20, 200) := h.2.1 53 (by decide)
theorem lq_53 {S : Sk} (h : Lay S) : (sK S 53).1 = 20 := by rw [lk_53 h]
theorem la_53 {S : Sk} (h : Lay S) : 53 < sN S ∧ (sK S 53).1 = 20 := ⟨lp_53 h, lq_53 h⟩
theorem lp_54 {S : Sk} (h : Lay S) : 54 < sN S := Nat.lt_of_lt_of_le (by decide) h.1
theorem lk_54 {S : Sk} (h : Lay S) : sK S 54 = (20, 161) := h.2.1 54 (by decide)
theorem lq_54 {S : Sk} (h : Lay S) : (sK S 54).1 = 20 := by rw [lk_54 h]
theorem la_54 {S : Sk} (h : Lay S) : 54 < sN S ∧ (sK S 54).1 = 20 := ⟨lp_54 h, lq_54 h⟩
theorem lp_55 {S : Sk} (h : Lay S) : 55 < sN S := Nat.lt_of_lt_of_le (by decide) h.1
theorem lk_55 {S : Sk} (h : Lay S) : sK S 55 = (20, 4) := h.2.1 55 (by decide)
theorem lq_55 {S : Sk} (h : Lay S) : (sK S 55).1 = 20 := by rw [lk_55 h]
theorem la_55 {S : Sk} (h : Lay S) : 55 < sN S ∧ (sK S 55).1 = 20 := ⟨lp_55 h, lq_55 h⟩
theorem lp_56 {S : Sk} (h : Lay S) : 56 < sN S := Nat.lt_of_lt_of_le (by decide) h.1
theorem lk_56 {S : Sk} (h : Lay S) : sK S 56 = (20, 6) := h.2.1 56 (by decide)
theorem lq_56 {S : Sk} (h : Lay S) : (sK S 56).1 = 20 := by rw [lk_56 h]
theorem la_56 {S : Sk} (h : Lay S) : 56 < sN S ∧ (sK S 56).1 = 20 := ⟨lp_56 h, lq_56 h⟩
theorem lp_57 {S : Sk} (h : Lay S) : 57 < sN S := Nat.lt_of_lt_of_le (by decide) h.1
theorem lk_57 {S : Sk} (h : Lay S) : sK S 57 = (20, 6) := h.2.1 57 (by decide)
theorem lq_57 {S : Sk} (h : Lay S) : (sK S 57).1 = 20 := by rw [lk_57 h]
theorem la_57 {S : Sk} (h : Lay S) : 57 < sN S ∧ (sK S 57).1 = 20 := ⟨lp_57 h, lq_57 h⟩
theorem lp_58 {S : Sk} (h : Lay S) : 58 < sN S := Nat.lt_of_lt_of_le (by decide) h.1
theorem lk_58 {S : Sk} (h : Lay S) : sK S 58 = (20, 6) := h.2.1 58 (by decide)
theorem lq_58 {S : Sk} (h : Lay S) : (sK S 58).1 = 20 := by rw [lk_58 h]
theorem la_58 {S : Sk} (h : Lay S) : 58 < sN S ∧ (sK S 58).1 = 20 := ⟨lp_58 h, lq_58 h⟩
theorem lp_59 {S : Sk} (h : Lay S) : 59 < sN S := Nat.lt_of_lt_of_le (by decide) h.1
theorem lk_59 {S : Sk} (h : Lay S) : sK S 59 = (20, 36) := h.2.1 59 (by decide)
theorem lq_59 {S : Sk} (h : Lay S) : (sK S 59).1 = 20 := by rw [lk_59 h]
theorem la_59 {S : Sk} (h : Lay S) : 59 < sN S ∧ (sK S 59).1 = 20 := ⟨lp_59 h, lq_59 h⟩
theorem lp_60 {S : Sk} (h : Lay S) : 60 < sN S := Nat.lt_of_lt_of_le (by decide) h.1
theorem lk_60 {S : Sk} (h : Lay S) : sK S 60 = (20, 16) := h.2.1 60 (by decide)
theorem lq_60 {S : Sk} (h : Lay S) : (sK S 60).1 = 20 := by rw [lk_60 h]
theorem la_60 {S : Sk} (h : Lay S) : 60 < sN S ∧ (sK S 60).1 = 20 := ⟨lp_60 h, lq_60 h⟩
theorem lp_61 {S : Sk} (h : Lay S) : 61 < sN S := Nat.lt_of_lt_of_le (by decide) h.1
theorem lk_61 {S : Sk} (h : Lay S) : sK S 61 = (20, 16) := h.2.1 61 (by decide)
theorem lq_61 {S : Sk} (h : Lay S) : (sK S 61).1 = 20 := by rw [lk_61 h]
theorem la_61 {S : Sk} (h : Lay S) : 61 < sN S ∧ (sK S 61).1 = 20 := ⟨lp_61 h, lq_61 h⟩
theorem lp_62 {S : Sk} (h : Lay S) : 62 < sN S := Nat.lt_of_lt_of_le (by decide) h.1
theorem lk_62 {S : Sk} (h : Lay S) : sK S 62 = (20, 16) := h.2.1 62 (by decide)
theorem lq_62 {S : Sk} (h : Lay S) : (sK S 62).1 = 20 := by rw [lk_62 h]
theorem la_62 {S : Sk} (h : Lay S) : 62 < sN S ∧ (sK S 62).1 = 20 := ⟨lp_62 h, lq_62 h⟩
theorem lp_63 {S : Sk} (h : Lay S) : 63 < sN S := Nat.lt_of_lt_of_le (by decide) h.1
theorem lk_63 {S : Sk} (h : Lay S) : sK S 63 = (20, 8) := h.2.1 63 (by decide)
theorem lq_63 {S : Sk} (h : Lay S) : (sK S 63).1 = 20 := by rw [lk_63 h]
theorem la_63 {S : Sk} (h : Lay S) : 63 < sN S ∧ (sK S 63).1 = 20 := ⟨lp_63 h, lq_63 h⟩
theorem lp_64 {S : Sk} (h : Lay S) : 64 < sN S := Nat.lt_of_lt_of_le (by decide) h.1
theorem lk_64 {S : Sk} (h : Lay S) : sK S 64 = (20, 6) := h.2.1 64 (by decide)
theorem lq_64 {S : Sk} (h : Lay S) : (sK S 64).1 = 20 := by rw [lk_64 h]
theorem la_64 {S : Sk} (h : Lay S) : 64 < sN S ∧ (sK S 64).1 = 20 := ⟨lp_64 h, lq_64 h⟩
theorem lp_65 {S : Sk} (h : Lay S) : 65 < sN S := Nat.lt_of_lt_of_le (by decide) h.1
theorem lk_65 {S : Sk} (h : Lay S) : sK S 65 = (20, 6) := h.2.1 65 (by decide)
theorem lq_65 {S : Sk} (h : Lay S) : (sK S 65).1 = 20 := by rw [lk_65 h]
theorem la_65 {S : Sk} (h : Lay S) : 65 < sN S ∧ (sK S 65).1 = 20 := ⟨lp_65 h, lq_65 h⟩
theorem lp_66 {S : Sk} (h : Lay S) : 66 < sN S := Nat.lt_of_lt_of_le (by decide) h.1
theorem lk_66 {S : Sk} (h : Lay S) : sK S 66 = (20, 6) := h.2.1 66 (by decide)
theorem lq_66 {S : Sk} (h : Lay S) : (sK S 66).1 = 20 := by rw [lk_66 h]
theorem la_66 {S : Sk} (h : Lay S) : 66 < sN S ∧ (sK S 66).1 = 20 := ⟨lp_66 h, lq_66 h⟩
theorem lp_67 {S : Sk} (h : Lay S) : 67 < sN S := Nat.lt_of_lt_of_le (by decide) h.1
theorem lk_67 {S : Sk} (h : Lay S) : sK S 67 = (20, 729) := h.2.1 67 (by decide)
theorem lq_67 {S : Sk} (h : Lay S) : (sK S 67).1 = 20 := by rw [lk_67 h]
theorem la_67 {S : Sk} (h : Lay S) : 67 < sN S ∧ (sK S 67).1 = 20 := ⟨lp_67 h, lq_67 h⟩
theorem lp_68 {S : Sk} (h : Lay S) : 68 < sN S := Nat.lt_of_lt_of_le (by decide) h.1
theorem lk_68 {S : Sk} (h : Lay S) : sK S 68 = (20, 8) := h.2.1 68 (by decide)
theorem lq_68 {S : Sk} (h : Lay S) : (sK S 68).1 = 20 := by rw [lk_68 h]
theorem la_68 {S : Sk} (h : Lay S) : 68 < sN S ∧ (sK S 68).1 = 20 := ⟨lp_68 h, lq_68 h⟩
theorem lp_69 {S : Sk} (h : Lay S) : 69 < sN S := Nat.lt_of_lt_of_le (by decide) h.1
theorem lk_69 {S : Sk} (h : Lay S) : sK S 69 = (20, 448) := h.2.1 69 (by decide)
theorem lq_69 {S : Sk} (h : Lay S) : (sK S 69).1 = 20 := by rw [lk_69 h]
theorem la_69 {S : Sk} (h : Lay S) : 69 < sN S ∧ (sK S 69).1 = 20 := ⟨lp_69 h, lq_69 h⟩
theorem lp_70 {S : Sk} (h : Lay S) : 70 < sN S := Nat.lt_of_lt_of_le (by decide) h.1
theorem lk_70 {S : Sk} (h : Lay S) : sK S 70 = (22, 3) := h.2.1 70 (by decide)
theorem lq_70 {S : Sk} (h : Lay S) : (sK S 70).1 = 22 := by rw [lk_70 h]
theorem lr_0_0 {S : Sk} (h : Lay S) : sR S 0 0 = some 1 := h.2.2 (0, 0, 1) (List.mem_of_getElem? (i := 0) rfl)
theorem lr_0_1 {S : Sk} (h : Lay S) : sR S 0 1 = some 6 := h.2.2 (0, 1, 6) (List.mem_of_getElem? (i := 1) rfl)
theorem lr_0_2 {S : Sk} (h : Lay S) : sR S 0 2 = some 7 := h.2.2 (0, 2, 7) (List.mem_of_getElem? (i := 2) rfl)
theorem lr_0_3 {S : Sk} (h : Lay S) : sR S 0 3 = some 13 := h.2.2 (0, 3, 13) (List.mem_of_getElem? (i := 3) rfl)
theorem lr_0_4 {S : Sk} (h : Lay S) : sR S 0 4 = some 25 := h.2.2 (0, 4, 25) (List.mem_of_getElem? (i := 4) rfl)
theorem lr_0_5 {S : Sk} (h : Lay S) : sR S 0 5 = some 32 := h.2.2 (0, 5, 32) (List.mem_of_getElem? (i := 5) rfl)
theorem lr_0_6 {S : Sk} (h : Lay S) : sR S 0 6 = some 34 := h.2.2 (0, 6, 34) (List.mem_of_getElem? (i := 6) rfl)
theorem lr_0_7 {S : Sk} (h : Lay S) : sR S 0 7 = some 38 := h.2.2 (0, 7, 38) (List.mem_of_getElem? (i := 7) rfl)
theorem lr_0_8 {S : Sk} (h : Lay S) : sR S 0 8 = some 40 := h.2.2 (0, 8, 40) (List.mem_of_getElem? (i := 8) rfl)
theorem lr_1_0 {S : Sk} (h : Lay S) : sR S 1 0 = some 2 := h.2.2 (1, 0, 2) (List.mem_of_getElem? (i := 9) rfl)
theorem lr_1_4 {S : Sk} (h : Lay S) : sR S 1 4 = some 3 := h.2.2 (1, 4, 3) (List.mem_of_getElem? (i := 10) rfl)
theorem lr_1_5 {S : Sk} (h : Lay S) : sR S 1 5 = some 4 := h.2.2 (1, 5, 4) (List.mem_of_getElem? (i := 11) rfl)
theorem lr_1_6 {S : Sk} (h : Lay S) : sR S 1 6 = some 5 := h.2.2 (1, 6, 5) (List.mem_of_getElem? (i := 12) rfl)
theorem lr_7_0 {S : Sk} (h : Lay S) : sR S 7 0 = some 8 := h.2.2 (7, 0, 8) (List.mem_of_getElem? (i := 13) rfl)
theorem lr_7_3 {S : Sk} (h : Lay S) : sR S 7 3 = some 10 := h.2.2 (7, 3, 10) (List.mem_of_getElem? (i := 14) rfl)
theorem lr_7_4 {S : Sk} (h : Lay S) : sR S 7 4 = some 11 := h.2.2 (7, 4, 11) (List.mem_of_getElem? (i := 15) rfl)
theorem lr_8_0 {S : Sk} (h : Lay S) : sR S 8 0 = some 9 := h.2.2 (8, 0, 9) (List.mem_of_getElem? (i := 16) rfl)
theorem lr_13_0 {S : Sk} (h : Lay S) : sR S 13 0 = some 14 := h.2.2 (13, 0, 14) (List.mem_of_getElem? (i := 17) rfl)
theorem lr_13_10 {S : Sk} (h : Lay S) : sR S 13 10 = some 24 := h.2.2 (13, 10, 24) (List.mem_of_getElem? (i := 18) rfl)
theorem lr_14_2 {S : Sk} (h : Lay S) : sR S 14 2 = some 15 := h.2.2 (14, 2, 15) (List.mem_of_getElem? (i := 19) rfl)
theorem lr_14_3 {S : Sk} (h : Lay S) : sR S 14 3 = some 16 := h.2.2 (14, 3, 16) (List.mem_of_getElem? (i := 20) rfl)
theorem lr_14_4 {S : Sk} (h : Lay S) : sR S 14 4 = some 17 := h.2.2 (14, 4, 17) (List.mem_of_getElem? (i := 21) rfl)
theorem lr_14_5 {S : Sk} (h : Lay S) : sR S 14 5 = some 18 := h.2.2 (14, 5, 18) (List.mem_of_getElem? (i := 22) rfl)
theorem lr_14_6 {S : Sk} (h : Lay S) : sR S 14 6 = some 19 := h.2.2 (14, 6, 19) (List.mem_of_getElem? (i := 23) rfl)
theorem lr_14_7 {S : Sk} (h : Lay S) : sR S 14 7 = some 20 := h.2.2 (14, 7, 20) (List.mem_of_getElem? (i := 24) rfl)
theorem lr_14_8 {S : Sk} (h : Lay S) : sR S 14 8 = some 21 := h.2.2 (14, 8, 21) (List.mem_of_getElem? (i := 25) rfl)
theorem lr_14_9 {S : Sk} (h : Lay S) : sR S 14 9 = some 22 := h.2.2 (14, 9, 22) (List.mem_of_getElem? (i := 26) rfl)
theorem lr_14_10 {S : Sk} (h : Lay S) : sR S 14 10 = some 23 := h.2.2 (14, 10, 23) (List.mem_of_getElem? (i := 27) rfl)
theorem lr_25_2 {S : Sk} (h : Lay S) : sR S 25 2 = some 26 := h.2.2 (25, 2, 26) (List.mem_of_getElem? (i := 28) rfl)
theorem lr_25_3 {S : Sk} (h : Lay S) : sR S 25 3 = some 27 := h.2.2 (25, 3, 27) (List.mem_of_getElem? (i := 29) rfl)
theorem lr_25_4 {S : Sk} (h : Lay S) : sR S 25 4 = some 28 := h.2.2 (25, 4, 28) (List.mem_of_getElem? (i := 30) rfl)
theorem lr_25_5 {S : Sk} (h : Lay S) : sR S 25 5 = some 29 := h.2.2 (25, 5, 29) (List.mem_of_getElem? (i := 31) rfl)
theorem lr_25_6 {S : Sk} (h : Lay S) : sR S 25 6 = some 30 := h.2.2 (25, 6, 30) (List.mem_of_getElem? (i := 32) rfl)
theorem lr_25_7 {S : Sk} (h : Lay S) : sR S 25 7 = some 31 := h.2.2 (25, 7, 31) (List.mem_of_getElem? (i := 33) rfl)
theorem lr_32_0 {S : Sk} (h : Lay S) : sR S 32 0 = some 33 := h.2.2 (32, 0, 33) (List.mem_of_getElem? (i := 34) rfl)
theorem lr_34_3 {S : Sk} (h : Lay S) : sR S 34 3 = some 35 := h.2.2 (34, 3, 35) (List.mem_of_getElem? (i := 35) rfl)
theorem lr_34_4 {S : Sk} (h : Lay S) : sR S 34 4 = some 36 := h.2.2 (34, 4, 36) (List.mem_of_getElem? (i := 36) rfl)
theorem lr_34_5 {S : Sk} (h : Lay S) : sR S 34 5 = some 37 := h.2.2 (34, 5, 37) (List.mem_of_getElem? (i := 37) rfl)
theorem lr_38_9 {S : Sk} (h : Lay S) : sR S 38 9 = some 39 := h.2.2 (38, 9, 39) (List.mem_of_getElem? (i := 38) rfl)
theorem lr_40_1 {S : Sk} (h : Lay S) : sR S 40 1 = some 41 := h.2.2 (40, 1, 41) (List.mem_of_getElem? (i := 39) rfl)
theorem lr_40_2 {S : Sk} (h : Lay S) : sR S 40 2 = some 42 := h.2.2 (40, 2, 42) (List.mem_of_getElem? (i := 40) rfl)
theorem lr_40_3 {S : Sk} (h : Lay S) : sR S 40 3 = some 43 := h.2.2 (40, 3, 43) (List.mem_of_getElem? (i := 41) rfl)
theorem lr_44_1 {S : Sk} (h : Lay S) : sR S 44 1 = some 45 := h.2.2 (44, 1, 45) (List.mem_of_getElem? (i := 42) rfl)
theorem lr_44_2 {S : Sk} (h : Lay S) : sR S 44 2 = some 46 := h.2.2 (44, 2, 46) (List.mem_of_getElem? (i := 43) rfl)
theorem lr_44_3 {S : Sk} (h : Lay S) : sR S 44 3 = some 47 := h.2.2 (44, 3, 47) (List.mem_of_getElem? (i := 44) rfl)
theorem lr_44_4 {S : Sk} (h : Lay S) : sR S 44 4 = some 48 := h.2.2 (44, 4, 48) (List.mem_of_getElem? (i := 45) rfl)
theorem lr_44_5 {S : Sk} (h : Lay S) : sR S 44 5 = some 49 := h.2.2 (44, 5, 49) (List.mem_of_getElem? (i := 46) rfl)
theorem lr_44_6 {S : Sk} (h : Lay S) : sR S 44 6 = some 50 := h.2.2 (44, 6, 50) (List.mem_of_getElem? (i := 47) rfl)
theorem lr_44_7 {S : Sk} (h : Lay S) : sR S 44 7 = some 51 := h.2.2 (44, 7, 51) (List.mem_of_getElem? (i := 48) rfl)
theorem lr_44_8 {S : Sk} (h : Lay S) : sR S 44 8 = some 52 := h.2.2 (44, 8, 52) (List.mem_of_getElem? (i := 49) rfl)
theorem lr_44_9 {S : Sk} (h : Lay S) : sR S 44 9 = some 53 := h.2.2 (44, 9, 53) (List.mem_of_getElem? (i := 50) rfl)
theorem lr_44_19 {S : Sk} (h : Lay S) : sR S 44 19 = some 54 := h.2.2 (44, 19, 54) (List.mem_of_getElem? (i := 51) rfl)
theorem lr_44_20 {S : Sk} (h : Lay S) : sR S 44 20 = some 55 := h.2.2 (44, 20, 55) (List.mem_of_getElem? (i := 52) rfl)
theorem lr_44_31 {S : Sk} (h : Lay S) : sR S 44 31 = some 56 := h.2.2 (44, 31, 56) (List.mem_of_getElem? (i := 53) rfl)
theorem lr_44_32 {S : Sk} (h : Lay S) : sR S 44 32 = some 57 := h.2.2 (44, 32, 57) (List.mem_of_getElem? (i := 54) rfl)
theorem lr_44_33 {S : Sk} (h : Lay S) : sR S 44 33 = some 58 := h.2.2 (44, 33, 58) (List.mem_of_getElem? (i := 55) rfl)
theorem lr_44_34 {S : Sk} (h : Lay S) : sR S 44 34 = some 59 := h.2.2 (44, 34, 59) (List.mem_of_getElem? (i := 56) rfl)
theorem lr_44_35 {S : Sk} (h : Lay S) : sR S 44 35 = some 60 := h.2.2 (44, 35, 60) (List.mem_of_getElem? (i := 57) rfl)
theorem lr_44_36 {S : Sk} (h : Lay S) : sR S 44 36 = some 61 := h.2.2 (44, 36, 61) (List.mem_of_getElem? (i := 58) rfl)
theorem lr_44_37 {S : Sk} (h : Lay S) : sR S 44 37 = some 62 := h.2.2 (44, 37, 62) (List.mem_of_getElem? (i := 59) rfl)
theorem lr_44_39 {S : Sk} (h : Lay S) : sR S 44 39 = some 63 := h.2.2 (44, 39, 63) (List.mem_of_getElem? (i := 60) rfl)
theorem lr_44_40 {S : Sk} (h : Lay S) : sR S 44 40 = some 64 := h.2.2 (44, 40, 64) (List.mem_of_getElem? (i := 61) rfl)
theorem lr_44_42 {S : Sk} (h : Lay S) : sR S 44 42 = some 65 := h.2.2 (44, 42, 65) (List.mem_of_getElem? (i := 62) rfl)
theorem lr_44_43 {S : Sk} (h : Lay S) : sR S 44 43 = some 66 := h.2.2 (44, 43, 66) (List.mem_of_getElem? (i := 63) rfl)
theorem lr_44_44 {S : Sk} (h : Lay S) : sR S 44 44 = some 67 := h.2.2 (44, 44, 67) (List.mem_of_getElem? (i := 64) rfl)
theorem lr_44_53 {S : Sk} (h : Lay S) : sR S 44 53 = some 68 := h.2.2 (44, 53, 68) (List.mem_of_getElem? (i := 65) rfl)
theorem lr_44_55 {S : Sk} (h : Lay S) : sR S 44 55 = some 69 := h.2.2 (44, 55, 69) (List.mem_of_getElem? (i := 66) rfl)
theorem lr_44_56 {S : Sk} (h : Lay S) : sR S 44 56 = some 70 := h.2.2 (44, 56, 70) (List.mem_of_getElem? (i := 67) rfl)
