/-! L3: naturals inside the ints -/
theorem zz_0 : (0 : Int32) = nI 0 := rfl
theorem zz_1 : (1 : Int32) = nI 1 := rfl
theorem zz_2 : (2 : Int32) = nI 2 := rfl
theorem zz_3 : (3 : Int32) = nI 3 := rfl
theorem zz_4 : (4 : Int32) = nI 4 := rfl
theorem zz_5 : (5 : Int32) = nI 5 := rfl
theorem zz_6 : (6 : Int32) = nI 6 := rfl
theorem zz_7 : (7 : Int32) = nI 7 := rfl
theorem zz_8 : (8 : Int32) = nI 8 := rfl
theorem zz_9 : (9 : Int32) = nI 9 := rfl
theorem zz_10 : (10 : Int32) = nI 10 := rfl
theorem zz_11 : (11 : Int32) = nI 11 := rfl
theorem zz_12 : (12 : Int32) = nI 12 := rfl
theorem zz_13 : (13 : Int32) = nI 13 := rfl
theorem zz_14 : (14 : Int32) = nI 14 := rfl
theorem zz_15 : (15 : Int32) = nI 15 := rfl
theorem zz_16 : (16 : Int32) = nI 16 := rfl
theorem zz_20 : (20 : Int32) = nI 20 := rfl
theorem zz_24 : (24 : Int32) = nI 24 := rfl
theorem zz_25 : (25 : Int32) = nI 25 := rfl
theorem zz_26 : (26 : Int32) = nI 26 := rfl
theorem zz_28 : (28 : Int32) = nI 28 := rfl
theorem zz_31 : (31 : Int32) = nI 31 := rfl
theorem zz_32 : (32 : Int32) = nI 32 := rfl
theorem zz_36 : (36 : Int32) = nI 36 := rfl
theorem zz_39 : (39 : Int32) = nI 39 := rfl
theorem zz_40 : (40 : Int32) = nI 40 := rfl
theorem zz_48 : (48 : Int32) = nI 48 := rfl
theorem zz_49 : (49 : Int32) = nI 49 := rfl
theorem zz_50 : (50 : Int32) = nI 50 := rfl
theorem zz_57 : (57 : Int32) = nI 57 := rfl
theorem zz_59 : (59 : Int32) = nI 59 := rfl
theorem zz_60 : (60 : Int32) = nI 60 := rfl
theorem zz_64 : (64 : Int32) = nI 64 := rfl
theorem zz_72 : (72 : Int32) = nI 72 := rfl
theorem zz_97 : (97 : Int32) = nI 97 := rfl
theorem zz_99 : (99 : Int32) = nI 99 := rfl
theorem zz_100 : (100 : Int32) = nI 100 := rfl
theorem zz_122 : (122 : Int32) = nI 122 := rfl
theorem zz_144 : (144 : Int32) = nI 144 := rfl
theorem zz_161 : (161 : Int32) = nI 161 := rfl
theorem zz_255 : (255 : Int32) = nI 255 := rfl
theorem zz_256 : (256 : Int32) = nI 256 := rfl
theorem zz_288 : (288 : Int32) = nI 288 := rfl
theorem zz_322 : (322 : Int32) = nI 322 := rfl
theorem zz_384 : (384 : Int32) = nI 384 := rfl
theorem zz_400 : (400 : Int32) = nI 400 := rfl
theorem zz_448 : (448 : Int32) = nI 448 := rfl
theorem zz_600 : (600 : Int32) = nI 600 := rfl
theorem zz_1280 : (1280 : Int32) = nI 1280 := rfl
theorem zz_1000000 : (1000000 : Int32) = nI 1000000 := rfl
def m1 : Int32 := -1
theorem n_m1 : -(nI 1) = m1 := by decide
theorem n_mul (a b : Nat) : nI a * nI b = nI (a * b) := (Int32.ofNat_mul a b).symm
theorem n_sub {a b : Nat} (h : b ≤ a) : nI a - nI b = nI (a - b) := by
  have h1 : nI (a - b) + nI b = nI a := by rw [nI_add, Nat.sub_add_cancel h]
  rw [← h1]
  exact Int32.add_sub_cancel _ _
theorem n_le {a b : Nat} (ha : a < 2147483648) (hb : b < 2147483648) : (nI a ≤ nI b) = (a ≤ b) := propext (nI_leI ha hb)
theorem n_lt {a b : Nat} (ha : a < 2147483648) (hb : b < 2147483648) : (nI a < nI b) = (a < b) := propext (nI_ltI ha hb)
theorem n_eq {a b : Nat} (ha : a < 2147483648) (hb : b < 2147483648) : (nI a = nI b) = (a = b) := propext (nI_eq ha hb)
theorem n_ix {j : Nat} (h : j < 2147483648) : ix (nI j) = j := ix_nI h
theorem n_grd {α : Type} {j n : Nat} {k : Option α} (h : j < n) (hn : n < 2147483648) : grd (nI j) n k = k := grd_nI h hn
theorem n_gdz {α : Type} {j : Nat} {k : Option α} (h : 0 < j) (hn : j < 2147483648) : gdz (nI j) k = k := gdz_pos (nI_ne0 h hn)
theorem n_div {a b : Nat} (ha : a < 2147483648) (hb : b < 2147483648) : nI a / nI b = nI (a / b) := by
  have h0 : a / b ≤ a := Nat.div_le_self a b
  have h := Int32.toInt_div_of_ne_right (nI a) (nI b) (by
    intro h9
    have := congrArg Int32.toInt h9
    rw [nI_toInt hb] at this
    have h7 : (-1 : Int32).toInt = -1 := by decide
    omega)
  apply Int32.toInt_inj.mp
  rw [h, nI_toInt ha, nI_toInt hb, nI_toInt (by omega)]
  exact Int.ofNat_tdiv a b |>.symm
theorem n_rem {a b : Nat} (ha : a < 2147483648) (hb : b < 2147483648) : xrem (nI a) (nI b) = nI (a % b) := by
  unfold xrem
  rw [n_div ha hb, n_mul, n_sub (Nat.div_mul_le_self a b)]
  congr 1
  have := Nat.div_add_mod a b
  rw [Nat.mul_comm] at this
  omega
theorem n_s31 : ∀ n, n < 32 → ((nI n &&& 31).toBitVec.smod 32).toNat = n := by decide
theorem n_shl1 {k : Nat} (hk : k < 31) : xshl (nI 1) (nI k) = nI (2 ^ k) := by
  unfold xshl
  have h2 : 2 ^ k < 2 ^ 31 := Nat.pow_lt_pow_right (by decide) hk
  rw [pk_shlN _ k (n_s31 k (by omega)) (by omega), Nat.one_mul]
theorem n_shl {a k : Nat} (hk : k < 32) (h : a * 2 ^ k < 4294967296) : xshl (nI a) (nI k) = nI (a * 2 ^ k) := by
  unfold xshl
  rw [pk_shlN _ k (n_s31 k (by omega)) h]
theorem n_shr {s k : Nat} (hs : s < 2147483648) (hk : k < 32) : xshr (nI s) (nI k) = nI (s / 2 ^ k) := by
  unfold xshr
  rw [pk_shrN hs _ k (n_s31 k hk)]
def b2 (b : Bool) : Int32 := if b then nI 1 else nI 0
theorem b2_0 (b : Bool) : (b2 b = nI 0) = (b = false) := by cases b <;> decide
theorem b2_1 (b : Bool) : (b2 b = nI 1) = (b = true) := by cases b <;> decide
theorem b2_01 (b : Bool) : b2 b = 0 ∨ b2 b = 1 := by cases b <;> decide
theorem n_gbz {α : Type} (b : Bool) (k : Option α) : gbz (b2 b) k = k := gbz_pos (b2_01 b)
theorem n_and1 {s k : Nat} : s / 2 ^ k &&& 1 = (if s.testBit k then 1 else 0) := by
  rw [Nat.and_one_is_mod, Nat.testBit_eq_decide_div_mod_eq]
  have : s / 2 ^ k % 2 < 2 := Nat.mod_lt _ (by decide)
  split
  · rename_i h; simpa using h
  · rename_i h; have : ¬ s / 2 ^ k % 2 = 1 := by simpa using h
    omega
theorem n_hasM {s k : Nat} (hs : s < 2147483648) (hk : k < 32) : m_X12_has (nI s) (nI k) = b2 (s.testBit k) := by
  unfold m_X12_has
  rw [n_shr hs hk, zz_1, fa_and, n_and1]
  cases s.testBit k <;> decide
theorem n_hasC {s k : Nat} (hs : s < 2147483648) (hk : k < 32) : m_X11_has (nI s) (nI k) = b2 (s.testBit k) := by
  unfold m_X11_has
  rw [n_shr hs hk, zz_1, fa_and, n_and1]
  cases s.testBit k <;> decide
/-- what is in a and not in b -/
def ndf (a b : Nat) : Nat := a ^^^ (a &&& b)
theorem ndf_bit (a b i : Nat) : (ndf a b).testBit i = (a.testBit i && !b.testBit i) := by
  unfold ndf
  rw [Nat.testBit_xor, Nat.testBit_and]
  cases a.testBit i <;> cases b.testBit i <;> rfl
theorem n_andn (a b : Nat) : nI a &&& (nI b ^^^ m1) = nI (ndf a b) := by
  unfold ndf
  rw [← fb_xorI, ← fa_and]
  apply Int32.toBitVec_inj.mp
  simp only [Int32.toBitVec_and, Int32.toBitVec_xor, show m1.toBitVec = BitVec.allOnes 32 by decide]
  apply BitVec.eq_of_getLsbD_eq
  intro i hi
  simp only [BitVec.getLsbD_and, BitVec.getLsbD_xor, BitVec.getLsbD_allOnes, hi, decide_true]
  cases (nI a).toBitVec.getLsbD i <;> cases (nI b).toBitVec.getLsbD i <;> rfl
theorem bS_inl {α β : Type} (a : α) (f : α → Option β) : bS (some (.inl a)) f = f a := rfl
theorem bS_inr {α β : Type} (b : β) (f : α → Option β) : bS (some (.inr b)) f = some b := rfl
theorem n_max {a b : Nat} (ha : a < 2147483648) (hb : b < 2147483648) : xmax (nI a) (nI b) = nI (max a b) := by
  unfold xmax
  simp only [n_lt ha hb]
  split <;> congr 1 <;> omega
theorem n_min {a b : Nat} (ha : a < 2147483648) (hb : b < 2147483648) : xmin (nI a) (nI b) = nI (min a b) := by
  unfold xmin
  simp only [n_lt hb ha]
  split <;> congr 1 <;> omega
theorem n_grt {a b : Nat} (ha : a < 2147483648) (hb : b < 2147483648) : m_X12_greater (nI a) (nI b) = nI (max a b) := by
  unfold m_X12_greater
  simp only [n_le ha hb]
  split <;> congr 1 <;> omega
theorem n_les {a b : Nat} (ha : a < 2147483648) (hb : b < 2147483648) : m_X12_lesser (nI a) (nI b) = nI (min a b) := by
  unfold m_X12_lesser
  simp only [n_le hb ha]
  split <;> congr 1 <;> omega
theorem i_nI {c : Prop} [Decidable c] (a b : Nat) : (if c then nI a else nI b) = nI (if c then a else b) := by split <;> rfl
theorem i_pair {α β : Type} {c : Prop} [Decidable c] (a a' : α) (b b' : β) : (if c then (a, b) else (a', b')) = (if c then a else a', if c then b else b') := by split <;> rfl
theorem i_inl {α β : Type} {c : Prop} [Decidable c] (a b : α) : (if c then (Sum.inl a : α ⊕ β) else .inl b) = .inl (if c then a else b) := by split <;> rfl
theorem i_some {α : Type} {c : Prop} [Decidable c] (a b : α) : (if c then some a else some b) = some (if c then a else b) := by split <;> rfl
theorem i_bind {α β : Type} {c : Prop} [Decidable c] (x y : Option α) (f : α → Option β) : (if c then x else y).bind f = if c then x.bind f else y.bind f := by split <;> rfl
/-- up from 0: what a loop has behind i turns -/
def fo {α : Type} (g : Nat → α → α) (a : α) : Nat → α
  | 0 => a
  | i + 1 => g i (fo g a i)
theorem fo_inv {α : Type} {g : Nat → α → α} {a : α} {n : Nat} (I : Nat → α → Prop) (h0 : I 0 a) (hI : ∀ i x, i < n → I i x → I (i + 1) (g i x)) : ∀ i, i ≤ n → I i (fo g a i)
  | 0, _ => h0
  | i + 1, h => hI i _ (by omega) (fo_inv I h0 hI i (by omega))
theorem fo_cong {α : Type} {g g' : Nat → α → α} {a : α} {n : Nat} (h : ∀ i x, i < n → g i x = g' i x) : ∀ i, i ≤ n → fo g a i = fo g' a i
  | 0, _ => rfl
  | i + 1, hi => by rw [fo, fo, fo_cong h i (by omega), h i _ (by omega)]
theorem loop_fo {α σ ρ : Type} {body : σ → Option (σ ⊕ ρ)} (enc : α → Nat → σ) (g : Nat → α → α) (a : α) (n : Nat) (out : α → ρ) (I : Nat → α → Prop) {s0 : σ} (e0 : s0 = enc a 0) (hn : n < FU) (h0 : I 0 a) (hI : ∀ i x, i < n → I i x → I (i + 1) (g i x)) (hs : ∀ i x, i < n → I i x → body (enc x i) = some (.inl (enc (g i x) (i + 1)))) (hx : ∀ x, I n x → body (enc x n) = some (.inr (out x))) : whileF FU body s0 = some (out (fo g a n)) := by
  have hJ := fo_inv (g := g) (a := a) (n := n) I h0 hI
  exact loop_seq (fun i => enc (fo g a i) i) n e0 hn (fun i hi => hs i _ hi (hJ i (by omega))) (hx _ (hJ n (Nat.le_refl n)))
/-- the first below n -/
def fst1 (P : Nat → Bool) : Nat → Option Nat
  | 0 => none
  | n + 1 => match fst1 P n with
    | some k => some k
    | none => if P n then some n else none
theorem fst1_none {P : Nat → Bool} : ∀ {n : Nat}, fst1 P n = none ↔ ∀ k, k < n → P k = false
  | 0 => by simp [fst1]
  | n + 1 => by
    have ih := fst1_none (P := P) (n := n)
    rw [fst1]
    cases h : fst1 P n with
    | some k =>
      simp only [reduceCtorEq, false_iff]
      intro h2
      have := ih.mpr (fun k hk => h2 k (by omega))
      rw [h] at this; cases this
    | none =>
      have h3 := ih.mp h
      cases hp : P n with
      | true =>
        simp only [if_true, reduceCtorEq, false_iff]
        intro h2
        rw [h2 n (by omega)] at hp; cases hp
      | false =>
        simp only [Bool.false_eq_true, if_false, true_iff]
        intro k hk
        by_cases hkn : k = n
        · rw [hkn]; exact hp
        · exact h3 k (by omega)
theorem fst1_some {P : Nat → Bool} {k : Nat} : ∀ {n : Nat}, fst1 P n = some k ↔ k < n ∧ P k = true ∧ ∀ j, j < k → P j = false
  | 0 => by simp [fst1]
  | n + 1 => by
    have ih := fst1_some (P := P) (k := k) (n := n)
    rw [fst1]
    cases h : fst1 P n with
    | some j =>
      simp only
      rw [h] at ih
      rw [ih]
      constructor
      · rintro ⟨a, b, c⟩; exact ⟨by omega, b, c⟩
      · rintro ⟨a, b, c⟩
        have h5 := (fst1_some (P := P) (k := j) (n := n)).mp h
        refine ⟨?_, b, c⟩
        by_cases hjk : k = n
        · have := c j (by omega)
          rw [h5.2.1] at this; cases this
        · omega
    | none =>
      have h3 := fst1_none.mp h
      simp only
      cases hp : P n with
      | true =>
        simp only [if_true, Option.some.injEq]
        constructor
        · rintro rfl; exact ⟨by omega, hp, h3⟩
        · rintro ⟨a, b, c⟩
          by_cases hkn : k = n
          · exact hkn.symm
          · rw [h3 k (by omega)] at b; cases b
      | false =>
        simp only [Bool.false_eq_true, if_false, reduceCtorEq, false_iff]
        rintro ⟨a, b, c⟩
        by_cases hkn : k = n
        · rw [hkn, hp] at b; cases b
        · rw [h3 k (by omega)] at b; cases b
theorem loop_fst {σ ρ : Type} {body : σ → Option (σ ⊕ ρ)} (enc : Nat → σ) (P : Nat → Bool) (n : Nat) (hit : Nat → ρ) (miss : ρ) {s0 : σ} (e0 : s0 = enc 0) (hn : n < FU) (hs : ∀ i, i < n → P i = false → body (enc i) = some (.inl (enc (i + 1)))) (hh : ∀ i, i < n → P i = true → body (enc i) = some (.inr (hit i))) (hx : body (enc n) = some (.inr miss)) : whileF FU body s0 = some (match fst1 P n with | some k => hit k | none => miss) := by
  cases h : fst1 P n with
  | none =>
    have h3 := fst1_none.mp h
    exact loop_seq enc n e0 hn (fun i hi => hs i hi (h3 i hi)) hx
  | some k =>
    have h3 := fst1_some.mp h
    exact loop_seq enc k e0 (by omega) (fun i hi => hs i (by omega) (h3.2.2 i hi)) (hh k h3.1 h3.2.1)
/-- how many of the low 12 bits stand -/
def pc (s : Nat) : Nat := fb_ct s.testBit 12
theorem pc_le (s : Nat) : pc s ≤ 12 := fb_ct_le _ _
theorem o_id {α : Type} (o : Option α) : (o.bind fun p => some p) = o := by cases o <;> rfl
theorem fo_ct (p : Nat → Bool) : ∀ n, fo (fun i x => x + if p i then 1 else 0) 0 n = fb_ct p n
  | 0 => rfl
  | n + 1 => by rw [fo, fb_ct, fo_ct p n]
theorem ones_eq {s : Nat} (hs : s < 2147483648) : m_X12_ones (nI s) = some (nI (pc s)) := by
  unfold m_X12_ones
  rw [o_id]
  refine (loop_fo (fun (x : Nat) i => (nI x, nI i)) (fun i x => x + if s.testBit i then 1 else 0) 0 12 (fun x => nI x) (fun i x => x ≤ i) rfl (FU_big (by decide)) (by decide) ?_ ?_ ?_).trans (by rw [fo_ct]; rfl)
  · intro i x hi hx
    split <;> omega
  · intro i x hi hx
    unfold m_X12_ones_b4
    simp (disch := omega) only [zz_0, zz_1, zz_2, zz_3, zz_4, zz_5, zz_6, zz_7, zz_8, zz_9, zz_10, zz_11, zz_12, zz_13, zz_14, zz_15, zz_16, zz_20, zz_24, zz_25, zz_26, zz_28, zz_31, zz_32, zz_36, zz_39, zz_40, zz_48, zz_49, zz_50, zz_57, zz_59, zz_60, zz_64, zz_72, zz_97, zz_99, zz_100, zz_122, zz_144, zz_161, zz_255, zz_256, zz_288, zz_322, zz_384, zz_400, zz_448, zz_600, zz_1280, zz_1000000, nI_add, n_mul, n_sub, fa_or, fa_and, fb_xorI, n_div, n_rem, n_le, n_lt, n_eq, n_shl1, n_shr, n_andn, n_ix, n_grd, n_gdz, n_gbz, n_hasM, n_hasC, b2_0, b2_1, n_m1, Option.bind_some, bS_inl, bS_inr, n_max, n_min, n_grt, n_les]
    rw [if_neg (by omega)]
    cases s.testBit i <;> simp [i_nI, nI_add]
  · intro x hx
    unfold m_X12_ones_b4
    simp (disch := omega) only [zz_0, zz_1, zz_2, zz_3, zz_4, zz_5, zz_6, zz_7, zz_8, zz_9, zz_10, zz_11, zz_12, zz_13, zz_14, zz_15, zz_16, zz_20, zz_24, zz_25, zz_26, zz_28, zz_31, zz_32, zz_36, zz_39, zz_40, zz_48, zz_49, zz_50, zz_57, zz_59, zz_60, zz_64, zz_72, zz_97, zz_99, zz_100, zz_122, zz_144, zz_161, zz_255, zz_256, zz_288, zz_322, zz_384, zz_400, zz_448, zz_600, zz_1280, zz_1000000, nI_add, n_mul, n_sub, fa_or, fa_and, fb_xorI, n_div, n_rem, n_le, n_lt, n_eq, n_shl1, n_shr, n_andn, n_ix, n_grd, n_gdz, n_gbz, n_hasM, n_hasC, b2_0, b2_1, n_m1, Option.bind_some, bS_inl, bS_inr, n_max, n_min, n_grt, n_les]
    rw [if_pos (by omega)]
theorem bitc0 : ∀ a, a < 64 → ∀ b, b < 64 → m_J6_bitCount_0f7a4 (nI (64 * a + b)) = nI (pc (64 * a + b)) := by decide +kernel
theorem bitc_eq {s : Nat} (hs : s < 4096) : m_J6_bitCount_0f7a4 (nI s) = nI (pc s) := by
  have h := bitc0 (s / 64) (by omega) (s % 64) (by omega)
  rwa [show 64 * (s / 64) + s % 64 = s by omega] at h
