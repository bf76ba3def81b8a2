/-! L3: words, as the reference packs them -/
def pN (u : Nat → Nat) (s : Nat) : Nat → Nat
  | 0 => 0
  | i + 1 => 256 * pN u s i + u (s + i)
theorem L_or (a b : Nat) : Int64.ofNat a ||| Int64.ofNat b = Int64.ofNat (a ||| b) := by
  apply Int64.toBitVec_inj.1
  show BitVec.ofNat 64 a ||| BitVec.ofNat 64 b = BitVec.ofNat 64 (a ||| b)
  apply BitVec.eq_of_getLsbD_eq
  intro i hi
  simp [hi]
theorem L_of : ∀ x, x < 256 → (nI x).toInt64 = Int64.ofNat x := by decide +kernel
theorem L_sh : (((8 : Int32).toInt64 &&& 63).toBitVec.smod 64) = 8#64 := by decide +kernel
theorem L_shl (a : Nat) : xlshl (Int64.ofNat a) 8 = Int64.ofNat (256 * a) := by
  unfold xlshl
  apply Int64.toBitVec_inj.1
  show BitVec.ofNat 64 a <<< (((8 : Int32).toInt64 &&& 63).toBitVec.smod 64) = BitVec.ofNat 64 (256 * a)
  rw [L_sh]
  apply BitVec.eq_of_toNat_eq
  rw [BitVec.shiftLeft_eq', BitVec.toNat_shiftLeft, BitVec.toNat_ofNat, BitVec.toNat_ofNat, BitVec.toNat_ofNat, Nat.shiftLeft_eq, show (8 % 2 ^ 64 : Nat) = 8 from rfl, show (2 : Nat) ^ 8 = 256 from rfl]
  omega
theorem L_inj {a b : Nat} (ha : a < 18446744073709551616) (hb : b < 18446744073709551616) (h : Int64.ofNat a = Int64.ofNat b) : a = b := by
  have h2 : (BitVec.ofNat 64 a).toNat = (BitVec.ofNat 64 b).toNat := congrArg (fun z : Int64 => z.toBitVec.toNat) h
  rw [BitVec.toNat_ofNat, BitVec.toNat_ofNat] at h2
  omega
theorem lg0 (x y : Int64) : (lg_cmp x y = 0) = (x = y) := propext (lg_cmp_eq x y)
theorem pN_b {u : Nat → Nat} {s : Nat} (hu : ∀ i, u i < 256) : ∀ i, pN u s i < 256 ^ i
  | 0 => Nat.zero_lt_one
  | i + 1 => by
    have h1 := pN_b (s := s) hu i
    have h2 := hu (s + i)
    rw [pN, Nat.pow_succ]
    omega
theorem pkN_eq {u : Nat → Nat} {s : Nat} (hu : ∀ i, u i < 256) : ∀ i, pk u s i = Int64.ofNat (pN u s i)
  | 0 => rfl
  | i + 1 => by
    rw [pk, pkN_eq hu i, pN, L_shl, L_of _ (hu _), L_or, show (256 : Nat) = 2 ^ 8 from rfl, ← Nat.two_pow_add_eq_or_of_lt (hu _)]
theorem dig_one {u v : Nat → Nat} {s r : Nat} : ∀ i j, (∀ k, k < i → 1 ≤ u (s + k) ∧ u (s + k) < 256) → (∀ k, k < j → 1 ≤ v (r + k) ∧ v (r + k) < 256) → pN u s i = pN v r j → i = j ∧ ∀ k, k < i → u (s + k) = v (r + k)
  | 0, 0, _, _, _ => ⟨rfl, fun k hk => by omega⟩
  | 0, j + 1, _, hv, h => by
    have := hv j (by omega)
    rw [pN, pN] at h
    omega
  | i + 1, 0, hu, _, h => by
    have := hu i (by omega)
    rw [pN, pN] at h
    omega
  | i + 1, j + 1, hu, hv, h => by
    have h1 := hu i (by omega)
    have h2 := hv j (by omega)
    rw [pN, pN] at h
    obtain ⟨e, f⟩ := dig_one i j (fun k hk => hu k (by omega)) (fun k hk => hv k (by omega)) (by omega)
    subst e
    refine ⟨rfl, fun k hk => ?_⟩
    by_cases ek : k = i
    · rw [ek]; omega
    · exact f k (by omega)
def cW (a : Nat) : Int64 := Int64.ofNat (pN (cyN a) 0 (lnN a))
theorem cW_0 : ∀ a, a < 17 → 1 ≤ a → a ≠ 6 → ¬ (0 : Int64) = cW a := by decide +kernel
theorem M_word {u : Nat → Nat} {n : Nat} {t : Tk} (hu : ∀ i, u i < 256) (gt : GT u n t) {a : Nat} (ha : a < 17) (h1 : 1 ≤ a) (h6 : a ≠ 6) : (lg_cmp (if t.1 = 1 ∧ t.2.2 - t.2.1 ≤ 8 then pk u t.2.1 (t.2.2 - t.2.1) else 0) (cW a) = 0) = (tw u t = a) := by
  obtain ⟨pos, gt⟩ := gt
  rw [lg0]
  apply propext
  have ln := lnN_b a (by omega)
  by_cases k1 : t.1 = 1
  · rw [← tw_iff k1 ha h1]
    by_cases l8 : t.2.2 - t.2.1 ≤ 8
    · rw [if_pos ⟨k1, l8⟩, pkN_eq hu]
      have sw := tokS_w gt k1
      have hL : ∀ k, k < t.2.2 - t.2.1 → 1 ≤ u (t.2.1 + k) ∧ u (t.2.1 + k) < 256 := fun k hk => by
        have := sw.2.2.1 (t.2.1 + k) (by omega) (by omega)
        unfold lt at this
        rw [decide_eq_true_eq] at this
        omega
      have hv : ∀ k, k < lnN a → 1 ≤ cyN a (0 + k) ∧ cyN a (0 + k) < 256 := fun k hk => by
        have q1 := chN_1 a (by omega) k (by omega) hk
        have q2 := chN_b a (by omega) k (by omega)
        rw [Nat.zero_add]; omega
      unfold isWb cW
      rw [decide_eq_true_eq]
      constructor
      · intro h
        have p1 := pN_b (s := t.2.1) hu (t.2.2 - t.2.1)
        have p2 : (256 : Nat) ^ (t.2.2 - t.2.1) ≤ 256 ^ 8 := Nat.pow_le_pow_right (by decide) l8
        have p4 : pN (cyN a) 0 (lnN a) < 18446744073709551616 := by
          have key : ∀ a, a < 17 → pN (cyN a) 0 (lnN a) < 18446744073709551616 := by decide +kernel
          exact key a ha
        obtain ⟨e, f⟩ := dig_one _ _ hL hv (L_inj (by omega) p4 h)
        exact ⟨e, fun i hi => by have := f i (by omega); rwa [Nat.zero_add] at this⟩
      · rintro ⟨e, f⟩
        rw [e]
        congr 1
        have key : ∀ i, i ≤ lnN a → pN u t.2.1 i = pN (cyN a) 0 i := by
          intro i
          induction i with
          | zero => intro _; rfl
          | succ i ih =>
            intro hi
            rw [pN, pN, ih (by omega), f i (by omega), Nat.zero_add]
        exact key _ (Nat.le_refl _)
    · rw [if_neg (fun q => l8 q.2)]
      constructor
      · intro q; exact absurd q (cW_0 a ha h1 h6)
      · intro q
        unfold isWb at q
        rw [decide_eq_true_eq] at q
        omega
  · rw [if_neg (fun q => k1 q.1), tw_0 k1]
    constructor
    · intro q; exact absurd q (cW_0 a ha h1 h6)
    · intro q; omega
theorem cw_1 : (1718578283 : Int64) = cW 1 := by decide +kernel
theorem cw_2 : (1751216740 : Int64) = cW 2 := by decide +kernel
theorem cw_3 : (427020088168 : Int64) = cW 3 := by decide +kernel
theorem cw_4 : (465625113971 : Int64) = cW 4 := by decide +kernel
theorem cw_5 : (1868657768 : Int64) = cW 5 := by decide +kernel
theorem cw_7 : (120325360869753 : Int64) = cW 7 := by decide +kernel
theorem cw_8 : (1953067621 : Int64) = cW 8 := by decide +kernel
theorem cw_9 : (1919251316 : Int64) = cW 9 := by decide +kernel
theorem cw_10 : (508575312244 : Int64) = cW 10 := by decide +kernel
theorem cw_11 : (427071730292 : Int64) = cW 11 := by decide +kernel
theorem cw_12 : (6518132 : Int64) = cW 12 := by decide +kernel
theorem cw_13 : (495924371826 : Int64) = cW 13 := by decide +kernel
theorem cw_14 : (2002873972 : Int64) = cW 14 := by decide +kernel
theorem cw_15 : (1801810036 : Int64) = cW 15 := by decide +kernel
theorem cw_16 : (422826699621 : Int64) = cW 16 := by decide +kernel
