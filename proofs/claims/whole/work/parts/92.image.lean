/-! L3: image and again -/
theorem byte_same {x : Int32} (h : fits .byte (.int x) = true) : vp_nar .byte x = x := by
  rw [vp_nar_byte]
  have hb : -128 ≤ x.toInt ∧ x.toInt < 128 := by
    simp only [fits, Bool.and_eq_true, decide_eq_true_eq] at h
    have h1 := Int32.le_iff_toInt_le.mp h.1
    have h2 := Int32.le_iff_toInt_le.mp h.2
    rw [show (-128 : Int32).toInt = -128 by decide] at h1
    rw [show (127 : Int32).toInt = 127 by decide] at h2
    omega
  apply Int32.toInt_inj.mp
  rw [Int8.toInt_toInt32, Int32.toInt_toInt8]
  have : x.toInt.bmod 256 = x.toInt := by
    rw [Int.bmod_def]
    split <;> omega
  exact this
/-- one array of the reference, a slot copied -/
theorem copy_row {S : Sk} {P w a b : Nat} {mm : Mm} (hw : 0 < w) (hw2 : w ≤ 322) (ha : a < 4) (hb : b < 4) (hab : a ≠ b) (hk : 4 * w ≤ (sK S P).2) (hk2 : (sK S P).2 < 10000) : ∃ m, m_X12_copyRow S P (nI w) (nI a) (nI b) mm = some m ∧ (∀ x, x < w → mI m P (w * b + x) = mI mm P (w * a + x)) ∧ ∀ p j, ¬ (p = P ∧ w * b ≤ j ∧ j < w * b + w) → mI m p j = mI mm p j := by
  have hA : w * a + w ≤ 4 * w := by
    have : w * (a + 1) ≤ w * 4 := Nat.mul_le_mul_left _ (by omega)
    rw [Nat.mul_add, Nat.mul_one] at this; omega
  have hB : w * b + w ≤ 4 * w := by
    have : w * (b + 1) ≤ w * 4 := Nat.mul_le_mul_left _ (by omega)
    rw [Nat.mul_add, Nat.mul_one] at this; omega
  have hD : w * a + w ≤ w * b ∨ w * b + w ≤ w * a := by
    rcases Nat.lt_or_gt_of_ne hab with q | q
    · left
      have : w * (a + 1) ≤ w * b := Nat.mul_le_mul_left _ q
      rw [Nat.mul_add, Nat.mul_one] at this; exact this
    · right
      have : w * (b + 1) ≤ w * a := Nat.mul_le_mul_left _ q
      rw [Nat.mul_add, Nat.mul_one] at this; exact this
  unfold m_X12_copyRow
  obtain ⟨m, e, g1, g2⟩ := loop_n (body := m_X12_copyRow_b3 P (nI w) (nI a) (nI b) S) (a := ((0 : Int32), mm)) (fun i z => ∃ m, z = (nI i, m) ∧ (∀ x, x < i → mI m P (w * b + x) = mI mm P (w * a + x)) ∧ ∀ p j, ¬ (p = P ∧ w * b ≤ j ∧ j < w * b + i) → mI m p j = mI mm p j) (fun m => (∀ x, x < w → mI m P (w * b + x) = mI mm P (w * a + x)) ∧ ∀ p j, ¬ (p = P ∧ w * b ≤ j ∧ j < w * b + w) → mI m p j = mI mm p j) w (FU_big (by omega)) ⟨mm, rfl, fun x hx => absurd hx (Nat.not_lt_zero x), fun _ _ _ => rfl⟩ (by
    rintro i z hi ⟨m, rfl, h1, h2⟩
    unfold m_X12_copyRow_b3
    simp (disch := omega) only [zz_0, zz_1, zz_2, zz_3, zz_4, zz_5, zz_6, zz_7, zz_8, zz_9, zz_10, zz_11, zz_12, zz_13, zz_14, zz_15, zz_16, zz_20, zz_24, zz_25, zz_26, zz_28, zz_31, zz_32, zz_36, zz_39, zz_40, zz_48, zz_49, zz_50, zz_57, zz_59, zz_60, zz_64, zz_72, zz_97, zz_99, zz_100, zz_122, zz_144, zz_161, zz_255, zz_256, zz_288, zz_322, zz_384, zz_400, zz_448, zz_600, zz_1280, zz_1000000, nI_add, n_mul, n_sub, fa_or, fa_and, fb_xorI, n_div, n_rem, n_le, n_lt, n_eq, n_shl1, n_shr, n_andn, n_ix, n_grd, n_gdz, n_gbz, n_hasM, n_hasC, b2_0, b2_1, n_m1, ob_s, bs_l, bs_r, n_max, n_min, n_grt, n_les]
    rw [if_neg (by omega)]
    refine ⟨_, rfl, _, rfl, fun x hx => ?_, fun p j hp => ?_⟩
    · rw [rdI_sm]
      by_cases e : x = i
      · rw [if_pos (by rw [e]), e]
        exact h2 P _ (by omega)
      · rw [if_neg (by omega)]; exact h1 x (by omega)
    · rw [rdI, if_neg (by omega)]
      exact h2 p j (by omega)) (by
    rintro z ⟨m, rfl, h1, h2⟩
    unfold m_X12_copyRow_b3
    simp (disch := omega) only [zz_0, zz_1, zz_2, zz_3, zz_4, zz_5, zz_6, zz_7, zz_8, zz_9, zz_10, zz_11, zz_12, zz_13, zz_14, zz_15, zz_16, zz_20, zz_24, zz_25, zz_26, zz_28, zz_31, zz_32, zz_36, zz_39, zz_40, zz_48, zz_49, zz_50, zz_57, zz_59, zz_60, zz_64, zz_72, zz_97, zz_99, zz_100, zz_122, zz_144, zz_161, zz_255, zz_256, zz_288, zz_322, zz_384, zz_400, zz_448, zz_600, zz_1280, zz_1000000, nI_add, n_mul, n_sub, fa_or, fa_and, fb_xorI, n_div, n_rem, n_le, n_lt, n_eq, n_shl1, n_shr, n_andn, n_ix, n_grd, n_gdz, n_gbz, n_hasM, n_hasC, b2_0, b2_1, n_m1, ob_s, bs_l, bs_r, n_max, n_min, n_grt, n_les]
    rw [if_pos (by omega)]
    exact ⟨_, rfl, h1, h2⟩)
  rw [e, ob_s]
  exact ⟨m, rfl, g1, g2⟩
theorem copy_tape {n a b : Nat} {mm : Mm} (ha : a < 4) (hb : b < 4) (hab : a ≠ b) (hn : n ≤ 600) (hf : ∀ i, i < n → fits .byte (.int (mI mm 45 (600 * a + i))) = true) : ∃ m, whileF FU (m_X12_copyAll_b2 (nI a) (nI b)) (0, mm) = some m ∧ (∀ x, x < n → mI m 45 (600 * b + x) = mI mm 45 (600 * a + x)) ∧ ∀ p j, ¬ (p = 45 ∧ 600 * b ≤ j ∧ j < 600 * b + 600) → mI m p j = mI mm p j := by
  refine loop_n (body := m_X12_copyAll_b2 (nI a) (nI b)) (fun i z => ∃ m, z = (nI i, m) ∧ (∀ x, x < i → x < n → mI m 45 (600 * b + x) = mI mm 45 (600 * a + x)) ∧ ∀ p j, ¬ (p = 45 ∧ 600 * b ≤ j ∧ j < 600 * b + i) → mI m p j = mI mm p j) _ 600 (FU_big (by omega)) ⟨mm, rfl, fun x hx => absurd hx (Nat.not_lt_zero x), fun _ _ _ => rfl⟩ ?_ ?_
  · rintro i z hi ⟨m, rfl, h1, h2⟩
    unfold m_X12_copyAll_b2
    simp (disch := omega) only [zz_0, zz_1, zz_2, zz_3, zz_4, zz_5, zz_6, zz_7, zz_8, zz_9, zz_10, zz_11, zz_12, zz_13, zz_14, zz_15, zz_16, zz_20, zz_24, zz_25, zz_26, zz_28, zz_31, zz_32, zz_36, zz_39, zz_40, zz_48, zz_49, zz_50, zz_57, zz_59, zz_60, zz_64, zz_72, zz_97, zz_99, zz_100, zz_122, zz_144, zz_161, zz_255, zz_256, zz_288, zz_322, zz_384, zz_400, zz_448, zz_600, zz_1280, zz_1000000, nI_add, n_mul, n_sub, fa_or, fa_and, fb_xorI, n_div, n_rem, n_le, n_lt, n_eq, n_shl1, n_shr, n_andn, n_ix, n_grd, n_gdz, n_gbz, n_hasM, n_hasC, b2_0, b2_1, n_m1, ob_s, bs_l, bs_r, n_max, n_min, n_grt, n_les]
    rw [if_neg (by omega)]
    refine ⟨_, rfl, _, rfl, fun x hx hxn => ?_, fun p j hp => ?_⟩
    · rw [rdI_sm]
      by_cases e : x = i
      · rw [if_pos (by rw [e]), e, h2 45 _ (by omega)]
        exact byte_same (hf i (by omega))
      · rw [if_neg (by omega)]; exact h1 x (by omega) hxn
    · rw [rdI, if_neg (by omega)]
      exact h2 p j (by omega)
  · rintro z ⟨m, rfl, h1, h2⟩
    unfold m_X12_copyAll_b2
    simp (disch := omega) only [zz_0, zz_1, zz_2, zz_3, zz_4, zz_5, zz_6, zz_7, zz_8, zz_9, zz_10, zz_11, zz_12, zz_13, zz_14, zz_15, zz_16, zz_20, zz_24, zz_25, zz_26, zz_28, zz_31, zz_32, zz_36, zz_39, zz_40, zz_48, zz_49, zz_50, zz_57, zz_59, zz_60, zz_64, zz_72, zz_97, zz_99, zz_100, zz_122, zz_144, zz_161, zz_255, zz_256, zz_288, zz_322, zz_384, zz_400, zz_448, zz_600, zz_1280, zz_1000000, nI_add, n_mul, n_sub, fa_or, fa_and, fb_xorI, n_div, n_rem, n_le, n_lt, n_eq, n_shl1, n_shr, n_andn, n_ix, n_grd, n_gdz, n_gbz, n_hasM, n_hasC, b2_0, b2_1, n_m1, ob_s, bs_l, bs_r, n_max, n_min, n_grt, n_les]
    rw [if_pos (by omega)]
    exact ⟨_, rfl, fun x hx => h1 x (by omega) hx, h2⟩
theorem MV_mv {W : Cn} {o o' : Nat} {m m' : Mm} (h : MV W o m) (e : ∀ x, x < 72 → mI m' 50 (o' + x) = mI m 50 (o + x)) : MV W o' m' := by
  obtain ⟨g0, g1, g2, g3, g4, g5, g6, g7, g8, g9⟩ := h
  refine ⟨?_, ?_, fun p hp => ?_, fun p hp => ?_, fun p hp => ?_, fun p hp => ?_, fun p hp => ?_, fun p hp => ?_, fun p hp => ?_, fun p hp => ?_⟩
  · have := e 0 (by decide); rw [Nat.add_zero, Nat.add_zero] at this; rw [this]; exact g0
  · rw [e _ (by decide)]; exact g1
  · rw [e _ (by omega)]; exact g2 p hp
  · rw [e _ (by omega)]; exact g3 p hp
  · rw [e _ (by omega)]; exact g4 p hp
  · rw [e _ (by omega)]; exact g5 p hp
  · rw [e _ (by omega)]; exact g6 p hp
  · rw [e _ (by omega)]; exact g7 p hp
  · rw [e _ (by omega)]; exact g8 p hp
  · rw [e _ (by omega)]; exact g9 p hp
theorem RM_mv {n : Nat} {z : Nat → Nat → Int32} {s o o' : Nat} {m m' : Mm} (h1 : 1 ≤ s) (h4 : s < 4) (hn : n ≤ rwm s) (h : RM n z s o m) (e : ∀ x, x < rwz s → mI m' (50 + s) (o' + x) = mI m (50 + s) (o + x)) : RM n z s o' m' := by
  obtain ⟨g0, g1⟩ := h
  have hz : 1 + rwn s * rwm s ≤ rwz s ∧ 0 < rwz s := by rcases (by omega : s = 1 ∨ s = 2 ∨ s = 3) with rfl | rfl | rfl <;> decide
  refine ⟨by have := e 0 hz.2; rw [Nat.add_zero, Nat.add_zero] at this; rw [this]; exact g0, fun j q hj hq => ?_⟩
  have hx : 1 + rwn s * j + q < rwz s := by
    have : rwn s * (j + 1) ≤ rwn s * rwm s := Nat.mul_le_mul_left _ (by omega)
    rw [Nat.mul_add, Nat.mul_one] at this
    omega
  have := e _ hx
  rw [show o' + 1 + rwn s * j + q = o' + (1 + rwn s * j + q) by omega, this, ← show o + 1 + rwn s * j + q = o + (1 + rwn s * j + q) by omega]
  exact g1 j q hj hq
theorem copy_M {S : Sk} (hL : Lay S) {T : Td} (wt : WT T) {a b : Nat} (ha : a < 4) (hb : b < 4) (hab : a ≠ b) {mm : Mm} (h : MT T a mm) (hf : ∀ i, i < tl T → fits .byte (.int (tp T i)) = true) : ∃ m, m_X12_copyAll S (nI a) (nI b) mm = some m ∧ MT T b m ∧ ∀ p j, ¬ (45 ≤ p ∧ p ≤ 53 ∧ j / Lp p = b) → mI m p j = mI mm p j := by
  have lk : ∀ p, p < 71 → sK S p = layL.getD p (0, 0) := hL.2.1
  obtain ⟨w1, w2, w3, w4⟩ := wt
  obtain ⟨m0, e0, x0, y0⟩ := copy_tape (mm := mm) ha hb hab w1 (fun i hi => by rw [h.2.1 i hi]; exact hf i hi)
  obtain ⟨m1, e1, x1, y1⟩ := copy_row (S := S) (P := 46) (w := 1) (mm := m0) (by decide) (by decide) ha hb hab (by rw [lk 46 (by decide)]; decide) (by rw [lk 46 (by decide)]; decide)
  obtain ⟨m2, e2, x2, y2⟩ := copy_row (S := S) (P := 47) (w := 1) (mm := m1) (by decide) (by decide) ha hb hab (by rw [lk 47 (by decide)]; decide) (by rw [lk 47 (by decide)]; decide)
  obtain ⟨m3, e3, x3, y3⟩ := copy_row (S := S) (P := 48) (w := 1) (mm := m2) (by decide) (by decide) ha hb hab (by rw [lk 48 (by decide)]; decide) (by rw [lk 48 (by decide)]; decide)
  obtain ⟨m4, e4, x4, y4⟩ := copy_row (S := S) (P := 49) (w := 4) (mm := m3) (by decide) (by decide) ha hb hab (by rw [lk 49 (by decide)]; decide) (by rw [lk 49 (by decide)]; decide)
  obtain ⟨m5, e5, x5, y5⟩ := copy_row (S := S) (P := 50) (w := 144) (mm := m4) (by decide) (by decide) ha hb hab (by rw [lk 50 (by decide)]; decide) (by rw [lk 50 (by decide)]; decide)
  obtain ⟨m6, e6, x6, y6⟩ := copy_row (S := S) (P := 51) (w := 322) (mm := m5) (by decide) (by decide) ha hb hab (by rw [lk 51 (by decide)]; decide) (by rw [lk 51 (by decide)]; decide)
  obtain ⟨m7, e7, x7, y7⟩ := copy_row (S := S) (P := 52) (w := 26) (mm := m6) (by decide) (by decide) ha hb hab (by rw [lk 52 (by decide)]; decide) (by rw [lk 52 (by decide)]; decide)
  obtain ⟨m8, e8, x8, y8⟩ := copy_row (S := S) (P := 53) (w := 50) (mm := m7) (by decide) (by decide) ha hb hab (by rw [lk 53 (by decide)]; decide) (by rw [lk 53 (by decide)]; decide)
  have dv : ∀ w j b : Nat, 0 < w → ¬ j / w = b → ¬ (w * b ≤ j ∧ j < w * b + w) := fun w j b hw hj q => hj (Nat.div_eq_of_lt_le (by rw [Nat.mul_comm]; exact q.1) (by rw [Nat.add_mul, Nat.one_mul, Nat.mul_comm]; exact q.2))
  have fr : ∀ p j, ¬ (45 ≤ p ∧ p ≤ 53 ∧ j / Lp p = b) → mI m8 p j = mI mm p j := fun p j hp => by
    have D : ∀ P w, Lp P = w → 0 < w → 45 ≤ P → P ≤ 53 → ¬ (p = P ∧ w * b ≤ j ∧ j < w * b + w) := fun P w hw h0 h1 h2 q => by
      obtain ⟨rfl, q⟩ := q
      exact dv w j b h0 (fun z => hp ⟨h1, h2, by rw [hw]; exact z⟩) q
    rw [y8 p j (D 53 50 rfl (by decide) (by decide) (by decide)), y7 p j (D 52 26 rfl (by decide) (by decide) (by decide)), y6 p j (D 51 322 rfl (by decide) (by decide) (by decide)), y5 p j (D 50 144 rfl (by decide) (by decide) (by decide)), y4 p j (D 49 4 rfl (by decide) (by decide) (by decide)), y3 p j (D 48 1 rfl (by decide) (by decide) (by decide)), y2 p j (D 47 1 rfl (by decide) (by decide) (by decide)), y1 p j (D 46 1 rfl (by decide) (by decide) (by decide)), y0 p j (D 45 600 rfl (by decide) (by decide) (by decide))]
  obtain ⟨h1, h2, h3, h4, h5, h6, h7⟩ := h
  refine ⟨m8, ?_, ⟨?_, fun i hi => ?_, ?_, ?_, fun s hs => ?_, fun i hi => ?_, fun s i h0 hs hi => ?_⟩, fr⟩
  · unfold m_X12_copyAll
    rw [e0, ob_s]
    rw [show (1 : Int32) = nI 1 from rfl, e1, ob_s, e2, ob_s, e3, ob_s, show (4 : Int32) = nI 4 from rfl, e4, ob_s, show (144 : Int32) = nI 144 from rfl, e5, ob_s, show (322 : Int32) = nI 322 from rfl, e6, ob_s, show (26 : Int32) = nI 26 from rfl, e7, ob_s, show (50 : Int32) = nI 50 from rfl, e8, ob_s]
  · have := x1 0 (by decide)
    rw [Nat.add_zero, Nat.add_zero, Nat.one_mul, Nat.one_mul] at this
    rw [y8 _ _ (by omega), y7 _ _ (by omega), y6 _ _ (by omega), y5 _ _ (by omega), y4 _ _ (by omega), y3 _ _ (by omega), y2 _ _ (by omega), this, y0 _ _ (by omega), h1]
  · rw [y8 _ _ (by omega), y7 _ _ (by omega), y6 _ _ (by omega), y5 _ _ (by omega), y4 _ _ (by omega), y3 _ _ (by omega), y2 _ _ (by omega), y1 _ _ (by omega), x0 i hi, h2 i hi]
  · have := x2 0 (by decide)
    rw [Nat.add_zero, Nat.add_zero, Nat.one_mul, Nat.one_mul] at this
    rw [y8 _ _ (by omega), y7 _ _ (by omega), y6 _ _ (by omega), y5 _ _ (by omega), y4 _ _ (by omega), y3 _ _ (by omega), this, y1 _ _ (by omega), y0 _ _ (by omega), h3]
  · have := x3 0 (by decide)
    rw [Nat.add_zero, Nat.add_zero, Nat.one_mul, Nat.one_mul] at this
    rw [y8 _ _ (by omega), y7 _ _ (by omega), y6 _ _ (by omega), y5 _ _ (by omega), y4 _ _ (by omega), this, y2 _ _ (by omega), y1 _ _ (by omega), y0 _ _ (by omega), h4]
  · rw [y8 _ _ (by omega), y7 _ _ (by omega), y6 _ _ (by omega), y5 _ _ (by omega), x4 s hs, y3 _ _ (by omega), y2 _ _ (by omega), y1 _ _ (by omega), y0 _ _ (by omega), h5 s hs]
  · have hi2 := w2 0 (by decide)
    have key : ∀ x, x < 72 → mI m8 50 (144 * b + 72 * i + x) = mI mm 50 (144 * a + 72 * i + x) := fun x hx => by
      have := x5 (72 * i + x) (by omega)
      rw [← Nat.add_assoc, ← Nat.add_assoc] at this
      rw [y8 _ _ (by omega), y7 _ _ (by omega), y6 _ _ (by omega), this, y4 _ _ (by omega), y3 _ _ (by omega), y2 _ _ (by omega), y1 _ _ (by omega), y0 _ _ (by omega)]
    exact MV_mv (h6 i hi) key
  · have hi2 := w2 s hs
    have hrm := (w4 s i h0 hs hi).1
    refine RM_mv h0 hs hrm (h7 s i h0 hs hi) (fun x hx => ?_)
    rcases (by omega : s = 1 ∨ s = 2 ∨ s = 3) with rfl | rfl | rfl
    · have hx' : x < 161 := hx
      show mI m8 51 (2 * 161 * b + 161 * i + x) = mI mm 51 (2 * 161 * a + 161 * i + x)
      have := x6 (161 * i + x) (by omega)
      rw [← Nat.add_assoc, ← Nat.add_assoc] at this
      rw [show 2 * 161 * b = 322 * b by omega, show 2 * 161 * a = 322 * a by omega, y8 _ _ (by omega), y7 _ _ (by omega), this, y5 _ _ (by omega), y4 _ _ (by omega), y3 _ _ (by omega), y2 _ _ (by omega), y1 _ _ (by omega), y0 _ _ (by omega)]
    · have hx' : x < 13 := hx
      show mI m8 52 (2 * 13 * b + 13 * i + x) = mI mm 52 (2 * 13 * a + 13 * i + x)
      have := x7 (13 * i + x) (by omega)
      rw [← Nat.add_assoc, ← Nat.add_assoc] at this
      rw [show 2 * 13 * b = 26 * b by omega, show 2 * 13 * a = 26 * a by omega, y8 _ _ (by omega), this, y6 _ _ (by omega), y5 _ _ (by omega), y4 _ _ (by omega), y3 _ _ (by omega), y2 _ _ (by omega), y1 _ _ (by omega), y0 _ _ (by omega)]
    · have hx' : x < 25 := hx
      show mI m8 53 (2 * 25 * b + 25 * i + x) = mI mm 53 (2 * 25 * a + 25 * i + x)
      have := x8 (25 * i + x) (by omega)
      rw [← Nat.add_assoc, ← Nat.add_assoc] at this
      rw [show 2 * 25 * b = 50 * b by omega, show 2 * 25 * a = 50 * a by omega, this, y7 _ _ (by omega), y6 _ _ (by omega), y5 _ _ (by omega), y4 _ _ (by omega), y3 _ _ (by omega), y2 _ _ (by omega), y1 _ _ (by omega), y0 _ _ (by omega)]
/-! the class copies a told state -/
theorem SI_p {S : Sk} {p i : Nat} {o : Option Nat} (h : SI S) (hp : ∀ q ∈ layR, q.1 ≠ p) (hk : (sK S p).1 ≠ 2 ∧ (sK S p).1 ≠ 6 ∧ (sK S p).1 ≠ 9) : SI (sRs S p i o) := SI_s h (by
  rw [List.all_eq_true]
  intro q hq
  have := hp q hq
  simp [this]) hk
theorem lay_hi {p : Nat} (h : p = 4 ∨ p = 5 ∨ p = 6 ∨ 71 ≤ p) : ∀ q ∈ layR, q.1 ≠ p := fun q hq => by
  have key : layR.all (fun q => decide (q.1 ≠ 4 ∧ q.1 ≠ 5 ∧ q.1 ≠ 6 ∧ q.1 < 71)) = true := by decide
  have := List.all_eq_true.mp key q hq
  rw [decide_eq_true_eq] at this
  omega
theorem sep_C {S : Sk} (hS : SI S) {a d : Nat} (ka : KD S a 9) (kd' : KD S d 2) {x : Nat} (hx : x ≤ 8) : d + x ≠ a ∧ d + x ≠ a + 1 ∧ d + x ≠ a + 2 ∧ d + x ≠ a + 3 ∧ d + x ≠ a + 4 := by
  obtain ⟨a1, a2, a3, a4⟩ := hS.2.2.2 a ka
  have k0 := ka.2
  have k1 : (sK S (a + 1)).1 = 21 := by rw [a1.2.2]
  have k2 : (sK S (a + 2)).1 = 20 := by rw [a2.2.2]
  have k3 : (sK S (a + 3)).1 = 23 := by rw [a3.2.2]
  have k4 : (sK S (a + 4)).1 = 24 := by rw [a4.2.2]
  have d0 := kd'.2
  have dx : ∀ y, y < 8 → (sK S (d + 1 + y)).1 = 20 := fun y hy => by rw [(hS.2.1 d kd' y hy).2.2]
  by_cases x0 : x = 0
  · subst x0
    rw [Nat.add_zero]
    refine ⟨?_, ?_, ?_, ?_, ?_⟩ <;> (intro e; rw [e] at d0; omega)
  · obtain ⟨y, rfl⟩ : ∃ y, x = y + 1 := ⟨x - 1, by omega⟩
    have dy := dx y (by omega)
    rw [show d + (y + 1) = d + 1 + y by omega]
    refine ⟨?_, ?_, ?_, ?_, ?_⟩
    · intro e; rw [e] at dy; omega
    · intro e; rw [e] at dy; omega
    · intro e
      rcases (by omega : y = 0 ∨ y = 1 ∨ 2 ≤ y) with rfl | rfl | hy
      · rw [show d = a + 1 by omega] at d0; omega
      · rw [show d = a by omega] at d0; omega
      · have := dx (y - 2) (by omega)
        rw [show d + 1 + (y - 2) = a by omega] at this; omega
    · intro e; rw [e] at dy; omega
    · intro e; rw [e] at dy; omega
theorem sep_R {S : Sk} (hS : SI S) {a d : Nat} (ka : KD S a 9) (kd' : KD S d 6) {x : Nat} (hx : x ≤ 1) : d + x ≠ a ∧ d + x ≠ a + 1 ∧ d + x ≠ a + 2 ∧ d + x ≠ a + 3 ∧ d + x ≠ a + 4 := by
  obtain ⟨a1, a2, a3, a4⟩ := hS.2.2.2 a ka
  have k0 := ka.2
  have k1 : (sK S (a + 1)).1 = 21 := by rw [a1.2.2]
  have k2 : (sK S (a + 2)).1 = 20 := by rw [a2.2.2]
  have k3 : (sK S (a + 3)).1 = 23 := by rw [a3.2.2]
  have k4 : (sK S (a + 4)).1 = 24 := by rw [a4.2.2]
  have d0 := kd'.2
  have dx : (sK S (d + 1)).1 = 20 := (hS.2.2.1 d kd').2.2
  rcases (by omega : x = 0 ∨ x = 1) with rfl | rfl
  · rw [Nat.add_zero]
    refine ⟨?_, ?_, ?_, ?_, ?_⟩ <;> (intro e; rw [e] at d0; omega)
  · refine ⟨?_, ?_, ?_, ?_, ?_⟩
    · intro e; rw [e] at dx; omega
    · intro e; rw [e] at dx; omega
    · intro e; rw [show d = a + 1 by omega] at d0; omega
    · intro e; rw [e] at dx; omega
    · intro e; rw [e] at dx; omega
theorem kind9 {S : Sk} (hS : SI S) {a : Nat} (ka : KD S a 9) : ∀ y, y ≤ 4 → (sK S (a + y)).1 = [9, 21, 20, 23, 24].getD y 0 ∧ a + y < sN S := fun y hy => by
  obtain ⟨a1, a2, a3, a4⟩ := hS.2.2.2 a ka
  rcases (by omega : y = 0 ∨ y = 1 ∨ y = 2 ∨ y = 3 ∨ y = 4) with rfl | rfl | rfl | rfl | rfl
  · exact ⟨ka.2, ka.1⟩
  · exact ⟨by rw [a1.2.2]; rfl, a1.2.1⟩
  · exact ⟨by rw [a2.2.2]; rfl, a2.2.1⟩
  · exact ⟨by rw [a3.2.2]; rfl, a3.2.1⟩
  · exact ⟨by rw [a4.2.2]; rfl, a4.2.1⟩
theorem sep_T {S : Sk} (hS : SI S) {a d : Nat} (ka : KD S a 9) (kd' : KD S d 9) (ne : a ≠ d) {x y : Nat} (hx : x ≤ 4) (hy : y ≤ 4) : d + x ≠ a + y := by
  intro e
  have h1 := (kind9 hS ka y hy).1
  have h2 := (kind9 hS kd' x hx).1
  rw [e] at h2
  have h3 := h1.symm.trans h2
  have key : ∀ y, y ≤ 4 → ∀ x, x ≤ 4 → [9, 21, 20, 23, 24].getD y 0 = [9, 21, 20, 23, 24].getD x 0 → y = x := by decide
  have := key y hy x hx h3
  omega
/-- the memory behind a copy of the told state at b into that at a -/
def cpT (a b n : Nat) (m : Mm) : Mm := cpM (sI (sI (sI (cpM m (b + 1) 0 (a + 1) 0 n) a 1 (nI n)) a 2 (mI m b 2)) a 3 (mI m b 3)) (b + 2) 0 (a + 2) 0 4
/-- the references behind it -/
def cpR (S S' : Sk) (a b : Nat) (i k : Nat) : Prop := sN S' = sN S ∧ sW S' = sW S ∧ (∀ p, sK S' p = sK S p) ∧ SI S' ∧ ∀ p j, sR S' p j = if p = a + 3 ∧ j < i then sR S (b + 3) j else if p = a + 4 ∧ j < k then sR S (b + 4) j else sR S p j
theorem SI_9 {S : Sk} (h : SI S) {a : Nat} (ka : KD S a 9) {x : Nat} (hx : x = 3 ∨ x = 4) (j : Nat) (o : Option Nat) : SI (sRs S (a + x) j o) := by
  have h1 := (kind9 h ka x (by omega)).1
  have h2 := kd9 h.1 ka
  refine SI_p h (lay_hi (by omega)) ?_
  rw [h1]
  rcases hx with rfl | rfl <;> decide
theorem copy_R {S : Sk} (hS : SI S) (hRF : RF S) {a b : Nat} (ka : KD S a 9) (kb : KD S b 9) (ne : a ≠ b) : ∃ S', cpR S S' a b 2 8 ∧ (whileF FU (m_X9_copyOf_b57 b a) (0, S)).bind (fun p4 => whileF FU (m_X9_copyOf_b86 b a) (0, p4)) = some S' := by
  obtain ⟨S1, e1, h1⟩ := loop_n (body := m_X9_copyOf_b57 b a) (a := ((0 : Int32), S)) (fun i z => ∃ S1, z = (nI i, S1) ∧ cpR S S1 a b i 0) (fun S1 => cpR S S1 a b 2 0) 2 (FU_big (by decide)) ⟨S, rfl, rfl, rfl, fun _ => rfl, hS, fun p j => by rw [if_neg (by omega), if_neg (by omega)]⟩ (by
    rintro i z hi ⟨S1, rfl, g1, g2, g3, g4, g5⟩
    have ka1 : KD S1 a 9 := ⟨by rw [g1]; exact ka.1, by rw [g3]; exact ka.2⟩
    have kb1 : KD S1 b 9 := ⟨by rw [g1]; exact kb.1, by rw [g3]; exact kb.2⟩
    have rb : sR S1 (b + 3) i = sR S (b + 3) i := by
      rw [g5, if_neg (fun q => sep_T hS ka kb ne (x := 3) (y := 3) (by decide) (by decide) q.1), if_neg (by omega)]
    unfold m_X9_copyOf_b57
    rw [gk_pos ka1, gP_pos g4]
    simp (disch := omega) only [zz_0, zz_1, zz_2, zz_3, zz_4, zz_5, zz_6, zz_7, zz_8, zz_9, zz_10, zz_11, zz_12, zz_13, zz_14, zz_15, zz_16, zz_20, zz_24, zz_25, zz_26, zz_28, zz_31, zz_32, zz_36, zz_39, zz_40, zz_48, zz_49, zz_50, zz_57, zz_59, zz_60, zz_64, zz_72, zz_97, zz_99, zz_100, zz_122, zz_144, zz_161, zz_255, zz_256, zz_288, zz_322, zz_384, zz_400, zz_448, zz_600, zz_1280, zz_1000000, nI_add, n_mul, n_sub, fa_or, fa_and, fb_xorI, n_div, n_rem, n_le, n_lt, n_eq, n_shl1, n_shr, n_andn, n_ix, n_grd, n_gdz, n_gbz, n_hasM, n_hasC, b2_0, b2_1, n_m1, ob_s, bs_l, bs_r, n_max, n_min, n_grt, n_les]
    rw [if_neg (by omega), gk_pos kb1, gP_pos (fun v hv => by
      rw [rb] at hv
      have := (hRF b kb).1 i v hi hv
      exact ⟨by rw [g1]; exact this.1, by rw [g3]; exact this.2⟩)]
    refine ⟨_, rfl, _, rfl, g1, g2, g3, SI_9 g4 ka1 (Or.inl rfl) _ _, fun p j => ?_⟩
    rw [rdR, rb, g5]
    by_cases q : p = a + 3 ∧ j = i
    · rw [if_pos q, if_pos ⟨q.1, by omega⟩, q.2]
    · rw [if_neg q]
      by_cases q2 : p = a + 3 ∧ j < i
      · rw [if_pos q2, if_pos ⟨q2.1, by omega⟩]
      · rw [if_neg q2, if_neg (show ¬ (p = a + 3 ∧ j < i + 1) from fun q3 => by omega)]) (by
    rintro z ⟨S1, rfl, g⟩
    have ka1 : KD S1 a 9 := ⟨by rw [g.1]; exact ka.1, by rw [g.2.2.1]; exact ka.2⟩
    unfold m_X9_copyOf_b57
    rw [gk_pos ka1, gP_pos g.2.2.2.1]
    simp (disch := omega) only [zz_0, zz_1, zz_2, zz_3, zz_4, zz_5, zz_6, zz_7, zz_8, zz_9, zz_10, zz_11, zz_12, zz_13, zz_14, zz_15, zz_16, zz_20, zz_24, zz_25, zz_26, zz_28, zz_31, zz_32, zz_36, zz_39, zz_40, zz_48, zz_49, zz_50, zz_57, zz_59, zz_60, zz_64, zz_72, zz_97, zz_99, zz_100, zz_122, zz_144, zz_161, zz_255, zz_256, zz_288, zz_322, zz_384, zz_400, zz_448, zz_600, zz_1280, zz_1000000, nI_add, n_mul, n_sub, fa_or, fa_and, fb_xorI, n_div, n_rem, n_le, n_lt, n_eq, n_shl1, n_shr, n_andn, n_ix, n_grd, n_gdz, n_gbz, n_hasM, n_hasC, b2_0, b2_1, n_m1, ob_s, bs_l, bs_r, n_max, n_min, n_grt, n_les]
    rw [if_pos (by omega)]
    exact ⟨_, rfl, g⟩)
  obtain ⟨S2, e2, h2⟩ := loop_n (body := m_X9_copyOf_b86 b a) (a := ((0 : Int32), S1)) (fun i z => ∃ S1, z = (nI i, S1) ∧ cpR S S1 a b 2 i) (fun S1 => cpR S S1 a b 2 8) 8 (FU_big (by decide)) ⟨S1, rfl, h1⟩ (by
    rintro i z hi ⟨S1, rfl, g1, g2, g3, g4, g5⟩
    have ka1 : KD S1 a 9 := ⟨by rw [g1]; exact ka.1, by rw [g3]; exact ka.2⟩
    have kb1 : KD S1 b 9 := ⟨by rw [g1]; exact kb.1, by rw [g3]; exact kb.2⟩
    have rb : sR S1 (b + 4) i = sR S (b + 4) i := by
      rw [g5, if_neg (fun q => sep_T hS ka kb ne (x := 4) (y := 3) (by decide) (by decide) q.1), if_neg (fun q => sep_T hS ka kb ne (x := 4) (y := 4) (by decide) (by decide) q.1)]
    unfold m_X9_copyOf_b86
    rw [gk_pos ka1, gP_pos g4]
    simp (disch := omega) only [zz_0, zz_1, zz_2, zz_3, zz_4, zz_5, zz_6, zz_7, zz_8, zz_9, zz_10, zz_11, zz_12, zz_13, zz_14, zz_15, zz_16, zz_20, zz_24, zz_25, zz_26, zz_28, zz_31, zz_32, zz_36, zz_39, zz_40, zz_48, zz_49, zz_50, zz_57, zz_59, zz_60, zz_64, zz_72, zz_97, zz_99, zz_100, zz_122, zz_144, zz_161, zz_255, zz_256, zz_288, zz_322, zz_384, zz_400, zz_448, zz_600, zz_1280, zz_1000000, nI_add, n_mul, n_sub, fa_or, fa_and, fb_xorI, n_div, n_rem, n_le, n_lt, n_eq, n_shl1, n_shr, n_andn, n_ix, n_grd, n_gdz, n_gbz, n_hasM, n_hasC, b2_0, b2_1, n_m1, ob_s, bs_l, bs_r, n_max, n_min, n_grt, n_les]
    rw [if_neg (by omega), gk_pos kb1, gP_pos (fun v hv => by
      rw [rb] at hv
      have := (hRF b kb).2 i v hi hv
      exact ⟨by rw [g1]; exact this.1, by rw [g3]; exact this.2⟩)]
    refine ⟨_, rfl, _, rfl, g1, g2, g3, SI_9 g4 ka1 (Or.inr rfl) _ _, fun p j => ?_⟩
    rw [rdR, rb, g5]
    by_cases q : p = a + 4 ∧ j = i
    · rw [if_pos q, if_neg (by omega), if_pos ⟨q.1, by omega⟩, q.2]
    · rw [if_neg q]
      by_cases q1 : p = a + 3 ∧ j < 2
      · rw [if_pos q1, if_pos q1]
      · rw [if_neg q1, if_neg q1]
        by_cases q2 : p = a + 4 ∧ j < i
        · rw [if_pos q2, if_pos ⟨q2.1, by omega⟩]
        · rw [if_neg q2, if_neg (fun q3 => by omega)]) (by
    rintro z ⟨S1, rfl, g⟩
    have ka1 : KD S1 a 9 := ⟨by rw [g.1]; exact ka.1, by rw [g.2.2.1]; exact ka.2⟩
    unfold m_X9_copyOf_b86
    rw [gk_pos ka1, gP_pos g.2.2.2.1]
    simp (disch := omega) only [zz_0, zz_1, zz_2, zz_3, zz_4, zz_5, zz_6, zz_7, zz_8, zz_9, zz_10, zz_11, zz_12, zz_13, zz_14, zz_15, zz_16, zz_20, zz_24, zz_25, zz_26, zz_28, zz_31, zz_32, zz_36, zz_39, zz_40, zz_48, zz_49, zz_50, zz_57, zz_59, zz_60, zz_64, zz_72, zz_97, zz_99, zz_100, zz_122, zz_144, zz_161, zz_255, zz_256, zz_288, zz_322, zz_384, zz_400, zz_448, zz_600, zz_1280, zz_1000000, nI_add, n_mul, n_sub, fa_or, fa_and, fb_xorI, n_div, n_rem, n_le, n_lt, n_eq, n_shl1, n_shr, n_andn, n_ix, n_grd, n_gdz, n_gbz, n_hasM, n_hasC, b2_0, b2_1, n_m1, ob_s, bs_l, bs_r, n_max, n_min, n_grt, n_les]
    rw [if_pos (by omega)]
    exact ⟨_, rfl, g⟩)
  exact ⟨S2, h2, by rw [e1, ob_s, e2]⟩
theorem copy_C {S : Sk} (hS : SI S) (hRF : RF S) {a b : Nat} (ka : KD S a 9) (kb : KD S b 9) (ne : a ≠ b) {T : Td} (wt : WT T) {mm : Mm} (h : CT T b S mm) : ∃ S' m, m_X9_copyOf S a b mm = some (S', m) ∧ cpR S S' a b 2 8 ∧ CT T a S' m ∧ RF S' ∧ ∀ p j, p ≠ a → p ≠ a + 1 → p ≠ a + 2 → mI m p j = mI mm p j := by
  obtain ⟨S', hR, eR⟩ := copy_R hS hRF ka kb ne
  obtain ⟨w1, w2, w3, w4⟩ := wt
  obtain ⟨h1, h2, h3, h4, h5, h6, h7⟩ := h
  have s := fun x y hx hy => sep_T hS ka kb ne (x := x) (y := y) hx hy
  have fr : ∀ p j, p ≠ a → p ≠ a + 1 → p ≠ a + 2 → mI (cpT a b (tl T) mm) p j = mI mm p j := fun p j q0 q1 q2 => by
    unfold cpT
    rw [rdCpN _ q2, rdI_ne _ _ _ _ q0, rdI_ne _ _ _ _ q0, rdI_ne _ _ _ _ q0, rdCpN _ q1]
  have b0 : ∀ j, mI (cpM mm (b + 1) 0 (a + 1) 0 (tl T)) b j = mI mm b j := fun j => rdCpN _ (s 0 1 (by decide) (by decide))
  have nb : b ≠ a := fun q => ne q.symm
  refine ⟨S', cpT a b (tl T) mm, ?_, hR, ⟨?_, fun i hi => ⟨?_, (h2 i hi).2⟩, ?_, ?_, fun x hx => ?_, fun i hi => ?_, fun x i g0 hx hi => ?_⟩, fun c hc => ?_, fr⟩
  · unfold m_X9_copyOf
    rw [h1, ix0, n_ix (by omega), gP_pos, gP_pos]
    · simp only [b0, h1, rdI_ne _ _ _ _ nb]
      have e1 : ∀ (f : Sk → Option Sk) (x : Option Sk) (m : Mm), x.bind (fun p4 => (f p4).bind (fun p17 => some (p17, m))) = (x.bind f).bind (fun p17 => some (p17, m)) := fun f x m => by cases x <;> rfl
      rw [e1 (fun p4 => whileF FU (m_X9_copyOf_b86 b a) (0, p4)), eR, ob_s]
      rfl
    · exact ⟨by decide, by decide, by decide, by decide, by decide, fun i _ => rfl⟩
    · refine ⟨by decide, by decide, ?_, ?_, ?_, fun i hi => ?_⟩
      · rw [show (0 : Int32) = nI 0 from rfl, n_lt (by omega) (by decide)]; omega
      · rw [ix0, n_ix (by omega)]; omega
      · rw [ix0, n_ix (by omega)]; omega
      · rw [n_ix (by omega)] at hi
        rw [ix0, Nat.zero_add]
        show fits .byte (.int (mI mm (b + 1) i)) = true
        rw [(h2 i hi).1]
        exact (h2 i hi).2
  · unfold cpT
    rw [rdCpN _ (by omega), rdI_nj _ _ _ _ (by decide), rdI_nj _ _ _ _ (by decide), rdI_eq]
  · unfold cpT
    rw [rdCpN _ (by omega), rdI_ne _ _ _ _ (by omega), rdI_ne _ _ _ _ (by omega), rdI_ne _ _ _ _ (by omega), rdCpY hi]
    exact (h2 i hi).1
  · unfold cpT
    rw [rdCpN _ (by omega), rdI_nj _ _ _ _ (by decide), rdI_eq, h3]
  · unfold cpT
    rw [rdCpN _ (by omega), rdI_eq, h4]
  · unfold cpT
    have s20 : b + 2 ≠ a := s 2 0 (by decide) (by decide)
    rw [rdCpY hx, rdI_ne _ _ _ _ s20, rdI_ne _ _ _ _ s20, rdI_ne _ _ _ _ s20, rdCpN _ (s 2 1 (by decide) (by decide)), h5 x hx]
  · have i2 := w2 0 (by decide)
    obtain ⟨c, hc, hr, hk, hv⟩ := h6 i hi
    refine ⟨c, hc, by rw [hR.2.2.2.2, if_pos ⟨rfl, by omega⟩]; exact hr, ⟨by rw [hR.1]; exact hk.1, by rw [hR.2.2.1]; exact hk.2⟩, ?_⟩
    have e : ∀ x j, x ≤ 8 → mI (cpT a b (tl T) mm) (c + x) j = mI mm (c + x) j := fun x j hx => by
      have := sep_C hS ka hk hx
      exact fr _ _ this.1 this.2.1 this.2.2.1
    have e0 : ∀ j, mI (cpT a b (tl T) mm) c j = mI mm c j := fun j => e 0 j (by decide)
    unfold VO at hv ⊢
    simp (disch := omega) only [e, e0]
    exact hv
  · have i2 := w2 x hx
    obtain ⟨c, hc, hr, hk, k2, k3, k4⟩ := h7 x i g0 hx hi
    have e : ∀ x j, x ≤ 1 → mI (cpT a b (tl T) mm) (c + x) j = mI mm (c + x) j := fun x j hx => by
      have := sep_R hS ka hk hx
      exact fr _ _ this.1 this.2.1 this.2.2.1
    refine ⟨c, hc, by rw [hR.2.2.2.2, if_neg (by omega), if_pos ⟨rfl, by omega⟩]; exact hr, ⟨by rw [hR.1]; exact hk.1, by rw [hR.2.2.1]; exact hk.2⟩, by rw [hR.2.2.1]; exact k2, by rw [show mI (cpT a b (tl T) mm) c 1 = mI mm c 1 from e 0 1 (by decide)]; exact k3, fun j q hj hq => by rw [e 1 _ (by decide)]; exact k4 j q hj hq⟩
  · have hc' : KD S c 9 := ⟨by rw [← hR.1]; exact hc.1, by rw [← hR.2.2.1]; exact hc.2⟩
    have up : ∀ v k, KD S v k → KD S' v k := fun v k hv => ⟨by rw [hR.1]; exact hv.1, by rw [hR.2.2.1]; exact hv.2⟩
    refine ⟨fun i v hi hv => up v 2 ?_, fun i v hi hv => up v 6 ?_⟩
    · rw [hR.2.2.2.2] at hv
      by_cases q : c + 3 = a + 3 ∧ i < 2
      · rw [if_pos q] at hv; exact (hRF b kb).1 i v hi hv
      · rw [if_neg q] at hv
        by_cases ec : c = a
        · rw [if_neg (by omega)] at hv; exact (hRF c hc').1 i v hi hv
        · rw [if_neg (fun q => sep_T hS ka hc' (fun z => ec z.symm) (x := 3) (y := 4) (by decide) (by decide) q.1)] at hv; exact (hRF c hc').1 i v hi hv
    · rw [hR.2.2.2.2] at hv
      rw [if_neg (fun q => by
        by_cases ec : c = a
        · omega
        · exact sep_T hS ka hc' (fun z => ec z.symm) (x := 4) (y := 3) (by decide) (by decide) q.1)] at hv
      by_cases q : c + 4 = a + 4 ∧ i < 8
      · rw [if_pos q] at hv; exact (hRF b kb).2 i v hi hv
      · rw [if_neg q] at hv; exact (hRF c hc').2 i v hi hv
