/-! L3: chance -/
theorem n_dec {t : Nat} (h : 0 < t) : nI t + m1 = nI (t - 1) := by
  have e : m1 = -(nI 1) := n_m1.symm
  rw [e, ← Int32.sub_eq_add_neg, n_sub h]
theorem n_pm1 (x : Int32) : x + m1 = x - nI 1 := by
  have e : m1 = -(nI 1) := n_m1.symm
  rw [e, ← Int32.sub_eq_add_neg]
/-- in how many of 10 ^ v ways k of v visits take -/
def wy (p : Nat) : Nat → Nat → Nat
  | 0, k => if k = 0 then 1 else 0
  | v + 1, k => wy p v k * (10 - p) + (if k = 0 then 0 else wy p v (k - 1) * p)
def gdC (p n d : Nat) : Nat := fo (fun k s => s + wy p n (d + k)) 0 (7 - d)
def bw (n : Nat) : Nat → Nat
  | 0 => 1
  | k + 1 => bw n k * (n - k) / (k + 1)
def gdM (p n d : Nat) : Nat := fo (fun k s => s + if k < d then 0 else bw n k * p ^ k * (10 - p) ^ (n - k)) 0 (n + 1)
theorem bw_b : ∀ n, n < 7 → ∀ k, k < 8 → bw n k ≤ 20 := by decide +kernel
theorem cmp0 : ∀ h, h < 10 → ∀ r, r < 21 → xmax (nI h - nI r) (nI 0) = nI (h - r) := by decide +kernel
theorem cmp1 : ∀ k, k < 8 → ∀ h, h < 10 → ∀ r, r < 21 → (nI k < nI h - nI r ↔ k < h - r) := by decide +kernel
theorem chn0 : ∀ p, p < 11 → ∀ n, n < 7 → ∀ d, d < 10 → gdC p n d = gdM p n d ∧ gdC p n d ≤ 1000000 := by decide +kernel
theorem chn1 : ∀ p, p < 11 → ∀ n, n < 7 → ∀ d, d < 10 → m_X11_commonDivisor (nI (10 ^ n)) (nI (gdC p n d)) = some (nI (Nat.gcd (10 ^ n) (gdC p n d))) := by decide +kernel
theorem chn2 : ∀ p, p < 11 → ∀ n, n < 7 → ∀ d, d < 10 → m_X12_common (nI (10 ^ n)) (nI (gdC p n d)) = some (nI (Nat.gcd (10 ^ n) (gdC p n d))) := by decide +kernel
theorem ten_b {n : Nat} (h : n < 7) : 10 ^ n ≤ 1000000 := by
  have := Nat.pow_le_pow_right (n := 10) (by decide) (show n ≤ 6 by omega)
  exact this
theorem C_weigh {mm : Mm} {h r p n : Nat} (hh : h < 10) (hr : r < 21) (hp : p < 11) (hn : n < 7) : ∃ m, m_X10_weigh (nI h - nI r) (nI p) (nI n) mm = some m ∧ mI m 38 2 = nI (gdC p n (h - r) / Nat.gcd (10 ^ n) (gdC p n (h - r))) ∧ mI m 38 3 = nI (10 ^ n / Nat.gcd (10 ^ n) (gdC p n (h - r))) := by
  unfold m_X10_weigh
  simp only [zz_0, zz_1, zz_2, zz_3, zz_4, zz_5, zz_6, zz_7, zz_8, zz_9, zz_10, zz_11, zz_12, zz_13, zz_14, zz_15, zz_16, zz_20, zz_24, zz_25, zz_26, zz_28, zz_31, zz_32, zz_36, zz_39, zz_40, zz_48, zz_49, zz_50, zz_57, zz_59, zz_60, zz_64, zz_72, zz_97, zz_99, zz_100, zz_122, zz_144, zz_161, zz_255, zz_256, zz_288, zz_322, zz_384, zz_400, zz_448, zz_600, zz_1280, zz_1000000]
  obtain ⟨m1', e1, z1⟩ := loop_n (body := m_X10_weigh_b3) (a := (nI 0, mm)) (fun i z => ∃ m, z = (nI i, m) ∧ ∀ j, j < i → mI m 39 j = nI 0) (fun m => ∀ j, j < 7 → mI m 39 j = nI 0) 7 (FU_big (by decide)) ⟨mm, rfl, fun j hj => absurd hj (Nat.not_lt_zero j)⟩ (by
    rintro i z hi ⟨m, rfl, hz⟩
    unfold m_X10_weigh_b3
    simp (disch := omega) only [zz_0, zz_1, zz_2, zz_3, zz_4, zz_5, zz_6, zz_7, zz_8, zz_9, zz_10, zz_11, zz_12, zz_13, zz_14, zz_15, zz_16, zz_20, zz_24, zz_25, zz_26, zz_28, zz_31, zz_32, zz_36, zz_39, zz_40, zz_48, zz_49, zz_50, zz_57, zz_59, zz_60, zz_64, zz_72, zz_97, zz_99, zz_100, zz_122, zz_144, zz_161, zz_255, zz_256, zz_288, zz_322, zz_384, zz_400, zz_448, zz_600, zz_1280, zz_1000000, nI_add, n_mul, n_sub, fa_or, fa_and, fb_xorI, n_div, n_rem, n_le, n_lt, n_eq, n_shl1, n_shr, n_andn, n_ix, n_grd, n_gdz, n_gbz, n_hasM, n_hasC, b2_0, b2_1, n_m1, ob_s, bs_l, bs_r, n_max, n_min, n_grt, n_les]
    rw [if_neg (by omega)]
    refine ⟨_, rfl, _, rfl, fun j hj => ?_⟩
    rw [rdI_sm]
    by_cases e : j = i
    · rw [if_pos e]
    · rw [if_neg e]; exact hz j (by omega)) (by
    rintro z ⟨m, rfl, hz⟩
    unfold m_X10_weigh_b3
    simp (disch := omega) only [zz_0, zz_1, zz_2, zz_3, zz_4, zz_5, zz_6, zz_7, zz_8, zz_9, zz_10, zz_11, zz_12, zz_13, zz_14, zz_15, zz_16, zz_20, zz_24, zz_25, zz_26, zz_28, zz_31, zz_32, zz_36, zz_39, zz_40, zz_48, zz_49, zz_50, zz_57, zz_59, zz_60, zz_64, zz_72, zz_97, zz_99, zz_100, zz_122, zz_144, zz_161, zz_255, zz_256, zz_288, zz_322, zz_384, zz_400, zz_448, zz_600, zz_1280, zz_1000000, nI_add, n_mul, n_sub, fa_or, fa_and, fb_xorI, n_div, n_rem, n_le, n_lt, n_eq, n_shl1, n_shr, n_andn, n_ix, n_grd, n_gdz, n_gbz, n_hasM, n_hasC, b2_0, b2_1, n_m1, ob_s, bs_l, bs_r, n_max, n_min, n_grt, n_les]
    rw [if_pos (by omega)]
    exact ⟨_, rfl, hz⟩)
  rw [e1]
  simp only [ob_s, n_ix (show 0 < 2147483648 by decide)]
  obtain ⟨q2, e2, q2a, q2b⟩ := loop_n (body := m_X10_weigh_b40 (nI p) (nI n)) (a := (nI 1, nI 0, sI m1' 39 0 (nI 1))) (fun v z => ∃ m, z = (nI (10 ^ v), nI v, m) ∧ ∀ j, j < 7 → mI m 39 j = nI (wy p v j)) (fun q => q.1 = nI (10 ^ n) ∧ ∀ j, j < 7 → mI q.2 39 j = nI (wy p n j)) n (FU_big (by omega)) ⟨_, rfl, fun j hj => by
      rw [rdI_sm, z1 j hj]
      show _ = nI (if j = 0 then 1 else 0)
      split <;> rfl⟩ (by
    rintro v z hv ⟨m, rfl, hz⟩
    unfold m_X10_weigh_b40
    simp (disch := omega) only [zz_0, zz_1, zz_2, zz_3, zz_4, zz_5, zz_6, zz_7, zz_8, zz_9, zz_10, zz_11, zz_12, zz_13, zz_14, zz_15, zz_16, zz_20, zz_24, zz_25, zz_26, zz_28, zz_31, zz_32, zz_36, zz_39, zz_40, zz_48, zz_49, zz_50, zz_57, zz_59, zz_60, zz_64, zz_72, zz_97, zz_99, zz_100, zz_122, zz_144, zz_161, zz_255, zz_256, zz_288, zz_322, zz_384, zz_400, zz_448, zz_600, zz_1280, zz_1000000, nI_add, n_mul, n_sub, fa_or, fa_and, fb_xorI, n_div, n_rem, n_le, n_lt, n_eq, n_shl1, n_shr, n_andn, n_ix, n_grd, n_gdz, n_gbz, n_hasM, n_hasC, b2_0, b2_1, n_m1, ob_s, bs_l, bs_r, n_max, n_min, n_grt, n_les]
    rw [if_neg (by omega)]
    obtain ⟨m2, e2, y2⟩ := loop_n (body := m_X10_weigh_b55 (nI p)) (a := (nI (7 - 1), m)) (fun i z => ∃ m, z = (nI (6 - i), m) ∧ ∀ j, j < 7 → mI m 39 j = nI (if 6 - i < j then wy p (v + 1) j else wy p v j)) (fun m => ∀ j, j < 7 → mI m 39 j = nI (if 0 < j then wy p (v + 1) j else wy p v j)) 6 (FU_big (by decide)) ⟨m, rfl, fun j hj => by rw [if_neg (by omega)]; exact hz j hj⟩ (by
      rintro i z hi ⟨m, rfl, hz⟩
      have g1 := hz (6 - i) (by omega)
      have g2 := hz (6 - i - 1) (by omega)
      rw [if_neg (by omega)] at g1 g2
      unfold m_X10_weigh_b55
      simp (disch := omega) only [zz_0, zz_1, zz_2, zz_3, zz_4, zz_5, zz_6, zz_7, zz_8, zz_9, zz_10, zz_11, zz_12, zz_13, zz_14, zz_15, zz_16, zz_20, zz_24, zz_25, zz_26, zz_28, zz_31, zz_32, zz_36, zz_39, zz_40, zz_48, zz_49, zz_50, zz_57, zz_59, zz_60, zz_64, zz_72, zz_97, zz_99, zz_100, zz_122, zz_144, zz_161, zz_255, zz_256, zz_288, zz_322, zz_384, zz_400, zz_448, zz_600, zz_1280, zz_1000000, nI_add, n_mul, n_sub, fa_or, fa_and, fb_xorI, n_div, n_rem, n_le, n_lt, n_eq, n_shl1, n_shr, n_andn, n_ix, n_grd, n_gdz, n_gbz, n_hasM, n_hasC, b2_0, b2_1, n_m1, ob_s, bs_l, bs_r, n_max, n_min, n_grt, n_les, n_dec, g1, g2]
      rw [if_neg (by omega)]
      refine ⟨_, rfl, _, rfl, fun j hj => ?_⟩
      rw [rdI_sm]
      by_cases e : j = 6 - i
      · rw [if_pos e, e, if_pos (by omega)]
        congr 1
        rw [wy, if_neg (by omega)]
      · rw [if_neg e, hz j hj]
        by_cases e2 : 6 - i < j
        · rw [if_pos e2, if_pos (by omega)]
        · rw [if_neg e2, if_neg (by omega)]) (by
      rintro z ⟨m, rfl, hz⟩
      unfold m_X10_weigh_b55
      simp (disch := omega) only [zz_0, zz_1, zz_2, zz_3, zz_4, zz_5, zz_6, zz_7, zz_8, zz_9, zz_10, zz_11, zz_12, zz_13, zz_14, zz_15, zz_16, zz_20, zz_24, zz_25, zz_26, zz_28, zz_31, zz_32, zz_36, zz_39, zz_40, zz_48, zz_49, zz_50, zz_57, zz_59, zz_60, zz_64, zz_72, zz_97, zz_99, zz_100, zz_122, zz_144, zz_161, zz_255, zz_256, zz_288, zz_322, zz_384, zz_400, zz_448, zz_600, zz_1280, zz_1000000, nI_add, n_mul, n_sub, fa_or, fa_and, fb_xorI, n_div, n_rem, n_le, n_lt, n_eq, n_shl1, n_shr, n_andn, n_ix, n_grd, n_gdz, n_gbz, n_hasM, n_hasC, b2_0, b2_1, n_m1, ob_s, bs_l, bs_r, n_max, n_min, n_grt, n_les]
      rw [if_pos (by omega)]
      exact ⟨_, rfl, hz⟩)
    rw [e2]
    have g0 := y2 0 (by omega)
    rw [if_neg (by omega)] at g0
    simp (disch := omega) only [ob_s, n_ix, g0, n_mul]
    refine ⟨_, rfl, _, by rw [Nat.pow_succ], fun j hj => ?_⟩
    rw [rdI_sm]
    by_cases e : j = 0
    · rw [if_pos e, e]
      congr 1
    · rw [if_neg e, y2 j hj, if_pos (by omega)]) (by
    rintro z ⟨m, rfl, hz⟩
    unfold m_X10_weigh_b40
    simp (disch := omega) only [zz_0, zz_1, zz_2, zz_3, zz_4, zz_5, zz_6, zz_7, zz_8, zz_9, zz_10, zz_11, zz_12, zz_13, zz_14, zz_15, zz_16, zz_20, zz_24, zz_25, zz_26, zz_28, zz_31, zz_32, zz_36, zz_39, zz_40, zz_48, zz_49, zz_50, zz_57, zz_59, zz_60, zz_64, zz_72, zz_97, zz_99, zz_100, zz_122, zz_144, zz_161, zz_255, zz_256, zz_288, zz_322, zz_384, zz_400, zz_448, zz_600, zz_1280, zz_1000000, nI_add, n_mul, n_sub, fa_or, fa_and, fb_xorI, n_div, n_rem, n_le, n_lt, n_eq, n_shl1, n_shr, n_andn, n_ix, n_grd, n_gdz, n_gbz, n_hasM, n_hasC, b2_0, b2_1, n_m1, ob_s, bs_l, bs_r, n_max, n_min, n_grt, n_les]
    rw [if_pos (by omega)]
    exact ⟨_, rfl, rfl, hz⟩)
  rw [e2]
  simp only [ob_s]
  rw [cmp0 h hh r hr, q2a]
  have e3 : whileF FU (m_X10_weigh_b137 q2) (nI 0, nI (h - r)) = some (nI (gdC p n (h - r))) := by
    unfold gdC
    refine loop_fo (fun (x : Nat) i => (nI x, nI (h - r + i))) _ 0 (7 - (h - r)) (fun x => nI x) (fun i x => True) rfl (FU_big (by omega)) trivial (fun _ _ _ _ => trivial) ?_ ?_
    · intro i x hi hx
      have := q2b (h - r + i) (by omega)
      unfold m_X10_weigh_b137
      simp (disch := omega) only [zz_0, zz_1, zz_2, zz_3, zz_4, zz_5, zz_6, zz_7, zz_8, zz_9, zz_10, zz_11, zz_12, zz_13, zz_14, zz_15, zz_16, zz_20, zz_24, zz_25, zz_26, zz_28, zz_31, zz_32, zz_36, zz_39, zz_40, zz_48, zz_49, zz_50, zz_57, zz_59, zz_60, zz_64, zz_72, zz_97, zz_99, zz_100, zz_122, zz_144, zz_161, zz_255, zz_256, zz_288, zz_322, zz_384, zz_400, zz_448, zz_600, zz_1280, zz_1000000, nI_add, n_mul, n_sub, fa_or, fa_and, fb_xorI, n_div, n_rem, n_le, n_lt, n_eq, n_shl1, n_shr, n_andn, n_ix, n_grd, n_gdz, n_gbz, n_hasM, n_hasC, b2_0, b2_1, n_m1, ob_s, bs_l, bs_r, n_max, n_min, n_grt, n_les, this]
      rw [if_neg (by omega), Nat.add_assoc]
    · intro x hx
      unfold m_X10_weigh_b137
      simp (disch := omega) only [zz_0, zz_1, zz_2, zz_3, zz_4, zz_5, zz_6, zz_7, zz_8, zz_9, zz_10, zz_11, zz_12, zz_13, zz_14, zz_15, zz_16, zz_20, zz_24, zz_25, zz_26, zz_28, zz_31, zz_32, zz_36, zz_39, zz_40, zz_48, zz_49, zz_50, zz_57, zz_59, zz_60, zz_64, zz_72, zz_97, zz_99, zz_100, zz_122, zz_144, zz_161, zz_255, zz_256, zz_288, zz_322, zz_384, zz_400, zz_448, zz_600, zz_1280, zz_1000000, nI_add, n_mul, n_sub, fa_or, fa_and, fb_xorI, n_div, n_rem, n_le, n_lt, n_eq, n_shl1, n_shr, n_andn, n_ix, n_grd, n_gdz, n_gbz, n_hasM, n_hasC, b2_0, b2_1, n_m1, ob_s, bs_l, bs_r, n_max, n_min, n_grt, n_les]
      rw [if_pos (by omega)]
  rw [e3]
  have g1 := (chn0 p hp n hn (h - r) (by omega)).2
  have g2 := chn1 p hp n hn (h - r) (by omega)
  have g3 := ten_b hn
  have g4 : 0 < 10 ^ n := Nat.pow_pos (by decide)
  have g5 : 0 < Nat.gcd (10 ^ n) (gdC p n (h - r)) := Nat.gcd_pos_of_pos_left _ g4
  have g6 : Nat.gcd (10 ^ n) (gdC p n (h - r)) ≤ 10 ^ n := Nat.gcd_le_left _ g4
  simp (disch := omega) only [ob_s, g2, n_gdz, n_div]
  refine ⟨_, rfl, ?_, rdI_eq _ _ _ _⟩
  rw [rdI_nj _ _ _ _ (by decide), rdI_eq]
theorem M_power {x n : Nat} (hn : n < 100) : m_X12_power (nI x) (nI n) = some (nI (x ^ n)) := by
  unfold m_X12_power
  rw [o_id]
  have key : ∀ n, fo (fun _ y => y * x) 1 n = x ^ n := by
    intro n
    induction n with
    | zero => rfl
    | succ n ih => rw [fo, ih, Nat.pow_succ]
  refine (loop_fo (fun (y : Nat) i => (nI y, nI i)) (fun _ y => y * x) 1 n (fun x => nI x) (fun i x => True) rfl (FU_big (by omega)) trivial (fun _ _ _ _ => trivial) ?_ ?_).trans (by rw [key])
  · intro i y hi hy
    unfold m_X12_power_b4
    simp (disch := omega) only [zz_0, zz_1, zz_2, zz_3, zz_4, zz_5, zz_6, zz_7, zz_8, zz_9, zz_10, zz_11, zz_12, zz_13, zz_14, zz_15, zz_16, zz_20, zz_24, zz_25, zz_26, zz_28, zz_31, zz_32, zz_36, zz_39, zz_40, zz_48, zz_49, zz_50, zz_57, zz_59, zz_60, zz_64, zz_72, zz_97, zz_99, zz_100, zz_122, zz_144, zz_161, zz_255, zz_256, zz_288, zz_322, zz_384, zz_400, zz_448, zz_600, zz_1280, zz_1000000, nI_add, n_mul, n_sub, fa_or, fa_and, fb_xorI, n_div, n_rem, n_le, n_lt, n_eq, n_shl1, n_shr, n_andn, n_ix, n_grd, n_gdz, n_gbz, n_hasM, n_hasC, b2_0, b2_1, n_m1, ob_s, bs_l, bs_r, n_max, n_min, n_grt, n_les]
    rw [if_neg (by omega)]
  · intro y hy
    unfold m_X12_power_b4
    simp (disch := omega) only [zz_0, zz_1, zz_2, zz_3, zz_4, zz_5, zz_6, zz_7, zz_8, zz_9, zz_10, zz_11, zz_12, zz_13, zz_14, zz_15, zz_16, zz_20, zz_24, zz_25, zz_26, zz_28, zz_31, zz_32, zz_36, zz_39, zz_40, zz_48, zz_49, zz_50, zz_57, zz_59, zz_60, zz_64, zz_72, zz_97, zz_99, zz_100, zz_122, zz_144, zz_161, zz_255, zz_256, zz_288, zz_322, zz_384, zz_400, zz_448, zz_600, zz_1280, zz_1000000, nI_add, n_mul, n_sub, fa_or, fa_and, fb_xorI, n_div, n_rem, n_le, n_lt, n_eq, n_shl1, n_shr, n_andn, n_ix, n_grd, n_gdz, n_gbz, n_hasM, n_hasC, b2_0, b2_1, n_m1, ob_s, bs_l, bs_r, n_max, n_min, n_grt, n_les]
    rw [if_pos (by omega)]
theorem M_chanceW {h r p n : Nat} (hh : h < 10) (hr : r < 21) (hp : p < 11) (hn : n < 7) : whileF FU (m_X12_chance_b84 (nI p) (nI n) (nI h) (nI r)) (0, 1, 0) = some (nI (gdC p n (h - r))) := by
  rw [(chn0 p hp n hn (h - r) (by omega)).1]
  have hb := bw_b n hn
  have key : ∀ i, fo (fun k (s : Nat × Nat) => (s.1 + (if k < h - r then 0 else s.2 * p ^ k * (10 - p) ^ (n - k)), s.2 * (n - k) / (k + 1))) (0, 1) i = (fo (fun k s => s + if k < h - r then 0 else bw n k * p ^ k * (10 - p) ^ (n - k)) 0 i, bw n i) := by
    intro i
    induction i with
    | zero => rfl
    | succ i ih => rw [fo, ih]; rfl
  refine (loop_fo (fun (x : Nat × Nat) i => (nI x.1, nI x.2, nI i)) (fun k (s : Nat × Nat) => (s.1 + (if k < h - r then 0 else s.2 * p ^ k * (10 - p) ^ (n - k)), s.2 * (n - k) / (k + 1))) (0, 1) (n + 1) (fun x => nI x.1) (fun i x => x.2 = bw n i) rfl (FU_big (by omega)) rfl ?_ ?_ ?_).trans (by rw [key]; rfl)
  · intro i x hi hx
    simp only [hx]
    rfl
  · intro i x hi hx
    have g1 := hb i (by omega)
    have g2 : x.2 * (n - i) ≤ 20 * 6 := Nat.mul_le_mul (by omega) (by omega)
    have e1 : m_X12_power (nI p) (nI i) = some (nI (p ^ i)) := M_power (by omega)
    have e2 : m_X12_power (nI (10 - p)) (nI (n - i)) = some (nI ((10 - p) ^ (n - i))) := M_power (by omega)
    unfold m_X12_chance_b84
    simp (disch := omega) only [zz_0, zz_1, zz_2, zz_3, zz_4, zz_5, zz_6, zz_7, zz_8, zz_9, zz_10, zz_11, zz_12, zz_13, zz_14, zz_15, zz_16, zz_20, zz_24, zz_25, zz_26, zz_28, zz_31, zz_32, zz_36, zz_39, zz_40, zz_48, zz_49, zz_50, zz_57, zz_59, zz_60, zz_64, zz_72, zz_97, zz_99, zz_100, zz_122, zz_144, zz_161, zz_255, zz_256, zz_288, zz_322, zz_384, zz_400, zz_448, zz_600, zz_1280, zz_1000000, cmp1, n_lt, n_sub, e1, e2, ob_s, n_mul, nI_add, n_gdz, n_div]
    rw [if_neg (by omega)]
    by_cases k1 : i < h - r
    · simp only [k1, if_true, ob_s, nI_add]
    · simp only [k1, if_false, ob_s, nI_add]
  · intro x hx
    unfold m_X12_chance_b84
    simp (disch := omega) only [zz_0, zz_1, zz_2, zz_3, zz_4, zz_5, zz_6, zz_7, zz_8, zz_9, zz_10, zz_11, zz_12, zz_13, zz_14, zz_15, zz_16, zz_20, zz_24, zz_25, zz_26, zz_28, zz_31, zz_32, zz_36, zz_39, zz_40, zz_48, zz_49, zz_50, zz_57, zz_59, zz_60, zz_64, zz_72, zz_97, zz_99, zz_100, zz_122, zz_144, zz_161, zz_255, zz_256, zz_288, zz_322, zz_384, zz_400, zz_448, zz_600, zz_1280, zz_1000000, nI_add, n_mul, n_sub, fa_or, fa_and, fb_xorI, n_div, n_rem, n_le, n_lt, n_eq, n_shl1, n_shr, n_andn, n_ix, n_grd, n_gdz, n_gbz, n_hasM, n_hasC, b2_0, b2_1, n_m1, ob_s, bs_l, bs_r, n_max, n_min, n_grt, n_les]
    rw [if_pos (by omega)]
theorem M_part {p n d : Nat} (hp : p < 11) (hn : n < 7) (hd : d < 10) (u : Bool) : m_X12_part (nI (gdC p n d)) (nI (10 ^ n)) (b2 u) = some (nI ((if u then 10 ^ n else gdC p n d) / Nat.gcd (10 ^ n) (gdC p n d))) := by
  have g1 := (chn0 p hp n hn d hd).2
  have g2 := chn2 p hp n hn d hd
  have g3 := ten_b hn
  have g4 : 0 < 10 ^ n := Nat.pow_pos (by decide)
  have g5 : 0 < Nat.gcd (10 ^ n) (gdC p n d) := Nat.gcd_pos_of_pos_left _ g4
  have g6 : Nat.gcd (10 ^ n) (gdC p n d) ≤ 10 ^ n := Nat.gcd_le_left _ g4
  unfold m_X12_part
  simp (disch := omega) only [g2, ob_s, n_gdz, zz_0, b2_0]
  cases u
  · simp (disch := omega) only [if_true, n_div]; rfl
  · simp (disch := omega) only [Bool.true_eq_false, if_false, n_div]; rfl
