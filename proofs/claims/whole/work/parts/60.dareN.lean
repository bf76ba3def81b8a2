/-! L3: dare by the reference, whole -/
theorem b2_dec (p : Prop) [Decidable p] : (if p then nI 1 else nI 0) = b2 (decide p) := by
  by_cases h : p <;> simp [h, b2]
theorem drK_eq {W : Cn} {a b n t : Nat} (ht : t < 9) : drK W a b (n + 1) t = trn W a b n (decide ((0 + 1) % 2 = 0)) (dgt W a b (0 + 1) (9 * 0 + t)).1 (dgt W a b (0 + 1) (9 * 0 + t)).2 := by
  unfold drK
  rw [dgt, if_pos (by decide), show (9 * 0 + t) % 9 = t by omega]
  rfl
theorem M_dareW {W : Cn} {c : Nat} {mm : Mm} (h : VM W 0 c mm) (wf : WF W) (hc : symC (cl W)) (wo : oa W ≤ 12) (ht : mI mm 50 (72 * c + 1) = nI (oa W)) {a b n : Nat} (ha : a < 6) (hb : b < 6) (hab : a ≠ b) (hn : n < 4) (f : Bool) : ∃ m, ((m_X12_power (nI 9) (nI n)).bind (fun q8 => (whileF FU (m_X12_dare_b47 (nI a) (nI b) (nI n) q8) (nI 0, mm)).bind (fun p11 => (whileF FU (m_X12_dare_b88) (q8, nI n - nI 1, (sI p11 44 45 m1))).bind (fun p21 => if b2 f = nI 0 then (some (mI p21 67 (ix (nI 0)), p21)) else (some (mI p21 44 45, p21)))))) = some (if f then enc1 (drF W a b n) else e8 (drG W a b n), m) := by
  have p9 : 9 ^ n ≤ 729 := Nat.pow_le_pow_right (n := 9) (j := 3) (by decide) (by omega)
  rw [M_power (by omega), ob_s]
  obtain ⟨m1', e1, z1⟩ := loop_n (body := m_X12_dare_b47 (nI a) (nI b) (nI n) (nI (9 ^ n))) (a := (nI 0, mm)) (fun k z => ∃ m V, z = (nI k, m) ∧ VM V 0 c m ∧ extW W V ∧ mI m 50 (72 * c + 1) = nI (oa W) ∧ ∀ x, x < k → mI m 67 x = e8 (lev W a b n x)) (fun m => ∀ x, x < 9 ^ n → mI m 67 x = e8 (lev W a b n x)) (9 ^ n) (FU_big (by omega)) ⟨mm, W, rfl, h, extW_rf W, ht, fun x hx => absurd hx (Nat.not_lt_zero x)⟩ (by
    rintro k z hk ⟨m, V, rfl, hV, hE, hT, hz⟩
    obtain ⟨m', V', e, hV', hE'⟩ := M_endOf hV hE wf hc wo hT ha hb hab hn (k := k) (by omega)
    have fr := fr_X12_endOf e
    unfold m_X12_dare_b47
    simp (disch := omega) only [zz_0, zz_1, zz_2, zz_3, zz_4, zz_5, zz_6, zz_7, zz_8, zz_9, zz_10, zz_11, zz_12, zz_13, zz_14, zz_15, zz_16, zz_20, zz_24, zz_25, zz_26, zz_28, zz_31, zz_32, zz_36, zz_39, zz_40, zz_48, zz_49, zz_50, zz_57, zz_59, zz_60, zz_64, zz_72, zz_97, zz_99, zz_100, zz_122, zz_144, zz_161, zz_255, zz_256, zz_288, zz_322, zz_384, zz_400, zz_448, zz_600, zz_1280, zz_1000000, nI_add, n_mul, n_sub, fa_or, fa_and, fb_xorI, n_div, n_rem, n_le, n_lt, n_eq, n_shl1, n_shr, n_andn, n_ix, n_grd, n_gdz, n_gbz, n_hasM, n_hasC, b2_0, b2_1, n_m1, ob_s, bs_l, bs_r, n_max, n_min, n_grt, n_les, e]
    rw [if_neg (by omega)]
    refine ⟨_, rfl, _, V', rfl, VM_wr hV' (by omega) _ _, hE', ?_, fun x hx => ?_⟩
    · rw [rdI_ne _ _ _ _ (by decide), (fr 50 _ (by simp [covB])).1]; exact hT
    · rw [rdI_sm]
      by_cases hxk : x = k
      · rw [if_pos hxk, hxk]
      · rw [if_neg hxk, (fr 67 _ (by simp [covB])).1]; exact hz x (by omega)) (by
    rintro z ⟨m, V, rfl, hV, hE, hT, hz⟩
    unfold m_X12_dare_b47
    simp (disch := omega) only [zz_0, zz_1, zz_2, zz_3, zz_4, zz_5, zz_6, zz_7, zz_8, zz_9, zz_10, zz_11, zz_12, zz_13, zz_14, zz_15, zz_16, zz_20, zz_24, zz_25, zz_26, zz_28, zz_31, zz_32, zz_36, zz_39, zz_40, zz_48, zz_49, zz_50, zz_57, zz_59, zz_60, zz_64, zz_72, zz_97, zz_99, zz_100, zz_122, zz_144, zz_161, zz_255, zz_256, zz_288, zz_322, zz_384, zz_400, zz_448, zz_600, zz_1280, zz_1000000, nI_add, n_mul, n_sub, fa_or, fa_and, fb_xorI, n_div, n_rem, n_le, n_lt, n_eq, n_shl1, n_shr, n_andn, n_ix, n_grd, n_gdz, n_gbz, n_hasM, n_hasC, b2_0, b2_1, n_m1, ob_s, bs_l, bs_r, n_max, n_min, n_grt, n_les]
    rw [if_pos (by omega)]
    exact ⟨_, rfl, hz⟩)
  rw [e1, ob_s]
  have tb := trn_b hc a b
  obtain ⟨m2, e2, y0, y1⟩ := loop_n (body := m_X12_dare_b88) (a := (nI (9 ^ n), nI n - nI 1, sI m1' 44 45 m1)) (fun i z => ∃ m, z = (nI (9 ^ (n - i)), nI (n - i) - nI 1, m) ∧ (∀ k, k < 9 ^ (n - i) → mI m 67 k = e8 (trn W a b i (decide ((n - i) % 2 = 0)) (dgt W a b (n - i) k).1 (dgt W a b (n - i) k).2)) ∧ (i = n → mI m 44 45 = enc1 (drF W a b n))) (fun m => mI m 67 0 = e8 (drG W a b n) ∧ mI m 44 45 = enc1 (drF W a b n)) n (FU_big (by omega)) ⟨_, rfl, fun k hk => by
      rw [rdI_ne _ _ _ _ (by decide), z1 k hk]
      unfold lev
      rw [trn, trn]
      rfl, fun h0 => by
      rw [rdI_eq]
      unfold drF
      rw [if_pos h0.symm]
      rfl⟩ (by
    rintro i z hi ⟨m, rfl, hz, _⟩
    obtain ⟨j, hj⟩ : ∃ j, n - i = j + 1 := ⟨n - i - 1, by omega⟩
    have hj2 : n - (i + 1) = j := by omega
    rw [hj] at hz ⊢
    rw [hj2]
    have p10 : 9 ^ (j + 1) = 9 ^ j * 9 := Nat.pow_succ 9 j
    have p11 : 9 ^ (j + 1) ≤ 729 := Nat.pow_le_pow_right (n := 9) (j := 3) (by decide) (by omega)
    have p12 : 9 ^ (j + 1) / 9 = 9 ^ j := by rw [p10]; exact Nat.mul_div_cancel _ (by decide)
    have p13 : 0 < 9 ^ j := Nat.pow_pos (by decide)
    obtain ⟨m3, e3, x0, x1⟩ := loop_n (body := m_X12_dare_b103 (nI (9 ^ (j + 1)), nI (j + 1) - nI 1, m)) (a := (nI 0, m)) (fun k z => ∃ m', z = (nI k, m') ∧ (∀ x, x < k → mI m' 67 x = e8 (trn W a b (i + 1) (decide (j % 2 = 0)) (dgt W a b j x).1 (dgt W a b j x).2)) ∧ (∀ x, k ≤ x → x < 9 ^ (j + 1) → mI m' 67 x = e8 (trn W a b i (decide ((j + 1) % 2 = 0)) (dgt W a b (j + 1) x).1 (dgt W a b (j + 1) x).2)) ∧ (j = 0 → k = 1 → mI m' 44 45 = enc1 (drF W a b n))) (fun m' => (∀ x, x < 9 ^ j → mI m' 67 x = e8 (trn W a b (i + 1) (decide (j % 2 = 0)) (dgt W a b j x).1 (dgt W a b j x).2)) ∧ (j = 0 → mI m' 44 45 = enc1 (drF W a b n))) (9 ^ j) (FU_big (by omega)) ⟨m, rfl, fun x hx => absurd hx (Nat.not_lt_zero x), fun x _ hx => hz x hx, fun _ h1 => by omega⟩ (by
      rintro k z hk ⟨m', rfl, w1, w2, w3⟩
      obtain ⟨m'', w, e, g1, g2, g3, g4⟩ := M_fold (mm := m') (A := 9 * k) (by omega) (fun t => trn W a b i (decide ((j + 1) % 2 = 0)) (dgt W a b (j + 1) (9 * k + t)).1 (dgt W a b (j + 1) (9 * k + t)).2) (fun t => tb _ _ _ _) (fun t ht => w2 (9 * k + t) (by omega) (by omega)) (decide (j % 2 = 0))
      have fr := fr_X12_fold e
      have jm : j % 2 < 2147483648 := by omega
      unfold m_X12_dare_b103
      simp (disch := omega) only [zz_0, zz_1, zz_2, zz_3, zz_4, zz_5, zz_6, zz_7, zz_8, zz_9, zz_10, zz_11, zz_12, zz_13, zz_14, zz_15, zz_16, zz_20, zz_24, zz_25, zz_26, zz_28, zz_31, zz_32, zz_36, zz_39, zz_40, zz_48, zz_49, zz_50, zz_57, zz_59, zz_60, zz_64, zz_72, zz_97, zz_99, zz_100, zz_122, zz_144, zz_161, zz_255, zz_256, zz_288, zz_322, zz_384, zz_400, zz_448, zz_600, zz_1280, zz_1000000, nI_add, n_mul, n_sub, fa_or, fa_and, fb_xorI, n_div, n_rem, n_le, n_lt, n_eq, n_shl1, n_shr, n_andn, n_ix, n_grd, n_gdz, n_gbz, n_hasM, n_hasC, b2_0, b2_1, n_m1, ob_s, bs_l, bs_r, n_max, n_min, n_grt, n_les, show j + 1 - 1 = j from rfl, p12, b2_dec, e]
      rw [if_neg (by omega)]
      refine ⟨_, rfl, _, rfl, fun x hx => ?_, fun x hx hx2 => ?_, fun hj0 hk1 => ?_⟩
      · rw [rdI_sm]
        by_cases hxk : x = k
        · rw [if_pos hxk, hxk, trn_step]
        · rw [if_neg hxk, (fr 67 _ (by simp [covB])).1]; exact w1 x (by omega)
      · rw [rdI_sm, if_neg (by omega), (fr 67 _ (by simp [covB])).1]; exact w2 x (by omega) hx2
      · rw [rdI_ne _ _ _ _ (by decide), g1]
        have hk0 : k = 0 := by omega
        subst hj0 hk0
        have hni : n = i + 1 := by omega
        unfold drF
        have hG : drG W a b n = fmb (decide (0 % 2 = 0)) (fun t => trn W a b i (decide ((0 + 1) % 2 = 0)) (dgt W a b (0 + 1) (9 * 0 + t)).1 (dgt W a b (0 + 1) (9 * 0 + t)).2) 9 := by
          rw [← trn_step, hni]
          rfl
        rw [if_neg (by omega), fst1_some.mpr ⟨g2, ?_, fun y hy => ?_⟩]
        · rfl
        · rw [hG, ← g3, hni]
          exact decide_eq_true (drK_eq g2)
        · rw [hG, hni]
          have := g4 y hy
          refine decide_eq_false ?_
          rw [drK_eq (by omega)]
          exact this) (by
      rintro z ⟨m', rfl, w1, w2, w3⟩
      unfold m_X12_dare_b103
      simp (disch := omega) only [zz_0, zz_1, zz_2, zz_3, zz_4, zz_5, zz_6, zz_7, zz_8, zz_9, zz_10, zz_11, zz_12, zz_13, zz_14, zz_15, zz_16, zz_20, zz_24, zz_25, zz_26, zz_28, zz_31, zz_32, zz_36, zz_39, zz_40, zz_48, zz_49, zz_50, zz_57, zz_59, zz_60, zz_64, zz_72, zz_97, zz_99, zz_100, zz_122, zz_144, zz_161, zz_255, zz_256, zz_288, zz_322, zz_384, zz_400, zz_448, zz_600, zz_1280, zz_1000000, nI_add, n_mul, n_sub, fa_or, fa_and, fb_xorI, n_div, n_rem, n_le, n_lt, n_eq, n_shl1, n_shr, n_andn, n_ix, n_grd, n_gdz, n_gbz, n_hasM, n_hasC, b2_0, b2_1, n_m1, ob_s, bs_l, bs_r, n_max, n_min, n_grt, n_les, p12]
      rw [if_pos (by omega)]
      exact ⟨_, rfl, w1, fun hj0 => w3 hj0 (by rw [hj0])⟩)
    unfold m_X12_dare_b88
    simp only [zz_0, zz_1, zz_2, zz_3, zz_4, zz_5, zz_6, zz_7, zz_8, zz_9, zz_10, zz_11, zz_12, zz_13, zz_14, zz_15, zz_16, zz_20, zz_24, zz_25, zz_26, zz_28, zz_31, zz_32, zz_36, zz_39, zz_40, zz_48, zz_49, zz_50, zz_57, zz_59, zz_60, zz_64, zz_72, zz_97, zz_99, zz_100, zz_122, zz_144, zz_161, zz_255, zz_256, zz_288, zz_322, zz_384, zz_400, zz_448, zz_600, zz_1280, zz_1000000]
    rw [e3, ob_s]
    simp (disch := omega) only [n_m1, n_pm1, n_sub, show j + 1 - 1 = j from rfl, n_lt, n_div, p12]
    rw [if_neg (by omega)]
    exact ⟨_, rfl, m3, rfl, x0, fun hin => x1 (by omega)⟩) (by
    rintro z ⟨m, rfl, hz, hw⟩
    unfold m_X12_dare_b88
    rw [show n - n = 0 by omega] at hz ⊢
    rw [if_pos (show (nI 0 - nI 1 : Int32) < 0 by decide)]
    exact ⟨_, rfl, hz 0 (by decide), hw rfl⟩)
  rw [e2, ob_s, n_ix (by decide), y0, y1]
  simp only [b2_0]
  cases f
  · exact ⟨m2, rfl⟩
  · exact ⟨m2, rfl⟩
