/-! L3: the table of what is kept; a standing begun -/
theorem kp_lo {cl : Nat → Nat} : ∀ t r s s', (∀ i, i < t → s.testBit i = s'.testBit i) → kp cl t r s = kp cl t r s'
  | 0, 0, _, _, _ => rfl
  | 0, _ + 1, _, _, _ => rfl
  | t + 1, 0, s, s', h => kp_lo t 0 s s' (fun i hi => h i (by omega))
  | t + 1, r + 1, s, s', h => by
    rw [kp, kp, h t (by omega), kp_lo t (r + 1) s s' (fun i hi => h i (by omega)), kp_lo t r (ndf s (cl t)) (ndf s' (cl t)) (fun i hi => by rw [ndf_bit, ndf_bit, h i (by omega)])]
theorem kp_hi {cl : Nat → Nat} {t s : Nat} (hs : s < 2 ^ t) : ∀ d r, kp cl (t + d) r s = kp cl t r s
  | 0, r => rfl
  | d + 1, 0 => by
    show kp cl (t + d) 0 s = _
    exact kp_hi hs d 0
  | d + 1, r + 1 => by
    rw [show t + (d + 1) = (t + d) + 1 from rfl, kp, Nat.testBit_lt_two_pow (Nat.lt_of_lt_of_le hs (Nat.pow_le_pow_right (by decide) (by omega))), if_neg (by decide)]
    exact kp_hi hs d (r + 1)
theorem bst_top {W : Cn} {t rest r : Nat} (ht : t < 8) (hr : rest < 2 ^ t) : bst W (rest ||| 2 ^ t) (r + 1) = if pc (bst W rest (r + 1)) < pc (bst W (ndf rest (cl W t)) r ||| 2 ^ t) then bst W (ndf rest (cl W t)) r ||| 2 ^ t else bst W rest (r + 1) := by
  have hn : ndf rest (cl W t) < 2 ^ t := Nat.lt_of_le_of_lt (ndf_le _ _) hr
  have hb : (rest ||| 2 ^ t).testBit t = true := by rw [fb_bit_set]; simp
  have hlt : rest ||| 2 ^ t < 2 ^ (t + 1) := or_b (Nat.lt_of_lt_of_le hr (Nat.pow_le_pow_right (by decide) (by omega))) (pow_le (by omega))
  have e1 : bst W (rest ||| 2 ^ t) (r + 1) = kp (cl W) (t + 1) (r + 1) (rest ||| 2 ^ t) := by
    have := kp_hi (cl := cl W) hlt (8 - (t + 1)) (r + 1)
    rw [show t + 1 + (8 - (t + 1)) = 8 by omega] at this
    exact this
  have e2 : bst W rest (r + 1) = kp (cl W) t (r + 1) rest := by
    have := kp_hi (cl := cl W) hr (8 - t) (r + 1)
    rw [show t + (8 - t) = 8 by omega] at this
    exact this
  have e3 : bst W (ndf rest (cl W t)) r = kp (cl W) t r (ndf rest (cl W t)) := by
    have := kp_hi (cl := cl W) hn (8 - t) r
    rw [show t + (8 - t) = 8 by omega] at this
    exact this
  have lo : ∀ i, i < t → (rest ||| 2 ^ t).testBit i = rest.testBit i := fun i hi => by
    rw [fb_bit_set, decide_eq_false (by omega), Bool.or_false]
  rw [e1, kp, hb, if_pos rfl, kp_lo t (r + 1) _ rest lo, kp_lo t r (ndf (rest ||| 2 ^ t) (cl W t)) (ndf rest (cl W t)) (fun i hi => by rw [ndf_bit, ndf_bit, lo i hi]), e2, e3]
theorem bst_r0 {W : Cn} (s : Nat) : bst W s 0 = 0 := by
  have : ∀ t, kp (cl W) t 0 s = 0 := by
    intro t
    induction t with
    | zero => rfl
    | succ t ih => exact ih
  exact this 8
theorem bst_s0 {W : Cn} (hc : symC (cl W)) (r : Nat) : bst W 0 r = 0 := bst_0 hc r
/-- rows of the table that are right -/
def TB (W : Cn) (r : Nat) (m : Mm) : Prop := ∀ s, s < 256 → mI m 23 (r * 256 + s) = nI (bst W s r)
theorem C_fillOf {W : Cn} {S : Sk} (hL : Lay S) {a : Nat} (ha : 71 ≤ a) {mm : Mm} (h : VO W a mm) (ok : okW W) {r : Nat} (hr : r < 4) (hT : TB W r mm) (hz : mI mm 23 ((r + 1) * 256) = nI 0) : ∃ m, m_X2_fillKeepableOf S a 23 (nI (r + 1)) mm = some m ∧ TB W (r + 1) m ∧ (∀ p j, (p = 23 → j < (r + 1) * 256 ∨ (r + 2) * 256 ≤ j ∨ j = (r + 1) * 256) → mI m p j = mI mm p j ∧ mL m p j = mL mm p j) := by
  obtain ⟨wf, hc, ho⟩ := ok
  have f8 := wf.2.2.2.2.2.2.2.1
  have h23 : (sK S 23).2 = 1280 := by rw [lk_23 hL]
  unfold m_X2_fillKeepableOf
  rw [o_id]
  obtain ⟨m, e, h1, h2⟩ := loop_n (body := m_X2_fillKeepableOf_b16 23 (nI (r + 1)) a S) (a := ((0 : Int32), mm)) (fun t z => ∃ m, z = (nI t, m) ∧ (∀ s, s < 2 ^ t → mI m 23 ((r + 1) * 256 + s) = nI (bst W s (r + 1))) ∧ (∀ p j, (p = 23 → j < (r + 1) * 256 ∨ (r + 2) * 256 ≤ j ∨ j = (r + 1) * 256) → mI m p j = mI mm p j ∧ mL m p j = mL mm p j)) (fun m => (∀ s, s < 2 ^ 8 → mI m 23 ((r + 1) * 256 + s) = nI (bst W s (r + 1))) ∧ (∀ p j, (p = 23 → j < (r + 1) * 256 ∨ (r + 2) * 256 ≤ j ∨ j = (r + 1) * 256) → mI m p j = mI mm p j ∧ mL m p j = mL mm p j)) 8 (FU_big (by decide)) ⟨mm, rfl, fun s hs => by
      have : s = 0 := by simpa using hs
      rw [this, Nat.add_zero, hz, bst_s0 hc], fun _ _ _ => ⟨rfl, rfl⟩⟩ (by
    rintro t z ht ⟨m, rfl, g1, g2⟩
    have p8 : 2 ^ t < 2 ^ 8 := pow_le ht
    have p9 : 2 ^ (t + 1) = 2 ^ t + 2 ^ t := by rw [Nat.pow_succ]; omega
    obtain ⟨m2, e2, y1, y2⟩ := loop_n (body := m_X2_fillKeepableOf_b26 23 (nI (r + 1)) a S (nI t, m)) (a := (nI 0, m)) (fun i z => ∃ m', z = (nI i, m') ∧ (∀ s, s < 2 ^ t + i → mI m' 23 ((r + 1) * 256 + s) = nI (bst W s (r + 1))) ∧ (∀ p j, (p = 23 → j < (r + 1) * 256 ∨ (r + 2) * 256 ≤ j ∨ j = (r + 1) * 256) → mI m' p j = mI mm p j ∧ mL m' p j = mL mm p j)) (fun m' => (∀ s, s < 2 ^ (t + 1) → mI m' 23 ((r + 1) * 256 + s) = nI (bst W s (r + 1))) ∧ (∀ p j, (p = 23 → j < (r + 1) * 256 ∨ (r + 2) * 256 ≤ j ∨ j = (r + 1) * 256) → mI m' p j = mI mm p j ∧ mL m' p j = mL mm p j)) (2 ^ t) (FU_big (by omega)) ⟨m, rfl, g1, g2⟩ (by
      rintro i z hi ⟨m', rfl, w1, w2⟩
      have c5 : mI m' (a + 1 + 4) t = nI (cl W t) := by
        rw [(w2 (a + 1 + 4) t (fun q => by omega)).1]
        exact h.2.2.2.2.2.2.1 t ht
      have nl := ndf_le i (cl W t)
      have row : ∀ s, s < 256 → mI m' 23 (r * 256 + s) = nI (bst W s r) := fun s hs => by
        rw [(w2 23 _ (fun _ => Or.inl (by omega))).1]
        exact hT s hs
      have q1 := w1 i (by omega)
      have q2 := row (ndf i (cl W t)) (by omega)
      have b1 := bst_b W hc i (r + 1)
      have b2 := bst_b W hc (ndf i (cl W t)) r
      have b3 : bst W (ndf i (cl W t)) r ||| 2 ^ t < 2 ^ 8 := or_b b2 p8
      have orw : i ||| 2 ^ t = i + 2 ^ t := or_add hi
      have hor : i ||| 2 ^ t < 256 := or_b (n := 8) (show i < 2 ^ 8 by omega) p8
      have pl1 := pc_le (bst W i (r + 1))
      have pl2 := pc_le (bst W (ndf i (cl W t)) r ||| 2 ^ t)
      unfold m_X2_fillKeepableOf_b26
      simp (disch := omega) only [zz_0, zz_1, zz_2, zz_3, zz_4, zz_5, zz_6, zz_7, zz_8, zz_9, zz_10, zz_11, zz_12, zz_13, zz_14, zz_15, zz_16, zz_20, zz_24, zz_25, zz_26, zz_28, zz_31, zz_32, zz_36, zz_39, zz_40, zz_48, zz_49, zz_50, zz_57, zz_59, zz_60, zz_64, zz_72, zz_97, zz_99, zz_100, zz_122, zz_144, zz_161, zz_255, zz_256, zz_288, zz_322, zz_384, zz_400, zz_448, zz_600, zz_1280, zz_1000000, h23, n_ix, c5, n_mul, n_sub, n_m1, n_andn, n_shl1, fa_or, nI_add, n_le, n_grd, q1, show (r + 1) * 256 - 256 = r * 256 by omega, q2, bitc_eq]
      rw [if_neg (by omega)]
      refine ⟨_, rfl, _, rfl, fun s hs => ?_, fun p j hp => ?_⟩
      · rw [rdI_sm]
        by_cases es : s = i + 2 ^ t
        · rw [if_pos (by rw [es, orw]), es, ← orw, bst_top ht hi]
          by_cases hlt : pc (bst W i (r + 1)) < pc (bst W (ndf i (cl W t)) r ||| 2 ^ t)
          · simp only [if_pos hlt, if_neg (show ¬ pc (bst W (ndf i (cl W t)) r ||| 2 ^ t) ≤ pc (bst W i (r + 1)) by omega), if_neg n10]
          · simp only [if_neg hlt, if_pos (show pc (bst W (ndf i (cl W t)) r ||| 2 ^ t) ≤ pc (bst W i (r + 1)) by omega), if_true]
        · rw [if_neg (by omega)]
          exact w1 s (by omega)
      · have := w2 p j hp
        refine ⟨?_, this.2⟩
        rw [rdI, if_neg]
        · exact this.1
        · rintro ⟨rfl, rfl⟩
          have := hp rfl
          omega) (by
      rintro z ⟨m', rfl, w1, w2⟩
      unfold m_X2_fillKeepableOf_b26
      simp (disch := omega) only [zz_0, zz_1, zz_2, zz_3, zz_4, zz_5, zz_6, zz_7, zz_8, zz_9, zz_10, zz_11, zz_12, zz_13, zz_14, zz_15, zz_16, zz_20, zz_24, zz_25, zz_26, zz_28, zz_31, zz_32, zz_36, zz_39, zz_40, zz_48, zz_49, zz_50, zz_57, zz_59, zz_60, zz_64, zz_72, zz_97, zz_99, zz_100, zz_122, zz_144, zz_161, zz_255, zz_256, zz_288, zz_322, zz_384, zz_400, zz_448, zz_600, zz_1280, zz_1000000, nI_add, n_mul, n_sub, fa_or, fa_and, fb_xorI, n_div, n_rem, n_le, n_lt, n_eq, n_shl1, n_shr, n_andn, n_ix, n_grd, n_gdz, n_gbz, n_hasM, n_hasC, b2_0, b2_1, n_m1, ob_s, bs_l, bs_r, n_max, n_min, n_grt, n_les]
      rw [if_pos (by omega)]
      exact ⟨_, rfl, fun s hs => w1 s (by omega), w2⟩)
    unfold m_X2_fillKeepableOf_b16
    simp (disch := omega) only [zz_0, zz_1, zz_2, zz_3, zz_4, zz_5, zz_6, zz_7, zz_8, zz_9, zz_10, zz_11, zz_12, zz_13, zz_14, zz_15, zz_16, zz_20, zz_24, zz_25, zz_26, zz_28, zz_31, zz_32, zz_36, zz_39, zz_40, zz_48, zz_49, zz_50, zz_57, zz_59, zz_60, zz_64, zz_72, zz_97, zz_99, zz_100, zz_122, zz_144, zz_161, zz_255, zz_256, zz_288, zz_322, zz_384, zz_400, zz_448, zz_600, zz_1280, zz_1000000, n_le]
    rw [if_neg (by omega), e2, ob_s, nI_add]
    exact ⟨_, rfl, m2, rfl, y1, y2⟩) (by
    rintro z ⟨m, rfl, g1, g2⟩
    unfold m_X2_fillKeepableOf_b16
    simp (disch := omega) only [zz_0, zz_1, zz_2, zz_3, zz_4, zz_5, zz_6, zz_7, zz_8, zz_9, zz_10, zz_11, zz_12, zz_13, zz_14, zz_15, zz_16, zz_20, zz_24, zz_25, zz_26, zz_28, zz_31, zz_32, zz_36, zz_39, zz_40, zz_48, zz_49, zz_50, zz_57, zz_59, zz_60, zz_64, zz_72, zz_97, zz_99, zz_100, zz_122, zz_144, zz_161, zz_255, zz_256, zz_288, zz_322, zz_384, zz_400, zz_448, zz_600, zz_1280, zz_1000000, n_le]
    rw [if_pos (by omega)]
    exact ⟨_, rfl, g1, g2⟩)
  exact ⟨m, e, h1, h2⟩
theorem C_fill {W : Cn} {S : Sk} (hL : Lay S) {a : Nat} (ha : 71 ≤ a) {mm : Mm} (h : VO W a mm) (ok : okW W) (h0 : TB W 0 mm) (hz : ∀ r, r < 5 → mI mm 23 (r * 256) = nI 0) : ∃ m, m_X2_fillKeepable S a 23 mm = some m ∧ (∀ r, r < 5 → TB W r m) ∧ agx [(23, none)] mm m := by
  have h23 : (sK S 23).2 = 1280 := by rw [lk_23 hL]
  unfold m_X2_fillKeepable
  rw [o_id]
  obtain ⟨m, e, g1, g2⟩ := loop_n (body := m_X2_fillKeepable_b2 23 a S) (a := ((1 : Int32), mm)) (fun i z => ∃ m, z = (nI (i + 1), m) ∧ (∀ r, r < i + 1 → TB W r m) ∧ (∀ r, r < 5 → mI m 23 (r * 256) = nI 0) ∧ VO W a m ∧ agx [(23, none)] mm m) (fun m => (∀ r, r < 5 → TB W r m) ∧ agx [(23, none)] mm m) 4 (FU_big (by decide)) ⟨mm, rfl, fun r hr => by rw [show r = 0 by omega]; exact h0, hz, h, agx_rf _⟩ (by
    rintro i z hi ⟨m, rfl, w1, w2, w3, w4⟩
    obtain ⟨m', e', y1, y2⟩ := C_fillOf hL ha w3 ok hi (w1 i (by omega)) (w2 (i + 1) (by omega))
    unfold m_X2_fillKeepable_b2
    rw [h23, show Int32.ofNat 1280 = nI 1280 from rfl]
    simp (disch := omega) only [zz_0, zz_1, zz_2, zz_3, zz_4, zz_5, zz_6, zz_7, zz_8, zz_9, zz_10, zz_11, zz_12, zz_13, zz_14, zz_15, zz_16, zz_20, zz_24, zz_25, zz_26, zz_28, zz_31, zz_32, zz_36, zz_39, zz_40, zz_48, zz_49, zz_50, zz_57, zz_59, zz_60, zz_64, zz_72, zz_97, zz_99, zz_100, zz_122, zz_144, zz_161, zz_255, zz_256, zz_288, zz_322, zz_384, zz_400, zz_448, zz_600, zz_1280, zz_1000000, n_lt, nI_add, n_mul]
    rw [if_neg (by omega), if_neg (by omega), e', ob_s]
    have ag : agx [(23, none)] m m' := fun p j hp => y2 p j (fun e => by rw [e] at hp; simp [covB] at hp)
    refine ⟨_, rfl, m', rfl, fun r hr => ?_, fun r hr => ?_, ?_, agx_tr w4 ag⟩
    · by_cases er : r = i + 1
      · rw [er]; exact y1
      · intro s hs
        rw [(y2 23 _ (fun _ => Or.inl (by omega))).1]
        exact w1 r (by omega) s hs
    · by_cases er : r = i + 1
      · rw [er]
        have := y1 0 (by decide)
        rwa [Nat.add_zero, bst_s0 ok.2.1] at this
      · rw [(y2 23 _ (fun _ => by omega)).1]
        exact w2 r hr
    · have e9 : ∀ p j, 71 ≤ p → mI m' p j = mI m p j := fun p j hp => (y2 p j (fun q => by omega)).1
      unfold VO at w3 ⊢
      simp (disch := omega) only [e9]
      exact w3) (by
    rintro z ⟨m, rfl, w1, w2, w3, w4⟩
    unfold m_X2_fillKeepable_b2
    simp (disch := omega) only [zz_0, zz_1, zz_2, zz_3, zz_4, zz_5, zz_6, zz_7, zz_8, zz_9, zz_10, zz_11, zz_12, zz_13, zz_14, zz_15, zz_16, zz_20, zz_24, zz_25, zz_26, zz_28, zz_31, zz_32, zz_36, zz_39, zz_40, zz_48, zz_49, zz_50, zz_57, zz_59, zz_60, zz_64, zz_72, zz_97, zz_99, zz_100, zz_122, zz_144, zz_161, zz_255, zz_256, zz_288, zz_322, zz_384, zz_400, zz_448, zz_600, zz_1280, zz_1000000, n_lt]
    rw [if_pos (by omega)]
    exact ⟨_, rfl, w1, w4⟩)
  exact ⟨m, e, g1, g2⟩
theorem cpO {n : Nat} (hn : n ≤ 12) {t n0 n1 : Nat} (ht : t = 20) (h0 : n ≤ n0) (h1 : n ≤ n1) (f : Nat → Int32) : cpOK t n0 n1 0 0 (nI n) f := by
  subst ht
  refine ⟨by decide, by decide, ?_, ?_, ?_, fun i _ => rfl⟩
  · rw [zz_0, n_lt (by omega) (by decide)]; omega
  · rw [ix0, n_ix (by omega)]; omega
  · rw [ix0, n_ix (by omega)]; omega
theorem rdCpN {m : Mm} {a sp b dp n x : Nat} (j : Nat) (h : x ≠ b) : mI (cpM m a sp b dp n) x j = mI m x j := by rw [rdCp, if_neg (fun q => h q.1)]
theorem rdCpY {m : Mm} {a b n j : Nat} (h : j < n) : mI (cpM m a 0 b 0 n) b j = mI m a j := by
  rw [rdCp, if_pos ⟨rfl, Nat.zero_le _, by omega⟩, show 0 + (j - 0) = j by omega]
/-- the table as it stands in the class -/
def TBI (S : Sk) (m : Mm) : Prop := (∀ s, s < 256 → mI m 23 s = nI 0) ∧ (∀ r, r < 5 → mI m 23 (r * 256) = nI 0) ∧ ∀ c, sR S 14 11 = some c → 71 ≤ c ∧ KD S c 2 ∧ ∃ W, VO W c m ∧ okW W ∧ ∀ r, r < 5 → TB W r m
theorem VO_one {W V : Cn} {a : Nat} {m : Mm} (h : VO W a m) (h' : VO V a m) (hw : okW W) (hv : okW V) : ∀ t, t < 8 → cl W t = cl V t := fun t ht => by
  have e := (h.2.2.2.2.2.2.1 t ht).symm.trans (h'.2.2.2.2.2.2.1 t ht)
  exact (nI_eq (by have := hw.1.2.2.2.2.2.2.2.1 t; omega) (by have := hv.1.2.2.2.2.2.2.2.1 t; omega)).mp e
theorem kp_cl {f g : Nat → Nat} : ∀ t, (∀ i, i < t → f i = g i) → ∀ r s, kp f t r s = kp g t r s
  | 0, _, 0, _ => rfl
  | 0, _, _ + 1, _ => rfl
  | t + 1, h, 0, s => kp_cl t (fun i hi => h i (by omega)) 0 s
  | t + 1, h, r + 1, s => by
    rw [kp, kp, h t (by omega), kp_cl t (fun i hi => h i (by omega)) (r + 1) s, kp_cl t (fun i hi => h i (by omega)) r _]
theorem C_begin {W : Cn} {S : Sk} (hL : Lay S) {a : Nat} (ha : 71 ≤ a) (hk : KD S a 2) {mm : Mm} (h : VO W a mm) (ok : okW W) (hv : ∀ i, vs W i = 0) (hT : TBI S mm) : ∃ S' m, m_X7_begin S a mm = some (S', m) ∧ VC W m ∧ (S' = S ∨ S' = sRs S 14 11 (some a)) ∧ sR S' 14 11 = some a ∧ (∀ r, r < 5 → TB W r m) ∧ agx [(14, some 0), (14, some 1), (15, none), (16, none), (17, none), (18, none), (19, none), (20, none), (21, none), (22, none), (23, none)] mm m := by
  have h' := h
  obtain ⟨o8, o9, o1, o2, o3, o4, o5, o6, o7, o10⟩ := h'
  unfold m_X7_begin
  rw [rdI_ne _ _ _ _ (by omega), o8, o9]
  simp only [show (6 : Int32) = nI 6 from rfl, show (8 : Int32) = nI 8 from rfl, show (12 : Int32) = nI 12 from rfl, ix0, n_ix (show 6 < 2147483648 by decide), n_ix (show 8 < 2147483648 by decide), n_ix (show 12 < 2147483648 by decide)]
  rw [gP_pos (cpO (by decide) rfl (by decide) (by decide) _), gP_pos (cpO (by decide) rfl (by decide) (by decide) _), gP_pos (cpO (by decide) rfl (by decide) (by decide) _), gP_pos (cpO (by decide) rfl (by decide) (by decide) _), gP_pos (cpO (by decide) rfl (by decide) (by decide) _), gP_pos (cpO (by decide) rfl (by decide) (by decide) _), gP_pos (cpO (by decide) rfl (by decide) (by decide) _)]
  have A0 : agx [(14, some 0), (14, some 1), (15, none), (16, none), (17, none), (18, none), (19, none), (20, none), (21, none), (22, none), (23, none)] mm (cpM (cpM (cpM (cpM (cpM (cpM (cpM (sI (sI mm 14 0 (nI (fk W))) 14 1 (nI (oa W))) (a + 1 + 0) 0 15 0 6) (a + 1 + 1) 0 16 0 6) (a + 1 + 2) 0 17 0 6) (a + 1 + 3) 0 19 0 8) (a + 1 + 5) 0 20 0 12) (a + 1 + 6) 0 21 0 12) (a + 1 + 7) 0 22 0 12) := agx_cp (agx_cp (agx_cp (agx_cp (agx_cp (agx_cp (agx_cp (agx_wr (agx_wr (agx_rf _) (by rfl)) (by rfl)) (fun j => rfl)) (fun j => rfl)) (fun j => rfl)) (fun j => rfl)) (fun j => rfl)) (fun j => rfl)) (fun j => rfl)
  have R : ∀ q, q = cpM (cpM (cpM (cpM (cpM (cpM (cpM (sI (sI mm 14 0 (nI (fk W))) 14 1 (nI (oa W))) (a + 1 + 0) 0 15 0 6) (a + 1 + 1) 0 16 0 6) (a + 1 + 2) 0 17 0 6) (a + 1 + 3) 0 19 0 8) (a + 1 + 5) 0 20 0 12) (a + 1 + 6) 0 21 0 12) (a + 1 + 7) 0 22 0 12 → mI q 14 0 = nI (fk W) ∧ mI q 14 1 = nI (oa W) ∧ (∀ p, p < 6 → mI q 15 p = nI (wl W p)) ∧ (∀ p, p < 6 → mI q 16 p = nI (rm W p)) ∧ (∀ p, p < 6 → mI q 17 p = nI (lk W p)) ∧ (∀ t, t < 8 → mI q 19 t = nI (hd W t)) ∧ (∀ k, k < 12 → mI q 20 k = nI (sw W k)) ∧ (∀ k, k < 12 → mI q 21 k = nI (bd W k)) ∧ (∀ k, k < 12 → mI q 22 k = nI (th W k)) := by
    rintro q rfl
    refine ⟨?_, ?_, fun p hp => ?_, fun p hp => ?_, fun p hp => ?_, fun p hp => ?_, fun p hp => ?_, fun p hp => ?_, fun p hp => ?_⟩
    · simp (disch := omega) only [rdCpN, rdI_nj, rdI_eq]
    · simp (disch := omega) only [rdCpN, rdI_eq]
    · simp (disch := omega) only [rdCpN, rdCpY, rdI_ne]; exact o1 p hp
    · simp (disch := omega) only [rdCpN, rdCpY, rdI_ne]; exact o2 p hp
    · simp (disch := omega) only [rdCpN, rdCpY, rdI_ne]; exact o3 p hp
    · simp (disch := omega) only [rdCpN, rdCpY, rdI_ne]; exact o4 p hp
    · simp (disch := omega) only [rdCpN, rdCpY, rdI_ne]; exact o6 p hp
    · simp (disch := omega) only [rdCpN, rdCpY, rdI_ne]; exact o7 p hp
    · simp (disch := omega) only [rdCpN, rdCpY, rdI_ne]; exact o10 p hp
  generalize hq : cpM (cpM (cpM (cpM (cpM (cpM (cpM (sI (sI mm 14 0 (nI (fk W))) 14 1 (nI (oa W))) (a + 1 + 0) 0 15 0 6) (a + 1 + 1) 0 16 0 6) (a + 1 + 2) 0 17 0 6) (a + 1 + 3) 0 19 0 8) (a + 1 + 5) 0 20 0 12) (a + 1 + 6) 0 21 0 12) (a + 1 + 7) 0 22 0 12 = q at *
  obtain ⟨r0, r1, r15, r16, r17, r19, r20, r21, r22⟩ := R q rfl
  clear R
  obtain ⟨m1', e1, z18, zA⟩ := loop_n (body := m_X7_begin_b123) (a := ((0 : Int32), q)) (fun i z => ∃ m, z = (nI i, m) ∧ (∀ j, j < i → mI m 18 j = nI 0) ∧ agx [(18, none)] q m) (fun m => (∀ j, j < 36 → mI m 18 j = nI 0) ∧ agx [(18, none)] q m) 36 (FU_big (by decide)) ⟨q, rfl, fun j hj => absurd hj (Nat.not_lt_zero j), agx_rf _⟩ (by
    rintro i z hi ⟨m, rfl, hz, hA⟩
    unfold m_X7_begin_b123
    simp (disch := omega) only [zz_0, zz_1, zz_2, zz_3, zz_4, zz_5, zz_6, zz_7, zz_8, zz_9, zz_10, zz_11, zz_12, zz_13, zz_14, zz_15, zz_16, zz_20, zz_24, zz_25, zz_26, zz_28, zz_31, zz_32, zz_36, zz_39, zz_40, zz_48, zz_49, zz_50, zz_57, zz_59, zz_60, zz_64, zz_72, zz_97, zz_99, zz_100, zz_122, zz_144, zz_161, zz_255, zz_256, zz_288, zz_322, zz_384, zz_400, zz_448, zz_600, zz_1280, zz_1000000, nI_add, n_mul, n_sub, fa_or, fa_and, fb_xorI, n_div, n_rem, n_le, n_lt, n_eq, n_shl1, n_shr, n_andn, n_ix, n_grd, n_gdz, n_gbz, n_hasM, n_hasC, b2_0, b2_1, n_m1, ob_s, bs_l, bs_r, n_max, n_min, n_grt, n_les]
    rw [if_neg (by omega)]
    refine ⟨_, rfl, _, rfl, fun j hj => ?_, agx_wr hA (by rfl)⟩
    rw [rdI_sm]
    by_cases e : j = i
    · rw [if_pos e]
    · rw [if_neg e]; exact hz j (by omega)) (by
    rintro z ⟨m, rfl, hz, hA⟩
    unfold m_X7_begin_b123
    simp (disch := omega) only [zz_0, zz_1, zz_2, zz_3, zz_4, zz_5, zz_6, zz_7, zz_8, zz_9, zz_10, zz_11, zz_12, zz_13, zz_14, zz_15, zz_16, zz_20, zz_24, zz_25, zz_26, zz_28, zz_31, zz_32, zz_36, zz_39, zz_40, zz_48, zz_49, zz_50, zz_57, zz_59, zz_60, zz_64, zz_72, zz_97, zz_99, zz_100, zz_122, zz_144, zz_161, zz_255, zz_256, zz_288, zz_322, zz_384, zz_400, zz_448, zz_600, zz_1280, zz_1000000, nI_add, n_mul, n_sub, fa_or, fa_and, fb_xorI, n_div, n_rem, n_le, n_lt, n_eq, n_shl1, n_shr, n_andn, n_ix, n_grd, n_gdz, n_gbz, n_hasM, n_hasC, b2_0, b2_1, n_m1, ob_s, bs_l, bs_r, n_max, n_min, n_grt, n_les]
    rw [if_pos (by omega)]
    exact ⟨_, rfl, hz, hA⟩)
  rw [e1, ob_s]
  have zz : ∀ p j, p ≠ 18 → mI m1' p j = mI q p j := fun p j hp => (zA p j (by
    cases hcv : covB [(18, none)] p j with
    | false => rfl
    | true => exfalso; simp [covB] at hcv; omega)).1
  have A1 : agx [(14, some 0), (14, some 1), (15, none), (16, none), (17, none), (18, none), (19, none), (20, none), (21, none), (22, none), (23, none)] mm m1' := agx_tr A0 (agx_mono (by rfl) zA)
  have hO : VO W a m1' := by
    have e9 : ∀ p j, 71 ≤ p → mI m1' p j = mI mm p j := fun p j hp => (A1 p j (hi_cov (by rfl) hp j)).1
    unfold VO at h ⊢
    simp (disch := omega) only [e9]
    exact h
  have t23 : ∀ j, mI m1' 23 j = mI mm 23 j := fun j => by
    rw [zz 23 j (by decide), ← hq]
    simp (disch := omega) only [rdCpN, rdI_ne]
  have mk : ∀ m, (∀ p j, p ≠ 23 → mI m p j = mI m1' p j) → (∀ r, r < 5 → TB W r m) → VC W m := fun m hm hTB => by
    refine ⟨?_, ?_, ok.2.2, fun p hp => ?_, fun p hp => ?_, fun p hp => ?_, fun i hi => ?_, fun t ht => ?_, fun k hk => ?_, fun k hk => ?_, fun k hk => ?_, fun r s hr hs => hTB r (by omega) s hs⟩
    · rw [hm _ _ (by decide), zz _ _ (by decide)]; exact r0
    · rw [hm _ _ (by decide), zz _ _ (by decide)]; exact r1
    · rw [hm _ _ (by decide), zz _ _ (by decide)]; exact r15 p hp
    · rw [hm _ _ (by decide), zz _ _ (by decide)]; exact r16 p hp
    · rw [hm _ _ (by decide), zz _ _ (by decide)]; exact r17 p hp
    · rw [hm _ _ (by decide), z18 i hi, hv i]
    · rw [hm _ _ (by decide), zz _ _ (by decide)]; exact r19 t ht
    · rw [hm _ _ (by decide), zz _ _ (by decide)]; exact r20 k (by have := ok.2.2; omega)
    · rw [hm _ _ (by decide), zz _ _ (by decide)]; exact r21 k (by have := ok.2.2; omega)
    · rw [hm _ _ (by decide), zz _ _ (by decide)]; exact r22 k (by have := ok.2.2; omega)
  by_cases hs : (some a : Option Nat) = sR S 14 11
  · rw [if_pos hs]
    obtain ⟨_, _, V, hVO, okV, hTV⟩ := hT.2.2 a hs.symm
    have hTB : ∀ r, r < 5 → TB W r m1' := fun r hr s hs' => by
      have e9 : bst V s r = bst W s r := kp_cl 8 (fun i hi => VO_one hVO h okV ok i hi) r s
      rw [t23, hTV r hr s hs', e9]
    exact ⟨S, m1', rfl, mk m1' (fun _ _ _ => rfl) hTB, Or.inl rfl, hs.symm, hTB, A1⟩
  · rw [if_neg hs]
    obtain ⟨m2, e2, hTB, A2⟩ := C_fill hL ha hO ok (fun s hs => by rw [Nat.zero_mul, Nat.zero_add, t23, hT.1 s hs, bst_r0]) (fun r hr => by rw [t23]; exact hT.2.1 r hr)
    rw [e2, ob_s]
    refine ⟨_, m2, rfl, mk m2 (fun p j hp => (A2 p j (by
      cases hcv : covB [(23, none)] p j with
      | false => rfl
      | true => exfalso; simp [covB] at hcv; omega)).1) hTB, Or.inr rfl, by rw [rdR, if_pos ⟨rfl, rfl⟩], hTB, agx_tr A1 (agx_mono (by rfl) A2)⟩
