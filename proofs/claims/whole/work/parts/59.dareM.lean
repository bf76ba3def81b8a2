/-! L3: dare by the reference -/
def extW (W V : Cn) : Prop := oa W ≤ oa V ∧ fk V = fk W ∧ (∀ x, 1 ≤ x → x ≤ 6 → V x = W x) ∧ ∀ k, k < oa W → sw V k = sw W k ∧ bd V k = bd W k ∧ th V k = th W k
theorem extW_rf (W : Cn) : extW W W := ⟨Nat.le_refl _, rfl, fun _ _ _ => rfl, fun _ _ => ⟨rfl, rfl, rfl⟩⟩
theorem extW_add {W V : Cn} (h : extW W V) (a b t : Nat) : extW W (addO V a b t) := by
  obtain ⟨h1, h2, h3, h4⟩ := h
  refine ⟨by rw [addO_oa]; omega, h2, fun x hx hx2 => ?_, fun k hk => ?_⟩
  · rw [← h3 x hx hx2]
    have : x = 1 ∨ x = 2 ∨ x = 3 ∨ x = 4 ∨ x = 5 ∨ x = 6 := by omega
    rcases this with rfl | rfl | rfl | rfl | rfl | rfl
    · exact addO_wl V a b t
    · exact addO_rm V a b t
    · exact addO_lk V a b t
    · exact addO_vs V a b t
    · exact addO_hd V a b t
    · exact addO_cl V a b t
  · rw [addO_sw, addO_bd, addO_th, if_neg (by omega), if_neg (by omega), if_neg (by omega)]
    exact h4 k hk
theorem VM_drop {W V : Cn} {st c : Nat} {mm : Mm} (h : VM V st c mm) (e : extW W V) : VM W st c (sI mm 44 25 (nI (oa W))) := by
  obtain ⟨⟨hc, v23⟩, v24, v25, v26, v56, v57, v58, v59, v60, v61, v62, v20, v28⟩ := h
  obtain ⟨h1, h2, h3, h4⟩ := e
  have e4 : ∀ j, j ≠ 25 → mI (sI mm 44 25 (nI (oa W))) 44 j = mI mm 44 j := fun j hj => rdI_nj _ _ _ _ hj
  have ep : ∀ p j, p ≠ 44 → mI (sI mm 44 25 (nI (oa W))) p j = mI mm p j := fun p j hp => rdI_ne _ _ _ _ hp
  refine ⟨⟨hc, ?_⟩, ?_, rdI_eq _ _ _ _, ?_, fun p hp => ?_, fun p hp => ?_, fun p hp => ?_, fun p hp => ?_, fun k hk => ?_, fun k hk => ?_, fun k hk => ?_, fun p hp => ?_, fun p hp => ?_⟩
  · rw [e4 _ (by decide)]; exact v23
  · rw [e4 _ (by decide), v24, h2]
  · rw [e4 _ (by decide)]; exact v26
  · rw [ep _ _ (by decide), v56 p hp]; exact congrArg nI (congrFun (h3 1 (by decide) (by decide)) p)
  · rw [ep _ _ (by decide), v57 p hp]; exact congrArg nI (congrFun (h3 2 (by decide) (by decide)) p)
  · rw [ep _ _ (by decide), v58 p hp]; exact congrArg nI (congrFun (h3 3 (by decide) (by decide)) p)
  · rw [ep _ _ (by decide), v59 p hp]; exact congrArg nI (congrFun (h3 4 (by decide) (by decide)) p)
  · rw [ep _ _ (by decide), v60 k (by omega), (h4 k hk).1]
  · rw [ep _ _ (by decide), v61 k (by omega), (h4 k hk).2.1]
  · rw [ep _ _ (by decide), v62 k (by omega), (h4 k hk).2.2]
  · rw [ep _ _ (by decide), v20 p hp]; exact congrArg nI (congrFun (h3 5 (by decide) (by decide)) p)
  · rw [ep _ _ (by decide), v28 p hp]; exact congrArg nI (congrFun (h3 6 (by decide) (by decide)) p)
theorem VM_wr {W : Cn} {st c : Nat} {mm : Mm} (h : VM W st c mm) {p : Nat} (hp : p < 44 ∨ 62 < p) (j : Nat) (v : Int32) : VM W st c (sI mm p j v) := by
  unfold VM at h ⊢
  simp (disch := omega) only [rdI_ne]
  exact h
theorem VM_wr44 {W : Cn} {st c : Nat} {mm : Mm} (h : VM W st c mm) {j : Nat} (hj : j < 23 ∨ 26 < j) (v : Int32) : VM W st c (sI mm 44 j v) := by
  unfold VM at h ⊢
  simp (disch := omega) only [rdI_nj, rdI_ne]
  exact h
theorem ext_hrt {W V : Cn} (e : extW W V) (p q : Nat) : hrt V p q = hrt W p q := by
  obtain ⟨h1, h2, h3, h4⟩ := e
  unfold hrt
  show V 1 q + (if (V 3 q).testBit p then 2 else 0) + V 4 (6 * p + q) = _
  rw [h3 1 (by decide) (by decide), h3 3 (by decide) (by decide), h3 4 (by decide) (by decide)]
theorem ext_bst {W V : Cn} (e : extW W V) (s r : Nat) : bst V s r = bst W s r := by
  unfold bst
  show kp (V 6) 8 r s = _
  rw [e.2.2.1 6 (by decide) (by decide)]
theorem ext_opn {W V : Cn} (e : extW W V) {t : Nat} (ht : t < 8) (x y p : Nat) : opn (addO V x y t) 0 p = opn V 0 p ||| (if p = y then rch W x y &&& 2 ^ t else 0) := by
  rw [addO_opn]
  congr 1
  by_cases hp : p = y
  · rw [if_pos hp, and_pow]
    rw [ext_hrt e, show hd V t = hd W t from congrFun (e.2.2.1 5 (by decide) (by decide)) t]
    by_cases h : hrt W x y < hd W t
    · rw [if_neg (fun q => q.2 h), if_neg]
      intro h2
      exact ((rch_bit x y t).mp h2).2 h
    · rw [if_pos ⟨hp, h⟩, if_pos ((rch_bit x y t).mpr ⟨ht, h⟩)]
  · rw [if_neg (fun q => hp q.1), if_neg hp]
/-- what is open to both behind the first turns, told by a number by nines -/
def dgt (W : Cn) (a b : Nat) : Nat → Nat → Nat × Nat
  | 0, _ => (opn W 0 a, opn W 0 b)
  | j + 1, k => if j % 2 = 0 then ((dgt W a b j (k / 9)).1, (dgt W a b j (k / 9)).2 ||| (rch W a b &&& 2 ^ (k % 9))) else ((dgt W a b j (k / 9)).1 ||| (rch W b a &&& 2 ^ (k % 9)), (dgt W a b j (k / 9)).2)
theorem rch_8 (W : Cn) (a b : Nat) : rch W a b &&& 2 ^ 8 = 0 := by
  rw [and_pow, if_neg]
  rw [Nat.testBit_lt_two_pow (rch_b W a b)]
  decide
def lev (W : Cn) (a b n k : Nat) : Nat := trn W a b 0 true (dgt W a b n k).1 (dgt W a b n k).2
theorem M_endOf {W V : Cn} {c : Nat} {mm : Mm} (h : VM V 0 c mm) (e : extW W V) (wf : WF W) (hc : symC (cl W)) (wo : oa W ≤ 12) (ht : mI mm 50 (72 * c + 1) = nI (oa W)) {a b n k : Nat} (ha : a < 6) (hb : b < 6) (hab : a ≠ b) (hn : n < 4) (hk : k < 729) : ∃ m V', m_X12_endOf (nI a) (nI b) (nI n) (nI k) mm = some (e8 (lev W a b n k), m) ∧ VM V' 0 c m ∧ extW W V' := by
  have e1 : m_X12_of (nI 1) mm = some (nI (oa W)) := by rw [M_of h (by decide), ht]
  have V0 := VM_drop h e
  unfold m_X12_endOf
  simp only [zz_0, zz_1, zz_2, zz_3, zz_4, zz_5, zz_6, zz_7, zz_8, zz_9, zz_10, zz_11, zz_12, zz_13, zz_14, zz_15, zz_16, zz_20, zz_24, zz_25, zz_26, zz_28, zz_31, zz_32, zz_36, zz_39, zz_40, zz_48, zz_49, zz_50, zz_57, zz_59, zz_60, zz_64, zz_72, zz_97, zz_99, zz_100, zz_122, zz_144, zz_161, zz_255, zz_256, zz_288, zz_322, zz_384, zz_400, zz_448, zz_600, zz_1280, zz_1000000]
  rw [e1, ob_s]
  obtain ⟨q, eq, V', hV, hE, hF, hA, hB⟩ := loop_n (body := m_X12_endOf_b18 (nI a) (nI b)) (a := (nI k, nI n - nI 1, sI mm 44 25 (nI (oa W)))) (fun i z => ∃ m U X Y, z = (nI (k / 9 ^ i), nI (n - i) - nI 1, m) ∧ VM U 0 c m ∧ extW W U ∧ WF U ∧ oa U ≤ oa W + i ∧ opn U 0 a = opn W 0 a ||| X ∧ opn U 0 b = opn W 0 b ||| Y ∧ (dgt W a b n k).1 = (dgt W a b (n - i) (k / 9 ^ i)).1 ||| X ∧ (dgt W a b n k).2 = (dgt W a b (n - i) (k / 9 ^ i)).2 ||| Y) (fun m => ∃ U, VM U 0 c m ∧ extW W U ∧ WF U ∧ opn U 0 a = (dgt W a b n k).1 ∧ opn U 0 b = (dgt W a b n k).2) n (FU_big (by omega)) ⟨_, W, 0, 0, by simp, V0, extW_rf W, wf, by omega, by simp, by simp, by simp, by simp⟩ (by
    rintro i z hi ⟨m, U, X, Y, rfl, hV, hE, hF, ho, hA, hB, h1, h2⟩
    have hkb : k / 9 ^ i ≤ k := Nat.div_le_self _ _
    obtain ⟨j, hj⟩ : ∃ j, n - i = j + 1 := ⟨n - i - 1, by omega⟩
    rw [hj] at h1 h2 ⊢
    have hj2 : n - (i + 1) = j := by omega
    rw [hj2]
    have hdd : k / 9 ^ (i + 1) = k / 9 ^ i / 9 := by rw [Nat.pow_succ, Nat.div_div_eq_div_mul]
    rw [hdd]
    generalize k / 9 ^ i = r at *
    rw [dgt] at h1 h2
    unfold m_X12_endOf_b18
    simp (disch := omega) only [zz_0, zz_1, zz_2, zz_3, zz_4, zz_5, zz_6, zz_7, zz_8, zz_9, zz_10, zz_11, zz_12, zz_13, zz_14, zz_15, zz_16, zz_20, zz_24, zz_25, zz_26, zz_28, zz_31, zz_32, zz_36, zz_39, zz_40, zz_48, zz_49, zz_50, zz_57, zz_59, zz_60, zz_64, zz_72, zz_97, zz_99, zz_100, zz_122, zz_144, zz_161, zz_255, zz_256, zz_288, zz_322, zz_384, zz_400, zz_448, zz_600, zz_1280, zz_1000000, n_m1, n_pm1, n_sub, show j + 1 - 1 = j from rfl, n_lt, n_rem, n_le, n_div, n_eq]
    rw [if_neg (by omega)]
    by_cases hv : 8 ≤ r % 9
    · have hv8 : r % 9 = 8 := by omega
      rw [if_pos hv, ob_s]
      refine ⟨_, rfl, m, U, X, Y, rfl, hV, hE, hF, by omega, hA, hB, ?_, ?_⟩
      · rw [h1]
        by_cases hp : j % 2 = 0
        · rw [if_pos hp]
        · rw [if_neg hp, hv8, rch_8, Nat.or_zero]
      · rw [h2]
        by_cases hp : j % 2 = 0
        · rw [if_pos hp, hv8, rch_8, Nat.or_zero]
        · rw [if_neg hp]
    · rw [if_neg hv]
      by_cases hp : j % 2 = 0
      · obtain ⟨m', a1, a2, _, _⟩ := VM_addO hV hF (a := a) (b := b) (t := r % 9) (by omega)
        rw [if_pos hp, if_pos hp, a1]
        simp only [ob_s]
        rw [if_pos hp] at h1 h2
        refine ⟨_, rfl, m', _, X, Y ||| (rch W a b &&& 2 ^ (r % 9)), rfl, a2, extW_add hE _ _ _, addO_WF hF ha hb (by omega) (by omega), by rw [addO_oa]; omega, ?_, ?_, h1, ?_⟩
        · rw [ext_opn hE (by omega), if_neg hab, hA, Nat.or_zero]
        · rw [ext_opn hE (by omega), if_pos rfl, hB, Nat.or_assoc]
        · rw [h2, Nat.or_assoc, Nat.or_comm _ Y]
      · obtain ⟨m', a1, a2, _, _⟩ := VM_addO hV hF (a := b) (b := a) (t := r % 9) (by omega)
        rw [if_neg hp, if_neg hp, a1]
        simp only [ob_s]
        rw [if_neg hp] at h1 h2
        refine ⟨_, rfl, m', _, X ||| (rch W b a &&& 2 ^ (r % 9)), Y, rfl, a2, extW_add hE _ _ _, addO_WF hF hb ha (by omega) (by omega), by rw [addO_oa]; omega, ?_, ?_, ?_, h2⟩
        · rw [ext_opn hE (by omega), if_pos rfl, hA, Nat.or_assoc]
        · rw [ext_opn hE (by omega), if_neg (fun q => hab q.symm), hB, Nat.or_zero]
        · rw [h1, Nat.or_assoc, Nat.or_comm _ X]) (by
    rintro z ⟨m, U, X, Y, rfl, hV, hE, hF, ho, hA, hB, h1, h2⟩
    unfold m_X12_endOf_b18
    rw [show n - n = 0 by omega] at h1 h2 ⊢
    simp only []
    rw [if_pos (by decide)]
    refine ⟨_, rfl, U, hV, hE, hF, ?_, ?_⟩
    · rw [h1, hA]; rfl
    · rw [h2, hB]; rfl)
  rw [eq, ob_s]
  have hcU : symC (cl V') := by
    show symC (V' 6)
    rw [hE.2.2.1 6 (by decide) (by decide)]; exact hc
  have k1 := M_keptBy hV hF hcU (by decide) hb
  have k2 := M_keptBy hV hF hcU (by decide) ha
  have b1 := kby_b hcU 0 b
  have b2 := kby_b hcU 0 a
  have kb : kby V' 0 b = bst W (dgt W a b n k).2 (rm W b) := by
    unfold kby
    rw [ext_bst hE, hB]
    exact congrArg (bst W _) (congrFun (hE.2.2.1 2 (by decide) (by decide)) b)
  have ka : kby V' 0 a = bst W (dgt W a b n k).1 (rm W a) := by
    unfold kby
    rw [ext_bst hE, hA]
    exact congrArg (bst W _) (congrFun (hE.2.2.1 2 (by decide) (by decide)) a)
  have p1 := pc_le8 b1
  have p2 := pc_le8 b2
  rw [k1, ob_s, ones_eq (by omega), ob_s, k2, ob_s, ones_eq (by omega), ob_s, e8_df _ (by omega) _ (by omega)]
  refine ⟨q, V', ?_, hV, hE⟩
  unfold lev
  rw [trn, kb, ka]
/-- the best of nine -/
def fmb (mo : Bool) (f : Nat → Nat) (i : Nat) : Nat := fo (fun t x => if mo then max x (f t) else min x (f t)) (if mo then 0 else 16) i
theorem fmb_all {mo : Bool} {f : Nat → Nat} (hf : ∀ t, f t < 17) : ∀ i, fmb mo f i < 17 ∧ ∀ j, j < i → if mo then f j ≤ fmb mo f i else fmb mo f i ≤ f j
  | 0 => by
    refine ⟨?_, fun j hj => absurd hj (Nat.not_lt_zero j)⟩
    cases mo
    · show 16 < 17; decide
    · show 0 < 17; decide
  | i + 1 => by
    obtain ⟨h1, h2⟩ := fmb_all (mo := mo) hf i
    have h3 := hf i
    have e : fmb mo f (i + 1) = if mo then max (fmb mo f i) (f i) else min (fmb mo f i) (f i) := rfl
    rw [e]
    cases mo
    · simp only [Bool.false_eq_true, if_false] at h2 ⊢
      refine ⟨by omega, fun j hj => ?_⟩
      by_cases hji : j = i
      · rw [hji]; omega
      · have := h2 j (by omega); omega
    · simp only [if_true] at h2 ⊢
      refine ⟨by omega, fun j hj => ?_⟩
      by_cases hji : j = i
      · rw [hji]; omega
      · have := h2 j (by omega); omega
theorem M_fold {mm : Mm} {A : Nat} (hA : A + 9 ≤ 729) (f : Nat → Nat) (hf : ∀ t, f t < 17) (hv : ∀ t, t < 9 → mI mm 67 (A + t) = e8 (f t)) (mo : Bool) : ∃ m w, m_X12_fold (nI A) (b2 mo) mm = some (e8 (fmb mo f 9), m) ∧ mI m 44 45 = nI w ∧ w < 9 ∧ f w = fmb mo f 9 ∧ ∀ j, j < w → f j ≠ fmb mo f 9 := by
  have fa := fmb_all (mo := mo) hf
  unfold m_X12_fold
  simp only [zz_0, zz_1, zz_2, zz_3, zz_4, zz_5, zz_6, zz_7, zz_8, zz_9, zz_10, zz_11, zz_12, zz_13, zz_14, zz_15, zz_16, zz_20, zz_24, zz_25, zz_26, zz_28, zz_31, zz_32, zz_36, zz_39, zz_40, zz_48, zz_49, zz_50, zz_57, zz_59, zz_60, zz_64, zz_72, zz_97, zz_99, zz_100, zz_122, zz_144, zz_161, zz_255, zz_256, zz_288, zz_322, zz_384, zz_400, zz_448, zz_600, zz_1280, zz_1000000, n_m1]
  obtain ⟨q, eq, w, h1, h2, h3, h4, h5⟩ := loop_n (body := m_X12_fold_b10 (nI A) (b2 mo)) (a := (nI 0, nI 0, sI mm 44 45 m1)) (fun i z => ∃ en m, z = (en, nI i, m) ∧ (∀ t, t < 9 → mI m 67 (A + t) = e8 (f t)) ∧ ((i = 0 ∧ mI m 44 45 = m1) ∨ (en = e8 (fmb mo f i) ∧ ∃ w, mI m 44 45 = nI w ∧ w < i ∧ f w = fmb mo f i ∧ ∀ j, j < w → f j ≠ fmb mo f i))) (fun q => ∃ w, q.1 = e8 (fmb mo f 9) ∧ mI q.2 44 45 = nI w ∧ w < 9 ∧ f w = fmb mo f 9 ∧ ∀ j, j < w → f j ≠ fmb mo f 9) 9 (FU_big (by decide)) ⟨_, _, rfl, fun t ht => by rw [rdI_ne _ _ _ _ (by decide)]; exact hv t ht, Or.inl ⟨rfl, rdI_eq _ _ _ _⟩⟩ (by
    rintro i z hi ⟨en, m, rfl, hm, hcase⟩
    have g1 := hm i hi
    have f1 := hf i
    obtain ⟨fb, fl⟩ := fa i
    have e : fmb mo f (i + 1) = if mo then max (fmb mo f i) (f i) else min (fmb mo f i) (f i) := rfl
    unfold m_X12_fold_b10
    simp (disch := omega) only [zz_0, zz_1, zz_2, zz_3, zz_4, zz_5, zz_6, zz_7, zz_8, zz_9, zz_10, zz_11, zz_12, zz_13, zz_14, zz_15, zz_16, zz_20, zz_24, zz_25, zz_26, zz_28, zz_31, zz_32, zz_36, zz_39, zz_40, zz_48, zz_49, zz_50, zz_57, zz_59, zz_60, zz_64, zz_72, zz_97, zz_99, zz_100, zz_122, zz_144, zz_161, zz_255, zz_256, zz_288, zz_322, zz_384, zz_400, zz_448, zz_600, zz_1280, zz_1000000, nI_add, n_mul, n_sub, fa_or, fa_and, fb_xorI, n_div, n_rem, n_le, n_lt, n_eq, n_shl1, n_shr, n_andn, n_ix, n_grd, n_gdz, n_gbz, n_hasM, n_hasC, b2_0, b2_1, n_m1, ob_s, bs_l, bs_r, n_max, n_min, n_grt, n_les, g1]
    rw [if_neg (by omega)]
    rcases hcase with ⟨hi0, hw⟩ | ⟨hen, w, hw, hwi, hfw, hwj⟩
    · rw [hw, if_pos rfl, if_pos rfl]
      subst hi0
      have e9 : fmb mo f (0 + 1) = f 0 := by
        rw [e, show fmb mo f 0 = if mo then 0 else 16 from rfl]
        cases mo
        · simp only [Bool.false_eq_true, if_false]; omega
        · simp only [if_true]; omega
      rw [e9]
      exact ⟨_, rfl, _, _, rfl, fun t ht => by rw [rdI_ne _ _ _ _ (by decide)]; exact hm t ht, Or.inr ⟨rfl, 0, rdI_eq _ _ _ _, by omega, rfl, fun j hj => by omega⟩⟩
    · rw [hw, if_neg (enc1_m1 (by omega)), if_neg (enc1_m1 (by omega)), hen]
      have c1 := (e8_cmp _ fb _ f1).1
      have c2 := (e8_cmp _ f1 _ fb).1
      cases mo
      · simp only [if_true, Bool.false_eq_true, if_false] at e fl ⊢
        by_cases hle : fmb false f i ≤ f i
        · rw [if_pos (c1.mpr hle), if_pos (c1.mpr hle)]
          have e2 : fmb false f (i + 1) = fmb false f i := by omega
          refine ⟨_, rfl, _, _, rfl, hm, Or.inr ⟨by rw [e2], w, hw, by omega, by rw [e2]; exact hfw, fun j hj => by rw [e2]; exact hwj j hj⟩⟩
        · rw [if_neg (fun q => hle (c1.mp q)), if_neg (fun q => hle (c1.mp q))]
          have e2 : fmb false f (i + 1) = f i := by omega
          refine ⟨_, rfl, _, _, rfl, fun t ht => by rw [rdI_ne _ _ _ _ (by decide)]; exact hm t ht, Or.inr ⟨by rw [e2], i, rdI_eq _ _ _ _, by omega, by rw [e2], fun j hj => ?_⟩⟩
          have := fl j hj
          omega
      · simp only [Bool.true_eq_false, if_true, if_false] at e fl ⊢
        by_cases hle : f i ≤ fmb true f i
        · rw [if_pos (c2.mpr hle), if_pos (c2.mpr hle)]
          have e2 : fmb true f (i + 1) = fmb true f i := by omega
          refine ⟨_, rfl, _, _, rfl, hm, Or.inr ⟨by rw [e2], w, hw, by omega, by rw [e2]; exact hfw, fun j hj => by rw [e2]; exact hwj j hj⟩⟩
        · rw [if_neg (fun q => hle (c2.mp q)), if_neg (fun q => hle (c2.mp q))]
          have e2 : fmb true f (i + 1) = f i := by omega
          refine ⟨_, rfl, _, _, rfl, fun t ht => by rw [rdI_ne _ _ _ _ (by decide)]; exact hm t ht, Or.inr ⟨by rw [e2], i, rdI_eq _ _ _ _, by omega, by rw [e2], fun j hj => ?_⟩⟩
          have := fl j hj
          omega) (by
    rintro z ⟨en, m, rfl, hm, hcase⟩
    unfold m_X12_fold_b10
    simp (disch := omega) only [zz_0, zz_1, zz_2, zz_3, zz_4, zz_5, zz_6, zz_7, zz_8, zz_9, zz_10, zz_11, zz_12, zz_13, zz_14, zz_15, zz_16, zz_20, zz_24, zz_25, zz_26, zz_28, zz_31, zz_32, zz_36, zz_39, zz_40, zz_48, zz_49, zz_50, zz_57, zz_59, zz_60, zz_64, zz_72, zz_97, zz_99, zz_100, zz_122, zz_144, zz_161, zz_255, zz_256, zz_288, zz_322, zz_384, zz_400, zz_448, zz_600, zz_1280, zz_1000000, nI_add, n_mul, n_sub, fa_or, fa_and, fb_xorI, n_div, n_rem, n_le, n_lt, n_eq, n_shl1, n_shr, n_andn, n_ix, n_grd, n_gdz, n_gbz, n_hasM, n_hasC, b2_0, b2_1, n_m1, ob_s, bs_l, bs_r, n_max, n_min, n_grt, n_les]
    rw [if_pos (by omega)]
    rcases hcase with ⟨h0, _⟩ | ⟨hen, w, hw⟩
    · omega
    · exact ⟨_, rfl, w, hen, hw⟩)
  rw [eq, ob_s, h1]
  exact ⟨q.2, w, rfl, h2, h3, h4, h5⟩
theorem trn_step (W : Cn) (a b l j k : Nat) : trn W a b (l + 1) (decide (j % 2 = 0)) (dgt W a b j k).1 (dgt W a b j k).2 = fmb (decide (j % 2 = 0)) (fun t => trn W a b l (decide ((j + 1) % 2 = 0)) (dgt W a b (j + 1) (9 * k + t)).1 (dgt W a b (j + 1) (9 * k + t)).2) 9 := by
  by_cases hp : j % 2 = 0
  · rw [decide_eq_true hp, decide_eq_false (show ¬ (j + 1) % 2 = 0 by omega), trn]
    unfold fmb
    simp only [if_true]
    refine fo_cong (n := 9) (fun t x ht => ?_) 9 (Nat.le_refl _)
    rw [dgt, if_pos hp, show (9 * k + t) / 9 = k by omega, show (9 * k + t) % 9 = t by omega]
  · rw [decide_eq_false hp, decide_eq_true (show (j + 1) % 2 = 0 by omega), trn]
    unfold fmb
    simp only [Bool.false_eq_true, if_false]
    refine fo_cong (n := 9) (fun t x ht => ?_) 9 (Nat.le_refl _)
    rw [dgt, if_neg hp, show (9 * k + t) / 9 = k by omega, show (9 * k + t) % 9 = t by omega]
