/-! L3: swearers by the class, whole -/
theorem hi_cov {Wl : List (Nat × Option Nat)} (h : Wl.all (fun e => decide (e.1 < 71)) = true) {p : Nat} (hp : 71 ≤ p) (j : Nat) : covB Wl p j = false := by
  cases hc : covB Wl p j with
  | false => rfl
  | true =>
    exfalso
    obtain ⟨e, he, h3⟩ := List.any_eq_true.mp hc
    have h4 := List.all_eq_true.mp h e he
    simp only [Bool.and_eq_true, beq_iff_eq] at h3
    simp only [decide_eq_true_eq] at h4
    omega
theorem VW_agx {n : Nat} {w t : Nat → Nat} {a : Nat} {S : Sk} {mm m : Mm} {Wl : List (Nat × Option Nat)} (h : VW n w t a S mm) (ha : 71 ≤ a) (hg : agx Wl mm m) (hf : Wl.all (fun e => decide (e.1 < 71)) = true) : VW n w t a S m := by
  obtain ⟨h1, h2, h3, h4, h5, h6⟩ := h
  refine ⟨h1, h2, h3, ?_, fun j hj => ?_, fun j hj => ?_⟩
  · rw [(hg _ _ (hi_cov hf ha _)).1]; exact h4
  · rw [(hg _ _ (hi_cov hf (by omega) _)).1]; exact h5 j hj
  · rw [(hg _ _ (hi_cov hf (by omega) _)).1]; exact h6 j hj
/-- what the class has learned of the wants -/
def VS (W : Cn) (n : Nat) (w t : Nat → Nat) (M : Nat) (mm : Mm) : Prop := mI mm 34 2 = nI n ∧ (∀ j, j < n → mI mm 35 j = nI (opr W w t j)) ∧ (∀ s, s < 2 ^ n → mI mm 37 s = nI (Kct W n w t s)) ∧ mI mm 34 0 = nI M ∧ mxM W n w t M
theorem Kct_le (W : Cn) (n : Nat) (w t : Nat → Nat) (s : Nat) : Kct W n w t s ≤ n := fb_ct_le _ _
theorem cs_0 {W : Cn} (wf : WF W) (w t : Nat → Nat) (m j free : Nat) : csB W w t m j 0 free = true := (csB_iff wf w t 0 m j free).mpr ⟨fun _ => 0, fun i _ _ h => by simp at h⟩
theorem mx_of {W : Cn} (wf : WF W) {n : Nat} {w t : Nat → Nat} {M : Nat} (hex : ∃ s, s < 2 ^ n ∧ csB W w t n 0 s 63 = true ∧ Kct W n w t s = M) (hall : ∀ s, s < 2 ^ n → csB W w t n 0 s 63 = true → Kct W n w t s ≤ M) : mxM W n w t M := by
  have hf := wf.1
  constructor
  · obtain ⟨s, h1, h2, h3⟩ := hex
    obtain ⟨r, h4, _, h5⟩ := cs_row wf (r := fun _ => 0) (n := n) (j := 0) (set := s) (free := 63) (Nat.zero_le _) h1 (fun i hi => absurd hi (Nat.not_lt_zero i)) (fun i hi => absurd hi (Nat.not_lt_zero i)) (fun p _ i hi => absurd hi (Nat.not_lt_zero i)) h2
    exact ⟨r, h4, by rw [h5]; exact h3⟩
  · intro r hr
    refine hall _ (Sr_b W n w t r) (row_cs wf (j := 0) (Nat.zero_le _) hr (fun p hp _ => ?_))
    have : Nat.testBit (2 ^ 6 - 1) p = true := by
      rw [Nat.testBit_two_pow_sub_one]
      exact decide_eq_true (by omega)
    exact this
theorem C_learn8 {W : Cn} {S : Sk} {mm : Mm} (h : VC W mm) (wf : WF W) (hc : symC (cl W)) {n : Nat} {w t : Nat → Nat} {a : Nat} (hw : VW n w t a (sRs S 34 1 (some a)) mm) (hS : SI (sRs S 34 1 (some a))) (ha : 71 ≤ a) (hn : n ≤ 6) (w6 : ∀ j, w j < 6) (t8 : ∀ j, t j < 8) : ∃ m, agx [(34, some 0), (34, some 2), (35, none), (36, none), (37, none)] mm m ∧ (((¬ ∀ j, j < n → w j < fk W) ∧ m_X8_learn S a mm = some (0, sRs S 34 1 (some a), m)) ∨ ((∀ j, j < n → w j < fk W) ∧ m_X8_learn S a mm = some (1, sRs S 34 1 (some a), m) ∧ ∃ M, VS W n w t M m)) := by
  have hf := wf.1
  unfold m_X8_learn
  rw [gP_pos hS.1, hw.2.2.2.1, show (6 : Int32) = nI 6 from rfl, n_min (by omega) (by omega), Nat.min_eq_left hn]
  obtain ⟨q, e1, hq⟩ := loop_inv (body := m_X8_learn_b20 a S) (a := ((0 : Int32), sI mm 34 2 (nI n))) (fun i z => ∃ m, z = (nI i, m) ∧ VC W m ∧ VW n w t a (sRs S 34 1 (some a)) m ∧ mI m 34 2 = nI n ∧ (∀ j, j < i → mI m 35 j = nI (opr W w t j)) ∧ (∀ j, j < i → w j < fk W) ∧ agx [(34, some 0), (34, some 2), (35, none), (36, none), (37, none)] mm m) (fun q => (∃ m, q = .inl m ∧ VC W m ∧ VW n w t a (sRs S 34 1 (some a)) m ∧ mI m 34 2 = nI n ∧ (∀ j, j < n → mI m 35 j = nI (opr W w t j)) ∧ (∀ j, j < n → w j < fk W) ∧ agx [(34, some 0), (34, some 2), (35, none), (36, none), (37, none)] mm m) ∨ (∃ m, q = .inr (0, sRs S 34 1 (some a), m) ∧ (¬ ∀ j, j < n → w j < fk W) ∧ agx [(34, some 0), (34, some 2), (35, none), (36, none), (37, none)] mm m)) n (FU_big (by omega)) ⟨_, rfl, VC_wr h (by omega) _ _, VW_wr hw ha (by omega) _ _, rdI_eq _ _ _ _, fun j hj => absurd hj (Nat.not_lt_zero j), fun j hj => absurd hj (Nat.not_lt_zero j), agx_wr (agx_rf _) (by rfl)⟩ (by
    rintro i z hi ⟨m, rfl, V, hW, g34, g35, hfk, A⟩
    have q1 := C_whoOf hW hn hi
    have q2 := C_thingOf hW hn hi
    have q3 := w6 i
    have q4 := C_openersOf V wf w t q3 (t8 i)
    unfold m_X8_learn_b20
    rw [gP_pos hS, g34]
    simp (disch := omega) only [zz_0, zz_1, zz_2, zz_3, zz_4, zz_5, zz_6, zz_7, zz_8, zz_9, zz_10, zz_11, zz_12, zz_13, zz_14, zz_15, zz_16, zz_20, zz_24, zz_25, zz_26, zz_28, zz_31, zz_32, zz_36, zz_39, zz_40, zz_48, zz_49, zz_50, zz_57, zz_59, zz_60, zz_64, zz_72, zz_97, zz_99, zz_100, zz_122, zz_144, zz_161, zz_255, zz_256, zz_288, zz_322, zz_384, zz_400, zz_448, zz_600, zz_1280, zz_1000000, n_le, q1, ob_s]
    rw [if_neg (by omega)]
    by_cases hlt : w i < fk W
    · rw [C_isThere_yes V wf hlt, if_neg (by decide), q2, ob_s, q4, ob_s, n_grd (by omega) (by decide), n_ix (by omega), nI_add]
      left
      refine ⟨_, rfl, _, rfl, VC_wr V (by omega) _ _, VW_wr hW ha (by omega) _ _, by rw [rdI_ne _ _ _ _ (by decide)]; exact g34, fun j hj => ?_, fun j hj => ?_, agx_wr A (by rfl)⟩
      · rw [rdI_sm]
        by_cases e : j = i
        · rw [if_pos e, e]
        · rw [if_neg e]; exact g35 j (by omega)
      · by_cases e : j = i
        · rw [e]; exact hlt
        · exact hfk j (by omega)
    · rw [C_isThere_no V (a := nI (w i)) (Or.inr (by rw [n_le (by omega) (by omega)]; omega)), if_pos (by decide)]
      right
      exact ⟨_, rfl, Or.inr ⟨m, rfl, fun q => hlt (q i hi), A⟩⟩) (by
    rintro z ⟨m, rfl, V, hW, g34, g35, hfk, A⟩
    unfold m_X8_learn_b20
    rw [g34]
    simp (disch := omega) only [zz_0, zz_1, zz_2, zz_3, zz_4, zz_5, zz_6, zz_7, zz_8, zz_9, zz_10, zz_11, zz_12, zz_13, zz_14, zz_15, zz_16, zz_20, zz_24, zz_25, zz_26, zz_28, zz_31, zz_32, zz_36, zz_39, zz_40, zz_48, zz_49, zz_50, zz_57, zz_59, zz_60, zz_64, zz_72, zz_97, zz_99, zz_100, zz_122, zz_144, zz_161, zz_255, zz_256, zz_288, zz_322, zz_384, zz_400, zz_448, zz_600, zz_1280, zz_1000000, n_le]
    rw [if_pos (by omega)]
    exact ⟨_, rfl, Or.inl ⟨m, rfl, V, hW, g34, g35, hfk, A⟩⟩)
  rw [e1]
  rcases hq with ⟨m, rfl, V, hW, g34, g35, hfk, A⟩ | ⟨m, rfl, hno, A⟩
  · rw [bs_l]
    have pn : 2 ^ n ≤ 2 ^ 6 := Nat.pow_le_pow_right (by decide) hn
    have pp := Nat.two_pow_pos n
    obtain ⟨m2, e2, hm2⟩ := loop_n (body := m_X8_learn_b75 a S) (a := ((0 : Int32), sI m 34 0 0)) (fun i z => ∃ m M, z = (nI i, m) ∧ VC W m ∧ VW n w t a (sRs S 34 1 (some a)) m ∧ mI m 34 2 = nI n ∧ (∀ j, j < n → mI m 35 j = nI (opr W w t j)) ∧ (∀ s, s < i → mI m 37 s = nI (Kct W n w t s)) ∧ mI m 34 0 = nI M ∧ M ≤ 6 ∧ (M = 0 ∨ ∃ s, s < i ∧ csB W w t n 0 s 63 = true ∧ Kct W n w t s = M) ∧ (∀ s, s < i → csB W w t n 0 s 63 = true → Kct W n w t s ≤ M) ∧ agx [(34, some 0), (34, some 2), (35, none), (36, none), (37, none)] mm m) (fun m => (∃ M, VS W n w t M m) ∧ agx [(34, some 0), (34, some 2), (35, none), (36, none), (37, none)] mm m) (2 ^ n) (FU_big (by omega)) ⟨_, 0, rfl, VC_wr V (by omega) _ _, VW_wr hW ha (by omega) _ _, by rw [rdI_nj _ _ _ _ (by decide)]; exact g34, fun j hj => by rw [rdI_ne _ _ _ _ (by decide)]; exact g35 j hj, fun s hs => absurd hs (Nat.not_lt_zero s), rdI_eq _ _ _ _, by decide, Or.inl rfl, fun s hs => absurd hs (Nat.not_lt_zero s), agx_wr A (by rfl)⟩ (by
      rintro i z hi ⟨m, M, rfl, V, hW, g34, g35, g37, gM, hM, hex, hall, A⟩
      obtain ⟨m', ek⟩ := C_countKept V wf hc hW ha hn w6 t8 g34 (set := i) (by omega)
      have fr := fr_X8_countKept ek
      have V' := VC_agx V fr (by rfl)
      have W' := VW_agx hW ha fr (by rfl)
      have g34' : mI m' 34 2 = nI n := by rw [(fr 34 2 (by rfl)).1]; exact g34
      have gM' : mI m' 34 0 = nI M := by rw [(fr 34 0 (by rfl)).1]; exact gM
      have g35' : ∀ j, j < n → mI m' 35 j = nI (opr W w t j) := fun j hj => by rw [(fr 35 j (by simp [covB])).1]; exact g35 j hj
      have g37' : ∀ s, s < i → mI m' 37 s = nI (Kct W n w t s) := fun s hs => by rw [(fr 37 s (by simp [covB])).1]; exact g37 s hs
      have A' := agx_tr A (agx_mono (by rfl) fr)
      have kl := Kct_le W n w t i
      have ecs := C_canSwear wf hn (w := w) (t := t) (mm := sI m' 37 i (nI (Kct W n w t i))) (by rw [rdI_ne _ _ _ _ (by decide)]; exact g34') (fun j hj => by rw [rdI_ne _ _ _ _ (by decide)]; exact g35' j hj) (set := i) (by omega) 12 n 0 63 (by omega) (by omega) (by decide)
      have r1 : mI (sI m' 37 i (nI (Kct W n w t i))) 37 i = nI (Kct W n w t i) := rdI_eq _ _ _ _
      have r2 : mI (sI m' 37 i (nI (Kct W n w t i))) 34 0 = nI M := by rw [rdI_ne _ _ _ _ (by decide)]; exact gM'
      have g37n : ∀ s, s < i + 1 → mI (sI m' 37 i (nI (Kct W n w t i))) 37 s = nI (Kct W n w t s) := fun s hs => by
        rw [rdI_sm]
        by_cases e : s = i
        · rw [if_pos e, e]
        · rw [if_neg e]; exact g37' s (by omega)
      have A2 : agx [(34, some 0), (34, some 2), (35, none), (36, none), (37, none)] mm (sI m' 37 i (nI (Kct W n w t i))) := agx_wr A' (by rfl)
      have V2 : VC W (sI m' 37 i (nI (Kct W n w t i))) := VC_wr V' (by omega) _ _
      have W2 : VW n w t a (sRs S 34 1 (some a)) (sI m' 37 i (nI (Kct W n w t i))) := VW_wr W' ha (by omega) _ _
      have g34n : mI (sI m' 37 i (nI (Kct W n w t i))) 34 2 = nI n := by rw [rdI_ne _ _ _ _ (by decide)]; exact g34'
      have g35n : ∀ j, j < n → mI (sI m' 37 i (nI (Kct W n w t i))) 35 j = nI (opr W w t j) := fun j hj => by rw [rdI_ne _ _ _ _ (by decide)]; exact g35' j hj
      unfold m_X8_learn_b75
      rw [gP_pos hS, g34]
      simp (disch := omega) only [zz_0, zz_1, zz_2, zz_3, zz_4, zz_5, zz_6, zz_7, zz_8, zz_9, zz_10, zz_11, zz_12, zz_13, zz_14, zz_15, zz_16, zz_20, zz_24, zz_25, zz_26, zz_28, zz_31, zz_32, zz_36, zz_39, zz_40, zz_48, zz_49, zz_50, zz_57, zz_59, zz_60, zz_64, zz_72, zz_97, zz_99, zz_100, zz_122, zz_144, zz_161, zz_255, zz_256, zz_288, zz_322, zz_384, zz_400, zz_448, zz_600, zz_1280, zz_1000000, n_shl1, n_le, ek, ob_s, n_grd, n_ix, nI_add]
      rw [if_neg (by omega)]
      generalize sI m' 37 i (nI (Kct W n w t i)) = m3 at *
      simp (disch := omega) only [r1, r2, n_le]
      have stay : (csB W w t n 0 i 63 = true → Kct W n w t i ≤ M) → ∀ s, s < i + 1 → csB W w t n 0 s 63 = true → Kct W n w t s ≤ M := fun hn s h1 h2 => by
        by_cases e : s = i
        · rw [e] at h2 ⊢; exact hn h2
        · exact hall s (by omega) h2
      have hex' : M = 0 ∨ ∃ s, s < i + 1 ∧ csB W w t n 0 s 63 = true ∧ Kct W n w t s = M := by
        rcases hex with h9 | ⟨s, h9, h10⟩
        · exact Or.inl h9
        · exact Or.inr ⟨s, by omega, h10⟩
      by_cases k1 : Kct W n w t i ≤ M
      · rw [if_pos k1, ob_s]
        exact ⟨_, rfl, m3, M, rfl, V2, W2, g34n, g35n, g37n, r2, hM, hex', stay (fun _ => k1), A2⟩
      · rw [if_neg k1]
        rw [show (63 : Int32) = nI 63 from rfl, ecs, ob_s]
        simp only [b2_0]
        cases k2 : csB W w t n 0 i 63 with
        | false =>
          rw [if_pos rfl, ob_s]
          exact ⟨_, rfl, m3, M, rfl, V2, W2, g34n, g35n, g37n, r2, hM, hex', stay (fun q => by rw [k2] at q; cases q), A2⟩
        | true =>
          rw [if_neg (by decide), ob_s]
          refine ⟨_, rfl, _, Kct W n w t i, rfl, VC_wr V2 (by omega) _ _, VW_wr W2 ha (by omega) _ _, by rw [rdI_nj _ _ _ _ (by decide)]; exact g34n, fun j hj => by rw [rdI_ne _ _ _ _ (by decide)]; exact g35n j hj, fun s hs => by rw [rdI_ne _ _ _ _ (by decide)]; exact g37n s hs, rdI_eq _ _ _ _, by omega, Or.inr ⟨i, by omega, k2, rfl⟩, fun s h1 h2 => ?_, agx_wr A2 (by rfl)⟩
          by_cases e : s = i
          · rw [e]; exact Nat.le_refl _
          · have := hall s (by omega) h2
            omega) (by
      rintro z ⟨m, M, rfl, V, hW, g34, g35, g37, gM, hM, hex, hall, A⟩
      unfold m_X8_learn_b75
      rw [g34]
      simp (disch := omega) only [zz_0, zz_1, zz_2, zz_3, zz_4, zz_5, zz_6, zz_7, zz_8, zz_9, zz_10, zz_11, zz_12, zz_13, zz_14, zz_15, zz_16, zz_20, zz_24, zz_25, zz_26, zz_28, zz_31, zz_32, zz_36, zz_39, zz_40, zz_48, zz_49, zz_50, zz_57, zz_59, zz_60, zz_64, zz_72, zz_97, zz_99, zz_100, zz_122, zz_144, zz_161, zz_255, zz_256, zz_288, zz_322, zz_384, zz_400, zz_448, zz_600, zz_1280, zz_1000000, n_shl1, n_le]
      rw [if_pos (by omega)]
      refine ⟨_, rfl, ⟨M, g34, g35, g37, gM, mx_of wf ?_ hall⟩, A⟩
      rcases hex with h9 | h9
      · refine ⟨0, pp, cs_0 wf w t n 0 63, ?_⟩
        have := hall 0 pp (cs_0 wf w t n 0 63)
        omega
      · exact h9)
    rw [e2, ob_s]
    exact ⟨m2, hm2.2, Or.inr ⟨hfk, rfl, hm2.1⟩⟩
  · rw [bs_r]
    exact ⟨m, A, Or.inl ⟨hno, rfl⟩⟩
def thenS (set rest j : Nat) : Nat := set ||| rest * 2 ^ j
theorem then_bit (set rest j i : Nat) : (thenS set rest j).testBit i = (set.testBit i || (decide (j ≤ i) && rest.testBit (i - j))) := by
  unfold thenS
  rw [Nat.testBit_or, Nat.testBit_mul_two_pow]
def rmB (W : Cn) (n : Nat) (w t : Nat → Nat) (M j set free : Nat) : Bool := (fst1 (fun rest => decide (Kct W n w t (thenS set rest j) = M) && csB W w t (n - j) j (thenS set rest j) free) (2 ^ (n - j))).isSome
theorem then_b {n j set rest : Nat} (hj : j ≤ n) (hs : set < 2 ^ n) (hr : rest < 2 ^ (n - j)) : thenS set rest j < 2 ^ n := by
  unfold thenS
  refine or_b hs ?_
  have h1 : rest * 2 ^ j < 2 ^ (n - j) * 2 ^ j := Nat.mul_lt_mul_of_pos_right hr (Nat.two_pow_pos j)
  rwa [← Nat.pow_add, show n - j + j = n by omega] at h1
theorem C_reachesMost {W : Cn} (wf : WF W) {n : Nat} {w t : Nat → Nat} {M : Nat} {mm : Mm} (hn : n ≤ 6) (hS : VS W n w t M mm) {j set free : Nat} (hj : j ≤ n) (hs : set < 2 ^ n) (hfr : free < 64) : m_X8_reachesMost (nI j) (nI set) (nI free) mm = some (b2 (rmB W n w t M j set free)) := by
  obtain ⟨g34, g35, g37, gM, hMx⟩ := hS
  have pn : 2 ^ n ≤ 2 ^ 6 := Nat.pow_le_pow_right (by decide) hn
  have pn2 : 2 ^ (n - j) ≤ 2 ^ 6 := Nat.pow_le_pow_right (by decide) (by omega)
  have hM6 : M ≤ 6 := by
    obtain ⟨⟨r, _, h⟩, _⟩ := hMx
    have := Kct_le W n w t (Sr W n w t r)
    omega
  unfold m_X8_reachesMost
  have hw := loop_fst (body := m_X8_reachesMost_b3 (nI j) (nI set) (nI free) mm) (s0 := (0 : Int32)) (fun i => nI i) (fun rest => decide (Kct W n w t (thenS set rest j) = M) && csB W w t (n - j) j (thenS set rest j) free) (2 ^ (n - j)) (fun _ => .inr 1) (.inl ()) rfl (FU_big (by omega)) (by
    intro i hi hq
    have b1 := then_b hj hs hi
    have b2' : i * 2 ^ j < 4294967296 := by
      have h1 : i * 2 ^ j < 2 ^ (n - j) * 2 ^ j := Nat.mul_lt_mul_of_pos_right hi (Nat.two_pow_pos j)
      rw [← Nat.pow_add, show n - j + j = n by omega] at h1
      omega
    have kl := Kct_le W n w t (thenS set i j)
    have ecs := C_canSwear wf hn (w := w) (t := t) g34 g35 (set := thenS set i j) (by omega) 12 (n - j) j free (by omega) (by omega) hfr
    have e37 := g37 _ b1
    unfold m_X8_reachesMost_b3
    simp (disch := omega) only [zz_0, zz_1, zz_2, zz_3, zz_4, zz_5, zz_6, zz_7, zz_8, zz_9, zz_10, zz_11, zz_12, zz_13, zz_14, zz_15, zz_16, zz_20, zz_24, zz_25, zz_26, zz_28, zz_31, zz_32, zz_36, zz_39, zz_40, zz_48, zz_49, zz_50, zz_57, zz_59, zz_60, zz_64, zz_72, zz_97, zz_99, zz_100, zz_122, zz_144, zz_161, zz_255, zz_256, zz_288, zz_322, zz_384, zz_400, zz_448, zz_600, zz_1280, zz_1000000, g34, gM, n_sub, n_shl1, n_shl, n_le, fa_or, show set ||| i * 2 ^ j = thenS set i j from rfl, n_grd, n_ix, e37, n_eq, ecs, ob_s, nI_add, b2_0]
    rw [if_neg (by omega)]
    by_cases k1 : Kct W n w t (thenS set i j) = M
    · rw [if_pos k1]
      cases k2 : csB W w t (n - j) j (thenS set i j) free with
      | false => rw [if_pos rfl, bs_l]
      | true => simp [k1, k2] at hq
    · rw [if_neg k1, bs_l]) (by
    intro i hi hq
    have b1 := then_b hj hs hi
    have b2' : i * 2 ^ j < 4294967296 := by
      have h1 : i * 2 ^ j < 2 ^ (n - j) * 2 ^ j := Nat.mul_lt_mul_of_pos_right hi (Nat.two_pow_pos j)
      rw [← Nat.pow_add, show n - j + j = n by omega] at h1
      omega
    have kl := Kct_le W n w t (thenS set i j)
    have ecs := C_canSwear wf hn (w := w) (t := t) g34 g35 (set := thenS set i j) (by omega) 12 (n - j) j free (by omega) (by omega) hfr
    have e37 := g37 _ b1
    simp only [Bool.and_eq_true, decide_eq_true_eq] at hq
    unfold m_X8_reachesMost_b3
    simp (disch := omega) only [zz_0, zz_1, zz_2, zz_3, zz_4, zz_5, zz_6, zz_7, zz_8, zz_9, zz_10, zz_11, zz_12, zz_13, zz_14, zz_15, zz_16, zz_20, zz_24, zz_25, zz_26, zz_28, zz_31, zz_32, zz_36, zz_39, zz_40, zz_48, zz_49, zz_50, zz_57, zz_59, zz_60, zz_64, zz_72, zz_97, zz_99, zz_100, zz_122, zz_144, zz_161, zz_255, zz_256, zz_288, zz_322, zz_384, zz_400, zz_448, zz_600, zz_1280, zz_1000000, g34, gM, n_sub, n_shl1, n_shl, n_le, fa_or, show set ||| i * 2 ^ j = thenS set i j from rfl, n_grd, n_ix, e37, n_eq, ecs, ob_s, nI_add, b2_0]
    rw [if_neg (by omega), if_pos hq.1, hq.2, if_neg (by decide), bs_r]) (by
    unfold m_X8_reachesMost_b3
    simp (disch := omega) only [zz_0, zz_1, zz_2, zz_3, zz_4, zz_5, zz_6, zz_7, zz_8, zz_9, zz_10, zz_11, zz_12, zz_13, zz_14, zz_15, zz_16, zz_20, zz_24, zz_25, zz_26, zz_28, zz_31, zz_32, zz_36, zz_39, zz_40, zz_48, zz_49, zz_50, zz_57, zz_59, zz_60, zz_64, zz_72, zz_97, zz_99, zz_100, zz_122, zz_144, zz_161, zz_255, zz_256, zz_288, zz_322, zz_384, zz_400, zz_448, zz_600, zz_1280, zz_1000000, g34, n_sub, n_shl1, n_le]
    rw [if_pos (by omega)])
  rw [hw]
  unfold rmB
  cases fst1 (fun rest => decide (Kct W n w t (thenS set rest j) = M) && csB W w t (n - j) j (thenS set rest j) free) (2 ^ (n - j)) <;> rfl
def ffB (W : Cn) (n : Nat) (w t : Nat → Nat) (M j set free p : Nat) : Bool := free.testBit p && decide (p ≠ w j) && rmB W n w t M (j + 1) (if (opr W w t j).testBit p then set ||| 2 ^ j else set) (ndf free (2 ^ p))
theorem C_firstFor {W : Cn} (wf : WF W) {n : Nat} {w t : Nat → Nat} {M : Nat} {mm : Mm} {a : Nat} {S : Sk} (hn : n ≤ 6) (hS : VS W n w t M mm) (hW : VW n w t a S mm) (w6 : ∀ j, w j < 6) {j set free : Nat} (hj : j < n) (hs : set < 2 ^ n) (hfr : free < 64) : m_X8_firstFor S (nI j) (nI set) (nI free) mm = some (nI (match fst1 (ffB W n w t M j set free) 6 with | some p => p | none => 6)) := by
  have q1 := C_whoOf hW hn hj
  have q3 := w6 j
  have ob := opr_b wf w t j
  have o35 := hS.2.1 j hj
  have pn : 2 ^ n ≤ 2 ^ 6 := Nat.pow_le_pow_right (by decide) hn
  have ps : ∀ p, (if (opr W w t j).testBit p then set ||| 2 ^ j else set) < 2 ^ n := fun p => by
    split
    · exact or_b hs (pow_le hj)
    · exact hs
  unfold m_X8_firstFor
  have hw := loop_fst (body := m_X8_firstFor_b3 (nI j) (nI set) (nI free) mm S) (s0 := (0 : Int32)) (fun i => nI i) (ffB W n w t M j set free) 6 (fun p => .inr (nI p)) (.inl ()) rfl (FU_big (by decide)) (by
    intro i hi hq
    have a2 := ndf_le free (2 ^ i)
    have a3 := C_reachesMost wf hn hS (j := j + 1) (by omega) (ps i) (free := ndf free (2 ^ i)) (by omega)
    unfold m_X8_firstFor_b3
    simp (disch := omega) only [zz_0, zz_1, zz_2, zz_3, zz_4, zz_5, zz_6, zz_7, zz_8, zz_9, zz_10, zz_11, zz_12, zz_13, zz_14, zz_15, zz_16, zz_20, zz_24, zz_25, zz_26, zz_28, zz_31, zz_32, zz_36, zz_39, zz_40, zz_48, zz_49, zz_50, zz_57, zz_59, zz_60, zz_64, zz_72, zz_97, zz_99, zz_100, zz_122, zz_144, zz_161, zz_255, zz_256, zz_288, zz_322, zz_384, zz_400, zz_448, zz_600, zz_1280, zz_1000000, nI_add, n_mul, n_sub, fa_or, fa_and, fb_xorI, n_div, n_rem, n_le, n_lt, n_eq, n_shl1, n_shr, n_andn, n_ix, n_grd, n_gdz, n_gbz, n_hasM, n_hasC, b2_0, b2_1, n_m1, ob_s, bs_l, bs_r, n_max, n_min, n_grt, n_les, q1, o35]
    rw [if_neg (by omega)]
    rw [show (if (opr W w t j).testBit i = false then nI set else nI (set ||| 2 ^ j)) = nI (if (opr W w t j).testBit i then set ||| 2 ^ j else set) by cases (opr W w t j).testBit i <;> rfl, a3, ob_s]
    simp only [b2_0]
    unfold ffB at hq
    by_cases k2 : i = w j <;> cases k1 : free.testBit i <;> cases k3 : rmB W n w t M (j + 1) (if (opr W w t j).testBit i then set ||| 2 ^ j else set) (ndf free (2 ^ i)) <;> simp [k2, bs_l]
    rw [k1, k3, decide_eq_true k2] at hq
    cases hq) (by
    intro i hi hq
    have a2 := ndf_le free (2 ^ i)
    have a3 := C_reachesMost wf hn hS (j := j + 1) (by omega) (ps i) (free := ndf free (2 ^ i)) (by omega)
    unfold ffB at hq
    simp only [Bool.and_eq_true, decide_eq_true_eq] at hq
    unfold m_X8_firstFor_b3
    simp (disch := omega) only [zz_0, zz_1, zz_2, zz_3, zz_4, zz_5, zz_6, zz_7, zz_8, zz_9, zz_10, zz_11, zz_12, zz_13, zz_14, zz_15, zz_16, zz_20, zz_24, zz_25, zz_26, zz_28, zz_31, zz_32, zz_36, zz_39, zz_40, zz_48, zz_49, zz_50, zz_57, zz_59, zz_60, zz_64, zz_72, zz_97, zz_99, zz_100, zz_122, zz_144, zz_161, zz_255, zz_256, zz_288, zz_322, zz_384, zz_400, zz_448, zz_600, zz_1280, zz_1000000, nI_add, n_mul, n_sub, fa_or, fa_and, fb_xorI, n_div, n_rem, n_le, n_lt, n_eq, n_shl1, n_shr, n_andn, n_ix, n_grd, n_gdz, n_gbz, n_hasM, n_hasC, b2_0, b2_1, n_m1, ob_s, bs_l, bs_r, n_max, n_min, n_grt, n_les, q1, o35]
    rw [if_neg (by omega)]
    rw [show (if (opr W w t j).testBit i = false then nI set else nI (set ||| 2 ^ j)) = nI (if (opr W w t j).testBit i then set ||| 2 ^ j else set) by cases (opr W w t j).testBit i <;> rfl, a3, ob_s]
    simp only [b2_0]
    rw [hq.1.1, hq.2, if_neg (by decide), if_neg hq.1.2, if_neg (by decide), bs_r]) (by
    unfold m_X8_firstFor_b3
    simp (disch := omega) only [zz_0, zz_1, zz_2, zz_3, zz_4, zz_5, zz_6, zz_7, zz_8, zz_9, zz_10, zz_11, zz_12, zz_13, zz_14, zz_15, zz_16, zz_20, zz_24, zz_25, zz_26, zz_28, zz_31, zz_32, zz_36, zz_39, zz_40, zz_48, zz_49, zz_50, zz_57, zz_59, zz_60, zz_64, zz_72, zz_97, zz_99, zz_100, zz_122, zz_144, zz_161, zz_255, zz_256, zz_288, zz_322, zz_384, zz_400, zz_448, zz_600, zz_1280, zz_1000000, nI_add, n_mul, n_sub, fa_or, fa_and, fb_xorI, n_div, n_rem, n_le, n_lt, n_eq, n_shl1, n_shr, n_andn, n_ix, n_grd, n_gdz, n_gbz, n_hasM, n_hasC, b2_0, b2_1, n_m1, ob_s, bs_l, bs_r, n_max, n_min, n_grt, n_les]
    rw [if_pos (by omega)])
  rw [hw]
  cases fst1 (ffB W n w t M j set free) 6 <;> rfl
