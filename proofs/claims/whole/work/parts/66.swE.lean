/-! L3: who swears the k-th want -/
def freJ (W : Cn) (R : Nat → Nat) (j : Nat) : Nat := fo (fun i s => if R i = 6 then s else ndf s (2 ^ R i)) (2 ^ fk W - 1) j
theorem freJ_bit {W : Cn} (wf : WF W) (R : Nat → Nat) (p : Nat) : ∀ j, (freJ W R j).testBit p = true ↔ p < fk W ∧ ∀ i, i < j → R i ≠ p
  | 0 => by
    unfold freJ
    rw [fo, Nat.testBit_two_pow_sub_one, decide_eq_true_eq]
    exact ⟨fun h => ⟨h, fun i hi => absurd hi (Nat.not_lt_zero i)⟩, fun h => h.1⟩
  | j + 1 => by
    have ih := freJ_bit wf R p j
    have hf := wf.1
    have e : freJ W R (j + 1) = if R j = 6 then freJ W R j else ndf (freJ W R j) (2 ^ R j) := rfl
    rw [e]
    by_cases h6 : R j = 6
    · rw [if_pos h6, ih]
      constructor
      · rintro ⟨h1, h2⟩
        refine ⟨h1, fun i hi => ?_⟩
        by_cases ei : i = j
        · rw [ei, h6]; omega
        · exact h2 i (by omega)
      · rintro ⟨h1, h2⟩; exact ⟨h1, fun i hi => h2 i (by omega)⟩
    · rw [if_neg h6, ndfp_bit, ih]
      constructor
      · rintro ⟨⟨h1, h2⟩, h3⟩
        refine ⟨h1, fun i hi => ?_⟩
        by_cases ei : i = j
        · rw [ei]; exact fun q => h3 q.symm
        · exact h2 i (by omega)
      · rintro ⟨h1, h2⟩
        exact ⟨⟨h1, fun i hi => h2 i (by omega)⟩, fun q => h2 j (by omega) q.symm⟩
theorem freJ_b {W : Cn} (wf : WF W) (R : Nat → Nat) (j : Nat) : freJ W R j < 64 := by
  refine fo_inv (n := j) (fun _ x => x < 64) ?_ (fun i x hi hx => ?_) _ (Nat.le_refl _)
  · have hf := wf.1
    have : 2 ^ fk W ≤ 2 ^ 6 := Nat.pow_le_pow_right (by decide) hf
    have := Nat.two_pow_pos (fk W)
    show 2 ^ fk W - 1 < 64
    omega
  · have := ndf_le x (2 ^ R i)
    split
    · exact hx
    · omega
/-- a row by which most are kept -/
def optR (W : Cn) (n : Nat) (w t : Nat → Nat) (M : Nat) (r : Nat → Nat) : Prop := vrd W w r n ∧ Kct W n w t (Sr W n w t r) = M
theorem ff_iff {W : Cn} (wf : WF W) {n : Nat} {w t : Nat → Nat} {M : Nat} {R : Nat → Nat} (hR : vrd W w R n) {j p : Nat} (hj : j < n) (hp : p < 6) : ffB W n w t M j (Sr W j w t R) (freJ W R j) p = true ↔ ∃ r, optR W n w t M r ∧ (∀ i, i < j → r i = R i) ∧ r j = p := by
  have hf := wf.1
  unfold ffB
  simp only [Bool.and_eq_true, decide_eq_true_eq]
  unfold rmB
  rw [fst1_is]
  have hset' : ∀ i, (if (opr W w t j).testBit p then Sr W j w t R ||| 2 ^ j else Sr W j w t R).testBit i = true ↔ (i < j ∧ (opr W w t i).testBit (R i) = true) ∨ (i = j ∧ (opr W w t j).testBit p = true) := by
    intro i
    by_cases h : (opr W w t j).testBit p = true
    · rw [if_pos h, fb_bit_set, Bool.or_eq_true, Sr_bit, decide_eq_true_eq]
      constructor
      · rintro (h1 | h1)
        · exact Or.inl h1
        · exact Or.inr ⟨h1, h⟩
      · rintro (h1 | h1)
        · exact Or.inl h1
        · exact Or.inr h1.1
    · rw [if_neg h, Sr_bit]
      constructor
      · exact fun h1 => Or.inl h1
      · rintro (h1 | h1)
        · exact h1
        · exact absurd h1.2 h
  have hs' : (if (opr W w t j).testBit p then Sr W j w t R ||| 2 ^ j else Sr W j w t R) < 2 ^ n := by
    apply Nat.lt_pow_two_of_testBit
    intro i hi
    cases hb : (if (opr W w t j).testBit p then Sr W j w t R ||| 2 ^ j else Sr W j w t R).testBit i with
    | false => rfl
    | true =>
      rcases (hset' i).mp hb with h1 | h1
      · omega
      · omega
  generalize (if (opr W w t j).testBit p then Sr W j w t R ||| 2 ^ j else Sr W j w t R) = set' at hset' hs'
  constructor
  · rintro ⟨⟨h1, h2⟩, rest, h3, h4⟩
    simp only [Bool.and_eq_true, decide_eq_true_eq] at h4
    obtain ⟨hfk, hun⟩ := (freJ_bit wf R p j).mp h1
    obtain ⟨r', h5, h6, h7⟩ := cs_row wf (r := fun i => if i < j then R i else p) (n := n) (j := j + 1) (set := thenS set' rest (j + 1)) (free := ndf (freJ W R j) (2 ^ p)) (by omega) (then_b (by omega) hs' h3) (by
      intro i hi
      by_cases h8 : i < j
      · simp only [h8, if_true]
        obtain ⟨h9, h10⟩ := hR i (by omega)
        refine ⟨h9, fun h11 => ?_⟩
        obtain ⟨h12, h13, h14⟩ := h10 h11
        refine ⟨h12, h13, fun i' h15 h16 => ?_⟩
        by_cases h17 : i' < j
        · rw [if_pos h17]; exact h14 i' (by omega) h16
        · rw [if_neg h17]; exact fun q => hun i h8 q.symm
      · simp only [h8, if_false]
        have : i = j := by omega
        refine ⟨by omega, fun _ => ⟨hfk, by rw [this]; exact h2, fun i' h15 h16 => ?_⟩⟩
        rw [if_pos (by omega)]
        exact hun i' (by omega)) (by
      intro i hi
      rw [then_bit, Bool.or_eq_true, hset', decide_eq_false (show ¬ j + 1 ≤ i by omega), Bool.false_and]
      by_cases h8 : i < j
      · simp only [h8, if_true, true_and, Bool.false_eq_true, or_false]
        constructor
        · rintro (h9 | h9)
          · exact h9
          · omega
        · exact fun h9 => Or.inl h9
      · have hij : i = j := by omega
        rw [hij]
        simp) (by
      intro q hq i hi
      rw [ndfp_bit, freJ_bit wf] at hq
      by_cases h8 : i < j
      · simp only [h8, if_true]; exact hq.1.2 i h8
      · simp only [h8, if_false]; exact fun e => hq.2 e.symm) h4.2
    refine ⟨r', ⟨h5, by rw [h7]; exact h4.1⟩, fun i hi => ?_, ?_⟩
    · rw [h6 i (by omega), if_pos hi]
    · rw [h6 j (by omega), if_neg (by omega)]
  · rintro ⟨r, ⟨h1, h2⟩, h3, h4⟩
    obtain ⟨h5, h6⟩ := h1 j hj
    rw [h4] at h6
    obtain ⟨h7, h8, h9⟩ := h6 hp
    have hun : ∀ i, i < j → R i ≠ p := fun i hi => by
      rw [← h3 i hi]
      exact h9 i (by omega) (by omega)
    have hth : thenS set' (Sr W n w t r / 2 ^ (j + 1)) (j + 1) = Sr W n w t r := by
      apply Nat.eq_of_testBit_eq
      intro i
      rw [Bool.eq_iff_iff, then_bit, Bool.or_eq_true, hset', Bool.and_eq_true, decide_eq_true_eq, Nat.testBit_div_two_pow]
      constructor
      · rintro ((⟨h10, h11⟩ | ⟨h10, h11⟩) | ⟨h10, h11⟩)
        · exact (Sr_bit W n w t r i).mpr ⟨by omega, by rw [h3 i h10]; exact h11⟩
        · exact (Sr_bit W n w t r i).mpr ⟨by omega, by rw [h10, h4]; exact h11⟩
        · rwa [show i - (j + 1) + (j + 1) = i by omega] at h11
      · intro h10
        obtain ⟨h11, h12⟩ := (Sr_bit W n w t r i).mp h10
        by_cases h13 : i < j
        · left; left; exact ⟨h13, by rw [← h3 i h13]; exact h12⟩
        · by_cases h14 : i = j
          · left; right; exact ⟨h14, by rw [h14, h4] at h12; exact h12⟩
          · right
            refine ⟨by omega, ?_⟩
            rwa [show i - (j + 1) + (j + 1) = i by omega]
    refine ⟨⟨(freJ_bit wf R p j).mpr ⟨h7, hun⟩, h8⟩, Sr W n w t r / 2 ^ (j + 1), ?_, ?_⟩
    · have hb := Sr_b W n w t r
      have : 2 ^ n = 2 ^ (n - (j + 1)) * 2 ^ (j + 1) := by rw [← Nat.pow_add, show n - (j + 1) + (j + 1) = n by omega]
      rw [this] at hb
      exact Nat.div_lt_of_lt_mul (by rw [Nat.mul_comm]; exact hb)
    · simp only [Bool.and_eq_true, decide_eq_true_eq]
      rw [hth]
      refine ⟨h2, row_cs wf (by omega) h1 (fun q hq hu => ?_)⟩
      rw [ndfp_bit, freJ_bit wf]
      refine ⟨⟨hq, fun i hi => by rw [← h3 i hi]; exact hu i (by omega)⟩, fun e => hu j (by omega) (by rw [h4]; exact e.symm)⟩
theorem first_is {W : Cn} (wf : WF W) {n : Nat} {w t : Nat → Nat} {M x : Nat} (hx : fstN W n w t M x) {j : Nat} (hj : j < n) : (match fst1 (ffB W n w t M j (Sr W j w t (rowN n x)) (freJ W (rowN n x) j)) 6 with | some p => p | none => 6) = rowN n x j := by
  obtain ⟨h1, h2, h3, h4⟩ := hx
  have h6 := rowN_le n x j
  have no : ∀ p, p < rowN n x j → ffB W n w t M j (Sr W j w t (rowN n x)) (freJ W (rowN n x) j) p = false := by
    intro p hp
    cases hb : ffB W n w t M j (Sr W j w t (rowN n x)) (freJ W (rowN n x) j) p with
    | false => rfl
    | true =>
      exfalso
      obtain ⟨r, ⟨h7, h8⟩, h9, h10⟩ := (ff_iff wf h2 hj (by omega)).mp hb
      obtain ⟨y, h11, h12⟩ := rowN_ex (r := r) (n := n) (fun i hi => (h7 i hi).1)
      have h13 : y < x := lex_lt h11 h1 hj (fun i hi => by rw [h12 i (by omega), h9 i hi]) (by rw [h12 j hj, h10]; exact hp)
      refine h4 y h13 (vrd_cong (fun i hi => (h12 i hi).symm) h7) ?_
      rw [Sr_cong (r' := r) h12]
      exact h8
  by_cases hlt : rowN n x j < 6
  · have yes : ffB W n w t M j (Sr W j w t (rowN n x)) (freJ W (rowN n x) j) (rowN n x j) = true := (ff_iff wf h2 hj hlt).mpr ⟨rowN n x, ⟨h2, h3⟩, fun _ _ => rfl, rfl⟩
    rw [fst1_some.mpr ⟨hlt, yes, no⟩]
  · rw [fst1_none.mpr (fun p hp => no p (by omega))]
    show 6 = rowN n x j
    omega
theorem C_swearerOf {W : Cn} (wf : WF W) {n : Nat} {w t : Nat → Nat} {M : Nat} {mm : Mm} {a : Nat} {S : Sk} (hV : VC W mm) (hn : n ≤ 6) (hS : VS W n w t M mm) (hW : VW n w t a S mm) (w6 : ∀ j, w j < 6) {x : Nat} (hx : fstN W n w t M x) {k : Nat} (hk : k < n) : m_X8_swearerOf S (nI k) mm = some (nI (rowN n x k)) := by
  have hf := wf.1
  have pp := Nat.two_pow_pos (fk W)
  have p6 : 2 ^ fk W ≤ 2 ^ 6 := Nat.pow_le_pow_right (by decide) hf
  have pn : 2 ^ n ≤ 2 ^ 6 := Nat.pow_le_pow_right (by decide) hn
  unfold m_X8_swearerOf
  rw [hS.1, hV.1]
  simp (disch := omega) only [zz_0, zz_1, zz_2, zz_3, zz_4, zz_5, zz_6, zz_7, zz_8, zz_9, zz_10, zz_11, zz_12, zz_13, zz_14, zz_15, zz_16, zz_20, zz_24, zz_25, zz_26, zz_28, zz_31, zz_32, zz_36, zz_39, zz_40, zz_48, zz_49, zz_50, zz_57, zz_59, zz_60, zz_64, zz_72, zz_97, zz_99, zz_100, zz_122, zz_144, zz_161, zz_255, zz_256, zz_288, zz_322, zz_384, zz_400, zz_448, zz_600, zz_1280, zz_1000000, n_lt, n_shl1, n_sub, o_id]
  rw [if_neg (by omega), if_pos hk]
  obtain ⟨q, e, rfl⟩ := loop_n (body := m_X8_swearerOf_b33 (nI k) mm S) (a := (nI (2 ^ fk W - 1), nI 0, nI 6, nI 0)) (fun j z => z = (nI (freJ W (rowN n x) j), nI (Sr W j w t (rowN n x)), nI (if j = 0 then 6 else rowN n x (j - 1)), nI j)) (fun q => q = nI (rowN n x k)) (k + 1) (FU_big (by omega)) rfl (by
    rintro j z hj rfl
    have r6 := rowN_le n x j
    have sb := Sr_b W j w t (rowN n x)
    have sb2 : 2 ^ j ≤ 2 ^ n := Nat.pow_le_pow_right (by decide) (by omega)
    have fb := freJ_b wf (rowN n x) j
    have ef : m_X8_firstFor S (nI j) (nI (Sr W j w t (rowN n x))) (nI (freJ W (rowN n x) j)) mm = some (nI (rowN n x j)) := (C_firstFor wf hn hS hW w6 (j := j) (set := Sr W j w t (rowN n x)) (free := freJ W (rowN n x) j) (by omega) (by omega) fb).trans (congrArg (fun y => some (nI y)) (first_is wf hx (by omega)))
    have o35 := hS.2.1 j (by omega)
    have ob := opr_b wf w t j
    have es : Sr W (j + 1) w t (rowN n x) = Sr W j w t (rowN n x) ||| if (opr W w t j).testBit (rowN n x j) = true then 2 ^ j else 0 := rfl
    have ej : freJ W (rowN n x) (j + 1) = if rowN n x j = 6 then freJ W (rowN n x) j else ndf (freJ W (rowN n x) j) (2 ^ rowN n x j) := rfl
    unfold m_X8_swearerOf_b33
    simp (disch := omega) only [zz_0, zz_1, zz_2, zz_3, zz_4, zz_5, zz_6, zz_7, zz_8, zz_9, zz_10, zz_11, zz_12, zz_13, zz_14, zz_15, zz_16, zz_20, zz_24, zz_25, zz_26, zz_28, zz_31, zz_32, zz_36, zz_39, zz_40, zz_48, zz_49, zz_50, zz_57, zz_59, zz_60, zz_64, zz_72, zz_97, zz_99, zz_100, zz_122, zz_144, zz_161, zz_255, zz_256, zz_288, zz_322, zz_384, zz_400, zz_448, zz_600, zz_1280, zz_1000000, n_lt, ef, ob_s, n_eq]
    rw [if_neg (by omega)]
    refine ⟨(nI (freJ W (rowN n x) (j + 1)), nI (Sr W (j + 1) w t (rowN n x)), nI (if j + 1 = 0 then 6 else rowN n x (j + 1 - 1)), nI (j + 1)), ?_, rfl⟩
    have ew : (if j + 1 = 0 then 6 else rowN n x (j + 1 - 1)) = rowN n x j := by
      rw [if_neg (by omega)]; rfl
    rw [ew, es, ej]
    by_cases h6 : rowN n x j = 6
    · rw [if_pos h6, if_pos h6, ob_s, nI_add, if_neg]
      · rw [Nat.or_zero]
      · rw [h6]
        intro q
        have := ((opr_bit W w t j 6).mp q).1
        omega
    · rw [if_neg h6, if_neg h6]
      simp (disch := omega) only [n_grd, n_ix, o35, n_shl1, n_m1, n_andn, n_hasC, b2_0, ob_s, nI_add]
      cases (opr W w t j).testBit (rowN n x j) <;> simp [fa_or]) (by
    rintro z rfl
    unfold m_X8_swearerOf_b33
    simp (disch := omega) only [zz_0, zz_1, zz_2, zz_3, zz_4, zz_5, zz_6, zz_7, zz_8, zz_9, zz_10, zz_11, zz_12, zz_13, zz_14, zz_15, zz_16, zz_20, zz_24, zz_25, zz_26, zz_28, zz_31, zz_32, zz_36, zz_39, zz_40, zz_48, zz_49, zz_50, zz_57, zz_59, zz_60, zz_64, zz_72, zz_97, zz_99, zz_100, zz_122, zz_144, zz_161, zz_255, zz_256, zz_288, zz_322, zz_384, zz_400, zz_448, zz_600, zz_1280, zz_1000000, n_lt]
    rw [if_pos (by omega)]
    exact ⟨_, rfl, by rw [if_neg (by omega)]; rfl⟩)
  exact e
