/-! L3: small questions about a county -/
theorem rdI_sm (mm : Mm) (p j : Nat) (v : Int32) (i : Nat) : mI (sI mm p j v) p i = if i = j then v else mI mm p i := by
  rw [rdI]
  by_cases h : i = j <;> simp [h]
theorem arg_cases (a : Int32) {n : Nat} (hn : n < 2147483648) : (∃ p, p < n ∧ a = nI p) ∨ (a < 0 ∨ nI n ≤ a) := by
  by_cases h : a < 0
  · exact Or.inr (Or.inl h)
  · obtain ⟨j, hj, rfl⟩ := nI_of h
    by_cases h2 : j < n
    · exact Or.inl ⟨j, h2, rfl⟩
    · exact Or.inr (Or.inr (by rw [n_le hn hj]; omega))
theorem M_in_yes {p n : Nat} (h : p < n) (hn : n < 2147483648) : m_X12_in (nI p) 0 (nI n - 1) = b2 true := by
  unfold m_X12_in
  simp (disch := omega) only [zz_0, zz_1, zz_2, zz_3, zz_4, zz_5, zz_6, zz_7, zz_8, zz_9, zz_10, zz_11, zz_12, zz_13, zz_14, zz_15, zz_16, zz_20, zz_24, zz_25, zz_26, zz_28, zz_31, zz_32, zz_36, zz_39, zz_40, zz_48, zz_49, zz_50, zz_57, zz_59, zz_60, zz_64, zz_72, zz_97, zz_99, zz_100, zz_122, zz_144, zz_161, zz_255, zz_256, zz_288, zz_322, zz_384, zz_400, zz_448, zz_600, zz_1280, zz_1000000, nI_add, n_mul, n_sub, fa_or, fa_and, fb_xorI, n_div, n_rem, n_le, n_lt, n_eq, n_shl1, n_shr, n_andn, n_ix, n_grd, n_gdz, n_gbz, n_hasM, n_hasC, b2_0, b2_1, n_m1, Option.bind_some, bS_inl, bS_inr, n_max, n_min, n_grt, n_les]
  rw [if_neg (by omega), if_neg (by omega)]
  rfl
theorem M_in_no {a : Int32} {n : Nat} (h : a < 0 ∨ nI n ≤ a) (hn : n < 2147483648) : m_X12_in a 0 (nI n - 1) = b2 false := by
  unfold m_X12_in
  rcases h with h | h
  · rw [if_pos h]; rfl
  · by_cases h0 : a < 0
    · rw [if_pos h0]; rfl
    · obtain ⟨j, hj, rfl⟩ := nI_of h0
      rw [n_le hn hj] at h
      rw [if_neg h0, if_pos]
      · rfl
      · by_cases hn0 : n = 0
        · rw [hn0]
          rw [show nI 0 - 1 = -1 by decide, fa_lt, nI_toInt hj]
          rw [show (-1 : Int32).toInt = -1 by decide]
          omega
        · rw [zz_1, n_sub (by omega), n_lt (by omega) hj]
          omega
def twoB (W : Cn) (a b : Nat) : Bool := decide (a < fk W ∧ b < fk W ∧ a ≠ b)
theorem M_isOne_yes {W : Cn} {st c : Nat} {mm : Mm} (h : VM W st c mm) (wf : WF W) {p : Nat} (hp : p < fk W) : m_X12_isOne (nI p) mm = some (b2 true) := by
  obtain ⟨⟨hc, v23⟩, v24, v25, v26, v56, v57, v58, v59, v60, v61, v62, v20, v28⟩ := h
  obtain ⟨f1, f2, f3, f4, f5, f6, f7, f8, f9, f10, f11⟩ := wf
  unfold m_X12_isOne
  rw [v24, M_in_yes hp (by omega), n_gbz]
theorem M_isOne_no {W : Cn} {st c : Nat} {mm : Mm} (h : VM W st c mm) (wf : WF W) {a : Int32} (hp : a < 0 ∨ nI (fk W) ≤ a) : m_X12_isOne a mm = some (b2 false) := by
  obtain ⟨⟨hc, v23⟩, v24, v25, v26, v56, v57, v58, v59, v60, v61, v62, v20, v28⟩ := h
  obtain ⟨f1, f2, f3, f4, f5, f6, f7, f8, f9, f10, f11⟩ := wf
  unfold m_X12_isOne
  rw [v24, M_in_no hp (by omega), n_gbz]
theorem C_isThere_yes {W : Cn} {mm : Mm} (h : VC W mm) (wf : WF W) {p : Nat} (hp : p < fk W) : m_X7_isThere (nI p) mm = b2 true := by
  obtain ⟨c0, c1, c12, c15, c16, c17, c18, c19, c20, c21, c22, c23⟩ := h
  obtain ⟨f1, f2, f3, f4, f5, f6, f7, f8, f9, f10, f11⟩ := wf
  unfold m_X7_isThere
  simp (disch := omega) only [zz_0, zz_1, zz_2, zz_3, zz_4, zz_5, zz_6, zz_7, zz_8, zz_9, zz_10, zz_11, zz_12, zz_13, zz_14, zz_15, zz_16, zz_20, zz_24, zz_25, zz_26, zz_28, zz_31, zz_32, zz_36, zz_39, zz_40, zz_48, zz_49, zz_50, zz_57, zz_59, zz_60, zz_64, zz_72, zz_97, zz_99, zz_100, zz_122, zz_144, zz_161, zz_255, zz_256, zz_288, zz_322, zz_384, zz_400, zz_448, zz_600, zz_1280, zz_1000000, nI_add, n_mul, n_sub, fa_or, fa_and, fb_xorI, n_div, n_rem, n_le, n_lt, n_eq, n_shl1, n_shr, n_andn, n_ix, n_grd, n_gdz, n_gbz, n_hasM, n_hasC, b2_0, b2_1, n_m1, Option.bind_some, bS_inl, bS_inr, n_max, n_min, n_grt, n_les, c0, c1, c15, c16, c17, c18, c19, c20, c21, c22]
  rw [if_neg (by omega), if_neg (by omega)]
  rfl
theorem C_isThere_no {W : Cn} {mm : Mm} (h : VC W mm) {a : Int32} (hp : a < 0 ∨ nI (fk W) ≤ a) : m_X7_isThere a mm = b2 false := by
  obtain ⟨c0, c1, c12, c15, c16, c17, c18, c19, c20, c21, c22, c23⟩ := h
  unfold m_X7_isThere
  rw [c0]
  rcases hp with h | h
  · rw [if_pos h]; rfl
  · rw [if_pos h]; split <;> rfl
/-- two numbers of the folk, or both sides say no -/
theorem two_cases {W : Cn} (wf : WF W) (a b : Int32) : (∃ p q, a = nI p ∧ b = nI q ∧ p < fk W ∧ q < fk W ∧ p ≠ q) ∨ (∀ mm, VC W mm → m_X7_areTwo a b mm = b2 false) ∧ (∀ st c mm, VM W st c mm → m_X12_areTwo a b mm = some (b2 false)) := by
  have hf := wf.1
  rcases arg_cases a (n := fk W) (by omega) with ⟨p, hp, rfl⟩ | ha
  · rcases arg_cases b (n := fk W) (by omega) with ⟨q, hq, rfl⟩ | hb
    · by_cases hpq : p = q
      · right
        subst hpq
        refine ⟨fun mm h => ?_, fun st c mm h => ?_⟩
        · unfold m_X7_areTwo
          rw [C_isThere_yes h wf hp, if_neg (by decide), if_neg (by decide), if_pos rfl]
          rfl
        · unfold m_X12_areTwo
          simp only [M_isOne_yes h wf hp, Option.bind_some]
          rfl
      · exact Or.inl ⟨p, q, rfl, rfl, hp, hq, hpq⟩
    · right
      refine ⟨fun mm h => ?_, fun st c mm h => ?_⟩
      · unfold m_X7_areTwo
        rw [C_isThere_yes h wf hp, C_isThere_no h hb]
        rfl
      · unfold m_X12_areTwo
        simp only [M_isOne_yes h wf hp, M_isOne_no h wf hb, Option.bind_some]
        rfl
  · right
    refine ⟨fun mm h => ?_, fun st c mm h => ?_⟩
    · unfold m_X7_areTwo
      rw [C_isThere_no h ha]
      rfl
    · unfold m_X12_areTwo
      simp only [M_isOne_no h wf ha, Option.bind_some]
      rfl
theorem C_areTwo {W : Cn} {mm : Mm} (h : VC W mm) (wf : WF W) {p q : Nat} (hp : p < fk W) (hq : q < fk W) (hpq : p ≠ q) : m_X7_areTwo (nI p) (nI q) mm = b2 true := by
  have hf := wf.1
  unfold m_X7_areTwo
  rw [C_isThere_yes h wf hp, C_isThere_yes h wf hq, if_neg (by decide), if_neg (by decide), if_neg]
  · rfl
  · rw [n_eq (by omega) (by omega)]; exact hpq
theorem M_areTwo {W : Cn} {st c : Nat} {mm : Mm} (h : VM W st c mm) (wf : WF W) {p q : Nat} (hp : p < fk W) (hq : q < fk W) (hpq : p ≠ q) : m_X12_areTwo (nI p) (nI q) mm = some (b2 true) := by
  have hf := wf.1
  unfold m_X12_areTwo
  simp only [M_isOne_yes h wf hp, M_isOne_yes h wf hq, Option.bind_some]
  rw [if_neg (by decide), if_neg (by decide), if_neg]
  · rfl
  · rw [n_eq (by omega) (by omega)]; exact hpq
theorem VC_wr {W : Cn} {mm : Mm} (h : VC W mm) {p : Nat} (hp : p < 14 ∨ 23 < p) (j : Nat) (v : Int32) : VC W (sI mm p j v) := by
  unfold VC at h ⊢
  simp (disch := omega) only [rdI_ne]
  exact h
def offB (lo hi : Nat) (Wl : List (Nat × Option Nat)) : Bool := Wl.all (fun e => decide (e.1 < lo) || decide (hi < e.1))
theorem off_cov {lo hi : Nat} {Wl : List (Nat × Option Nat)} (h : offB lo hi Wl = true) {p : Nat} (h1 : lo ≤ p) (h2 : p ≤ hi) (j : Nat) : covB Wl p j = false := by
  cases hc : covB Wl p j with
  | false => rfl
  | true =>
    exfalso
    obtain ⟨e, he, h3⟩ := List.any_eq_true.mp hc
    have h4 := List.all_eq_true.mp h e he
    simp only [Bool.and_eq_true, beq_iff_eq] at h3
    simp only [Bool.or_eq_true, decide_eq_true_eq] at h4
    omega
theorem VC_agx {W : Cn} {mm m : Mm} {Wl : List (Nat × Option Nat)} (h : VC W mm) (ha : agx Wl mm m) (hf : offB 14 23 Wl = true) : VC W m := by
  have e : ∀ p, 14 ≤ p → p ≤ 23 → ∀ j, mI m p j = mI mm p j := fun p h1 h2 j => (ha p j (off_cov hf h1 h2 j)).1
  unfold VC at h ⊢
  simp (disch := omega) only [e]
  exact h
theorem VM_agx {W : Cn} {st c : Nat} {mm m : Mm} {Wl : List (Nat × Option Nat)} (h : VM W st c mm) (ha : agx Wl mm m) (hf : offB 44 62 Wl = true) : VM W st c m := by
  have e : ∀ p, 44 ≤ p → p ≤ 62 → ∀ j, mI m p j = mI mm p j := fun p h1 h2 j => (ha p j (off_cov hf h1 h2 j)).1
  unfold VM at h ⊢
  simp (disch := omega) only [e]
  exact h
theorem sub_2 (a : Int32) (x y : Nat) : a - nI x - nI y = a - nI (x + y) := by
  rw [← nI_add, Int32.sub_eq_add_neg, Int32.sub_eq_add_neg, Int32.sub_eq_add_neg a, Int32.neg_add, Int32.add_assoc, ← Int32.sub_eq_add_neg]
theorem sub_1 (a : Int32) (x : Nat) : a - nI x + -1 = a - nI (x + 1) := by
  have h : (-1 : Int32) = -(nI 1) := by decide
  rw [h, ← Int32.sub_eq_add_neg, sub_2]
theorem sub_0 (a : Int32) : a - nI 0 = a := Int32.sub_zero a
/-- how many broken oaths one has sworn -/
def nbr (W : Cn) (p : Nat) : Nat := fb_ct (fun k => decide (sw W k = p) && (brk W 0).testBit k) (oa W)
theorem C_balance {W : Cn} {mm : Mm} (h : VC W mm) (wf : WF W) (hc : symC (cl W)) {p : Nat} (hp : p < 6) : m_X1_balance (nI p) mm = some (nI (pc (kby W 0 p)) - nI (nbr W p)) := by
  have h1 := C_brokenOaths h wf hc (st := 0) (by decide)
  have h2 := C_keptBy h wf hp
  have h3 := kby_b hc 0 p
  have h4 := brk_b wf 0
  obtain ⟨c0, c1, c12, c15, c16, c17, c18, c19, c20, c21, c22, c23⟩ := h
  obtain ⟨f1, f2, f3, f4, f5, f6, f7, f8, f9, f10, f11⟩ := wf
  unfold m_X1_balance
  simp only [zz_0, zz_1, zz_2, zz_3, zz_4, zz_5, zz_6, zz_7, zz_8, zz_9, zz_10, zz_11, zz_12, zz_13, zz_14, zz_15, zz_16, zz_20, zz_24, zz_25, zz_26, zz_28, zz_31, zz_32, zz_36, zz_39, zz_40, zz_48, zz_49, zz_50, zz_57, zz_59, zz_60, zz_64, zz_72, zz_97, zz_99, zz_100, zz_122, zz_144, zz_161, zz_255, zz_256, zz_288, zz_322, zz_384, zz_400, zz_448, zz_600, zz_1280, zz_1000000, h1, h2, Option.bind_some, o_id]
  rw [bitc_eq (by omega)]
  refine (loop_fo (fun (x : Nat) i => (nI (pc (kby W 0 p)) - nI x, nI i)) (fun k x => x + if (decide (sw W k = p) && (brk W 0).testBit k) then 1 else 0) 0 (oa W) (fun x => nI (pc (kby W 0 p)) - nI x) (fun i x => True) (by rw [sub_0]) (FU_big (by omega)) trivial (fun _ _ _ _ => trivial) ?_ ?_).trans (by rw [fo_ct]; rfl)
  · intro i x hi hx
    have g1 := f9 i
    unfold m_X1_balance_b18
    simp (disch := omega) only [zz_0, zz_1, n_hasC, nI_add, n_ix, n_grd, n_le, n_eq, b2_0, c0, c1, c15, c16, c17, c18, c19, c20, c21, c22]
    rw [if_neg (by omega)]
    by_cases k1 : sw W i = p <;> cases k2 : (brk W 0).testBit i <;> simp [k1, ← sub_1]
    rfl
  · intro x hx
    unfold m_X1_balance_b18
    simp (disch := omega) only [zz_0, zz_1, zz_2, zz_3, zz_4, zz_5, zz_6, zz_7, zz_8, zz_9, zz_10, zz_11, zz_12, zz_13, zz_14, zz_15, zz_16, zz_20, zz_24, zz_25, zz_26, zz_28, zz_31, zz_32, zz_36, zz_39, zz_40, zz_48, zz_49, zz_50, zz_57, zz_59, zz_60, zz_64, zz_72, zz_97, zz_99, zz_100, zz_122, zz_144, zz_161, zz_255, zz_256, zz_288, zz_322, zz_384, zz_400, zz_448, zz_600, zz_1280, zz_1000000, nI_add, n_mul, n_sub, fa_or, fa_and, fb_xorI, n_div, n_rem, n_le, n_lt, n_eq, n_shl1, n_shr, n_andn, n_ix, n_grd, n_gdz, n_gbz, n_hasM, n_hasC, b2_0, b2_1, n_m1, Option.bind_some, bS_inl, bS_inr, n_max, n_min, n_grt, n_les, c0, c1, c15, c16, c17, c18, c19, c20, c21, c22]
    rw [if_pos (by omega)]
theorem M_balance {W : Cn} {c : Nat} {mm : Mm} (h : VM W 0 c mm) (wf : WF W) (hc : symC (cl W)) {p : Nat} (hp : p < 6) : m_X12_balance (nI p) mm = some (nI (pc (kby W 0 p)) - nI (nbr W p)) := by
  have h1 := M_brokenOnes h wf hc (by decide)
  have h2 := M_keptBy h wf hc (by decide) hp
  have h3 := kby_b hc 0 p
  have h4 := brk_b wf 0
  obtain ⟨⟨hc, v23⟩, v24, v25, v26, v56, v57, v58, v59, v60, v61, v62, v20, v28⟩ := h
  obtain ⟨f1, f2, f3, f4, f5, f6, f7, f8, f9, f10, f11⟩ := wf
  unfold m_X12_balance
  simp (disch := omega) only [zz_0, zz_1, zz_2, zz_3, zz_4, zz_5, zz_6, zz_7, zz_8, zz_9, zz_10, zz_11, zz_12, zz_13, zz_14, zz_15, zz_16, zz_20, zz_24, zz_25, zz_26, zz_28, zz_31, zz_32, zz_36, zz_39, zz_40, zz_48, zz_49, zz_50, zz_57, zz_59, zz_60, zz_64, zz_72, zz_97, zz_99, zz_100, zz_122, zz_144, zz_161, zz_255, zz_256, zz_288, zz_322, zz_384, zz_400, zz_448, zz_600, zz_1280, zz_1000000, h1, h2, ones_eq, Option.bind_some, o_id]
  refine (loop_fo (fun (x : Nat) i => (nI (pc (kby W 0 p)) - nI x, nI i)) (fun k x => x + if (decide (sw W k = p) && (brk W 0).testBit k) then 1 else 0) 0 (oa W) (fun x => nI (pc (kby W 0 p)) - nI x) (fun i x => True) (by rw [sub_0]) (FU_big (by omega)) trivial (fun _ _ _ _ => trivial) ?_ ?_).trans (by rw [fo_ct]; rfl)
  · intro i x hi hx
    have g1 := f9 i
    unfold m_X12_balance_b17
    simp (disch := omega) only [zz_0, zz_1, n_hasM, nI_add, n_ix, n_grd, n_le, n_eq, b2_0, v23, v24, v25, v26, v56, v57, v58, v59, v60, v61, v62, v20, v28]
    rw [if_neg (by omega)]
    by_cases k1 : sw W i = p <;> cases k2 : (brk W 0).testBit i <;> simp [k1, sub_2]
  · intro x hx
    unfold m_X12_balance_b17
    simp (disch := omega) only [zz_0, zz_1, zz_2, zz_3, zz_4, zz_5, zz_6, zz_7, zz_8, zz_9, zz_10, zz_11, zz_12, zz_13, zz_14, zz_15, zz_16, zz_20, zz_24, zz_25, zz_26, zz_28, zz_31, zz_32, zz_36, zz_39, zz_40, zz_48, zz_49, zz_50, zz_57, zz_59, zz_60, zz_64, zz_72, zz_97, zz_99, zz_100, zz_122, zz_144, zz_161, zz_255, zz_256, zz_288, zz_322, zz_384, zz_400, zz_448, zz_600, zz_1280, zz_1000000, nI_add, n_mul, n_sub, fa_or, fa_and, fb_xorI, n_div, n_rem, n_le, n_lt, n_eq, n_shl1, n_shr, n_andn, n_ix, n_grd, n_gdz, n_gbz, n_hasM, n_hasC, b2_0, b2_1, n_m1, Option.bind_some, bS_inl, bS_inr, n_max, n_min, n_grt, n_les, v23, v24, v25, v26, v56, v57, v58, v59, v60, v61, v62, v20, v28]
    rw [if_pos (by omega)]
def upW (W : Cn) (a i v : Nat) : Cn := fun b j => if b = a ∧ j = i then v else W b j
theorem WF_will {W : Cn} (wf : WF W) {p v : Nat} (hv : v ≤ 9) : WF (upW W 1 p v) := by
  obtain ⟨f1, f2, f3, f4, f5, f6, f7, f8, f9, f10, f11⟩ := wf
  refine ⟨f1, f2, fun q => ?_, f4, f5, f6, f7, f8, f9, f10, f11⟩
  show (if 1 = 1 ∧ q = p then v else W 1 q) ≤ 9
  split
  · exact hv
  · exact f3 q
theorem VC_will {W : Cn} {mm : Mm} (h : VC W mm) (p v : Nat) : VC (upW W 1 p v) (sI mm 15 p (nI v)) := by
  obtain ⟨c0, c1, c12, c15, c16, c17, c18, c19, c20, c21, c22, c23⟩ := h
  have e : ∀ b, b ≠ 15 → ∀ j, mI (sI mm 15 p (nI v)) b j = mI mm b j := fun b hb j => rdI_ne _ _ _ _ hb
  refine ⟨c0, c1, c12, fun q hq => ?_, c16, c17, c18, c19, c20, c21, c22, c23⟩
  rw [rdI_sm, c15 q hq]
  show _ = nI (if 1 = 1 ∧ q = p then v else W 1 q)
  by_cases hqp : q = p <;> simp [hqp]
theorem VM_will {W : Cn} {st c : Nat} {mm : Mm} (h : VM W st c mm) (p v : Nat) : VM (upW W 1 p v) st c (sI mm 56 p (nI v)) := by
  obtain ⟨⟨hc, v23⟩, v24, v25, v26, v56, v57, v58, v59, v60, v61, v62, v20, v28⟩ := h
  refine ⟨⟨hc, v23⟩, v24, v25, v26, fun q hq => ?_, v57, v58, v59, v60, v61, v62, v20, v28⟩
  rw [rdI_sm, v56 q hq]
  show _ = nI (if 1 = 1 ∧ q = p then v else W 1 q)
  by_cases hqp : q = p <;> simp [hqp]
theorem upW_tw (W : Cn) (a i v w : Nat) : upW (upW W a i v) a i w = upW W a i w := by
  funext b j
  unfold upW
  by_cases h : b = a ∧ j = i <;> simp [h]
/-- by how much will all that is sworn for one would be kept -/
def hrn (W : Cn) (p : Nat) : Option Nat := fst1 (fun y => decide (kby (upW W 1 p (wl W p + y)) 0 p = swf W 0 p)) (10 - wl W p)
def enc1 (o : Option Nat) : Int32 := match o with
  | none => -1
  | some k => nI k
theorem C_hearten {W : Cn} {mm : Mm} (h : VC W mm) (wf : WF W) (hc : symC (cl W)) {p : Nat} (hp : p < 6) : ∃ m, m_X1_hearten (nI p) mm = some (enc1 (hrn W p), m) := by
  have h1 := C_swornFor h wf hp
  have g1 := wf.2.2.1 p
  have g2 := h.2.2.2.1 p hp
  have sb := swf_b wf 0 p
  unfold m_X1_hearten
  simp (disch := omega) only [zz_0, zz_1, h1, Option.bind_some, n_grd]
  have V : ∀ i, i < 10 - wl W p → VC (upW W 1 p (wl W p + i)) (fo (fun k m => sI m 15 p (nI (wl W p + k))) mm (i + 1)) := by
    intro i hi
    induction i with
    | zero => exact VC_will h p _
    | succ i ih =>
      have := VC_will (ih (by omega)) p (wl W p + (i + 1))
      rw [upW_tw] at this
      exact this
  have hw := loop_fst (body := m_X1_hearten_b16 (nI p) mm (nI (swf W 0 p))) (s0 := (nI 0, mm)) (fun i => (nI i, fo (fun k m => sI m 15 p (nI (wl W p + k))) mm i)) (fun y => decide (kby (upW W 1 p (wl W p + y)) 0 p = swf W 0 p)) (10 - wl W p) (fun k => .inr (nI k, fo (fun k m => sI m 15 p (nI (wl W p + k))) mm (k + 1))) (.inl (fo (fun k m => sI m 15 p (nI (wl W p + k))) mm (10 - wl W p))) rfl (FU_big (by omega)) (by
    intro i hi hb
    have hk := C_keptBy (V i hi) (WF_will wf (by omega)) hp
    have kb := kby_b (W := upW W 1 p (wl W p + i)) hc 0 p
    unfold m_X1_hearten_b16
    simp (disch := omega) only [zz_0, zz_1, zz_2, zz_3, zz_4, zz_5, zz_6, zz_7, zz_8, zz_9, zz_10, zz_11, zz_12, zz_13, zz_14, zz_15, zz_16, zz_20, zz_24, zz_25, zz_26, zz_28, zz_31, zz_32, zz_36, zz_39, zz_40, zz_48, zz_49, zz_50, zz_57, zz_59, zz_60, zz_64, zz_72, zz_97, zz_99, zz_100, zz_122, zz_144, zz_161, zz_255, zz_256, zz_288, zz_322, zz_384, zz_400, zz_448, zz_600, zz_1280, zz_1000000, nI_add, n_mul, n_sub, fa_or, fa_and, fb_xorI, n_div, n_rem, n_le, n_lt, n_eq, n_shl1, n_shr, n_andn, n_ix, n_grd, n_gdz, n_gbz, n_hasM, n_hasC, b2_0, b2_1, n_m1, Option.bind_some, bS_inl, bS_inr, n_max, n_min, n_grt, n_les, g2]
    rw [if_neg (by omega)]
    rw [show sI (fo (fun k m => sI m 15 p (nI (wl W p + k))) mm i) 15 p (nI (wl W p + i)) = fo (fun k m => sI m 15 p (nI (wl W p + k))) mm (i + 1) from rfl, hk]
    simp (disch := omega) only [zz_0, zz_1, zz_2, zz_3, zz_4, zz_5, zz_6, zz_7, zz_8, zz_9, zz_10, zz_11, zz_12, zz_13, zz_14, zz_15, zz_16, zz_20, zz_24, zz_25, zz_26, zz_28, zz_31, zz_32, zz_36, zz_39, zz_40, zz_48, zz_49, zz_50, zz_57, zz_59, zz_60, zz_64, zz_72, zz_97, zz_99, zz_100, zz_122, zz_144, zz_161, zz_255, zz_256, zz_288, zz_322, zz_384, zz_400, zz_448, zz_600, zz_1280, zz_1000000, nI_add, n_mul, n_sub, fa_or, fa_and, fb_xorI, n_div, n_rem, n_le, n_lt, n_eq, n_shl1, n_shr, n_andn, n_ix, n_grd, n_gdz, n_gbz, n_hasM, n_hasC, b2_0, b2_1, n_m1, Option.bind_some, bS_inl, bS_inr, n_max, n_min, n_grt, n_les]
    rw [if_neg (by simpa using hb)]) (by
    intro i hi hb
    have hk := C_keptBy (V i hi) (WF_will wf (by omega)) hp
    have kb := kby_b (W := upW W 1 p (wl W p + i)) hc 0 p
    unfold m_X1_hearten_b16
    simp (disch := omega) only [zz_0, zz_1, zz_2, zz_3, zz_4, zz_5, zz_6, zz_7, zz_8, zz_9, zz_10, zz_11, zz_12, zz_13, zz_14, zz_15, zz_16, zz_20, zz_24, zz_25, zz_26, zz_28, zz_31, zz_32, zz_36, zz_39, zz_40, zz_48, zz_49, zz_50, zz_57, zz_59, zz_60, zz_64, zz_72, zz_97, zz_99, zz_100, zz_122, zz_144, zz_161, zz_255, zz_256, zz_288, zz_322, zz_384, zz_400, zz_448, zz_600, zz_1280, zz_1000000, nI_add, n_mul, n_sub, fa_or, fa_and, fb_xorI, n_div, n_rem, n_le, n_lt, n_eq, n_shl1, n_shr, n_andn, n_ix, n_grd, n_gdz, n_gbz, n_hasM, n_hasC, b2_0, b2_1, n_m1, Option.bind_some, bS_inl, bS_inr, n_max, n_min, n_grt, n_les, g2]
    rw [if_neg (by omega)]
    rw [show sI (fo (fun k m => sI m 15 p (nI (wl W p + k))) mm i) 15 p (nI (wl W p + i)) = fo (fun k m => sI m 15 p (nI (wl W p + k))) mm (i + 1) from rfl, hk]
    simp (disch := omega) only [zz_0, zz_1, zz_2, zz_3, zz_4, zz_5, zz_6, zz_7, zz_8, zz_9, zz_10, zz_11, zz_12, zz_13, zz_14, zz_15, zz_16, zz_20, zz_24, zz_25, zz_26, zz_28, zz_31, zz_32, zz_36, zz_39, zz_40, zz_48, zz_49, zz_50, zz_57, zz_59, zz_60, zz_64, zz_72, zz_97, zz_99, zz_100, zz_122, zz_144, zz_161, zz_255, zz_256, zz_288, zz_322, zz_384, zz_400, zz_448, zz_600, zz_1280, zz_1000000, nI_add, n_mul, n_sub, fa_or, fa_and, fb_xorI, n_div, n_rem, n_le, n_lt, n_eq, n_shl1, n_shr, n_andn, n_ix, n_grd, n_gdz, n_gbz, n_hasM, n_hasC, b2_0, b2_1, n_m1, Option.bind_some, bS_inl, bS_inr, n_max, n_min, n_grt, n_les]
    rw [if_pos (by simpa using hb)]) (by
    unfold m_X1_hearten_b16
    simp (disch := omega) only [zz_0, zz_1, zz_2, zz_3, zz_4, zz_5, zz_6, zz_7, zz_8, zz_9, zz_10, zz_11, zz_12, zz_13, zz_14, zz_15, zz_16, zz_20, zz_24, zz_25, zz_26, zz_28, zz_31, zz_32, zz_36, zz_39, zz_40, zz_48, zz_49, zz_50, zz_57, zz_59, zz_60, zz_64, zz_72, zz_97, zz_99, zz_100, zz_122, zz_144, zz_161, zz_255, zz_256, zz_288, zz_322, zz_384, zz_400, zz_448, zz_600, zz_1280, zz_1000000, nI_add, n_mul, n_sub, fa_or, fa_and, fb_xorI, n_div, n_rem, n_le, n_lt, n_eq, n_shl1, n_shr, n_andn, n_ix, n_grd, n_gdz, n_gbz, n_hasM, n_hasC, b2_0, b2_1, n_m1, Option.bind_some, bS_inl, bS_inr, n_max, n_min, n_grt, n_les, g2]
    rw [if_pos (by omega)])
  rw [hw]
  unfold hrn
  cases fst1 (fun y => decide (kby (upW W 1 p (wl W p + y)) 0 p = swf W 0 p)) (10 - wl W p) with
  | none => exact ⟨_, rfl⟩
  | some k => exact ⟨_, rfl⟩
theorem M_hearten {W : Cn} {c : Nat} {mm : Mm} (h : VM W 0 c mm) (wf : WF W) (hc : symC (cl W)) (ht : ∀ p, p < 6 → mI mm 50 (72 * c + (2 + p)) = nI (wl W p)) {p : Nat} (hp : p < 6) : ∃ m, m_X12_hearten (nI p) mm = some (enc1 (hrn W p), m) := by
  have g1 := wf.2.2.1 p
  have sb := swf_b wf 0 p
  unfold m_X12_hearten
  simp (disch := omega) only [zz_0, zz_1]
  have T : ∀ i j, mI (fo (fun k m => sI m 56 p (nI (wl W p + k))) mm i) 50 j = mI mm 50 j := by
    intro i
    induction i with
    | zero => intro j; rfl
    | succ i ih => intro j; exact (rdI_ne _ _ _ _ (by decide)).trans (ih j)
  have V : ∀ i, i < 10 - wl W p → VM (upW W 1 p (wl W p + i)) 0 c (fo (fun k m => sI m 56 p (nI (wl W p + k))) mm (i + 1)) := by
    intro i hi
    induction i with
    | zero => exact VM_will h p _
    | succ i ih =>
      have := VM_will (ih (by omega)) p (wl W p + (i + 1))
      rw [upW_tw] at this
      exact this
  have V0 : ∀ i, i ≤ 10 - wl W p → ∃ W', VM W' 0 c (fo (fun k m => sI m 56 p (nI (wl W p + k))) mm i) := by
    intro i hi
    cases i with
    | zero => exact ⟨W, h⟩
    | succ i => exact ⟨_, V i (by omega)⟩
  have hw := loop_fst (body := m_X12_hearten_b2 (nI p)) (s0 := (nI 0, mm)) (fun i => (nI i, fo (fun k m => sI m 56 p (nI (wl W p + k))) mm i)) (fun y => decide (kby (upW W 1 p (wl W p + y)) 0 p = swf W 0 p)) (10 - wl W p) (fun k => .inr (nI k, fo (fun k m => sI m 56 p (nI (wl W p + k))) mm (k + 1))) (.inl (fo (fun k m => sI m 56 p (nI (wl W p + k))) mm (10 - wl W p))) rfl (FU_big (by omega)) (by
    intro i hi hb
    obtain ⟨W', hV'⟩ := V0 i (by omega)
    have hof := M_of hV' (a := 2 + p) (by omega)
    have hk := M_keptBy (V i hi) (WF_will wf (by omega)) hc (by decide) hp
    have hs := M_swornFor (V i hi) (WF_will wf (by omega)) (by decide) hp
    have kb := kby_b (W := upW W 1 p (wl W p + i)) hc 0 p
    have e1 : swf (upW W 1 p (wl W p + i)) 0 p = swf W 0 p := rfl
    rw [T, ht p hp] at hof
    unfold m_X12_hearten_b2
    simp (disch := omega) only [zz_0, zz_1, zz_2, zz_3, zz_4, zz_5, zz_6, zz_7, zz_8, zz_9, zz_10, zz_11, zz_12, zz_13, zz_14, zz_15, zz_16, zz_20, zz_24, zz_25, zz_26, zz_28, zz_31, zz_32, zz_36, zz_39, zz_40, zz_48, zz_49, zz_50, zz_57, zz_59, zz_60, zz_64, zz_72, zz_97, zz_99, zz_100, zz_122, zz_144, zz_161, zz_255, zz_256, zz_288, zz_322, zz_384, zz_400, zz_448, zz_600, zz_1280, zz_1000000, nI_add, n_mul, n_sub, fa_or, fa_and, fb_xorI, n_div, n_rem, n_le, n_lt, n_eq, n_shl1, n_shr, n_andn, n_ix, n_grd, n_gdz, n_gbz, n_hasM, n_hasC, b2_0, b2_1, n_m1, Option.bind_some, bS_inl, bS_inr, n_max, n_min, n_grt, n_les, hof]
    rw [if_neg (by omega)]
    rw [show sI (fo (fun k m => sI m 56 p (nI (wl W p + k))) mm i) 56 p (nI (wl W p + i)) = fo (fun k m => sI m 56 p (nI (wl W p + k))) mm (i + 1) from rfl, hk, hs, e1]
    simp (disch := omega) only [zz_0, zz_1, zz_2, zz_3, zz_4, zz_5, zz_6, zz_7, zz_8, zz_9, zz_10, zz_11, zz_12, zz_13, zz_14, zz_15, zz_16, zz_20, zz_24, zz_25, zz_26, zz_28, zz_31, zz_32, zz_36, zz_39, zz_40, zz_48, zz_49, zz_50, zz_57, zz_59, zz_60, zz_64, zz_72, zz_97, zz_99, zz_100, zz_122, zz_144, zz_161, zz_255, zz_256, zz_288, zz_322, zz_384, zz_400, zz_448, zz_600, zz_1280, zz_1000000, nI_add, n_mul, n_sub, fa_or, fa_and, fb_xorI, n_div, n_rem, n_le, n_lt, n_eq, n_shl1, n_shr, n_andn, n_ix, n_grd, n_gdz, n_gbz, n_hasM, n_hasC, b2_0, b2_1, n_m1, Option.bind_some, bS_inl, bS_inr, n_max, n_min, n_grt, n_les]
    rw [if_neg (by simpa using hb)]) (by
    intro i hi hb
    obtain ⟨W', hV'⟩ := V0 i (by omega)
    have hof := M_of hV' (a := 2 + p) (by omega)
    have hk := M_keptBy (V i hi) (WF_will wf (by omega)) hc (by decide) hp
    have hs := M_swornFor (V i hi) (WF_will wf (by omega)) (by decide) hp
    have kb := kby_b (W := upW W 1 p (wl W p + i)) hc 0 p
    have e1 : swf (upW W 1 p (wl W p + i)) 0 p = swf W 0 p := rfl
    rw [T, ht p hp] at hof
    unfold m_X12_hearten_b2
    simp (disch := omega) only [zz_0, zz_1, zz_2, zz_3, zz_4, zz_5, zz_6, zz_7, zz_8, zz_9, zz_10, zz_11, zz_12, zz_13, zz_14, zz_15, zz_16, zz_20, zz_24, zz_25, zz_26, zz_28, zz_31, zz_32, zz_36, zz_39, zz_40, zz_48, zz_49, zz_50, zz_57, zz_59, zz_60, zz_64, zz_72, zz_97, zz_99, zz_100, zz_122, zz_144, zz_161, zz_255, zz_256, zz_288, zz_322, zz_384, zz_400, zz_448, zz_600, zz_1280, zz_1000000, nI_add, n_mul, n_sub, fa_or, fa_and, fb_xorI, n_div, n_rem, n_le, n_lt, n_eq, n_shl1, n_shr, n_andn, n_ix, n_grd, n_gdz, n_gbz, n_hasM, n_hasC, b2_0, b2_1, n_m1, Option.bind_some, bS_inl, bS_inr, n_max, n_min, n_grt, n_les, hof]
    rw [if_neg (by omega)]
    rw [show sI (fo (fun k m => sI m 56 p (nI (wl W p + k))) mm i) 56 p (nI (wl W p + i)) = fo (fun k m => sI m 56 p (nI (wl W p + k))) mm (i + 1) from rfl, hk, hs, e1]
    simp (disch := omega) only [zz_0, zz_1, zz_2, zz_3, zz_4, zz_5, zz_6, zz_7, zz_8, zz_9, zz_10, zz_11, zz_12, zz_13, zz_14, zz_15, zz_16, zz_20, zz_24, zz_25, zz_26, zz_28, zz_31, zz_32, zz_36, zz_39, zz_40, zz_48, zz_49, zz_50, zz_57, zz_59, zz_60, zz_64, zz_72, zz_97, zz_99, zz_100, zz_122, zz_144, zz_161, zz_255, zz_256, zz_288, zz_322, zz_384, zz_400, zz_448, zz_600, zz_1280, zz_1000000, nI_add, n_mul, n_sub, fa_or, fa_and, fb_xorI, n_div, n_rem, n_le, n_lt, n_eq, n_shl1, n_shr, n_andn, n_ix, n_grd, n_gdz, n_gbz, n_hasM, n_hasC, b2_0, b2_1, n_m1, Option.bind_some, bS_inl, bS_inr, n_max, n_min, n_grt, n_les]
    rw [if_pos (by simpa using hb)]) (by
    obtain ⟨W', hV'⟩ := V0 (10 - wl W p) (by omega)
    have hof := M_of hV' (a := 2 + p) (by omega)
    rw [T, ht p hp] at hof
    unfold m_X12_hearten_b2
    simp (disch := omega) only [zz_0, zz_1, zz_2, zz_3, zz_4, zz_5, zz_6, zz_7, zz_8, zz_9, zz_10, zz_11, zz_12, zz_13, zz_14, zz_15, zz_16, zz_20, zz_24, zz_25, zz_26, zz_28, zz_31, zz_32, zz_36, zz_39, zz_40, zz_48, zz_49, zz_50, zz_57, zz_59, zz_60, zz_64, zz_72, zz_97, zz_99, zz_100, zz_122, zz_144, zz_161, zz_255, zz_256, zz_288, zz_322, zz_384, zz_400, zz_448, zz_600, zz_1280, zz_1000000, nI_add, n_mul, n_sub, fa_or, fa_and, fb_xorI, n_div, n_rem, n_le, n_lt, n_eq, n_shl1, n_shr, n_andn, n_ix, n_grd, n_gdz, n_gbz, n_hasM, n_hasC, b2_0, b2_1, n_m1, Option.bind_some, bS_inl, bS_inr, n_max, n_min, n_grt, n_les, hof]
    rw [if_pos (by omega)])
  rw [hw]
  unfold hrn
  cases fst1 (fun y => decide (kby (upW W 1 p (wl W p + y)) 0 p = swf W 0 p)) (10 - wl W p) with
  | none => exact ⟨_, rfl⟩
  | some k => exact ⟨_, rfl⟩
theorem M_fallen {W : Cn} {c : Nat} {mm : Mm} (h : VM W 0 c mm) (wf : WF W) (hc : symC (cl W)) : m_X12_fallen mm = some (nI (swz W (brk W 0))) := by
  have h1 := M_brokenOnes h wf hc (by decide)
  have h4 := brk_b wf 0
  obtain ⟨⟨hc, v23⟩, v24, v25, v26, v56, v57, v58, v59, v60, v61, v62, v20, v28⟩ := h
  obtain ⟨f1, f2, f3, f4, f5, f6, f7, f8, f9, f10, f11⟩ := wf
  unfold m_X12_fallen
  simp only [h1, Option.bind_some, o_id]
  refine loop_fo (fun (x : Nat) i => (nI x, nI i)) _ 0 (oa W) (fun x => nI x) (fun i x => True) rfl (FU_big (by omega)) trivial (fun _ _ _ _ => trivial) ?_ ?_
  · intro i x hi hx
    have g1 := f9 i
    unfold m_X12_fallen_b9
    simp (disch := omega) only [zz_0, zz_1, zz_2, zz_3, zz_4, zz_5, zz_6, zz_7, zz_8, zz_9, zz_10, zz_11, zz_12, zz_13, zz_14, zz_15, zz_16, zz_20, zz_24, zz_25, zz_26, zz_28, zz_31, zz_32, zz_36, zz_39, zz_40, zz_48, zz_49, zz_50, zz_57, zz_59, zz_60, zz_64, zz_72, zz_97, zz_99, zz_100, zz_122, zz_144, zz_161, zz_255, zz_256, zz_288, zz_322, zz_384, zz_400, zz_448, zz_600, zz_1280, zz_1000000, nI_add, n_mul, n_sub, fa_or, fa_and, fb_xorI, n_div, n_rem, n_le, n_lt, n_eq, n_shl1, n_shr, n_andn, n_ix, n_grd, n_gdz, n_gbz, n_hasM, n_hasC, b2_0, b2_1, n_m1, Option.bind_some, bS_inl, bS_inr, n_max, n_min, n_grt, n_les, v23, v24, v25, v26, v56, v57, v58, v59, v60, v61, v62, v20, v28]
    rw [if_neg (by omega)]
    cases k2 : (brk W 0).testBit i <;> simp [fa_or]
  · intro x hx
    unfold m_X12_fallen_b9
    simp (disch := omega) only [zz_0, zz_1, zz_2, zz_3, zz_4, zz_5, zz_6, zz_7, zz_8, zz_9, zz_10, zz_11, zz_12, zz_13, zz_14, zz_15, zz_16, zz_20, zz_24, zz_25, zz_26, zz_28, zz_31, zz_32, zz_36, zz_39, zz_40, zz_48, zz_49, zz_50, zz_57, zz_59, zz_60, zz_64, zz_72, zz_97, zz_99, zz_100, zz_122, zz_144, zz_161, zz_255, zz_256, zz_288, zz_322, zz_384, zz_400, zz_448, zz_600, zz_1280, zz_1000000, nI_add, n_mul, n_sub, fa_or, fa_and, fb_xorI, n_div, n_rem, n_le, n_lt, n_eq, n_shl1, n_shr, n_andn, n_ix, n_grd, n_gdz, n_gbz, n_hasM, n_hasC, b2_0, b2_1, n_m1, Option.bind_some, bS_inl, bS_inr, n_max, n_min, n_grt, n_les, v23, v24, v25, v26, v56, v57, v58, v59, v60, v61, v62, v20, v28]
    rw [if_pos (by omega)]
