/-! L3: the reference stores what was read; what was read is sound -/
theorem M_store {S : Sk} {m : Mm} {pl wide k o L : Nat} {x : Int32} (hx : x = nI wide) (hL : (sK S pl).2 = L) (hw : wide ≤ 161) (ho : o = wide * k) (hb : o + wide ≤ L) (hLb : L < 100000) (hp : pl ≠ 54) : ∃ m', m_X12_store S pl x (nI k) m = some m' ∧ (∀ y, y < wide → mI m' pl (o + y) = mI m 54 y) ∧ ∀ p j, ¬ (p = pl ∧ o ≤ j ∧ j < o + wide) → mI m' p j = mI m p j := by
  subst hx
  obtain ⟨m', e, e1, e2⟩ := loop_inv (body := m_X12_store_b3 pl (nI wide) (nI k) S) (a := ((0 : Int32), m)) (fun i z => z.1 = nI i ∧ (∀ y, y < i → mI z.2 pl (o + y) = mI m 54 y) ∧ ∀ p j, ¬ (p = pl ∧ o ≤ j ∧ j < o + i) → mI z.2 p j = mI m p j) (fun p2 => (∀ y, y < wide → mI p2 pl (o + y) = mI m 54 y) ∧ ∀ p j, ¬ (p = pl ∧ o ≤ j ∧ j < o + wide) → mI p2 p j = mI m p j) wide (FU_big (by omega)) ⟨rfl, fun y hy => absurd hy (Nat.not_lt_zero _), fun _ _ _ => rfl⟩ (by
    rintro i ⟨z1, z⟩ hi ⟨h1, h2, h3⟩
    simp only at h1 h2 h3
    subst h1
    left
    unfold m_X12_store_b3
    simp only
    rw [if_neg (by rw [n_le (by omega) (by omega)]; omega), n_grd (by omega) (by decide), n_mul, ← ho, nI_add, hL, n_grd (by omega) (by omega), n_ix (by omega), n_ix (by omega)]
    refine ⟨_, rfl, by show nI i + 1 = nI (i + 1); rw [show (1 : Int32) = nI 1 from rfl, nI_add], fun y hy => ?_, fun p j hpj => ?_⟩
    · show mI (sI z pl (o + i) (mI z 54 i)) pl (o + y) = mI m 54 y
      by_cases ey : y = i
      · rw [ey, rdI_eq, h3 54 i (fun q => hp q.1.symm)]
      · rw [rdI_nj _ _ _ _ (by omega)]; exact h2 y (by omega)
    · show mI (sI z pl (o + i) (mI z 54 i)) p j = mI m p j
      rw [rdI, if_neg (fun q => hpj ⟨q.1, by omega, by omega⟩)]
      exact h3 p j (fun q => hpj ⟨q.1, by omega, by omega⟩)) (by
    rintro ⟨z1, z⟩ ⟨h1, h2, h3⟩
    simp only at h1 h2 h3
    subst h1
    unfold m_X12_store_b3
    simp only
    rw [if_pos (by rw [n_le (by omega) (by omega)]; omega)]
    exact ⟨z, rfl, h2, h3⟩)
  refine ⟨m', ?_, e1, e2⟩
  unfold m_X12_store
  rw [e, ob_s]
def QW (c : Nat) (W : Cn) : Prop := (∀ p, wl W p ≤ 9) ∧ (∀ p, rm W p ≤ 4) ∧ (∀ p, lk W p < 64) ∧ (∀ i, vs W i = 0) ∧ (∀ t, hd W t ≤ 9) ∧ (∀ t, cl W t < 256) ∧ (∀ k, sw W k < 6) ∧ (∀ k, bd W k < 6) ∧ (∀ k, th W k < 8) ∧ symC (cl W) ∧ ∀ k, k < oa W → sw W k < c ∧ bd W k < c ∧ sw W k ≠ bd W k
theorem QW_Z (c : Nat) : QW c WZ := ⟨fun _ => by show 0 ≤ 9; decide, fun _ => by show 0 ≤ 4; decide, fun _ => by show 0 < 64; decide, fun _ => rfl, fun _ => by show 5 ≤ 9; decide, fun _ => by show 0 < 256; decide, fun _ => by show 0 < 6; decide, fun _ => by show 0 < 6; decide, fun _ => by show 0 < 8; decide, ⟨fun i j => by show (0 : Nat).testBit j = (0 : Nat).testBit i; rw [Nat.zero_testBit, Nat.zero_testBit], fun i => by show (0 : Nat).testBit i = false; exact Nat.zero_testBit i⟩, fun k hk => absurd hk (Nat.not_lt_zero k)⟩
theorem pw_lt {x n : Nat} (h : x < n) : 2 ^ x < 2 ^ n := Nat.pow_lt_pow_right (by decide) h
theorem tb_or {a x j : Nat} : (a ||| 2 ^ x).testBit j = (a.testBit j || decide (x = j)) := by rw [Nat.testBit_or, Nat.testBit_two_pow]
theorem cl_tk2 (W : Cn) (x y i j : Nat) : (cl (tk2 W x y) i).testBit j = ((cl W i).testBit j || (decide (i = x ∧ j = y) || decide (i = y ∧ j = x))) := by
  show (tk2 W x y 6 i).testBit j = _
  unfold tk2
  by_cases e : i = y
  · rw [if_pos ⟨rfl, e⟩, tb_or, e]
    by_cases e2 : y = x
    · subst e2
      by_cases e3 : j = y
      · subst e3; simp
      · rw [decide_eq_false (fun q => e3 q.symm), decide_eq_false (fun q => e3 q.2)]; simp
    · rw [decide_eq_false (p := y = x ∧ j = y) (fun q => e2 q.1), Bool.false_or]
      by_cases e3 : j = x
      · subst e3; simp
      · rw [decide_eq_false (fun q => e3 q.symm), decide_eq_false (fun q => e3 q.2)]
  · rw [if_neg (fun q => e q.2), decide_eq_false (p := i = y ∧ j = x) (fun q => e q.1), Bool.or_false]
    by_cases e2 : i = x
    · rw [if_pos ⟨rfl, e2⟩, tb_or, e2]
      by_cases e3 : j = y
      · subst e3; simp
      · rw [decide_eq_false (fun q => e3 q.symm), decide_eq_false (fun q => e3 q.2)]
    · rw [if_neg (fun q => e2 q.2), decide_eq_false (fun q => e2 q.1), Bool.or_false]
theorem QW_tk {c : Nat} {W : Cn} (h : QW c W) {d : Nat × Nat × Nat × Nat} (hd : okD 0 d) (h4 : d.1 = 4 → d.2.1 < c ∧ d.2.2.1 < c) : QW c (tkW W d) := by
  obtain ⟨k5, _, _, o0, o1, o2, o3, o4⟩ := okD_r hd
  obtain ⟨h1, h2, h3, h5, h6, h7, h8, h9, h10, h11, h12⟩ := h
  rcases (by omega : d.1 = 0 ∨ d.1 = 1 ∨ d.1 = 2 ∨ d.1 = 3 ∨ d.1 = 4) with e | e | e | e | e
  · obtain ⟨x0, x1⟩ := o0 e
    rw [tkW_0 e]
    refine ⟨fun p => ?_, fun p => ?_, h3, h5, h6, h7, h8, h9, h10, h11, h12⟩
    · show tk0 W d.2.1 d.2.2.1 1 p ≤ 9
      unfold tk0
      rw [if_neg (by omega)]
      split
      · exact x0
      · rw [if_neg (by omega)]; exact h1 p
    · show tk0 W d.2.1 d.2.2.1 2 p ≤ 4
      unfold tk0
      rw [if_neg (by omega), if_neg (by omega)]
      split
      · exact x1
      · exact h2 p
  · obtain ⟨x0, x1⟩ := o1 e
    rw [tkW_1 e]
    refine ⟨h1, h2, h3, h5, fun p => ?_, h7, h8, h9, h10, h11, h12⟩
    show tk1 W d.2.1 d.2.2.1 5 p ≤ 9
    unfold tk1
    split
    · exact x1
    · exact h6 p
  · obtain ⟨x0, x1, x2⟩ := o2 e
    rw [tkW_2 e]
    refine ⟨h1, h2, h3, h5, h6, fun p => ?_, h8, h9, h10, ⟨fun i j => ?_, fun i => ?_⟩, h12⟩
    · show tk2 W d.2.1 d.2.2.1 6 p < 2 ^ 8
      unfold tk2
      split
      · exact Nat.or_lt_two_pow (h7 _) (pw_lt (by omega))
      · split
        · exact Nat.or_lt_two_pow (h7 _) (pw_lt (by omega))
        · exact h7 p
    · rw [cl_tk2, cl_tk2, h11.1 i j, Bool.or_comm (decide (i = d.2.1 ∧ j = d.2.2.1))]
      congr 2
      · exact decide_eq_decide.mpr ⟨fun q => ⟨q.2, q.1⟩, fun q => ⟨q.2, q.1⟩⟩
      · exact decide_eq_decide.mpr ⟨fun q => ⟨q.2, q.1⟩, fun q => ⟨q.2, q.1⟩⟩
    · rw [cl_tk2, h11.2 i, decide_eq_false (fun q => x2 (q.1.symm.trans q.2)), decide_eq_false (fun q => x2 (q.2.symm.trans q.1))]
      rfl
  · obtain ⟨x0, x1, x2⟩ := o3 e
    rw [tkW_3 e]
    refine ⟨h1, h2, fun p => ?_, h5, h6, h7, h8, h9, h10, h11, h12⟩
    show tk3 W d.2.1 d.2.2.1 3 p < 2 ^ 6
    unfold tk3
    split
    · exact Nat.or_lt_two_pow (h3 _) (pw_lt (by omega))
    · exact h3 p
  · obtain ⟨_, x0, x1, x2, x3⟩ := o4 e
    obtain ⟨c0, c1⟩ := h4 e
    rw [tkW_4 e]
    have sw' : ∀ k, sw (tk4 W d.2.1 d.2.2.1 d.2.2.2) k = if k = oa W then d.2.1 else sw W k := fun k => by
      show tk4 W d.2.1 d.2.2.1 d.2.2.2 7 k = _
      unfold tk4
      rw [if_neg (by omega)]
      by_cases q : k = W 0 1
      · rw [if_pos ⟨rfl, q⟩, if_pos q]
      · rw [if_neg (fun z => q z.2), if_neg (by omega), if_neg (by omega), if_neg q]
    have bd' : ∀ k, bd (tk4 W d.2.1 d.2.2.1 d.2.2.2) k = if k = oa W then d.2.2.1 else bd W k := fun k => by
      show tk4 W d.2.1 d.2.2.1 d.2.2.2 8 k = _
      unfold tk4
      rw [if_neg (by omega), if_neg (by omega)]
      by_cases q : k = W 0 1
      · rw [if_pos ⟨rfl, q⟩, if_pos q]
      · rw [if_neg (fun z => q z.2), if_neg (by omega), if_neg q]
    have th' : ∀ k, th (tk4 W d.2.1 d.2.2.1 d.2.2.2) k = if k = oa W then d.2.2.2 else th W k := fun k => by
      show tk4 W d.2.1 d.2.2.1 d.2.2.2 9 k = _
      unfold tk4
      rw [if_neg (by omega), if_neg (by omega), if_neg (by omega)]
      by_cases q : k = W 0 1
      · rw [if_pos ⟨rfl, q⟩, if_pos q]
      · rw [if_neg (fun z => q z.2), if_neg q]
    refine ⟨h1, h2, h3, h5, h6, h7, fun k => ?_, fun k => ?_, fun k => ?_, h11, fun k hk => ?_⟩
    · rw [sw']; split
      · omega
      · exact h8 k
    · rw [bd']; split
      · omega
      · exact h9 k
    · rw [th']; split
      · omega
      · exact h10 k
    · have hk : k < oa W + 1 := hk
      rw [sw', bd']
      by_cases q : k = oa W
      · rw [if_pos q, if_pos q]; exact ⟨c0, c1, x2⟩
      · rw [if_neg q, if_neg q]; exact h12 k (by omega)
theorem QW_D {c : Nat} {D : Dr} : ∀ {N : Nat}, (∀ j, j < N → okD 0 (D j)) → (∀ j, j < N → (D j).1 = 4 → (D j).2.1 < c ∧ (D j).2.2.1 < c) → QW c (WDr D N)
  | 0, _, _ => QW_Z c
  | N + 1, h, h4 => QW_tk (QW_D (fun j hj => h j (by omega)) (fun j hj => h4 j (by omega))) (h N (by omega)) (h4 N (by omega))
theorem okC_D {A : As} (ok : okA 0 A.2.1 A.2.2) (hm : msA A = false) : okC (WDr A.2.2 A.2.1) := by
  have k5 := okA_5 ok
  have cn := WDr_n k5
  obtain ⟨c0, c4⟩ := ok.1 rfl
  have nm : ∀ j, j < A.2.1 → (A.2.2 j).1 = 4 → (A.2.2 j).2.1 < cnK A.2.2 0 A.2.1 ∧ (A.2.2 j).2.2.1 < cnK A.2.2 0 A.2.1 := by
    intro j hj e
    unfold msA at hm
    have h1 : fst1 (msB A.2.2 (cnK A.2.2 0 A.2.1)) A.2.1 = none := by
      cases hq : fst1 (msB A.2.2 (cnK A.2.2 0 A.2.1)) A.2.1 with
      | none => rfl
      | some k => rw [hq] at hm; cases hm
    have h2 := fst1_none.mp h1 j hj
    unfold msB at h2
    rw [decide_eq_false_iff_not] at h2
    by_cases q0 : (A.2.2 j).2.1 < cnK A.2.2 0 A.2.1
    · by_cases q1 : (A.2.2 j).2.2.1 < cnK A.2.2 0 A.2.1
      · exact ⟨q0, q1⟩
      · exact absurd ⟨Or.inr e, Or.inr (by omega)⟩ h2
    · exact absurd ⟨Or.inr e, Or.inl (by omega)⟩ h2
  obtain ⟨h1, h2, h3, h5, h6, h7, h8, h9, h10, h11, h12⟩ := QW_D (c := cnK A.2.2 0 A.2.1) ok.2.2 nm
  refine ⟨⟨⟨by rw [cn.1]; exact c0, by rw [cn.2]; omega, h1, h2, h3, fun i => by rw [h5 i]; decide, h6, h7, h8, h9, h10⟩, h11, by rw [cn.2]; exact c4⟩, ⟨by rw [cn.2]; exact c4, fun k hk => by rw [cn.1]; exact h12 k hk⟩, h5⟩
