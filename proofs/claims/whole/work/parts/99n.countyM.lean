/-! L3: a county's line, as the reference reads it -/
theorem M_county {u : Nat → Nat} {n : Nat} {A : As} {m : Mm} (h : MBn u n 0 A m) {w : Int64} (hw : w = if (pt A.1).1 = 1 ∧ (pt A.1).2.2 - (pt A.1).2.1 ≤ 8 then pk u (pt A.1).2.1 ((pt A.1).2.2 - (pt A.1).2.1) else 0) : LRn u n 0 A (m_X12_countyLine w (nI (pt A.1).2.1) m) := by
  have h' := h
  obtain ⟨h1, h2, h3, h4, h5, h6, h7⟩ := h'
  have gb := GT_b h2.1.2.2.1
  have tb := tw_b (u := u) (t := pt A.1) (fun _ => gb.2.2.2.2 h4)
  have T : ∀ a, a < 17 → 1 ≤ a → a ≠ 6 → (lg_cmp w (cW a) = 0) = (tw u (pt A.1) = a) := fun a x y z => by rw [hw]; exact M_word h1.1.2.1 h2.1.2.2.1 x y z
  have ff : ∀ a b, tw u (pt A.1) = b → a < 17 → 1 ≤ a → a ≠ 6 → b ≠ a → (lg_cmp w (cW a) = 0) = False := fun a b e x y z k => by rw [T a x y z, e]; exact eq_false k
  have tt : ∀ a, tw u (pt A.1) = a → a < 17 → 1 ≤ a → a ≠ 6 → (lg_cmp w (cW a) = 0) = True := fun a e x y z => by rw [T a x y z]; exact eq_true e
  unfold m_X12_countyLine
  rw [cw_1, cw_2, cw_3, cw_4, cw_5]
  by_cases x1 : tw u (pt A.1) = 1
  · have hk : kdA 0 (tw u (pt A.1)) = 0 := by rw [x1]; decide +kernel
    refine LR_k hk (by decide) ?_
    obtain ⟨m', e, ml⟩ := M_folk h hk
    exact ⟨m', by rw [if_pos (of_eq_true (tt 1 x1 (by decide) (by decide) (by decide))), e, ob_s, n_gbz], ml⟩
  by_cases x5 : tw u (pt A.1) = 5
  · have hk : kdA 0 (tw u (pt A.1)) = 4 := by rw [x5]; decide +kernel
    refine LR_k hk (by decide) ?_
    obtain ⟨m', e, ml⟩ := M_oath h hk
    exact ⟨m', by rw [if_neg (of_eq_false (ff 1 5 x5 (by decide) (by decide) (by decide) (by decide))), if_pos (of_eq_true (tt 5 x5 (by decide) (by decide) (by decide))), e, ob_s, n_gbz], ml⟩
  by_cases x2 : tw u (pt A.1) = 2
  · have hk : kdA 0 (tw u (pt A.1)) = 1 := by rw [x2]; decide +kernel
    refine LR_k hk (by decide) ?_
    have y1 := ff 1 2 x2 (by decide) (by decide) (by decide) (by decide)
    have y5 := ff 5 2 x2 (by decide) (by decide) (by decide) (by decide)
    have y2 := tt 2 x2 (by decide) (by decide) (by decide)
    simp only [y1, y5, y2, if_true, if_false, bs_l]
    exact M_hard h hk
  by_cases x3 : tw u (pt A.1) = 3
  · have hk : kdA 0 (tw u (pt A.1)) = 2 := by rw [x3]; decide +kernel
    refine LR_k hk (by decide) ?_
    have y1 := ff 1 3 x3 (by decide) (by decide) (by decide) (by decide)
    have y5 := ff 5 3 x3 (by decide) (by decide) (by decide) (by decide)
    have y2 := ff 2 3 x3 (by decide) (by decide) (by decide) (by decide)
    have y4 := ff 4 3 x3 (by decide) (by decide) (by decide) (by decide)
    have y3 := tt 3 x3 (by decide) (by decide) (by decide)
    simp only [y1, y5, y2, y3, y4, if_true, if_false, bs_l]
    obtain ⟨m0, m2, v, e0, e2, v0, v1⟩ := M_clash h hk
    rw [e0, ob_s, e2, ob_s]
    by_cases vz : v = 0
    · obtain ⟨r1, r2⟩ := v0 vz
      rw [if_pos vz]
      exact ⟨m2, by rw [← r1, vz], r2⟩
    · obtain ⟨r1, r2, r3⟩ := v1 vz
      rw [if_neg vz, ite_self, bs_l, decide_eq_true r1]
      by_cases g0 : mI m2 44 22 = 0
      · rw [if_pos g0]
        exact ⟨m2, rfl, r2 g0⟩
      · rw [if_neg g0]
        obtain ⟨x, y, hx, hy, q0, q1, ml⟩ := r3 g0
        refine ⟨_, ?_, ml⟩
        simp (disch := omega) only [ix0, show ix (1 : Int32) = 1 from rfl, q0, q1, zz_28, zz_1, nI_add, n_grd, n_ix, n_shl1, rdI_ne]
        rfl
  by_cases x4 : tw u (pt A.1) = 4
  · have hk : kdA 0 (tw u (pt A.1)) = 3 := by rw [x4]; decide +kernel
    refine LR_k hk (by decide) ?_
    have y1 := ff 1 4 x4 (by decide) (by decide) (by decide) (by decide)
    have y5 := ff 5 4 x4 (by decide) (by decide) (by decide) (by decide)
    have y2 := ff 2 4 x4 (by decide) (by decide) (by decide) (by decide)
    have y3 := ff 3 4 x4 (by decide) (by decide) (by decide) (by decide)
    have y4 := tt 4 x4 (by decide) (by decide) (by decide)
    simp only [y1, y5, y2, y3, y4, if_true, if_false, bs_l]
    obtain ⟨m0, m2, v, e0, e2, v0, v1⟩ := M_likes h hk
    rw [e0, ob_s, e2, ob_s]
    by_cases vz : v = 0
    · obtain ⟨r1, r2⟩ := v0 vz
      rw [if_pos vz]
      exact ⟨m2, by rw [← r1, vz], r2⟩
    · obtain ⟨r1, r2, r3⟩ := v1 vz
      rw [if_neg vz, decide_eq_true r1, ix0, show ix (1 : Int32) = 1 from rfl]
      have g22 : mI (sI m2 44 21 (m_X12_greater (mI m2 44 21) (m_X12_greater (mI m2 55 0) (mI m2 55 1)))) 44 22 = mI m2 44 22 := rdI_nj _ _ _ _ (by decide)
      rw [g22]
      by_cases g0 : mI m2 44 22 = 0
      · rw [if_pos g0, bs_l, if_pos g0]
        exact ⟨_, rfl, r2 g0⟩
      · rw [if_neg g0]
        obtain ⟨x, y, hx, hy, q0, q1, ml⟩ := r3 g0
        refine ⟨_, ?_, ml⟩
        have z0 : mI (sI m2 44 21 (m_X12_greater (mI m2 44 21) (m_X12_greater (mI m2 55 0) (mI m2 55 1)))) 55 0 = nI x := by rw [rdI_ne _ _ _ _ (by decide)]; exact q0
        have z1 : mI (sI m2 44 21 (m_X12_greater (mI m2 44 21) (m_X12_greater (mI m2 55 0) (mI m2 55 1)))) 55 1 = nI y := by rw [rdI_ne _ _ _ _ (by decide)]; exact q1
        have z5 : ∀ j, mI (sI m2 44 21 (m_X12_greater (mI m2 44 21) (m_X12_greater (mI m2 55 0) (mI m2 55 1)))) 54 j = mI m2 54 j := fun j => rdI_ne _ _ _ _ (by decide)
        generalize sI m2 44 21 (m_X12_greater (mI m2 44 21) (m_X12_greater (mI m2 55 0) (mI m2 55 1))) = X at *
        rw [z0, z1, show (14 : Int32) = nI 14 from rfl, nI_add, n_grd (by omega) (by decide), n_grd (by omega) (by decide), n_ix (by omega), z5, show (1 : Int32) = nI 1 from rfl, n_shl1 (by omega), bs_r]
        rfl
  · have hk : kdA 0 (tw u (pt A.1)) = 7 := by
      have key : ∀ a, a < 17 → (a = 1 ∨ a = 2 ∨ a = 3 ∨ a = 4 ∨ a = 5 ∨ a = 6) ∨ kdA 0 a = 7 := by decide +kernel
      rcases key _ tb.1 with q | q
      · have := tb.2.1; omega
      · exact q
    refine LR_7 hk ?_
    have y1 : (lg_cmp w (cW 1) = 0) = False := by rw [T 1 (by decide) (by decide) (by decide)]; exact eq_false x1
    have y2 : (lg_cmp w (cW 2) = 0) = False := by rw [T 2 (by decide) (by decide) (by decide)]; exact eq_false x2
    have y3 : (lg_cmp w (cW 3) = 0) = False := by rw [T 3 (by decide) (by decide) (by decide)]; exact eq_false x3
    have y4 : (lg_cmp w (cW 4) = 0) = False := by rw [T 4 (by decide) (by decide) (by decide)]; exact eq_false x4
    have y5 : (lg_cmp w (cW 5) = 0) = False := by rw [T 5 (by decide) (by decide) (by decide)]; exact eq_false x5
    rw [if_neg (of_eq_false y1), if_neg (of_eq_false y5), if_neg (of_eq_false y2), if_neg (of_eq_false y3), if_neg (of_eq_false y4)]
    refine ⟨_, ?_, M_dd h1⟩
    unfold m_X12_fails
    rw [gbz_pos (Or.inl rfl), bs_r]
    rfl
