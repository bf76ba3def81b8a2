/-! L3: what was told, cell by cell -/
def OpP (S : Sk) (mm : Mm) (x : Option Int32) (y : Mm → Option (Int32 × Mm)) : Prop := ∃ r m2, x = some r ∧ y mm = some (r, m2) ∧ Inv S m2
theorem op_p {S : Sk} {mm : Mm} {x : Option Int32} {y : Mm → Option (Int32 × Mm)} {r : Int32} {m2 : Mm} (h : Inv S mm) (hx : x = some r) (hy : y mm = some (r, m2)) {L : List (Nat × Option Nat)} (hL : qOK L = true) (hA : agx L mm m2) : OpP S mm x y := ⟨r, m2, hx, hy, (Inv_m h hL hA).1⟩
theorem neg_div {a : Int32} (h : a < 0) {k : Nat} (hk : 1 ≤ k) (hk2 : k < 10) : ¬ a / 10 = nI k := by
  intro q
  have h1 := Int32.toInt_div_of_ne_right a 10 (by decide)
  rw [q, nI_toInt (by omega)] at h1
  have h2 := Int32.lt_iff_toInt_lt.mp h
  rw [show (0 : Int32).toInt = 0 by decide] at h2
  rw [show (10 : Int32).toInt = 10 by decide] at h1
  have h3 : a.toInt.tdiv 10 ≤ 0 := by
    have : 0 ≤ (-a.toInt).tdiv 10 := Int.tdiv_nonneg (by omega) (by decide)
    rw [Int.neg_tdiv] at this
    omega
  omega
theorem op_county {S : Sk} {mm : Mm} (h : Inv S mm) (a1 a2 : Int32) : OpP S mm (m_X11_county S a1 a2 mm) (m_X12_county a1 a2) := by
  rcases county_at h a1 with ⟨e, hm⟩ | ⟨i, W, c, ea, hi, e, hc, hk, hv, ok, hm⟩
  · have ex : m_X11_county S a1 a2 mm = some (-1) := by unfold m_X11_county; rw [e, ob_s]; rfl
    have ey : m_X12_county a1 a2 mm = some (-1, sI mm 44 0 0) := by unfold m_X12_county; rw [hm _ agK_44, ob_s]; rfl
    exact op_p h ex ey (by decide) (fr_X12_county ey)
  · obtain ⟨m', em, hR, hMV, hA⟩ := hm (sI mm 44 0 0) agK_44
    have wf := ok.1.1
    have f6 := wf.1
    have wo := ok.1.2.2
    obtain ⟨o8, o9, o1, o2, o3, o4, o5, o6, o7, o10⟩ := hv
    obtain ⟨g0, g1, g2, g3, g4, g5, g6, g7, g8, g9⟩ := hMV
    have hV := hR.1
    obtain ⟨⟨v0, v1⟩, v2, v3, v4, v5, v6, v7, v8, v9, v10, v11, v12, v13⟩ := hR.1
    have C0 : m_X11_county S a1 a2 mm = (m_X2_tell c a2 mm).bind (fun q6 => some q6) := by
      unfold m_X11_county; rw [e, ob_s]; simp only [oM]; rw [gk_pos hk]
    have M0 : m_X12_county a1 a2 mm = (if a2 < 100 then (if (a2 / 10) = 0 then (if (m_X12_in a2 0 1) = 0 then (some (-1, m')) else ((m_X12_of a2 m').bind (fun q7 => some (q7, m')))) else (if (a2 / 10) = 1 then ((m_X12_isOne (xrem a2 10) m').bind (fun q10 => if q10 = 0 then (some (-1, m')) else (grd (xrem a2 10) 6 (some (mI m' 56 (ix (xrem a2 10)), m'))))) else (if (a2 / 10) = 2 then ((m_X12_isOne (xrem a2 10) m').bind (fun q15 => if q15 = 0 then (some (-1, m')) else (grd (xrem a2 10) 6 (some (mI m' 57 (ix (xrem a2 10)), m'))))) else (if (a2 / 10) = 3 then ((m_X12_isOne (xrem a2 10) m').bind (fun q20 => if q20 = 0 then (some (-1, m')) else (grd (xrem a2 10) 6 (some (mI m' 58 (ix (xrem a2 10)), m'))))) else (if (a2 / 10) = 4 then (if 8 ≤ (xrem a2 10) then (some (-1, m')) else ((m_X12_of ((if 50 ≤ a2 then 28 else 20) + (xrem a2 10)) m').bind (fun q29 => some (q29, m')))) else (if (a2 / 10) = 5 then (if 8 ≤ (xrem a2 10) then (some (-1, m')) else ((m_X12_of ((if 50 ≤ a2 then 28 else 20) + (xrem a2 10)) m').bind (fun q37 => some (q37, m')))) else (some (-1, m')))))))) else (if 400 ≤ a2 then (some (-1, m')) else ((m_X12_ofOath (xrem a2 100) (a2 / 100) m').bind (fun q41 => some (q41, m'))))) := by
      unfold m_X12_county; rw [em, ob_s, if_neg i10]
    suffices ∃ r, m_X2_tell c a2 mm = some r ∧ m_X12_county a1 a2 mm = some (r, m') by
      obtain ⟨r, t1, t2⟩ := this
      exact op_p h (by rw [C0, t1, ob_s]) t2 (by decide) (fr_X12_county t2)
    rw [M0]
    clear M0 C0
    rcases int_cases a2 with ⟨j, hj, rfl⟩ | hneg
    · have le_l : ∀ k, k < 2147483648 → ((nI k ≤ nI j) ↔ k ≤ j) := fun k hk => iff_of_eq (n_le hk hj)
      by_cases j100 : 100 ≤ j
      · have d1 : nI j / 100 = nI (j / 100) := n_div (b := 100) hj (by decide)
        have r1 : xrem (nI j) 100 = nI (j % 100) := n_rem (b := 100) hj (by decide)
        rw [if_neg (show ¬ nI j < 100 from fun q => by rw [show (100 : Int32) = nI 100 from rfl, n_lt hj (by decide)] at q; omega)]
        unfold m_X2_tell
        rw [if_pos (show (10 : Int32) ≤ nI j from (le_l 10 (by decide)).mpr (by omega)), if_pos (show (100 : Int32) ≤ nI j from (le_l 100 (by decide)).mpr j100), d1, r1]
        unfold m_X2_tellOath
        rw [o9]
        by_cases j400 : 400 ≤ j
        · rw [if_pos (show (400 : Int32) ≤ nI j from (le_l 400 (by decide)).mpr j400)]
          refine ⟨-1, ?_, rfl⟩
          have nk : ∀ k, k < 4 → ¬ nI (j / 100) = nI k := fun k hk q => by rw [n_eq (by omega) (by omega)] at q; omega
          rw [if_neg (show ¬ nI (j / 100) = 1 from nk 1 (by decide)), if_neg (show ¬ nI (j / 100) = 2 from nk 2 (by decide)), if_neg (show ¬ nI (j / 100) = 3 from nk 3 (by decide)), ite_self, ob_s]
        · rw [if_neg (show ¬ (400 : Int32) ≤ nI j from fun q => j400 ((le_l 400 (by decide)).mp q))]
          unfold m_X12_ofOath
          rw [show m_X12_of 1 m' = some (nI (oa W)) from (of_at v0 v1 (a := 1) (by decide)).trans (congrArg some g1), ob_s]
          by_cases hko : j % 100 < oa W
          · rw [M_in_yes hko (by omega), if_neg i2t, if_pos (by rw [n_lt (by omega) (by omega)]; exact hko)]
            have k12 : j % 100 < 12 := by omega
            rw [n_grd (by omega) (by decide), n_grd (by omega) (by decide), n_grd (by omega) (by decide), n_grd (by omega) (by decide), n_grd (by omega) (by decide), n_grd (by omega) (by decide), n_ix (by omega), v9 _ hko, v10 _ hko, v11 _ hko]
            have o6' : mI mm (c + 1 + 5) (j % 100) = nI (sw W (j % 100)) := o6 _ k12
            have o7' : mI mm (c + 1 + 6) (j % 100) = nI (bd W (j % 100)) := o7 _ k12
            have o10' : mI mm (c + 1 + 7) (j % 100) = nI (th W (j % 100)) := o10 _ k12
            rw [o6', o7', o10']
            rcases (by omega : j / 100 = 1 ∨ j / 100 = 2 ∨ j / 100 = 3) with k | k | k
            · rw [k, if_pos (by decide), if_pos (by decide)]; exact ⟨_, rfl, rfl⟩
            · rw [k, if_neg (by decide), if_pos (by decide), if_neg (by decide), if_pos (by decide)]; exact ⟨_, rfl, rfl⟩
            · rw [k, if_neg (by decide), if_neg (by decide), if_pos (by decide), if_neg (by decide), if_neg (by decide)]; exact ⟨_, rfl, rfl⟩
          · rw [M_in_no (a := nI (j % 100)) (Or.inr (by rw [n_le (by omega) (by omega)]; omega)) (show oa W < 2147483648 by omega), if_pos i2f, if_neg (by rw [n_lt (by omega) (by omega)]; exact hko)]
            exact ⟨_, rfl, rfl⟩
      · rw [if_pos (show nI j < 100 from by rw [show (100 : Int32) = nI 100 from rfl, n_lt hj (by decide)]; omega)]
        have n100 : ¬ (100 : Int32) ≤ nI j := fun q => j100 ((le_l 100 (by decide)).mp q)
        have d1 : ∀ k, j / 10 = k → nI j / 10 = nI k := fun k hk => by rw [← hk]; exact n_div (b := 10) hj (by decide)
        have r1 : xrem (nI j) 10 = nI (j % 10) := n_rem (b := 10) hj (by decide)
        by_cases j10 : 10 ≤ j
        · have y10 : (10 : Int32) ≤ nI j := (le_l 10 (by decide)).mpr j10
          by_cases j40 : 40 ≤ j
          · have y40 : (40 : Int32) ≤ nI j := (le_l 40 (by decide)).mpr j40
            have T0 : ∀ k, j / 10 = k → m_X2_tell c (nI j) mm = (m_X2_tellThing c (nI k) (nI (j % 10)) mm).bind (fun q6 => some q6) := fun k hk => by
              unfold m_X2_tell; rw [if_pos y10, if_neg n100, if_pos y40, d1 k hk, r1]
            by_cases j8 : j % 10 < 8
            · have y8 : nI (j % 10) < 8 := by rw [show (8 : Int32) = nI 8 from rfl, n_lt (by omega) (by decide)]; exact j8
              have z8 : ¬ (8 : Int32) ≤ nI (j % 10) := fun q => by rw [show (8 : Int32) = nI 8 from rfl, n_le (by decide) (by omega)] at q; omega
              have o4' : mI mm (c + 1 + 3) (j % 10) = nI (hd W (j % 10)) := o4 _ j8
              have o5' : mI mm (c + 1 + 4) (j % 10) = nI (cl W (j % 10)) := o5 _ j8
              rcases (by omega : j / 10 = 4 ∨ j / 10 = 5 ∨ j / 10 = 6 ∨ j / 10 = 7 ∨ j / 10 = 8 ∨ j / 10 = 9) with k | k | k | k | k | k <;> rw [T0 _ k, d1 _ k, r1] <;> unfold m_X2_tellThing <;> rw [if_pos y8]
              · rw [if_pos (by decide), if_neg (by decide), if_neg (by decide), if_neg (by decide), if_neg (by decide), if_pos (by decide), if_neg z8, if_neg (show ¬ (50 : Int32) ≤ nI j from fun q => by have := (le_l 50 (by decide)).mp q; omega), n_grd (by omega) (by decide), n_ix (by omega), o4', show (20 : Int32) = nI 20 from rfl, nI_add, of_at v0 v1 (by omega), ob_s, ob_s, g5 _ j8]
                exact ⟨_, rfl, rfl⟩
              · rw [if_neg (by decide), if_pos (by decide), if_neg (by decide), if_neg (by decide), if_neg (by decide), if_neg (by decide), if_neg (by decide), if_pos (by decide), if_neg z8, if_pos (show (50 : Int32) ≤ nI j from (le_l 50 (by decide)).mpr (by omega)), n_grd (by omega) (by decide), n_ix (by omega), o5', show (28 : Int32) = nI 28 from rfl, nI_add, of_at v0 v1 (by omega), ob_s, ob_s, g6 _ j8]
                exact ⟨_, rfl, rfl⟩
              all_goals exact ⟨-1, by rw [if_neg (by decide), if_neg (by decide), ob_s], by rw [if_neg (by decide), if_neg (by decide), if_neg (by decide), if_neg (by decide), if_neg (by decide), if_neg (by decide)]⟩
            · have y8 : ¬ nI (j % 10) < 8 := fun q => by rw [show (8 : Int32) = nI 8 from rfl, n_lt (by omega) (by decide)] at q; exact j8 q
              have z8 : (8 : Int32) ≤ nI (j % 10) := by rw [show (8 : Int32) = nI 8 from rfl, n_le (by decide) (by omega)]; omega
              rcases (by omega : j / 10 = 4 ∨ j / 10 = 5 ∨ j / 10 = 6 ∨ j / 10 = 7 ∨ j / 10 = 8 ∨ j / 10 = 9) with k | k | k | k | k | k <;> rw [T0 _ k, d1 _ k, r1] <;> unfold m_X2_tellThing <;> rw [if_neg y8, if_pos z8]
              all_goals exact ⟨-1, rfl, by rw [if_neg (by decide), if_neg (by decide), if_neg (by decide), if_neg (by decide)]; first | rfl | (rw [if_pos (by decide)]) | (rw [if_neg (by decide), if_pos (by decide)]) | (rw [if_neg (by decide), if_neg (by decide)])⟩
          · have n40 : ¬ (40 : Int32) ≤ nI j := fun q => j40 ((le_l 40 (by decide)).mp q)
            have T0 : ∀ k, j / 10 = k → m_X2_tell c (nI j) mm = (m_X2_tellOne c (nI k) (nI (j % 10)) mm).bind (fun q6 => some q6) := fun k hk => by
              unfold m_X2_tell; rw [if_pos y10, if_neg n100, if_neg n40, d1 k hk, r1]
            by_cases hp : j % 10 < fk W
            · have hp6 : j % 10 < 6 := by omega
              have o1' : mI mm (c + 1 + 0) (j % 10) = nI (wl W (j % 10)) := o1 _ hp6
              have o2' : mI mm (c + 1 + 1) (j % 10) = nI (rm W (j % 10)) := o2 _ hp6
              have o3' : mI mm (c + 1 + 2) (j % 10) = nI (lk W (j % 10)) := o3 _ hp6
              have T1 : ∀ k, m_X2_tellOne c (nI k) (nI (j % 10)) mm = some (if nI k = 1 then nI (wl W (j % 10)) else if nI k = 2 then nI (rm W (j % 10)) else nI (lk W (j % 10))) := fun k => by
                unfold m_X2_tellOne
                rw [o8, if_pos (by rw [n_lt (by omega) (by omega)]; exact hp)]
                simp (disch := omega) only [n_grd, n_ix, o1', o2', o3']
                split
                · rfl
                · split <;> rfl
              rcases (by omega : j / 10 = 1 ∨ j / 10 = 2 ∨ j / 10 = 3) with k | k | k <;> rw [T0 _ k, T1, d1 _ k, r1, M_isOne_yes hV wf hp]
              · exact ⟨_, rfl, by rw [if_neg (by decide), if_pos (by decide), ob_s, if_neg i2t, n_grd (by omega) (by decide), n_ix (by omega), v5 _ hp6]; rfl⟩
              · exact ⟨_, rfl, by rw [if_neg (by decide), if_neg (by decide), if_pos (by decide), ob_s, if_neg i2t, n_grd (by omega) (by decide), n_ix (by omega), v6 _ hp6]; rfl⟩
              · exact ⟨_, rfl, by rw [if_neg (by decide), if_neg (by decide), if_neg (by decide), if_pos (by decide), ob_s, if_neg i2t, n_grd (by omega) (by decide), n_ix (by omega), v7 _ hp6]; rfl⟩
            · have T1 : ∀ k, m_X2_tellOne c (nI k) (nI (j % 10)) mm = some (-1) := fun k => by
                unfold m_X2_tellOne
                rw [o8, if_neg (by rw [n_lt (by omega) (by omega)]; exact hp)]
              have I0 := M_isOne_no hV wf (a := nI (j % 10)) (Or.inr (by rw [n_le (by omega) (by omega)]; omega))
              rcases (by omega : j / 10 = 1 ∨ j / 10 = 2 ∨ j / 10 = 3) with k | k | k <;> rw [T0 _ k, T1, d1 _ k, r1, I0]
              · exact ⟨_, rfl, by rw [if_neg (by decide), if_pos (by decide), ob_s, if_pos i2f]⟩
              · exact ⟨_, rfl, by rw [if_neg (by decide), if_neg (by decide), if_pos (by decide), ob_s, if_pos i2f]⟩
              · exact ⟨_, rfl, by rw [if_neg (by decide), if_neg (by decide), if_neg (by decide), if_pos (by decide), ob_s, if_pos i2f]⟩
        · have n10 : ¬ (10 : Int32) ≤ nI j := fun q => j10 ((le_l 10 (by decide)).mp q)
          rw [d1 0 (by omega), if_pos (by decide)]
          unfold m_X2_tell
          rw [if_neg n10]
          by_cases j1 : j < 2
          · rw [show m_X12_in (nI j) 0 1 = b2 true from in_y (n := 1) (by omega) (by decide), if_neg i2t, of_at v0 v1 (by omega), ob_s, o8, o9]
            rcases (by omega : j = 0 ∨ j = 1) with rfl | rfl
            · exact ⟨_, rfl, by rw [Nat.add_zero, g0]⟩
            · exact ⟨_, rfl, by rw [g1]⟩
          · have nk : ∀ k, k < 2 → ¬ nI j = nI k := fun k hk q => by rw [n_eq (by omega) (by omega)] at q; omega
            rw [if_neg (show ¬ nI j = 0 from nk 0 (by decide)), if_neg (show ¬ nI j = 1 from nk 1 (by decide)), show m_X12_in (nI j) 0 1 = b2 false from in_n (n := 1) (Or.inr (by rw [n_le (by omega) (by omega)]; omega)) (by decide), if_pos i2f]
            exact ⟨_, rfl, rfl⟩
    · refine ⟨-1, ?_, ?_⟩
      · unfold m_X2_tell
        rw [if_neg (fun q => absurd (Int32.lt_of_le_of_lt q hneg) (by decide)), if_neg (fun q => absurd (q ▸ hneg) (by decide)), if_neg (fun q => absurd (q ▸ hneg) (by decide))]
      · rw [if_pos (Int32.lt_trans hneg (by decide)), show m_X12_in a2 0 1 = b2 false from in_n (n := 1) (Or.inl hneg) (by decide), if_pos i2f]
        rw [if_neg (show ¬ a2 / 10 = 1 from neg_div hneg (k := 1) (by decide) (by decide)), if_neg (show ¬ a2 / 10 = 2 from neg_div hneg (k := 2) (by decide) (by decide)), if_neg (show ¬ a2 / 10 = 3 from neg_div hneg (k := 3) (by decide) (by decide)), if_neg (show ¬ a2 / 10 = 4 from neg_div hneg (k := 4) (by decide) (by decide)), if_neg (show ¬ a2 / 10 = 5 from neg_div hneg (k := 5) (by decide) (by decide)), ite_self]
theorem cell_at {n : Nat} {z : Nat → Nat → Int32} {c : Nat} {S : Sk} {mm : Mm} (h : RO n z c S mm) (hn : n < 1000) {j q : Nat} (hj : j < n) (hq : q < 4) : m_X6_cell S c (nI j) (nI q) mm = some (z j q) := by
  rw [C_cell h.2.2.1 h.2.1 hn hj hq, h.2.2.2 j q hj hq]
def cosV (n k : Nat) (v : Nat → Nat → Int32) (a1 a2 : Int32) : Int32 := if a2 < 0 then -2 else if ¬ a2 < nI k then -2 else if a1 = -1 then (if a2 = 0 then nI n else -2) else if a1 < 0 ∨ ¬ a1 < nI n then -2 else v (ix a1) (ix a2)
/-- a cell of rows, as the class tells it -/
theorem cos_at {n : Nat} {z : Nat → Nat → Int32} {c : Nat} {S : Sk} {mm : Mm} (h : RO n z c S mm) (hn : n < 1000) (a1 a2 : Int32) {k f : Nat} (hk : k + f ≤ 4) : m_X11_cellOrSize S (some c) a1 a2 (a2 + nI f) (nI k) mm = some (cosV n k (fun x q => z x (f + q)) a1 a2) := by
  unfold m_X11_cellOrSize cosV
  simp only [oM]
  by_cases z2 : a2 < 0
  · rw [if_pos z2, if_pos z2]
  · rw [if_neg z2, if_neg z2]
    by_cases y2 : a2 < nI k
    · rw [if_pos y2, if_neg (show ¬ ¬ a2 < nI k from fun q => q y2)]
      by_cases k1 : a1 = -1
      · rw [if_pos k1, if_pos k1]
        by_cases k2 : a2 = 0
        · rw [if_pos k2, if_pos k2, gk_pos h.1, h.2.2.1]
        · rw [if_neg k2, if_neg k2]
      · rw [if_neg k1, if_neg k1]
        by_cases z1 : a1 < 0
        · rw [if_pos z1, if_pos (Or.inl z1), bs_l]
        · rw [if_neg z1, gk_pos h.1, h.2.2.1]
          by_cases y1 : a1 < nI n
          · rw [if_pos y1, if_neg (fun q => q.elim z1 (fun q => q y1))]
            obtain ⟨j, hj, rfl⟩ := nI_of z1
            obtain ⟨q, hq, rfl⟩ := nI_of z2
            rw [n_lt hj (by omega)] at y1
            rw [n_lt hq (by omega)] at y2
            rw [nI_add, cell_at h hn y1 (by omega), ob_s, bs_r, n_ix hj, n_ix hq, Nat.add_comm]
          · rw [if_neg y1, if_pos (Or.inr y1), bs_l]
    · rw [if_neg y2, if_pos y2]
theorem cos_no {S : Sk} {mm : Mm} (a1 a2 a3 a4 : Int32) : m_X11_cellOrSize S none a1 a2 a3 a4 mm = some (-2) := rfl
/-- the same, as the reference tells it -/
theorem ref_at {n : Nat} (hn : n < 1000) (a2 a3 : Int32) {k : Nat} (hk0 : 0 < k) (hk : k ≤ 4) {m : Mm} {v : Nat → Nat → Int32} {f : Int32 → Int32 → Mm → Option Int32} (hf : ∀ j q, j < n → q < k → f (nI j) (nI q) m = some (v j q)) : (if a2 = -1 then (if a3 = 0 then (some (nI n, m)) else (some (-2, m))) else (if (m_X12_in a2 0 (nI n - 1)) = 0 then (some (-2, m)) else (if (m_X12_in a3 0 (nI k - 1)) = 0 then (some (-2, m)) else ((f a2 a3 m).bind (fun q9 => some (q9, m)))))) = some (cosV n k v a2 a3, m) := by
  unfold cosV
  by_cases k1 : a2 = -1
  · rw [if_pos k1, if_pos k1]
    by_cases k0 : a3 = 0
    · rw [if_pos k0, if_pos k0, k0, if_neg (by decide), if_neg (fun q => q (by rw [show (0 : Int32) = nI 0 from rfl, n_lt (by omega) (by omega)]; exact hk0))]
    · rw [if_neg k0, if_neg k0]
      split
      · rfl
      · split <;> rfl
  · rw [if_neg k1, if_neg k1]
    rcases arg_cases a2 (n := n) (by omega) with ⟨j, hj, rfl⟩ | h2
    · rw [M_in_yes hj (by omega), if_neg i2t]
      rcases arg_cases a3 (n := k) (by omega) with ⟨q, hq, rfl⟩ | h3
      · rw [M_in_yes hq (by omega), if_neg i2t, hf j q hj hq, ob_s, if_neg (by rw [show (0 : Int32) = nI 0 from rfl, n_lt (by omega) (by omega)]; omega), if_neg (fun x => x (by rw [n_lt (by omega) (by omega)]; exact hq)), if_neg, n_ix (by omega), n_ix (by omega)]
        rintro (x | x)
        · rw [show (0 : Int32) = nI 0 from rfl, n_lt (by omega) (by omega)] at x; omega
        · exact x (by rw [n_lt (by omega) (by omega)]; exact hj)
      · rw [M_in_no h3 (by omega), if_pos i2f]
        by_cases z : a3 < 0
        · rw [if_pos z]
        · rw [if_neg z, if_pos (far_lt h3 z)]
    · rw [M_in_no h2 (by omega), if_pos i2f]
      have : a2 < 0 ∨ ¬ a2 < nI n := by
        by_cases z : a2 < 0
        · exact Or.inl z
        · exact Or.inr (far_lt h2 z)
      rw [if_pos this]
      split
      · rfl
      · split <;> rfl
theorem op_deed {S : Sk} {mm : Mm} (h : Inv S mm) (a1 a2 a3 : Int32) : OpP S mm (m_X11_deed S a1 a2 a3 mm) (m_X12_deed a1 a2 a3) := by
  rcases rows_at h (s := 1) (by decide) (by decide) a1 with ⟨er, hr⟩ | ⟨T, j, d, rfl, hj, okr, er, hd71, hRO, hr⟩
  · have eh : m_X12_hasTerm a1 (sI mm 44 0 0) = some (b2 false, sI (sI mm 44 0 0) 44 38 a1) := hasR (s := 1) (hr _ (agK_tr agK_44 agK_44))
    have ex : m_X11_deed S a1 a2 a3 mm = some (-2) := by unfold m_X11_deed; rw [show (1 : Int32) = nI 1 from rfl, er, ob_s]; rfl
    have ey : m_X12_deed a1 a2 a3 mm = some (-2, sI (sI mm 44 0 0) 44 38 a1) := by unfold m_X12_deed; rw [eh, ob_s]; rfl
    exact op_p h ex ey (by decide) (fr_X12_deed ey)
  · have hr2 := hr (sI (sI mm 44 0 0) 44 38 (nI j)) (agK_tr agK_44 agK_44)
    have eh : m_X12_hasTerm (nI j) (sI mm 44 0 0) = some (b2 true, sI (sI mm 44 0 0) 44 38 (nI j)) := hasR (s := 1) hr2.1
    have n40 : tr T 1 j ≤ 40 := okr.1
    have ed : m_X12_deeds (sI (sI mm 44 0 0) 44 38 (nI j)) = some (nI (tr T 1 j)) := by
      have := hr2.2.1
      unfold m_X12_deeds
      rw [rdI_eq, show (161 : Int32) = nI 161 from rfl]
      simp (disch := omega) only [n_mul, n_grd, n_ix]
      exact congrArg some this
    have ec : ∀ x q, x < tr T 1 j → q < 4 → m_X12_deedOf (nI x) (nI q) (sI (sI mm 44 0 0) 44 38 (nI j)) = some (tz T 1 j x q) := fun x q hx hq => by
      have := hr2.2.2 x q hx hq
      unfold m_X12_deedOf
      rw [rdI_eq, show (161 : Int32) = nI 161 from rfl, show (1 : Int32) = nI 1 from rfl, show (4 : Int32) = nI 4 from rfl]
      simp (disch := omega) only [n_mul, nI_add, n_grd, n_ix]
      rw [show rw0 1 + q = q from Nat.zero_add q] at this
      exact congrArg some this
    have ex := cos_at hRO (by omega) a2 a3 (k := 4) (f := 0) (by decide)
    rw [show a3 + nI 0 = a3 from Int32.add_zero a3] at ex
    have ey := ref_at (n := tr T 1 j) (by omega) a2 a3 (k := 4) (by decide) (by decide) (v := tz T 1 j) ec
    have ey' : m_X12_deed (nI j) a2 a3 mm = some (cosV (tr T 1 j) 4 (tz T 1 j) a2 a3, sI (sI mm 44 0 0) 44 38 (nI j)) := by
      unfold m_X12_deed; rw [eh, ob_s, if_neg i2t]; simp only; rw [ed, ob_s, ob_s]
      exact ey
    refine op_p h ?_ ey' (by decide) (fr_X12_deed ey')
    unfold m_X11_deed; rw [show (1 : Int32) = nI 1 from rfl, er, ob_s, show (4 : Int32) = nI 4 from rfl, ex, ob_s]
    simp only [Nat.zero_add]
theorem op_want {S : Sk} {mm : Mm} (h : Inv S mm) (a1 a2 a3 : Int32) : OpP S mm (m_X11_want S a1 a2 a3 mm) (m_X12_want a1 a2 a3) := by
  rcases rows_at h (s := 2) (by decide) (by decide) a1 with ⟨er, hr⟩ | ⟨T, j, d, rfl, hj, okr, er, hd71, hRO, hr⟩
  · have eh : m_X12_hasWants a1 (sI mm 44 0 0) = some (b2 false, sI (sI mm 44 0 0) 44 41 a1) := hasR (s := 2) (hr _ (agK_tr agK_44 agK_44))
    have ex : m_X11_want S a1 a2 a3 mm = some (-2) := by unfold m_X11_want; rw [show (2 : Int32) = nI 2 from rfl, er, ob_s]; rfl
    have ey : m_X12_want a1 a2 a3 mm = some (-2, sI (sI mm 44 0 0) 44 41 a1) := by unfold m_X12_want; rw [eh, ob_s]; rfl
    exact op_p h ex ey (by decide) (fr_X12_want ey)
  · have hr2 := hr (sI (sI mm 44 0 0) 44 41 (nI j)) (agK_tr agK_44 agK_44)
    have eh : m_X12_hasWants (nI j) (sI mm 44 0 0) = some (b2 true, sI (sI mm 44 0 0) 44 41 (nI j)) := hasR (s := 2) hr2.1
    have n6 : tr T 2 j ≤ 6 := okr.1
    have ed : m_X12_allWants (sI (sI mm 44 0 0) 44 41 (nI j)) = some (nI (tr T 2 j)) := by
      have := hr2.2.1
      unfold m_X12_allWants
      rw [rdI_eq, show (13 : Int32) = nI 13 from rfl]
      simp (disch := omega) only [n_mul, n_grd, n_ix]
      exact congrArg some this
    have ec : ∀ x q, x < tr T 2 j → q < 2 → m_X12_wantOf (nI x) (nI q) (sI (sI mm 44 0 0) 44 41 (nI j)) = some (tz T 2 j x (1 + q)) := fun x q hx hq => by
      have := hr2.2.2 x q hx hq
      unfold m_X12_wantOf
      rw [rdI_eq, show (13 : Int32) = nI 13 from rfl, show (1 : Int32) = nI 1 from rfl, show (2 : Int32) = nI 2 from rfl]
      simp (disch := omega) only [n_mul, nI_add, n_grd, n_ix]
      exact congrArg some this
    have ex := cos_at hRO (by omega) a2 a3 (k := 2) (f := 1) (by decide)
    have ey := ref_at (n := tr T 2 j) (by omega) a2 a3 (k := 2) (by decide) (by decide) (v := fun x q => tz T 2 j x (1 + q)) ec
    have ey' : m_X12_want (nI j) a2 a3 mm = some (cosV (tr T 2 j) 2 (fun x q => tz T 2 j x (1 + q)) a2 a3, sI (sI mm 44 0 0) 44 41 (nI j)) := by
      unfold m_X12_want; rw [eh, ob_s, if_neg i2t]; simp only; rw [ed, ob_s, ob_s]
      exact ey
    refine op_p h ?_ ey' (by decide) (fr_X12_want ey')
    unfold m_X11_want; rw [show (2 : Int32) = nI 2 from rfl, er, ob_s, show (1 : Int32) = nI 1 from rfl, ex, ob_s]
theorem op_fact {S : Sk} {mm : Mm} (h : Inv S mm) (a1 a2 a3 : Int32) : OpP S mm (m_X11_fact S a1 a2 a3 mm) (m_X12_fact a1 a2 a3) := by
  rcases rows_at h (s := 3) (by decide) (by decide) a1 with ⟨er, hr⟩ | ⟨T, j, d, rfl, hj, okr, er, hd71, hRO, hr⟩
  · have eh : m_X12_hasLog a1 (sI mm 44 0 0) = some (b2 false, sI (sI mm 44 0 0) 44 46 a1) := hasR (s := 3) (hr _ (agK_tr agK_44 agK_44))
    have ex : m_X11_fact S a1 a2 a3 mm = some (-2) := by unfold m_X11_fact; rw [show (3 : Int32) = nI 3 from rfl, er, ob_s]; rfl
    have ey : m_X12_fact a1 a2 a3 mm = some (-2, sI (sI mm 44 0 0) 44 46 a1) := by unfold m_X12_fact; rw [eh, ob_s]; rfl
    exact op_p h ex ey (by decide) (fr_X12_fact ey)
  · have hr2 := hr (sI (sI mm 44 0 0) 44 46 (nI j)) (agK_tr agK_44 agK_44)
    have eh : m_X12_hasLog (nI j) (sI mm 44 0 0) = some (b2 true, sI (sI mm 44 0 0) 44 46 (nI j)) := hasR (s := 3) hr2.1
    have n8 : tr T 3 j ≤ 8 := okr.1
    have ed : m_X12_facts (sI (sI mm 44 0 0) 44 46 (nI j)) = some (nI (tr T 3 j)) := by
      have := hr2.2.1
      unfold m_X12_facts
      rw [rdI_eq, show (25 : Int32) = nI 25 from rfl]
      simp (disch := omega) only [n_mul, n_grd, n_ix]
      exact congrArg some this
    have ec : ∀ x q, x < tr T 3 j → q < 3 → m_X12_factOf (nI x) (nI q) (sI (sI mm 44 0 0) 44 46 (nI j)) = some (tz T 3 j x q) := fun x q hx hq => by
      have := hr2.2.2 x q hx hq
      unfold m_X12_factOf
      rw [rdI_eq, show (25 : Int32) = nI 25 from rfl, show (1 : Int32) = nI 1 from rfl, show (3 : Int32) = nI 3 from rfl]
      simp (disch := omega) only [n_mul, nI_add, n_grd, n_ix]
      rw [show rw0 3 + q = q from Nat.zero_add q] at this
      exact congrArg some this
    have ex := cos_at hRO (by omega) a2 a3 (k := 3) (f := 0) (by decide)
    rw [show a3 + nI 0 = a3 from Int32.add_zero a3] at ex
    have ey := ref_at (n := tr T 3 j) (by omega) a2 a3 (k := 3) (by decide) (by decide) (v := tz T 3 j) ec
    have ey' : m_X12_fact (nI j) a2 a3 mm = some (cosV (tr T 3 j) 3 (tz T 3 j) a2 a3, sI (sI mm 44 0 0) 44 46 (nI j)) := by
      unfold m_X12_fact; rw [eh, ob_s, if_neg i2t]; simp only; rw [ed, ob_s, ob_s]
      exact ey
    refine op_p h ?_ ey' (by decide) (fr_X12_fact ey')
    unfold m_X11_fact; rw [show (3 : Int32) = nI 3 from rfl, er, ob_s, ex, ob_s]
    simp only [Nat.zero_add]
theorem op_count {S : Sk} {mm : Mm} (h : Inv S mm) (a1 : Int32) : OpP S mm (m_X11_count a1 mm) (m_X12_count a1) := by
  obtain ⟨T, ⟨_, wn, _, _⟩, ⟨_, _, _, _, c5, _, _⟩, hM⟩ := h.2.1
  rcases arg_cases a1 (n := 4) (by omega) with ⟨s, hs, rfl⟩ | h1
  · have ex : m_X11_count (nI s) mm = some (nI (tn T s)) := by
      unfold m_X11_count
      rw [if_neg (by rw [show (0 : Int32) = nI 0 from rfl, n_lt (by omega) (by omega)]; omega), if_pos (by rw [show (4 : Int32) = nI 4 from rfl, n_lt (by omega) (by omega)]; exact hs), n_grd (by omega) (by decide), n_ix (by omega), bs_r]
      exact congrArg some (c5 s hs)
    have ey : m_X12_count (nI s) mm = some (nI (tn T s), sI mm 44 0 0) := by
      unfold m_X12_count
      rw [show (3 : Int32) = nI 3 from rfl, in_y (by omega) (by decide), if_neg i2t, n_grd (by omega) (by decide), n_ix (by omega), rdI_ne _ _ _ _ (by decide)]
      have := hM.2.2.2.2.1 s hs
      rw [Nat.mul_zero, Nat.zero_add] at this
      rw [this]
    exact op_p h ex ey (by decide) (fr_X12_count ey)
  · have ex : m_X11_count a1 mm = some (-2) := by
      unfold m_X11_count
      by_cases z : a1 < 0
      · rw [if_pos z, bs_l]
      · rw [if_neg z, show (4 : Int32) = nI 4 from rfl, if_neg (far_lt h1 z), bs_l]
    have ey : m_X12_count a1 mm = some (-2, sI mm 44 0 0) := by
      unfold m_X12_count
      rw [show (3 : Int32) = nI 3 from rfl, in_n h1 (by decide), if_pos i2f]
    exact op_p h ex ey (by decide) (fr_X12_count ey)
theorem op_fault {S : Sk} {mm : Mm} (h : Inv S mm) (a1 : Int32) : OpP S mm (some (m_X11_fault a1 mm)) (m_X12_fault a1) := by
  obtain ⟨T, _, ⟨_, _, c2, c3, _⟩, ⟨_, _, d2, d3, _⟩⟩ := h.2.1
  have ey : m_X12_fault a1 mm = some (m_X11_fault a1 mm, sI mm 44 0 0) := by
    unfold m_X12_fault m_X11_fault
    rw [ix0, rdI_ne _ _ _ _ (by decide), rdI_ne _ _ _ _ (by decide), c2, c3, d2, d3]
    split
    · rfl
    · split <;> rfl
  exact op_p h rfl ey (by decide) (fr_X12_fault ey)
