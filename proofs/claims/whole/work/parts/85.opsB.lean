/-! L3: keeps, fall, chance, dare -/
theorem in_y {p n : Nat} (h : p ≤ n) (hn : n < 2147483647) : m_X12_in (nI p) 0 (nI n) = b2 true := by
  unfold m_X12_in
  rw [show (0 : Int32) = nI 0 from rfl]
  rw [if_neg (by rw [n_lt (by omega) (by omega)]; omega), if_neg (by rw [n_lt (by omega) (by omega)]; omega)]
  rfl
theorem in_n {a : Int32} {n : Nat} (h : a < 0 ∨ nI (n + 1) ≤ a) (hn : n < 2147483647) : m_X12_in a 0 (nI n) = b2 false := by
  have := M_in_no h (by omega)
  rwa [show nI (n + 1) - 1 = nI n by rw [show (1 : Int32) = nI 1 from rfl, n_sub (by omega)]; rfl] at this
theorem far_lt {a : Int32} {n : Nat} (h : a < 0 ∨ nI n ≤ a) (h0 : ¬ a < 0) : ¬ a < nI n := h.elim (fun q => absurd q h0) (fun q => Int32.not_lt.mpr q)
theorem far_le {a : Int32} {n : Nat} (hn : n < 2147483647) (h : a < 0 ∨ nI (n + 1) ≤ a) (h0 : ¬ a < 0) : ¬ a ≤ nI n := by
  obtain ⟨j, hj, rfl⟩ := nI_of h0
  rcases h with h | h
  · exact absurd h h0
  · rw [n_le (by omega) hj] at h
    rw [n_le hj (by omega)]; omega
theorem i2f : b2 false = 0 := rfl
theorem i2t : ¬ b2 true = 0 := by decide
theorem op_keeps {S : Sk} {mm : Mm} (h : Inv S mm) (a1 a2 a3 : Int32) : OpOK S (m_X11_keeps S a1 a2 a3 mm) (m_X12_keeps a1 a2 a3) := by
  refine told_op h a1 (fun m r m2 e => fr_X12_keeps e) (by decide) ?_ ?_
  · intro _ e hm
    refine ⟨-99, sI mm 44 0 0, ?_, ?_⟩
    · unfold m_X11_keeps; rw [e, ob_s]; rfl
    · unfold m_X12_keeps; rw [hm _ agK_44, ob_s]; rfl
  · intro i W c S' m1 hi _ e hc hk hv ok hV hI hsc hm
    have wf := ok.1.1
    have f6 := wf.1
    obtain ⟨m', em, hR, hMV, hA⟩ := hm (sI m1 44 0 0) agK_44
    rcases arg_cases a2 (n := fk W) (by omega) with ⟨p, hp, rfl⟩ | h2
    · have hp6 : p < 6 := by omega
      by_cases k0 : a3 = 0
      · refine ⟨nI (swf W 0 p), S', m1, m', [], q0, agx_rf _, hI.1, scR_rf _, rfl, ?_, ?_⟩
        · unfold m_X11_keeps; rw [e, ob_s]; simp only [oM]; rw [gE_pos rfl, gP_pos hI.1.1, C_isThere_yes hV wf hp, if_neg i2t]; rw [if_pos k0, C_swornFor hV wf hp6, ob_s]
        · unfold m_X12_keeps; rw [em, ob_s, if_neg i10, M_isOne_yes hR.1 wf hp, ob_s, if_neg i2t]; rw [if_pos k0, M_swornFor hR.1 wf (by decide) hp6, ob_s]
      by_cases k1 : a3 = 1
      · refine ⟨nI (opn W 0 p), S', m1, m', [], q0, agx_rf _, hI.1, scR_rf _, rfl, ?_, ?_⟩
        · unfold m_X11_keeps; rw [e, ob_s]; simp only [oM]; rw [gE_pos rfl, gP_pos hI.1.1, C_isThere_yes hV wf hp, if_neg i2t]; rw [if_neg k0, if_pos k1, show (0 : Int32) = nI 0 from rfl, C_openTo hV wf (by decide) hp6, ob_s]
        · unfold m_X12_keeps; rw [em, ob_s, if_neg i10, M_isOne_yes hR.1 wf hp, ob_s, if_neg i2t]; rw [if_neg k0, if_pos k1, M_openTo hR.1 wf (by decide) hp6, ob_s]
      by_cases k2 : a3 = 2
      · refine ⟨nI (kby W 0 p), S', m1, m', [], q0, agx_rf _, hI.1, scR_rf _, rfl, ?_, ?_⟩
        · unfold m_X11_keeps; rw [e, ob_s]; simp only [oM]; rw [gE_pos rfl, gP_pos hI.1.1, C_isThere_yes hV wf hp, if_neg i2t]; rw [if_neg k0, if_neg k1, if_pos k2, C_keptBy hV wf hp6, ob_s]
        · unfold m_X12_keeps; rw [em, ob_s, if_neg i10, M_isOne_yes hR.1 wf hp, ob_s, if_neg i2t]; rw [if_neg k0, if_neg k1, if_pos k2, M_keptBy hR.1 wf ok.1.2.1 (by decide) hp6, ob_s]
      by_cases k3 : a3 = 3
      · obtain ⟨r, m2, e2, r2, A2⟩ := C_fewestVisits hV wf ok.1.2.1 hp6
        obtain ⟨m', em, hR, hMV, hA⟩ := hm (sI m2 44 0 0) (agK_tr (qOK_K (by decide) A2) agK_44)
        obtain ⟨r', m3, e3, r3⟩ := M_fewestVisits hR.1 wf ok.1.2.1 ok.1.2.2 hp6
        obtain rfl := fvR_one r2 r3
        refine ⟨r, S', m2, m3, _, by decide, A2, hI.1, scR_rf _, rfl, ?_, ?_⟩
        · unfold m_X11_keeps; rw [e, ob_s]; simp only [oM]; rw [gE_pos rfl, gP_pos hI.1.1, C_isThere_yes hV wf hp, if_neg i2t]; rw [if_neg k0, if_neg k1, if_neg k2, if_pos k3, e2, ob_s]
        · unfold m_X12_keeps; rw [em, ob_s, if_neg i10, M_isOne_yes hR.1 wf hp, ob_s, if_neg i2t]; rw [if_neg k0, if_neg k1, if_neg k2, if_pos k3, e3, ob_s]
      by_cases k4 : a3 = 4
      · refine ⟨nI (pc (kby W 0 p)) - nI (nbr W p), S', m1, m', [], q0, agx_rf _, hI.1, scR_rf _, rfl, ?_, ?_⟩
        · unfold m_X11_keeps; rw [e, ob_s]; simp only [oM]; rw [gE_pos rfl, gP_pos hI.1.1, C_isThere_yes hV wf hp, if_neg i2t]; rw [if_neg k0, if_neg k1, if_neg k2, if_neg k3, if_pos k4, C_balance hV wf ok.1.2.1 hp6, ob_s]
        · unfold m_X12_keeps; rw [em, ob_s, if_neg i10, M_isOne_yes hR.1 wf hp, ob_s, if_neg i2t]; rw [if_neg k0, if_neg k1, if_neg k2, if_neg k3, if_pos k4, M_balance hR.1 wf ok.1.2.1 hp6, ob_s]
      by_cases k5 : a3 = 5
      · obtain ⟨m2, e2⟩ := C_hearten hV wf ok.1.2.1 hp6
        have A2 := fr_X1_hearten e2
        obtain ⟨m', em, hR, hMV, hA⟩ := hm (sI m2 44 0 0) (agK_tr (qOK_K (by decide) A2) agK_44)
        obtain ⟨m3, e3⟩ := M_hearten hR.1 wf ok.1.2.1 hMV.2.2.1 hp6
        refine ⟨enc1 (hrn W p), S', m2, m3, _, by decide, A2, hI.1, scR_rf _, rfl, ?_, ?_⟩
        · unfold m_X11_keeps; rw [e, ob_s]; simp only [oM]; rw [gE_pos rfl, gP_pos hI.1.1, C_isThere_yes hV wf hp, if_neg i2t]; rw [if_neg k0, if_neg k1, if_neg k2, if_neg k3, if_neg k4, if_pos k5, e2, ob_s]
        · unfold m_X12_keeps; rw [em, ob_s, if_neg i10, M_isOne_yes hR.1 wf hp, ob_s, if_neg i2t]; rw [if_neg k0, if_neg k1, if_neg k2, if_neg k3, if_neg k4, if_pos k5, e3, ob_s]
      refine ⟨-99, S', m1, m', [], q0, agx_rf _, hI.1, scR_rf _, rfl, ?_, ?_⟩
      · unfold m_X11_keeps; rw [e, ob_s]; simp only [oM]; rw [gE_pos rfl, gP_pos hI.1.1, C_isThere_yes hV wf hp, if_neg i2t]; rw [if_neg k0, if_neg k1, if_neg k2, if_neg k3, if_neg k4, if_neg k5]
      · unfold m_X12_keeps; rw [em, ob_s, if_neg i10, M_isOne_yes hR.1 wf hp, ob_s, if_neg i2t]; rw [if_neg k0, if_neg k1, if_neg k2, if_neg k3, if_neg k4, if_neg k5]
    · refine ⟨-99, S', m1, m', [], q0, agx_rf _, hI.1, scR_rf _, rfl, ?_, ?_⟩
      · unfold m_X11_keeps; rw [e, ob_s]; simp only [oM]; rw [gE_pos rfl, gP_pos hI.1.1, C_isThere_no hV h2, if_pos i2f]
      · unfold m_X12_keeps; rw [em, ob_s, if_neg i10, M_isOne_no hR.1 wf h2, ob_s, if_pos i2f]
theorem op_fall {S : Sk} {mm : Mm} (h : Inv S mm) (a1 a2 : Int32) : OpOK S (m_X11_fall S a1 a2 mm) (m_X12_fall a1 a2) := by
  refine told_op h a1 (fun m r m2 e => fr_X12_fall e) (by decide) ?_ ?_
  · intro _ e hm
    refine ⟨-2, sI mm 44 0 0, ?_, ?_⟩
    · unfold m_X11_fall; rw [e, ob_s]; rfl
    · unfold m_X12_fall; rw [hm _ agK_44, ob_s]; rfl
  · intro i W c S' m1 hi _ e hc hk hv ok hV hI hsc hm
    have wf := ok.1.1
    have f6 := wf.1
    obtain ⟨m', em, hR, hMV, hA⟩ := hm (sI m1 44 0 0) agK_44
    by_cases k0 : a2 = 0
    · refine ⟨nI (swz W (brk W 0)), S', m1, m', [], q0, agx_rf _, hI.1, scR_rf _, rfl, ?_, ?_⟩
      · unfold m_X11_fall; rw [e, ob_s]; simp only [oM]; rw [gE_pos rfl]; rw [if_pos k0, gP_pos hI.1.1, show (0 : Int32) = nI 0 from rfl, C_brokenOaths hV wf ok.1.2.1 (by decide), ob_s, C_swearersOf hV wf (brk_b wf 0), ob_s]
      · unfold m_X12_fall; rw [em, ob_s, if_neg i10]; rw [if_pos k0, M_fallen hR.1 wf ok.1.2.1, ob_s]
    obtain ⟨x, hx, e2⟩ := C_strikes hV wf ok.1.2.1 ok.2.1
    obtain ⟨x', m3, hx', e3⟩ := M_strikes hR.1 wf ok.1.2.1 ok.2.1
    obtain rfl := strk_one hx hx'
    have hxl : x < 4096 := Nat.lt_of_lt_of_le hx.1 (Nat.pow_le_pow_right (by decide) ok.1.2.2)
    by_cases k1 : a2 = 1
    · refine ⟨nI (pc x), S', m1, m3, [], q0, agx_rf _, hI.1, scR_rf _, rfl, ?_, ?_⟩
      · unfold m_X11_fall; rw [e, ob_s]; simp only [oM]; rw [gE_pos rfl]; rw [if_neg k0, if_pos k1, gP_pos hI.1.1, e2, ob_s, bitc_eq hxl]
      · unfold m_X12_fall; rw [em, ob_s, if_neg i10]; rw [if_neg k0, if_pos k1, e3, ob_s]; simp only; rw [ones_eq (by omega), ob_s]
    by_cases k2 : a2 = 2
    · refine ⟨nI x, S', m1, m3, [], q0, agx_rf _, hI.1, scR_rf _, rfl, ?_, ?_⟩
      · unfold m_X11_fall; rw [e, ob_s]; simp only [oM]; rw [gE_pos rfl]; rw [if_neg k0, if_neg k1, if_pos k2, gP_pos hI.1.1, e2, ob_s]
      · unfold m_X12_fall; rw [em, ob_s, if_neg i10]; rw [if_neg k0, if_neg k1, if_pos k2, e3, ob_s]
    obtain ⟨m2, e4, hB, _⟩ := C_learn hV wf
    have A2 := fr_X0_learn e4
    by_cases k3 : a2 = 3
    · obtain ⟨m', em, hR, hMV, hA⟩ := hm (sI m2 44 0 0) (agK_tr (qOK_K (by decide) A2) agK_44)
      refine ⟨enc1 (lRing W), S', m2, m', _, by decide, A2, hI.1, scR_rf _, rfl, ?_, ?_⟩
      · unfold m_X11_fall; rw [e, ob_s]; simp only [oM]; rw [gE_pos rfl]; rw [if_neg k0, if_neg k1, if_neg k2, if_pos k3, gP_pos hI.1.1, e4, ob_s, C_leastRing hB wf ok.2.1, ob_s]
      · unfold m_X12_fall; rw [em, ob_s, if_neg i10]; rw [if_neg k0, if_neg k1, if_neg k2, if_pos k3, k3, if_neg (by decide), show (0 : Int32) = b2 false from rfl, M_ring hR.1 wf false, ob_s]; rfl
    by_cases k4 : a2 = 4
    · obtain ⟨m', em, hR, hMV, hA⟩ := hm (sI m2 44 0 0) (agK_tr (qOK_K (by decide) A2) agK_44)
      refine ⟨nI (rgd W), S', m2, m', _, by decide, A2, hI.1, scR_rf _, rfl, ?_, ?_⟩
      · unfold m_X11_fall; rw [e, ob_s]; simp only [oM]; rw [gE_pos rfl]; rw [if_neg k0, if_neg k1, if_neg k2, if_neg k3, if_pos k4, gP_pos hI.1.1, e4, ob_s, C_ringed hB wf ok.2.1, ob_s]
      · unfold m_X12_fall; rw [em, ob_s, if_neg i10]; rw [if_neg k0, if_neg k1, if_neg k2, if_neg k3, if_pos k4, if_pos k4, show (1 : Int32) = b2 true from rfl, M_ring hR.1 wf true, ob_s]; rfl
    refine ⟨-2, S', m1, m', [], q0, agx_rf _, hI.1, scR_rf _, rfl, ?_, ?_⟩
    · unfold m_X11_fall; rw [e, ob_s]; simp only [oM]; rw [gE_pos rfl]; rw [if_neg k0, if_neg k1, if_neg k2, if_neg k3, if_neg k4]
    · unfold m_X12_fall; rw [em, ob_s, if_neg i10]; rw [if_neg k0, if_neg k1, if_neg k2, if_neg k3, if_neg k4]
theorem op_chance {S : Sk} {mm : Mm} (h : Inv S mm) (a1 a2 a3 a4 a5 a6 : Int32) (u : Bool) : OpOK S (m_X11_chance S a1 a2 a3 a4 a5 a6 (b2 u) mm) (m_X12_chance a1 a2 a3 a4 a5 a6 (b2 u)) := by
  refine told_op h a1 (fun m r m2 e => fr_X12_chance e) (by decide) ?_ ?_
  · intro _ e hm
    have ey : ∃ m2, m_X12_chance a1 a2 a3 a4 a5 a6 (b2 u) mm = some (-1, m2) := by
      unfold m_X12_chance
      split
      · exact ⟨_, rfl⟩
      · split
        · exact ⟨_, rfl⟩
        · split
          · exact ⟨_, rfl⟩
          · rw [hm _ agK_44, ob_s]; exact ⟨_, rfl⟩
    obtain ⟨m2, ey⟩ := ey
    refine ⟨-1, m2, ?_, ey⟩
    unfold m_X11_chance; rw [e, ob_s]; rfl
  · intro i W c S' m1 hi _ e hc hk hv ok hV hI hsc hm
    have wf := ok.1.1
    have f6 := wf.1
    obtain ⟨m', em, hR, hMV, hA⟩ := hm (sI m1 44 0 0) agK_44
    have l7 : (7 : Int32) = nI 7 := rfl
    have l10 : (10 : Int32) = nI 10 := rfl
    have l6 : (6 : Int32) = nI 6 := rfl
    have l8 : (8 : Int32) = nI 8 := rfl
    have l0 : (0 : Int32) = nI 0 := rfl
    -- the reference when it says no
    have no : (m_X12_in a4 0 7 = b2 false ∨ m_X12_in a5 0 10 = b2 false ∨ m_X12_in a6 0 6 = b2 false ∨ m_X12_areTwo a2 a3 m' = some (b2 false)) → ∃ m2, m_X12_chance a1 a2 a3 a4 a5 a6 (b2 u) m1 = some (-1, m2) := by
      intro hno
      unfold m_X12_chance
      split
      · exact ⟨_, rfl⟩
      · rename_i x4
        split
        · exact ⟨_, rfl⟩
        · rename_i x5
          split
          · exact ⟨_, rfl⟩
          · rename_i x6
            rcases hno with q | q | q | q
            · exact absurd q x4
            · exact absurd q x5
            · exact absurd q x6
            · rw [em, ob_s, if_neg i10, q, ob_s, if_pos i2f]; exact ⟨_, rfl⟩
    have nx : m_X11_chance S a1 a2 a3 a4 a5 a6 (b2 u) mm = some (-1, S', m1) → (∃ m2, m_X12_chance a1 a2 a3 a4 a5 a6 (b2 u) m1 = some (-1, m2)) → ∃ r S2 m2 m3 L1, qOK L1 = true ∧ agx L1 m1 m2 ∧ SI S2 ∧ scR S' S2 ∧ sR S2 14 11 = sR S' 14 11 ∧ m_X11_chance S a1 a2 a3 a4 a5 a6 (b2 u) mm = some (r, S2, m2) ∧ m_X12_chance a1 a2 a3 a4 a5 a6 (b2 u) m2 = some (r, m3) := fun ex ⟨m2, ey⟩ => ⟨-1, S', m1, m2, [], q0, agx_rf _, hI.1, scR_rf _, rfl, ex, ey⟩
    have C0 : m_X11_chance S a1 a2 a3 a4 a5 a6 (b2 u) mm = (if (m_X7_areTwo a2 a3 m1) = 0 then (some (-1, S', m1)) else (if a4 < 0 then (some (-1, S', m1)) else (if a4 < 8 then (if a5 < 0 then (some (-1, S', m1)) else (if 10 < a5 then (some (-1, S', m1)) else (if a6 < 0 then (some (-1, S', m1)) else (if a6 ≤ 6 then (grd a4 8 ((m_X7_heartOf a2 a3 m1).bind (fun q14 => (m_X10_weigh ((mI m1 19 (ix a4)) - q14) a5 a6 m1).bind (fun q16 => if b2 u = 0 then (some (mI q16 38 2, S', q16)) else (some (mI q16 38 3, S', q16)))))) else (some (-1, S', m1)))))) else (some (-1, S', m1))))) := by
      unfold m_X11_chance; rw [e, ob_s]; simp only [oM]; rw [gE_pos rfl, gP_pos hI.1.1]
    rcases two_cases (W := W) wf a2 a3 with ⟨p, q, rfl, rfl, hp, hq, hne⟩ | ⟨hno, hno'⟩
    · rcases arg_cases a4 (n := 8) (by omega) with ⟨t, ht, rfl⟩ | h4
      · rcases arg_cases a5 (n := 11) (by omega) with ⟨g, hg, rfl⟩ | h5
        · rcases arg_cases a6 (n := 7) (by omega) with ⟨n, hn, rfl⟩ | h6
          · have hh : hd W t < 10 := by have := wf.2.2.2.2.2.2.1 t; omega
            have hr : hrt W p q < 21 := by have := hrt_le wf p q; omega
            obtain ⟨m2, e2, g2, g3⟩ := C_weigh (mm := m1) hh hr hg hn
            have A2 := fr_X10_weigh e2
            obtain ⟨m', em, hR, hMV, hA⟩ := hm (sI m2 44 0 0) (agK_tr (qOK_K (by decide) A2) agK_44)
            refine ⟨nI ((if u then 10 ^ n else gdC g n (hd W t - hrt W p q)) / Nat.gcd (10 ^ n) (gdC g n (hd W t - hrt W p q))), S', m2, m', _, by decide, A2, hI.1, scR_rf _, rfl, ?_, ?_⟩
            · rw [C0, C_areTwo hV wf hp hq hne, if_neg i2t, l0, l8, l10, l6]
              simp (disch := omega) only [n_lt, n_le, n_grd, n_ix]
              rw [if_neg (by omega), if_pos ht, if_neg (by omega), if_neg (by omega), if_neg (by omega), if_pos (by omega), C_heartOf hV wf (by omega) (by omega), ob_s, hV.2.2.2.2.2.2.2.1 t ht, e2, ob_s, g2, g3]
              cases u <;> rfl
            · unfold m_X12_chance
              rw [l7, in_y (by omega) (by decide), if_neg i2t, l10, in_y (by omega) (by decide), if_neg i2t, l6, in_y (by omega) (by decide), if_neg i2t]
              rw [em, ob_s, if_neg i10, M_areTwo hR.1 wf hp hq hne, ob_s, if_neg i2t]
              rw [show (20 : Int32) = nI 20 from rfl, nI_add, M_of hR.1 (by omega), ob_s, hMV.2.2.2.2.2.1 t ht, M_heartOf hR.1 wf (by omega) (by omega), ob_s]
              have := M_chanceW hh hr hg hn
              rw [this, ob_s, M_power (by omega), ob_s]
              simp only
              rw [M_part hg hn (by omega) u, ob_s]
          · refine nx ?_ (no (Or.inr (Or.inr (Or.inl (by rw [l6]; exact in_n h6 (by decide))))))
            rw [C0, C_areTwo hV wf hp hq hne, if_neg i2t, l0, l8, l10, l6]
            simp (disch := omega) only [n_lt]
            rw [if_neg (by omega), if_pos ht, if_neg (by omega), if_neg (by omega)]
            by_cases z : a6 < nI 0
            · rw [if_pos z]
            · rw [if_neg z, if_neg (far_le (by decide) h6 z)]
        · refine nx ?_ (no (Or.inr (Or.inl (by rw [l10]; exact in_n h5 (by decide)))))
          rw [C0, C_areTwo hV wf hp hq hne, if_neg i2t, l0, l8, l10]
          simp (disch := omega) only [n_lt]
          rw [if_neg (by omega), if_pos ht]
          by_cases z : a5 < nI 0
          · rw [if_pos z]
          · rw [if_neg z, if_pos (Int32.not_le.mp (far_le (by decide) h5 z))]
      · refine nx ?_ (no (Or.inl (by rw [l7]; exact in_n h4 (by decide))))
        rw [C0, C_areTwo hV wf hp hq hne, if_neg i2t]
        by_cases z : a4 < 0
        · rw [if_pos z]
        · rw [if_neg z, l8, if_neg (far_lt h4 z)]
    · refine nx ?_ (no (Or.inr (Or.inr (Or.inr (hno' _ _ _ hR.1)))))
      rw [C0, hno m1 hV, if_pos i2f]
theorem op_dare {S : Sk} {mm : Mm} (h : Inv S mm) (a1 a2 a3 a4 : Int32) (u : Bool) : OpOK S (m_X11_dare S a1 a2 a3 a4 (b2 u) mm) (m_X12_dare a1 a2 a3 a4 (b2 u)) := by
  have l3 : (3 : Int32) = nI 3 := rfl
  have l0 : (0 : Int32) = nI 0 := rfl
  refine told_op h a1 (fun m r m2 e => fr_X12_dare e) (by decide) ?_ ?_
  · intro _ e hm
    have ey : ∃ m2, m_X12_dare a1 a2 a3 a4 (b2 u) mm = some (-9, m2) := by
      unfold m_X12_dare
      split
      · exact ⟨_, rfl⟩
      · rw [hm _ agK_44, ob_s]; exact ⟨_, rfl⟩
    obtain ⟨m2, ey⟩ := ey
    refine ⟨-9, m2, ?_, ey⟩
    unfold m_X11_dare; rw [e, ob_s]; rfl
  · intro i W c S' m1 hi _ e hc hk hv ok hV hI hsc hm
    have wf := ok.1.1
    have f6 := wf.1
    have C0 : m_X11_dare S a1 a2 a3 a4 (b2 u) mm = (if (m_X7_areTwo a2 a3 m1) = 0 then (some (-9, S', m1)) else (if a4 < 0 then (some (-9, S', m1)) else (if a4 ≤ 3 then ((m_X10_play S' a2 a3 a4 m1).bind (fun q9 => if b2 u = 0 then (gP (Lay q9.1) (some (mI q9.2 38 0, q9.1, q9.2))) else (gP (Lay q9.1) (some (mI q9.2 38 1, q9.1, q9.2))))) else (some (-9, S', m1))))) := by
      unfold m_X11_dare; rw [e, ob_s]; simp only [oM]; rw [gE_pos rfl, gP_pos hI.1.1]
    obtain ⟨m', em, hR, hMV, hA⟩ := hm (sI m1 44 0 0) agK_44
    rcases arg_cases a4 (n := 4) (by omega) with ⟨n, hn, rfl⟩ | h4
    · rcases two_cases (W := W) wf a2 a3 with ⟨p, q, rfl, rfl, hp, hq, hne⟩ | ⟨hno, hno'⟩
      · have hS2 : SI (sRs S' 38 4 (some 14)) := SI_s hI.1 (by decide) (by rw [hI.1.1.2.1 38 (by decide)]; decide)
        obtain ⟨m2, e2, g2, g3, A2⟩ := C_play hV wf ok.1.2.1 hS2.1 (show p < 6 by omega) (show q < 6 by omega) hn
        obtain ⟨m', em, hR, hMV, hA⟩ := hm (sI m2 44 0 0) (agK_tr (qOK_K (by decide) A2) agK_44)
        obtain ⟨m3, e3⟩ := M_dareW hR.1 wf ok.1.2.1 ok.1.2.2 hMV.2.1 (show p < 6 by omega) (show q < 6 by omega) hne hn u
        refine ⟨if u then enc1 (drF W p q n) else e8 (drG W p q n), sRs S' 38 4 (some 14), m2, m3, _, by decide, A2, hS2, scR_s (by decide), by rw [rdR, if_neg (by decide)], ?_, ?_⟩
        · rw [C0, C_areTwo hV wf hp hq hne, if_neg i2t, if_neg (by rw [l0, n_lt (by omega) (by omega)]; omega), if_pos (by rw [l3, n_le (by omega) (by omega)]; omega), e2, ob_s, gP_pos hS2.1, gP_pos hS2.1, g2, g3]
          cases u <;> rfl
        · unfold m_X12_dare
          rw [l3, in_y (by omega) (by decide), if_neg i2t, em, ob_s, if_neg i10, M_areTwo hR.1 wf hp hq hne, ob_s, if_neg i2t]
          exact e3
      · refine ⟨-9, S', m1, m', [], q0, agx_rf _, hI.1, scR_rf _, rfl, ?_, ?_⟩
        · rw [C0, hno m1 hV, if_pos i2f]
        · unfold m_X12_dare
          rw [l3, in_y (by omega) (by decide), if_neg i2t, em, ob_s, if_neg i10, hno' _ _ _ hR.1, ob_s, if_pos i2f]
    · refine ⟨-9, S', m1, sI m1 44 0 0, [], q0, agx_rf _, hI.1, scR_rf _, rfl, ?_, ?_⟩
      · rw [C0]
        split
        · rfl
        · by_cases z : a4 < 0
          · rw [if_pos z]
          · rw [if_neg z, l3, if_neg (far_le (by decide) h4 z)]
      · unfold m_X12_dare
        rw [l3, in_n h4 (by decide), if_pos i2f]
