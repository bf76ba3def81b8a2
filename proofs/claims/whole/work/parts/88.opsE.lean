/-! L3: swearers -/
theorem M_allThere {W : Cn} {c : Nat} {q : Int32 × Mm} (hV : VM W 0 c q.2) (wf : WF W) {n : Nat} {w t : Nat → Nat} {x : Nat} (hx : VX n w t x q.2) (hn : n ≤ 6) (w6 : ∀ j, w j < 6) : whileF FU (m_X12_swearers_b40 q) 0 = some (if (∀ j, j < n → w j < fk W) then Sum.inl () else Sum.inr (-1, q.2)) := by
  have e : ∃ r, whileF FU (m_X12_swearers_b40 q) 0 = some r ∧ r = (if (∀ j, j < n → w j < fk W) then Sum.inl () else Sum.inr (-1, q.2)) := by
    refine loop_inv (fun i z => z = nI i ∧ ∀ j, j < i → w j < fk W) _ n (FU_big (by omega)) ⟨rfl, fun j hj => absurd hj (Nat.not_lt_zero j)⟩ ?_ ?_
    · rintro i z hi ⟨rfl, hz⟩
      unfold m_X12_swearers_b40
      rw [M_allWants hx, ob_s, if_neg (by rw [n_le (by omega) (by omega)]; omega), show (0 : Int32) = nI 0 from rfl, M_wantWho hx hn hi, ob_s]
      by_cases hw : w i < fk W
      · rw [M_isOne_yes hV wf hw, ob_s]
        refine Or.inl ⟨nI (i + 1), ?_, rfl, fun j hj => ?_⟩
        · rw [if_neg (by decide)]; simp (disch := omega) only [zz_0, zz_1, zz_2, zz_3, zz_4, zz_5, zz_6, zz_7, zz_8, zz_9, zz_10, zz_11, zz_12, zz_13, zz_14, zz_15, zz_16, zz_20, zz_24, zz_25, zz_26, zz_28, zz_31, zz_32, zz_36, zz_39, zz_40, zz_48, zz_49, zz_50, zz_57, zz_59, zz_60, zz_64, zz_72, zz_97, zz_99, zz_100, zz_122, zz_144, zz_161, zz_255, zz_256, zz_288, zz_322, zz_384, zz_400, zz_448, zz_600, zz_1280, zz_1000000, nI_add, n_mul, n_sub, fa_or, fa_and, fb_xorI, n_div, n_rem, n_le, n_lt, n_eq, n_shl1, n_shr, n_andn, n_ix, n_grd, n_gdz, n_gbz, n_hasM, n_hasC, b2_0, b2_1, n_m1, ob_s, bs_l, bs_r, n_max, n_min, n_grt, n_les]
        · by_cases ej : j = i
          · rw [ej]; exact hw
          · exact hz j (by omega)
      · have f6 := wf.1
        have w6i := w6 i
        rw [M_isOne_no hV wf (a := nI (w i)) (Or.inr (by rw [n_le (by omega) (by omega)]; omega)), ob_s]
        refine Or.inr ⟨_, if_pos (by decide), ?_⟩
        rw [if_neg (fun q => hw (q i hi))]
    · rintro z ⟨rfl, hz⟩
      unfold m_X12_swearers_b40
      rw [M_allWants hx, ob_s, if_pos (by rw [n_le (by omega) (by omega)]; omega)]
      exact ⟨_, rfl, by rw [if_pos hz]⟩
  obtain ⟨r, e1, e2⟩ := e
  rw [e1, e2]
theorem in_m1 {k n : Nat} (h : k < n) (hn : n ≤ 6) : m_X12_in (nI k) (-1) (nI n - 1) = b2 true := by
  have : m_X12_in (nI k) 0 (nI n - 1) = b2 true := M_in_yes h (by omega)
  unfold m_X12_in at this ⊢
  rw [if_neg (by rw [show (0 : Int32) = nI 0 from rfl, n_lt (by omega) (by omega)]; omega)] at this
  rw [if_neg]
  · exact this
  · intro q
    have : nI k < 0 := Int32.lt_trans q (by decide)
    rw [show (0 : Int32) = nI 0 from rfl, n_lt (by omega) (by omega)] at this
    omega
theorem in_m1m {n : Nat} (hn : n ≤ 6) : m_X12_in (-1) (-1) (nI n - 1) = b2 true := by
  rcases (by omega : n = 0 ∨ n = 1 ∨ n = 2 ∨ n = 3 ∨ n = 4 ∨ n = 5 ∨ n = 6) with rfl | rfl | rfl | rfl | rfl | rfl | rfl <;> decide
theorem in_m1n {a : Int32} {n : Nat} (hn : n ≤ 6) (h : a < 0 ∨ nI n ≤ a) (h1 : ¬ a = -1) : m_X12_in a (-1) (nI n - 1) = b2 false := by
  have : m_X12_in a 0 (nI n - 1) = b2 false := M_in_no h (by omega)
  unfold m_X12_in at this ⊢
  by_cases z : a < -1
  · rw [if_pos z]; rfl
  · rw [if_neg z]
    by_cases z0 : a < 0
    · exfalso
      refine h1 ?_
      have e1 := Int32.lt_iff_toInt_lt.mp z0
      have e2 := Int32.le_iff_toInt_le.mp (Int32.not_lt.mp z)
      have x0 : (0 : Int32).toInt = 0 := by decide
      have x1 : (-1 : Int32).toInt = -1 := by decide
      rw [x0] at e1
      rw [x1] at e2
      exact Int32.toInt_inj.mp (by rw [x1]; omega)
    · rw [if_neg z0] at this; exact this
theorem op_swearers {S : Sk} {mm : Mm} (h : Inv S mm) (a1 a2 a3 : Int32) : OpOK S (m_X11_swearers S a1 a2 a3 mm) (m_X12_swearers a1 a2 a3) := by
  refine told_op h a1 (fun m r m2 e => fr_X12_swearers e) (by decide) ?_ ?_
  · intro _ e hm
    rcases rows_at h (s := 2) (by decide) (by decide) a2 with ⟨er, hr⟩ | ⟨T, j, d, rfl, hj, okr, er, hd71, hRO, hr⟩
    · have eh : m_X12_hasWants a2 (sI mm 44 0 0) = some (b2 false, sI (sI mm 44 0 0) 44 41 a2) := hasR (s := 2) (hr _ (agK_tr agK_44 agK_44))
      refine ⟨-1, sI (sI mm 44 0 0) 44 41 a2, ?_, ?_⟩
      · unfold m_X11_swearers; rw [e, ob_s, gP_pos h.1.1, show (2 : Int32) = nI 2 from rfl, er, ob_s]; rfl
      · unfold m_X12_swearers; rw [eh, ob_s]; rfl
    · have eh : m_X12_hasWants (nI j) (sI mm 44 0 0) = some (b2 true, sI (sI mm 44 0 0) 44 41 (nI j)) := hasR (s := 2) (hr _ (agK_tr agK_44 agK_44)).1
      refine ⟨-1, sI (sI mm 44 0 0) 44 41 (nI j), ?_, ?_⟩
      · unfold m_X11_swearers; rw [e, ob_s, gP_pos h.1.1, show (2 : Int32) = nI 2 from rfl, er, ob_s]; rfl
      · unfold m_X12_swearers; rw [eh, ob_s, if_neg i2t]; simp only; rw [hm _ (agK_tr agK_44 agK_44), ob_s]; rfl
  · intro i W c S' m1 hi _ e hc hk hv ok hV hI hsc hm
    have wf := ok.1.1
    have f6 := wf.1
    have hy := ok.1.2.1
    rcases rows_at hI (s := 2) (by decide) (by decide) a2 with ⟨er, hr⟩ | ⟨T, j, d, rfl, hj, okr, er, hd71, hRO, hr⟩
    · have eh : m_X12_hasWants a2 (sI m1 44 0 0) = some (b2 false, sI (sI m1 44 0 0) 44 41 a2) := hasR (s := 2) (hr _ (agK_tr agK_44 agK_44))
      refine ⟨-1, S', m1, sI (sI m1 44 0 0) 44 41 a2, [], q0, agx_rf _, hI.1, scR_rf _, rfl, ?_, ?_⟩
      · unfold m_X11_swearers; rw [e, ob_s, gP_pos hI.1.1, show (2 : Int32) = nI 2 from rfl, er, ob_s]; rfl
      · unfold m_X12_swearers; rw [eh, ob_s]; rfl
    · have C0 : m_X11_swearers S a1 (nI j) a3 mm = ((m_X8_learn S' d m1).bind (fun q11 => if q11.1 = 0 then (some (-1, q11.2.1, q11.2.2)) else (if a3 = -1 then (gP (Lay q11.2.1) (some (mI q11.2.2 34 0, q11.2.1, q11.2.2))) else (gP (Lay q11.2.1) (gP (SI q11.2.1) ((m_X8_swearerOf q11.2.1 a3 q11.2.2).bind (fun q17 => some (q17, q11.2.1, q11.2.2)))))))) := by
        unfold m_X11_swearers; rw [e, ob_s, gP_pos hI.1.1, show (2 : Int32) = nI 2 from rfl, er, ob_s]; simp only [oM]; rw [gE_pos rfl, gk_pos hRO.1]
      obtain ⟨o8, _, o3, _⟩ := okr
      obtain ⟨w, t, ob, oe⟩ := o3 rfl
      have n6 : tr T 2 j ≤ 6 := o8
      have w6 : ∀ x, w x < 6 := fun x => (ob x).1
      have t8 : ∀ x, t x < 8 := fun x => (ob x).2
      have hS2 : SI (sRs S' 34 1 (some d)) := SI_s hI.1 (by decide) (by rw [hI.1.1.2.1 34 (by decide)]; decide)
      have hW : ∀ m, agK m1 m → VW (tr T 2 j) w t d (sRs S' 34 1 (some d)) m := fun m hm => ⟨by rw [rdR, if_pos ⟨rfl, rfl⟩], hRO.1, hRO.2.1, by rw [hm _ _ (kept_of (by omega))]; exact hRO.2.2.1, fun x hx => by rw [hm _ _ (kept_of (by omega))]; exact (hRO.2.2.2 x 1 hx (by decide)).trans (oe x hx).1, fun x hx => by rw [hm _ _ (kept_of (by omega))]; exact (hRO.2.2.2 x 2 hx (by decide)).trans (oe x hx).2⟩
      obtain ⟨m2, A2, hL⟩ := C_learn8 hV wf hy (hW m1 (agK_rf _)) hS2 hd71 n6 w6 t8
      have hK2 : agK m1 m2 := qOK_K (by decide) A2
      have hr2 := hr (sI (sI m2 44 0 0) 44 41 (nI j)) (agK_tr hK2 (agK_tr agK_44 agK_44))
      have eh : m_X12_hasWants (nI j) (sI m2 44 0 0) = some (b2 true, sI (sI m2 44 0 0) 44 41 (nI j)) := hasR (s := 2) hr2.1
      obtain ⟨m', em, hR, hMV, hA⟩ := hm (sI (sI m2 44 0 0) 44 41 (nI j)) (agK_tr hK2 (agK_tr agK_44 agK_44))
      have e52 : ∀ x, mI m' 52 x = mI (sI (sI m2 44 0 0) 44 41 (nI j)) 52 x := fun x => (hA 52 x (covN (by rfl))).1
      have hX : VX (tr T 2 j) w t j m' := by
        refine ⟨hj, ((hA 44 41 (by rfl)).1).trans (rdI_eq _ _ _ _), by rw [e52]; exact hr2.2.1, fun x hx => ?_, fun x hx => ?_⟩
        · rw [e52]; exact (hr2.2.2 x 0 hx (by decide)).trans (oe x hx).1
        · rw [e52]; exact (hr2.2.2 x 1 hx (by decide)).trans (oe x hx).2
      have M0 : m_X12_swearers a1 (nI j) a3 m2 = (if (m_X12_in a3 (-1) (nI (tr T 2 j) - 1)) = 0 then (some (-1, m')) else (bS (whileF FU (m_X12_swearers_b40 (1, m')) 0) (fun p11 => (m_X12_power 7 (nI (tr T 2 j))).bind (fun q26 => (whileF FU (m_X12_swearers_b88 q26) (-1, 0, m')).bind (fun p29 => if a3 = -1 then (some (p29.1, p29.2)) else (grd a3 6 (some (mI p29.2 66 (ix a3), p29.2)))))))) := by
        unfold m_X12_swearers; rw [eh, ob_s, if_neg i2t]; simp only; rw [em, ob_s, if_neg i10]; simp only; rw [M_allWants hX, ob_s, ob_s]
      have hT := M_allThere (q := ((1 : Int32), m')) hR.1 wf hX n6 w6
      rcases hL with ⟨hno, eL⟩ | ⟨hall, eL, M, hS⟩
      · refine ⟨-1, sRs S' 34 1 (some d), m2, m', _, by decide, A2, hS2, scR_s (by decide), by rw [rdR, if_neg (by decide)], ?_, ?_⟩
        · rw [C0, eL, ob_s]; rfl
        · rw [M0, hT, if_neg hno]
          split
          · rfl
          · rw [bs_r]
      · obtain ⟨m3, M', num, e3, hM, hF, h66⟩ := M_swearersW wf hy hR.1 hX n6 w6 t8
        have eM : M = M' := mxM_one hS.2.2.2.2 hM
        subst eM
        have p7 : m_X12_power 7 (nI (tr T 2 j)) = some (nI (7 ^ tr T 2 j)) := M_power (x := 7) (by omega)
        have e3' : whileF FU (m_X12_swearers_b88 (nI (7 ^ tr T 2 j))) (-1, 0, m') = some (nI M, m3) := e3
        by_cases k1 : a3 = -1
        · refine ⟨nI M, sRs S' 34 1 (some d), m2, m3, _, by decide, A2, hS2, scR_s (by decide), by rw [rdR, if_neg (by decide)], ?_, ?_⟩
          · rw [C0, eL, ob_s, if_neg i10, if_pos k1, gP_pos hS2.1, hS.2.2.2.1]
          · rw [M0, k1, in_m1m n6, if_neg i2t, hT, if_pos hall, bs_l, p7, ob_s, e3', ob_s, if_pos rfl]
        · rcases arg_cases a3 (n := tr T 2 j) (by omega) with ⟨k, hk', rfl⟩ | h3
          · refine ⟨nI (rowN (tr T 2 j) num k), sRs S' 34 1 (some d), m2, m3, _, by decide, A2, hS2, scR_s (by decide), by rw [rdR, if_neg (by decide)], ?_, ?_⟩
            · rw [C0, eL, ob_s, if_neg i10, if_neg k1]; simp only; rw [gP_pos hS2.1, gP_pos hS2, C_swearerOf wf (VC_agx hV A2 (by rfl)) n6 hS (hW m2 hK2) w6 hF hk', ob_s]
            · rw [M0, in_m1 hk' n6, if_neg i2t, hT, if_pos hall, bs_l, p7, ob_s, e3', ob_s, if_neg k1, n_grd (by omega) (by decide), n_ix (by omega), h66 k hk']
          · refine ⟨-1, sRs S' 34 1 (some d), m2, m', _, by decide, A2, hS2, scR_s (by decide), by rw [rdR, if_neg (by decide)], ?_, ?_⟩
            · have : m_X8_swearerOf (sRs S' 34 1 (some d)) a3 m2 = some (-1) := by
                unfold m_X8_swearerOf
                by_cases z : a3 < 0
                · rw [if_pos z]
                · rw [if_neg z, hS.1, if_neg (far_lt h3 z)]
              rw [C0, eL, ob_s, if_neg i10, if_neg k1]; simp only; rw [gP_pos hS2.1, gP_pos hS2, this, ob_s]
            · rw [M0, in_m1n n6 h3 k1, if_pos i2f]
