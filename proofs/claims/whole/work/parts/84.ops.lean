/-! L3: a county and rows by number, in both -/
theorem gE_pos {α : Type} {a b : Nat} {k : Option α} (h : a = b) : gE a b k = k := by unfold gE; rw [if_pos h]
def HL : List (Nat × Option Nat) := [(44, some 23), (44, some 24), (44, some 25), (44, some 26), (44, some 27), (44, some 28), (44, some 29), (44, some 30), (56, none), (57, none), (58, none), (59, none), (60, none), (61, none), (62, none)]
theorem okC_noV {W : Cn} (h : okC W) : noV W := fun a b _ _ _ => h.2.2 _
/-- the county of number a: both lack it, or both have it -/
theorem county_at {S : Sk} {mm : Mm} (h : Inv S mm) (a : Int32) :
    (m_X9_countyAt S a mm = some none ∧ ∀ m, agK mm m → m_X12_hand a m = some (0, m)) ∨
    ∃ i W c, a = nI i ∧ i < 2 ∧ m_X9_countyAt S a mm = some (some c) ∧ 71 ≤ c ∧ KD S c 2 ∧ VO W c mm ∧ okC W ∧ ∀ m, agK mm m → ∃ m', m_X12_hand a m = some (1, m') ∧ VR W i 0 0 0 0 m' ∧ MV W (72 * i) m' ∧ agx HL m m' := by
  obtain ⟨_, ⟨T, ⟨_, wn, wc, _⟩, ⟨_, _, _, _, c5, c6, _⟩, hM⟩, _⟩ := h
  have hn := wn 0 (by decide)
  have h3 : mI mm 3 0 = nI (tn T 0) := c5 0 (by decide)
  have h49 : ∀ m, agK mm m → mI m 49 0 = nI (tn T 0) := fun m hm => (hm 49 0 rfl).trans (hM.2.2.2.2.1 0 (by decide))
  rcases arg_cases a (n := tn T 0) (by omega) with ⟨i, hi, rfl⟩ | ha
  · obtain ⟨c, hc, hr, hk, hv⟩ := c6 i hi
    refine Or.inr ⟨i, tc T i, c, rfl, by omega, ?_, hc, hk, hv, wc i hi, fun m hm => ?_⟩
    · unfold m_X9_countyAt
      simp only [ix0, h3]
      rw [show (0 : Int32) = nI 0 from rfl, if_neg (by rw [n_lt (by omega) (by omega)]; omega), if_pos (by rw [n_lt (by omega) (by omega)]; exact hi), n_grd (by omega) (by decide), n_ix (by omega), hr]
      rfl
    · have hV : MV (tc T i) (72 * i) m := MV_eq (show MV (tc T i) (72 * i) mm by have := hM.2.2.2.2.2.1 i hi; rwa [Nat.mul_zero, Nat.zero_add] at this) (fun j => hm 50 j rfl)
      obtain ⟨m', e1, e2, e3⟩ := M_hand_yes hi hn (h49 m hm) hV (wc i hi).1 (wc i hi).2.2
      exact ⟨m', e1, e2, MV_eq hV (fun j => (e3 50 j (covN (by rfl))).1), e3⟩
  · refine Or.inl ⟨?_, fun m hm => M_hand_no hn (h49 m hm) ha⟩
    unfold m_X9_countyAt
    simp only [ix0, h3]
    by_cases h0 : a < 0
    · rw [if_pos h0]; rfl
    · rw [if_neg h0, if_neg]
      · rfl
      · rcases ha with ha | ha
        · exact absurd ha h0
        · exact Int32.not_lt.mpr ha
/-- the county as told, laid out in both -/
theorem told_at {S : Sk} {mm : Mm} (h : Inv S mm) (a : Int32) :
    (m_X9_countyAt S a mm = some none ∧ m_X11_asTold S a mm = some (none, S, mm) ∧ ∀ m, agK mm m → m_X12_hand a m = some (0, m)) ∨
    ∃ i W c S' m1, a = nI i ∧ i < 2 ∧ m_X9_countyAt S a mm = some (some c) ∧ m_X11_asTold S a mm = some (some 14, S', m1) ∧ 71 ≤ c ∧ KD S' c 2 ∧ VO W c m1 ∧ okC W ∧ VC W m1 ∧ Inv S' m1 ∧ scR S S' ∧ agK mm m1 ∧ m_X7_begin S c mm = some (S', m1) ∧ ∀ m, agK m1 m → ∃ m', m_X12_hand a m = some (1, m') ∧ VR W i 0 0 0 0 m' ∧ MV W (72 * i) m' ∧ agx HL m m' := by
  rcases county_at h a with ⟨e, hm⟩ | ⟨i, W, c, ea, hi, e, hc, hk, hv, ok, hm⟩
  · refine Or.inl ⟨e, ?_, hm⟩
    unfold m_X11_asTold
    rw [e, ob_s]; rfl
  · obtain ⟨S', m1, e1, v1, o1, o2, o3, o4⟩ := C_begin h.1.1 hc hk hv ok.1 ok.2.2 h.2.2.2.2.1
    have hsc : scR S S' := by
      rcases o1 with rfl | rfl
      · exact scR_rf _
      · exact scR_s (by decide)
    have hSI : SI S' := by
      rcases o1 with rfl | rfl
      · exact h.1
      · exact SI_s h.1 (by decide) (by rw [h.1.1.2.1 14 (by decide)]; decide)
    have hK : agK mm m1 := agx_K (by decide) o4
    have hv1 : VO W c m1 := VO_K (fun p j hp => hK p j (kept_of (by omega))) hc hv
    have hT := h.2.2.2.2.1
    have hTB : TBI S' m1 := ⟨fun s hs => by have := o3 0 (by decide) s hs; rw [Nat.zero_mul, Nat.zero_add, bst_r0] at this; exact this, fun r hr => by have := o3 r hr 0 (by decide); rw [Nat.add_zero, bst_s0 ok.1.2.1] at this; exact this, fun d hd => by
      rw [o2] at hd
      obtain rfl := Option.some.inj hd
      exact ⟨hc, kd_c hsc hk, W, hv1, ok.1, o3⟩⟩
    refine Or.inr ⟨i, W, c, S', m1, ea, hi, e, ?_, hc, kd_c hsc hk, hv1, ok, v1, Inv_fr h hSI hsc hK hTB, hsc, hK, e1, fun m hm' => hm m (agK_tr hK hm')⟩
    unfold m_X11_asTold
    rw [e, ob_s]
    simp only [oM]
    rw [gk_pos hk, e1, ob_s, gP_pos hSI.1]
theorem is_no {s : Nat} {a : Int32} {n : Nat} {mm : Mm} (hs : s < 4) (hn : n ≤ 2) (h49 : mI mm 49 s = nI n) (h : a < 0 ∨ nI n ≤ a) : m_X12_is (nI s) a mm = some (b2 false) := by
  unfold m_X12_is
  simp (disch := omega) only [n_ix, n_grd, h49, M_in_no h (by omega)]
  rfl
theorem is_yes {s : Nat} {i n : Nat} {mm : Mm} (hs : s < 4) (hn : n ≤ 2) (h49 : mI mm 49 s = nI n) (h : i < n) : m_X12_is (nI s) (nI i) mm = some (b2 true) := by
  unfold m_X12_is
  simp (disch := omega) only [n_ix, n_grd, h49, M_in_yes h (by omega)]
  rfl
/-- rows of sort s and number a -/
theorem rows_at {S : Sk} {mm : Mm} (h : Inv S mm) {s : Nat} (h1 : 1 ≤ s) (hs : s < 4) (a : Int32) :
    (m_X9_rowsAt S (nI s) a mm = some none ∧ ∀ m, agK mm m → m_X12_is (nI s) a m = some (b2 false)) ∨
    ∃ T i c, a = nI i ∧ i < 2 ∧ okR T s i ∧ m_X9_rowsAt S (nI s) a mm = some (some c) ∧ 71 ≤ c ∧ RO (tr T s i) (tz T s i) c S mm ∧ ∀ m, agK mm m → m_X12_is (nI s) a m = some (b2 true) ∧ RM (tr T s i) (tz T s i) s (rwz s * i) m := by
  obtain ⟨_, ⟨T, ⟨_, wn, _, wr⟩, ⟨_, _, _, _, c5, _, c7⟩, hM⟩, _⟩ := h
  have hn := wn s hs
  have h3 : mI mm 3 s = nI (tn T s) := c5 s hs
  have h49 : ∀ m, agK mm m → mI m 49 s = nI (tn T s) := fun m hm => (hm 49 s rfl).trans (by have := hM.2.2.2.2.1 s hs; rwa [Nat.mul_zero, Nat.zero_add] at this)
  rcases arg_cases a (n := tn T s) (by omega) with ⟨i, hi, rfl⟩ | ha
  · obtain ⟨c, hc, hr, hv⟩ := c7 s i h1 hs hi
    refine Or.inr ⟨T, i, c, rfl, by omega, wr s i h1 hs hi, ?_, hc, hv, fun m hm => ⟨is_yes hs hn (h49 m hm) hi, ?_⟩⟩
    · unfold m_X9_rowsAt
      simp (disch := omega) only [zz_0, zz_1, zz_2, zz_3, zz_4, zz_5, zz_6, zz_7, zz_8, zz_9, zz_10, zz_11, zz_12, zz_13, zz_14, zz_15, zz_16, zz_20, zz_24, zz_25, zz_26, zz_28, zz_31, zz_32, zz_36, zz_39, zz_40, zz_48, zz_49, zz_50, zz_57, zz_59, zz_60, zz_64, zz_72, zz_97, zz_99, zz_100, zz_122, zz_144, zz_161, zz_255, zz_256, zz_288, zz_322, zz_384, zz_400, zz_448, zz_600, zz_1280, zz_1000000, nI_add, n_mul, n_sub, fa_or, fa_and, fb_xorI, n_div, n_rem, n_le, n_lt, n_eq, n_shl1, n_shr, n_andn, n_ix, n_grd, n_gdz, n_gbz, n_hasM, n_hasC, b2_0, b2_1, n_m1, ob_s, bs_l, bs_r, n_max, n_min, n_grt, n_les, h3, hr]
      rw [if_neg (by omega), if_pos hi]
      rfl
    · have := hM.2.2.2.2.2.2 s i h1 hs hi
      rw [Nat.mul_zero, Nat.zero_add] at this
      obtain ⟨g1, g2⟩ := this
      exact ⟨by rw [hm _ _ (kept_of (by omega)), g1], fun j q hj hq => by rw [hm _ _ (kept_of (by omega))]; exact g2 j q hj hq⟩
  · refine Or.inl ⟨?_, fun m hm => is_no hs hn (h49 m hm) ha⟩
    unfold m_X9_rowsAt
    by_cases h0 : a < 0
    · rw [if_pos h0]; rfl
    · rw [if_neg h0]
      simp (disch := omega) only [n_ix, n_grd, h3]
      rw [if_neg]
      · rfl
      · rcases ha with ha | ha
        · exact absurd ha h0
        · exact Int32.not_lt.mpr ha
/-- an operation that leaves the number of cells: both answer alike, the invariant stands -/
def OpOK (S : Sk) (x : Option (Int32 × Sk × Mm)) (y : Mm → Option (Int32 × Mm)) : Prop := ∃ r S' m1 m2, x = some (r, S', m1) ∧ y m1 = some (r, m2) ∧ Inv S' m2 ∧ SI S' ∧ sN S' = sN S ∧ sW S' = sW S
theorem op_no {S : Sk} {mm : Mm} {x : Option (Int32 × Sk × Mm)} {y : Mm → Option (Int32 × Mm)} {r : Int32} {m2 : Mm} (h : Inv S mm) (hx : x = some (r, S, mm)) (hy : y mm = some (r, m2)) {L : List (Nat × Option Nat)} (hL : qOK L = true) (hA : agx L mm m2) : OpOK S x y := ⟨r, S, mm, m2, hx, hy, (Inv_m h hL hA).1, h.1, rfl, rfl⟩
theorem op_yes {S S' : Sk} {m0 m1 m2 : Mm} {x : Option (Int32 × Sk × Mm)} {y : Mm → Option (Int32 × Mm)} {r : Int32} (h : Inv S' m0) (hs : scR S S') {L1 L2 : List (Nat × Option Nat)} (h1 : qOK L1 = true) (a1 : agx L1 m0 m1) (hx : x = some (r, S', m1)) (hy : y m1 = some (r, m2)) (h2 : qOK L2 = true) (a2 : agx L2 m1 m2) : OpOK S x y := ⟨r, S', m1, m2, hx, hy, (Inv_m (Inv_m h h1 a1).1 h2 a2).1, h.1, hs.1, hs.2.1⟩
theorem agK_44 {m : Mm} {j : Nat} {v : Int32} : agK m (sI m 44 j v) := fun p i hp => rdI_ne _ _ _ _ (by rintro rfl; exact absurd hp (by decide))
theorem qOK_K {L : List (Nat × Option Nat)} {m m' : Mm} (hL : qOK L = true) (hA : agx L m m') : agK m m' := agx_K (by
  rw [List.all_eq_true]
  intro x hx
  have := List.all_eq_true.mp hL x hx
  rw [Bool.and_eq_true] at this
  exact this.1) hA
/-- an operation on the county as told -/
theorem told_op {S : Sk} {mm : Mm} (h : Inv S mm) (a : Int32) {x : Option (Int32 × Sk × Mm)} {y : Mm → Option (Int32 × Mm)} {L2 : List (Nat × Option Nat)} (hfr : ∀ m r m2, y m = some (r, m2) → agx L2 m m2) (hL2 : qOK L2 = true)
    (no : m_X9_countyAt S a mm = some none → m_X11_asTold S a mm = some (none, S, mm) → (∀ m, agK mm m → m_X12_hand a m = some (0, m)) → ∃ r m2, x = some (r, S, mm) ∧ y mm = some (r, m2))
    (yes : ∀ i W c S' m1, i < 2 → m_X9_countyAt S a mm = some (some c) → m_X11_asTold S a mm = some (some 14, S', m1) → 71 ≤ c → KD S' c 2 → VO W c m1 → okC W → VC W m1 → Inv S' m1 → scR S S' → (∀ m, agK m1 m → ∃ m', m_X12_hand a m = some (1, m') ∧ VR W i 0 0 0 0 m' ∧ MV W (72 * i) m' ∧ agx HL m m') → ∃ r S2 m2 m3 L1, qOK L1 = true ∧ agx L1 m1 m2 ∧ SI S2 ∧ scR S' S2 ∧ sR S2 14 11 = sR S' 14 11 ∧ x = some (r, S2, m2) ∧ y m2 = some (r, m3)) : OpOK S x y := by
  rcases told_at h a with ⟨e0, e, hm⟩ | ⟨i, W, c, S', m1, ea, hi, e0, e, hc, hk, hv, ok, hV, hI, hsc, hK, _, hm⟩
  · obtain ⟨r, m2, ex, ey⟩ := no e0 e hm
    exact op_no h ex ey hL2 (hfr _ _ _ ey)
  · obtain ⟨r, S2, m2, m3, L1, q1, a1, s1, s2, s3, ex, ey⟩ := yes i W c S' m1 hi e0 e hc hk hv ok hV hI hsc hm
    have hI2 := (Inv_q hI s1 s2 s3 q1 a1).1
    exact ⟨r, S2, m2, m3, ex, ey, (Inv_m hI2 hL2 (hfr _ _ _ ey)).1, s1, (scR_tr hsc s2).1, (scR_tr hsc s2).2.1⟩
theorem q0 : qOK [] = true := rfl
theorem i10 : ¬ ((1 : Int32) = 0) := by decide
theorem op_heart {S : Sk} {mm : Mm} (h : Inv S mm) (a1 a2 a3 : Int32) : OpOK S (m_X11_heart S a1 a2 a3 mm) (m_X12_heart a1 a2 a3) := by
  refine told_op h a1 (fun m r m2 e => fr_X12_heart e) (by decide) ?_ ?_
  · intro _ e hm
    refine ⟨-1, sI mm 44 0 0, ?_, ?_⟩
    · unfold m_X11_heart; rw [e, ob_s]; rfl
    · unfold m_X12_heart; rw [hm _ agK_44, ob_s]; rfl
  · intro i W c S' m1 hi _ e hc hk hv ok hV hI hsc hm
    obtain ⟨m', em, hR, hMV, hA⟩ := hm (sI m1 44 0 0) agK_44
    have wf := ok.1.1
    have f6 := wf.1
    rcases two_cases (W := W) wf a2 a3 with ⟨p, q, rfl, rfl, hp, hq, hne⟩ | ⟨hno, hno'⟩
    · refine ⟨nI (hrt W p q), S', m1, m', [], q0, agx_rf _, hI.1, scR_rf _, rfl, ?_, ?_⟩
      · unfold m_X11_heart; rw [e, ob_s]; simp only [oM]
        rw [gE_pos rfl, gP_pos hI.1.1, C_areTwo hV wf hp hq hne, if_neg (by decide), C_heartOf hV wf (by omega) (by omega), ob_s]
      · unfold m_X12_heart; rw [em, ob_s, if_neg i10, M_areTwo hR.1 wf hp hq hne, ob_s, if_neg (by decide), M_heartOf hR.1 wf (by omega) (by omega), ob_s]
    · refine ⟨-1, S', m1, m', [], q0, agx_rf _, hI.1, scR_rf _, rfl, ?_, ?_⟩
      · unfold m_X11_heart; rw [e, ob_s]; simp only [oM]
        rw [gE_pos rfl, gP_pos hI.1.1, hno m1 hV, if_pos (by decide)]
      · unfold m_X12_heart; rw [em, ob_s, if_neg i10, hno' _ _ _ hR.1, ob_s, if_pos (by decide)]
theorem op_steps {S : Sk} {mm : Mm} (h : Inv S mm) (a1 a2 a3 : Int32) : OpOK S (m_X11_steps S a1 a2 a3 mm) (m_X12_steps a1 a2 a3) := by
  refine told_op h a1 (fun m r m2 e => fr_X12_steps e) (by decide) ?_ ?_
  · intro _ e hm
    refine ⟨-1, sI mm 44 0 0, ?_, ?_⟩
    · unfold m_X11_steps; rw [e, ob_s]; rfl
    · unfold m_X12_steps; rw [hm _ agK_44, ob_s]; rfl
  · intro i W c S' m1 hi _ e hc hk hv ok hV hI hsc hm
    obtain ⟨m', em, hR, hMV, hA⟩ := hm (sI m1 44 0 0) agK_44
    have wf := ok.1.1
    have f6 := wf.1
    rcases arg_cases a2 (n := fk W) (by omega) with ⟨p, hp, rfl⟩ | h2
    · rcases arg_cases a3 (n := fk W) (by omega) with ⟨q, hq, rfl⟩ | h3
      · refine ⟨enc1 (lst W p q), S', m1, m', [], q0, agx_rf _, hI.1, scR_rf _, rfl, ?_, ?_⟩
        · unfold m_X11_steps; rw [e, ob_s]; simp only [oM]
          rw [gE_pos rfl, gP_pos hI.1.1, C_isThere_yes hV wf hp, if_neg (by decide), C_isThere_yes hV wf hq, if_neg (by decide), C_likingsBetween hV wf (by omega) (by omega), ob_s]
        · unfold m_X12_steps; rw [em, ob_s, if_neg i10, M_isOne_yes hR.1 wf hp, ob_s, if_neg (by decide), M_isOne_yes hR.1 wf hq, ob_s, if_neg (by decide)]
          exact M_stepsW (q := ((1 : Int32), m')) hR.1 wf (by omega) (by omega)
      · refine ⟨-1, S', m1, m', [], q0, agx_rf _, hI.1, scR_rf _, rfl, ?_, ?_⟩
        · unfold m_X11_steps; rw [e, ob_s]; simp only [oM]
          rw [gE_pos rfl, gP_pos hI.1.1, C_isThere_yes hV wf hp, if_neg (by decide), C_isThere_no hV h3, if_pos (by decide)]
        · unfold m_X12_steps; rw [em, ob_s, if_neg i10, M_isOne_yes hR.1 wf hp, ob_s, if_neg (by decide), M_isOne_no hR.1 wf h3, ob_s, if_pos (by decide)]
    · refine ⟨-1, S', m1, m', [], q0, agx_rf _, hI.1, scR_rf _, rfl, ?_, ?_⟩
      · unfold m_X11_steps; rw [e, ob_s]; simp only [oM]
        rw [gE_pos rfl, gP_pos hI.1.1, C_isThere_no hV h2, if_pos (by decide)]
      · unfold m_X12_steps; rw [em, ob_s, if_neg i10, M_isOne_no hR.1 wf h2, ob_s, if_pos (by decide)]
theorem op_chain {S : Sk} {mm : Mm} (h : Inv S mm) (a1 a2 : Int32) : OpOK S (m_X11_chain S a1 a2 mm) (m_X12_chain a1 a2) := by
  refine told_op h a1 (fun m r m2 e => fr_X12_chain e) (by decide) ?_ ?_
  · intro _ e hm
    refine ⟨-1, sI mm 44 0 0, ?_, ?_⟩
    · unfold m_X11_chain; rw [e, ob_s]; rfl
    · unfold m_X12_chain; rw [hm _ agK_44, ob_s]; rfl
  · intro i W c S' m1 hi _ e hc hk hv ok hV hI hsc hm
    have wf := ok.1.1
    have f6 := wf.1
    obtain ⟨m2, e2, hB, _⟩ := C_learn hV wf
    obtain ⟨m3, e3, c0, c1, c2⟩ := C_findChain wf hB
    have hA2 : agx [(25, some 1), (26, none), (27, none), (28, none), (29, none), (25, some 0), (30, none), (31, none)] m1 m3 := agx_tr (agx_mono (by rfl) (fr_X0_learn e2)) (agx_mono (by rfl) c2)
    obtain ⟨m', em, hR, hMV, hA⟩ := hm (sI m3 44 0 0) (agK_tr (qOK_K (by decide) hA2) agK_44)
    obtain ⟨m4, e4, hV4, hs4⟩ := M_score hR.1 wf
    have sl : sco W 0 6 ≤ 6 := Nat.le_trans (Nat.le_trans (sco_le wf 6 0 6 (by unfold frn; exact Nat.le_trans (fb_ct_le _ _) f6)) (by unfold frn; exact fb_ct_le _ _)) f6
    have s384 : mI m4 69 384 = nI (sco W 0 6) := hs4 0 6 (Nat.two_pow_pos _) (by decide)
    have hx : (xshl 1 (nI (fk W)) - 1 : Int32) = nI (2 ^ fk W) - nI 1 := by
      rw [show (1 : Int32) = nI 1 from rfl, n_shl1 (by omega)]
    by_cases k1 : a2 = -1
    · refine ⟨nI (sco W 0 6), S', m3, m4, _, by decide, hA2, hI.1, scR_rf _, rfl, ?_, ?_⟩
      · unfold m_X11_chain; rw [e, ob_s]; simp only [oM]
        rw [gE_pos rfl, gP_pos hI.1.1, e2, ob_s, e3, ob_s, if_pos k1, c0]
      · unfold m_X12_chain; rw [em, ob_s, if_neg i10]
        simp only [hR.1.2.1, hx, e4, ob_s, if_pos k1, bS, show ix (384 : Int32) = 384 by decide, s384]
    · rcases arg_cases a2 (n := sco W 0 6) (by omega) with ⟨k, hk', rfl⟩ | h2
      · refine ⟨nI (cseq W k 0 6), S', m3, m4, _, by decide, hA2, hI.1, scR_rf _, rfl, ?_, ?_⟩
        · unfold m_X11_chain; rw [e, ob_s]; simp only [oM]
          rw [gE_pos rfl, gP_pos hI.1.1, e2, ob_s, e3, ob_s, if_neg k1]
          unfold m_X0_chained
          simp (disch := omega) only [zz_0, zz_1, zz_2, zz_3, zz_4, zz_5, zz_6, zz_7, zz_8, zz_9, zz_10, zz_11, zz_12, zz_13, zz_14, zz_15, zz_16, zz_20, zz_24, zz_25, zz_26, zz_28, zz_31, zz_32, zz_36, zz_39, zz_40, zz_48, zz_49, zz_50, zz_57, zz_59, zz_60, zz_64, zz_72, zz_97, zz_99, zz_100, zz_122, zz_144, zz_161, zz_255, zz_256, zz_288, zz_322, zz_384, zz_400, zz_448, zz_600, zz_1280, zz_1000000, nI_add, n_mul, n_sub, fa_or, fa_and, fb_xorI, n_div, n_rem, n_le, n_lt, n_eq, n_shl1, n_shr, n_andn, n_ix, n_grd, n_gdz, n_gbz, n_hasM, n_hasC, b2_0, b2_1, n_m1, ob_s, bs_l, bs_r, n_max, n_min, n_grt, n_les, c0]
          rw [if_neg (by omega), if_pos hk', c1 k hk']
          rfl
        · unfold m_X12_chain; rw [em, ob_s, if_neg i10]
          simp only [hR.1.2.1, hx, e4, ob_s, if_neg k1, show ix (384 : Int32) = 384 by decide, s384, M_in_yes hk' (show sco W 0 6 < 2147483648 by omega)]
          rw [if_neg (by decide), M_chainW hV4 wf hs4 hk', ob_s]
          rfl
      · refine ⟨-1, S', m3, m4, _, by decide, hA2, hI.1, scR_rf _, rfl, ?_, ?_⟩
        · unfold m_X11_chain; rw [e, ob_s]; simp only [oM]
          rw [gE_pos rfl, gP_pos hI.1.1, e2, ob_s, e3, ob_s, if_neg k1]
          unfold m_X0_chained
          rw [c0]
          by_cases h0 : a2 < 0
          · rw [if_pos h0]; rfl
          · rw [if_neg h0, if_neg (fun q => h2.elim h0 (fun q' => absurd q (Int32.not_lt.mpr q')))]; rfl
        · unfold m_X12_chain; rw [em, ob_s, if_neg i10]
          simp only [hR.1.2.1, hx, e4, ob_s, if_neg k1, show ix (384 : Int32) = 384 by decide, s384, M_in_no h2 (show sco W 0 6 < 2147483648 by omega)]
          rw [if_pos (by decide)]
          rfl
