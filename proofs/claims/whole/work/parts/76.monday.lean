/-! L3: mondays by the class; what is told of a course -/
def btr (mk : Option Nat) (x : Nat) : Bool := match mk with | none => true | some y => decide (y < x)
theorem btr_iff {mk : Option Nat} {x : Nat} (hx : x ≤ 12) (hm : ∀ y, mk = some y → y ≤ 12) : (nI x ≤ enc1 mk) ↔ btr mk x = false := by
  cases mk with
  | none =>
    have h : ∀ x, x < 13 → ¬ nI x ≤ m1 := by decide +kernel
    have := h x (by omega)
    exact ⟨fun q => absurd q this, fun q => by cases q⟩
  | some y =>
    have := hm y rfl
    rw [enc1_some, n_le (by omega) (by omega)]
    unfold btr
    simp
theorem C_monday {W : Cn} {md kp br pj : Nat} {fp bm mk : Option Nat} {sn : Nat} {mm : Mm} (h : VQ W md kp br pj fp bm mk sn mm) (ok : okW W) (hpj : pj < 64) (hmk : ∀ y, mk = some y → y ≤ 12) (k0 : Nat) : ∃ m, m_X3_holdMonday (nI k0) mm = some m ∧ VQ (zeroO W) (md + 1) (kp + kn W) (br + pc (brk W 0)) (pj ||| swz W (brk W 0)) (if pj = 0 ∧ ¬ brk W 0 = 0 then some k0 else fp) (if btr mk (kn W) then some (md + 1) else bm) (if btr mk (kn W) then some (kn W) else mk) sn m := by
  obtain ⟨wf, hc, ho⟩ := ok
  have bb := brk_b12 ho 0
  have po := pc_oa ho
  obtain ⟨V, h1, h2, h3, h4, h5, h6, h7, h8⟩ := h
  have hkn : oa W - pc (brk W 0) = kn W := rfl
  have hb := btr_iff (x := kn W) (by unfold kn; omega) hmk
  unfold m_X3_holdMonday
  have eb : m_X7_brokenOaths 0 mm = some (nI (brk W 0)) := C_brokenOaths V wf hc (st := 0) (by decide)
  rw [eb, ob_s, V.2.1, bitc_eq bb, n_sub po, hkn]
  simp (disch := omega) only [rdI_nj, rdI_eq, h1, h2, h3, h7, zz_0, zz_1, zz_2, zz_3, zz_4, zz_5, zz_6, zz_7, zz_8, zz_9, zz_10, zz_11, zz_12, zz_13, zz_14, zz_15, zz_16, zz_20, zz_24, zz_25, zz_26, zz_28, zz_31, zz_32, zz_36, zz_39, zz_40, zz_48, zz_49, zz_50, zz_57, zz_59, zz_60, zz_64, zz_72, zz_97, zz_99, zz_100, zz_122, zz_144, zz_161, zz_255, zz_256, zz_288, zz_322, zz_384, zz_400, zz_448, zz_600, zz_1280, zz_1000000, nI_add]
  have step : ∀ m2 : Mm, VC W m2 → mI m2 13 1 = nI (md + 1) → mI m2 13 2 = nI (kp + kn W) → mI m2 13 3 = nI (br + pc (brk W 0)) → mI m2 13 4 = nI pj → mI m2 13 5 = enc1 fp → mI m2 13 6 = enc1 (if btr mk (kn W) then some (md + 1) else bm) → mI m2 13 7 = enc1 (if btr mk (kn W) then some (kn W) else mk) → mI m2 13 8 = nI sn → ∃ m, ((m_X7_swearersOf (nI (brk W 0)) (if mI m2 13 4 = nI 0 then (if nI (brk W 0) = nI 0 then m2 else sI m2 13 5 (nI k0)) else m2)).bind fun q10 => some (sI (sI (if mI m2 13 4 = nI 0 then (if nI (brk W 0) = nI 0 then m2 else sI m2 13 5 (nI k0)) else m2) 13 4 (mI (if mI m2 13 4 = nI 0 then (if nI (brk W 0) = nI 0 then m2 else sI m2 13 5 (nI k0)) else m2) 13 4 ||| q10)) 14 1 (nI 0))) = some m ∧ VQ (zeroO W) (md + 1) (kp + kn W) (br + pc (brk W 0)) (pj ||| swz W (brk W 0)) (if pj = 0 ∧ ¬ brk W 0 = 0 then some k0 else fp) (if btr mk (kn W) then some (md + 1) else bm) (if btr mk (kn W) then some (kn W) else mk) sn m := by
    intro m2 V2 j1 j2 j3 j4 j5 j6 j7 j8
    have m3 : ∃ m3, (if mI m2 13 4 = nI 0 then (if nI (brk W 0) = nI 0 then m2 else sI m2 13 5 (nI k0)) else m2) = m3 ∧ VC W m3 ∧ mI m3 13 5 = enc1 (if pj = 0 ∧ ¬ brk W 0 = 0 then some k0 else fp) ∧ ∀ j, j ≠ 5 → mI m3 13 j = mI m2 13 j := by
      rw [j4]
      simp (disch := omega) only [n_eq]
      by_cases c1 : pj = 0
      · rw [if_pos c1]
        by_cases c2 : brk W 0 = 0
        · rw [if_pos c2, if_neg (fun q => q.2 c2)]
          exact ⟨m2, rfl, V2, j5, fun _ _ => rfl⟩
        · rw [if_neg c2, if_pos ⟨c1, c2⟩]
          exact ⟨_, rfl, VC_wr V2 (by omega) _ _, rdI_eq _ _ _ _, fun j hj => rdI_nj _ _ _ _ hj⟩
      · rw [if_neg c1, if_neg (fun q => c1 q.1)]
        exact ⟨m2, rfl, V2, j5, fun _ _ => rfl⟩
    obtain ⟨m3, e3, V3, k5, kk⟩ := m3
    rw [e3, C_swearersOf V3 wf (s := brk W 0) (by omega), ob_s, kk 4 (by decide), j4, fa_or]
    refine ⟨_, rfl, VC_zero (VC_wr V3 (by omega) _ _), ?_, ?_, ?_, ?_, ?_, ?_, ?_, ?_⟩
    · simp (disch := omega) only [rdI_ne, rdI_nj]; rw [kk 1 (by decide)]; exact j1
    · simp (disch := omega) only [rdI_ne, rdI_nj]; rw [kk 2 (by decide)]; exact j2
    · simp (disch := omega) only [rdI_ne, rdI_nj]; rw [kk 3 (by decide)]; exact j3
    · simp (disch := omega) only [rdI_ne, rdI_eq]
    · simp (disch := omega) only [rdI_ne, rdI_nj]; exact k5
    · simp (disch := omega) only [rdI_ne, rdI_nj]; rw [kk 6 (by decide)]; exact j6
    · simp (disch := omega) only [rdI_ne, rdI_nj]; rw [kk 7 (by decide)]; exact j7
    · simp (disch := omega) only [rdI_ne, rdI_nj]; rw [kk 8 (by decide)]; exact j8
  have V1 : VC W (sI (sI (sI mm 13 1 (nI (md + 1))) 13 2 (nI (kp + kn W))) 13 3 (nI (br + pc (brk W 0)))) := VC_wr (VC_wr (VC_wr V (by omega) _ _) (by omega) _ _) (by omega) _ _
  cases hbt : btr mk (kn W) with
  | false =>
    rw [hbt] at step
    simp only [if_pos (hb.mpr hbt)]
    refine step _ V1 ?_ ?_ ?_ ?_ ?_ ?_ ?_ ?_ <;> simp (disch := omega) only [rdI_nj, rdI_eq, Bool.false_eq_true, if_false] <;> assumption
  | true =>
    rw [hbt] at step
    have hneg : ¬ nI (kn W) ≤ enc1 mk := fun q => by
      have := hb.mp q
      rw [hbt] at this
      exact absurd this (by decide)
    simp only [if_neg hneg]
    have V2 : VC W (sI (sI (sI (sI (sI mm 13 1 (nI (md + 1))) 13 2 (nI (kp + kn W))) 13 3 (nI (br + pc (brk W 0)))) 13 7 (nI (kn W))) 13 6 (nI (md + 1))) := VC_wr (VC_wr V1 (by omega) _ _) (by omega) _ _
    refine step _ V2 ?_ ?_ ?_ ?_ ?_ ?_ ?_ ?_ <;> simp (disch := omega) only [rdI_nj, rdI_eq, if_true, enc1_some] <;> assumption
/-- visits to one -/
def vto (W : Cn) (p : Nat) : Nat := fb_sm (fun a => vs W (6 * a + p)) 6
theorem C_countVisitsTo {W : Cn} {mm : Mm} (h : VC W mm) {p : Nat} (hp : p < 6) : m_X3_countVisitsTo (nI p) mm = some (nI (vto W p)) := by
  have g18 := h.2.2.2.2.2.2.1
  unfold m_X3_countVisitsTo
  rw [o_id]
  refine (loop_fo (fun (x : Nat) i => (nI x, nI i)) (fun a x => x + vs W (6 * a + p)) 0 6 (fun x => nI x) (fun i x => True) rfl (FU_big (by decide)) trivial (fun _ _ _ _ => trivial) ?_ ?_).trans (by rw [fo_sm]; rfl)
  · intro i x hi hx
    unfold m_X3_countVisitsTo_b4
    simp (disch := omega) only [zz_0, zz_1, zz_2, zz_3, zz_4, zz_5, zz_6, zz_7, zz_8, zz_9, zz_10, zz_11, zz_12, zz_13, zz_14, zz_15, zz_16, zz_20, zz_24, zz_25, zz_26, zz_28, zz_31, zz_32, zz_36, zz_39, zz_40, zz_48, zz_49, zz_50, zz_57, zz_59, zz_60, zz_64, zz_72, zz_97, zz_99, zz_100, zz_122, zz_144, zz_161, zz_255, zz_256, zz_288, zz_322, zz_384, zz_400, zz_448, zz_600, zz_1280, zz_1000000, nI_add, n_mul, n_sub, fa_or, fa_and, fb_xorI, n_div, n_rem, n_le, n_lt, n_eq, n_shl1, n_shr, n_andn, n_ix, n_grd, n_gdz, n_gbz, n_hasM, n_hasC, b2_0, b2_1, n_m1, ob_s, bs_l, bs_r, n_max, n_min, n_grt, n_les, Nat.mul_comm i 6, g18]
    rw [if_neg (by omega)]
  · intro x hx
    unfold m_X3_countVisitsTo_b4
    simp (disch := omega) only [zz_0, zz_1, zz_2, zz_3, zz_4, zz_5, zz_6, zz_7, zz_8, zz_9, zz_10, zz_11, zz_12, zz_13, zz_14, zz_15, zz_16, zz_20, zz_24, zz_25, zz_26, zz_28, zz_31, zz_32, zz_36, zz_39, zz_40, zz_48, zz_49, zz_50, zz_57, zz_59, zz_60, zz_64, zz_72, zz_97, zz_99, zz_100, zz_122, zz_144, zz_161, zz_255, zz_256, zz_288, zz_322, zz_384, zz_400, zz_448, zz_600, zz_1280, zz_1000000, nI_add, n_mul, n_sub, fa_or, fa_and, fb_xorI, n_div, n_rem, n_le, n_lt, n_eq, n_shl1, n_shr, n_andn, n_ix, n_grd, n_gdz, n_gbz, n_hasM, n_hasC, b2_0, b2_1, n_m1, ob_s, bs_l, bs_r, n_max, n_min, n_grt, n_les]
    rw [if_pos (by omega)]
/-- none of those who are not there visits -/
def noV (W : Cn) : Prop := ∀ a b, fk W ≤ a → a < 6 → b < 6 → vs W (6 * a + b) = 0
theorem vto_fk {W : Cn} (hn : noV W) (hf : fk W ≤ 6) {p : Nat} (hp : p < 6) : fb_sm (fun a => vs W (6 * a + p)) (fk W) = vto W p := by
  unfold vto
  have h := fb_sm_split (fun a => vs W (6 * a + p)) (fk W) (6 - fk W)
  rw [show fk W + (6 - fk W) = 6 by omega] at h
  rw [h]
  have : fb_sm (fun k => vs W (6 * (fk W + k) + p)) (6 - fk W) = fb_sm (fun _ => 0) (6 - fk W) := fb_sm_cong (fun k hk => hn _ p (by omega) (by omega) hp)
  rw [this, fb_sm_const]
  omega
theorem M_visitsTo {W : Cn} {c : Nat} {mm : Mm} (h : VM W 0 c mm) (wf : WF W) (hn : noV W) {p : Nat} (hp : p < 6) : m_X12_visitsTo (nI p) mm = some (nI (vto W p)) := by
  have hf := wf.1
  have g59 := h.2.2.2.2.2.2.2.1
  have g24 := h.2.1
  unfold m_X12_visitsTo
  rw [o_id]
  refine (loop_fo (fun (x : Nat) i => (nI x, nI i)) (fun a x => x + vs W (6 * a + p)) 0 (fk W) (fun x => nI x) (fun i x => True) rfl (FU_big (by omega)) trivial (fun _ _ _ _ => trivial) ?_ ?_).trans (by rw [fo_sm, vto_fk hn hf hp])
  · intro i x hi hx
    unfold m_X12_visitsTo_b4
    simp (disch := omega) only [zz_0, zz_1, zz_2, zz_3, zz_4, zz_5, zz_6, zz_7, zz_8, zz_9, zz_10, zz_11, zz_12, zz_13, zz_14, zz_15, zz_16, zz_20, zz_24, zz_25, zz_26, zz_28, zz_31, zz_32, zz_36, zz_39, zz_40, zz_48, zz_49, zz_50, zz_57, zz_59, zz_60, zz_64, zz_72, zz_97, zz_99, zz_100, zz_122, zz_144, zz_161, zz_255, zz_256, zz_288, zz_322, zz_384, zz_400, zz_448, zz_600, zz_1280, zz_1000000, nI_add, n_mul, n_sub, fa_or, fa_and, fb_xorI, n_div, n_rem, n_le, n_lt, n_eq, n_shl1, n_shr, n_andn, n_ix, n_grd, n_gdz, n_gbz, n_hasM, n_hasC, b2_0, b2_1, n_m1, ob_s, bs_l, bs_r, n_max, n_min, n_grt, n_les, g24, g59]
    rw [if_neg (by omega)]
  · intro x hx
    unfold m_X12_visitsTo_b4
    simp (disch := omega) only [zz_0, zz_1, zz_2, zz_3, zz_4, zz_5, zz_6, zz_7, zz_8, zz_9, zz_10, zz_11, zz_12, zz_13, zz_14, zz_15, zz_16, zz_20, zz_24, zz_25, zz_26, zz_28, zz_31, zz_32, zz_36, zz_39, zz_40, zz_48, zz_49, zz_50, zz_57, zz_59, zz_60, zz_64, zz_72, zz_97, zz_99, zz_100, zz_122, zz_144, zz_161, zz_255, zz_256, zz_288, zz_322, zz_384, zz_400, zz_448, zz_600, zz_1280, zz_1000000, nI_add, n_mul, n_sub, fa_or, fa_and, fb_xorI, n_div, n_rem, n_le, n_lt, n_eq, n_shl1, n_shr, n_andn, n_ix, n_grd, n_gdz, n_gbz, n_hasM, n_hasC, b2_0, b2_1, n_m1, ob_s, bs_l, bs_r, n_max, n_min, n_grt, n_les, g24]
    rw [if_pos (by omega)]
theorem div10 {a : Int32} (h : ¬ a < 10) : ∃ w, 10 ≤ w ∧ w < 2147483648 ∧ a = nI w := by
  rcases int_cases a with ⟨w, hw, rfl⟩ | hneg
  · rw [show (10 : Int32) = nI 10 from rfl, n_lt hw (by decide)] at h
    exact ⟨w, by omega, hw, rfl⟩
  · exfalso
    apply h
    rw [fa_lt] at hneg ⊢
    have e0 : (0 : Int32).toInt = 0 := by decide
    have e10 : (10 : Int32).toInt = 10 := by decide
    omega
/-- the class tells of a state as the reference does -/
theorem tell_state {W : Cn} {c md kp br pj : Nat} {fp bm mk : Option Nat} {sn : Nat} {mc mr : Mm} (hQ : VQ W md kp br pj fp bm mk sn mc) (hR : VR W c md kp br pj mr) (ok : okW W) (hn : noV W) (a : Int32) : ∃ r, m_X3_tell a mc = some r ∧ m_X12_ofState a mr = some r := by
  obtain ⟨wf, hc, ho⟩ := ok
  have hf := wf.1
  obtain ⟨V, h1, h2, h3, h4, h5, h6, h7, h8⟩ := hQ
  obtain ⟨U, u27, u28, u29, u30⟩ := hR
  unfold m_X3_tell m_X12_ofState
  by_cases k10 : a < 10
  · have n10' : ¬ (10 : Int32) ≤ a := fun q => by rw [fa_le] at q; rw [fa_lt] at k10; omega
    rw [if_neg n10', if_neg n10', h1, h2, h3, h4, V.2.1, u28, u29, u30, u27, U.2.2.1]
    by_cases e0 : a = 0
    · simp only [if_pos e0]; exact ⟨_, rfl, rfl⟩
    simp only [if_neg e0]
    by_cases e1 : a = 1
    · simp only [if_pos e1]; exact ⟨_, rfl, rfl⟩
    simp only [if_neg e1]
    by_cases e2 : a = 2
    · simp only [if_pos e2]; exact ⟨_, rfl, rfl⟩
    simp only [if_neg e2]
    by_cases e3 : a = 3
    · simp only [if_pos e3]; exact ⟨_, rfl, rfl⟩
    simp only [if_neg e3]
    by_cases e4 : a = 4
    · simp only [if_pos e4]; exact ⟨_, rfl, rfl⟩
    simp only [if_neg e4]
    exact ⟨_, rfl, rfl⟩
  · obtain ⟨w, hw1, hw2, rfl⟩ := div10 k10
    simp (disch := omega) only [zz_0, zz_1, zz_2, zz_3, zz_4, zz_5, zz_6, zz_7, zz_8, zz_9, zz_10, zz_11, zz_12, zz_13, zz_14, zz_15, zz_16, zz_20, zz_24, zz_25, zz_26, zz_28, zz_31, zz_32, zz_36, zz_39, zz_40, zz_48, zz_49, zz_50, zz_57, zz_59, zz_60, zz_64, zz_72, zz_97, zz_99, zz_100, zz_122, zz_144, zz_161, zz_255, zz_256, zz_288, zz_322, zz_384, zz_400, zz_448, zz_600, zz_1280, zz_1000000, n_eq, n_le, n_div, n_rem]
    rw [if_neg (by omega), if_neg (by omega), if_neg (by omega), if_neg (by omega), if_neg (by omega), if_pos hw1, if_pos hw1]
    unfold m_X3_tellOne
    by_cases hlt : w % 10 < fk W
    · rw [C_isThere_yes V wf hlt, M_isOne_yes U wf hlt, ob_s]
      simp only [if_neg (show ¬ b2 true = nI 0 by decide), if_neg (show ¬ b2 true = 0 by decide)]
      have g15 := V.2.2.2.1 (w % 10) (by omega)
      have g17 := V.2.2.2.2.2.1 (w % 10) (by omega)
      have g56 := U.2.2.2.2.1 (w % 10) (by omega)
      have g58 := U.2.2.2.2.2.2.1 (w % 10) (by omega)
      simp (disch := omega) only [zz_0, zz_1, zz_2, zz_3, zz_4, zz_5, zz_6, zz_7, zz_8, zz_9, zz_10, zz_11, zz_12, zz_13, zz_14, zz_15, zz_16, zz_20, zz_24, zz_25, zz_26, zz_28, zz_31, zz_32, zz_36, zz_39, zz_40, zz_48, zz_49, zz_50, zz_57, zz_59, zz_60, zz_64, zz_72, zz_97, zz_99, zz_100, zz_122, zz_144, zz_161, zz_255, zz_256, zz_288, zz_322, zz_384, zz_400, zz_448, zz_600, zz_1280, zz_1000000, n_eq, n_grd, n_ix, g15, g17, g56, g58, C_swornFor V wf (p := w % 10) (by omega), M_swornFor U wf (by decide) (p := w % 10) (by omega), C_keptBy V wf (p := w % 10) (by omega), M_keptBy U wf hc (by decide) (p := w % 10) (by omega), C_countVisitsTo V (p := w % 10) (by omega), M_visitsTo U wf hn (p := w % 10) (by omega), ob_s]
      by_cases e1 : w / 10 = 1
      · simp only [if_pos e1]; exact ⟨_, rfl, rfl⟩
      simp only [if_neg e1]
      by_cases e2 : w / 10 = 2
      · simp only [if_pos e2]; exact ⟨_, rfl, rfl⟩
      simp only [if_neg e2]
      by_cases e3 : w / 10 = 3
      · simp only [if_pos e3]; exact ⟨_, rfl, rfl⟩
      simp only [if_neg e3]
      by_cases e4 : w / 10 = 4
      · simp only [if_pos e4]; exact ⟨_, rfl, rfl⟩
      simp only [if_neg e4]
      by_cases e5 : w / 10 = 5
      · simp only [if_pos e5]; exact ⟨_, rfl, rfl⟩
      simp only [if_neg e5]
      exact ⟨_, rfl, rfl⟩
    · rw [C_isThere_no V (a := nI (w % 10)) (Or.inr (by rw [n_le (by omega) (by omega)]; omega)), M_isOne_no U wf (a := nI (w % 10)) (Or.inr (by rw [n_le (by omega) (by omega)]; omega)), ob_s]
      simp only [if_pos (show b2 false = nI 0 by decide), if_pos (show b2 false = 0 by decide)]
      exact ⟨_, rfl, rfl⟩
