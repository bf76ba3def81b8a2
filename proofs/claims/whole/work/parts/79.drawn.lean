/-! L3: who is visited most, likings; drawn deeds -/
theorem vto_b {W : Cn} (wf : WF W) (p : Nat) : vto W p < 1000 := by
  have h : vto W p ≤ 6 * 9 := fb_sm_bound (fun k _ => wf.2.2.2.2.2.1 _)
  omega
theorem C_mostVisited {W : Cn} {S : Sk} (hL : Lay S) {mm : Mm} (h : VC W mm) (wf : WF W) : ∃ m, m_X3_mostVisited S mm = some (enc1 (grt1 (vto W) (fk W)).1, m) := by
  have hf := wf.1
  unfold m_X3_mostVisited
  obtain ⟨m1', e1, V1, z1⟩ := loop_n (body := m_X3_mostVisited_b2) (a := ((0 : Int32), mm)) (fun i z => ∃ m, z = (nI i, m) ∧ VC W m ∧ ∀ p, p < i → mI m 24 p = nI (vto W p)) (fun m => VC W m ∧ ∀ p, p < 6 → mI m 24 p = nI (vto W p)) 6 (FU_big (by decide)) ⟨mm, rfl, h, fun p hp => absurd hp (Nat.not_lt_zero p)⟩ (by
    rintro i z hi ⟨m, rfl, V, hz⟩
    unfold m_X3_mostVisited_b2
    simp (disch := omega) only [zz_0, zz_1, zz_2, zz_3, zz_4, zz_5, zz_6, zz_7, zz_8, zz_9, zz_10, zz_11, zz_12, zz_13, zz_14, zz_15, zz_16, zz_20, zz_24, zz_25, zz_26, zz_28, zz_31, zz_32, zz_36, zz_39, zz_40, zz_48, zz_49, zz_50, zz_57, zz_59, zz_60, zz_64, zz_72, zz_97, zz_99, zz_100, zz_122, zz_144, zz_161, zz_255, zz_256, zz_288, zz_322, zz_384, zz_400, zz_448, zz_600, zz_1280, zz_1000000, nI_add, n_mul, n_sub, fa_or, fa_and, fb_xorI, n_div, n_rem, n_le, n_lt, n_eq, n_shl1, n_shr, n_andn, n_ix, n_grd, n_gdz, n_gbz, n_hasM, n_hasC, b2_0, b2_1, n_m1, ob_s, bs_l, bs_r, n_max, n_min, n_grt, n_les, C_countVisitsTo V hi]
    rw [if_neg (by omega)]
    refine ⟨_, rfl, _, rfl, VC_wr V (by omega) _ _, fun p hp => ?_⟩
    rw [rdI_sm]
    by_cases e : p = i
    · rw [if_pos e, e]
    · rw [if_neg e]; exact hz p (by omega)) (by
    rintro z ⟨m, rfl, V, hz⟩
    unfold m_X3_mostVisited_b2
    simp (disch := omega) only [zz_0, zz_1, zz_2, zz_3, zz_4, zz_5, zz_6, zz_7, zz_8, zz_9, zz_10, zz_11, zz_12, zz_13, zz_14, zz_15, zz_16, zz_20, zz_24, zz_25, zz_26, zz_28, zz_31, zz_32, zz_36, zz_39, zz_40, zz_48, zz_49, zz_50, zz_57, zz_59, zz_60, zz_64, zz_72, zz_97, zz_99, zz_100, zz_122, zz_144, zz_161, zz_255, zz_256, zz_288, zz_322, zz_384, zz_400, zz_448, zz_600, zz_1280, zz_1000000, nI_add, n_mul, n_sub, fa_or, fa_and, fb_xorI, n_div, n_rem, n_le, n_lt, n_eq, n_shl1, n_shr, n_andn, n_ix, n_grd, n_gdz, n_gbz, n_hasM, n_hasC, b2_0, b2_1, n_m1, ob_s, bs_l, bs_r, n_max, n_min, n_grt, n_les]
    rw [if_pos (by omega)]
    exact ⟨_, rfl, V, hz⟩)
  rw [e1, ob_s, V1.1, C_greatest (S := S) (a := 24) (by rw [lk_24 hL]) (vto W) hf (fun p hp => z1 p (by omega)) (vto_b wf), ob_s]
  exact ⟨_, rfl⟩
theorem grt1_val (f : Nat → Nat) : ∀ n, (grt1 f n).2 = (match (grt1 f n).1 with | none => 0 | some b => f b) ∧ ∀ b, (grt1 f n).1 = some b → b < n
  | 0 => ⟨rfl, fun b h => by cases h⟩
  | n + 1 => by
    obtain ⟨h1, h2⟩ := grt1_val f n
    have e : grt1 f (n + 1) = if f n ≤ (grt1 f n).2 then grt1 f n else (some n, f n) := rfl
    rw [e]
    by_cases c : f n ≤ (grt1 f n).2
    · rw [if_pos c]
      exact ⟨h1, fun b hb => by have := h2 b hb; omega⟩
    · rw [if_neg c]
      exact ⟨rfl, fun b hb => by cases hb; omega⟩
theorem M_visitedMost {W : Cn} {c : Nat} {mm : Mm} (h : VM W 0 c mm) (wf : WF W) (hn : noV W) : m_X12_visitedMost mm = some (enc1 (grt1 (vto W) (fk W)).1) := by
  have hf := wf.1
  have hv := fun p hp => @M_visitsTo W c mm h wf hn p hp
  have vb := vto_b wf
  unfold m_X12_visitedMost
  rw [o_id]
  obtain ⟨q, e, rfl⟩ := loop_n (body := m_X12_visitedMost_b4 mm) (a := ((-1 : Int32), (0 : Int32))) (fun i z => z = (enc1 (grt1 (vto W) i).1, nI i)) (fun q => q = enc1 (grt1 (vto W) (fk W)).1) (fk W) (FU_big (by omega)) rfl (by
    rintro i z hi rfl
    obtain ⟨g1, g2⟩ := grt1_val (vto W) i
    have e : grt1 (vto W) (i + 1) = if vto W i ≤ (grt1 (vto W) i).2 then grt1 (vto W) i else (some i, vto W i) := rfl
    have b1 := vb i
    refine ⟨(enc1 (grt1 (vto W) (i + 1)).1, nI (i + 1)), ?_, rfl⟩
    rw [e]
    unfold m_X12_visitedMost_b4
    rw [h.2.1]
    simp (disch := omega) only [zz_0, zz_1, zz_2, zz_3, zz_4, zz_5, zz_6, zz_7, zz_8, zz_9, zz_10, zz_11, zz_12, zz_13, zz_14, zz_15, zz_16, zz_20, zz_24, zz_25, zz_26, zz_28, zz_31, zz_32, zz_36, zz_39, zz_40, zz_48, zz_49, zz_50, zz_57, zz_59, zz_60, zz_64, zz_72, zz_97, zz_99, zz_100, zz_122, zz_144, zz_161, zz_255, zz_256, zz_288, zz_322, zz_384, zz_400, zz_448, zz_600, zz_1280, zz_1000000, n_le, hv, ob_s, nI_add, n_m1]
    rw [if_neg (by omega)]
    cases hg : (grt1 (vto W) i).1 with
    | none =>
      rw [hg] at g1
      simp only at g1
      rw [enc1_none, if_pos rfl, ob_s]
      simp (disch := omega) only [n_le]
      rw [g1]
      by_cases c : vto W i ≤ 0
      · rw [if_pos c, if_pos c, hg]; rfl
      · rw [if_neg c, if_neg c]; rfl
    | some b =>
      have hb := g2 b hg
      have b2 := vb b
      rw [hg] at g1
      simp only at g1
      rw [enc1_some, if_neg (enc1_m1 (by omega)), hv b (by omega), ob_s, ob_s]
      simp (disch := omega) only [n_le]
      rw [g1]
      by_cases c : vto W i ≤ vto W b
      · rw [if_pos c, if_pos c, hg]; rfl
      · rw [if_neg c, if_neg c]; rfl) (by
    rintro z rfl
    unfold m_X12_visitedMost_b4
    rw [h.2.1]
    simp (disch := omega) only [n_le]
    rw [if_pos (by omega)]
    exact ⟨_, rfl, rfl⟩)
  exact e
def lks2 (W : Cn) : Nat := fb_sm (fun p => pc (lk W p)) (fk W)
theorem C_countLikings {W : Cn} {mm : Mm} (h : VC W mm) (wf : WF W) : m_X3_countLikings mm = some (nI (lks2 W)) := by
  have hf := wf.1
  have g17 := h.2.2.2.2.2.1
  unfold m_X3_countLikings
  rw [o_id]
  refine (loop_fo (fun (x : Nat) i => (nI x, nI i)) (fun p x => x + pc (lk W p)) 0 (fk W) (fun x => nI x) (fun i x => True) rfl (FU_big (by omega)) trivial (fun _ _ _ _ => trivial) ?_ ?_).trans (by rw [fo_sm]; rfl)
  · intro i x hi hx
    have g := wf.2.2.2.2.1 i
    unfold m_X3_countLikings_b4
    rw [h.1]
    simp (disch := omega) only [zz_0, zz_1, zz_2, zz_3, zz_4, zz_5, zz_6, zz_7, zz_8, zz_9, zz_10, zz_11, zz_12, zz_13, zz_14, zz_15, zz_16, zz_20, zz_24, zz_25, zz_26, zz_28, zz_31, zz_32, zz_36, zz_39, zz_40, zz_48, zz_49, zz_50, zz_57, zz_59, zz_60, zz_64, zz_72, zz_97, zz_99, zz_100, zz_122, zz_144, zz_161, zz_255, zz_256, zz_288, zz_322, zz_384, zz_400, zz_448, zz_600, zz_1280, zz_1000000, nI_add, n_mul, n_sub, fa_or, fa_and, fb_xorI, n_div, n_rem, n_le, n_lt, n_eq, n_shl1, n_shr, n_andn, n_ix, n_grd, n_gdz, n_gbz, n_hasM, n_hasC, b2_0, b2_1, n_m1, ob_s, bs_l, bs_r, n_max, n_min, n_grt, n_les, g17, bitc_eq]
    rw [if_neg (by omega)]
  · intro x hx
    unfold m_X3_countLikings_b4
    rw [h.1]
    simp (disch := omega) only [zz_0, zz_1, zz_2, zz_3, zz_4, zz_5, zz_6, zz_7, zz_8, zz_9, zz_10, zz_11, zz_12, zz_13, zz_14, zz_15, zz_16, zz_20, zz_24, zz_25, zz_26, zz_28, zz_31, zz_32, zz_36, zz_39, zz_40, zz_48, zz_49, zz_50, zz_57, zz_59, zz_60, zz_64, zz_72, zz_97, zz_99, zz_100, zz_122, zz_144, zz_161, zz_255, zz_256, zz_288, zz_322, zz_384, zz_400, zz_448, zz_600, zz_1280, zz_1000000, nI_add, n_mul, n_sub, fa_or, fa_and, fb_xorI, n_div, n_rem, n_le, n_lt, n_eq, n_shl1, n_shr, n_andn, n_ix, n_grd, n_gdz, n_gbz, n_hasM, n_hasC, b2_0, b2_1, n_m1, ob_s, bs_l, bs_r, n_max, n_min, n_grt, n_les]
    rw [if_pos (by omega)]
theorem M_likings {W : Cn} {c : Nat} {mm : Mm} (h : VM W 0 c mm) (wf : WF W) : m_X12_likings mm = some (nI (lks2 W)) := by
  have hf := wf.1
  have g58 := h.2.2.2.2.2.2.1
  unfold m_X12_likings
  rw [o_id]
  refine (loop_fo (fun (x : Nat) i => (nI x, nI i)) (fun p x => x + pc (lk W p)) 0 (fk W) (fun x => nI x) (fun i x => True) rfl (FU_big (by omega)) trivial (fun _ _ _ _ => trivial) ?_ ?_).trans (by rw [fo_sm]; rfl)
  · intro i x hi hx
    have g := wf.2.2.2.2.1 i
    unfold m_X12_likings_b4
    rw [h.2.1]
    simp (disch := omega) only [zz_0, zz_1, zz_2, zz_3, zz_4, zz_5, zz_6, zz_7, zz_8, zz_9, zz_10, zz_11, zz_12, zz_13, zz_14, zz_15, zz_16, zz_20, zz_24, zz_25, zz_26, zz_28, zz_31, zz_32, zz_36, zz_39, zz_40, zz_48, zz_49, zz_50, zz_57, zz_59, zz_60, zz_64, zz_72, zz_97, zz_99, zz_100, zz_122, zz_144, zz_161, zz_255, zz_256, zz_288, zz_322, zz_384, zz_400, zz_448, zz_600, zz_1280, zz_1000000, nI_add, n_mul, n_sub, fa_or, fa_and, fb_xorI, n_div, n_rem, n_le, n_lt, n_eq, n_shl1, n_shr, n_andn, n_ix, n_grd, n_gdz, n_gbz, n_hasM, n_hasC, b2_0, b2_1, n_m1, ob_s, bs_l, bs_r, n_max, n_min, n_grt, n_les, g58]
    rw [if_neg (by omega), ones_eq (by omega), ob_s, nI_add]
  · intro x hx
    unfold m_X12_likings_b4
    rw [h.2.1]
    simp (disch := omega) only [zz_0, zz_1, zz_2, zz_3, zz_4, zz_5, zz_6, zz_7, zz_8, zz_9, zz_10, zz_11, zz_12, zz_13, zz_14, zz_15, zz_16, zz_20, zz_24, zz_25, zz_26, zz_28, zz_31, zz_32, zz_36, zz_39, zz_40, zz_48, zz_49, zz_50, zz_57, zz_59, zz_60, zz_64, zz_72, zz_97, zz_99, zz_100, zz_122, zz_144, zz_161, zz_255, zz_256, zz_288, zz_322, zz_384, zz_400, zz_448, zz_600, zz_1280, zz_1000000, nI_add, n_mul, n_sub, fa_or, fa_and, fb_xorI, n_div, n_rem, n_le, n_lt, n_eq, n_shl1, n_shr, n_andn, n_ix, n_grd, n_gdz, n_gbz, n_hasM, n_hasC, b2_0, b2_1, n_m1, ob_s, bs_l, bs_r, n_max, n_min, n_grt, n_les]
    rw [if_pos (by omega)]
def nxd (sd : Int32) : Int32 := sd * 1103515245 + 12345
def uu (x : Int32) : Nat := x.toBitVec.toNat / 65536
theorem uu_eq (x : Int32) : xushr x 16 = nI (uu x) ∧ uu x < 65536 := by
  have hlt : x.toBitVec.toNat < 2 ^ 32 := x.toBitVec.isLt
  have hu : uu x < 65536 := by unfold uu; omega
  refine ⟨?_, hu⟩
  apply Int32.toBitVec_inj.mp
  apply BitVec.eq_of_toNat_eq
  have e1 : (xushr x 16).toBitVec = x.toBitVec >>> 16 := by
    unfold xushr
    simp
  have e2 : (nI (uu x)).toBitVec = BitVec.ofNat 32 (uu x) := rfl
  rw [e1, e2, BitVec.toNat_ushiftRight, BitVec.toNat_ofNat, Nat.shiftRight_eq_div_pow, Nat.mod_eq_of_lt (by omega)]
  rfl
def drX (i : Nat) (q : XS × Int32) : XS × Int32 :=
  if uu (nxd q.2) % 10 = 9 then (monX i q.1, nxd q.2)
  else if uu (nxd q.2) % 10 = 8 then (if fk q.1.1 = 0 then (q.1, nxd q.2) else ((oneX i (if uu (nxd (nxd (nxd q.2))) % 2 = 0 then 1 else 2) (uu (nxd (nxd q.2)) % fk q.1.1) 0 0 q.1).getD q.1, nxd (nxd (nxd q.2))))
  else if fk q.1.1 ≤ 1 then (q.1, nxd q.2)
  else if uu (nxd q.2) % 10 < 4 then ((oneX i 6 (uu (nxd (nxd q.2)) % fk q.1.1) ((uu (nxd (nxd q.2)) % fk q.1.1 + 1 + uu (nxd (nxd (nxd q.2))) % (fk q.1.1 - 1)) % fk q.1.1) (uu (nxd (nxd (nxd (nxd q.2)))) % 8) q.1).getD q.1, nxd (nxd (nxd (nxd q.2))))
  else ((oneX i (if uu (nxd q.2) % 10 < 6 then 3 else if uu (nxd q.2) % 10 = 6 then 4 else 5) (uu (nxd (nxd q.2)) % fk q.1.1) ((uu (nxd (nxd q.2)) % fk q.1.1 + 1 + uu (nxd (nxd (nxd q.2))) % (fk q.1.1 - 1)) % fk q.1.1) 0 q.1).getD q.1, nxd (nxd (nxd q.2)))
