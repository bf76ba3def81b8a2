/-! L3: dare -/
theorem rdR (S : Sk) (p j : Nat) (o : Option Nat) (a i : Nat) : sR (sRs S p j o) a i = if a = p ∧ i = j then o else sR S a i := rfl
def e8 (v : Nat) : Int32 := nI v - nI 8
theorem e8_cmp : ∀ v, v < 17 → ∀ w, w < 17 → (e8 v ≤ e8 w ↔ v ≤ w) ∧ (e8 v = e8 w ↔ v = w) ∧ xmax (e8 v) (e8 w) = e8 (max v w) ∧ xmin (e8 v) (e8 w) = e8 (min v w) := by decide +kernel
theorem e8_df : ∀ x, x < 9 → ∀ y, y < 9 → nI x - nI y = e8 (8 + x - y) := by decide +kernel
theorem bst_pc {W : Cn} (hc : symC (cl W)) (s r : Nat) : pc (bst W s r) ≤ 8 := pc_le8 (bst_b W hc s r)
/-- the end of dare from here: left turns, whose turn, what is open to both; 8 more than it is -/
def trn (W : Cn) (a b : Nat) : Nat → Bool → Nat → Nat → Nat
  | 0, _, o1, o2 => 8 + pc (bst W o2 (rm W b)) - pc (bst W o1 (rm W a))
  | l + 1, true, o1, o2 => fo (fun t x => max x (trn W a b l false o1 (o2 ||| (rch W a b &&& 2 ^ t)))) 0 9
  | l + 1, false, o1, o2 => fo (fun t x => min x (trn W a b l true (o1 ||| (rch W b a &&& 2 ^ t)) o2)) 16 9
theorem trn_b {W : Cn} (hc : symC (cl W)) (a b : Nat) : ∀ l f o1 o2, trn W a b l f o1 o2 < 17
  | 0, f, o1, o2 => by
    have h1 := bst_pc hc o2 (rm W b)
    rw [trn]; omega
  | l + 1, true, o1, o2 => by
    rw [trn]
    refine fo_inv (n := 9) (fun _ x => x < 17) (by decide) (fun i x hi hx => ?_) 9 (Nat.le_refl _)
    have := trn_b hc a b l false o1 (o2 ||| (rch W a b &&& 2 ^ i))
    omega
  | l + 1, false, o1, o2 => by
    rw [trn]
    refine fo_inv (n := 9) (fun _ x => x < 17) (by decide) (fun i x hi hx => ?_) 9 (Nat.le_refl _)
    omega
def WD (W : Cn) (a b : Nat) (S : Sk) (mm : Mm) : Prop := VC W mm ∧ sR S 38 4 = some 14 ∧ mI mm 38 5 = nI a ∧ mI mm 38 6 = nI b ∧ mI mm 38 7 = nI (rch W b a) ∧ mI mm 38 8 = nI (rch W a b)
theorem C_difference {W : Cn} {S : Sk} {mm : Mm} {a b : Nat} (h : WD W a b S mm) (wf : WF W) (hc : symC (cl W)) (ha : a < 6) (hb : b < 6) {o1 o2 : Nat} (h1 : o1 < 256) (h2 : o2 < 256) : m_X10_difference S (nI o1) (nI o2) mm = some (e8 (8 + pc (bst W o2 (rm W b)) - pc (bst W o1 (rm W a)))) := by
  obtain ⟨V, r, m5, m6, m7, m8⟩ := h
  have k1 : ∀ s q, s < 256 → q ≤ 4 → m_X7_keptOf (nI s) (nI q) mm = some (nI (bst W s q)) := fun s q hs hq => C_keptOf V hs hq
  have g1 := wf.2.2.2.1 a
  have g2 := wf.2.2.2.1 b
  have g3 := V.2.2.2.2.1
  have b1 := bst_b W hc o1 (rm W a)
  have b2 := bst_b W hc o2 (rm W b)
  have p1 := bst_pc hc o1 (rm W a)
  have p2 := bst_pc hc o2 (rm W b)
  unfold m_X10_difference
  rw [r, m5, m6]
  simp (disch := omega) only [oM, gE, if_true, n_grd, n_ix, g3, k1, ob_s, bitc_eq]
  rw [e8_df _ (by omega) _ (by omega)]
theorem C_turns {W : Cn} {S : Sk} {mm : Mm} {a b : Nat} (h : WD W a b S mm) (wf : WF W) (hc : symC (cl W)) (ha : a < 6) (hb : b < 6) : ∀ l f, l < f → l < 100 → ∀ o1 o2, o1 < 256 → o2 < 256 → (m_X10_FS S f).1 (nI l) (nI o1) (nI o2) mm = some (e8 (trn W a b l true o1 o2)) ∧ (m_X10_FS S f).2 (nI l) (nI o1) (nI o2) mm = some (e8 (trn W a b l false o1 o2))
  | 0, f, hf, _, o1, o2, h1, h2 => by
    obtain ⟨f, rfl⟩ : ∃ k, f = k + 1 := ⟨f - 1, by omega⟩
    have hd := C_difference h wf hc ha hb h1 h2
    refine ⟨?_, ?_⟩
    · show m_X10_firstTurn_s S (m_X10_FS S f).2 (nI 0) (nI o1) (nI o2) mm = _
      unfold m_X10_firstTurn_s
      rw [if_neg (show ¬ (0 : Int32) < nI 0 by decide), hd]
      rfl
    · show m_X10_secondTurn_s S (m_X10_FS S f).1 (nI 0) (nI o1) (nI o2) mm = _
      unfold m_X10_secondTurn_s
      rw [if_neg (show ¬ (0 : Int32) < nI 0 by decide), hd]
      rfl
  | l + 1, f, hf, hl, o1, o2, h1, h2 => by
    obtain ⟨f, rfl⟩ : ∃ k, f = k + 1 := ⟨f - 1, by omega⟩
    have ih := C_turns h wf hc ha hb l f (by omega) (by omega)
    have tb := trn_b hc a b
    obtain ⟨V, r, m5, m6, m7, m8⟩ := h
    have r1 := rch_b W a b
    have r2 := rch_b W b a
    refine ⟨?_, ?_⟩
    · show m_X10_firstTurn_s S (m_X10_FS S f).2 (nI (l + 1)) (nI o1) (nI o2) mm = _
      unfold m_X10_firstTurn_s
      simp (disch := omega) only [zz_0, zz_1, zz_2, zz_3, zz_4, zz_5, zz_6, zz_7, zz_8, zz_9, zz_10, zz_11, zz_12, zz_13, zz_14, zz_15, zz_16, zz_20, zz_24, zz_25, zz_26, zz_28, zz_31, zz_32, zz_36, zz_39, zz_40, zz_48, zz_49, zz_50, zz_57, zz_59, zz_60, zz_64, zz_72, zz_97, zz_99, zz_100, zz_122, zz_144, zz_161, zz_255, zz_256, zz_288, zz_322, zz_384, zz_400, zz_448, zz_600, zz_1280, zz_1000000, n_lt]
      rw [if_pos (by omega), o_id, trn]
      refine loop_fo (fun (x : Nat) i => (e8 x, nI i)) _ 0 9 (fun x => e8 x) (fun i x => x < 17) rfl (FU_big (by decide)) (by decide) (fun i x hi hx => ?_) ?_ ?_
      · have := tb l false o1 (o2 ||| (rch W a b &&& 2 ^ i)); omega
      · intro i x hi hx
        have pt : 2 ^ i < 2 ^ 9 := pow_le hi
        have ab : rch W a b &&& 2 ^ i < 2 ^ 8 := Nat.lt_of_le_of_lt Nat.and_le_left r1
        have xb : o2 ||| (rch W a b &&& 2 ^ i) < 2 ^ 8 := or_b h2 ab
        have ev := (ih o1 (o2 ||| (rch W a b &&& 2 ^ i)) h1 xb).2
        have tb1 := tb l false o1 (o2 ||| (rch W a b &&& 2 ^ i))
        have mx := (e8_cmp x hx _ tb1).2.2.1
        unfold m_X10_firstTurn_b18
        simp (disch := omega) only [zz_0, zz_1, zz_2, zz_3, zz_4, zz_5, zz_6, zz_7, zz_8, zz_9, zz_10, zz_11, zz_12, zz_13, zz_14, zz_15, zz_16, zz_20, zz_24, zz_25, zz_26, zz_28, zz_31, zz_32, zz_36, zz_39, zz_40, zz_48, zz_49, zz_50, zz_57, zz_59, zz_60, zz_64, zz_72, zz_97, zz_99, zz_100, zz_122, zz_144, zz_161, zz_255, zz_256, zz_288, zz_322, zz_384, zz_400, zz_448, zz_600, zz_1280, zz_1000000, nI_add, n_mul, n_sub, fa_or, fa_and, fb_xorI, n_div, n_rem, n_le, n_lt, n_eq, n_shl1, n_shr, n_andn, n_ix, n_grd, n_gdz, n_gbz, n_hasM, n_hasC, b2_0, b2_1, n_m1, ob_s, bs_l, bs_r, n_max, n_min, n_grt, n_les, m8, show l + 1 - 1 = l from rfl, ev, mx]
        rw [if_neg (by omega)]
      · intro x hx
        unfold m_X10_firstTurn_b18
        simp (disch := omega) only [zz_0, zz_1, zz_2, zz_3, zz_4, zz_5, zz_6, zz_7, zz_8, zz_9, zz_10, zz_11, zz_12, zz_13, zz_14, zz_15, zz_16, zz_20, zz_24, zz_25, zz_26, zz_28, zz_31, zz_32, zz_36, zz_39, zz_40, zz_48, zz_49, zz_50, zz_57, zz_59, zz_60, zz_64, zz_72, zz_97, zz_99, zz_100, zz_122, zz_144, zz_161, zz_255, zz_256, zz_288, zz_322, zz_384, zz_400, zz_448, zz_600, zz_1280, zz_1000000, nI_add, n_mul, n_sub, fa_or, fa_and, fb_xorI, n_div, n_rem, n_le, n_lt, n_eq, n_shl1, n_shr, n_andn, n_ix, n_grd, n_gdz, n_gbz, n_hasM, n_hasC, b2_0, b2_1, n_m1, ob_s, bs_l, bs_r, n_max, n_min, n_grt, n_les]
        rw [if_pos (by omega)]
    · show m_X10_secondTurn_s S (m_X10_FS S f).1 (nI (l + 1)) (nI o1) (nI o2) mm = _
      unfold m_X10_secondTurn_s
      simp (disch := omega) only [zz_0, zz_1, zz_2, zz_3, zz_4, zz_5, zz_6, zz_7, zz_8, zz_9, zz_10, zz_11, zz_12, zz_13, zz_14, zz_15, zz_16, zz_20, zz_24, zz_25, zz_26, zz_28, zz_31, zz_32, zz_36, zz_39, zz_40, zz_48, zz_49, zz_50, zz_57, zz_59, zz_60, zz_64, zz_72, zz_97, zz_99, zz_100, zz_122, zz_144, zz_161, zz_255, zz_256, zz_288, zz_322, zz_384, zz_400, zz_448, zz_600, zz_1280, zz_1000000, n_lt]
      rw [if_pos (by omega), o_id, trn]
      refine loop_fo (fun (x : Nat) i => (e8 x, nI i)) _ 16 9 (fun x => e8 x) (fun i x => x < 17) rfl (FU_big (by decide)) (by decide) (fun i x hi hx => ?_) ?_ ?_
      · omega
      · intro i x hi hx
        have pt : 2 ^ i < 2 ^ 9 := pow_le hi
        have ab : rch W b a &&& 2 ^ i < 2 ^ 8 := Nat.lt_of_le_of_lt Nat.and_le_left r2
        have xb : o1 ||| (rch W b a &&& 2 ^ i) < 2 ^ 8 := or_b h1 ab
        have ev := (ih (o1 ||| (rch W b a &&& 2 ^ i)) o2 xb h2).1
        have tb1 := tb l true (o1 ||| (rch W b a &&& 2 ^ i)) o2
        have mx := (e8_cmp x hx _ tb1).2.2.2
        unfold m_X10_secondTurn_b18
        simp (disch := omega) only [zz_0, zz_1, zz_2, zz_3, zz_4, zz_5, zz_6, zz_7, zz_8, zz_9, zz_10, zz_11, zz_12, zz_13, zz_14, zz_15, zz_16, zz_20, zz_24, zz_25, zz_26, zz_28, zz_31, zz_32, zz_36, zz_39, zz_40, zz_48, zz_49, zz_50, zz_57, zz_59, zz_60, zz_64, zz_72, zz_97, zz_99, zz_100, zz_122, zz_144, zz_161, zz_255, zz_256, zz_288, zz_322, zz_384, zz_400, zz_448, zz_600, zz_1280, zz_1000000, nI_add, n_mul, n_sub, fa_or, fa_and, fb_xorI, n_div, n_rem, n_le, n_lt, n_eq, n_shl1, n_shr, n_andn, n_ix, n_grd, n_gdz, n_gbz, n_hasM, n_hasC, b2_0, b2_1, n_m1, ob_s, bs_l, bs_r, n_max, n_min, n_grt, n_les, m7, show l + 1 - 1 = l from rfl, ev, mx]
        rw [if_neg (by omega)]
      · intro x hx
        unfold m_X10_secondTurn_b18
        simp (disch := omega) only [zz_0, zz_1, zz_2, zz_3, zz_4, zz_5, zz_6, zz_7, zz_8, zz_9, zz_10, zz_11, zz_12, zz_13, zz_14, zz_15, zz_16, zz_20, zz_24, zz_25, zz_26, zz_28, zz_31, zz_32, zz_36, zz_39, zz_40, zz_48, zz_49, zz_50, zz_57, zz_59, zz_60, zz_64, zz_72, zz_97, zz_99, zz_100, zz_122, zz_144, zz_161, zz_255, zz_256, zz_288, zz_322, zz_384, zz_400, zz_448, zz_600, zz_1280, zz_1000000, nI_add, n_mul, n_sub, fa_or, fa_and, fb_xorI, n_div, n_rem, n_le, n_lt, n_eq, n_shl1, n_shr, n_andn, n_ix, n_grd, n_gdz, n_gbz, n_hasM, n_hasC, b2_0, b2_1, n_m1, ob_s, bs_l, bs_r, n_max, n_min, n_grt, n_les]
        rw [if_pos (by omega)]
/-- dare as told: the gain, and what first -/
def drG (W : Cn) (a b n : Nat) : Nat := trn W a b n true (opn W 0 a) (opn W 0 b)
def drK (W : Cn) (a b n t : Nat) : Nat := trn W a b (n - 1) false (opn W 0 a) (opn W 0 b ||| (rch W a b &&& 2 ^ t))
def drF (W : Cn) (a b n : Nat) : Option Nat := if n = 0 then none else fst1 (fun t => decide (drK W a b n t = drG W a b n)) 9
theorem WD_wr {W : Cn} {a b : Nat} {S : Sk} {mm : Mm} (h : WD W a b S mm) {j : Nat} (hj : j < 2) (v : Int32) : WD W a b S (sI mm 38 j v) := by
  obtain ⟨V, r, m5, m6, m7, m8⟩ := h
  refine ⟨VC_wr V (by omega) _ _, r, ?_, ?_, ?_, ?_⟩
  · rw [rdI_nj _ _ _ _ (by omega)]; exact m5
  · rw [rdI_nj _ _ _ _ (by omega)]; exact m6
  · rw [rdI_nj _ _ _ _ (by omega)]; exact m7
  · rw [rdI_nj _ _ _ _ (by omega)]; exact m8
theorem C_play {W : Cn} {S : Sk} {mm : Mm} (h : VC W mm) (wf : WF W) (hc : symC (cl W)) (hL : Lay (sRs S 38 4 (some 14))) {a b n : Nat} (ha : a < 6) (hb : b < 6) (hn : n < 4) : ∃ m, m_X10_play S (nI a) (nI b) (nI n) mm = some (sRs S 38 4 (some 14), m) ∧ mI m 38 0 = e8 (drG W a b n) ∧ mI m 38 1 = enc1 (drF W a b n) ∧ agx [(38, none)] mm m := by
  have ob1 := opn_b wf 0 a
  have ob2 := opn_b wf 0 b
  have r1 := rch_b W a b
  have e1 := C_reachOf (VC_wr (VC_wr h (p := 38) (by omega) 5 (nI a)) (p := 38) (by omega) 6 (nI b)) wf hb ha
  have V2 := VC_wr (VC_wr (VC_wr h (p := 38) (by omega) 5 (nI a)) (p := 38) (by omega) 6 (nI b)) (p := 38) (by omega) 7 (nI (rch W b a))
  have e2 := C_reachOf V2 wf ha hb
  have V3 := VC_wr V2 (p := 38) (by omega) 8 (nI (rch W a b))
  have e3 := C_openTo V3 wf (st := 0) (by decide) ha
  have e4 := C_openTo V3 wf (st := 0) (by decide) hb
  have D3 : WD W a b (sRs S 38 4 (some 14)) (sI (sI (sI (sI mm 38 5 (nI a)) 38 6 (nI b)) 38 7 (nI (rch W b a))) 38 8 (nI (rch W a b))) := by
    refine ⟨V3, ?_, ?_, ?_, ?_, rdI_eq _ _ _ _⟩
    · rw [rdR, if_pos ⟨rfl, rfl⟩]
    · rw [rdI_nj _ _ _ _ (by decide), rdI_nj _ _ _ _ (by decide), rdI_nj _ _ _ _ (by decide), rdI_eq]
    · rw [rdI_nj _ _ _ _ (by decide), rdI_nj _ _ _ _ (by decide), rdI_eq]
    · rw [rdI_nj _ _ _ _ (by decide), rdI_eq]
  have A3 : agx [(38, none)] mm (sI (sI (sI (sI mm 38 5 (nI a)) 38 6 (nI b)) 38 7 (nI (rch W b a))) 38 8 (nI (rch W a b))) := agx_wr (agx_wr (agx_wr (agx_wr (agx_rf _) (by rfl)) (by rfl)) (by rfl)) (by rfl)
  have e5 := (C_turns D3 wf hc ha hb n 6 (by omega) (by omega) _ _ ob1 ob2).1
  generalize hm3 : sI (sI (sI (sI mm 38 5 (nI a)) 38 6 (nI b)) 38 7 (nI (rch W b a))) 38 8 (nI (rch W a b)) = m3 at *
  have gb := trn_b hc a b n true (opn W 0 a) (opn W 0 b)
  unfold m_X10_play
  rw [gP_pos hL, e1, ob_s, e2, ob_s, hm3]
  simp only [zz_0, zz_1, zz_2, zz_3, zz_4, zz_5, zz_6, zz_7, zz_8, zz_9, zz_10, zz_11, zz_12, zz_13, zz_14, zz_15, zz_16, zz_20, zz_24, zz_25, zz_26, zz_28, zz_31, zz_32, zz_36, zz_39, zz_40, zz_48, zz_49, zz_50, zz_57, zz_59, zz_60, zz_64, zz_72, zz_97, zz_99, zz_100, zz_122, zz_144, zz_161, zz_255, zz_256, zz_288, zz_322, zz_384, zz_400, zz_448, zz_600, zz_1280, zz_1000000]
  rw [e3, ob_s, e4, ob_s]
  rw [show m_X10_firstTurn (sRs S 38 4 (some 14)) 6 (nI n) (nI (opn W 0 a)) (nI (opn W 0 b)) m3 = _ from e5, ob_s]
  have D4 : WD W a b (sRs S 38 4 (some 14)) (sI (sI m3 38 0 (e8 (drG W a b n))) 38 1 m1) := WD_wr (WD_wr D3 (by decide) _) (by decide) _
  have A4 : agx [(38, none)] mm (sI (sI m3 38 0 (e8 (drG W a b n))) 38 1 m1) := agx_wr (agx_wr A3 (by rfl)) (by rfl)
  obtain ⟨q, eq, q0, q1, qa⟩ := loop_inv (body := m_X10_play_b73 (nI n) S (nI (opn W 0 a)) (nI (opn W 0 b))) (a := (nI 0, sI (sI m3 38 0 (e8 (drG W a b n))) 38 1 m1)) (fun i z => ∃ m, z = (nI i, m) ∧ WD W a b (sRs S 38 4 (some 14)) m ∧ agx [(38, none)] mm m ∧ mI m 38 0 = e8 (drG W a b n) ∧ mI m 38 1 = enc1 (if n = 0 then none else fst1 (fun t => decide (drK W a b n t = drG W a b n)) i)) (fun m => mI m 38 0 = e8 (drG W a b n) ∧ mI m 38 1 = enc1 (drF W a b n) ∧ agx [(38, none)] mm m) 9 (FU_big (by decide)) ⟨_, rfl, D4, A4, by rw [rdI_nj _ _ _ _ (by decide), rdI_eq], by rw [rdI_eq]; by_cases h0 : n = 0 <;> simp [h0, fst1] <;> rfl⟩ (by
    rintro i z hi ⟨m, rfl, D, A, g0, g1⟩
    unfold m_X10_play_b73
    simp (disch := omega) only [zz_0, zz_1, zz_2, zz_3, zz_4, zz_5, zz_6, zz_7, zz_8, zz_9, zz_10, zz_11, zz_12, zz_13, zz_14, zz_15, zz_16, zz_20, zz_24, zz_25, zz_26, zz_28, zz_31, zz_32, zz_36, zz_39, zz_40, zz_48, zz_49, zz_50, zz_57, zz_59, zz_60, zz_64, zz_72, zz_97, zz_99, zz_100, zz_122, zz_144, zz_161, zz_255, zz_256, zz_288, zz_322, zz_384, zz_400, zz_448, zz_600, zz_1280, zz_1000000, n_lt, n_le]
    rw [if_neg (by omega)]
    by_cases hn0 : n = 0
    · right
      rw [if_pos (by omega)]
      refine ⟨_, rfl, g0, ?_, A⟩
      rw [g1]
      unfold drF
      rw [if_pos hn0, if_pos hn0]
    · rw [if_neg (by omega)]
      rw [if_neg hn0] at g1
      cases hf : fst1 (fun t => decide (drK W a b n t = drG W a b n)) i with
      | some k =>
        right
        have h3 := fst1_some.mp hf
        rw [g1, hf, enc1_some, if_neg (show ¬ nI k = -nI 1 from (by rw [n_m1]; exact enc1_m1 (by omega)))]
        refine ⟨_, rfl, g0, ?_, A⟩
        rw [g1, hf]
        unfold drF
        rw [if_neg hn0, fst1_some.mpr ⟨by omega, h3.2⟩]
      | none =>
        left
        have pt : 2 ^ i < 2 ^ 9 := pow_le hi
        have ab : rch W a b &&& 2 ^ i < 2 ^ 8 := Nat.lt_of_le_of_lt Nat.and_le_left r1
        have xb : opn W 0 b ||| (rch W a b &&& 2 ^ i) < 2 ^ 8 := or_b ob2 ab
        have ev := (C_turns D wf hc ha hb (n - 1) 6 (by omega) (by omega) _ _ ob1 xb).2
        have tb1 := trn_b hc a b (n - 1) false (opn W 0 a) (opn W 0 b ||| (rch W a b &&& 2 ^ i))
        have mx := (e8_cmp _ tb1 _ gb).2.1
        have m8 := D.2.2.2.2.2
        rw [g1, hf, if_pos (show enc1 none = -nI 1 by rw [n_m1]; rfl)]
        simp (disch := omega) only [n_sub, m8, n_shl1, fa_and, fa_or]
        rw [show m_X10_secondTurn (sRs S 38 4 (some 14)) 6 (nI (n - 1)) (nI (opn W 0 a)) (nI (opn W 0 b ||| (rch W a b &&& 2 ^ i))) m = _ from ev, ob_s, g0]
        have mx' : (e8 (trn W a b (n - 1) false (opn W 0 a) (opn W 0 b ||| (rch W a b &&& 2 ^ i))) = e8 (drG W a b n)) ↔ drK W a b n i = drG W a b n := mx
        by_cases hk : drK W a b n i = drG W a b n
        · rw [if_pos (mx'.mpr hk), nI_add]
          refine ⟨_, rfl, _, rfl, WD_wr D (by decide) _, agx_wr A (by rfl), by rw [rdI_nj _ _ _ _ (by decide)]; exact g0, ?_⟩
          rw [rdI_eq, if_neg hn0, fst1, hf]
          simp only [hk, decide_true, if_true, enc1_some]
        · rw [if_neg (fun q => hk (mx'.mp q)), nI_add]
          refine ⟨_, rfl, _, rfl, D, A, g0, ?_⟩
          rw [g1, if_neg hn0, fst1, hf]
          simp only [hk, decide_false, Bool.false_eq_true, if_false]) (by
    rintro z ⟨m, rfl, D, A, g0, g1⟩
    unfold m_X10_play_b73
    simp (disch := omega) only [zz_0, zz_1, zz_2, zz_3, zz_4, zz_5, zz_6, zz_7, zz_8, zz_9, zz_10, zz_11, zz_12, zz_13, zz_14, zz_15, zz_16, zz_20, zz_24, zz_25, zz_26, zz_28, zz_31, zz_32, zz_36, zz_39, zz_40, zz_48, zz_49, zz_50, zz_57, zz_59, zz_60, zz_64, zz_72, zz_97, zz_99, zz_100, zz_122, zz_144, zz_161, zz_255, zz_256, zz_288, zz_322, zz_384, zz_400, zz_448, zz_600, zz_1280, zz_1000000, n_lt]
    rw [if_pos (by omega)]
    exact ⟨_, rfl, g0, g1, A⟩)
  rw [n_m1, show e8 (trn W a b n true (opn W 0 a) (opn W 0 b)) = e8 (drG W a b n) from rfl, eq, ob_s]
  exact ⟨q, rfl, q0, q1, qa⟩
