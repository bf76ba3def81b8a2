/-! L3: by how few visits all is kept -/
def nd (W : Cn) (p k : Nat) : Nat := hd W (th W k) - hrt W (sw W k) p
def upB (B : Nat → Nat) (a v : Nat) : Nat → Nat := fun x => if x = a then v else B x
/-- the visits behind an oath chosen for each thing -/
def bfin (W : Cn) (p T : Nat) (ch : Nat → Nat) (B : Nat → Nat) (n : Nat) : Nat → Nat := fo (fun t B => if T.testBit t then upB B (sw W (ch t)) (max (B (sw W (ch t))) (nd W p (ch t))) else B) B n
def cst (W : Cn) (p T : Nat) (ch : Nat → Nat) (B : Nat → Nat) : Nat := fb_sm (bfin W p T ch B 8) 6
def vld (W : Cn) (p T : Nat) (ch : Nat → Nat) : Prop := ∀ t, t < 8 → T.testBit t = true → ch t < oa W ∧ bd W (ch t) = p ∧ th W (ch t) = t
theorem bfin_low {W : Cn} {p T : Nat} {ch : Nat → Nat} {B : Nat → Nat} : ∀ n, (∀ t, t < n → T.testBit t = false) → bfin W p T ch B n = B
  | 0, _ => rfl
  | n + 1, h => by
    unfold bfin
    rw [fo, h n (by omega)]
    simp only [Bool.false_eq_true, if_false]
    exact bfin_low n (fun t ht => h t (by omega))
theorem bfin_cong {W : Cn} {p T : Nat} {ch ch' : Nat → Nat} {B : Nat → Nat} : ∀ n, (∀ t, t < n → T.testBit t = true → ch t = ch' t) → bfin W p T ch B n = bfin W p T ch' B n
  | 0, _ => rfl
  | n + 1, h => by
    have ih := bfin_cong (W := W) (p := p) (B := B) n (fun t ht => h t (by omega))
    unfold bfin at ih ⊢
    rw [fo, fo, ih]
    by_cases hb : T.testBit n = true
    · rw [if_pos hb, if_pos hb, h n (by omega) hb]
    · rw [if_neg hb, if_neg hb]
theorem bfin_first {W : Cn} {p T T' t0 : Nat} {ch : Nat → Nat} {B : Nat → Nat} (h0 : T.testBit t0 = true) (hl : ∀ t, t < t0 → T.testBit t = false) (hT : ∀ t, T'.testBit t = (T.testBit t && decide (t ≠ t0))) : ∀ d, bfin W p T ch B (t0 + 1 + d) = bfin W p T' ch (upB B (sw W (ch t0)) (max (B (sw W (ch t0))) (nd W p (ch t0)))) (t0 + 1 + d)
  | 0 => by
    have h1 : bfin W p T' ch (upB B (sw W (ch t0)) (max (B (sw W (ch t0))) (nd W p (ch t0)))) (t0 + 1 + 0) = _ := bfin_low (t0 + 1) (fun t ht => by
      rw [hT]
      by_cases e : t = t0
      · simp [e]
      · rw [hl t (by omega)]; rfl)
    rw [h1]
    have h2 : bfin W p T ch B t0 = B := bfin_low t0 hl
    unfold bfin at h2 ⊢
    rw [show t0 + 1 + 0 = t0 + 1 from rfl, fo, h2, if_pos h0]
  | d + 1 => by
    have ih := bfin_first (W := W) (p := p) (ch := ch) (B := B) h0 hl hT d
    unfold bfin at ih ⊢
    rw [show t0 + 1 + (d + 1) = (t0 + 1 + d) + 1 from rfl, fo, fo, ih, hT, show decide (t0 + 1 + d ≠ t0) = true from decide_eq_true (by omega), Bool.and_true]
theorem low0 : ∀ T, T < 256 → 0 < T → ∃ t0, t0 < 8 ∧ T.testBit t0 = true ∧ (∀ t, t < t0 → T.testBit t = false) ∧ (∀ t, t < 8 → (T &&& (T - 1)).testBit t = (T.testBit t && decide (t ≠ t0))) ∧ pc (T &&& (T - 1)) + 1 = pc T := by
  have key : ∀ T, T < 256 → 0 < T → (fst1 (fun t => T.testBit t) 8).isSome = true ∧ (∀ t, t < 8 → (T &&& (T - 1)).testBit t = (T.testBit t && decide (t ≠ (fst1 (fun t => T.testBit t) 8).getD 0))) ∧ pc (T &&& (T - 1)) + 1 = pc T := by decide +kernel
  intro T hT h0
  obtain ⟨h1, h2, h3⟩ := key T hT h0
  cases hf : fst1 (fun t => T.testBit t) 8 with
  | none => rw [hf] at h1; cases h1
  | some t0 =>
    rw [hf] at h2
    have h4 := fst1_some.mp hf
    exact ⟨t0, h4.1, h4.2.1, h4.2.2, h2, h3⟩
theorem cst_first {W : Cn} {p T t0 : Nat} {ch : Nat → Nat} {B : Nat → Nat} (ht : t0 < 8) (hT8 : T < 256) (h0 : T.testBit t0 = true) (hl : ∀ t, t < t0 → T.testBit t = false) (hT : ∀ t, t < 8 → (T &&& (T - 1)).testBit t = (T.testBit t && decide (t ≠ t0))) : cst W p T ch B = cst W p (T &&& (T - 1)) ch (upB B (sw W (ch t0)) (max (B (sw W (ch t0))) (nd W p (ch t0)))) := by
  unfold cst
  have h := bfin_first (W := W) (p := p) (ch := ch) (B := B) (T := T) (T' := T &&& (T - 1)) h0 hl (fun t => by
    by_cases h8 : t < 8
    · exact hT t h8
    · have hz : T.testBit t = false := Nat.testBit_lt_two_pow (Nat.lt_of_lt_of_le hT8 (Nat.pow_le_pow_right (n := 2) (i := 8) (by decide) (by omega)))
      rw [Nat.testBit_and, hz]; rfl) (8 - (t0 + 1))
  rw [show t0 + 1 + (8 - (t0 + 1)) = 8 by omega] at h
  rw [h]
theorem C_leastOf {T t0 : Nat} (hT : T < 256) (ht : t0 < 8) (h0 : T.testBit t0 = true) (hl : ∀ t, t < t0 → T.testBit t = false) : m_X1_leastOf (nI T) = some (nI t0) := by
  unfold m_X1_leastOf
  have hw := loop_fst (body := m_X1_leastOf_b2 (nI T)) (s0 := (0 : Int32)) (fun i => nI i) (fun t => T.testBit t) 8 (fun k => .inr (nI k)) (.inl ()) rfl (FU_big (by decide)) (by
    intro i hi hq
    unfold m_X1_leastOf_b2
    simp (disch := omega) only [zz_0, zz_1, zz_2, zz_3, zz_4, zz_5, zz_6, zz_7, zz_8, zz_9, zz_10, zz_11, zz_12, zz_13, zz_14, zz_15, zz_16, zz_20, zz_24, zz_25, zz_26, zz_28, zz_31, zz_32, zz_36, zz_39, zz_40, zz_48, zz_49, zz_50, zz_57, zz_59, zz_60, zz_64, zz_72, zz_97, zz_99, zz_100, zz_122, zz_144, zz_161, zz_255, zz_256, zz_288, zz_322, zz_384, zz_400, zz_448, zz_600, zz_1280, zz_1000000, nI_add, n_mul, n_sub, fa_or, fa_and, fb_xorI, n_div, n_rem, n_le, n_lt, n_eq, n_shl1, n_shr, n_andn, n_ix, n_grd, n_gdz, n_gbz, n_hasM, n_hasC, b2_0, b2_1, n_m1, ob_s, bs_l, bs_r, n_max, n_min, n_grt, n_les]
    rw [if_neg (by omega), if_pos hq]) (by
    intro i hi hq
    unfold m_X1_leastOf_b2
    simp (disch := omega) only [zz_0, zz_1, zz_2, zz_3, zz_4, zz_5, zz_6, zz_7, zz_8, zz_9, zz_10, zz_11, zz_12, zz_13, zz_14, zz_15, zz_16, zz_20, zz_24, zz_25, zz_26, zz_28, zz_31, zz_32, zz_36, zz_39, zz_40, zz_48, zz_49, zz_50, zz_57, zz_59, zz_60, zz_64, zz_72, zz_97, zz_99, zz_100, zz_122, zz_144, zz_161, zz_255, zz_256, zz_288, zz_322, zz_384, zz_400, zz_448, zz_600, zz_1280, zz_1000000, nI_add, n_mul, n_sub, fa_or, fa_and, fb_xorI, n_div, n_rem, n_le, n_lt, n_eq, n_shl1, n_shr, n_andn, n_ix, n_grd, n_gdz, n_gbz, n_hasM, n_hasC, b2_0, b2_1, n_m1, ob_s, bs_l, bs_r, n_max, n_min, n_grt, n_les]
    rw [if_neg (by omega), if_neg (by rw [hq]; decide)]) (by
    unfold m_X1_leastOf_b2
    simp (disch := omega) only [zz_0, zz_1, zz_2, zz_3, zz_4, zz_5, zz_6, zz_7, zz_8, zz_9, zz_10, zz_11, zz_12, zz_13, zz_14, zz_15, zz_16, zz_20, zz_24, zz_25, zz_26, zz_28, zz_31, zz_32, zz_36, zz_39, zz_40, zz_48, zz_49, zz_50, zz_57, zz_59, zz_60, zz_64, zz_72, zz_97, zz_99, zz_100, zz_122, zz_144, zz_161, zz_255, zz_256, zz_288, zz_322, zz_384, zz_400, zz_448, zz_600, zz_1280, zz_1000000, nI_add, n_mul, n_sub, fa_or, fa_and, fb_xorI, n_div, n_rem, n_le, n_lt, n_eq, n_shl1, n_shr, n_andn, n_ix, n_grd, n_gdz, n_gbz, n_hasM, n_hasC, b2_0, b2_1, n_m1, ob_s, bs_l, bs_r, n_max, n_min, n_grt, n_les]
    rw [if_pos (by omega)])
  rw [hw, fst1_some.mpr ⟨ht, h0, hl⟩]
  rfl
theorem sm_upB (B : Nat → Nat) {a : Nat} (v : Nat) (ha : a < 6) : fb_sm (upB B a v) 6 + B a = fb_sm B 6 + v := fb_sm_upd B v ha
theorem sm_part (B : Nat → Nat) {a : Nat} (ha : a < 6) : B a ≤ fb_sm B 6 := by
  have h1 := fb_sm_part B ha
  have h2 := fb_sm_mono B (a + 1) (6 - (a + 1))
  omega
theorem cmp2 : ∀ x, x < 10 → ∀ h, h < 10 → ∀ r, r < 21 → xmax (nI x) (nI h - nI r) = nI (max x (h - r)) := by decide +kernel
/-- how the class holds what it seeks -/
def VV (W : Cn) (B : Nat → Nat) (F : Nat) (mm : Mm) : Prop := VC W mm ∧ (∀ a, a < 6 → mI mm 33 a = nI (B a)) ∧ mI mm 32 1 = nI F
theorem C_visitFor {W : Cn} (wf : WF W) (wo : oa W ≤ 12) {p : Nat} (hp : p < 6) : ∀ f T, T < 256 → pc T < f → ∀ (B : Nat → Nat) (F : Nat) (mm : Mm), (∀ a, B a ≤ 9) → F ≤ 54 → VV W B F mm → ∃ m F', m_X1_visitFor f (nI p) (nI T) (nI (fb_sm B 6)) mm = some m ∧ VV W B F' m ∧ agx [(32, some 1), (33, none)] mm m ∧ F' ≤ F ∧ (F' = F ∨ ∃ ch, vld W p T ch ∧ cst W p T ch B = F') ∧ ∀ ch, vld W p T ch → F' ≤ cst W p T ch B
  | 0, T, _, h, B, F, mm, _, _, _ => absurd h (Nat.not_lt_zero _)
  | f + 1, T, hT, hpc, B, F, mm, hB, hF, hV => by
    have hS : fb_sm B 6 ≤ 6 * 9 := fb_sm_bound (fun k _ => hB k)
    show ∃ m F', m_X1_visitFor_s (m_X1_visitFor f) (nI p) (nI T) (nI (fb_sm B 6)) mm = some m ∧ _
    unfold m_X1_visitFor_s
    simp (disch := omega) only [zz_0, zz_1, zz_2, zz_3, zz_4, zz_5, zz_6, zz_7, zz_8, zz_9, zz_10, zz_11, zz_12, zz_13, zz_14, zz_15, zz_16, zz_20, zz_24, zz_25, zz_26, zz_28, zz_31, zz_32, zz_36, zz_39, zz_40, zz_48, zz_49, zz_50, zz_57, zz_59, zz_60, zz_64, zz_72, zz_97, zz_99, zz_100, zz_122, zz_144, zz_161, zz_255, zz_256, zz_288, zz_322, zz_384, zz_400, zz_448, zz_600, zz_1280, zz_1000000, n_eq]
    by_cases h0 : T = 0
    · rw [if_pos h0, hV.2.2, n_min (by omega) (by omega)]
      refine ⟨_, min F (fb_sm B 6), rfl, ⟨VC_wr hV.1 (by omega) _ _, fun a ha => by rw [rdI_ne _ _ _ _ (by decide)]; exact hV.2.1 a ha, rdI_eq _ _ _ _⟩, agx_wr (agx_rf _) (by rfl), by omega, ?_, fun ch _ => ?_⟩
      · by_cases hle : F ≤ fb_sm B 6
        · left; omega
        · right
          refine ⟨fun _ => 0, fun t _ hb => by rw [h0] at hb; simp at hb, ?_⟩
          unfold cst
          rw [bfin_low 8 (fun t _ => by rw [h0]; simp)]
          omega
      · unfold cst
        rw [bfin_low 8 (fun t _ => by rw [h0]; simp)]
        omega
    · obtain ⟨t0, ht0, hb0, hl, hT', hpc'⟩ := low0 T hT (by omega)
      rw [if_neg h0, C_leastOf hT ht0 hb0 hl, ob_s, o_id]
      have hT2 : T &&& (T - 1) < 256 := Nat.lt_of_le_of_lt Nat.and_le_left hT
      obtain ⟨q, eq, F', a1, a2, a3, a4, a5⟩ := loop_n (body := m_X1_visitFor_b27 (nI p) (nI T) (nI (fb_sm B 6)) (m_X1_visitFor f) (nI t0)) (a := (nI 0, mm)) (fun k z => ∃ m F', z = (nI k, m) ∧ VV W B F' m ∧ agx [(32, some 1), (33, none)] mm m ∧ F' ≤ F ∧ (F' = F ∨ ∃ ch, vld W p T ch ∧ cst W p T ch B = F') ∧ ∀ ch, vld W p T ch → ch t0 < k → F' ≤ cst W p T ch B) (fun m => ∃ F', VV W B F' m ∧ agx [(32, some 1), (33, none)] mm m ∧ F' ≤ F ∧ (F' = F ∨ ∃ ch, vld W p T ch ∧ cst W p T ch B = F') ∧ ∀ ch, vld W p T ch → F' ≤ cst W p T ch B) (oa W) (FU_big (by omega)) ⟨mm, F, rfl, hV, agx_rf _, Nat.le_refl _, Or.inl rfl, fun ch _ h => absurd h (Nat.not_lt_zero _)⟩ (by
        rintro k z hk ⟨m, F1, rfl, hV1, hA1, hle1, hex1, hall1⟩
        obtain ⟨V1, hB1, hF1⟩ := hV1
        have g1 := wf.2.2.2.2.2.2.2.2.1 k
        have g2 := wf.2.2.2.2.2.2.2.2.2.1 k
        have g3 := wf.2.2.2.2.2.2.2.2.2.2 k
        have g4 := wf.2.2.2.2.2.2.1 t0
        have g5 := hrt_le wf (sw W k) p
        have g6 := hB (sw W k)
        have c1 := V1.2.1
        have c20 := V1.2.2.2.2.2.2.2.2.1
        have c21 := V1.2.2.2.2.2.2.2.2.2.1
        have c22 := V1.2.2.2.2.2.2.2.2.2.2.1
        have c19 := V1.2.2.2.2.2.2.2.1
        have eh := C_heartOf V1 wf (a := sw W k) (b := p) g1 hp
        have mx := cmp2 (B (sw W k)) (by omega) (hd W t0) (by omega) (hrt W (sw W k) p) (by omega)
        unfold m_X1_visitFor_b27
        simp (disch := omega) only [zz_0, zz_1, zz_2, zz_3, zz_4, zz_5, zz_6, zz_7, zz_8, zz_9, zz_10, zz_11, zz_12, zz_13, zz_14, zz_15, zz_16, zz_20, zz_24, zz_25, zz_26, zz_28, zz_31, zz_32, zz_36, zz_39, zz_40, zz_48, zz_49, zz_50, zz_57, zz_59, zz_60, zz_64, zz_72, zz_97, zz_99, zz_100, zz_122, zz_144, zz_161, zz_255, zz_256, zz_288, zz_322, zz_384, zz_400, zz_448, zz_600, zz_1280, zz_1000000, c1, c20, c21, c22, c19, n_le, n_ix, n_grd, n_eq, eh, ob_s, hB1, mx, nI_add, n_sub, fa_and]
        rw [if_neg (by omega)]
        have skip : ¬ (bd W k = p ∧ th W k = t0) → ∀ ch, vld W p T ch → ch t0 < k + 1 → F1 ≤ cst W p T ch B := fun hn ch hv hlt => by
          by_cases e : ch t0 = k
          · have := hv t0 ht0 hb0
            rw [e] at this
            exact absurd this.2 hn
          · exact hall1 ch hv (by omega)
        by_cases k1 : bd W k = p
        · by_cases k2 : th W k = t0
          · have hnd : nd W p k = hd W t0 - hrt W (sw W k) p := by unfold nd; rw [k2]
            have hnd9 : nd W p k ≤ 9 := by rw [hnd]; omega
            rw [if_pos k1, if_pos k2, ← hnd]
            have hsum := sm_upB B (a := sw W k) (max (B (sw W k)) (nd W p k)) g1
            have hpt := sm_part B g1
            have harg : fb_sm B 6 + max (B (sw W k)) (nd W p k) - B (sw W k) = fb_sm (upB B (sw W k) (max (B (sw W k)) (nd W p k))) 6 := by omega
            rw [harg]
            have hB' : ∀ a, upB B (sw W k) (max (B (sw W k)) (nd W p k)) a ≤ 9 := fun a => by
              unfold upB
              split
              · omega
              · exact hB a
            have hV2 : VV W (upB B (sw W k) (max (B (sw W k)) (nd W p k))) F1 (sI m 33 (sw W k) (nI (max (B (sw W k)) (nd W p k)))) := ⟨VC_wr V1 (by omega) _ _, fun a ha => by
              rw [rdI_sm]
              unfold upB
              by_cases e : a = sw W k
              · rw [if_pos e, if_pos e]
              · rw [if_neg e, if_neg e]; exact hB1 a ha, by rw [rdI_ne _ _ _ _ (by decide)]; exact hF1⟩
            obtain ⟨m2, F2, e2, hV3, hA3, hle3, hex3, hall3⟩ := C_visitFor wf wo hp f (T &&& (T - 1)) hT2 (by omega) _ F1 _ hB' (by omega) hV2
            rw [e2, ob_s, ob_s]
            have cf : ∀ ch, ch t0 = k → cst W p T ch B = cst W p (T &&& (T - 1)) ch (upB B (sw W k) (max (B (sw W k)) (nd W p k))) := fun ch e => by
              rw [cst_first ht0 hT hb0 hl hT', e]
            have vl : ∀ ch, vld W p T ch → vld W p (T &&& (T - 1)) ch := fun ch hv t ht hb => by
              refine hv t ht ?_
              rw [hT' t ht] at hb
              simp only [Bool.and_eq_true] at hb
              exact hb.1
            refine ⟨_, rfl, _, F2, rfl, ⟨VC_wr hV3.1 (by omega) _ _, fun a ha => ?_, by rw [rdI_ne _ _ _ _ (by decide)]; exact hV3.2.2⟩, agx_wr (agx_tr (agx_wr hA1 (by rfl)) hA3) (by rfl), by omega, ?_, fun ch hv hlt => ?_⟩
            · rw [rdI_sm]
              by_cases e : a = sw W k
              · rw [if_pos e, e]
              · rw [if_neg e, hV3.2.1 a ha]
                unfold upB
                rw [if_neg e]
            · rcases hex3 with rfl | ⟨ch, hv, hcst⟩
              · exact hex1
              · right
                refine ⟨fun t => if t = t0 then k else ch t, fun t ht hb => ?_, ?_⟩
                · by_cases e : t = t0
                  · simp only [e, if_true]; exact ⟨hk, k1, k2⟩
                  · simp only [e, if_false]
                    refine hv t ht ?_
                    rw [hT' t ht, hb]
                    simpa using e
                · rw [cf _ (by simp)]
                  rw [← hcst]
                  unfold cst
                  rw [bfin_cong (ch' := ch) 8 (fun t ht hb => ?_)]
                  rw [hT' t ht] at hb
                  simp only [Bool.and_eq_true, decide_eq_true_eq] at hb
                  rw [if_neg hb.2]
            · by_cases e : ch t0 = k
              · rw [cf ch e]
                exact hall3 ch (vl ch hv)
              · have := hall1 ch hv (by omega)
                omega
          · rw [if_pos k1, if_neg k2, ob_s]
            exact ⟨_, rfl, m, F1, rfl, ⟨V1, hB1, hF1⟩, hA1, hle1, hex1, skip (fun q => k2 q.2)⟩
        · rw [if_neg k1, ob_s]
          exact ⟨_, rfl, m, F1, rfl, ⟨V1, hB1, hF1⟩, hA1, hle1, hex1, skip (fun q => k1 q.1)⟩) (by
        rintro z ⟨m, F1, rfl, hV1, hA1, hle1, hex1, hall1⟩
        have c1 := hV1.1.2.1
        unfold m_X1_visitFor_b27
        simp (disch := omega) only [zz_0, zz_1, zz_2, zz_3, zz_4, zz_5, zz_6, zz_7, zz_8, zz_9, zz_10, zz_11, zz_12, zz_13, zz_14, zz_15, zz_16, zz_20, zz_24, zz_25, zz_26, zz_28, zz_31, zz_32, zz_36, zz_39, zz_40, zz_48, zz_49, zz_50, zz_57, zz_59, zz_60, zz_64, zz_72, zz_97, zz_99, zz_100, zz_122, zz_144, zz_161, zz_255, zz_256, zz_288, zz_322, zz_384, zz_400, zz_448, zz_600, zz_1280, zz_1000000, nI_add, n_mul, n_sub, fa_or, fa_and, fb_xorI, n_div, n_rem, n_le, n_lt, n_eq, n_shl1, n_shr, n_andn, n_ix, n_grd, n_gdz, n_gbz, n_hasM, n_hasC, b2_0, b2_1, n_m1, ob_s, bs_l, bs_r, n_max, n_min, n_grt, n_les, c1]
        rw [if_pos (by omega)]
        exact ⟨_, rfl, F1, hV1, hA1, hle1, hex1, fun ch hv => hall1 ch hv (hv t0 ht0 hb0).1⟩)
      exact ⟨q, F', eq, a1, a2, a3, a4, a5⟩
