/-! L3: the fewest visits, both -/
def z0 : Nat → Nat := fun _ => 0
theorem z0_b (a : Nat) : z0 a ≤ 9 := Nat.zero_le 9
def minV (W : Cn) (p x : Nat) : Prop := (∃ ch, vld W p (swf W 0 p) ch ∧ cst W p (swf W 0 p) ch z0 = x) ∧ ∀ ch, vld W p (swf W 0 p) ch → x ≤ cst W p (swf W 0 p) ch z0
def fvR (W : Cn) (p : Nat) (r : Int32) : Prop := (¬ bst W (swf W 0 p) (rm W p) = swf W 0 p ∧ r = m1) ∨ (bst W (swf W 0 p) (rm W p) = swf W 0 p ∧ ∃ x, r = nI x ∧ minV W p x)
theorem fvR_one {W : Cn} {p : Nat} {r r' : Int32} (h : fvR W p r) (h' : fvR W p r') : r = r' := by
  rcases h with ⟨a, b⟩ | ⟨a, x, hx, ⟨ch, h1, h2⟩, h3⟩ <;> rcases h' with ⟨a', b'⟩ | ⟨a', x', hx', ⟨ch', h1', h2'⟩, h3'⟩
  · rw [b, b']
  · exact absurd a' a
  · exact absurd a a'
  · have k1 := h3 ch' h1'
    have k2 := h3' ch h1
    rw [hx, hx', show x = x' by omega]
theorem nd_b {W : Cn} (wf : WF W) (p k : Nat) : nd W p k ≤ 9 := by
  have := wf.2.2.2.2.2.2.1 (th W k)
  unfold nd
  omega
theorem bfin_b {W : Cn} (wf : WF W) {p T : Nat} {ch : Nat → Nat} {B : Nat → Nat} (hB : ∀ a, B a ≤ 9) (n : Nat) : ∀ a, bfin W p T ch B n a ≤ 9 := by
  refine fo_inv (n := n) (fun _ (B : Nat → Nat) => ∀ a, B a ≤ 9) hB (fun t B' _ h => ?_) n (Nat.le_refl _)
  intro a
  by_cases hb : T.testBit t = true
  · rw [if_pos hb]
    unfold upB
    have h1 := h (sw W (ch t))
    have h2 := nd_b wf p (ch t)
    split
    · omega
    · exact h a
  · rw [if_neg hb]; exact h a
theorem cst_b {W : Cn} (wf : WF W) {p T : Nat} {ch : Nat → Nat} {B : Nat → Nat} (hB : ∀ a, B a ≤ 9) : cst W p T ch B ≤ 54 := by
  unfold cst
  exact fb_sm_bound (n := 6) (c := 9) (fun k _ => bfin_b wf hB 8 k)
theorem vld_ex (W : Cn) (p : Nat) : ∃ ch, vld W p (swf W 0 p) ch := by
  have h : ∀ t, ∃ k, (swf W 0 p).testBit t = true → k < oa W ∧ bd W k = p ∧ th W k = t := fun t => by
    by_cases hb : (swf W 0 p).testBit t = true
    · obtain ⟨k, h1, h2, h3⟩ := (swf_bit W 0 p t).mp hb
      exact ⟨k, fun _ => ⟨h1, h2.1, h3⟩⟩
    · exact ⟨0, fun q => absurd q hb⟩
  exact ⟨fun t => Classical.choose (h t), fun t _ hb => Classical.choose_spec (h t) hb⟩
theorem C_fewestVisits {W : Cn} {mm : Mm} (h : VC W mm) (wf : WF W) (hc : symC (cl W)) {p : Nat} (hp : p < 6) : ∃ r m, m_X1_fewestVisits (nI p) mm = some (r, m) ∧ fvR W p r ∧ agx [(32, some 1), (33, none)] mm m := by
  have e1 := C_swornFor h wf hp
  have sb := swf_b wf 0 p
  have g4 := wf.2.2.2.1 p
  have g5 := h.2.2.2.2.1 p hp
  have e2 : m_X7_keptOf (nI (swf W 0 p)) (nI (rm W p)) mm = some (nI (bst W (swf W 0 p) (rm W p))) := C_keptOf h sb g4
  have kb := bst_b W hc (swf W 0 p) (rm W p)
  unfold m_X1_fewestVisits
  simp (disch := omega) only [zz_0, zz_1, zz_2, zz_3, zz_4, zz_5, zz_6, zz_7, zz_8, zz_9, zz_10, zz_11, zz_12, zz_13, zz_14, zz_15, zz_16, zz_20, zz_24, zz_25, zz_26, zz_28, zz_31, zz_32, zz_36, zz_39, zz_40, zz_48, zz_49, zz_50, zz_57, zz_59, zz_60, zz_64, zz_72, zz_97, zz_99, zz_100, zz_122, zz_144, zz_161, zz_255, zz_256, zz_288, zz_322, zz_384, zz_400, zz_448, zz_600, zz_1280, zz_1000000, e1, ob_s, n_grd, n_ix, g5, e2, n_eq, n_m1]
  by_cases k1 : bst W (swf W 0 p) (rm W p) = swf W 0 p
  · rw [if_pos k1]
    obtain ⟨m1', e3, V1, z1, A1⟩ := loop_n (body := m_X1_fewestVisits_b26) (a := (nI 0, mm)) (fun i z => ∃ m, z = (nI i, m) ∧ VC W m ∧ (∀ a, a < i → mI m 33 a = nI 0) ∧ agx [(32, some 1), (33, none)] mm m) (fun m => VC W m ∧ (∀ a, a < 6 → mI m 33 a = nI 0) ∧ agx [(32, some 1), (33, none)] mm m) 6 (FU_big (by decide)) ⟨mm, rfl, h, fun a ha => absurd ha (Nat.not_lt_zero a), agx_rf _⟩ (by
      rintro i z hi ⟨m, rfl, V, hz, A⟩
      unfold m_X1_fewestVisits_b26
      simp (disch := omega) only [zz_0, zz_1, zz_2, zz_3, zz_4, zz_5, zz_6, zz_7, zz_8, zz_9, zz_10, zz_11, zz_12, zz_13, zz_14, zz_15, zz_16, zz_20, zz_24, zz_25, zz_26, zz_28, zz_31, zz_32, zz_36, zz_39, zz_40, zz_48, zz_49, zz_50, zz_57, zz_59, zz_60, zz_64, zz_72, zz_97, zz_99, zz_100, zz_122, zz_144, zz_161, zz_255, zz_256, zz_288, zz_322, zz_384, zz_400, zz_448, zz_600, zz_1280, zz_1000000, nI_add, n_mul, n_sub, fa_or, fa_and, fb_xorI, n_div, n_rem, n_le, n_lt, n_eq, n_shl1, n_shr, n_andn, n_ix, n_grd, n_gdz, n_gbz, n_hasM, n_hasC, b2_0, b2_1, n_m1, ob_s, bs_l, bs_r, n_max, n_min, n_grt, n_les]
      rw [if_neg (by omega)]
      refine ⟨_, rfl, _, rfl, VC_wr V (by omega) _ _, fun a ha => ?_, agx_wr A (by rfl)⟩
      rw [rdI_sm]
      by_cases e : a = i
      · rw [if_pos e]
      · rw [if_neg e]; exact hz a (by omega)) (by
      rintro z ⟨m, rfl, V, hz, A⟩
      unfold m_X1_fewestVisits_b26
      simp (disch := omega) only [zz_0, zz_1, zz_2, zz_3, zz_4, zz_5, zz_6, zz_7, zz_8, zz_9, zz_10, zz_11, zz_12, zz_13, zz_14, zz_15, zz_16, zz_20, zz_24, zz_25, zz_26, zz_28, zz_31, zz_32, zz_36, zz_39, zz_40, zz_48, zz_49, zz_50, zz_57, zz_59, zz_60, zz_64, zz_72, zz_97, zz_99, zz_100, zz_122, zz_144, zz_161, zz_255, zz_256, zz_288, zz_322, zz_384, zz_400, zz_448, zz_600, zz_1280, zz_1000000, nI_add, n_mul, n_sub, fa_or, fa_and, fb_xorI, n_div, n_rem, n_le, n_lt, n_eq, n_shl1, n_shr, n_andn, n_ix, n_grd, n_gdz, n_gbz, n_hasM, n_hasC, b2_0, b2_1, n_m1, ob_s, bs_l, bs_r, n_max, n_min, n_grt, n_les]
      rw [if_pos (by omega)]
      exact ⟨_, rfl, V, hz, A⟩)
    rw [e3, ob_s]
    obtain ⟨m2, F', e4, V2, A2, hle, hex, hall⟩ := C_visitFor wf h.2.2.1 hp 12 (swf W 0 p) sb (by have := pc_le8 sb; omega) z0 54 (sI m1' 32 1 (nI 54)) z0_b (by decide) ⟨VC_wr V1 (by omega) _ _, fun a ha => by rw [rdI_ne _ _ _ _ (by decide)]; exact z1 a ha, rdI_eq _ _ _ _⟩
    rw [show (54 : Int32) = nI 54 from rfl, show (nI 0 : Int32) = nI (fb_sm z0 6) from rfl, e4, ob_s, V2.2.2]
    refine ⟨_, m2, rfl, Or.inr ⟨k1, F', rfl, ?_, hall⟩, agx_tr (agx_wr A1 (by rfl)) A2⟩
    rcases hex with h9 | h9
    · obtain ⟨ch, hv⟩ := vld_ex W p
      have h1 := hall ch hv
      have h2 : cst W p (swf W 0 p) ch z0 ≤ 54 := cst_b wf z0_b
      exact ⟨ch, hv, by omega⟩
    · exact h9
  · rw [if_neg k1]
    exact ⟨_, mm, rfl, Or.inl ⟨k1, rfl⟩, agx_rf _⟩
theorem sub_eq {x T : Nat} (hT : T < 4096) (h : subS x T) (hp : pc T ≤ pc x) : x = T := by
  apply Nat.eq_of_testBit_eq
  intro i
  cases hx : x.testBit i with
  | true => rw [h i hx]
  | false =>
    cases ht : T.testBit i with
    | false => rfl
    | true =>
      exfalso
      have hi : i < 12 := by
        apply Classical.byContradiction
        intro hn
        rw [Nat.testBit_lt_two_pow (Nat.lt_of_lt_of_le hT (Nat.pow_le_pow_right (n := 2) (i := 12) (by decide) (by omega)))] at ht
        cases ht
      have h1 : pc (x ||| 2 ^ i) = pc x + 1 := pc_set hi hx
      have h2 : subS (x ||| 2 ^ i) T := fun j hj => by
        rw [fb_bit_set, Bool.or_eq_true, decide_eq_true_eq] at hj
        rcases hj with hj | rfl
        · exact h j hj
        · exact ht
      have h3 := pc_sub h2
      omega
theorem bst_self {W : Cn} (wf : WF W) (hc : symC (cl W)) {T r : Nat} (hT : T < 256) : bst W T r = T ↔ pc T ≤ r ∧ pea W T = true := by
  have ok := bst_ok hc T r
  constructor
  · intro h
    rw [h] at ok
    exact ⟨ok.2.2, (pea_iff wf hT).mpr ok.2.1⟩
  · rintro ⟨h1, h2⟩
    have okT : okS (cl W) T r T := ⟨fun i hi => hi, (pea_iff wf hT).mp h2, h1⟩
    have hb := (kp_best hc 8 (by decide) T r).2.2 T hT okT
    refine sub_eq (by omega) ok.1 ?_
    unfold bst
    omega
def rk (T t : Nat) : Nat := fb_ct T.testBit t
def chN (T number t : Nat) : Nat := number / 12 ^ rk T t % 12
theorem rk_mono (T : Nat) {a b : Nat} (h : a ≤ b) : rk T a ≤ rk T b := fb_ct_mono _ h
theorem num_ex (T : Nat) (ch : Nat → Nat) (hc : ∀ t, T.testBit t = true → ch t < 12) : ∀ n, ∃ number, number < 12 ^ rk T n ∧ ∀ t, t < n → T.testBit t = true → chN T number t = ch t
  | 0 => ⟨0, Nat.pow_pos (by decide), fun t ht => absurd ht (Nat.not_lt_zero t)⟩
  | n + 1 => by
    obtain ⟨x, h1, h2⟩ := num_ex T ch hc n
    by_cases hb : T.testBit n = true
    · have hr : rk T (n + 1) = rk T n + 1 := by unfold rk; rw [fb_ct_succ, if_pos hb]
      have hcn := hc n hb
      have hp := Nat.pow_pos (a := 12) (n := rk T n) (by decide)
      refine ⟨x + ch n * 12 ^ rk T n, ?_, fun t ht hbt => ?_⟩
      · rw [hr, Nat.pow_succ]
        have : ch n * 12 ^ rk T n ≤ 11 * 12 ^ rk T n := Nat.mul_le_mul (by omega) (Nat.le_refl _)
        omega
      · by_cases e : t = n
        · subst e
          unfold chN
          rw [Nat.add_mul_div_right _ _ hp, Nat.div_eq_of_lt h1, Nat.zero_add, Nat.mod_eq_of_lt hcn]
        · rw [← h2 t (by omega) hbt]
          unfold chN
          have hr2 : rk T t + 1 ≤ rk T n := by
            have h3 := rk_mono T (show t + 1 ≤ n by omega)
            have h4 : rk T (t + 1) = rk T t + 1 := by unfold rk; rw [fb_ct_succ, if_pos hbt]
            omega
          obtain ⟨d, hd⟩ : ∃ d, rk T n = d + 1 + rk T t := ⟨rk T n - rk T t - 1, by omega⟩
          have hp2 := Nat.pow_pos (a := 12) (n := rk T t) (by decide)
          rw [hd, Nat.pow_add, ← Nat.mul_assoc, Nat.add_mul_div_right _ _ hp2, Nat.pow_succ, ← Nat.mul_assoc, Nat.add_mul_mod_self_right]
    · refine ⟨x, ?_, fun t ht hbt => ?_⟩
      · have hr : rk T (n + 1) = rk T n := by unfold rk; rw [fb_ct_succ, if_neg hb]; rfl
        rw [hr]; exact h1
      · by_cases e : t = n
        · rw [e] at hbt; exact absurd hbt hb
        · exact h2 t (by omega) hbt
theorem cmp3 : ∀ h, h < 10 → ∀ r, r < 21 → m_X12_greater (nI 0) (nI h - nI r) = nI (h - r) := by decide +kernel
theorem M_needOf {W : Cn} {st c : Nat} {mm : Mm} (h : VM W st c mm) (wf : WF W) {p k : Nat} (hk : k < oa W) (hb : bd W k = p) : m_X12_needOf (nI k) mm = some (nI (nd W p k)) := by
  have g1 := wf.2.2.2.2.2.2.2.2.1 k
  have g2 := wf.2.2.2.2.2.2.2.2.2.1 k
  have g3 := wf.2.2.2.2.2.2.2.2.2.2 k
  have g4 := wf.2.2.2.2.2.2.1 (th W k)
  have g5 := hrt_le wf (sw W k) (bd W k)
  have g6 := wf.2.1
  have hof := M_of h (a := 20 + th W k) (by omega)
  have hh := M_heartOf h wf (a := sw W k) (b := bd W k) g1 g2
  have v60 := h.2.2.2.2.2.2.2.2.1 k hk
  have v61 := h.2.2.2.2.2.2.2.2.2.1 k hk
  have v62 := h.2.2.2.2.2.2.2.2.2.2.1 k hk
  have v20 := h.2.2.2.2.2.2.2.2.2.2.2.1 (th W k) g3
  unfold m_X12_needOf
  simp (disch := omega) only [zz_0, zz_1, zz_2, zz_3, zz_4, zz_5, zz_6, zz_7, zz_8, zz_9, zz_10, zz_11, zz_12, zz_13, zz_14, zz_15, zz_16, zz_20, zz_24, zz_25, zz_26, zz_28, zz_31, zz_32, zz_36, zz_39, zz_40, zz_48, zz_49, zz_50, zz_57, zz_59, zz_60, zz_64, zz_72, zz_97, zz_99, zz_100, zz_122, zz_144, zz_161, zz_255, zz_256, zz_288, zz_322, zz_384, zz_400, zz_448, zz_600, zz_1280, zz_1000000, n_grd, n_ix, v60, v61, v62, nI_add, hof, v20, ob_s, hh]
  rw [cmp3 _ (by omega) _ (by omega)]
  unfold nd
  rw [hb]
theorem M_visitsBy {W : Cn} {c : Nat} {mm : Mm} (h : VM W 0 c mm) (wf : WF W) (wo : oa W ≤ 12) {p T number : Nat} (hp : p < 6) (hT : T < 256) (hn : number < 100000) : ∃ m r, m_X12_visitsBy (nI number) (nI p) (nI T) mm = some (r, m) ∧ VM W 0 c m ∧ ((r = m1 ∧ ¬ vld W p T (chN T number)) ∨ (vld W p T (chN T number) ∧ r = nI (cst W p T (chN T number) z0))) := by
  unfold m_X12_visitsBy
  simp only [zz_0, zz_1, zz_2, zz_3, zz_4, zz_5, zz_6, zz_7, zz_8, zz_9, zz_10, zz_11, zz_12, zz_13, zz_14, zz_15, zz_16, zz_20, zz_24, zz_25, zz_26, zz_28, zz_31, zz_32, zz_36, zz_39, zz_40, zz_48, zz_49, zz_50, zz_57, zz_59, zz_60, zz_64, zz_72, zz_97, zz_99, zz_100, zz_122, zz_144, zz_161, zz_255, zz_256, zz_288, zz_322, zz_384, zz_400, zz_448, zz_600, zz_1280, zz_1000000]
  obtain ⟨m1', e1, V1, z1⟩ := loop_n (body := m_X12_visitsBy_b3) (a := (nI 0, mm)) (fun i z => ∃ m, z = (nI i, m) ∧ VM W 0 c m ∧ (∀ a, a < i → mI m 64 a = nI 0)) (fun m => VM W 0 c m ∧ (∀ a, a < 6 → mI m 64 a = nI 0)) 6 (FU_big (by decide)) ⟨mm, rfl, h, fun a ha => absurd ha (Nat.not_lt_zero a)⟩ (by
    rintro i z hi ⟨m, rfl, V, hz⟩
    unfold m_X12_visitsBy_b3
    simp (disch := omega) only [zz_0, zz_1, zz_2, zz_3, zz_4, zz_5, zz_6, zz_7, zz_8, zz_9, zz_10, zz_11, zz_12, zz_13, zz_14, zz_15, zz_16, zz_20, zz_24, zz_25, zz_26, zz_28, zz_31, zz_32, zz_36, zz_39, zz_40, zz_48, zz_49, zz_50, zz_57, zz_59, zz_60, zz_64, zz_72, zz_97, zz_99, zz_100, zz_122, zz_144, zz_161, zz_255, zz_256, zz_288, zz_322, zz_384, zz_400, zz_448, zz_600, zz_1280, zz_1000000, nI_add, n_mul, n_sub, fa_or, fa_and, fb_xorI, n_div, n_rem, n_le, n_lt, n_eq, n_shl1, n_shr, n_andn, n_ix, n_grd, n_gdz, n_gbz, n_hasM, n_hasC, b2_0, b2_1, n_m1, ob_s, bs_l, bs_r, n_max, n_min, n_grt, n_les]
    rw [if_neg (by omega)]
    refine ⟨_, rfl, _, rfl, VM_wr V (by omega) _ _, fun a ha => ?_⟩
    rw [rdI_sm]
    by_cases e : a = i
    · rw [if_pos e]
    · rw [if_neg e]; exact hz a (by omega)) (by
    rintro z ⟨m, rfl, V, hz⟩
    unfold m_X12_visitsBy_b3
    simp (disch := omega) only [zz_0, zz_1, zz_2, zz_3, zz_4, zz_5, zz_6, zz_7, zz_8, zz_9, zz_10, zz_11, zz_12, zz_13, zz_14, zz_15, zz_16, zz_20, zz_24, zz_25, zz_26, zz_28, zz_31, zz_32, zz_36, zz_39, zz_40, zz_48, zz_49, zz_50, zz_57, zz_59, zz_60, zz_64, zz_72, zz_97, zz_99, zz_100, zz_122, zz_144, zz_161, zz_255, zz_256, zz_288, zz_322, zz_384, zz_400, zz_448, zz_600, zz_1280, zz_1000000, nI_add, n_mul, n_sub, fa_or, fa_and, fb_xorI, n_div, n_rem, n_le, n_lt, n_eq, n_shl1, n_shr, n_andn, n_ix, n_grd, n_gdz, n_gbz, n_hasM, n_hasC, b2_0, b2_1, n_m1, ob_s, bs_l, bs_r, n_max, n_min, n_grt, n_les]
    rw [if_pos (by omega)]
    exact ⟨_, rfl, V, hz⟩)
  rw [e1, ob_s]
  have hB9 : ∀ t a, bfin W p T (chN T number) z0 t a ≤ 9 := fun t => bfin_b wf z0_b t
  obtain ⟨q, e2, hq⟩ := loop_inv (body := m_X12_visitsBy_b30 (nI p) (nI T)) (a := (nI number, nI 0, m1')) (fun t z => ∃ m, z = (nI (number / 12 ^ rk T t), nI t, m) ∧ VM W 0 c m ∧ (∀ a, a < 6 → mI m 64 a = nI (bfin W p T (chN T number) z0 t a)) ∧ ∀ t', t' < t → T.testBit t' = true → chN T number t' < oa W ∧ bd W (chN T number t') = p ∧ th W (chN T number t') = t') (fun q => (∃ m, q = .inl m ∧ VM W 0 c m ∧ (∀ a, a < 6 → mI m 64 a = nI (bfin W p T (chN T number) z0 8 a)) ∧ vld W p T (chN T number)) ∨ (∃ m, q = .inr (m1, m) ∧ VM W 0 c m ∧ ¬ vld W p T (chN T number))) 8 (FU_big (by decide)) ⟨m1', by rw [show rk T 0 = 0 from rfl, Nat.pow_zero, Nat.div_one], V1, z1, fun t' ht => absurd ht (Nat.not_lt_zero t')⟩ (by
    rintro t z ht ⟨m, rfl, V, hB, hv⟩
    have hle : number / 12 ^ rk T t ≤ number := Nat.div_le_self _ _
    have v25 := V.2.2.1
    have v60 := V.2.2.2.2.2.2.2.2.1
    have v61 := V.2.2.2.2.2.2.2.2.2.1
    have v62 := V.2.2.2.2.2.2.2.2.2.2.1
    have bs : bfin W p T (chN T number) z0 (t + 1) = if T.testBit t then upB (bfin W p T (chN T number) z0 t) (sw W (chN T number t)) (max (bfin W p T (chN T number) z0 t (sw W (chN T number t))) (nd W p (chN T number t))) else bfin W p T (chN T number) z0 t := rfl
    have rs : rk T (t + 1) = rk T t + if T.testBit t then 1 else 0 := rfl
    unfold m_X12_visitsBy_b30
    simp (disch := omega) only [zz_0, zz_1, zz_2, zz_3, zz_4, zz_5, zz_6, zz_7, zz_8, zz_9, zz_10, zz_11, zz_12, zz_13, zz_14, zz_15, zz_16, zz_20, zz_24, zz_25, zz_26, zz_28, zz_31, zz_32, zz_36, zz_39, zz_40, zz_48, zz_49, zz_50, zz_57, zz_59, zz_60, zz_64, zz_72, zz_97, zz_99, zz_100, zz_122, zz_144, zz_161, zz_255, zz_256, zz_288, zz_322, zz_384, zz_400, zz_448, zz_600, zz_1280, zz_1000000, n_le, n_hasM, b2_0, n_rem, n_div, v25, n_m1]
    rw [if_neg (by omega)]
    cases hb : T.testBit t with
    | false =>
      rw [hb] at bs rs
      simp only [if_true, bs_l]
      left
      refine ⟨_, rfl, m, ?_, V, fun a ha => ?_, fun t' ht' hbt => ?_⟩
      · rw [nI_add, rs]; rfl
      · rw [bs]; exact hB a ha
      · by_cases e : t' = t
        · rw [e, hb] at hbt; cases hbt
        · exact hv t' (by omega) hbt
    | true =>
      rw [hb] at bs rs
      have hk : number / 12 ^ rk T t % 12 = chN T number t := rfl
      have hk12 : chN T number t < 12 := Nat.mod_lt _ (by decide)
      rw [hk]
      have nov : ¬ (chN T number t < oa W ∧ bd W (chN T number t) = p ∧ th W (chN T number t) = t) → ¬ vld W p T (chN T number) := fun hn hv => hn (hv t ht hb)
      simp only [Bool.true_eq_false, if_false]
      by_cases k0 : oa W ≤ chN T number t
      · rw [if_pos k0, bs_r]
        right
        exact ⟨_, rfl, Or.inr ⟨m, rfl, V, nov (fun q => by omega)⟩⟩
      · have g1 := wf.2.2.2.2.2.2.2.2.1 (chN T number t)
        have g2 := wf.2.2.2.2.2.2.2.2.2.1 (chN T number t)
        have g3 := wf.2.2.2.2.2.2.2.2.2.2 (chN T number t)
        rw [if_neg k0]
        simp (disch := omega) only [n_grd, n_ix, v61, v62, v60, n_eq]
        by_cases k1 : bd W (chN T number t) = p
        · rw [if_pos k1]
          by_cases k2 : th W (chN T number t) = t
          · have en := M_needOf V wf (p := p) (k := chN T number t) (by omega) k1
            have gb := hB9 t (sw W (chN T number t))
            have gn := nd_b wf p (chN T number t)
            rw [if_pos k2, en, ob_s, hB _ g1, n_grt (by omega) (by omega), bs_l]
            left
            refine ⟨_, rfl, sI m 64 (sw W (chN T number t)) (nI (max (bfin W p T (chN T number) z0 t (sw W (chN T number t))) (nd W p (chN T number t)))), ?_, VM_wr V (p := 64) (by omega) _ _, fun a ha => ?_, fun t' ht' hbt => ?_⟩
            · rw [nI_add, rs, if_pos rfl, Nat.pow_succ, Nat.div_div_eq_div_mul]
            · rw [bs, if_pos rfl, rdI_sm]
              unfold upB
              by_cases e : a = sw W (chN T number t)
              · rw [if_pos e, if_pos e]
              · rw [if_neg e, if_neg e]; exact hB a ha
            · by_cases e : t' = t
              · rw [e]; exact ⟨by omega, k1, k2⟩
              · exact hv t' (by omega) hbt
          · rw [if_neg k2, bs_r]
            right
            exact ⟨_, rfl, Or.inr ⟨m, rfl, V, nov (fun q => k2 q.2.2)⟩⟩
        · rw [if_neg k1, bs_r]
          right
          exact ⟨_, rfl, Or.inr ⟨m, rfl, V, nov (fun q => k1 q.2.1)⟩⟩) (by
    rintro z ⟨m, rfl, V, hB, hv⟩
    unfold m_X12_visitsBy_b30
    simp (disch := omega) only [zz_0, zz_1, zz_2, zz_3, zz_4, zz_5, zz_6, zz_7, zz_8, zz_9, zz_10, zz_11, zz_12, zz_13, zz_14, zz_15, zz_16, zz_20, zz_24, zz_25, zz_26, zz_28, zz_31, zz_32, zz_36, zz_39, zz_40, zz_48, zz_49, zz_50, zz_57, zz_59, zz_60, zz_64, zz_72, zz_97, zz_99, zz_100, zz_122, zz_144, zz_161, zz_255, zz_256, zz_288, zz_322, zz_384, zz_400, zz_448, zz_600, zz_1280, zz_1000000, n_le]
    rw [if_pos (by omega)]
    exact ⟨_, rfl, Or.inl ⟨m, rfl, V, hB, hv⟩⟩)
  rw [e2]
  rcases hq with ⟨m, rfl, V, hB, hv⟩ | ⟨m, rfl, V, hv⟩
  · rw [bs_l]
    have e3 : whileF FU (m_X12_visitsBy_b139 m) (nI 0, nI 0) = some (nI (cst W p T (chN T number) z0)) := by
      refine (loop_fo (fun (x : Nat) i => (nI x, nI i)) (fun i x => x + bfin W p T (chN T number) z0 8 i) 0 6 (fun x => nI x) (fun i x => True) rfl (FU_big (by decide)) trivial (fun _ _ _ _ => trivial) ?_ ?_).trans (by rw [fo_sm]; rfl)
      · intro i x hi hx
        have g := hB i hi
        unfold m_X12_visitsBy_b139
        simp (disch := omega) only [zz_0, zz_1, zz_2, zz_3, zz_4, zz_5, zz_6, zz_7, zz_8, zz_9, zz_10, zz_11, zz_12, zz_13, zz_14, zz_15, zz_16, zz_20, zz_24, zz_25, zz_26, zz_28, zz_31, zz_32, zz_36, zz_39, zz_40, zz_48, zz_49, zz_50, zz_57, zz_59, zz_60, zz_64, zz_72, zz_97, zz_99, zz_100, zz_122, zz_144, zz_161, zz_255, zz_256, zz_288, zz_322, zz_384, zz_400, zz_448, zz_600, zz_1280, zz_1000000, nI_add, n_mul, n_sub, fa_or, fa_and, fb_xorI, n_div, n_rem, n_le, n_lt, n_eq, n_shl1, n_shr, n_andn, n_ix, n_grd, n_gdz, n_gbz, n_hasM, n_hasC, b2_0, b2_1, n_m1, ob_s, bs_l, bs_r, n_max, n_min, n_grt, n_les, g]
        rw [if_neg (by omega)]
      · intro x hx
        unfold m_X12_visitsBy_b139
        simp (disch := omega) only [zz_0, zz_1, zz_2, zz_3, zz_4, zz_5, zz_6, zz_7, zz_8, zz_9, zz_10, zz_11, zz_12, zz_13, zz_14, zz_15, zz_16, zz_20, zz_24, zz_25, zz_26, zz_28, zz_31, zz_32, zz_36, zz_39, zz_40, zz_48, zz_49, zz_50, zz_57, zz_59, zz_60, zz_64, zz_72, zz_97, zz_99, zz_100, zz_122, zz_144, zz_161, zz_255, zz_256, zz_288, zz_322, zz_384, zz_400, zz_448, zz_600, zz_1280, zz_1000000, nI_add, n_mul, n_sub, fa_or, fa_and, fb_xorI, n_div, n_rem, n_le, n_lt, n_eq, n_shl1, n_shr, n_andn, n_ix, n_grd, n_gdz, n_gbz, n_hasM, n_hasC, b2_0, b2_1, n_m1, ob_s, bs_l, bs_r, n_max, n_min, n_grt, n_les]
        rw [if_pos (by omega)]
    rw [e3, ob_s]
    exact ⟨m, _, rfl, V, Or.inr ⟨hv, rfl⟩⟩
  · rw [bs_r]
    exact ⟨m, _, rfl, V, Or.inl ⟨rfl, hv⟩⟩
theorem M_fewestVisits {W : Cn} {c : Nat} {mm : Mm} (h : VM W 0 c mm) (wf : WF W) (hc : symC (cl W)) (wo : oa W ≤ 12) {p : Nat} (hp : p < 6) : ∃ r m, m_X12_fewestVisits (nI p) mm = some (r, m) ∧ fvR W p r := by
  have e1 := M_swornFor h wf (by decide) hp
  have sb := swf_b wf 0 p
  have g4 := wf.2.2.2.1 p
  have g5 := h.2.2.2.2.2.1 p hp
  have e2 := M_isPeace h wf (s := swf W 0 p) (by omega)
  have pb := pc_le (swf W 0 p)
  have eo := ones_eq (s := swf W 0 p) (by omega)
  have hs := bst_self wf hc (r := rm W p) sb
  unfold m_X12_fewestVisits
  rw [e1, ob_s, eo, ob_s]
  simp (disch := omega) only [zz_0, zz_1, zz_2, zz_3, zz_4, zz_5, zz_6, zz_7, zz_8, zz_9, zz_10, zz_11, zz_12, zz_13, zz_14, zz_15, zz_16, zz_20, zz_24, zz_25, zz_26, zz_28, zz_31, zz_32, zz_36, zz_39, zz_40, zz_48, zz_49, zz_50, zz_57, zz_59, zz_60, zz_64, zz_72, zz_97, zz_99, zz_100, zz_122, zz_144, zz_161, zz_255, zz_256, zz_288, zz_322, zz_384, zz_400, zz_448, zz_600, zz_1280, zz_1000000, n_grd, n_ix, g5, n_lt, n_m1]
  by_cases k1 : rm W p < pc (swf W 0 p)
  · rw [if_pos k1]
    exact ⟨_, mm, rfl, Or.inl ⟨fun q => by have := (hs.mp q).1; omega, rfl⟩⟩
  · rw [if_neg k1, e2, ob_s]
    simp only [b2_0]
    cases k2 : pea W (swf W 0 p) with
    | false =>
      rw [if_pos rfl]
      exact ⟨_, mm, rfl, Or.inl ⟨fun q => by have := (hs.mp q).2; rw [k2] at this; exact absurd this (by decide), rfl⟩⟩
    | true =>
      have hk : bst W (swf W 0 p) (rm W p) = swf W 0 p := hs.mpr ⟨by omega, k2⟩
      rw [if_neg (by decide)]
      have p4 : 12 ^ pc (swf W 0 p) ≤ 20736 := Nat.pow_le_pow_right (n := 12) (j := 4) (by decide) (by omega)
      have key : ∀ n, fo (fun _ y => y * 12) 1 n = 12 ^ n := by
        intro n
        induction n with
        | zero => rfl
        | succ n ih => rw [fo, ih, Nat.pow_succ]
      have e3 : whileF FU (m_X12_fewestVisits_b34 (nI (swf W 0 p))) (nI 1, nI 0) = some (nI (12 ^ pc (swf W 0 p))) := by
        refine (loop_fo (fun (y : Nat) i => (nI y, nI i)) (fun _ y => y * 12) 1 (pc (swf W 0 p)) (fun x => nI x) (fun i x => True) rfl (FU_big (by omega)) trivial (fun _ _ _ _ => trivial) ?_ ?_).trans (by rw [key])
        · intro i y hi hy
          unfold m_X12_fewestVisits_b34
          rw [eo, ob_s]
          simp (disch := omega) only [zz_0, zz_1, zz_2, zz_3, zz_4, zz_5, zz_6, zz_7, zz_8, zz_9, zz_10, zz_11, zz_12, zz_13, zz_14, zz_15, zz_16, zz_20, zz_24, zz_25, zz_26, zz_28, zz_31, zz_32, zz_36, zz_39, zz_40, zz_48, zz_49, zz_50, zz_57, zz_59, zz_60, zz_64, zz_72, zz_97, zz_99, zz_100, zz_122, zz_144, zz_161, zz_255, zz_256, zz_288, zz_322, zz_384, zz_400, zz_448, zz_600, zz_1280, zz_1000000, nI_add, n_mul, n_sub, fa_or, fa_and, fb_xorI, n_div, n_rem, n_le, n_lt, n_eq, n_shl1, n_shr, n_andn, n_ix, n_grd, n_gdz, n_gbz, n_hasM, n_hasC, b2_0, b2_1, n_m1, ob_s, bs_l, bs_r, n_max, n_min, n_grt, n_les]
          rw [if_neg (by omega)]
        · intro y hy
          unfold m_X12_fewestVisits_b34
          rw [eo, ob_s]
          simp (disch := omega) only [zz_0, zz_1, zz_2, zz_3, zz_4, zz_5, zz_6, zz_7, zz_8, zz_9, zz_10, zz_11, zz_12, zz_13, zz_14, zz_15, zz_16, zz_20, zz_24, zz_25, zz_26, zz_28, zz_31, zz_32, zz_36, zz_39, zz_40, zz_48, zz_49, zz_50, zz_57, zz_59, zz_60, zz_64, zz_72, zz_97, zz_99, zz_100, zz_122, zz_144, zz_161, zz_255, zz_256, zz_288, zz_322, zz_384, zz_400, zz_448, zz_600, zz_1280, zz_1000000, nI_add, n_mul, n_sub, fa_or, fa_and, fb_xorI, n_div, n_rem, n_le, n_lt, n_eq, n_shl1, n_shr, n_andn, n_ix, n_grd, n_gdz, n_gbz, n_hasM, n_hasC, b2_0, b2_1, n_m1, ob_s, bs_l, bs_r, n_max, n_min, n_grt, n_les]
          rw [if_pos (by omega)]
      rw [e3, ob_s]
      obtain ⟨q, e4, x, hq, hx⟩ := loop_n (body := m_X12_fewestVisits_b62 (nI p) (nI (swf W 0 p)) (nI (12 ^ pc (swf W 0 p)))) (a := (nI 1000000, nI 0, mm)) (fun i z => ∃ L m, z = (nI L, nI i, m) ∧ VM W 0 c m ∧ L ≤ 1000000 ∧ (L = 1000000 ∨ ∃ ch, vld W p (swf W 0 p) ch ∧ cst W p (swf W 0 p) ch z0 = L) ∧ ∀ j, j < i → vld W p (swf W 0 p) (chN (swf W 0 p) j) → L ≤ cst W p (swf W 0 p) (chN (swf W 0 p) j) z0) (fun q => ∃ x, q.1 = nI x ∧ minV W p x) (12 ^ pc (swf W 0 p)) (FU_big (by omega)) ⟨1000000, mm, rfl, h, Nat.le_refl _, Or.inl rfl, fun j hj => absurd hj (Nat.not_lt_zero j)⟩ (by
        rintro i z hi ⟨L, m, rfl, V, hL, hex, hall⟩
        obtain ⟨m', r, e, V', hr⟩ := M_visitsBy V wf wo hp sb (number := i) (by omega)
        unfold m_X12_fewestVisits_b62
        simp (disch := omega) only [zz_0, zz_1, zz_2, zz_3, zz_4, zz_5, zz_6, zz_7, zz_8, zz_9, zz_10, zz_11, zz_12, zz_13, zz_14, zz_15, zz_16, zz_20, zz_24, zz_25, zz_26, zz_28, zz_31, zz_32, zz_36, zz_39, zz_40, zz_48, zz_49, zz_50, zz_57, zz_59, zz_60, zz_64, zz_72, zz_97, zz_99, zz_100, zz_122, zz_144, zz_161, zz_255, zz_256, zz_288, zz_322, zz_384, zz_400, zz_448, zz_600, zz_1280, zz_1000000, n_le, e, ob_s, nI_add, n_m1]
        rw [if_neg (by omega)]
        rcases hr with ⟨rfl, hnv⟩ | ⟨hv, rfl⟩
        · rw [if_pos rfl]
          refine ⟨_, rfl, L, m', rfl, V', hL, hex, fun j hj hv => ?_⟩
          by_cases e : j = i
          · rw [e] at hv; exact absurd hv hnv
          · exact hall j (by omega) hv
        · have cb : cst W p (swf W 0 p) (chN (swf W 0 p) i) z0 ≤ 54 := cst_b wf z0_b
          rw [if_neg (enc1_m1 (by omega)), n_les (by omega) (by omega)]
          refine ⟨_, rfl, _, m', rfl, V', by omega, ?_, fun j hj hv' => ?_⟩
          · by_cases hle : L ≤ cst W p (swf W 0 p) (chN (swf W 0 p) i) z0
            · rw [Nat.min_eq_left hle]; exact hex
            · right
              exact ⟨_, hv, by omega⟩
          · by_cases e : j = i
            · rw [e]; omega
            · have := hall j (by omega) hv'
              omega) (by
        rintro z ⟨L, m, rfl, V, hL, hex, hall⟩
        unfold m_X12_fewestVisits_b62
        simp (disch := omega) only [zz_0, zz_1, zz_2, zz_3, zz_4, zz_5, zz_6, zz_7, zz_8, zz_9, zz_10, zz_11, zz_12, zz_13, zz_14, zz_15, zz_16, zz_20, zz_24, zz_25, zz_26, zz_28, zz_31, zz_32, zz_36, zz_39, zz_40, zz_48, zz_49, zz_50, zz_57, zz_59, zz_60, zz_64, zz_72, zz_97, zz_99, zz_100, zz_122, zz_144, zz_161, zz_255, zz_256, zz_288, zz_322, zz_384, zz_400, zz_448, zz_600, zz_1280, zz_1000000, n_le]
        rw [if_pos (by omega)]
        refine ⟨_, rfl, L, rfl, ?_⟩
        have hr8 : rk (swf W 0 p) 8 = pc (swf W 0 p) := by
          unfold rk pc
          exact (ct_same (m := 8) (n := 12) (by decide) (fun i h1 h2 => Nat.testBit_lt_two_pow (Nat.lt_of_lt_of_le sb (Nat.pow_le_pow_right (n := 2) (i := 8) (by decide) h1)))).symm
        have hall2 : ∀ ch, vld W p (swf W 0 p) ch → L ≤ cst W p (swf W 0 p) ch z0 := by
          intro ch hv
          have hb8 : ∀ t, (swf W 0 p).testBit t = true → t < 8 := fun t hb => by
            apply Classical.byContradiction
            intro hn
            rw [Nat.testBit_lt_two_pow (Nat.lt_of_lt_of_le sb (Nat.pow_le_pow_right (n := 2) (i := 8) (by decide) (by omega)))] at hb
            cases hb
          obtain ⟨num, h1, h2⟩ := num_ex (swf W 0 p) ch (fun t hb => by have := (hv t (hb8 t hb) hb).1; omega) 8
          rw [hr8] at h1
          have h3 : vld W p (swf W 0 p) (chN (swf W 0 p) num) := fun t ht hb => by
            rw [h2 t ht hb]; exact hv t ht hb
          have h4 := hall num h1 h3
          have h5 : cst W p (swf W 0 p) (chN (swf W 0 p) num) z0 = cst W p (swf W 0 p) ch z0 := by
            unfold cst
            rw [bfin_cong (ch' := ch) 8 h2]
          omega
        refine ⟨?_, hall2⟩
        rcases hex with h9 | h9
        · obtain ⟨ch, hv⟩ := vld_ex W p
          have h1 := hall2 ch hv
          have h2 : cst W p (swf W 0 p) ch z0 ≤ 54 := cst_b wf z0_b
          omega
        · exact h9)
      rw [e4, ob_s, hq]
      exact ⟨_, q.2, rfl, Or.inr ⟨hk, x, rfl, hx⟩⟩
