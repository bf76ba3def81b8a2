/-! L3: what will and room one had, by what was kept -/
theorem C_cell {n a : Nat} {S : Sk} {mm : Mm} (h1 : mI mm a 1 = nI n) (h2 : (sK S (a + 1)).2 = 4 * n) (hn : n < 1000) {j c : Nat} (hj : j < n) (hc : c < 4) : m_X6_cell S a (nI j) (nI c) mm = some (mI mm (a + 1) (j * 4 + c)) := by
  unfold m_X6_cell
  simp (disch := omega) only [zz_0, zz_1, zz_2, zz_3, zz_4, zz_5, zz_6, zz_7, zz_8, zz_9, zz_10, zz_11, zz_12, zz_13, zz_14, zz_15, zz_16, zz_20, zz_24, zz_25, zz_26, zz_28, zz_31, zz_32, zz_36, zz_39, zz_40, zz_48, zz_49, zz_50, zz_57, zz_59, zz_60, zz_64, zz_72, zz_97, zz_99, zz_100, zz_122, zz_144, zz_161, zz_255, zz_256, zz_288, zz_322, zz_384, zz_400, zz_448, zz_600, zz_1280, zz_1000000, nI_add, n_mul, n_sub, fa_or, fa_and, fb_xorI, n_div, n_rem, n_le, n_lt, n_eq, n_shl1, n_shr, n_andn, n_ix, n_grd, n_gdz, n_gbz, n_hasM, n_hasC, b2_0, b2_1, n_m1, ob_s, bs_l, bs_r, n_max, n_min, n_grt, n_les, h1, h2]
  rw [if_neg (by omega), if_neg (by omega), if_neg (by omega), if_pos (by omega)]
/-- the facts as the class and as the reference hold them -/
def VF (n : Nat) (kd wh tg : Nat → Nat) (a : Nat) (S : Sk) (mm : Mm) : Prop := KD S a 6 ∧ (sK S (a + 1)).2 = 4 * n ∧ mI mm a 1 = nI n ∧ (∀ j, j < n → mI mm (a + 1) (j * 4) = nI (kd j)) ∧ (∀ j, j < n → mI mm (a + 1) (j * 4 + 1) = nI (wh j)) ∧ (∀ j, j < n → mI mm (a + 1) (j * 4 + 2) = nI (tg j))
def VG (n : Nat) (kd wh tg : Nat → Nat) (x : Nat) (mm : Mm) : Prop := x < 2 ∧ mI mm 44 46 = nI x ∧ mI mm 53 (25 * x) = nI n ∧ (∀ k, k < n → mI mm 53 (25 * x + 1 + 3 * k) = nI (kd k)) ∧ (∀ k, k < n → mI mm 53 (25 * x + 1 + 3 * k + 1) = nI (wh k)) ∧ (∀ k, k < n → mI mm 53 (25 * x + 1 + 3 * k + 2) = nI (tg k))
theorem C_cells {n : Nat} {kd wh tg : Nat → Nat} {a : Nat} {S : Sk} {mm : Mm} (h : VF n kd wh tg a S mm) (hn : n ≤ 8) {j : Nat} (hj : j < n) : m_X6_cell S a (nI j) (nI 0) mm = some (nI (kd j)) ∧ m_X6_cell S a (nI j) (nI 1) mm = some (nI (wh j)) ∧ m_X6_cell S a (nI j) (nI 2) mm = some (nI (tg j)) := by
  obtain ⟨h1, h2, h3, h4, h5, h6⟩ := h
  refine ⟨?_, ?_, ?_⟩
  · rw [C_cell h3 h2 (by omega) hj (by decide)]; exact congrArg some (h4 j hj)
  · rw [C_cell h3 h2 (by omega) hj (by decide), h5 j hj]
  · rw [C_cell h3 h2 (by omega) hj (by decide), h6 j hj]
def badO (W : Cn) (kd wh tg : Nat → Nat) (p k : Nat) : Bool := !decide (wh k < fk W) || (decide (wh k ≠ p) && ((kby W 0 (wh k)).testBit (tg k) != decide (kd k = 1)))
def othB (W : Cn) (n : Nat) (kd wh tg : Nat → Nat) (p : Nat) : Bool := !(fst1 (badO W kd wh tg p) n).isSome
theorem eqb {a b : Bool} : (b2 a = (if b then nI 1 else nI 0)) ↔ a = b := by cases a <;> cases b <;> decide
theorem C_othersAreSo {W : Cn} {mm : Mm} (h : VC W mm) (wf : WF W) (hc : symC (cl W)) {n : Nat} {kd wh tg : Nat → Nat} {a : Nat} {S : Sk} (hF : VF n kd wh tg a S mm) (hn : n ≤ 8) (k2 : ∀ j, kd j < 2) (w6 : ∀ j, wh j < 6) (t8 : ∀ j, tg j < 8) {p : Nat} (hp : p < 6) : m_X4_othersAreSo S a (nI p) mm = some (b2 (othB W n kd wh tg p)) := by
  have hf := wf.1
  have g1 := hF.2.2.1
  unfold m_X4_othersAreSo
  have hbody : ∀ i, i < n → m_X4_othersAreSo_b2 a (nI p) mm S (nI i) = some (if badO W kd wh tg p i then .inr (.inr (nI 0)) else .inl (nI (i + 1))) := by
    intro i hi
    obtain ⟨e0, e1, e2⟩ := C_cells hF hn hi
    have q2 := k2 i
    have q6 := w6 i
    have q8 := t8 i
    have kb := kby_b hc 0 (wh i)
    unfold m_X4_othersAreSo_b2 badO
    simp (disch := omega) only [zz_0, zz_1, zz_2, zz_3, zz_4, zz_5, zz_6, zz_7, zz_8, zz_9, zz_10, zz_11, zz_12, zz_13, zz_14, zz_15, zz_16, zz_20, zz_24, zz_25, zz_26, zz_28, zz_31, zz_32, zz_36, zz_39, zz_40, zz_48, zz_49, zz_50, zz_57, zz_59, zz_60, zz_64, zz_72, zz_97, zz_99, zz_100, zz_122, zz_144, zz_161, zz_255, zz_256, zz_288, zz_322, zz_384, zz_400, zz_448, zz_600, zz_1280, zz_1000000, g1, n_le, e0, e1, e2, ob_s]
    rw [if_neg (by omega)]
    by_cases hlt : wh i < fk W
    · rw [C_isThere_yes h wf hlt, if_neg (by decide), C_keptBy h wf q6, ob_s, decide_eq_true hlt]
      simp (disch := omega) only [n_eq, n_hasC, nI_add]
      by_cases hwp : wh i = p
      · rw [if_pos hwp, bs_l, decide_eq_false (fun q => q hwp)]
        rfl
      · rw [if_neg hwp, decide_eq_true hwp]
        rw [show (if kd i = 1 then nI 1 else nI 0) = if decide (kd i = 1) then nI 1 else nI 0 by by_cases hk : kd i = 1 <;> simp [hk]]
        simp only [eqb]
        cases (kby W 0 (wh i)).testBit (tg i) <;> cases decide (kd i = 1) <;> rfl
    · rw [C_isThere_no h (a := nI (wh i)) (Or.inr (by rw [n_le (by omega) (by omega)]; omega)), if_pos (by decide), decide_eq_false hlt]
      rfl
  have hw := loop_fst (body := m_X4_othersAreSo_b2 a (nI p) mm S) (s0 := (0 : Int32)) (fun i => nI i) (badO W kd wh tg p) n (fun _ => .inr (nI 0)) (.inl ()) rfl (FU_big (by omega)) (by
    intro i hi hq
    rw [hbody i hi, hq]; rfl) (by
    intro i hi hq
    rw [hbody i hi, hq]; rfl) (by
    unfold m_X4_othersAreSo_b2
    simp (disch := omega) only [zz_0, zz_1, zz_2, zz_3, zz_4, zz_5, zz_6, zz_7, zz_8, zz_9, zz_10, zz_11, zz_12, zz_13, zz_14, zz_15, zz_16, zz_20, zz_24, zz_25, zz_26, zz_28, zz_31, zz_32, zz_36, zz_39, zz_40, zz_48, zz_49, zz_50, zz_57, zz_59, zz_60, zz_64, zz_72, zz_97, zz_99, zz_100, zz_122, zz_144, zz_161, zz_255, zz_256, zz_288, zz_322, zz_384, zz_400, zz_448, zz_600, zz_1280, zz_1000000, g1, n_le]
    rw [if_pos (by omega)])
  rw [hw]
  unfold othB
  cases fst1 (badO W kd wh tg p) n <;> rfl
def mst (n : Nat) (kd wh tg : Nat → Nat) (p kind : Nat) : Nat := fo (fun k s => s ||| if kd k = kind ∧ wh k = p then 2 ^ tg k else 0) 0 n
theorem mst_b {n : Nat} {kd wh tg : Nat → Nat} (t8 : ∀ j, tg j < 8) (p kind : Nat) : mst n kd wh tg p kind < 256 := by
  refine fo_inv (n := n) (fun _ x => x < 2 ^ 8) (show 0 < 2 ^ 8 by decide) (fun i x hi hx => or_b hx ?_) _ (Nat.le_refl _)
  exact ite_b (t8 i)
theorem mst_bit (n : Nat) (kd wh tg : Nat → Nat) (p kind i : Nat) : (mst n kd wh tg p kind).testBit i = true ↔ ∃ k, k < n ∧ (kd k = kind ∧ wh k = p) ∧ tg k = i := by
  unfold mst
  rw [fo_or_bit (fun k => if kd k = kind ∧ wh k = p then 2 ^ tg k else 0)]
  simp only [ite_bit]
theorem C_thingsTold {n : Nat} {kd wh tg : Nat → Nat} {a : Nat} {S : Sk} {mm : Mm} (hF : VF n kd wh tg a S mm) (hn : n ≤ 8) (k2 : ∀ j, kd j < 2) (w6 : ∀ j, wh j < 6) (t8 : ∀ j, tg j < 8) {p kind : Nat} (hp : p < 6) (hk : kind < 2) : m_X4_thingsTold S a (nI p) (nI kind) mm = some (nI (mst n kd wh tg p kind)) := by
  have g1 := hF.2.2.1
  unfold m_X4_thingsTold
  rw [o_id]
  refine loop_fo (fun (x : Nat) i => (nI x, nI i)) _ 0 n (fun x => nI x) (fun i x => True) rfl (FU_big (by omega)) trivial (fun _ _ _ _ => trivial) ?_ ?_
  · intro i x hi hx
    obtain ⟨e0, e1, e2⟩ := C_cells hF hn hi
    have q2 := k2 i
    have q6 := w6 i
    have q8 := t8 i
    unfold m_X4_thingsTold_b5
    simp (disch := omega) only [zz_0, zz_1, zz_2, zz_3, zz_4, zz_5, zz_6, zz_7, zz_8, zz_9, zz_10, zz_11, zz_12, zz_13, zz_14, zz_15, zz_16, zz_20, zz_24, zz_25, zz_26, zz_28, zz_31, zz_32, zz_36, zz_39, zz_40, zz_48, zz_49, zz_50, zz_57, zz_59, zz_60, zz_64, zz_72, zz_97, zz_99, zz_100, zz_122, zz_144, zz_161, zz_255, zz_256, zz_288, zz_322, zz_384, zz_400, zz_448, zz_600, zz_1280, zz_1000000, nI_add, n_mul, n_sub, fa_or, fa_and, fb_xorI, n_div, n_rem, n_le, n_lt, n_eq, n_shl1, n_shr, n_andn, n_ix, n_grd, n_gdz, n_gbz, n_hasM, n_hasC, b2_0, b2_1, n_m1, ob_s, bs_l, bs_r, n_max, n_min, n_grt, n_les, g1, e0, e1, e2]
    rw [if_neg (by omega)]
    by_cases h1 : kd i = kind <;> by_cases h2 : wh i = p <;> simp [h1, h2]
  · intro x hx
    unfold m_X4_thingsTold_b5
    simp (disch := omega) only [zz_0, zz_1, zz_2, zz_3, zz_4, zz_5, zz_6, zz_7, zz_8, zz_9, zz_10, zz_11, zz_12, zz_13, zz_14, zz_15, zz_16, zz_20, zz_24, zz_25, zz_26, zz_28, zz_31, zz_32, zz_36, zz_39, zz_40, zz_48, zz_49, zz_50, zz_57, zz_59, zz_60, zz_64, zz_72, zz_97, zz_99, zz_100, zz_122, zz_144, zz_161, zz_255, zz_256, zz_288, zz_322, zz_384, zz_400, zz_448, zz_600, zz_1280, zz_1000000, g1, n_le]
    rw [if_pos (by omega)]
/-- what one keeps by will and room told as a number by fives -/
def kpv (W : Cn) (p x : Nat) : Nat := bst W (opn (upW W 1 p (x / 5)) 0 p) (x % 5)
def fitF (W : Cn) (n : Nat) (kd wh tg : Nat → Nat) (p x : Nat) : Bool := othB W n kd wh tg p && (decide (ndf (mst n kd wh tg p 1) (kpv W p x) = 0) && decide (mst n kd wh tg p 0 &&& kpv W p x = 0))
/-- the fits as the class holds them -/
def VH (F : Nat → Bool) (kv : Nat → Nat) (i : Nat) (mm : Mm) : Prop := mI mm 40 0 = nI (fb_ct F i) ∧ ∀ x, x < i → F x = true → mI mm 41 (fb_ct F x) = nI (x / 5) ∧ mI mm 42 (fb_ct F x) = nI (x % 5) ∧ mI mm 43 (fb_ct F x) = nI (kv x)
theorem C_add {F : Nat → Bool} {kv : Nat → Nat} {i : Nat} {mm : Mm} (h : VH F kv i mm) (hi : i < 50) (hF : F i = true) : ∃ m, m_X4_add (nI (i / 5)) (nI (i % 5)) (nI (kv i)) mm = some m ∧ VH F kv (i + 1) m ∧ (∀ p j, p < 40 → mI m p j = mI mm p j) := by
  obtain ⟨h0, h1⟩ := h
  have cl := fb_ct_le F i
  unfold m_X4_add
  rw [h0]
  simp (disch := omega) only [zz_0, zz_1, zz_2, zz_3, zz_4, zz_5, zz_6, zz_7, zz_8, zz_9, zz_10, zz_11, zz_12, zz_13, zz_14, zz_15, zz_16, zz_20, zz_24, zz_25, zz_26, zz_28, zz_31, zz_32, zz_36, zz_39, zz_40, zz_48, zz_49, zz_50, zz_57, zz_59, zz_60, zz_64, zz_72, zz_97, zz_99, zz_100, zz_122, zz_144, zz_161, zz_255, zz_256, zz_288, zz_322, zz_384, zz_400, zz_448, zz_600, zz_1280, zz_1000000, n_le, n_grd, n_ix, rdI_ne, h0, nI_add]
  rw [if_neg (by omega)]
  refine ⟨_, rfl, ⟨?_, fun x hx hFx => ?_⟩, fun p j hp => ?_⟩
  · rw [rdI_eq, fb_ct_succ, hF]; rfl
  · simp (disch := omega) only [rdI_ne, rdI_sm]
    by_cases e : x = i
    · rw [e]; simp
    · have hlt : fb_ct F x < fb_ct F i := by
        have h2 := fb_ct_mono F (show x + 1 ≤ i by omega)
        rw [fb_ct_succ, hFx] at h2
        simp only [if_true] at h2
        omega
      rw [if_neg (by omega), if_neg (by omega), if_neg (by omega)]
      exact h1 x (by omega) hFx
  · simp (disch := omega) only [rdI_ne]
theorem VH_skip {F : Nat → Bool} {kv : Nat → Nat} {i : Nat} {mm : Mm} (h : VH F kv i mm) (hF : F i = false) : VH F kv (i + 1) mm := by
  refine ⟨?_, fun x hx hFx => h.2 x ?_ hFx⟩
  · rw [h.1, fb_ct_succ, hF]; rfl
  · by_cases e : x = i
    · rw [e, hF] at hFx; cases hFx
    · omega
theorem VF_lo {n : Nat} {kd wh tg : Nat → Nat} {a : Nat} {S : Sk} {mm m : Mm} (h : VF n kd wh tg a S mm) (e : ∀ p j, 71 ≤ p → mI m p j = mI mm p j) (ha : 71 ≤ a) : VF n kd wh tg a S m := by
  obtain ⟨h1, h2, h3, h4, h5, h6⟩ := h
  exact ⟨h1, h2, by rw [e _ _ ha]; exact h3, fun j hj => by rw [e _ _ (by omega)]; exact h4 j hj, fun j hj => by rw [e _ _ (by omega)]; exact h5 j hj, fun j hj => by rw [e _ _ (by omega)]; exact h6 j hj⟩
theorem upW_id (W : Cn) (p : Nat) : upW W 1 p (wl W p) = W := by
  funext b j
  unfold upW
  by_cases h : b = 1 ∧ j = p
  · rw [if_pos h, h.1, h.2]
  · rw [if_neg h]
theorem C_learn4 {W : Cn} {mm : Mm} (h : VC W mm) (wf : WF W) (hc : symC (cl W)) {n : Nat} {kd wh tg : Nat → Nat} {a : Nat} {S : Sk} (hF : VF n kd wh tg a S mm) (ha : 71 ≤ a) (hn : n ≤ 8) (k2 : ∀ j, kd j < 2) (w6 : ∀ j, wh j < 6) (t8 : ∀ j, tg j < 8) {p : Nat} (hp : p < 6) : ∃ m, m_X4_learn S a (nI p) mm = some m ∧ VH (fitF W n kd wh tg p) (kpv W p) 50 m := by
  have V0 : VC W (sI mm 40 0 (nI 0)) := VC_wr h (by omega) _ _
  have F0 : VF n kd wh tg a S (sI mm 40 0 (nI 0)) := VF_lo hF (fun p j hp => rdI_ne _ _ _ _ (by omega)) ha
  have e1 := C_othersAreSo V0 wf hc F0 hn k2 w6 t8 hp
  have e2 := C_thingsTold F0 hn k2 w6 t8 hp (kind := 1) (by decide)
  have e3 := C_thingsTold F0 hn k2 w6 t8 hp (kind := 0) (by decide)
  have b1 := mst_b (n := n) (kd := kd) (wh := wh) t8 p 1
  have b0 := mst_b (n := n) (kd := kd) (wh := wh) t8 p 0
  have z0' : VH (fitF W n kd wh tg p) (kpv W p) 0 (sI mm 40 0 (nI 0)) := ⟨rdI_eq _ _ _ _, fun x hx => absurd hx (Nat.not_lt_zero x)⟩
  unfold m_X4_learn
  simp only [zz_0, zz_1, zz_2, zz_3, zz_4, zz_5, zz_6, zz_7, zz_8, zz_9, zz_10, zz_11, zz_12, zz_13, zz_14, zz_15, zz_16, zz_20, zz_24, zz_25, zz_26, zz_28, zz_31, zz_32, zz_36, zz_39, zz_40, zz_48, zz_49, zz_50, zz_57, zz_59, zz_60, zz_64, zz_72, zz_97, zz_99, zz_100, zz_122, zz_144, zz_161, zz_255, zz_256, zz_288, zz_322, zz_384, zz_400, zz_448, zz_600, zz_1280, zz_1000000]
  rw [e1, ob_s]
  simp only [b2_0]
  cases ho : othB W n kd wh tg p with
  | false =>
    rw [if_pos rfl]
    refine ⟨_, rfl, ?_⟩
    have hz : ∀ x, fitF W n kd wh tg p x = false := fun x => by unfold fitF; rw [ho]; rfl
    have : ∀ i, VH (fitF W n kd wh tg p) (kpv W p) i (sI mm 40 0 (nI 0)) := fun i => by
      induction i with
      | zero => exact z0'
      | succ i ih => exact VH_skip ih (hz i)
    exact this 50
  | true =>
    rw [if_neg (by decide), e2, ob_s, e3, ob_s, o_id]
    have hfx : ∀ x, fitF W n kd wh tg p x = (decide (ndf (mst n kd wh tg p 1) (kpv W p x) = 0) && decide (mst n kd wh tg p 0 &&& kpv W p x = 0)) := fun x => by unfold fitF; rw [ho]; rfl
    refine loop_n (body := m_X4_learn_b34 (nI p) (nI (mst n kd wh tg p 1)) (nI (mst n kd wh tg p 0))) (a := (nI 0, sI mm 40 0 (nI 0))) (fun v z => ∃ m v0, z = (nI v, m) ∧ VC (upW W 1 p v0) m ∧ VH (fitF W n kd wh tg p) (kpv W p) (5 * v) m) (fun m => VH (fitF W n kd wh tg p) (kpv W p) 50 m) 10 (FU_big (by decide)) ⟨_, wl W p, rfl, by
      rw [upW_id]
      exact V0, z0'⟩ ?_ ?_
    · rintro v z hv ⟨m, v0, rfl, V, hH⟩
      have V1 : VC (upW W 1 p v) (sI m 15 p (nI v)) := by
        have := VC_will V p v
        rwa [upW_tw] at this
      have wf1 := WF_will wf (p := p) (v := v) (by omega)
      have eo := C_openTo V1 wf1 (st := 0) (by decide) hp
      have ob := opn_b wf1 0 p
      have H1 : VH (fitF W n kd wh tg p) (kpv W p) (5 * v) (sI m 15 p (nI v)) := by
        refine ⟨by rw [rdI_ne _ _ _ _ (by decide)]; exact hH.1, fun x hx hFx => ?_⟩
        simp (disch := omega) only [rdI_ne]
        exact hH.2 x hx hFx
      obtain ⟨m2, e5, V2, H2⟩ := loop_n (body := m_X4_learn_b60 (nI (mst n kd wh tg p 1)) (nI (mst n kd wh tg p 0)) (nI v, m) (nI (opn (upW W 1 p v) 0 p))) (a := (nI 0, sI m 15 p (nI v))) (fun r z => ∃ m', z = (nI r, m') ∧ VC (upW W 1 p v) m' ∧ VH (fitF W n kd wh tg p) (kpv W p) (5 * v + r) m') (fun m' => VC (upW W 1 p v) m' ∧ VH (fitF W n kd wh tg p) (kpv W p) (5 * (v + 1)) m') 5 (FU_big (by decide)) ⟨_, rfl, V1, H1⟩ (by
        rintro r z hr ⟨m', rfl, V', H'⟩
        have i1 : (5 * v + r) / 5 = v := by omega
        have i2 : (5 * v + r) % 5 = r := by omega
        have ek : m_X7_keptOf (nI (opn (upW W 1 p v) 0 p)) (nI r) m' = some (nI (kpv W p (5 * v + r))) := by
          rw [C_keptOf V' ob (by omega)]
          unfold kpv
          rw [i1, i2]
          rfl
        have kb : kpv W p (5 * v + r) < 256 := bst_b W hc _ _
        have nd := ndf_le (mst n kd wh tg p 1) (kpv W p (5 * v + r))
        have nd2 : mst n kd wh tg p 0 &&& kpv W p (5 * v + r) < 256 := Nat.lt_of_le_of_lt Nat.and_le_left b0
        have hx := hfx (5 * v + r)
        unfold m_X4_learn_b60
        simp (disch := omega) only [zz_0, zz_1, zz_2, zz_3, zz_4, zz_5, zz_6, zz_7, zz_8, zz_9, zz_10, zz_11, zz_12, zz_13, zz_14, zz_15, zz_16, zz_20, zz_24, zz_25, zz_26, zz_28, zz_31, zz_32, zz_36, zz_39, zz_40, zz_48, zz_49, zz_50, zz_57, zz_59, zz_60, zz_64, zz_72, zz_97, zz_99, zz_100, zz_122, zz_144, zz_161, zz_255, zz_256, zz_288, zz_322, zz_384, zz_400, zz_448, zz_600, zz_1280, zz_1000000, n_lt, ek, ob_s, n_m1, n_andn, fa_and, n_eq, nI_add]
        rw [if_neg (by omega)]
        by_cases c1 : ndf (mst n kd wh tg p 1) (kpv W p (5 * v + r)) = 0
        · rw [if_pos c1]
          by_cases c2 : mst n kd wh tg p 0 &&& kpv W p (5 * v + r) = 0
          · rw [if_pos c2]
            rw [decide_eq_true c1, decide_eq_true c2] at hx
            obtain ⟨m'', e6, H'', A⟩ := C_add H' (by omega) hx
            rw [i1, i2] at e6
            rw [e6, ob_s, ob_s]
            refine ⟨_, rfl, m'', rfl, ?_, H''⟩
            unfold VC at V' ⊢
            simp (disch := omega) only [A]
            exact V'
          · rw [if_neg c2, ob_s]
            rw [decide_eq_true c1, decide_eq_false c2] at hx
            exact ⟨_, rfl, m', rfl, V', VH_skip H' hx⟩
        · rw [if_neg c1, ob_s]
          rw [decide_eq_false c1] at hx
          exact ⟨_, rfl, m', rfl, V', VH_skip H' hx⟩) (by
        rintro z ⟨m', rfl, V', H'⟩
        unfold m_X4_learn_b60
        simp (disch := omega) only [zz_0, zz_1, zz_2, zz_3, zz_4, zz_5, zz_6, zz_7, zz_8, zz_9, zz_10, zz_11, zz_12, zz_13, zz_14, zz_15, zz_16, zz_20, zz_24, zz_25, zz_26, zz_28, zz_31, zz_32, zz_36, zz_39, zz_40, zz_48, zz_49, zz_50, zz_57, zz_59, zz_60, zz_64, zz_72, zz_97, zz_99, zz_100, zz_122, zz_144, zz_161, zz_255, zz_256, zz_288, zz_322, zz_384, zz_400, zz_448, zz_600, zz_1280, zz_1000000, n_lt]
        rw [if_pos (by omega)]
        exact ⟨_, rfl, V', H'⟩)
      unfold m_X4_learn_b34
      simp (disch := omega) only [zz_0, zz_1, zz_2, zz_3, zz_4, zz_5, zz_6, zz_7, zz_8, zz_9, zz_10, zz_11, zz_12, zz_13, zz_14, zz_15, zz_16, zz_20, zz_24, zz_25, zz_26, zz_28, zz_31, zz_32, zz_36, zz_39, zz_40, zz_48, zz_49, zz_50, zz_57, zz_59, zz_60, zz_64, zz_72, zz_97, zz_99, zz_100, zz_122, zz_144, zz_161, zz_255, zz_256, zz_288, zz_322, zz_384, zz_400, zz_448, zz_600, zz_1280, zz_1000000, n_lt, n_grd, n_ix, eo, ob_s]
      rw [if_neg (by omega), e5, ob_s, nI_add]
      exact ⟨_, rfl, m2, v, rfl, V2, H2⟩
    · rintro z ⟨m, v0, rfl, V, hH⟩
      unfold m_X4_learn_b34
      simp (disch := omega) only [zz_0, zz_1, zz_2, zz_3, zz_4, zz_5, zz_6, zz_7, zz_8, zz_9, zz_10, zz_11, zz_12, zz_13, zz_14, zz_15, zz_16, zz_20, zz_24, zz_25, zz_26, zz_28, zz_31, zz_32, zz_36, zz_39, zz_40, zz_48, zz_49, zz_50, zz_57, zz_59, zz_60, zz_64, zz_72, zz_97, zz_99, zz_100, zz_122, zz_144, zz_161, zz_255, zz_256, zz_288, zz_322, zz_384, zz_400, zz_448, zz_600, zz_1280, zz_1000000, n_lt]
      rw [if_pos (by omega)]
      exact ⟨_, rfl, hH⟩
