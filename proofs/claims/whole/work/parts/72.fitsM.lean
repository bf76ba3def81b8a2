/-! L3: fits by the reference -/
theorem M_facts {n : Nat} {kd wh tg : Nat → Nat} {x : Nat} {mm : Mm} (h : VG n kd wh tg x mm) : m_X12_facts mm = some (nI n) := by
  obtain ⟨h1, h2, h3, h4, h5, h6⟩ := h
  unfold m_X12_facts
  rw [h2]
  simp (disch := omega) only [zz_0, zz_1, zz_2, zz_3, zz_4, zz_5, zz_6, zz_7, zz_8, zz_9, zz_10, zz_11, zz_12, zz_13, zz_14, zz_15, zz_16, zz_20, zz_24, zz_25, zz_26, zz_28, zz_31, zz_32, zz_36, zz_39, zz_40, zz_48, zz_49, zz_50, zz_57, zz_59, zz_60, zz_64, zz_72, zz_97, zz_99, zz_100, zz_122, zz_144, zz_161, zz_255, zz_256, zz_288, zz_322, zz_384, zz_400, zz_448, zz_600, zz_1280, zz_1000000, n_mul, n_grd, n_ix, h3]
theorem M_factOf {n : Nat} {kd wh tg : Nat → Nat} {x : Nat} {mm : Mm} (h : VG n kd wh tg x mm) (hn : n ≤ 8) {k : Nat} (hk : k < n) : m_X12_factOf (nI k) (nI 0) mm = some (nI (kd k)) ∧ m_X12_factOf (nI k) (nI 1) mm = some (nI (wh k)) ∧ m_X12_factOf (nI k) (nI 2) mm = some (nI (tg k)) := by
  obtain ⟨h1, h2, h3, h4, h5, h6⟩ := h
  have g4 := h4 k hk
  have g5 := h5 k hk
  have g6 := h6 k hk
  refine ⟨?_, ?_, ?_⟩ <;> unfold m_X12_factOf <;> rw [h2]
  · simp (disch := omega) only [zz_0, zz_1, zz_2, zz_3, zz_4, zz_5, zz_6, zz_7, zz_8, zz_9, zz_10, zz_11, zz_12, zz_13, zz_14, zz_15, zz_16, zz_20, zz_24, zz_25, zz_26, zz_28, zz_31, zz_32, zz_36, zz_39, zz_40, zz_48, zz_49, zz_50, zz_57, zz_59, zz_60, zz_64, zz_72, zz_97, zz_99, zz_100, zz_122, zz_144, zz_161, zz_255, zz_256, zz_288, zz_322, zz_384, zz_400, zz_448, zz_600, zz_1280, zz_1000000, n_mul, nI_add, n_grd, n_ix, Nat.add_zero, g4]
  · simp (disch := omega) only [zz_0, zz_1, zz_2, zz_3, zz_4, zz_5, zz_6, zz_7, zz_8, zz_9, zz_10, zz_11, zz_12, zz_13, zz_14, zz_15, zz_16, zz_20, zz_24, zz_25, zz_26, zz_28, zz_31, zz_32, zz_36, zz_39, zz_40, zz_48, zz_49, zz_50, zz_57, zz_59, zz_60, zz_64, zz_72, zz_97, zz_99, zz_100, zz_122, zz_144, zz_161, zz_255, zz_256, zz_288, zz_322, zz_384, zz_400, zz_448, zz_600, zz_1280, zz_1000000, n_mul, nI_add, n_grd, n_ix, g5]
  · simp (disch := omega) only [zz_0, zz_1, zz_2, zz_3, zz_4, zz_5, zz_6, zz_7, zz_8, zz_9, zz_10, zz_11, zz_12, zz_13, zz_14, zz_15, zz_16, zz_20, zz_24, zz_25, zz_26, zz_28, zz_31, zz_32, zz_36, zz_39, zz_40, zz_48, zz_49, zz_50, zz_57, zz_59, zz_60, zz_64, zz_72, zz_97, zz_99, zz_100, zz_122, zz_144, zz_161, zz_255, zz_256, zz_288, zz_322, zz_384, zz_400, zz_448, zz_600, zz_1280, zz_1000000, n_mul, nI_add, n_grd, n_ix, g6]
theorem VG_agx {n : Nat} {kd wh tg : Nat → Nat} {x : Nat} {mm m : Mm} {Wl : List (Nat × Option Nat)} (h : VG n kd wh tg x mm) (hg : agx Wl mm m) (h1' : ∀ j, covB Wl 53 j = false) (h2' : covB Wl 44 46 = false) : VG n kd wh tg x m := by
  obtain ⟨h1, h2, h3, h4, h5, h6⟩ := h
  refine ⟨h1, ?_, ?_, fun k hk => ?_, fun k hk => ?_, fun k hk => ?_⟩
  · rw [(hg _ _ h2').1]; exact h2
  · rw [(hg _ _ (h1' _)).1]; exact h3
  · rw [(hg _ _ (h1' _)).1]; exact h4 k hk
  · rw [(hg _ _ (h1' _)).1]; exact h5 k hk
  · rw [(hg _ _ (h1' _)).1]; exact h6 k hk
def badM (W : Cn) (kd wh tg : Nat → Nat) (k : Nat) : Bool := !decide (wh k < fk W) || ((kby W 0 (wh k)).testBit (tg k) != decide (kd k = 1))
theorem M_isSo {W : Cn} {c : Nat} {mm : Mm} (h : VM W 0 c mm) (wf : WF W) (hc : symC (cl W)) {n : Nat} {kd wh tg : Nat → Nat} {x : Nat} (hG : VG n kd wh tg x mm) (hn : n ≤ 8) (k2 : ∀ j, kd j < 2) (w6 : ∀ j, wh j < 6) (t8 : ∀ j, tg j < 8) : m_X12_isSo mm = some (b2 (!(fst1 (badM W kd wh tg) n).isSome)) := by
  have hf := wf.1
  unfold m_X12_isSo
  have hbody : ∀ i, i < n → m_X12_isSo_b2 mm (nI i) = some (if badM W kd wh tg i then .inr (.inr (nI 0)) else .inl (nI (i + 1))) := by
    intro i hi
    obtain ⟨e0, e1, e2⟩ := M_factOf hG hn hi
    have q2 := k2 i
    have q6 := w6 i
    have q8 := t8 i
    have kb := kby_b hc 0 (wh i)
    unfold m_X12_isSo_b2 badM
    rw [M_facts hG, ob_s]
    simp (disch := omega) only [zz_0, zz_1, zz_2, zz_3, zz_4, zz_5, zz_6, zz_7, zz_8, zz_9, zz_10, zz_11, zz_12, zz_13, zz_14, zz_15, zz_16, zz_20, zz_24, zz_25, zz_26, zz_28, zz_31, zz_32, zz_36, zz_39, zz_40, zz_48, zz_49, zz_50, zz_57, zz_59, zz_60, zz_64, zz_72, zz_97, zz_99, zz_100, zz_122, zz_144, zz_161, zz_255, zz_256, zz_288, zz_322, zz_384, zz_400, zz_448, zz_600, zz_1280, zz_1000000, n_le, e0, e1, e2, ob_s]
    rw [if_neg (by omega)]
    by_cases hlt : wh i < fk W
    · rw [M_isOne_yes h wf hlt, ob_s, if_neg (by decide), M_keptBy h wf hc (by decide) q6, ob_s, decide_eq_true hlt]
      simp (disch := omega) only [n_eq, n_hasM, nI_add]
      rw [show (if kd i = 1 then nI 1 else nI 0) = if decide (kd i = 1) then nI 1 else nI 0 by by_cases hk : kd i = 1 <;> simp [hk]]
      simp only [eqb]
      cases (kby W 0 (wh i)).testBit (tg i) <;> cases decide (kd i = 1) <;> rfl
    · rw [M_isOne_no h wf (a := nI (wh i)) (Or.inr (by rw [n_le (by omega) (by omega)]; omega)), ob_s, if_pos (by decide), decide_eq_false hlt]
      rfl
  have hw := loop_fst (body := m_X12_isSo_b2 mm) (s0 := (0 : Int32)) (fun i => nI i) (badM W kd wh tg) n (fun _ => .inr (nI 0)) (.inl ()) rfl (FU_big (by omega)) (by
    intro i hi hq
    rw [hbody i hi, hq]; rfl) (by
    intro i hi hq
    rw [hbody i hi, hq]; rfl) (by
    unfold m_X12_isSo_b2
    rw [M_facts hG, ob_s]
    simp (disch := omega) only [zz_0, zz_1, zz_2, zz_3, zz_4, zz_5, zz_6, zz_7, zz_8, zz_9, zz_10, zz_11, zz_12, zz_13, zz_14, zz_15, zz_16, zz_20, zz_24, zz_25, zz_26, zz_28, zz_31, zz_32, zz_36, zz_39, zz_40, zz_48, zz_49, zz_50, zz_57, zz_59, zz_60, zz_64, zz_72, zz_97, zz_99, zz_100, zz_122, zz_144, zz_161, zz_255, zz_256, zz_288, zz_322, zz_384, zz_400, zz_448, zz_600, zz_1280, zz_1000000, n_le]
    rw [if_pos (by omega)])
  rw [hw]
  cases fst1 (badM W kd wh tg) n <;> rfl
def upVR (W : Cn) (p v r : Nat) : Cn := upW (upW W 1 p v) 2 p r
theorem upVR_tw (W : Cn) (p v r v' r' : Nat) : upW (upW (upVR W p v r) 1 p v') 2 p r' = upVR W p v' r' := by
  funext b j
  unfold upVR upW
  by_cases h1 : b = 1 ∧ j = p <;> by_cases h2 : b = 2 ∧ j = p <;> simp [h1, h2]
theorem upVR_id (W : Cn) (p : Nat) : upVR W p (wl W p) (rm W p) = W := by
  funext b j
  unfold upVR upW
  by_cases h1 : b = 1 ∧ j = p
  · rw [if_neg (by omega), if_pos h1, h1.1, h1.2]
  · by_cases h2 : b = 2 ∧ j = p
    · rw [if_pos h2, h2.1, h2.2]
    · rw [if_neg h2, if_neg h1]
theorem WF_VR {W : Cn} (wf : WF W) {p v r : Nat} (hv : v ≤ 9) (hr : r ≤ 4) : WF (upVR W p v r) := by
  have wf := WF_will wf (p := p) hv
  obtain ⟨f1, f2, f3, f4, f5, f6, f7, f8, f9, f10, f11⟩ := wf
  refine ⟨f1, f2, f3, fun q => ?_, f5, f6, f7, f8, f9, f10, f11⟩
  show (if 2 = 2 ∧ q = p then r else upW W 1 p v 2 q) ≤ 4
  split
  · exact hr
  · exact f4 q
theorem VM_room {W : Cn} {st c : Nat} {mm : Mm} (h : VM W st c mm) (p v : Nat) : VM (upW W 2 p v) st c (sI mm 57 p (nI v)) := by
  obtain ⟨⟨hc, v23⟩, v24, v25, v26, v56, v57, v58, v59, v60, v61, v62, v20, v28⟩ := h
  refine ⟨⟨hc, v23⟩, v24, v25, v26, v56, fun q hq => ?_, v58, v59, v60, v61, v62, v20, v28⟩
  rw [rdI_sm, v57 q hq]
  show _ = nI (if 2 = 2 ∧ q = p then v else W 2 q)
  by_cases hqp : q = p <;> simp [hqp]
theorem opn_vr {W : Cn} {p v r q : Nat} (hq : q ≠ p) : opn (upVR W p v r) 0 q = opn W 0 q := by
  have hh : ∀ a, hrt (upVR W p v r) a q = hrt W a q := fun a => by
    unfold hrt
    show (if 1 = 2 ∧ q = p then r else if 1 = 1 ∧ q = p then v else W 1 q) + (if (W 3 q).testBit a then 2 else 0) + W 4 (6 * a + q) = _
    rw [if_neg (by omega), if_neg (fun e => hq e.2)]
  unfold opn
  refine fo_cong (n := oa W) (fun k s hk => ?_) (oa W) (Nat.le_refl _)
  rw [hh]
  rfl
theorem kby_vr {W : Cn} {p v r q : Nat} (hq : q ≠ p) : kby (upVR W p v r) 0 q = kby W 0 q := by
  unfold kby
  rw [opn_vr hq]
  show bst W (opn W 0 q) (if 2 = 2 ∧ q = p then r else upW W 1 p v 2 q) = _
  rw [if_neg (fun e => hq e.2)]
  rfl
theorem kby_vp {W : Cn} {p x : Nat} : kby (upVR W p (x / 5) (x % 5)) 0 p = kpv W p x := by
  unfold kby kpv
  show bst W (opn (upW W 1 p (x / 5)) 0 p) (if 2 = 2 ∧ p = p then x % 5 else upW W 1 p (x / 5) 2 p) = _
  rw [if_pos ⟨rfl, rfl⟩]
theorem isSo_fit {W : Cn} {n : Nat} {kd wh tg : Nat → Nat} (k2 : ∀ j, kd j < 2) {p x : Nat} (hp : p < fk W) : (!(fst1 (badM (upVR W p (x / 5) (x % 5)) kd wh tg) n).isSome) = fitF W n kd wh tg p x := by
  have hM : ∀ k, badM (upVR W p (x / 5) (x % 5)) kd wh tg k = (!decide (wh k < fk W) || ((if wh k = p then kpv W p x else kby W 0 (wh k)).testBit (tg k) != decide (kd k = 1))) := fun k => by
    unfold badM
    by_cases e : wh k = p
    · rw [if_pos e, e, kby_vp]; rfl
    · rw [if_neg e, kby_vr e]; rfl
  rw [Bool.eq_iff_iff]
  unfold fitF othB
  simp only [Bool.and_eq_true, Bool.not_eq_true', decide_eq_true_eq]
  have n1 : ∀ (P : Nat → Bool), (fst1 P n).isSome = false ↔ ∀ k, k < n → P k = false := fun P => by
    cases h : fst1 P n with
    | none => simp only [Option.isSome_none, true_iff]; exact fst1_none.mp h
    | some k =>
      have := fst1_some.mp h
      simp only [Option.isSome_some, Bool.true_eq_false, false_iff]
      intro q
      rw [q k this.1] at this
      exact absurd this.2.1 (by decide)
  rw [n1, n1]
  constructor
  · intro h
    refine ⟨fun k hk => ?_, ?_, ?_⟩
    · have h1 := h k hk
      rw [hM] at h1
      unfold badO
      by_cases e : wh k = p
      · rw [e, decide_eq_true hp, decide_eq_false (fun q => q rfl)]; rfl
      · rw [if_neg e] at h1
        rw [decide_eq_true e, Bool.true_and]
        exact h1
    · rw [ndf_0]
      intro i hi
      obtain ⟨k, h1, ⟨h2, h3⟩, h4⟩ := (mst_bit n kd wh tg p 1 i).mp hi
      have h5 := h k h1
      rw [hM, if_pos h3, h4, decide_eq_true h2] at h5
      simp only [Bool.or_eq_false_iff, bne_eq_false_iff_eq] at h5
      exact h5.2
    · apply Nat.eq_of_testBit_eq
      intro i
      rw [Nat.testBit_and, Nat.zero_testBit]
      cases hi : (mst n kd wh tg p 0).testBit i with
      | false => rfl
      | true =>
        obtain ⟨k, h1, ⟨h2, h3⟩, h4⟩ := (mst_bit n kd wh tg p 0 i).mp hi
        have h5 := h k h1
        rw [hM, if_pos h3, h4, h2] at h5
        simp only [Bool.or_eq_false_iff, bne_eq_false_iff_eq] at h5
        rw [h5.2]; rfl
  · rintro ⟨h1, h2, h3⟩ k hk
    rw [hM]
    by_cases e : wh k = p
    · rw [if_pos e, e, decide_eq_true hp]
      simp only [Bool.not_true, Bool.false_or, bne_eq_false_iff_eq]
      have hk2 := k2 k
      by_cases e2 : kd k = 1
      · rw [decide_eq_true e2]
        exact ndf_0.mp h2 _ ((mst_bit n kd wh tg p 1 _).mpr ⟨k, hk, ⟨e2, e⟩, rfl⟩)
      · rw [decide_eq_false e2]
        have h4 := (mst_bit n kd wh tg p 0 _).mpr ⟨k, hk, ⟨by omega, e⟩, rfl⟩
        have h5 : (mst n kd wh tg p 0 &&& kpv W p x).testBit (tg k) = false := by rw [h3]; simp
        rw [Nat.testBit_and, h4, Bool.true_and] at h5
        exact h5
    · have h4 := h1 k hk
      unfold badO at h4
      rw [decide_eq_true e, Bool.true_and] at h4
      rw [if_neg e]
      exact h4
/-- the fits as the reference holds them -/
def low (F : Nat → Bool) (i : Nat) : Nat := match fst1 F i with | none => 1000000 | some x => x / 5
def hig (F : Nat → Bool) (i : Nat) : Option Nat := fo (fun x o => if F x then some (x / 5) else o) none i
def bsG (F : Nat → Bool) (g : Nat → Nat) (i : Nat) : Nat := fo (fun x s => s ||| if F x = true then 2 ^ g x else 0) 0 i
def akK (F : Nat → Bool) (k i : Nat) : Int32 := match fst1 (fun x => F x && decide (fb_ct F x = k)) i with | none => -2 | some x => nI (10 * (x / 5) + x % 5)
def VK (F : Nat → Bool) (kv : Nat → Nat) (K : Int32) (i : Nat) (m : Mm) : Prop := mI m 44 47 = nI (fb_ct F i) ∧ (∀ k, k < 2147483648 → K = nI k → mI m 44 48 = akK F k i) ∧ mI m 44 49 = nI (low F i) ∧ mI m 44 50 = enc1 (hig F i) ∧ mI m 44 51 = nI (bsG F (fun x => x / 5) i) ∧ mI m 44 52 = nI (bsG F (fun x => x % 5) i) ∧ ∀ t, t < 8 → mI m 68 t = nI (fb_ct (fun x => F x && (kv x).testBit t) i)
theorem low_s {F : Nat → Bool} {i : Nat} (hF : F i = true) (hi : i < 50) : low F (i + 1) = min (low F i) (i / 5) ∧ low F i ≤ 1000000 := by
  unfold low
  rw [fst1, hF]
  cases h : fst1 F i with
  | none => simp only [if_true]; omega
  | some x =>
    have := (fst1_some.mp h).1
    simp only
    omega
theorem hig_b {F : Nat → Bool} : ∀ i, ∀ h, hig F i = some h → h ≤ (i - 1) / 5
  | 0, h, e => by cases e
  | i + 1, h, e => by
    have es : hig F (i + 1) = if F i then some (i / 5) else hig F i := rfl
    rw [es] at e
    by_cases hf : F i = true
    · rw [if_pos hf] at e; cases e; omega
    · rw [if_neg hf] at e
      have := hig_b i h e
      omega
theorem grt9 : ∀ v, v < 10 → m_X12_greater m1 (nI v) = nI v := by decide +kernel
theorem hig_s {F : Nat → Bool} {i : Nat} (hF : F i = true) (hi : i < 50) : m_X12_greater (enc1 (hig F i)) (nI (i / 5)) = enc1 (hig F (i + 1)) := by
  have es : hig F (i + 1) = if F i then some (i / 5) else hig F i := rfl
  rw [es, if_pos hF]
  cases h : hig F i with
  | none => exact grt9 _ (by omega)
  | some y =>
    have := hig_b i y h
    rw [enc1_some, enc1_some, n_grt (by omega) (by omega), Nat.max_eq_right (by omega)]
theorem akK_s {F : Nat → Bool} {k i : Nat} (hF : F i = true) : akK F k (i + 1) = if fb_ct F i = k then nI (10 * (i / 5) + i % 5) else akK F k i := by
  unfold akK
  rw [fst1]
  cases h : fst1 (fun x => F x && decide (fb_ct F x = k)) i with
  | none =>
    simp only [hF, Bool.true_and, decide_eq_true_eq]
    by_cases e : fb_ct F i = k
    · rw [if_pos e, if_pos e]
    · rw [if_neg e, if_neg e]
  | some x =>
    obtain ⟨h1, h2, _⟩ := fst1_some.mp h
    simp only [Bool.and_eq_true, decide_eq_true_eq] at h2
    have h3 := fb_ct_mono F (show x + 1 ≤ i by omega)
    rw [fb_ct_succ, h2.1] at h3
    simp only [if_true] at h3
    rw [if_neg (show ¬ fb_ct F i = k by omega)]
theorem M_noteFit {W : Cn} {c : Nat} {mm : Mm} (h : VM W 0 c mm) (wf : WF W) (hc : symC (cl W)) {F : Nat → Bool} {kv : Nat → Nat} {K : Int32} {i : Nat} (hK : VK F kv K i mm) (hF : F i = true) (hi : i < 50) {p : Nat} (hp : p < 6) (hkv : kby W 0 p = kv i) : ∃ m, m_X12_noteFit (nI p) (nI (i / 5)) (nI (i % 5)) K mm = some m ∧ VK F kv K (i + 1) m ∧ VM W 0 c m := by
  obtain ⟨a47, a48, a49, a50, a51, a52, a68⟩ := hK
  have cl := fb_ct_le F i
  obtain ⟨l1, l2⟩ := low_s hF hi
  have hg := hig_s hF hi
  have s1 : fb_ct F (i + 1) = fb_ct F i + 1 := by rw [fb_ct_succ, hF]; rfl
  have s2 : bsG F (fun x => x / 5) (i + 1) = bsG F (fun x => x / 5) i ||| 2 ^ (i / 5) := by unfold bsG; rw [fo, hF]; rfl
  have s3 : bsG F (fun x => x % 5) (i + 1) = bsG F (fun x => x % 5) i ||| 2 ^ (i % 5) := by unfold bsG; rw [fo, hF]; rfl
  unfold m_X12_noteFit
  simp (disch := omega) only [rdI_nj, rdI_eq, a47, a49, a50, a51, a52]
  simp (disch := omega) only [zz_0, zz_1, zz_2, zz_3, zz_4, zz_5, zz_6, zz_7, zz_8, zz_9, zz_10, zz_11, zz_12, zz_13, zz_14, zz_15, zz_16, zz_20, zz_24, zz_25, zz_26, zz_28, zz_31, zz_32, zz_36, zz_39, zz_40, zz_48, zz_49, zz_50, zz_57, zz_59, zz_60, zz_64, zz_72, zz_97, zz_99, zz_100, zz_122, zz_144, zz_161, zz_255, zz_256, zz_288, zz_322, zz_384, zz_400, zz_448, zz_600, zz_1280, zz_1000000, nI_add, n_mul, n_les, hg, n_shl1, fa_or, ← l1, ← s1, ← s2, ← s3]
  have hA : ∃ A, (if nI (fb_ct F i) = K then nI (10 * (i / 5) + i % 5) else mI mm 44 48) = A ∧ (∀ k, k < 2147483648 → K = nI k → A = akK F k (i + 1)) := by
    refine ⟨_, rfl, fun k hk e => ?_⟩
    rw [akK_s hF, e]
    by_cases e2 : fb_ct F i = k
    · rw [if_pos (by rw [e2]), if_pos e2]
    · rw [if_neg (fun q => e2 ((nI_eq (by omega) hk).mp q)), if_neg e2]
      exact a48 k hk e
  obtain ⟨A, eA, hA⟩ := hA
  rw [eA]
  have V1 : VM W 0 c (sI (sI (sI (sI (sI (sI mm 44 48 A) 44 47 (nI (fb_ct F (i + 1)))) 44 49 (nI (low F (i + 1)))) 44 50 (enc1 (hig F (i + 1)))) 44 51 (nI (bsG F (fun x => x / 5) (i + 1)))) 44 52 (nI (bsG F (fun x => x % 5) (i + 1)))) := VM_wr44 (VM_wr44 (VM_wr44 (VM_wr44 (VM_wr44 (VM_wr44 h (by omega) _) (by omega) _) (by omega) _) (by omega) _) (by omega) _) (by omega) _
  have r68 : ∀ t, t < 8 → mI (sI (sI (sI (sI (sI (sI mm 44 48 A) 44 47 (nI (fb_ct F (i + 1)))) 44 49 (nI (low F (i + 1)))) 44 50 (enc1 (hig F (i + 1)))) 44 51 (nI (bsG F (fun x => x / 5) (i + 1)))) 44 52 (nI (bsG F (fun x => x % 5) (i + 1)))) 68 t = nI (fb_ct (fun x => F x && (kv x).testBit t) i) := fun t ht => by
    simp (disch := omega) only [rdI_ne]
    exact a68 t ht
  have r44 : mI (sI (sI (sI (sI (sI (sI mm 44 48 A) 44 47 (nI (fb_ct F (i + 1)))) 44 49 (nI (low F (i + 1)))) 44 50 (enc1 (hig F (i + 1)))) 44 51 (nI (bsG F (fun x => x / 5) (i + 1)))) 44 52 (nI (bsG F (fun x => x % 5) (i + 1)))) 44 47 = nI (fb_ct F (i + 1)) ∧ mI (sI (sI (sI (sI (sI (sI mm 44 48 A) 44 47 (nI (fb_ct F (i + 1)))) 44 49 (nI (low F (i + 1)))) 44 50 (enc1 (hig F (i + 1)))) 44 51 (nI (bsG F (fun x => x / 5) (i + 1)))) 44 52 (nI (bsG F (fun x => x % 5) (i + 1)))) 44 48 = A ∧ mI (sI (sI (sI (sI (sI (sI mm 44 48 A) 44 47 (nI (fb_ct F (i + 1)))) 44 49 (nI (low F (i + 1)))) 44 50 (enc1 (hig F (i + 1)))) 44 51 (nI (bsG F (fun x => x / 5) (i + 1)))) 44 52 (nI (bsG F (fun x => x % 5) (i + 1)))) 44 49 = nI (low F (i + 1)) ∧ mI (sI (sI (sI (sI (sI (sI mm 44 48 A) 44 47 (nI (fb_ct F (i + 1)))) 44 49 (nI (low F (i + 1)))) 44 50 (enc1 (hig F (i + 1)))) 44 51 (nI (bsG F (fun x => x / 5) (i + 1)))) 44 52 (nI (bsG F (fun x => x % 5) (i + 1)))) 44 50 = enc1 (hig F (i + 1)) ∧ mI (sI (sI (sI (sI (sI (sI mm 44 48 A) 44 47 (nI (fb_ct F (i + 1)))) 44 49 (nI (low F (i + 1)))) 44 50 (enc1 (hig F (i + 1)))) 44 51 (nI (bsG F (fun x => x / 5) (i + 1)))) 44 52 (nI (bsG F (fun x => x % 5) (i + 1)))) 44 51 = nI (bsG F (fun x => x / 5) (i + 1)) ∧ mI (sI (sI (sI (sI (sI (sI mm 44 48 A) 44 47 (nI (fb_ct F (i + 1)))) 44 49 (nI (low F (i + 1)))) 44 50 (enc1 (hig F (i + 1)))) 44 51 (nI (bsG F (fun x => x / 5) (i + 1)))) 44 52 (nI (bsG F (fun x => x % 5) (i + 1)))) 44 52 = nI (bsG F (fun x => x % 5) (i + 1)) := by
    simp (disch := omega) only [rdI_nj, rdI_eq, and_self]
  generalize sI (sI (sI (sI (sI (sI mm 44 48 A) 44 47 (nI (fb_ct F (i + 1)))) 44 49 (nI (low F (i + 1)))) 44 50 (enc1 (hig F (i + 1)))) 44 51 (nI (bsG F (fun x => x / 5) (i + 1)))) 44 52 (nI (bsG F (fun x => x % 5) (i + 1))) = m2 at *
  have kb := kby_b hc 0 p
  rw [M_keptBy V1 wf hc (by decide) hp, ob_s, o_id]
  rw [hkv] at *
  obtain ⟨m3, e3, V3, A3, y68⟩ := loop_n (body := m_X12_noteFit_b94 (nI (kv i))) (a := (nI 0, m2)) (fun t z => ∃ m, z = (nI t, m) ∧ VM W 0 c m ∧ (∀ q j, q ≠ 68 → mI m q j = mI m2 q j) ∧ ∀ t', t' < 8 → mI m 68 t' = nI (fb_ct (fun x => F x && (kv x).testBit t') (if t' < t then i + 1 else i))) (fun m => VM W 0 c m ∧ (∀ q j, q ≠ 68 → mI m q j = mI m2 q j) ∧ ∀ t', t' < 8 → mI m 68 t' = nI (fb_ct (fun x => F x && (kv x).testBit t') (i + 1))) 8 (FU_big (by decide)) ⟨m2, rfl, V1, fun _ _ _ => rfl, fun t ht => by rw [if_neg (by omega)]; exact r68 t ht⟩ (by
    rintro t z ht ⟨m, rfl, V, hA3, hz⟩
    have g := hz t ht
    rw [if_neg (by omega)] at g
    unfold m_X12_noteFit_b94
    simp (disch := omega) only [zz_0, zz_1, zz_2, zz_3, zz_4, zz_5, zz_6, zz_7, zz_8, zz_9, zz_10, zz_11, zz_12, zz_13, zz_14, zz_15, zz_16, zz_20, zz_24, zz_25, zz_26, zz_28, zz_31, zz_32, zz_36, zz_39, zz_40, zz_48, zz_49, zz_50, zz_57, zz_59, zz_60, zz_64, zz_72, zz_97, zz_99, zz_100, zz_122, zz_144, zz_161, zz_255, zz_256, zz_288, zz_322, zz_384, zz_400, zz_448, zz_600, zz_1280, zz_1000000, n_le, n_grd, n_ix, g, n_hasM, b2_0]
    rw [if_neg (by omega), nI_add]
    refine ⟨_, rfl, _, rfl, VM_wr V (by omega) _ _, fun q j hq => by rw [rdI_ne _ _ _ _ hq]; exact hA3 q j hq, fun t' ht' => ?_⟩
    rw [rdI_sm]
    by_cases e : t' = t
    · rw [if_pos e, e, if_pos (show t < t + 1 by omega), fb_ct_succ, hF, Bool.true_and]
      cases (kv i).testBit t <;> simp [nI_add]
    · rw [if_neg e, hz t' ht']
      by_cases e2 : t' < t
      · rw [if_pos e2, if_pos (by omega)]
      · rw [if_neg e2, if_neg (by omega)]) (by
    rintro z ⟨m, rfl, V, hA3, hz⟩
    unfold m_X12_noteFit_b94
    simp (disch := omega) only [zz_0, zz_1, zz_2, zz_3, zz_4, zz_5, zz_6, zz_7, zz_8, zz_9, zz_10, zz_11, zz_12, zz_13, zz_14, zz_15, zz_16, zz_20, zz_24, zz_25, zz_26, zz_28, zz_31, zz_32, zz_36, zz_39, zz_40, zz_48, zz_49, zz_50, zz_57, zz_59, zz_60, zz_64, zz_72, zz_97, zz_99, zz_100, zz_122, zz_144, zz_161, zz_255, zz_256, zz_288, zz_322, zz_384, zz_400, zz_448, zz_600, zz_1280, zz_1000000, n_le]
    rw [if_pos (by omega)]
    exact ⟨_, rfl, V, hA3, fun t' ht' => by rw [hz t' ht', if_pos ht']⟩)
  refine ⟨m3, e3, ⟨?_, fun k hk e => ?_, ?_, ?_, ?_, ?_, y68⟩, V3⟩
  · rw [A3 44 _ (by decide)]; exact r44.1
  · rw [A3 44 _ (by decide), r44.2.1]; exact hA k hk e
  · rw [A3 44 _ (by decide)]; exact r44.2.2.1
  · rw [A3 44 _ (by decide)]; exact r44.2.2.2.1
  · rw [A3 44 _ (by decide)]; exact r44.2.2.2.2.1
  · rw [A3 44 _ (by decide)]; exact r44.2.2.2.2.2
