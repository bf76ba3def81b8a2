/-! L3: deeds, one by one -/
theorem upW_ne {W : Cn} {a i v b j : Nat} (h : b ≠ a) : upW W a i v b j = W b j := by unfold upW; rw [if_neg (fun q => h q.1)]
theorem upW_at {W : Cn} {a i v j : Nat} : upW W a i v a j = if j = i then v else W a j := by
  unfold upW
  by_cases h : j = i <;> simp [h]
theorem WF_vis {W : Cn} (wf : WF W) {i v : Nat} (hv : v ≤ 9) : WF (upW W 4 i v) := by
  obtain ⟨f1, f2, f3, f4, f5, f6, f7, f8, f9, f10, f11⟩ := wf
  refine ⟨f1, f2, f3, f4, f5, fun q => ?_, f7, f8, f9, f10, f11⟩
  show upW W 4 i v 4 q ≤ 9
  rw [upW_at]
  split
  · exact hv
  · exact f6 q
theorem WF_lik {W : Cn} (wf : WF W) {i v : Nat} (hv : v < 64) : WF (upW W 3 i v) := by
  obtain ⟨f1, f2, f3, f4, f5, f6, f7, f8, f9, f10, f11⟩ := wf
  refine ⟨f1, f2, f3, f4, fun q => ?_, f6, f7, f8, f9, f10, f11⟩
  show upW W 3 i v 3 q < 64
  rw [upW_at]
  split
  · exact hv
  · exact f5 q
theorem VC_vis {W : Cn} {mm : Mm} (h : VC W mm) (i v : Nat) : VC (upW W 4 i v) (sI mm 18 i (nI v)) := by
  obtain ⟨c0, c1, c12, c15, c16, c17, c18, c19, c20, c21, c22, c23⟩ := h
  refine ⟨c0, c1, c12, c15, c16, c17, fun q hq => ?_, c19, c20, c21, c22, c23⟩
  rw [rdI_sm, c18 q hq]
  show _ = nI (upW W 4 i v 4 q)
  rw [upW_at]
  by_cases hqp : q = i <;> simp [hqp]
theorem VC_lik {W : Cn} {mm : Mm} (h : VC W mm) (i v : Nat) : VC (upW W 3 i v) (sI mm 17 i (nI v)) := by
  obtain ⟨c0, c1, c12, c15, c16, c17, c18, c19, c20, c21, c22, c23⟩ := h
  refine ⟨c0, c1, c12, c15, c16, fun q hq => ?_, c18, c19, c20, c21, c22, c23⟩
  rw [rdI_sm, c17 q hq]
  show _ = nI (upW W 3 i v 3 q)
  rw [upW_at]
  by_cases hqp : q = i <;> simp [hqp]
theorem VM_vis {W : Cn} {st c : Nat} {mm : Mm} (h : VM W st c mm) (i v : Nat) : VM (upW W 4 i v) st c (sI mm 59 i (nI v)) := by
  obtain ⟨⟨hc, v23⟩, v24, v25, v26, v56, v57, v58, v59, v60, v61, v62, v20, v28⟩ := h
  refine ⟨⟨hc, v23⟩, v24, v25, v26, v56, v57, v58, fun q hq => ?_, v60, v61, v62, v20, v28⟩
  rw [rdI_sm, v59 q hq]
  show _ = nI (upW W 4 i v 4 q)
  rw [upW_at]
  by_cases hqp : q = i <;> simp [hqp]
theorem VM_lik {W : Cn} {st c : Nat} {mm : Mm} (h : VM W st c mm) (i v : Nat) : VM (upW W 3 i v) st c (sI mm 58 i (nI v)) := by
  obtain ⟨⟨hc, v23⟩, v24, v25, v26, v56, v57, v58, v59, v60, v61, v62, v20, v28⟩ := h
  refine ⟨⟨hc, v23⟩, v24, v25, v26, v56, v57, fun q hq => ?_, v59, v60, v61, v62, v20, v28⟩
  rw [rdI_sm, v58 q hq]
  show _ = nI (upW W 3 i v 3 q)
  rw [upW_at]
  by_cases hqp : q = i <;> simp [hqp]
theorem VC_addO {W : Cn} {mm : Mm} (h : VC W mm) {a b t : Nat} (ho : oa W < 12) : VC (addO W a b t) (sI (sI (sI (sI mm 20 (oa W) (nI a)) 21 (oa W) (nI b)) 22 (oa W) (nI t)) 14 1 (nI (oa W + 1))) := by
  obtain ⟨c0, c1, c12, c15, c16, c17, c18, c19, c20, c21, c22, c23⟩ := h
  have e : ∀ p j, p ≠ 20 → p ≠ 21 → p ≠ 22 → p ≠ 14 → mI (sI (sI (sI (sI mm 20 (oa W) (nI a)) 21 (oa W) (nI b)) 22 (oa W) (nI t)) 14 1 (nI (oa W + 1))) p j = mI mm p j := fun p j h1 h2 h3 h4 => by
    rw [rdI_ne _ _ _ _ h4, rdI_ne _ _ _ _ h3, rdI_ne _ _ _ _ h2, rdI_ne _ _ _ _ h1]
  refine ⟨?_, rdI_eq _ _ _ _, by rw [addO_oa]; omega, fun p hp => ?_, fun p hp => ?_, fun p hp => ?_, fun p hp => ?_, fun p hp => ?_, fun k hk => ?_, fun k hk => ?_, fun k hk => ?_, fun r s hr hs => ?_⟩
  · rw [rdI_nj _ _ _ _ (by decide)]
    simp (disch := omega) only [rdI_ne]
    exact c0
  · rw [e _ _ (by decide) (by decide) (by decide) (by decide), c15 p hp]; exact congrArg nI (congrFun (addO_wl W a b t) p).symm
  · rw [e _ _ (by decide) (by decide) (by decide) (by decide), c16 p hp]; exact congrArg nI (congrFun (addO_rm W a b t) p).symm
  · rw [e _ _ (by decide) (by decide) (by decide) (by decide), c17 p hp]; exact congrArg nI (congrFun (addO_lk W a b t) p).symm
  · rw [e _ _ (by decide) (by decide) (by decide) (by decide), c18 p hp]; exact congrArg nI (congrFun (addO_vs W a b t) p).symm
  · rw [e _ _ (by decide) (by decide) (by decide) (by decide), c19 p hp]; exact congrArg nI (congrFun (addO_hd W a b t) p).symm
  · rw [addO_oa] at hk
    rw [addO_sw]
    simp (disch := omega) only [rdI_ne, rdI_sm]
    by_cases hk2 : k = oa W
    · simp [hk2]
    · simp only [hk2, if_false]; exact c20 k (by omega)
  · rw [addO_oa] at hk
    rw [addO_bd]
    simp (disch := omega) only [rdI_ne, rdI_sm]
    by_cases hk2 : k = oa W
    · simp [hk2]
    · simp only [hk2, if_false]; exact c21 k (by omega)
  · rw [addO_oa] at hk
    rw [addO_th]
    simp (disch := omega) only [rdI_ne, rdI_sm]
    by_cases hk2 : k = oa W
    · simp [hk2]
    · simp only [hk2, if_false]; exact c22 k (by omega)
  · rw [e _ _ (by decide) (by decide) (by decide) (by decide), c23 r s hr hs, addO_bst]
theorem VC_zero {W : Cn} {mm : Mm} (h : VC W mm) : VC (zeroO W) (sI mm 14 1 (nI 0)) := by
  obtain ⟨c0, c1, c12, c15, c16, c17, c18, c19, c20, c21, c22, c23⟩ := h
  refine ⟨?_, rdI_eq _ _ _ _, by rw [zeroO_oa]; decide, c15, c16, c17, c18, c19, fun k hk => by rw [zeroO_oa] at hk; omega, fun k hk => by rw [zeroO_oa] at hk; omega, fun k hk => by rw [zeroO_oa] at hk; omega, c23⟩
  rw [rdI_nj _ _ _ _ (by decide)]
  exact c0
theorem xor_off {x a : Nat} (h : x.testBit a = false) : x ^^^ 2 ^ a = x ||| 2 ^ a := by
  apply Nat.eq_of_testBit_eq
  intro i
  rw [fb_bit_flip, fb_bit_set]
  by_cases e : i = a
  · rw [e, h]; simp
  · simp [e]
theorem xor_on {x a : Nat} (h : x.testBit a = true) : x ^^^ 2 ^ a = ndf x (2 ^ a) := by
  apply Nat.eq_of_testBit_eq
  intro i
  rw [fb_bit_flip, ndf_bit, pow_bit]
  by_cases e : i = a
  · rw [e, h]; simp
  · simp [e]
/-- a deed that is no monday: what becomes of the county, if it can be -/
def stp (k a b t : Nat) (W : Cn) (pj : Nat) : Option Cn :=
  if k = 1 then (if a < fk W ∧ 1 ≤ wl W a then some (upW W 1 a (wl W a - 1)) else none)
  else if k = 2 then (if a < fk W ∧ wl W a < 9 then some (upW W 1 a (wl W a + 1)) else none)
  else if ¬ (a < fk W ∧ b < fk W ∧ a ≠ b) then none
  else if k = 3 then (if vs W (6 * a + b) < 9 then some (upW W 4 (6 * a + b) (vs W (6 * a + b) + 1)) else none)
  else if k = 4 then (if (lk W b).testBit a = false then some (upW W 3 b (lk W b ||| 2 ^ a)) else none)
  else if k = 5 then (if (lk W b).testBit a = true then some (upW W 3 b (ndf (lk W b) (2 ^ a))) else none)
  else (if pj.testBit a = false ∧ oa W < 12 ∧ has3 W a b t = false then some (addO W a b t) else none)
def okW (W : Cn) : Prop := WF W ∧ symC (cl W) ∧ oa W ≤ 12
theorem stp_ok {k a b t : Nat} {W : Cn} {pj : Nat} (h : okW W) (ha : a < 6) (hb : b < 6) (ht : t < 8) {V : Cn} (e : stp k a b t W pj = some V) : okW V ∧ fk V = fk W := by
  obtain ⟨wf, hc, ho⟩ := h
  have f3 := wf.2.2.1 a
  have f5 := wf.2.2.2.2.1 b
  have hl1 : lk W b ||| 2 ^ a < 64 := or_b (n := 6) f5 (pow_le ha)
  have hl2 := ndf_le (lk W b) (2 ^ a)
  unfold stp at e
  by_cases k1 : k = 1
  · rw [if_pos k1] at e
    by_cases c : a < fk W ∧ 1 ≤ wl W a
    · rw [if_pos c] at e; cases e; exact ⟨⟨WF_will wf (by omega), hc, ho⟩, rfl⟩
    · rw [if_neg c] at e; cases e
  rw [if_neg k1] at e
  by_cases k2 : k = 2
  · rw [if_pos k2] at e
    by_cases c : a < fk W ∧ wl W a < 9
    · rw [if_pos c] at e; cases e; exact ⟨⟨WF_will wf (by omega), hc, ho⟩, rfl⟩
    · rw [if_neg c] at e; cases e
  rw [if_neg k2] at e
  by_cases two : ¬ (a < fk W ∧ b < fk W ∧ a ≠ b)
  · rw [if_pos two] at e; cases e
  rw [if_neg two] at e
  by_cases k3 : k = 3
  · rw [if_pos k3] at e
    by_cases c : vs W (6 * a + b) < 9
    · rw [if_pos c] at e; cases e; exact ⟨⟨WF_vis wf (by omega), hc, ho⟩, rfl⟩
    · rw [if_neg c] at e; cases e
  rw [if_neg k3] at e
  by_cases k4 : k = 4
  · rw [if_pos k4] at e
    by_cases c : (lk W b).testBit a = false
    · rw [if_pos c] at e; cases e; exact ⟨⟨WF_lik wf hl1, hc, ho⟩, rfl⟩
    · rw [if_neg c] at e; cases e
  rw [if_neg k4] at e
  by_cases k5 : k = 5
  · rw [if_pos k5] at e
    by_cases c : (lk W b).testBit a = true
    · rw [if_pos c] at e; cases e; exact ⟨⟨WF_lik wf (by omega), hc, ho⟩, rfl⟩
    · rw [if_neg c] at e; cases e
  rw [if_neg k5] at e
  by_cases c : pj.testBit a = false ∧ oa W < 12 ∧ has3 W a b t = false
  · rw [if_pos c] at e
    cases e
    refine ⟨⟨addO_WF wf ha hb ht (by omega), ?_, by rw [addO_oa]; omega⟩, rfl⟩
    show symC ((addO W a b t) 6)
    rw [addO_cl]; exact hc
  · rw [if_neg c] at e; cases e
/-- the class's course and the reference's -/
def VQ (W : Cn) (md kp br pj : Nat) (fp bm mk : Option Nat) (sn : Nat) (m : Mm) : Prop := VC W m ∧ mI m 13 1 = nI md ∧ mI m 13 2 = nI kp ∧ mI m 13 3 = nI br ∧ mI m 13 4 = nI pj ∧ mI m 13 5 = enc1 fp ∧ mI m 13 6 = enc1 bm ∧ mI m 13 7 = enc1 mk ∧ mI m 13 8 = nI sn
def VR (W : Cn) (c md kp br pj : Nat) (m : Mm) : Prop := VM W 0 c m ∧ mI m 44 27 = nI pj ∧ mI m 44 28 = nI md ∧ mI m 44 29 = nI kp ∧ mI m 44 30 = nI br
theorem VQ_st {W V : Cn} {md kp br pj : Nat} {fp bm mk : Option Nat} {sn : Nat} {m m' : Mm} (h : VQ W md kp br pj fp bm mk sn m) (hV : VC V m') (e : ∀ j, mI m' 13 j = mI m 13 j) : VQ V md kp br pj fp bm mk sn m' := by
  obtain ⟨_, h1, h2, h3, h4, h5, h6, h7, h8⟩ := h
  refine ⟨hV, ?_, ?_, ?_, ?_, ?_, ?_, ?_, ?_⟩ <;> rw [e] <;> assumption
theorem VR_st {W V : Cn} {c md kp br pj : Nat} {m m' : Mm} (h : VR W c md kp br pj m) (hV : VM V 0 c m') (e : ∀ j, 26 < j → j < 31 → mI m' 44 j = mI m 44 j) : VR V c md kp br pj m' := by
  obtain ⟨_, h1, h2, h3, h4⟩ := h
  exact ⟨hV, by rw [e _ (by decide) (by decide)]; exact h1, by rw [e _ (by decide) (by decide)]; exact h2, by rw [e _ (by decide) (by decide)]; exact h3, by rw [e _ (by decide) (by decide)]; exact h4⟩
theorem wlm : ∀ v, v < 10 → (nI v + m1 < nI 0 ↔ v = 0) ∧ (¬ v = 0 → nI v + m1 ≤ nI 9 ∧ nI v + m1 = nI (v - 1)) := by decide +kernel
theorem C_perform {W : Cn} {md kp br pj : Nat} {fp bm mk : Option Nat} {sn : Nat} {mm : Mm} (h : VQ W md kp br pj fp bm mk sn mm) (ok : okW W) (hpj : pj < 64) (k0 : Int32) {k a b t : Nat} {a3 a4 a5 : Int32} (hk0 : k ≠ 0) (hk : k < 7) (ha : a < 6) (hb : b < 6) (ht : t < 8) (e3 : a3 = nI a) (e4 : 3 ≤ k → a4 = nI b) (e5 : k = 6 → a5 = nI t) : ∃ m, m_X3_perform k0 (nI k) a3 a4 a5 mm = some (b2 (stp k a b t W pj).isSome, m) ∧ VQ ((stp k a b t W pj).getD W) md kp br pj fp bm mk (sn + if k = 6 ∧ (stp k a b t W pj).isSome = true then 1 else 0) m := by
  obtain ⟨wf, hc, ho⟩ := ok
  have hf := wf.1
  have V := h.1
  have f3 := wf.2.2.1 a
  have f5 := wf.2.2.2.2.1 b
  have f6 := wf.2.2.2.2.2.1 (6 * a + b)
  have g15 := V.2.2.2.1 a ha
  have g17 := V.2.2.2.2.2.1 b hb
  have g18 := V.2.2.2.2.2.2.1 (6 * a + b) (by omega)
  have same : (stp k a b t W pj) = none → VQ ((stp k a b t W pj).getD W) md kp br pj fp bm mk (sn + if k = 6 ∧ (stp k a b t W pj).isSome = true then 1 else 0) mm := fun e => by
    rw [e]; simpa using h
  subst e3
  unfold m_X3_perform
  simp (disch := omega) only [zz_0, zz_1, zz_2, zz_3, zz_4, zz_5, zz_6, zz_7, zz_8, zz_9, zz_10, zz_11, zz_12, zz_13, zz_14, zz_15, zz_16, zz_20, zz_24, zz_25, zz_26, zz_28, zz_31, zz_32, zz_36, zz_39, zz_40, zz_48, zz_49, zz_50, zz_57, zz_59, zz_60, zz_64, zz_72, zz_97, zz_99, zz_100, zz_122, zz_144, zz_161, zz_255, zz_256, zz_288, zz_322, zz_384, zz_400, zz_448, zz_600, zz_1280, zz_1000000, n_eq]
  rw [if_neg hk0]
  by_cases k1 : k = 1
  · rw [if_pos k1]
    have es : stp k a b t W pj = if a < fk W ∧ 1 ≤ wl W a then some (upW W 1 a (wl W a - 1)) else none := by unfold stp; rw [if_pos k1]
    unfold m_X3_changeWill
    by_cases hlt : a < fk W
    · rw [C_isThere_yes V wf hlt, if_neg (by decide)]
      simp (disch := omega) only [n_grd, n_ix, g15, n_m1, zz_0, zz_1, zz_2, zz_3, zz_4, zz_5, zz_6, zz_7, zz_8, zz_9, zz_10, zz_11, zz_12, zz_13, zz_14, zz_15, zz_16, zz_20, zz_24, zz_25, zz_26, zz_28, zz_31, zz_32, zz_36, zz_39, zz_40, zz_48, zz_49, zz_50, zz_57, zz_59, zz_60, zz_64, zz_72, zz_97, zz_99, zz_100, zz_122, zz_144, zz_161, zz_255, zz_256, zz_288, zz_322, zz_384, zz_400, zz_448, zz_600, zz_1280, zz_1000000]
      have wm := wlm (wl W a) (by omega)
      by_cases hz : wl W a = 0
      · rw [if_pos (wm.1.mpr hz), ob_s]
        have e0 : stp k a b t W pj = none := by rw [es, if_neg (by omega)]
        refine ⟨mm, ?_, same e0⟩
        rw [e0]; rfl
      · rw [if_neg (fun q => hz (wm.1.mp q)), if_pos (wm.2 hz).1, (wm.2 hz).2, ob_s]
        have e0 : stp k a b t W pj = some (upW W 1 a (wl W a - 1)) := by rw [es, if_pos ⟨hlt, by omega⟩]
        rw [e0]
        refine ⟨_, rfl, ?_⟩
        rw [if_neg (by omega)]
        exact VQ_st h (VC_will V a _) (fun j => rdI_ne _ _ _ _ (by decide))
    · rw [C_isThere_no V (a := nI a) (Or.inr (by rw [n_le (by omega) (by omega)]; omega)), if_pos (by decide), ob_s]
      have e0 : stp k a b t W pj = none := by rw [es, if_neg (fun q => hlt q.1)]
      refine ⟨mm, ?_, same e0⟩
      rw [e0]; rfl
  rw [if_neg k1]
  by_cases k2 : k = 2
  · rw [if_pos k2]
    have es : stp k a b t W pj = if a < fk W ∧ wl W a < 9 then some (upW W 1 a (wl W a + 1)) else none := by unfold stp; rw [if_neg k1, if_pos k2]
    unfold m_X3_changeWill
    by_cases hlt : a < fk W
    · rw [C_isThere_yes V wf hlt, if_neg (by decide)]
      simp (disch := omega) only [n_grd, n_ix, g15, zz_0, zz_1, zz_2, zz_3, zz_4, zz_5, zz_6, zz_7, zz_8, zz_9, zz_10, zz_11, zz_12, zz_13, zz_14, zz_15, zz_16, zz_20, zz_24, zz_25, zz_26, zz_28, zz_31, zz_32, zz_36, zz_39, zz_40, zz_48, zz_49, zz_50, zz_57, zz_59, zz_60, zz_64, zz_72, zz_97, zz_99, zz_100, zz_122, zz_144, zz_161, zz_255, zz_256, zz_288, zz_322, zz_384, zz_400, zz_448, zz_600, zz_1280, zz_1000000, nI_add, n_lt, n_le]
      rw [if_neg (by omega)]
      by_cases hz : wl W a < 9
      · rw [if_pos (by omega), ob_s]
        have e0 : stp k a b t W pj = some (upW W 1 a (wl W a + 1)) := by rw [es, if_pos ⟨hlt, hz⟩]
        rw [e0]
        refine ⟨_, rfl, ?_⟩
        rw [if_neg (by omega)]
        exact VQ_st h (VC_will V a _) (fun j => rdI_ne _ _ _ _ (by decide))
      · rw [if_neg (by omega), ob_s]
        have e0 : stp k a b t W pj = none := by rw [es, if_neg (fun q => hz q.2)]
        refine ⟨mm, ?_, same e0⟩
        rw [e0]; rfl
    · rw [C_isThere_no V (a := nI a) (Or.inr (by rw [n_le (by omega) (by omega)]; omega)), if_pos (by decide), ob_s]
      have e0 : stp k a b t W pj = none := by rw [es, if_neg (fun q => hlt q.1)]
      refine ⟨mm, ?_, same e0⟩
      rw [e0]; rfl
  rw [if_neg k2]
  have e4' := e4 (by omega)
  subst e4'
  have es : stp k a b t W pj = if ¬ (a < fk W ∧ b < fk W ∧ a ≠ b) then none else if k = 3 then (if vs W (6 * a + b) < 9 then some (upW W 4 (6 * a + b) (vs W (6 * a + b) + 1)) else none) else if k = 4 then (if (lk W b).testBit a = false then some (upW W 3 b (lk W b ||| 2 ^ a)) else none) else if k = 5 then (if (lk W b).testBit a = true then some (upW W 3 b (ndf (lk W b) (2 ^ a))) else none) else (if pj.testBit a = false ∧ oa W < 12 ∧ has3 W a b t = false then some (addO W a b t) else none) := by unfold stp; rw [if_neg k1, if_neg k2]
  have htwo : (m_X7_areTwo (nI a) (nI b) mm = b2 true ∧ (a < fk W ∧ b < fk W ∧ a ≠ b)) ∨ (m_X7_areTwo (nI a) (nI b) mm = b2 false ∧ ¬ (a < fk W ∧ b < fk W ∧ a ≠ b)) := by
    by_cases h2 : a < fk W ∧ b < fk W ∧ a ≠ b
    · exact Or.inl ⟨C_areTwo V wf h2.1 h2.2.1 h2.2.2, h2⟩
    · right
      refine ⟨?_, h2⟩
      rcases two_cases wf (nI a) (nI b) with ⟨p, q, h7, h8, h9, h10, h11⟩ | ⟨h7, _⟩
      · exfalso
        apply h2
        have q1 : a = p := (nI_eq (by omega) (by omega)).mp h7
        have q2 : b = q := (nI_eq (by omega) (by omega)).mp h8
        rw [q1, q2]
        exact ⟨h9, h10, h11⟩
      · exact h7 mm V
  by_cases k3 : k = 3
  · rw [if_pos k3]
    unfold m_X3_payVisit
    rcases htwo with ⟨h2, h2'⟩ | ⟨h2, h2'⟩
    · rw [h2, if_neg (by decide)]
      rw [if_neg (fun q => q h2'), if_pos k3] at es
      simp (disch := omega) only [zz_0, zz_1, zz_2, zz_3, zz_4, zz_5, zz_6, zz_7, zz_8, zz_9, zz_10, zz_11, zz_12, zz_13, zz_14, zz_15, zz_16, zz_20, zz_24, zz_25, zz_26, zz_28, zz_31, zz_32, zz_36, zz_39, zz_40, zz_48, zz_49, zz_50, zz_57, zz_59, zz_60, zz_64, zz_72, zz_97, zz_99, zz_100, zz_122, zz_144, zz_161, zz_255, zz_256, zz_288, zz_322, zz_384, zz_400, zz_448, zz_600, zz_1280, zz_1000000, n_mul, nI_add, n_grd, n_ix, Nat.mul_comm a 6, g18, n_lt]
      by_cases hz : vs W (6 * a + b) < 9
      · rw [if_pos hz, ob_s]
        rw [if_pos hz] at es
        rw [es]
        refine ⟨_, rfl, ?_⟩
        rw [if_neg (by omega)]
        exact VQ_st h (VC_vis V _ _) (fun j => rdI_ne _ _ _ _ (by decide))
      · rw [if_neg hz, ob_s]
        rw [if_neg hz] at es
        refine ⟨mm, ?_, same es⟩
        rw [es]; rfl
    · rw [h2, if_pos (by decide), ob_s]
      rw [if_pos h2'] at es
      refine ⟨mm, ?_, same es⟩
      rw [es]; rfl
  rw [if_neg k3]
  by_cases k4 : k = 4
  · rw [if_pos k4]
    unfold m_X3_changeLiking
    rcases htwo with ⟨h2, h2'⟩ | ⟨h2, h2'⟩
    · rw [h2, if_neg (by decide)]
      rw [if_neg (fun q => q h2'), if_neg k3, if_pos k4] at es
      simp (disch := omega) only [zz_0, zz_1, zz_2, zz_3, zz_4, zz_5, zz_6, zz_7, zz_8, zz_9, zz_10, zz_11, zz_12, zz_13, zz_14, zz_15, zz_16, zz_20, zz_24, zz_25, zz_26, zz_28, zz_31, zz_32, zz_36, zz_39, zz_40, zz_48, zz_49, zz_50, zz_57, zz_59, zz_60, zz_64, zz_72, zz_97, zz_99, zz_100, zz_122, zz_144, zz_161, zz_255, zz_256, zz_288, zz_322, zz_384, zz_400, zz_448, zz_600, zz_1280, zz_1000000, n_grd, n_ix, g17, n_hasC, n_shl1, fb_xorI, b2_1]
      cases hz : (lk W b).testBit a with
      | false =>
        rw [if_neg (by decide), ob_s, xor_off hz]
        rw [if_pos hz] at es
        rw [es]
        refine ⟨_, rfl, ?_⟩
        rw [if_neg (by omega)]
        exact VQ_st h (VC_lik V _ _) (fun j => rdI_ne _ _ _ _ (by decide))
      | true =>
        rw [if_pos rfl, ob_s]
        rw [if_neg (by rw [hz]; decide)] at es
        refine ⟨mm, ?_, same es⟩
        rw [es]; rfl
    · rw [h2, if_pos (by decide), ob_s]
      rw [if_pos h2'] at es
      refine ⟨mm, ?_, same es⟩
      rw [es]; rfl
  rw [if_neg k4]
  by_cases k5 : k = 5
  · rw [if_pos k5]
    unfold m_X3_changeLiking
    rcases htwo with ⟨h2, h2'⟩ | ⟨h2, h2'⟩
    · rw [h2, if_neg (by decide)]
      rw [if_neg (fun q => q h2'), if_neg k3, if_neg k4, if_pos k5] at es
      simp (disch := omega) only [zz_0, zz_1, zz_2, zz_3, zz_4, zz_5, zz_6, zz_7, zz_8, zz_9, zz_10, zz_11, zz_12, zz_13, zz_14, zz_15, zz_16, zz_20, zz_24, zz_25, zz_26, zz_28, zz_31, zz_32, zz_36, zz_39, zz_40, zz_48, zz_49, zz_50, zz_57, zz_59, zz_60, zz_64, zz_72, zz_97, zz_99, zz_100, zz_122, zz_144, zz_161, zz_255, zz_256, zz_288, zz_322, zz_384, zz_400, zz_448, zz_600, zz_1280, zz_1000000, n_grd, n_ix, g17, n_hasC, n_shl1, fb_xorI, b2_0]
      cases hz : (lk W b).testBit a with
      | true =>
        rw [if_neg (by decide), ob_s, xor_on hz]
        rw [if_pos hz] at es
        rw [es]
        refine ⟨_, rfl, ?_⟩
        rw [if_neg (by omega)]
        exact VQ_st h (VC_lik V _ _) (fun j => rdI_ne _ _ _ _ (by decide))
      | false =>
        rw [if_pos rfl, ob_s]
        rw [if_neg (by rw [hz]; decide)] at es
        refine ⟨mm, ?_, same es⟩
        rw [es]; rfl
    · rw [h2, if_pos (by decide), ob_s]
      rw [if_pos h2'] at es
      refine ⟨mm, ?_, same es⟩
      rw [es]; rfl
  rw [if_neg k5]
  have k6 : k = 6 := by omega
  have e5' := e5 k6
  subst e5'
  rw [if_pos k6]
  unfold m_X3_takeOath
  rcases htwo with ⟨h2, h2'⟩ | ⟨h2, h2'⟩
  · rw [h2, if_neg (by decide)]
    rw [if_neg (fun q => q h2'), if_neg k3, if_neg k4, if_neg k5] at es
    have g13 := h.2.2.2.2.1
    have g141 := V.2.1
    have eo := C_hasOath V wf ha hb ht
    rw [g13, g141]
    simp (disch := omega) only [zz_0, zz_1, zz_2, zz_3, zz_4, zz_5, zz_6, zz_7, zz_8, zz_9, zz_10, zz_11, zz_12, zz_13, zz_14, zz_15, zz_16, zz_20, zz_24, zz_25, zz_26, zz_28, zz_31, zz_32, zz_36, zz_39, zz_40, zz_48, zz_49, zz_50, zz_57, zz_59, zz_60, zz_64, zz_72, zz_97, zz_99, zz_100, zz_122, zz_144, zz_161, zz_255, zz_256, zz_288, zz_322, zz_384, zz_400, zz_448, zz_600, zz_1280, zz_1000000, n_hasC, b2_0, n_le, eo, ob_s, n_grd, n_ix, nI_add]
    cases hz : pj.testBit a with
    | true =>
      rw [if_neg (by decide), ob_s]
      rw [if_neg (fun q => by rw [hz] at q; exact absurd q.1 (by decide))] at es
      refine ⟨mm, ?_, same es⟩
      rw [es]; rfl
    | false =>
      rw [if_pos rfl]
      by_cases h12 : 12 ≤ oa W
      · rw [if_pos h12, ob_s]
        rw [if_neg (by omega)] at es
        refine ⟨mm, ?_, same es⟩
        rw [es]; rfl
      · rw [if_neg h12]
        cases hh : has3 W a b t with
        | true =>
          rw [if_neg (by decide), ob_s]
          rw [if_neg (fun q => by rw [hh] at q; exact absurd q.2.2 (by decide))] at es
          refine ⟨mm, ?_, same es⟩
          rw [es]; rfl
        | false =>
          rw [if_pos rfl, ob_s]
          rw [if_pos ⟨hz, by omega, hh⟩] at es
          rw [es]
          have V2 := VC_addO V (a := a) (b := b) (t := t) (show oa W < 12 by omega)
          have r8 : mI (sI (sI (sI (sI mm 20 (oa W) (nI a)) 21 (oa W) (nI b)) 22 (oa W) (nI t)) 14 1 (nI (oa W + 1))) 13 8 = nI sn := by
            simp (disch := omega) only [rdI_ne]
            exact h.2.2.2.2.2.2.2.2
          refine ⟨_, rfl, ?_⟩
          rw [r8, nI_add, if_pos ⟨k6, rfl⟩]
          obtain ⟨_, h1, h2, h3, h4, h5, h6, h7, h8⟩ := h
          refine ⟨VC_wr V2 (by omega) _ _, ?_, ?_, ?_, ?_, ?_, ?_, ?_, rdI_eq _ _ _ _⟩ <;> (rw [rdI_nj _ _ _ _ (by decide)]; simp (disch := omega) only [rdI_ne]; assumption)
  · rw [h2, if_pos (by decide), ob_s]
    rw [if_pos h2'] at es
    refine ⟨mm, ?_, same es⟩
    rw [es]; rfl
