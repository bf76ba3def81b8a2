/-! L3: behind all deeds; drawn deeds -/
theorem enc1_iff {o : Option Nat} (h : ∀ y, o = some y → y < 2147483648) : enc1 o = -1 ↔ o = none := by
  cases o with
  | none => exact ⟨fun _ => rfl, fun _ => rfl⟩
  | some y => exact ⟨fun q => absurd q (enc1_m1 (h y rfl)), fun q => by cases q⟩
theorem seqX_fp {dk da db dt : Nat → Nat} {s0 : XS} (h0 : s0.2.2.2.2.2.1 = none) : ∀ i s, seqX dk da db dt s0 i = some s → ∀ y, s.2.2.2.2.2.1 = some y → y < i
  | 0, s, e, y, hy => by cases e; rw [h0] at hy; cases hy
  | i + 1, s, e, y, hy => by
    rw [seqX] at e
    cases h1 : seqX dk da db dt s0 i with
    | none => rw [h1] at e; cases e
    | some s' =>
      have ih := seqX_fp h0 i s' h1
      rw [h1] at e
      have e : oneX i (dk i) (da i) (db i) (dt i) s' = some s := e
      unfold oneX at e
      by_cases k0 : dk i = 0
      · rw [if_pos k0] at e
        cases e
        simp only [monX] at hy
        by_cases c : s'.2.2.2.2.1 = 0 ∧ ¬ brk s'.1 0 = 0
        · rw [if_pos c] at hy; cases hy; omega
        · rw [if_neg c] at hy; have := ih y hy; omega
      · rw [if_neg k0] at e
        cases es : stp (dk i) (da i) (db i) (dt i) s'.1 s'.2.2.2.2.1 with
        | none => rw [es] at e; cases e
        | some U =>
          rw [es] at e
          cases e
          have := ih y hy
          omega
theorem M_afterW {n : Nat} {dk da db dt : Nat → Nat} {c1 c2 c3 : Nat → Int32} (hd : dOK n dk da db dt c1 c2 c3) {s0 : XS} (ok : okX s0) (hf0 : s0.2.2.2.2.2.1 = none ∧ s0.2.2.2.2.2.2.1 = none ∧ s0.2.2.2.2.2.2.2.1 = none ∧ s0.2.2.2.2.2.2.2.2 = 0) {c x : Nat} {mm : Mm} (hR : VRx s0 c mm) (hU : VU n dk c1 c2 c3 x mm) : ∃ i s m, stopX dk da db dt s0 n i s ∧ VRx s c m ∧ whileF FU m_X12_after_b44 (-1, -1, -1, 0, 1, 0, mm) = some (enc1 s.2.2.2.2.2.1, enc1 s.2.2.2.2.2.2.1, nI s.2.2.2.2.2.2.2.2, m) := by
  have hn40 := hd.1
  obtain ⟨z1, z2, z3, z4⟩ := hf0
  obtain ⟨q, e, i, s, m, rfl, hst, hR'⟩ := loop_inv (body := m_X12_after_b44) (a := ((-1 : Int32), (-1 : Int32), (-1 : Int32), (0 : Int32), (1 : Int32), (0 : Int32), mm)) (fun i z => (∃ m s, z = (enc1 s.2.2.2.2.2.1, enc1 s.2.2.2.2.2.2.1, enc1 s.2.2.2.2.2.2.2.1, nI s.2.2.2.2.2.2.2.2, nI 1, nI i, m) ∧ i ≤ n ∧ seqX dk da db dt s0 i = some s ∧ VRx s c m ∧ VU n dk c1 c2 c3 x m) ∨ (∃ i' m s K, z = (enc1 s.2.2.2.2.2.1, enc1 s.2.2.2.2.2.2.1, enc1 s.2.2.2.2.2.2.2.1, nI s.2.2.2.2.2.2.2.2, nI 0, K, m) ∧ stopX dk da db dt s0 n i' s ∧ VRx s c m)) (fun q => ∃ i s m, q = (enc1 s.2.2.2.2.2.1, enc1 s.2.2.2.2.2.2.1, nI s.2.2.2.2.2.2.2.2, m) ∧ stopX dk da db dt s0 n i s ∧ VRx s c m) (n + 1) (FU_big (by omega)) (Or.inl ⟨mm, s0, by rw [z1, z2, z3, z4]; rfl, Nat.zero_le _, rfl, hR, hU⟩) (by
    rintro i z hi (⟨m, s, rfl, hin, hs, hR, hU⟩ | ⟨i', m, s, K, rfl, hst, hR⟩)
    · obtain ⟨oks, _⟩ := seqX_ok hd ok i s hs
      have hfb := seqX_fp z1 i s hs
      unfold m_X12_after_b44
      simp only []
      rw [if_neg (by decide), M_deeds hU, ob_s]
      by_cases hlt : i < n
      · obtain ⟨m', ep, hR', hU'⟩ := M_doesDeed hd oks hR hU hlt
        rw [if_neg (by rw [n_le (by omega) (by omega)]; omega), ep, ob_s]
        simp only [b2_ne]
        left
        cases h1 : oneX i (dk i) (da i) (db i) (dt i) s with
        | none =>
          rw [h1] at hR'
          obtain ⟨V', k27, k28, k29, k30⟩ := hR'
          rw [Option.isSome_none, if_pos rfl, ob_s]
          refine ⟨_, rfl, Or.inr ⟨i, m', s, nI i + 1, ?_, ⟨by omega, hs, Or.inr (by rw [seqX, hs]; exact h1)⟩, ⟨V', k27, k28, k29, k30⟩⟩⟩
          have c0 : ¬ (-1 : Int32) = 0 := by decide
          have c6 : ¬ (-1 : Int32) = 6 := by decide
          simp only [if_neg c0, if_neg c6]
          rw [show nI s.2.2.2.2.2.2.2.2 + 0 = nI s.2.2.2.2.2.2.2.2 from Int32.add_zero _]
          have hbg : (if enc1 s.2.2.2.2.2.1 = -1 then (if mI m' 44 27 = 0 then enc1 s.2.2.2.2.2.1 else nI i) else enc1 s.2.2.2.2.2.1) = enc1 s.2.2.2.2.2.1 := by
            by_cases hfp : s.2.2.2.2.2.1 = none
            · have hp0 := oks.2.2.2.2.mp hfp
              rw [if_pos (show mI m' 44 27 = 0 by rw [k27]; show nI s.2.2.2.2.1 = 0; rw [hp0]; rfl)]
              split <;> rfl
            · rw [if_neg (fun q => hfp ((enc1_iff (fun y hy => by have := hfb y hy; omega)).mp q))]
          rw [hbg]
          rfl
        | some s' =>
          rw [h1] at hR'
          have hd0 : m_X12_deedOf (nI i) 0 m' = some (nI (dk i)) := (M_deedOf hU' hn40 hlt).1
          rw [Option.isSome_some, if_neg (by decide), hd0, ob_s, ob_s]
          refine ⟨_, rfl, Or.inl ⟨m', s', ?_, by omega, by rw [seqX, hs]; exact h1, hR', hU'⟩⟩
          have d7 := hd.2.1 i
          obtain ⟨V0, g27, g28, g29, g30⟩ := hR
          obtain ⟨V', k27, k28, k29, k30⟩ := hR'
          obtain ⟨W, md, kp, br, pj, fp, bm, mk, sn⟩ := s
          obtain ⟨okw, hnv, hp, hm, hfp⟩ := oks
          simp only at okw hnv hp hm hfp g27 g28 g29 g30 hfb ⊢
          have hff : enc1 fp = -1 ↔ fp = none := enc1_iff (fun y hy => by have := hfb y hy; omega)
          have e1 := h1
          unfold oneX at e1
          by_cases k0 : dk i = 0
          · rw [if_pos k0] at e1
            cases e1
            simp only [monX, Option.getD_some] at k27 k28 k29 k30 ⊢
            have hs64 := swz_b okw.1 (brk W 0)
            have hpo : pj ||| swz W (brk W 0) < 64 := or_b (n := 6) hp hs64
            have hkd : mI m' 44 29 - mI m 44 29 = nI (kn W) := by
              rw [k29, g29, n_sub (by omega)]; congr 1; omega
            have hbt := btr_iff (mk := mk) (x := kn W) (by unfold kn; have := okw.2.2; omega) hm
            rw [k0]
            simp only [if_pos (show nI 0 = 0 from rfl), if_neg (show ¬ nI 0 = 6 by decide), hkd, k27, k28]
            have r1 : (if enc1 fp = -1 then (if nI (pj ||| swz W (brk W 0)) = 0 then enc1 fp else nI i) else enc1 fp) = enc1 (if pj = 0 ∧ ¬ brk W 0 = 0 then some i else fp) := by
              by_cases hn : fp = none
              · have hp0 := hfp.mp hn
                rw [if_pos (hff.mpr hn)]
                by_cases hb0 : brk W 0 = 0
                · have h9 : pj ||| swz W (brk W 0) = 0 := or_0.mpr ⟨hp0, swz_0.mpr hb0⟩
                  rw [if_pos (show nI (pj ||| swz W (brk W 0)) = 0 by rw [h9]; rfl), if_neg (fun q : pj = 0 ∧ ¬ brk W 0 = 0 => q.2 hb0)]
                · rw [if_neg (fun q : nI (pj ||| swz W (brk W 0)) = 0 => hb0 (swz_0.mp (or_0.mp ((nI_eq (b := 0) (by omega) (by decide)).mp q)).2)), if_pos (show pj = 0 ∧ ¬ brk W 0 = 0 from ⟨hp0, hb0⟩)]
                  rfl
              · rw [if_neg (fun q => hn (hff.mp q)), if_neg (fun q => hn (hfp.mpr q.1))]
            rw [r1]
            cases hbb : btr mk (kn W) with
            | false =>
              have := hbt.mpr hbb
              simp only [if_pos this, Bool.false_eq_true, if_false]
              rw [show nI sn + 0 = nI sn from Int32.add_zero _, nI_1]
              rfl
            | true =>
              have : ¬ nI (kn W) ≤ enc1 mk := fun q => by rw [hbt.mp q] at hbb; cases hbb
              simp only [if_neg this, if_true]
              rw [show nI sn + 0 = nI sn from Int32.add_zero _, nI_1]
              rfl
          · rw [if_neg k0] at e1
            simp only at e1
            cases es : stp (dk i) (da i) (db i) (dt i) W pj with
            | none => rw [es] at e1; cases e1
            | some U =>
              rw [es] at e1
              cases e1
              simp only [Option.getD_some] at k27 k28 k29 k30 ⊢
              have hz : ¬ nI (dk i) = 0 := fun q => k0 ((nI_eq (b := 0) (by omega) (by decide)).mp q)
              have hz6 : (nI (dk i) = 6) ↔ dk i = 6 := nI_eq (b := 6) (by omega) (by decide)
              simp only [if_neg hz, k27]
              have r1 : (if enc1 fp = -1 then (if nI pj = 0 then enc1 fp else nI i) else enc1 fp) = enc1 fp := by
                by_cases hn : fp = none
                · have hp0 := hfp.mp hn
                  rw [if_pos (hff.mpr hn), if_pos (by rw [hp0]; rfl)]
                · rw [if_neg (fun q => hn (hff.mp q))]
              rw [r1, nI_1]
              by_cases k6 : dk i = 6
              · rw [if_pos (hz6.mpr k6), if_pos k6, nI_1]; rfl
              · rw [if_neg (fun q => k6 (hz6.mp q)), if_neg k6, show nI sn + 0 = nI sn from Int32.add_zero _]; rfl
      · rw [if_pos (by rw [n_le (by omega) (by omega)]; omega)]
        right
        exact ⟨_, rfl, i, s, m, rfl, ⟨hin, hs, Or.inl (by omega)⟩, hR⟩
    · unfold m_X12_after_b44
      simp only []
      rw [if_pos (show nI 0 = 0 from rfl)]
      right
      exact ⟨_, rfl, i', s, m, rfl, hst, hR⟩) (by
    rintro z (⟨m, s, rfl, hin, hs, hR, hU⟩ | ⟨i', m, s, K, rfl, hst, hR⟩)
    · omega
    · unfold m_X12_after_b44
      simp only []
      rw [if_pos (show nI 0 = 0 from rfl)]
      exact ⟨_, rfl, i', s, m, rfl, hst, hR⟩)
  exact ⟨i, s, m, hst, hR', e⟩
