/-! L3: lone -/
theorem cS_b {W : Cn} (wo : oa W ≤ 12) (p : Nat) : cS W p < 100 := Nat.lt_of_le_of_lt (fb_ct_le _ _) (by omega)
theorem cB_b {W : Cn} (wo : oa W ≤ 12) (p : Nat) : cB W p < 100 := Nat.lt_of_le_of_lt (fb_ct_le _ _) (by omega)
theorem cL_b {W : Cn} (wf : fk W ≤ 6) (p : Nat) : cL W p < 100 := Nat.lt_of_le_of_lt (fb_ct_le _ _) (by omega)
theorem lone_few {W : Cn} {S : Sk} (hL : Lay S) {mc mr : Mm} {st c : Nat} (hB : VB W mc) (hM : VM W st c mr) (ok : okC W) {k : Nat} (hk : k < 6) : ∃ r, m_X0_tell S (nI k) mc = some r ∧ m_X12_ofLone (nI k) mr = some r := by
  obtain ⟨b1, b2', b3, b4, b5⟩ := hB
  have wf := ok.1.1
  have f6 := wf.1
  have wo := ok.1.2.2
  have x0 := C_without (a := 28) wf b1 (by rw [hL.2.1 28 (by decide)]; rfl) (cB W) b4 (fun p => cB_b wo p)
  have x1 := C_without (a := 27) wf b1 (by rw [hL.2.1 27 (by decide)]; rfl) (cS W) b3 (fun p => cS_b wo p)
  have x2 := C_greatest (a := 27) (S := S) (mm := mc) (by rw [hL.2.1 27 (by decide)]; rfl) (cS W) f6 (fun p hp => b3 p (by omega)) (fun p => by have := cS_b wo p; omega)
  have x3 := C_greatest (a := 28) (S := S) (mm := mc) (by rw [hL.2.1 28 (by decide)]; rfl) (cB W) f6 (fun p hp => b4 p (by omega)) (fun p => by have := cB_b wo p; omega)
  have x5 := C_greatest (a := 29) (S := S) (mm := mc) (by rw [hL.2.1 29 (by decide)]; rfl) (cL W) f6 b5 (fun p => by have := cL_b f6 p; omega)
  have x4 := C_mutual ⟨b1, b2', b3, b4, b5⟩ wf
  unfold m_X0_tell m_X12_ofLone
  rw [b1]
  rcases (by omega : k = 0 ∨ k = 1 ∨ k = 2 ∨ k = 3 ∨ k = 4 ∨ k = 5) with rfl | rfl | rfl | rfl | rfl | rfl
  · exact ⟨_, by rw [if_pos (by decide), x0, ob_s], by rw [if_pos (by decide), M_forNone hM wf, ob_s]⟩
  · exact ⟨_, by rw [if_neg (by decide), if_pos (by decide), x1, ob_s], by rw [if_neg (by decide), if_pos (by decide), M_silent hM wf, ob_s]⟩
  · exact ⟨_, by rw [if_neg (by decide), if_neg (by decide), if_pos (by decide), x2, ob_s], by rw [if_neg (by decide), if_neg (by decide), if_pos (by decide), show nI 2 - 2 = nI 0 by decide, M_mostly hM wf (by decide), ob_s]; rfl⟩
  · exact ⟨_, by rw [if_neg (by decide), if_neg (by decide), if_neg (by decide), if_pos (by decide), x3, ob_s], by rw [if_neg (by decide), if_neg (by decide), if_neg (by decide), if_pos (by decide), show nI 3 - 2 = nI 1 by decide, M_mostly hM wf (by decide), ob_s]; rfl⟩
  · exact ⟨_, by rw [if_neg (by decide), if_neg (by decide), if_neg (by decide), if_neg (by decide), if_pos (by decide), x4, ob_s], by rw [if_neg (by decide), if_neg (by decide), if_neg (by decide), if_neg (by decide), if_pos (by decide), M_mutual hM wf, ob_s]⟩
  · exact ⟨_, by rw [if_neg (by decide), if_neg (by decide), if_neg (by decide), if_neg (by decide), if_neg (by decide), if_pos (by decide), x5, ob_s], by rw [if_neg (by decide), if_neg (by decide), if_neg (by decide), if_neg (by decide), if_neg (by decide), show (2 : Int32) = nI 2 from rfl, M_mostly hM wf (by decide), ob_s]; rfl⟩
theorem bst_le {W : Cn} (hc : symC (cl W)) (s r : Nat) : bst W s r < 256 := by
  exact bst_b W hc s r
theorem op_lone {S : Sk} {mm : Mm} (h : Inv S mm) (a1 a2 : Int32) : OpOK S (m_X11_lone S a1 a2 mm) (m_X12_lone a1 a2) := by
  have l5 : (5 : Int32) = nI 5 := rfl
  have l6 : (6 : Int32) = nI 6 := rfl
  refine told_op h a1 (fun m r m2 e => fr_X12_lone e) (by decide) ?_ ?_
  · intro e0 e hm
    refine ⟨-2, sI mm 44 0 0, ?_, ?_⟩
    · unfold m_X11_lone; rw [e0, ob_s, e, ob_s]; rfl
    · unfold m_X12_lone; rw [hm _ agK_44, ob_s]; rfl
  · intro i W c S' m1 hi e0 e hc hk hv ok hV hI hsc hm
    have wf := ok.1.1
    have f6 := wf.1
    have hy := ok.1.2.1
    have wo := ok.1.2.2
    obtain ⟨m', em, hR, hMV, hA⟩ := hm (sI m1 44 0 0) agK_44
    obtain ⟨mB, eB, hB, _⟩ := C_learn hV wf
    have AB := fr_X0_learn eB
    rcases arg_cases a2 (n := 16) (by omega) with ⟨k, hk16, rfl⟩ | h2
    · by_cases k6 : k < 6
      · obtain ⟨m', em, hR, hMV, hA⟩ := hm (sI mB 44 0 0) (agK_tr (qOK_K (by decide) AB) agK_44)
        obtain ⟨r, er, er'⟩ := lone_few hI.1.1 hB hR.1 ok k6
        refine ⟨r, S', mB, m', _, by decide, AB, hI.1, scR_rf _, rfl, ?_, ?_⟩
        · unfold m_X11_lone; rw [e0, ob_s, e, ob_s]; simp only [oM]; rw [gE_pos rfl]; rw [l6, if_neg (by rw [n_le (by omega) (by omega)]; omega), gP_pos hI.1.1, eB, ob_s, er, ob_s]
        · unfold m_X12_lone; rw [em, ob_s, if_neg i10]; rw [l5, in_y (by omega) (by decide), if_neg i2t, er', ob_s]
      · have inN : m_X12_in (nI k) 0 5 = b2 false := by rw [l5]; exact in_n (Or.inr (by rw [n_le (by omega) (by omega)]; omega)) (by decide)
        have c6 : (6 : Int32) ≤ nI k := by rw [l6, n_le (by omega) (by omega)]; omega
        by_cases e6 : k = 6
        · subst e6
          refine ⟨nI (pc (bst W 255 8)), S', m1, m', [], q0, agx_rf _, hI.1, scR_rf _, rfl, ?_, ?_⟩
          · unfold m_X11_lone; rw [e0, ob_s, e, ob_s]; simp only [oM]; rw [gE_pos rfl]; rw [if_pos c6, if_neg (by decide), if_pos (by decide), gk_pos hk, gP_pos hI.1, C_peace hv wf hy, ob_s, bitc_eq (Nat.lt_trans (bst_le hy _ _) (by decide))]
          · unfold m_X12_lone; rw [em, ob_s, if_neg i10]; rw [inN, if_pos i2f, if_pos (by decide), show (255 : Int32) = nI 255 from rfl, show (8 : Int32) = nI 8 from rfl, M_mostOf hR.1 wf hy (by decide) (by decide), ob_s, ones_eq (Nat.lt_trans (bst_le hy _ _) (by decide)), ob_s]
        by_cases e7 : k = 7
        · subst e7
          refine ⟨nI (bst W 255 8), S', m1, m', [], q0, agx_rf _, hI.1, scR_rf _, rfl, ?_, ?_⟩
          · unfold m_X11_lone; rw [e0, ob_s, e, ob_s]; simp only [oM]; rw [gE_pos rfl]; rw [if_pos c6, if_neg (by decide), if_neg (by decide), gk_pos hk, gP_pos hI.1, C_peace hv wf hy, ob_s]
          · unfold m_X12_lone; rw [em, ob_s, if_neg i10]; rw [inN, if_pos i2f, if_neg (by decide), if_pos (by decide), show (255 : Int32) = nI 255 from rfl, show (8 : Int32) = nI 8 from rfl, M_mostOf hR.1 wf hy (by decide) (by decide), ob_s]
        have c8 : (8 : Int32) ≤ nI k := by rw [show (8 : Int32) = nI 8 from rfl, n_le (by omega) (by omega)]; omega
        rcases (by omega : k = 8 ∨ k = 9 ∨ k = 10 ∨ k = 11 ∨ k = 12 ∨ k = 13 ∨ k = 14 ∨ k = 15) with rfl | rfl | rfl | rfl | rfl | rfl | rfl | rfl
        · refine ⟨nI (hds W), S', m1, m', [], q0, agx_rf _, hI.1, scR_rf _, rfl, ?_, ?_⟩
          · unfold m_X11_lone; rw [e0, ob_s, e, ob_s]; simp only [oM]; rw [gE_pos rfl]; rw [if_pos c6, if_pos c8, gP_pos hI.1.1]; unfold m_X1_tell; rw [if_pos (by decide), C_hardest hV wf, ob_s, ob_s]
          · unfold m_X12_lone; rw [em, ob_s, if_neg i10]; rw [inN, if_pos i2f, if_neg (by decide), if_neg (by decide), if_pos (by decide), M_hardest hR.1 wf, ob_s]
        · refine ⟨((xshl 1 (nI (oa W))) - 1) &&& (nI (brk W 0) ^^^ -1), S', m1, m', [], q0, agx_rf _, hI.1, scR_rf _, rfl, ?_, ?_⟩
          · unfold m_X11_lone; rw [e0, ob_s, e, ob_s]; simp only [oM]; rw [gE_pos rfl]; rw [if_pos c6, if_pos c8, gP_pos hI.1.1]; unfold m_X1_tell; rw [if_neg (by decide), if_pos (by decide), show (0 : Int32) = nI 0 from rfl, C_brokenOaths hV wf hy (by decide), ob_s, ob_s, hV.2.1]
          · unfold m_X12_lone; rw [em, ob_s, if_neg i10]; rw [inN, if_pos i2f, if_neg (by decide), if_neg (by decide), if_neg (by decide), if_pos (by decide)]; unfold m_X12_safe; rw [M_brokenOnes hR.1 wf hy (by decide), ob_s, ob_s, hR.1.2.2.1]
        · obtain ⟨m3, e3⟩ := M_spoilers hR.1 wf hy wo
          refine ⟨nI (spo W), S', m1, m3, [], q0, agx_rf _, hI.1, scR_rf _, rfl, ?_, ?_⟩
          · unfold m_X11_lone; rw [e0, ob_s, e, ob_s]; simp only [oM]; rw [gE_pos rfl]; rw [if_pos c6, if_pos c8, gP_pos hI.1.1]; unfold m_X1_tell; rw [if_neg (by decide), if_neg (by decide), if_pos (by decide), C_spoilers hV wf hy, ob_s, ob_s]
          · unfold m_X12_lone; rw [em, ob_s, if_neg i10]; rw [inN, if_pos i2f, if_neg (by decide), if_neg (by decide), if_neg (by decide), if_neg (by decide), if_pos (by decide), e3, ob_s]
        · obtain ⟨m2, e2, g2, g3⟩ := C_findMore hV wf hy
          have A2 := fr_X1_findMore e2
          obtain ⟨m', em, hR, hMV, hA⟩ := hm (sI m2 44 0 0) (agK_tr (qOK_K (by decide) A2) agK_44)
          obtain ⟨m3, e3⟩ := M_moreOaths hR.1 wf hy wo false
          refine ⟨nI (fb_ct (mP W) 288), S', m2, m3, _, by decide, A2, hI.1, scR_rf _, rfl, ?_, ?_⟩
          · unfold m_X11_lone; rw [e0, ob_s, e, ob_s]; simp only [oM]; rw [gE_pos rfl]; rw [if_pos c6, if_pos c8, gP_pos hI.1.1]; unfold m_X1_tell; rw [if_neg (by decide), if_neg (by decide), if_neg (by decide), if_pos (by decide), e2, ob_s, ob_s, g2]
          · unfold m_X12_lone; rw [em, ob_s, if_neg i10]; rw [inN, if_pos i2f, if_neg (by decide), if_neg (by decide), if_neg (by decide), if_neg (by decide), if_neg (by decide), if_pos (by decide), if_neg (by decide), show (0 : Int32) = b2 false from rfl, e3, ob_s]; rfl
        · obtain ⟨m2, e2, g2, g3⟩ := C_findMore hV wf hy
          have A2 := fr_X1_findMore e2
          obtain ⟨m', em, hR, hMV, hA⟩ := hm (sI m2 44 0 0) (agK_tr (qOK_K (by decide) A2) agK_44)
          obtain ⟨m3, e3⟩ := M_moreOaths hR.1 wf hy wo true
          refine ⟨encV (fst1 (mP W) 288), S', m2, m3, _, by decide, A2, hI.1, scR_rf _, rfl, ?_, ?_⟩
          · unfold m_X11_lone; rw [e0, ob_s, e, ob_s]; simp only [oM]; rw [gE_pos rfl]; rw [if_pos c6, if_pos c8, gP_pos hI.1.1]; unfold m_X1_tell; rw [if_neg (by decide), if_neg (by decide), if_neg (by decide), if_neg (by decide), if_pos (by decide), e2, ob_s, ob_s, g3]
          · unfold m_X12_lone; rw [em, ob_s, if_neg i10]; rw [inN, if_pos i2f, if_neg (by decide), if_neg (by decide), if_neg (by decide), if_neg (by decide), if_neg (by decide), if_neg (by decide), if_pos (by decide), if_pos (by decide), show (1 : Int32) = b2 true from rfl, e3, ob_s]; generalize fst1 (mP W) 288 = o; cases o <;> rfl
        · refine ⟨enc1 (wek W), S', m1, m', [], q0, agx_rf _, hI.1, scR_rf _, rfl, ?_, ?_⟩
          · unfold m_X11_lone; rw [e0, ob_s, e, ob_s]; simp only [oM]; rw [gE_pos rfl]; rw [if_pos c6, if_pos c8, gP_pos hI.1.1]; unfold m_X1_tell; rw [if_neg (by decide), if_neg (by decide), if_neg (by decide), if_neg (by decide), if_neg (by decide), if_pos (by decide), C_weak hV wf hy, ob_s, ob_s]
          · unfold m_X12_lone; rw [em, ob_s, if_neg i10]; rw [inN, if_pos i2f, if_neg (by decide), if_neg (by decide), if_neg (by decide), if_neg (by decide), if_neg (by decide), if_neg (by decide), if_neg (by decide), if_pos (by decide), M_ofWeak hR.1 wf hy (by decide), ob_s]; rfl
        · refine ⟨enc1 (wkp W false), S', m1, m', [], q0, agx_rf _, hI.1, scR_rf _, rfl, ?_, ?_⟩
          · unfold m_X11_lone; rw [e0, ob_s, e, ob_s]; simp only [oM]; rw [gE_pos rfl]; rw [if_pos c6, if_pos c8, gP_pos hI.1.1]; unfold m_X1_tell; rw [if_neg (by decide), if_neg (by decide), if_neg (by decide), if_neg (by decide), if_neg (by decide), if_neg (by decide), if_pos (by decide), show (0 : Int32) = b2 false from rfl, C_weakPart hV wf hy, ob_s, ob_s]
          · unfold m_X12_lone; rw [em, ob_s, if_neg i10]; rw [inN, if_pos i2f, if_neg (by decide), if_neg (by decide), if_neg (by decide), if_neg (by decide), if_neg (by decide), if_neg (by decide), if_neg (by decide), if_neg (by decide), if_pos (by decide), M_ofWeak hR.1 wf hy (by decide), ob_s]; rfl
        · refine ⟨enc1 (wkp W true), S', m1, m', [], q0, agx_rf _, hI.1, scR_rf _, rfl, ?_, ?_⟩
          · unfold m_X11_lone; rw [e0, ob_s, e, ob_s]; simp only [oM]; rw [gE_pos rfl]; rw [if_pos c6, if_pos c8, gP_pos hI.1.1]; unfold m_X1_tell; rw [if_neg (by decide), if_neg (by decide), if_neg (by decide), if_neg (by decide), if_neg (by decide), if_neg (by decide), if_neg (by decide), if_pos (by decide), show (1 : Int32) = b2 true from rfl, C_weakPart hV wf hy, ob_s, ob_s]
          · unfold m_X12_lone; rw [em, ob_s, if_neg i10]; rw [inN, if_pos i2f, if_neg (by decide), if_neg (by decide), if_neg (by decide), if_neg (by decide), if_neg (by decide), if_neg (by decide), if_neg (by decide), if_neg (by decide), if_neg (by decide), if_pos (by decide), M_ofWeak hR.1 wf hy (by decide), ob_s]; rfl
    · have hne : ∀ j, j < 16 → a2 ≠ nI j := fun j hj q => by
        rw [q, show (0 : Int32) = nI 0 from rfl, n_lt (by omega) (by omega), n_le (by omega) (by omega)] at h2
        omega
      have inN : m_X12_in a2 0 5 = b2 false := by
        rw [l5]
        refine in_n ?_ (by decide)
        rcases h2 with q | q
        · exact Or.inl q
        · exact Or.inr (Int32.le_trans (by decide) q)
      have ey : ∀ m m', m_X12_hand a1 (sI m 44 0 0) = some (1, m') → m_X12_lone a1 a2 m = some (-2, m') := fun m m' em => by
        unfold m_X12_lone; rw [em, ob_s, if_neg i10]; rw [inN, if_pos i2f, if_neg (show ¬ a2 = (6 : Int32) from hne 6 (by decide)), if_neg (show ¬ a2 = (7 : Int32) from hne 7 (by decide)), if_neg (show ¬ a2 = (8 : Int32) from hne 8 (by decide)), if_neg (show ¬ a2 = (9 : Int32) from hne 9 (by decide)), if_neg (show ¬ a2 = (10 : Int32) from hne 10 (by decide)), if_neg (show ¬ a2 = (11 : Int32) from hne 11 (by decide)), if_neg (show ¬ a2 = (12 : Int32) from hne 12 (by decide)), if_neg (show ¬ a2 = (13 : Int32) from hne 13 (by decide)), if_neg (show ¬ a2 = (14 : Int32) from hne 14 (by decide)), if_neg (show ¬ a2 = (15 : Int32) from hne 15 (by decide))]
      by_cases z : a2 < 0
      · obtain ⟨m', em, hR, hMV, hA⟩ := hm (sI mB 44 0 0) (agK_tr (qOK_K (by decide) AB) agK_44)
        refine ⟨-2, S', mB, m', _, by decide, AB, hI.1, scR_rf _, rfl, ?_, ey _ _ em⟩
        unfold m_X11_lone; rw [e0, ob_s, e, ob_s]; simp only [oM]; rw [gE_pos rfl]; rw [if_neg (fun q => absurd (Int32.lt_of_le_of_lt q z) (by decide)), gP_pos hI.1.1, eB, ob_s]; unfold m_X0_tell; rw [if_neg (show ¬ a2 = (0 : Int32) from hne 0 (by decide)), if_neg (show ¬ a2 = (1 : Int32) from hne 1 (by decide)), if_neg (show ¬ a2 = (2 : Int32) from hne 2 (by decide)), if_neg (show ¬ a2 = (3 : Int32) from hne 3 (by decide)), if_neg (show ¬ a2 = (4 : Int32) from hne 4 (by decide)), if_neg (show ¬ a2 = (5 : Int32) from hne 5 (by decide)), ob_s]
      · have h16 : nI 16 ≤ a2 := h2.resolve_left z
        refine ⟨-2, S', m1, m', [], q0, agx_rf _, hI.1, scR_rf _, rfl, ?_, ey _ _ em⟩
        unfold m_X11_lone; rw [e0, ob_s, e, ob_s]; simp only [oM]; rw [gE_pos rfl]; rw [if_pos (Int32.le_trans (by decide) h16), if_pos (Int32.le_trans (by decide) h16), gP_pos hI.1.1]; unfold m_X1_tell; rw [if_neg (show ¬ a2 = (8 : Int32) from hne 8 (by decide)), if_neg (show ¬ a2 = (9 : Int32) from hne 9 (by decide)), if_neg (show ¬ a2 = (10 : Int32) from hne 10 (by decide)), if_neg (show ¬ a2 = (11 : Int32) from hne 11 (by decide)), if_neg (show ¬ a2 = (12 : Int32) from hne 12 (by decide)), if_neg (show ¬ a2 = (13 : Int32) from hne 13 (by decide)), if_neg (show ¬ a2 = (14 : Int32) from hne 14 (by decide)), if_neg (show ¬ a2 = (15 : Int32) from hne 15 (by decide)), ob_s]
