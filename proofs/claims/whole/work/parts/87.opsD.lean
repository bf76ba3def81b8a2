/-! L3: fits, swearers -/
theorem hasR {k : Nat} {s : Nat} {a : Int32} {m : Mm} {b : Bool} (e : m_X12_is (nI s) a (sI m 44 k a) = some (b2 b)) : (m_X12_is (nI s) a (sI m 44 k a)).bind (fun q1 => gbz q1 (some (q1, (sI m 44 k a)))) = some (b2 b, sI m 44 k a) := by
  rw [e, ob_s]
  cases b <;> rfl
theorem op_fits {S : Sk} {mm : Mm} (h : Inv S mm) (a1 a2 a3 a4 : Int32) : OpOK S (m_X11_fits S a1 a2 a3 a4 mm) (m_X12_fits a1 a2 a3 a4) := by
  refine told_op h a1 (fun m r m2 e => fr_X12_fits e) (by decide) ?_ ?_
  · intro _ e hm
    rcases rows_at h (s := 3) (by decide) (by decide) a2 with ⟨er, hr⟩ | ⟨T, j, d, rfl, hj, okr, er, hd71, hRO, hr⟩
    · have eh : m_X12_hasLog a2 (sI mm 44 0 0) = some (b2 false, sI (sI mm 44 0 0) 44 46 a2) := hasR (s := 3) (hr _ (agK_tr agK_44 agK_44))
      refine ⟨-2, sI (sI mm 44 0 0) 44 46 a2, ?_, ?_⟩
      · unfold m_X11_fits; rw [e, ob_s, gP_pos h.1.1, show (3 : Int32) = nI 3 from rfl, er, ob_s]; rfl
      · unfold m_X12_fits; rw [eh, ob_s]; rfl
    · have eh : m_X12_hasLog (nI j) (sI mm 44 0 0) = some (b2 true, sI (sI mm 44 0 0) 44 46 (nI j)) := hasR (s := 3) (hr _ (agK_tr agK_44 agK_44)).1
      refine ⟨-2, sI (sI mm 44 0 0) 44 46 (nI j), ?_, ?_⟩
      · unfold m_X11_fits; rw [e, ob_s, gP_pos h.1.1, show (3 : Int32) = nI 3 from rfl, er, ob_s]; rfl
      · unfold m_X12_fits; rw [eh, ob_s, if_neg i2t]; simp only; rw [hm _ (agK_tr agK_44 agK_44), ob_s]; rfl
  · intro i W c S' m1 hi _ e hc hk hv ok hV hI hsc hm
    have wf := ok.1.1
    have f6 := wf.1
    have hy := ok.1.2.1
    rcases rows_at hI (s := 3) (by decide) (by decide) a2 with ⟨er, hr⟩ | ⟨T, j, d, rfl, hj, okr, er, hd71, hRO, hr⟩
    · have eh : m_X12_hasLog a2 (sI m1 44 0 0) = some (b2 false, sI (sI m1 44 0 0) 44 46 a2) := hasR (s := 3) (hr _ (agK_tr agK_44 agK_44))
      refine ⟨-2, S', m1, sI (sI m1 44 0 0) 44 46 a2, [], q0, agx_rf _, hI.1, scR_rf _, rfl, ?_, ?_⟩
      · unfold m_X11_fits; rw [e, ob_s, gP_pos hI.1.1, show (3 : Int32) = nI 3 from rfl, er, ob_s]; rfl
      · unfold m_X12_fits; rw [eh, ob_s]; rfl
    · have C0 : m_X11_fits S a1 (nI j) a3 a4 mm = (if (m_X7_isThere a3 m1) = 0 then (some (-2, S', m1)) else ((m_X4_learn S' d a3 m1).bind (fun q13 => (m_X4_tell S' a4 q13).bind (fun q15 => some (q15, S', q13))))) := by
        unfold m_X11_fits; rw [e, ob_s, gP_pos hI.1.1, show (3 : Int32) = nI 3 from rfl, er, ob_s]; simp only [oM]; rw [gE_pos rfl, gP_pos hI.1, gk_pos hRO.1]
      obtain ⟨o8, _, _, o3⟩ := okr
      obtain ⟨kd, wh, tg, ob, oe⟩ := o3 rfl
      have n8 : tr T 3 j ≤ 8 := o8
      rcases arg_cases a3 (n := fk W) (by omega) with ⟨p, hp, rfl⟩ | h3
      · have hF : VF (tr T 3 j) kd wh tg d S' m1 := ⟨hRO.1, hRO.2.1, hRO.2.2.1, fun x hx => (hRO.2.2.2 x 0 hx (by decide)).trans (oe x hx).1, fun x hx => (hRO.2.2.2 x 1 hx (by decide)).trans (oe x hx).2.1, fun x hx => (hRO.2.2.2 x 2 hx (by decide)).trans (oe x hx).2.2⟩
        obtain ⟨m2, e2, hH⟩ := C_learn4 hV wf hy hF hd71 n8 (fun x => (ob x).1) (fun x => (ob x).2.1) (fun x => (ob x).2.2) (show p < 6 by omega)
        have A2 := fr_X4_learn e2
        have hK2 : agK m1 m2 := qOK_K (by decide) A2
        have hr2 := hr (sI (sI m2 44 0 0) 44 46 (nI j)) (agK_tr hK2 (agK_tr agK_44 agK_44))
        have eh : m_X12_hasLog (nI j) (sI m2 44 0 0) = some (b2 true, sI (sI m2 44 0 0) 44 46 (nI j)) := hasR (s := 3) hr2.1
        obtain ⟨m', em, hR, hMV, hA⟩ := hm (sI (sI m2 44 0 0) 44 46 (nI j)) (agK_tr hK2 (agK_tr agK_44 agK_44))
        have e53 : ∀ x, mI m' 53 x = mI (sI (sI m2 44 0 0) 44 46 (nI j)) 53 x := fun x => (hA 53 x (covN (by rfl))).1
        have hG : VG (tr T 3 j) kd wh tg j m' := by
          refine ⟨hj, ((hA 44 46 (by rfl)).1).trans (rdI_eq _ _ _ _), by rw [e53]; exact hr2.2.1, fun x hx => ?_, fun x hx => ?_, fun x hx => ?_⟩
          · rw [e53]; exact (hr2.2.2 x 0 hx (by decide)).trans (oe x hx).1
          · rw [e53]; exact (hr2.2.2 x 1 hx (by decide)).trans (oe x hx).2.1
          · rw [e53]; exact (hr2.2.2 x 2 hx (by decide)).trans (oe x hx).2.2
        obtain ⟨m3, e3, hKK⟩ := M_findFits hR.1 wf hy hG n8 (fun x => (ob x).1) (fun x => (ob x).2.1) (fun x => (ob x).2.2) hp (a4 - 10)
        obtain ⟨r, t1, t2⟩ := fits_tell hI.1.1 (fun x => bst_b W hy _ _) hH a4 hKK
        refine ⟨r, S', m2, m3, _, by decide, A2, hI.1, scR_rf _, rfl, ?_, ?_⟩
        · rw [C0, C_isThere_yes hV wf hp, if_neg i2t, e2, ob_s, t1, ob_s]
        · unfold m_X12_fits; rw [eh, ob_s, if_neg i2t]; simp only; rw [em, ob_s, if_neg i10, M_isOne_yes hR.1 wf hp, ob_s, if_neg i2t, e3, ob_s]; exact t2
      · have hr2 := hr (sI (sI m1 44 0 0) 44 46 (nI j)) (agK_tr agK_44 agK_44)
        have eh : m_X12_hasLog (nI j) (sI m1 44 0 0) = some (b2 true, sI (sI m1 44 0 0) 44 46 (nI j)) := hasR (s := 3) hr2.1
        obtain ⟨m', em, hR, hMV, hA⟩ := hm (sI (sI m1 44 0 0) 44 46 (nI j)) (agK_tr agK_44 agK_44)
        refine ⟨-2, S', m1, m', [], q0, agx_rf _, hI.1, scR_rf _, rfl, ?_, ?_⟩
        · rw [C0, C_isThere_no hV h3, if_pos i2f]
        · unfold m_X12_fits; rw [eh, ob_s, if_neg i2t]; simp only; rw [em, ob_s, if_neg i10, M_isOne_no hR.1 wf h3, ob_s, if_pos i2f]
