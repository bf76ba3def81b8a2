/-! L3: stop, state, after, drawn -/
theorem agK_sy {a b : Mm} (h : agK a b) : agK b a := fun p j hp => (h p j hp).symm
def X0s (W : Cn) : XS := (W, 0, 0, 0, 0, none, none, none, 0)
theorem X0s_ok {W : Cn} (ok : okC W) : okX (X0s W) := ⟨ok.1, okC_noV ok, (by decide : 0 < 64), fun y hy => absurd hy (by intro q; cases q), ⟨fun _ => rfl, fun _ => rfl⟩⟩
theorem begin3 {W : Cn} {S S' : Sk} {mm m1 : Mm} {c : Nat} (e : m_X7_begin S c mm = some (S', m1)) (hV : VC W m1) (hL : Lay S') : ∃ m, m_X3_begin S c mm = some (S', m) ∧ VQx (X0s W) m ∧ agx [(13, none)] m1 m := by
  unfold m_X3_begin
  rw [e, ob_s, gP_pos hL]
  have hA : agx [(13, none)] m1 (sI (sI (sI (sI (sI (sI (sI (sI m1 13 1 0) 13 2 0) 13 3 0) 13 4 0) 13 5 (-1)) 13 6 (-1)) 13 7 (-1)) 13 8 0) := agx_wr (agx_wr (agx_wr (agx_wr (agx_wr (agx_wr (agx_wr (agx_wr (agx_rf _) (by rfl)) (by rfl)) (by rfl)) (by rfl)) (by rfl)) (by rfl)) (by rfl)) (by rfl)
  refine ⟨_, rfl, ⟨VC_agx hV hA (by rfl), ?_, ?_, ?_, ?_, ?_, ?_, ?_, ?_⟩, hA⟩ <;> simp (disch := omega) only [rdI_nj, rdI_eq] <;> rfl
def RLs : List (Nat × Option Nat) := [(13, none), (14, none), (15, none), (17, none), (18, none), (20, none), (21, none), (22, none)]
theorem op_run {S : Sk} {mm : Mm} (h : Inv S mm) (a1 a2 : Int32) :
    (∃ q1 q3, m_X9_countyAt S a1 mm = some q1 ∧ m_X9_rowsAt S 1 a2 mm = some q3 ∧ (q1 = none ∨ q3 = none) ∧ ∀ m, agK mm m → ∃ m', m_X12_layAll a1 a2 m = some (0, m')) ∨
    ∃ c d n S' m1 ci, m_X9_countyAt S a1 mm = some (some c) ∧ m_X9_rowsAt S 1 a2 mm = some (some d) ∧ KD S c 2 ∧ KD S d 6 ∧ mI mm d 1 = nI n ∧ n ≤ 40 ∧ Inv S' m1 ∧ scR S S' ∧ agK mm m1 ∧ (∀ m, agK mm m → ∃ m', m_X12_layAll a1 a2 m = some (1, m') ∧ m_X12_deeds m' = some (nI n)) ∧
      ∀ N, N ≤ n → ∃ i s m2, m_X3_run S c d (nI N) mm = some (nI i, S', m2) ∧ i ≤ N ∧ okX s ∧ VQx s m2 ∧ agx RLs m1 m2 ∧ ∀ m, agK m1 m → ∃ m', m_X12_layAll a1 a2 m = some (1, m') ∧ m_X12_deeds m' = some (nI n) ∧ (∃ m3, m_X12_play (nI N) m' = some (nI i, m3) ∧ VRx s ci m3) ∧ (N = n → ∃ m3, whileF FU m_X12_after_b44 (-1, -1, -1, 0, 1, 0, m') = some (enc1 s.2.2.2.2.2.1, enc1 s.2.2.2.2.2.2.1, nI s.2.2.2.2.2.2.2.2, m3) ∧ VRx s ci m3) := by
  have l1 : (1 : Int32) = nI 1 := rfl
  rcases rows_at h (s := 1) (by decide) (by decide) a2 with ⟨er, hr⟩ | ⟨T, j, d, rfl, hj, okr, er, hd71, hRO, hr⟩
  · left
    have lay : ∀ m, agK mm m → ∃ m', m_X12_layAll a1 a2 m = some (0, m') := fun m hm => by
      have eh : m_X12_hasTerm a2 m = some (b2 false, sI m 44 38 a2) := hasR (s := 1) (hr _ (agK_tr hm agK_44))
      unfold m_X12_layAll
      rw [eh, ob_s]
      exact ⟨_, rfl⟩
    rcases county_at h a1 with ⟨e, _⟩ | ⟨i, W, c, ea, hi, e, _⟩
    · exact ⟨_, _, e, er, Or.inl rfl, lay⟩
    · exact ⟨_, _, e, er, Or.inr rfl, lay⟩
  · rcases told_at h a1 with ⟨e0, e, hm⟩ | ⟨i, W, c, S', m1, ea, hi, e0, e, hc, hk, hv, ok, hV, hI, hsc, hK, eb, hm⟩
    · left
      refine ⟨_, _, e0, er, Or.inl rfl, fun m hm' => ?_⟩
      have eh : m_X12_hasTerm (nI j) m = some (b2 true, sI m 44 38 (nI j)) := hasR (s := 1) (hr _ (agK_tr hm' agK_44)).1
      unfold m_X12_layAll
      rw [eh, ob_s, if_neg i2t]; simp only
      rw [hm _ (agK_tr hm' agK_44), ob_s]
      exact ⟨_, rfl⟩
    · right
      obtain ⟨o8, o3, _, _⟩ := okr
      obtain ⟨dk, da, db, dt, od, oe⟩ := o3 rfl
      have n40 : tr T 1 j ≤ 40 := o8
      have hkS : KD S c 2 := ⟨by rw [← hsc.1]; exact hk.1, by rw [← hsc.2.2.1]; exact hk.2⟩
      obtain ⟨m1b, eB, hQ, hAB⟩ := begin3 eb hV hI.1.1
      have lay : ∀ m, agK mm m → ∃ m', m_X12_layAll a1 (nI j) m = some (1, m') ∧ VRx (X0s W) i m' ∧ VU (tr T 1 j) dk (fun x => tz T 1 j x 1) (fun x => tz T 1 j x 2) (fun x => tz T 1 j x 3) j m' := fun m hm' => by
        have hr2 := hr (sI m 44 38 (nI j)) (agK_tr hm' agK_44)
        have eh : m_X12_hasTerm (nI j) m = some (b2 true, sI m 44 38 (nI j)) := hasR (s := 1) hr2.1
        obtain ⟨m', em, hR, hMV, hA⟩ := hm (sI m 44 38 (nI j)) (agK_tr (agK_sy hK) (agK_tr hm' agK_44))
        have e51 : ∀ x, mI m' 51 x = mI (sI m 44 38 (nI j)) 51 x := fun x => (hA 51 x (covN (by rfl))).1
        refine ⟨m', ?_, hR, hj, ((hA 44 38 (by rfl)).1).trans (rdI_eq _ _ _ _), by rw [e51]; exact hr2.2.1, fun x hx => ⟨?_, ?_, ?_, ?_⟩⟩
        · unfold m_X12_layAll
          rw [eh, ob_s, if_neg i2t]; simp only
          rw [em, ob_s, if_neg i10]
        · rw [e51]; exact (hr2.2.2 x 0 hx (by decide)).trans (oe x hx)
        · rw [e51]; exact hr2.2.2 x 1 hx (by decide)
        · rw [e51]; exact hr2.2.2 x 2 hx (by decide)
        · rw [e51]; exact hr2.2.2 x 3 hx (by decide)
      refine ⟨c, d, tr T 1 j, S', m1, i, e0, er, hkS, hRO.1, hRO.2.2.1, n40, hI, hsc, hK, fun m hm' => ?_, fun N hN => ?_⟩
      · obtain ⟨m', e1, e2, e3⟩ := lay m hm'
        exact ⟨m', e1, M_deeds e3⟩
      · have hKb : agK mm m1b := agK_tr hK (qOK_K (by decide) hAB)
        have hVT : VT (tr T 1 j) dk (fun x => tz T 1 j x 1) (fun x => tz T 1 j x 2) (fun x => tz T 1 j x 3) d S' m1b := by
          obtain ⟨g1, g2, g3, g4⟩ := RO_s hsc (RO_K (fun p j hp => hKb p j (kept_of (by omega))) hd71 hRO)
          exact ⟨g1, g2, g3, fun x hx => ⟨(g4 x 0 hx (by decide)).trans (oe x hx), g4 x 1 hx (by decide), g4 x 2 hx (by decide), g4 x 3 hx (by decide)⟩⟩
        obtain ⟨k, s, m2, hst, hQ2, hA2, e2⟩ := C_runW od (X0s_ok ok) hd71 (q1 := (S', m1b)) hI.1 hQ hVT hN
        refine ⟨k, s, m2, ?_, hst.1, (seqX_ok od (X0s_ok ok) k s hst.2.1).1, hQ2, agx_tr (agx_mono (by rfl) hAB) hA2, fun m hm' => ?_⟩
        · unfold m_X3_run
          rw [eB, ob_s]
          exact e2
        · obtain ⟨m', e1, hR', hU⟩ := lay m (agK_tr hK hm')
          refine ⟨m', e1, M_deeds hU, ?_, fun eN => ?_⟩
          · obtain ⟨k', s', m3, hst', hR3, e3⟩ := M_playW od (X0s_ok ok) hR' hU hN
            obtain ⟨rfl, rfl⟩ := stopX_one hst hst'
            exact ⟨m3, e3, hR3⟩
          · subst eN
            obtain ⟨k', s', m3, hst', hR3, e3⟩ := M_afterW od (X0s_ok ok) ⟨rfl, rfl, rfl, rfl⟩ hR' hU
            obtain ⟨rfl, rfl⟩ := stopX_one hst hst'
            exact ⟨m3, e3, hR3⟩
theorem op_stop {S : Sk} {mm : Mm} (h : Inv S mm) (a1 a2 : Int32) : OpOK S (m_X11_stop S a1 a2 mm) (m_X12_stop a1 a2) := by
  rcases op_run h a1 a2 with ⟨q1, q3, e1, e3, hn, hl⟩ | ⟨c, d, n, S', m1, ci, e1, e3, kc, kd', hn, n40, hI, hsc, hK, _, hrun⟩
  · obtain ⟨m', el⟩ := hl (sI mm 44 0 0) agK_44
    have ex : m_X11_stop S a1 a2 mm = some (-1, S, mm) := by
      unfold m_X11_stop; rw [e1, ob_s, e3, ob_s]
      rcases hn with rfl | rfl
      · rfl
      · cases q1 <;> rfl
    have ey : m_X12_stop a1 a2 mm = some (-1, m') := by unfold m_X12_stop; rw [el, ob_s]; rfl
    exact op_no h ex ey (by decide) (fr_X12_stop ey)
  · obtain ⟨i, s, m2, er, hi, oks, hQ, hA, hm⟩ := hrun n (Nat.le_refl n)
    obtain ⟨m', el, ed, ⟨m3, ep, hR⟩, _⟩ := hm (sI m2 44 0 0) (agK_tr (qOK_K (by decide) hA) agK_44)
    have ex : m_X11_stop S a1 a2 mm = some (nI i, S', m2) := by
      unfold m_X11_stop; rw [e1, ob_s, e3, ob_s]; simp only [oM]; rw [gk_pos kd', gk_pos kc, hn, er, ob_s]
    have ey : m_X12_stop a1 a2 m2 = some (nI i, m3) := by unfold m_X12_stop; rw [el, ob_s, if_neg i10]; simp only; rw [ed, ob_s, ep, ob_s]
    exact op_yes hI hsc (by decide) hA ex ey (by decide) (fr_X12_stop ey)
theorem op_state {S : Sk} {mm : Mm} (h : Inv S mm) (a1 a2 a3 a4 : Int32) : OpOK S (m_X11_state S a1 a2 a3 a4 mm) (m_X12_state a1 a2 a3 a4) := by
  rcases op_run h a1 a2 with ⟨q1, q3, e1, e3, hn, hl⟩ | ⟨c, d, n, S', m1, ci, e1, e3, kc, kd', hn, n40, hI, hsc, hK, hl, hrun⟩
  · obtain ⟨m', el⟩ := hl (sI mm 44 0 0) agK_44
    have ex : m_X11_state S a1 a2 a3 a4 mm = some (-1, S, mm) := by
      unfold m_X11_state; rw [e1, ob_s, e3, ob_s]
      rcases hn with rfl | rfl
      · rfl
      · cases q1 <;> rfl
    have ey : m_X12_state a1 a2 a3 a4 mm = some (-1, m') := by unfold m_X12_state; rw [el, ob_s]; rfl
    exact op_no h ex ey (by decide) (fr_X12_state ey)
  · have C0 : m_X11_state S a1 a2 a3 a4 mm = (if a3 < 0 then (some (-1, S, mm)) else (if a3 ≤ nI n then ((m_X3_run S c d a3 mm).bind (fun q13 => if q13.1 = a3 then (gP (Lay q13.2.1) ((m_X3_tell a4 q13.2.2).bind (fun q17 => some (q17, q13.2.1, q13.2.2)))) else (some (-1, q13.2.1, q13.2.2)))) else (some (-1, S, mm)))) := by
      unfold m_X11_state; rw [e1, ob_s, e3, ob_s]; simp only [oM]; rw [gk_pos kd', hn, gk_pos kc]
    rcases arg_cases a3 (n := n + 1) (by omega) with ⟨N, hN, rfl⟩ | h3
    · obtain ⟨i, s, m2, er, hi, oks, hQ, hA, hm⟩ := hrun N (by omega)
      obtain ⟨m', el, ed, ⟨m3, ep, hR⟩, _⟩ := hm (sI m2 44 0 0) (agK_tr (qOK_K (by decide) hA) agK_44)
      have C1 : m_X11_state S a1 a2 (nI N) a4 mm = (if nI i = nI N then ((m_X3_tell a4 m2).bind (fun q17 => some (q17, S', m2))) else (some (-1, S', m2))) := by
        rw [C0, if_neg (by rw [show (0 : Int32) = nI 0 from rfl, n_lt (by omega) (by omega)]; omega), if_pos (by rw [n_le (by omega) (by omega)]; omega), er, ob_s, gP_pos hI.1.1]
      have M1 : m_X12_state a1 a2 (nI N) a4 m2 = (if nI i = nI N then ((m_X12_ofState a4 m3).bind (fun q10 => some (q10, m3))) else (some (-1, m3))) := by
        unfold m_X12_state; rw [el, ob_s, if_neg i10]; simp only; rw [ed, ob_s, in_y (by omega) (by omega), if_neg i2t, ep, ob_s]
      by_cases eN : nI i = nI N
      · obtain ⟨r, t1, t2⟩ := tell_state hQ hR oks.1 oks.2.1 a4
        have ex : m_X11_state S a1 a2 (nI N) a4 mm = some (r, S', m2) := by rw [C1, if_pos eN, t1, ob_s]
        have ey : m_X12_state a1 a2 (nI N) a4 m2 = some (r, m3) := by rw [M1, if_pos eN, t2, ob_s]
        exact op_yes hI hsc (by decide) hA ex ey (by decide) (fr_X12_state ey)
      · have ex : m_X11_state S a1 a2 (nI N) a4 mm = some (-1, S', m2) := by rw [C1, if_neg eN]
        have ey : m_X12_state a1 a2 (nI N) a4 m2 = some (-1, m3) := by rw [M1, if_neg eN]
        exact op_yes hI hsc (by decide) hA ex ey (by decide) (fr_X12_state ey)
    · obtain ⟨m', el, ed⟩ := hl (sI mm 44 0 0) agK_44
      have ex : m_X11_state S a1 a2 a3 a4 mm = some (-1, S, mm) := by
        rw [C0]
        by_cases z : a3 < 0
        · rw [if_pos z]
        · rw [if_neg z, if_neg (far_le (by omega) h3 z)]
      have ey : m_X12_state a1 a2 a3 a4 mm = some (-1, m') := by unfold m_X12_state; rw [el, ob_s, if_neg i10]; simp only; rw [ed, ob_s, in_n h3 (by omega), if_pos i2f]
      exact op_no h ex ey (by decide) (fr_X12_state ey)
theorem op_after {S : Sk} {mm : Mm} (h : Inv S mm) (a1 a2 a3 : Int32) : OpOK S (m_X11_after S a1 a2 a3 mm) (m_X12_after a1 a2 a3) := by
  rcases op_run h a1 a2 with ⟨q1, q3, e1, e3, hn, hl⟩ | ⟨c, d, n, S', m1, ci, e1, e3, kc, kd', hn, n40, hI, hsc, hK, hl, hrun⟩
  · obtain ⟨m', el⟩ := hl (sI mm 44 0 0) agK_44
    have ex : m_X11_after S a1 a2 a3 mm = some (-2, S, mm) := by
      unfold m_X11_after; rw [e1, ob_s, e3, ob_s]
      rcases hn with rfl | rfl
      · rfl
      · cases q1 <;> rfl
    have ey : m_X12_after a1 a2 a3 mm = some (-2, m') := by unfold m_X12_after; rw [el, ob_s]; rfl
    exact op_no h ex ey (by decide) (fr_X12_after ey)
  · obtain ⟨i, s, m2, er, hi, oks, hQ, hA, hm⟩ := hrun n (Nat.le_refl n)
    have wf := oks.1.1
    have C0 : m_X11_after S a1 a2 a3 mm = ((m_X3_tellAfter S' a3 m2).bind (fun q14 => some (q14.1, S', q14.2))) := by
      unfold m_X11_after; rw [e1, ob_s, e3, ob_s]; simp only [oM]; rw [gk_pos kd', gk_pos kc, hn, er, ob_s, gP_pos hI.1.1]
    obtain ⟨m', el, ed, _, ha⟩ := hm (sI m2 44 0 0) (agK_tr (qOK_K (by decide) hA) agK_44)
    obtain ⟨m3, ew, hR⟩ := ha rfl
    have M0 : m_X12_after a1 a2 a3 m2 = (if (m_X12_in a3 0 4) = 0 then (some (-2, m')) else (if a3 = 0 then (some (enc1 s.2.2.2.2.2.1, m3)) else (if a3 = 1 then ((m_X12_visitedMost m3).bind (fun q42 => some (q42, m3))) else (if a3 = 2 then (some (enc1 s.2.2.2.2.2.2.1, m3)) else (if a3 = 3 then ((m_X12_likings m3).bind (fun q46 => some (q46, m3))) else (some (nI s.2.2.2.2.2.2.2.2, m3))))))) := by
      unfold m_X12_after; rw [el, ob_s, if_neg i10]; simp only; rw [ew, ob_s]
    by_cases k1 : a3 = 1
    · obtain ⟨m4, e4⟩ := C_mostVisited hI.1.1 hQ.1 wf
      have A4 := fr_X3_mostVisited e4
      have A5 : agx [(13, none), (14, none), (15, none), (17, none), (18, none), (20, none), (21, none), (22, none), (24, none)] m1 m4 := agx_tr (agx_mono (by rfl) hA) (agx_mono (by rfl) A4)
      obtain ⟨m', el, ed, _, ha⟩ := hm (sI m4 44 0 0) (agK_tr (qOK_K (by decide) A5) agK_44)
      obtain ⟨m3, ew, hR⟩ := ha rfl
      have ex : m_X11_after S a1 a2 a3 mm = some (enc1 (grt1 (vto s.1) (fk s.1)).1, S', m4) := by
        rw [C0, k1]; unfold m_X3_tellAfter; rw [if_neg (by decide), if_pos rfl, e4, ob_s, ob_s]
      have ey : m_X12_after a1 a2 a3 m4 = some (enc1 (grt1 (vto s.1) (fk s.1)).1, m3) := by
        unfold m_X12_after; rw [el, ob_s, if_neg i10, k1, if_neg (by decide)]; simp only; rw [ew, ob_s, if_neg (by decide), if_pos trivial, M_visitedMost hR.1 wf oks.2.1, ob_s]
      exact op_yes hI hsc (by decide) A5 ex ey (by decide) (fr_X12_after ey)
    have fin : ∀ r m4, m_X3_tellAfter S' a3 m2 = some (r, m2) → m_X12_after a1 a2 a3 m2 = some (r, m4) → OpOK S (m_X11_after S a1 a2 a3 mm) (m_X12_after a1 a2 a3) := fun r m4 t1 t2 => by
      have ex : m_X11_after S a1 a2 a3 mm = some (r, S', m2) := by rw [C0, t1, ob_s]
      exact op_yes hI hsc (by decide) hA ex t2 (by decide) (fr_X12_after t2)
    by_cases k0 : a3 = 0
    · exact fin (enc1 s.2.2.2.2.2.1) m3 (by unfold m_X3_tellAfter; rw [if_pos k0, hQ.2.2.2.2.2.1]) (by rw [M0, if_neg (by rw [k0]; decide), if_pos k0])
    by_cases k2 : a3 = 2
    · exact fin (enc1 s.2.2.2.2.2.2.1) m3 (by unfold m_X3_tellAfter; rw [if_neg k0, if_neg k1, if_pos k2, hQ.2.2.2.2.2.2.1]) (by rw [M0, if_neg (by rw [k2]; decide), if_neg k0, if_neg k1, if_pos k2])
    by_cases k3 : a3 = 3
    · exact fin (nI (lks2 s.1)) m3 (by unfold m_X3_tellAfter; rw [if_neg k0, if_neg k1, if_neg k2, if_pos k3, C_countLikings hQ.1 wf, ob_s]) (by rw [M0, if_neg (by rw [k3]; decide), if_neg k0, if_neg k1, if_neg k2, if_pos k3, M_likings hR.1 wf, ob_s])
    by_cases k4 : a3 = 4
    · exact fin (nI s.2.2.2.2.2.2.2.2) m3 (by unfold m_X3_tellAfter; rw [if_neg k0, if_neg k1, if_neg k2, if_neg k3, if_pos k4, hQ.2.2.2.2.2.2.2.2]) (by rw [M0, if_neg (by rw [k4]; decide), if_neg k0, if_neg k1, if_neg k2, if_neg k3])
    · have inN : m_X12_in a3 0 4 = b2 false := by
        rw [show (4 : Int32) = nI 4 from rfl]
        rcases arg_cases a3 (n := 5) (by omega) with ⟨k, hk, rfl⟩ | h3
        · exfalso
          rcases (by omega : k = 0 ∨ k = 1 ∨ k = 2 ∨ k = 3 ∨ k = 4) with rfl | rfl | rfl | rfl | rfl
          · exact k0 rfl
          · exact k1 rfl
          · exact k2 rfl
          · exact k3 rfl
          · exact k4 rfl
        · exact in_n h3 (by decide)
      exact fin (-2) m' (by unfold m_X3_tellAfter; rw [if_neg k0, if_neg k1, if_neg k2, if_neg k3, if_neg k4]) (by rw [M0, inN, if_pos i2f])
theorem op_drawn {S : Sk} {mm : Mm} (h : Inv S mm) (a1 a2 a3 a4 : Int32) : OpOK S (m_X11_drawn S a1 a2 a3 a4 mm) (m_X12_drawn a1 a2 a3 a4) := by
  have l60 : (60 : Int32) = nI 60 := rfl
  rcases told_at h a1 with ⟨e0, e, hm⟩ | ⟨i, W, c, S', m1, ea, hi, e0, e, hc, hk, hv, ok, hV, hI, hsc, hK, eb, hm⟩
  · have ex : m_X11_drawn S a1 a2 a3 a4 mm = some (-1, S, mm) := by unfold m_X11_drawn; rw [e0, ob_s]; rfl
    have ey : m_X12_drawn a1 a2 a3 a4 mm = some (-1, sI mm 44 0 0) := by
      unfold m_X12_drawn
      split
      · rfl
      · rw [hm _ agK_44, ob_s]; rfl
    exact op_no h ex ey (by decide) (fr_X12_drawn ey)
  · have hkS : KD S c 2 := ⟨by rw [← hsc.1]; exact hk.1, by rw [← hsc.2.2.1]; exact hk.2⟩
    have C0 : m_X11_drawn S a1 a2 a3 a4 mm = (if a3 < 0 then (some (-1, S, mm)) else (if a3 ≤ 60 then ((m_X3_runSeed S c a2 a3 mm).bind (fun q8 => gP (Lay q8.1) ((m_X3_tell a4 q8.2).bind (fun q11 => some (q11, q8.1, q8.2))))) else (some (-1, S, mm)))) := by
      unfold m_X11_drawn; rw [e0, ob_s]; simp only [oM]; rw [gk_pos hkS]
    rcases arg_cases a3 (n := 61) (by omega) with ⟨n, hn, rfl⟩ | h3
    · obtain ⟨m1b, eB, hQ, hAB⟩ := begin3 eb hV hI.1.1
      have hQ9 : VQx (X0s W) (sI m1b 13 9 a2) := by
        obtain ⟨g0, g1, g2, g3, g4, g5, g6, g7, g8⟩ := hQ
        refine ⟨VC_wr g0 (by omega) _ _, ?_, ?_, ?_, ?_, ?_, ?_, ?_, ?_⟩ <;> rw [rdI_nj _ _ _ _ (by decide)] <;> assumption
      obtain ⟨m2, e2, hQ2, hA2⟩ := C_drawnW (q := (X0s W, a2)) hQ9 (X0s_ok ok) (rdI_eq _ _ _ _) (show n ≤ 60 by omega)
      have A3 : agx RLs m1 m2 := agx_tr (agx_tr (agx_mono (by rfl) hAB) (agx_wr (agx_rf _) (by rfl))) hA2
      obtain ⟨m', em, hR, hMV, hA⟩ := hm (sI m2 44 0 0) (agK_tr (qOK_K (by decide) A3) agK_44)
      obtain ⟨m3, e3, hR3⟩ := M_drawnW (q := (X0s W, a2)) (c := i) (mm := sI m' 44 54 a2) (VR_54 (s := X0s W) hR a2) (X0s_ok ok) (rdI_eq _ _ _ _) (show n ≤ 60 by omega)
      have oks := dseq_ok (q := (X0s W, a2)) (X0s_ok ok) n
      obtain ⟨r, t1, t2⟩ := tell_state hQ2 hR3 oks.1 oks.2.1 a4
      have ex : m_X11_drawn S a1 a2 (nI n) a4 mm = some (r, S', m2) := by
        rw [C0, if_neg (by rw [show (0 : Int32) = nI 0 from rfl, n_lt (by omega) (by omega)]; omega), if_pos (by rw [l60, n_le (by omega) (by omega)]; omega)]
        unfold m_X3_runSeed
        rw [eB, ob_s, gP_pos hI.1.1, e2, ob_s, ob_s, gP_pos hI.1.1, t1, ob_s]
      have ey : m_X12_drawn a1 a2 (nI n) a4 m2 = some (r, m3) := by
        unfold m_X12_drawn
        rw [l60, in_y (by omega) (by decide), if_neg i2t, em, ob_s, if_neg i10]; simp only
        rw [e3, ob_s, t2, ob_s]
      exact op_yes hI hsc (by decide) A3 ex ey (by decide) (fr_X12_drawn ey)
    · have ex : m_X11_drawn S a1 a2 a3 a4 mm = some (-1, S, mm) := by
        rw [C0]
        by_cases z : a3 < 0
        · rw [if_pos z]
        · rw [if_neg z, l60, if_neg (far_le (by decide) h3 z)]
      have ey : m_X12_drawn a1 a2 a3 a4 mm = some (-1, sI mm 44 0 0) := by unfold m_X12_drawn; rw [l60, in_n h3 (by decide), if_pos i2f]
      exact op_no h ex ey (by decide) (fr_X12_drawn ey)
