/-! L3: a text, as the reference reads it -/
theorem M54_Z {m : Mm} (h : ∀ k, k < 161 → mI m 54 k = nI (if (0 : Nat) = 0 ∧ 20 ≤ k ∧ k ≤ 27 then 5 else 0)) : M54 WZ m := by
  refine ⟨fun p hp => ?_, fun p hp => ?_, fun p hp => ?_, fun p hp => ?_, fun p hp => ?_, fun p hp => ?_, fun p hp => ?_, fun p hp => ?_⟩
  · rw [h _ (by omega), if_neg (by omega)]; rfl
  · rw [h _ (by omega), if_neg (by omega)]; rfl
  · rw [h _ (by omega), if_neg (by omega)]; rfl
  · rw [h _ (by omega), if_pos (by omega)]; rfl
  · rw [h _ (by omega), if_neg (by omega)]; rfl
  · rw [h _ (by omega), if_neg (by omega)]; rfl
  · rw [h _ (by omega), if_neg (by omega)]; rfl
  · rw [h _ (by omega), if_neg (by omega)]; rfl
theorem M_readText {u : Nat → Nat} {n g : Nat} {m : Mm} (hg : g < 4) (ht : TPM u n m) : ∃ m' i, m_X12_readText (nI g) m = some (b2 (decide (ftA g (stA u n g i) = 0)), m') ∧ enA u n g i ∧ mI m' 47 0 = nI (ftA g (stA u n g i)) ∧ mI m' 48 0 = plA n g (stA u n g i) ∧ (ftA g (stA u n g i) = 0 → TCn g (stA u n g i).2.1 (stA u n g i).2.2 m' ∧ TDn g (stA u n g i).2.1 (stA u n g i).2.2 m') ∧ agx rbL m m' := by
  obtain ⟨p2, e2, z2, a2⟩ := M_zero g hg m
  have n6 := ht.1
  unfold m_X12_readText
  rw [e2, ob_s]
  have aW : agx rbL m (sI (sI (sI p2 44 21 (-1)) 44 10 0) 44 17 0) := agx_wr (agx_wr (agx_wr (agx_mono (by rfl) a2) (by rfl)) (by rfl)) (by rfl)
  have t3 : TPM u n (sI (sI (sI p2 44 21 (-1)) 44 10 0) 44 17 0) := TPM_wr (TPM_wr (TPM_wr (TPM_a ht a2 (by rfl) (fun i => by rfl)) (by decide) (fun _ => by decide) _) (by decide) (fun _ => by decide) _) (by decide) (fun _ => by decide) _
  obtain ⟨q14, e14, _, k14, t14, a14⟩ := M_tok t3 (pos := 0) (Nat.zero_le _) (by rw [rdI_nj _ _ _ _ (by decide), rdI_eq]; rfl)
  have w54 : ∀ j, mI q14 54 j = mI p2 54 j := fun j => by rw [(a14 54 j (by rfl)).1, rdI_ne _ _ _ _ (by decide), rdI_ne _ _ _ _ (by decide), rdI_ne _ _ _ _ (by decide)]
  have hA : MAn u n g (stA u n g 0) q14 := by
    refine ⟨⟨t14, k14, fun q => absurd q (show ¬ (0 : Nat) = 1 by decide), fun _ => ⟨by rw [(a14 44 17 (by rfl)).1, rdI_eq]; rfl, fun q => absurd rfl q⟩⟩, fun _ => ⟨⟨fun g0 => ⟨?_, ?_⟩, fun g0 => ?_⟩, fun _ => ⟨fun g0 => ⟨?_, ?_⟩, fun g0 j q hj => absurd hj (Nat.not_lt_zero _)⟩⟩⟩
    · rw [w54, z2 0 (by decide), if_neg (by omega)]; rfl
    · rw [w54, z2 1 (by decide), if_neg (by omega)]; rfl
    · rw [w54, z2 0 (by decide), if_neg (by omega)]
      show nI 0 = nI (min (rwm g) 0)
      rw [Nat.min_zero]
    · subst g0
      exact M54_Z (fun k hk => by rw [w54]; exact z2 k hk)
    · rw [(a14 44 21 (by rfl)).1, rdI_nj _ _ _ _ (by decide), rdI_nj _ _ _ _ (by decide), rdI_eq]; rfl
  obtain ⟨i, w, ew, ei, hw1, hw2⟩ := M_all hg hA
  have aw := fr_X12_allLines ew
  have bw : agx rbL m w := agx_tr aW (agx_tr (agx_of (rb_of (by rfl)) a14) (agx_of (rb_of (by rfl)) aw))
  rw [e14, ob_s, ew, ob_s]
  simp only
  have gi := ei.2.2
  have gb := GT_b gi.1.2.2.1
  have f3 := gi.1.2.1
  have fin : ∀ (p18 : Mm) (F G : Int32), F = nI (ftA g (stA u n g i)) → G = plA n g (stA u n g i) → (∀ j, mI p18 54 j = mI w 54 j) → mI p18 44 21 = mI w 44 21 → agx rbL m p18 → ∃ m' i, (if (mI (sI (sI p18 47 (ix 0) F) 48 (ix 0) G) 47 (ix 0)) = 0 then (some ((1 : Int32), (sI (sI p18 47 (ix 0) F) 48 (ix 0) G))) else (some (0, (sI (sI p18 47 (ix 0) F) 48 (ix 0) G)))) = some (b2 (decide (ftA g (stA u n g i) = 0)), m') ∧ enA u n g i ∧ mI m' 47 0 = nI (ftA g (stA u n g i)) ∧ mI m' 48 0 = plA n g (stA u n g i) ∧ (ftA g (stA u n g i) = 0 → TCn g (stA u n g i).2.1 (stA u n g i).2.2 m' ∧ TDn g (stA u n g i).2.1 (stA u n g i).2.2 m') ∧ agx rbL m m' := by
    intro p18 F G hF hG y54 y21 ap
    subst hF hG
    have fb : ftA g (stA u n g i) < 10 := by
      unfold ftA
      split
      · decide
      · split
        · split <;> decide
        · omega
    rw [ix0, rdI_ne _ _ _ _ (by decide), rdI_eq]
    refine ⟨sI (sI p18 47 0 (nI (ftA g (stA u n g i)))) 48 0 (plA n g (stA u n g i)), i, ?_, ei, by rw [rdI_ne _ _ _ _ (by decide), rdI_eq], rdI_eq _ _ _ _, fun f0 => ?_, agx_wr (agx_wr ap (by rfl)) (by rfl)⟩
    · by_cases f0 : ftA g (stA u n g i) = 0
      · rw [if_pos (by rw [f0]; rfl), decide_eq_true f0]; rfl
      · rw [if_neg (by rw [show (0 : Int32) = nI 0 from rfl, n_eq (by omega) (by decide)]; exact f0), decide_eq_false f0]; rfl
    · have d0 : pd (stA u n g i).1 = 0 := by
        by_cases d1 : pd (stA u n g i).1 = 1
        · unfold ftA at f0; rw [if_pos d1] at f0; omega
        · have := gi.1.1; omega
      have p0 : pf (stA u n g i).1 = 0 := by
        by_cases p0 : pf (stA u n g i).1 = 0
        · exact p0
        · unfold ftA at f0; rw [if_neg (by omega), if_neg p0] at f0; exact f0
      obtain ⟨c1, c2⟩ := hw2 d0
      have y : ∀ j, mI (sI (sI p18 47 0 (nI (ftA g (stA u n g i)))) 48 0 (plA n g (stA u n g i))) 54 j = mI w 54 j := fun j => by rw [rdI_ne _ _ _ _ (by decide), rdI_ne _ _ _ _ (by decide)]; exact y54 j
      exact ⟨TCn_a c1 y, TDn_a (c2 p0) y (by rw [rdI_ne _ _ _ _ (by decide), rdI_ne _ _ _ _ (by decide)]; exact y21)⟩
  by_cases d0 : pd (stA u n g i).1 = 0
  · obtain ⟨x1, x2⟩ := hw1.2.2.2 d0
    obtain ⟨c1, c2⟩ := hw2 d0
    have k0 : (pt (stA u n g i).1).1 = 0 := by
      rcases ei.1 with q | q
      · omega
      · exact q
    rw [decide_eq_true d0]
    simp only [if_neg i2t]
    by_cases p0 : pf (stA u n g i).1 = 0
    · have pz : mI w 44 17 = 0 := by rw [x1, p0]; rfl
      by_cases g0 : g = 0
      · subst g0
        have ok := gi.2.2.2 d0 p0
        have cb := (ok.1 rfl).1
        obtain ⟨m1, m2⟩ := (c2 p0).1 rfl
        have fb := faA_b (okA_9 ok)
        have hm : msA (stA u n 0 i) = decide (cnK (stA u n 0 i).2.2 0 (stA u n 0 i).2.1 < faA (stA u n 0 i).2.2 (stA u n 0 i).2.1) := by unfold msA; exact ms_fa _
        rw [if_pos (show nI 0 = 0 from rfl), if_pos pz, ix0, m2, (c1.1 rfl).1, show min 6 (cnK (stA u n 0 i).2.2 0 (stA u n 0 i).2.1) = cnK (stA u n 0 i).2.2 0 (stA u n 0 i).2.1 by omega]
        by_cases cf : cnK (stA u n 0 i).2.2 0 (stA u n 0 i).2.1 < faA (stA u n 0 i).2.2 (stA u n 0 i).2.1
        · rw [if_neg (fun q => (fah_lt _ fb _ (by omega)).mp q cf), hw1.2.1.2.1]
          have ef : m_X12_addsFault 4 (nI (pt (stA u n 0 i).1).2.1) w = some (sI (sI w 44 17 4) 44 18 (nI (pt (stA u n 0 i).1).2.1)) := by
            unfold m_X12_addsFault
            rw [if_pos pz, bs_l]
          rw [decide_eq_true cf] at hm
          have ft : ftA 0 (stA u n 0 i) = 4 := by unfold ftA; rw [if_neg (by omega), if_pos p0, if_pos ⟨rfl, hm⟩]
          have pl : plA n 0 (stA u n 0 i) = nI n := by unfold plA; rw [if_neg (by omega), if_pos p0, if_pos ⟨rfl, hm⟩]
          rw [ef, ob_s, ob_s]
          refine fin (sI (sI w 44 17 4) 44 18 (nI (pt (stA u n 0 i).1).2.1)) _ _ ?_ ?_ (fun j => by rw [rdI_ne _ _ _ _ (by decide), rdI_ne _ _ _ _ (by decide)]) (by rw [rdI_nj _ _ _ _ (by decide), rdI_nj _ _ _ _ (by decide)]) (agx_wr (agx_wr bw (by rfl)) (by rfl))
          · rw [rdI_nj _ _ _ _ (by decide), rdI_eq, ft]; rfl
          · rw [rdI_ne _ _ _ _ (by decide), rdI_nj _ _ _ _ (by decide), rdI_eq, if_neg (by decide), rdI_ne _ _ _ _ (by decide), rdI_eq, pl, gb.2.2.2.1 k0]
        · rw [if_pos ((fah_lt _ fb _ (by omega)).mpr cf)]
          rw [decide_eq_false cf] at hm
          have ft : ftA 0 (stA u n 0 i) = 0 := by unfold ftA; rw [if_neg (by omega), if_pos p0, if_neg (by rw [hm]; decide)]
          have pl : plA n 0 (stA u n 0 i) = -1 := by unfold plA; rw [if_neg (by omega), if_pos p0, if_neg (by rw [hm]; decide)]
          rw [ob_s]
          refine fin w _ _ ?_ ?_ (fun j => rfl) rfl bw
          · rw [pz, ft]; rfl
          · rw [rdI_ne _ _ _ _ (by decide), pz, if_pos (by decide), pl]
      · have gz : ¬ nI g = 0 := by rw [show (0 : Int32) = nI 0 from rfl, n_eq (by omega) (by decide)]; exact g0
        have ft : ftA g (stA u n g i) = 0 := by unfold ftA; rw [if_neg (by omega), if_pos p0, if_neg (fun q => g0 q.1)]
        have pl : plA n g (stA u n g i) = -1 := by unfold plA; rw [if_neg (by omega), if_pos p0, if_neg (fun q => g0 q.1)]
        rw [if_neg gz, ob_s]
        refine fin w _ _ ?_ ?_ (fun j => rfl) rfl bw
        · rw [pz, ft]; rfl
        · rw [rdI_ne _ _ _ _ (by decide), pz, if_pos (by decide), pl]
    · have pz : ¬ mI w 44 17 = 0 := by rw [x1, show (0 : Int32) = nI 0 from rfl, n_eq (by omega) (by decide)]; exact p0
      have ft : ftA g (stA u n g i) = pf (stA u n g i).1 := by unfold ftA; rw [if_neg (by omega), if_neg p0]
      have pl : plA n g (stA u n g i) = nI (pq (stA u n g i).1) := by unfold plA; rw [if_neg (by omega), if_neg p0]
      rw [if_neg pz, ite_self, ob_s]
      refine fin w _ _ ?_ ?_ (fun j => rfl) rfl bw
      · rw [x1, ft]
      · rw [rdI_ne _ _ _ _ (by decide), x1, if_neg (by rw [show (0 : Int32) = nI 0 from rfl, n_le (by omega) (by decide)]; omega), rdI_ne _ _ _ _ (by decide), x2 p0, pl]
  · have d1 : pd (stA u n g i).1 = 1 := by have := gi.1.1; omega
    have ft : ftA g (stA u n g i) = 1 := by unfold ftA; rw [if_pos d1]
    have pl : plA n g (stA u n g i) = nI (pt (stA u n g i).1).2.1 := by unfold plA; rw [if_pos d1]
    rw [decide_eq_false d0]
    simp only [if_pos i2f]
    rw [ob_s]
    refine fin w _ _ ?_ ?_ (fun j => rfl) rfl bw
    · rw [ft]; rfl
    · rw [rdI_ne _ _ _ _ (by decide), hw1.2.2.1 d1, pl]
