/-! L3: text() in both, where there is a place -/
theorem ft_0 {u : Nat → Nat} {n g : Nat} {A : As} (ga : GA u n g A) (h : ftA g A = 0) : pd A.1 = 0 ∧ pf A.1 = 0 ∧ (g = 0 → msA A = false) := by
  have d0 : pd A.1 = 0 := by
    by_cases d1 : pd A.1 = 1
    · unfold ftA at h; rw [if_pos d1] at h; omega
    · have := ga.1.1; omega
  have p0 : pf A.1 = 0 := by
    by_cases p0 : pf A.1 = 0
    · exact p0
    · unfold ftA at h; rw [if_neg (by omega), if_neg p0] at h; exact h
  refine ⟨d0, p0, fun g0 => ?_⟩
  unfold ftA at h
  rw [if_neg (by omega), if_pos p0] at h
  cases hm : msA A with
  | false => rfl
  | true => rw [if_pos ⟨g0, hm⟩] at h; omega
theorem ft_b {u : Nat → Nat} {n g : Nat} {A : As} (ga : GA u n g A) : ftA g A < 10 := by
  have := ga.1.2.1
  unfold ftA
  split
  · decide
  · split
    · split <;> decide
    · omega
theorem MV_54 {W : Cn} {o : Nat} {m m' : Mm} (h : M54 W m) (h0 : mI m 54 0 = nI (fk W)) (h1 : mI m 54 1 = nI (oa W)) (e : ∀ y, y < 72 → mI m' 50 (o + y) = mI m 54 y) : MV W o m' := by
  obtain ⟨g1, g2, g3, g4, g5, g6, g7, g8⟩ := h
  refine ⟨?_, ?_, fun p hp => ?_, fun p hp => ?_, fun p hp => ?_, fun p hp => ?_, fun p hp => ?_, fun p hp => ?_, fun p hp => ?_, fun p hp => ?_⟩
  · have := e 0 (by decide); rw [Nat.add_zero] at this; rw [this]; exact h0
  · rw [e _ (by decide)]; exact h1
  · rw [e _ (by omega)]; exact g1 p hp
  · rw [e _ (by omega)]; exact g2 p hp
  · rw [e _ (by omega)]; exact g3 p hp
  · rw [e _ (by omega)]; exact g4 p hp
  · rw [e _ (by omega)]; exact g5 p hp
  · rw [e _ (by omega)]; exact g6 p hp
  · rw [e _ (by omega)]; exact g7 p hp
  · rw [e _ (by omega)]; exact g8 p hp
theorem RM_54 {g : Nat} (g1 : 1 ≤ g) (hg : g < 4) {N o : Nat} {z : Nat → Nat → Int32} {m m' : Mm} (hN : N ≤ rwm g) (h0 : mI m 54 0 = nI N) (h : ∀ j q, j < N → q < rwn g → mI m 54 (1 + rwn g * j + q) = z j (rw0 g + q)) (e : ∀ y, y < rwz g → mI m' (50 + g) (o + y) = mI m 54 y) : RM N z g o m' := by
  have hz : 1 + rwn g * rwm g ≤ rwz g ∧ 0 < rwz g := by rcases (by omega : g = 1 ∨ g = 2 ∨ g = 3) with rfl | rfl | rfl <;> decide
  refine ⟨by have := e 0 hz.2; rw [Nat.add_zero] at this; rw [this]; exact h0, fun j q hj hq => ?_⟩
  have hx : 1 + rwn g * j + q < rwz g := by
    have : rwn g * (j + 1) ≤ rwn g * rwm g := Nat.mul_le_mul_left _ (by omega)
    rw [Nat.mul_add, Nat.mul_one] at this
    omega
  rw [show o + 1 + rwn g * j + q = o + (1 + rwn g * j + q) by omega, e _ hx]
  exact h j q hj hq
theorem text_yes {S : Sk} {mm : Mm} (h : Inv S mm) {T : Td} (wt : WT T) (hc : CT T 1 S mm) (hm : MT T 0 mm) {g k : Nat} {a2 : Int32} (hg : g < 4) (hk : k < 2) (hkn : k ≤ tn T g) (hp : m_X9_placeFor (nI g) a2 mm = some (nI k)) (hr : ∀ (S' : Sk) (mc : Mm) (q12 : Int32 × Mm), mI mc 49 g = nI (tn T g) → m_X12_readText (nI g) (rsX mc) = some q12 → mI q12.2 49 g = nI (tn T g) → m_X12_text S' (nI g) a2 mc = if q12.1 = 0 then some (-1, q12.2) else (m_X12_storeOf S' (nI g) (nI k) (sI q12.2 49 g (nI (max (tn T g) (k + 1))))).bind (fun q26 => some (nI k, q26))) : OpG S (m_X11_text S (nI g) a2 mm) (fun S' => m_X12_text S' (nI g) a2) := by
  have n71 : 71 ≤ sN S := h.1.1.1
  have w1 := wt.1
  have tn2 := wt.2.1 g hg
  have hu0 : ∀ i, ∃ v, v < 256 ∧ (i < tl T → tp T i = sb v ∧ (tp T i) &&& 255 = nI v) := fun i => by
    by_cases hi : i < tl T
    · obtain ⟨v, a, b, c⟩ := by_u (hc.2.1 i hi).2
      exact ⟨v, a, fun _ => ⟨b, c⟩⟩
    · exact ⟨0, by decide, fun q => absurd q hi⟩
  obtain ⟨u, hu⟩ : ∃ u : Nat → Nat, ∀ i, u i < 256 ∧ (i < tl T → tp T i = sb (u i) ∧ (tp T i) &&& 255 = nI (u i)) := ⟨fun i => Classical.choose (hu0 i), fun i => Classical.choose_spec (hu0 i)⟩
  have hS1 : SI (sRs S 7 5 (some 2)) := SI_s h.1 (by decide) (by rw [h.1.1.2.1 7 (by decide)]; decide)
  have sc : scR S (sRs S 7 5 (some 2)) := scR_s ⟨by decide, by decide⟩
  have hRF1 : RF (sRs S 7 5 (some 2)) := RF_s h.1.1 sc h.2.2.2.2.2
  obtain ⟨mq, i, e1, ei, f1, p1, cA, aA⟩ := C_read (u := u) (n := tl T) (g := g) (S := S) (m := clX mm) h.1 hg w1 (fun i => (hu i).1) (fun i hi => by rw [clX_o _ (by omega), ← ((hu i).2 hi).1]; exact (hc.2.1 i hi).1)
  have ga := ei.2.2
  have fb := ft_b ga
  have gb := GT_b ga.1.2.2.1
  have RD : ∀ mc : Mm, (∀ p j, 44 ≤ p → p < 71 → mI mc p j = mI mm p j) → ∃ mr, m_X12_readText (nI g) (rsX mc) = some (b2 (decide (ftA g (stA u (tl T) g i) = 0)), mr) ∧ mI mr 47 0 = nI (ftA g (stA u (tl T) g i)) ∧ mI mr 48 0 = plA (tl T) g (stA u (tl T) g i) ∧ (ftA g (stA u (tl T) g i) = 0 → TCn g (stA u (tl T) g i).2.1 (stA u (tl T) g i).2.2 mr ∧ TDn g (stA u (tl T) g i).2.1 (stA u (tl T) g i).2.2 mr) ∧ agx rbL (rsX mc) mr := by
    intro mc hmc
    obtain ⟨mr, i', x1, x2, x3, x4, x5, x6⟩ := M_readText (u := u) (n := tl T) (m := rsX mc) hg ⟨w1, fun i => (hu i).1, by rw [rsX_11, hmc 46 0 (by decide) (by decide)]; exact hm.1, fun i hi => by
      have := hm.2.1 i hi
      rw [Nat.mul_zero, Nat.zero_add] at this
      rw [rsX_o _ (by omega) (by omega), hmc 45 i (by decide) (by decide), this]; exact ((hu i).2 hi).2⟩
    have := enA_one x2 ei
    subst this
    exact ⟨mr, x1, x3, x4, x5, x6⟩
  generalize stA u (tl T) g i = A at *
  have hpl : ∀ x y, mI (sI (sI mq 1 2 x) 1 3 y) 7 1 = nI (ftA g A) := fun x y => by rw [rdI_ne _ _ _ _ (by decide), rdI_ne _ _ _ _ (by decide)]; exact f1
  have X : m_X11_text S (nI g) a2 mm = if nI (ftA g A) = 0 then ((m_X9_store (sRs S 7 5 (some 2)) (nI g) (nI k) (sI (sI mq 1 2 (nI (ftA g A))) 1 3 (plA (tl T) g A))).bind (fun q8 => some (nI k, q8.1, q8.2))) else some (-1, sRs S 7 5 (some 2), sI (sI mq 1 2 (nI (ftA g A))) 1 3 (plA (tl T) g A)) := by
    unfold m_X11_text
    have e1' : m_X5_read S (nI (tl T)) (nI g) (sI (sI (sI mm 1 1 0) 1 2 0) 1 3 (-1)) = some (sRs S 7 5 (some 2), mq) := e1
    rw [hp, ob_s, if_pos (by rw [show (0 : Int32) = nI 0 from rfl, n_le (by decide) (by omega)]; omega), show mI mm 1 1 = nI (tl T) from hc.1, e1', ob_s]
    simp only
    have p1' : mI (sI mq 1 2 (nI (ftA g A))) 7 2 = plA (tl T) g A := by rw [rdI_ne _ _ _ _ (by decide)]; exact p1
    rw [gP_pos hS1.1, f1, p1', hpl]
  have fe : ∀ p j, (p ≠ 7 ∧ p ≠ 8 ∧ p ≠ 9 ∧ p ≠ 10 ∧ p ≠ 11) → ¬ (p = 1 ∧ (j = 1 ∨ j = 2 ∨ j = 3)) → mI (sI (sI mq 1 2 (nI (ftA g A))) 1 3 (plA (tl T) g A)) p j = mI mm p j := fun p j h1 h2 => by
    rw [rdI, if_neg (by omega), rdI, if_neg (by omega), (aA p j (cov_ra h1)).1, clX_o _ h2]
  have d11 : mI (sI (sI mq 1 2 (nI (ftA g A))) 1 3 (plA (tl T) g A)) 1 1 = nI 0 := by
    rw [rdI_nj _ _ _ _ (by decide), rdI_nj _ _ _ _ (by decide), (aA 1 1 (by rfl)).1]; exact clX_1 mm
  have d12 : mI (sI (sI mq 1 2 (nI (ftA g A))) 1 3 (plA (tl T) g A)) 1 2 = nI (ftA g A) := by rw [rdI_nj _ _ _ _ (by decide), rdI_eq]
  have d13 : mI (sI (sI mq 1 2 (nI (ftA g A))) 1 3 (plA (tl T) g A)) 1 3 = plA (tl T) g A := rdI_eq _ _ _ _
  have d89 : ∀ p j, p = 8 ∨ p = 9 → mI (sI (sI mq 1 2 (nI (ftA g A))) 1 3 (plA (tl T) g A)) p j = mI mq p j := fun p j q => by
    rw [rdI_ne _ _ _ _ (by omega), rdI_ne _ _ _ _ (by omega)]
  generalize sI (sI mq 1 2 (nI (ftA g A))) 1 3 (plA (tl T) g A) = md at *
  have h49 : mI mm 49 g = nI (tn T g) := by
    have := hm.2.2.2.2.1 g hg
    rwa [Nat.mul_zero, Nat.zero_add] at this
  have h3g : mI mm 3 g = nI (tn T g) := hc.2.2.2.2.1 g hg
  by_cases f0 : ftA g A = 0
  · rw [f0] at d12
    obtain ⟨z1, z2, z3⟩ := ft_0 ga f0
    have ok := ga.2.2.2 z1 z2
    have pl0 : plA (tl T) g A = -1 := by
      unfold plA
      rw [if_neg (by omega), if_pos z2, if_neg]
      rintro ⟨q1, q2⟩
      rw [z3 q1] at q2
      cases q2
    rw [pl0] at d13
    obtain ⟨c1, c2, c3, c4, c5⟩ := cA f0
    have N100 : A.2.1 ≤ 100 := by
      by_cases g0 : g = 0
      · have := ga.2.2.1 g0; omega
      · have := ok.2.1 g0
        have : rwm g ≤ 40 := by rcases (by omega : g = 1 ∨ g = 2 ∨ g = 3) with rfl | rfl | rfl <;> decide
        omega
    have eN : min A.2.1 100 = A.2.1 := by omega
    rw [eN] at c3 c4
    rw [X, if_pos (by rw [f0]; rfl)]
    by_cases g0 : g = 0
    · subst g0
      obtain ⟨m', e2, vo, fm⟩ := init_2 hS1 hRF1 md N100 (by rw [d89 8 1 (Or.inl rfl)]; exact c3) (fun j q hj hq => by rw [d89 9 _ (Or.inr rfl)]; exact c4 j q hj hq) ok
      obtain ⟨n5, w5, KK, R0, R1⟩ := skC_f (sRs S 7 5 (some 2))
      obtain ⟨hS2, hRF2, hK2⟩ := skC_SI hS1 hRF1
      have S1 : (sRs S 7 5 (some 2)).1 = sN S := rfl
      have w5' : sW (sRs S 7 5 (some 2)) = sW S := rfl
      rw [S1] at e2 vo fm n5 w5 KK R0 R1 hS2 hRF2 hK2
      rw [w5'] at w5
      have K0 : ∀ p, p < sN S → sK (skC (nwS (sRs S 7 5 (some 2)) 2 0 10) (sN S)) p = sK S p := fun p hp => by
        rw [KK, if_neg (by omega), if_neg (by omega), if_neg (by omega), if_neg (by omega), if_neg (by omega), if_neg (by omega), if_neg (by omega), if_neg (by omega), if_neg (by omega)]; rfl
      generalize skC (nwS (sRs S 7 5 (some 2)) 2 0 10) (sN S) = S2 at *
      have hS3 : SI (sRs S2 4 k (some (sN S))) := SI_s hS2 (lay_no (by decide)) (by rw [hS2.1.2.1 4 (by decide)]; decide)
      have hRF3 : RF (sRs S2 4 k (some (sN S))) := RF_4 hS2 hRF2 hK2
      have m3 : mI m' 3 0 = nI (tn T 0) := by rw [fm 3 0 (by omega), fe 3 0 (by decide) (by decide)]; exact h3g
      have eS : m_X9_store (sRs S 7 5 (some 2)) (nI 0) (nI k) md = some (sRs S2 4 k (some (sN S)), sI m' 3 0 (nI (max (tn T 0) (k + 1)))) := by
        unfold m_X9_store
        rw [if_pos (show nI 0 = 0 from rfl), S1, e2, ob_s]
        simp only
        rw [gP_pos hS2.1, gk_pos hK2, n_grd (by omega) (by decide), n_ix (by omega), ob_s]
        simp only
        rw [gP_pos hS3.1, n_grd (by decide) (by decide), n_grd (by decide) (by decide), n_ix (by decide), m3, show (1 : Int32) = nI 1 from rfl, nI_add, n_max (by omega) (by omega)]
      rw [eS, ob_s]
      simp only
      have fme : ∀ p j, p < sN S → (p ≠ 7 ∧ p ≠ 8 ∧ p ≠ 9 ∧ p ≠ 10 ∧ p ≠ 11) → ¬ (p = 1 ∧ (j = 1 ∨ j = 2 ∨ j = 3)) → ¬ (p = 3 ∧ j = 0) → mI (sI m' 3 0 (nI (max (tn T 0) (k + 1)))) p j = mI mm p j := fun p j q1 q2 q3 q4 => by
        rw [rdI, if_neg q4, fm p j q1, fe p j q2 q3]
      have me1 : ∀ j, j = 1 ∨ j = 2 ∨ j = 3 → mI (sI m' 3 0 (nI (max (tn T 0) (k + 1)))) 1 j = mI md 1 j := fun j _ => by rw [rdI_ne _ _ _ _ (by decide), fm 1 j (by omega)]
      have me3 : mI (sI m' 3 0 (nI (max (tn T 0) (k + 1)))) 3 0 = nI (max (tn T 0) (k + 1)) := rdI_eq _ _ _ _
      have meo : ∀ p j, p ≠ 3 → mI (sI m' 3 0 (nI (max (tn T 0) (k + 1)))) p j = mI m' p j := fun p j hp => rdI_ne _ _ _ _ hp
      generalize sI m' 3 0 (nI (max (tn T 0) (k + 1))) = me at *
      obtain ⟨mr, x1, x2, x3, x4, x5⟩ := RD me (fun p j q1 q2 => fme p j (by omega) (by omega) (by omega) (by omega))
      obtain ⟨y1, y2⟩ := x4 f0
      have r49 : mI mr 49 0 = nI (tn T 0) := by rw [(x5 49 0 (by rfl)).1, rsX_o _ (by omega) (by omega), fme 49 0 (by omega) (by decide) (by decide) (by decide)]; exact h49
      have hr' := hr (sRs S2 4 k (some (sN S))) me _ (by rw [fme 49 0 (by omega) (by decide) (by decide) (by decide)]; exact h49) x1 r49
      obtain ⟨ms, e5, s1, s2⟩ := M_store (S := sRs S2 4 k (some (sN S))) (m := sI mr 49 0 (nI (max (tn T 0) (k + 1)))) (pl := 50) (wide := 72) (k := k) (o := 72 * k) (L := 576) (x := 72) rfl (by rw [hS3.1.2.1 50 (by decide)]; rfl) (by decide) rfl (by omega) (by decide) (by decide)
      have cn := WDr_n (okA_5 ok)
      obtain ⟨o1, o2⟩ := ok.1 rfl
      have sF : ∀ p j, p ≠ 44 → p ≠ 54 → p ≠ 55 → ¬ ((p = 46 ∨ p = 47 ∨ p = 48) ∧ j = 0) → ¬ (p = 49 ∧ j = 0) → ¬ (p = 50 ∧ 72 * k ≤ j ∧ j < 72 * k + 72) → mI ms p j = mI me p j := fun p j q1 q2 q3 q4 q5 q6 => by
        rw [s2 p j q6, rdI, if_neg q5, (x5 p j (cov_rb ⟨q1, q2, q3⟩ (by omega))).1, rsX_o _ (by omega) q4]
      refine ⟨nI k, _, me, ms, rfl, ?_, ?_, ?_, ?_⟩
      · show m_X12_text _ _ _ _ = _
        rw [hr']
        simp only
        rw [decide_eq_true f0, if_neg i2t]
        unfold m_X12_storeOf
        rw [if_pos (show nI 0 = 0 from rfl), e5, ob_s, ob_s]
      · refine Inv_s0 h wt hc hm hS3 hRF3 ⟨?_, fun p hp => ?_, fun p i hp hq => ?_⟩ ?_ hk hkn (fun i hi => ?_) (fun i => ?_) (fun p j q0 q1 q2 q3 q4 q5 q6 => ?_) (fun j => ?_) ?_ ?_ ?_ ?_ ?_ ?_ ?_ ?_ (okC_D ok (z3 rfl)) n71 ?_ (show KD S2 (sN S) 2 from hK2) ?_ ?_
        · show sN S ≤ sN S2; rw [n5]; omega
        · exact K0 p hp
        · rw [rdR, if_neg (by omega), R0 p i hp, rdR, if_neg (by omega)]
        · rw [rdR, if_neg (by omega), R0 14 11 (by omega), rdR, if_neg (by decide)]
        · rw [rdR, if_neg (fun q => hi q.2), R0 4 i (by omega), rdR, if_neg (by omega)]
        · rw [rdR, if_neg (by omega), R0 5 i (by omega), rdR, if_neg (by omega)]
        · have k44 : p ≠ 44 ∧ p ≠ 54 ∧ p ≠ 55 ∧ p ≠ 7 ∧ p ≠ 8 ∧ p ≠ 9 ∧ p ≠ 10 ∧ p ≠ 11 := by
            refine ⟨?_, ?_, ?_, ?_, ?_, ?_, ?_, ?_⟩ <;> rintro rfl <;> exact absurd q1 (by decide)
          rw [sF p j k44.1 k44.2.1 k44.2.2.1 q4 q5 q6, fme p j q0 k44.2.2.2 q2 q3]
        · rw [sF 23 j (by decide) (by decide) (by decide) (by omega) (by omega) (by omega), fme 23 j (by omega) (by decide) (by omega) (by omega)]
        · rw [sF 1 1 (by decide) (by decide) (by decide) (by decide) (by decide) (by omega), me1 1 (by omega)]; exact d11
        · rw [sF 1 2 (by decide) (by decide) (by decide) (by decide) (by decide) (by omega), me1 2 (by omega)]; exact d12
        · rw [sF 1 3 (by decide) (by decide) (by decide) (by decide) (by decide) (by omega), me1 3 (by omega)]; exact d13
        · rw [s2 46 0 (by omega), rdI_ne _ _ _ _ (by decide), (x5 46 0 (by rfl)).1]; exact rsX_46 _
        · rw [s2 47 0 (by omega), rdI_ne _ _ _ _ (by decide), x2, f0]
        · rw [s2 48 0 (by omega), rdI_ne _ _ _ _ (by decide), x3, pl0]
        · rw [sF 3 0 (by decide) (by decide) (by decide) (by decide) (by decide) (by omega)]; exact me3
        · rw [s2 49 0 (by omega), rdI_eq]
        · rw [rdR, if_pos ⟨rfl, rfl⟩]
        · have q : ∀ x j, x ≤ 8 → mI ms (sN S + x) j = mI m' (sN S + x) j := fun x j hx => by
            rw [sF _ _ (by omega) (by omega) (by omega) (by omega) (by omega) (by omega), meo _ _ (by omega)]
          have q0 : ∀ j, mI ms (sN S) j = mI m' (sN S) j := fun j => q 0 j (by decide)
          unfold VO at vo ⊢
          simp (disch := omega) only [q, q0]
          exact vo
        · refine MV_54 ((y2.1 rfl).1) (by rw [(y1.1 rfl).1, cn.1, show min 6 (cnK A.2.2 0 A.2.1) = cnK A.2.2 0 A.2.1 by omega]) (by rw [(y1.1 rfl).2, cn.2, show min 12 (cnK A.2.2 4 A.2.1) = cnK A.2.2 4 A.2.1 by omega]) (fun y hy => ?_)
          rw [s1 y hy, rdI_ne _ _ _ _ (by decide)]
      · show sN S2 ≤ _; rw [n5]; omega
      · show sW S2 ≤ _; rw [w5]; omega
    · have g1 : 1 ≤ g := by omega
      obtain ⟨S2, m', e2, n5, w5, K0, R0, hS2, hRF2, ro, fm⟩ := copy_6 hS1 hRF1 md (z := fun j q => enX g (A.2.2 j) q) N100 (by rw [d89 8 1 (Or.inl rfl)]; exact c3) (fun j q hj hq => by rw [d89 9 _ (Or.inr rfl)]; exact c4 j q hj hq)
      have S1 : sN (sRs S 7 5 (some 2)) = sN S := rfl
      have w5' : sW (sRs S 7 5 (some 2)) = sW S := rfl
      rw [S1] at e2 n5 K0 R0 ro fm
      rw [w5'] at w5
      have hS3 : SI (sRs S2 5 (g * 2 + k) (some (sN S))) := SI_s hS2 (lay_no (by decide)) (by rw [hS2.1.2.1 5 (by decide)]; decide)
      have hRF3 : RF (sRs S2 5 (g * 2 + k) (some (sN S))) := RF_5 hS2 hRF2 ro.1
      have m3 : mI m' 3 g = nI (tn T g) := by rw [fm 3 g (by omega), fe 3 g (by decide) (by omega)]; exact h3g
      have gz : ¬ nI g = 0 := by rw [show (0 : Int32) = nI 0 from rfl, n_eq (by omega) (by decide)]; exact g0
      have eS : m_X9_store (sRs S 7 5 (some 2)) (nI g) (nI k) md = some (sRs S2 5 (g * 2 + k) (some (sN S)), sI m' 3 g (nI (max (tn T g) (k + 1)))) := by
        unfold m_X9_store
        rw [if_neg gz, e2, ob_s]
        simp only
        rw [gP_pos hS2.1, gP_pos (fun v q => by cases q; exact ro.1), show (2 : Int32) = nI 2 from rfl, n_mul, nI_add, n_grd (by omega) (by decide), n_ix (by omega), ob_s]
        simp only
        rw [gP_pos hS3.1, n_grd (by omega) (by decide), n_grd (by omega) (by decide), n_ix (by omega), m3, show (1 : Int32) = nI 1 from rfl, nI_add, n_max (by omega) (by omega)]
      rw [eS, ob_s]
      simp only
      have fme : ∀ p j, p < sN S → (p ≠ 7 ∧ p ≠ 8 ∧ p ≠ 9 ∧ p ≠ 10 ∧ p ≠ 11) → ¬ (p = 1 ∧ (j = 1 ∨ j = 2 ∨ j = 3)) → ¬ (p = 3 ∧ j = g) → mI (sI m' 3 g (nI (max (tn T g) (k + 1)))) p j = mI mm p j := fun p j q1 q2 q3 q4 => by
        rw [rdI, if_neg q4, fm p j q1, fe p j q2 q3]
      have me1 : ∀ j, j = 1 ∨ j = 2 ∨ j = 3 → mI (sI m' 3 g (nI (max (tn T g) (k + 1)))) 1 j = mI md 1 j := fun j _ => by rw [rdI_ne _ _ _ _ (by decide), fm 1 j (by omega)]
      have me3 : mI (sI m' 3 g (nI (max (tn T g) (k + 1)))) 3 g = nI (max (tn T g) (k + 1)) := rdI_eq _ _ _ _
      have meo : ∀ p j, p ≠ 3 → mI (sI m' 3 g (nI (max (tn T g) (k + 1)))) p j = mI m' p j := fun p j hp => rdI_ne _ _ _ _ hp
      generalize sI m' 3 g (nI (max (tn T g) (k + 1))) = me at *
      obtain ⟨mr, x1, x2, x3, x4, x5⟩ := RD me (fun p j q1 q2 => fme p j (by omega) (by omega) (by omega) (by omega))
      obtain ⟨y1, y2⟩ := x4 f0
      have r49 : mI mr 49 g = nI (tn T g) := by rw [(x5 49 g (by rfl)).1, rsX_o _ (by omega) (by omega), fme 49 g (by omega) (by decide) (by omega) (by omega)]; exact h49
      have hr' := hr (sRs S2 5 (g * 2 + k) (some (sN S))) me _ (by rw [fme 49 g (by omega) (by decide) (by omega) (by omega)]; exact h49) x1 r49
      have kz : ∃ L, (sK (sRs S2 5 (g * 2 + k) (some (sN S))) (50 + g)).2 = L ∧ rwz g ≤ 161 ∧ rwz g * k + rwz g ≤ L ∧ L < 100000 := by
        rw [hS3.1.2.1 (50 + g) (by omega)]
        rcases (by omega : g = 1 ∨ g = 2 ∨ g = 3) with rfl | rfl | rfl
        · exact ⟨1288, rfl, by decide, by show 161 * k + 161 ≤ 1288; omega, by decide⟩
        · exact ⟨104, rfl, by decide, by show 13 * k + 13 ≤ 104; omega, by decide⟩
        · exact ⟨200, rfl, by decide, by show 25 * k + 25 ≤ 200; omega, by decide⟩
      obtain ⟨L, L1, L2, L3, L4⟩ := kz
      obtain ⟨ms, e5, s1, s2⟩ := M_store (S := sRs S2 5 (g * 2 + k) (some (sN S))) (m := sI mr 49 g (nI (max (tn T g) (k + 1)))) (pl := 50 + g) (wide := rwz g) (k := k) (o := rwz g * k) (L := L) (x := nI (rwz g)) rfl L1 L2 rfl L3 L4 (by omega)
      have sF : ∀ p j, p ≠ 44 → p ≠ 54 → p ≠ 55 → ¬ ((p = 46 ∨ p = 47 ∨ p = 48) ∧ j = 0) → ¬ (p = 49 ∧ j = g) → ¬ (p = 50 + g ∧ rwz g * k ≤ j ∧ j < rwz g * k + rwz g) → mI ms p j = mI me p j := fun p j q1 q2 q3 q4 q5 q6 => by
        rw [s2 p j q6, rdI, if_neg q5, (x5 p j (cov_rb ⟨q1, q2, q3⟩ (by omega))).1, rsX_o _ (by omega) q4]
      have hN := ok.2.1 g0
      refine ⟨nI k, _, me, ms, rfl, ?_, ?_, ?_, ?_⟩
      · show m_X12_text _ _ _ _ = _
        rw [hr']
        simp only
        rw [decide_eq_true f0, if_neg i2t]
        unfold m_X12_storeOf
        rcases (by omega : g = 1 ∨ g = 2 ∨ g = 3) with rfl | rfl | rfl
        · rw [if_neg (by decide), if_pos (by rfl), show m_X12_store _ 51 161 (nI k) _ = some ms from e5, ob_s, ob_s]
        · rw [if_neg (by decide), if_neg (by decide), if_pos (by rfl), show m_X12_store _ 52 13 (nI k) _ = some ms from e5, ob_s, ob_s]
        · rw [if_neg (by decide), if_neg (by decide), if_neg (by decide), show m_X12_store _ 53 25 (nI k) _ = some ms from e5, ob_s, ob_s]
      · refine Inv_s1 h wt hc hm hS3 hRF3 ⟨?_, fun p hp => ?_, fun p i hp hq => ?_⟩ ?_ g1 hg hk hkn (fun i => ?_) (fun i hi => ?_) (fun p j q0 q1 q2 q3 q4 q5 q6 => ?_) (fun j => ?_) ?_ ?_ ?_ ?_ ?_ ?_ ?_ ?_ (okR_D g1 hg ok) n71 ?_ ?_ ?_
        · show sN S ≤ sN S2; rw [n5]; omega
        · exact K0 p hp
        · rw [rdR, if_neg (by omega), R0 p i hp, rdR, if_neg (by omega)]
        · rw [rdR, if_neg (by omega), R0 14 11 (by omega), rdR, if_neg (by decide)]
        · rw [rdR, if_neg (by omega), R0 4 i (by omega), rdR, if_neg (by omega)]
        · rw [rdR, if_neg (fun q => hi q.2), R0 5 i (by omega), rdR, if_neg (by omega)]
        · have k44 : p ≠ 44 ∧ p ≠ 54 ∧ p ≠ 55 ∧ p ≠ 7 ∧ p ≠ 8 ∧ p ≠ 9 ∧ p ≠ 10 ∧ p ≠ 11 := by
            refine ⟨?_, ?_, ?_, ?_, ?_, ?_, ?_, ?_⟩ <;> rintro rfl <;> exact absurd q1 (by decide)
          rw [sF p j k44.1 k44.2.1 k44.2.2.1 q4 q5 q6, fme p j q0 k44.2.2.2 q2 q3]
        · rw [sF 23 j (by decide) (by decide) (by decide) (by omega) (by omega) (by omega), fme 23 j (by omega) (by decide) (by omega) (by omega)]
        · rw [sF 1 1 (by decide) (by decide) (by decide) (by decide) (by omega) (by omega), me1 1 (by omega)]; exact d11
        · rw [sF 1 2 (by decide) (by decide) (by decide) (by decide) (by omega) (by omega), me1 2 (by omega)]; exact d12
        · rw [sF 1 3 (by decide) (by decide) (by decide) (by decide) (by omega) (by omega), me1 3 (by omega)]; exact d13
        · rw [s2 46 0 (by omega), rdI_ne _ _ _ _ (by decide), (x5 46 0 (by rfl)).1]; exact rsX_46 _
        · rw [s2 47 0 (by omega), rdI_ne _ _ _ _ (by decide), x2, f0]
        · rw [s2 48 0 (by omega), rdI_ne _ _ _ _ (by decide), x3, pl0]
        · rw [sF 3 g (by decide) (by decide) (by decide) (by omega) (by omega) (by omega)]; exact me3
        · rw [s2 49 g (by omega), rdI_eq]
        · rw [rdR, if_pos ⟨rfl, rfl⟩]
        · obtain ⟨t1, t2, t3, t4⟩ := ro
          have qm : ∀ x j, x ≤ 1 → mI ms (sN S + x) j = mI m' (sN S + x) j := fun x j hx => by
            rw [sF _ _ (by omega) (by omega) (by omega) (by omega) (by omega) (by omega), meo _ _ (by omega)]
          exact ⟨t1, t2, (qm 0 1 (by decide)).trans t3, fun j q hj hq => (qm 1 _ (by decide)).trans (t4 j q hj hq)⟩
        · refine RM_54 g1 hg hN (m := mr) ?_ (fun j q hj hq => y2.2 g0 j q hj hq) (fun y hy => ?_)
          · rw [y1.2 g0, show min (rwm g) A.2.1 = A.2.1 by omega]
          · rw [s1 y hy, rdI_ne _ _ _ _ (by decide)]
      · show sN S2 ≤ _; rw [n5]; omega
      · show sW S2 ≤ _; rw [w5]; omega
  · rw [X, if_neg (by rw [show (0 : Int32) = nI 0 from rfl, n_eq (by omega) (by decide)]; exact f0)]
    obtain ⟨mr, x1, x2, x3, x4, x5⟩ := RD md (fun p j q1 q2 => fe p j (by omega) (by omega))
    have r49 : mI mr 49 g = nI (tn T g) := by rw [(x5 49 g (by rfl)).1, rsX_o _ (by omega) (by omega), fe 49 g (by decide) (by omega)]; exact h49
    have hr' := hr (sRs S 7 5 (some 2)) md _ (by rw [fe 49 g (by decide) (by omega)]; exact h49) x1 r49
    refine ⟨-1, _, md, mr, rfl, ?_, Inv_flt h hS1 sc ?_ (nI (ftA g A)) (plA (tl T) g A) (fun p j q1 q2 q3 => ?_) (fun j => ?_) ?_ ?_ ?_ ?_ x2 x3, by show sN S ≤ _; omega, by show sW S ≤ _; omega⟩
    · show m_X12_text _ _ _ _ = _
      rw [hr']
      simp only
      rw [decide_eq_false f0, if_pos i2f]
    · rw [rdR, if_neg (by decide)]
    · have k44 : p ≠ 44 ∧ p ≠ 54 ∧ p ≠ 55 ∧ p ≠ 7 ∧ p ≠ 8 ∧ p ≠ 9 ∧ p ≠ 10 ∧ p ≠ 11 := by
        refine ⟨?_, ?_, ?_, ?_, ?_, ?_, ?_, ?_⟩ <;> rintro rfl <;> exact absurd q1 (by decide)
      rw [(x5 p j (cov_rb ⟨k44.1, k44.2.1, k44.2.2.1⟩ (by omega))).1, rsX_o _ (by omega) q3, fe p j k44.2.2.2 q2]
    · rw [(x5 23 j (cov_rb (by decide) (by omega))).1, rsX_o _ (by omega) (by omega), fe 23 j (by decide) (by omega)]
    · rw [(x5 1 1 (by rfl)).1, rsX_o _ (by omega) (by omega)]; exact d11
    · rw [(x5 1 2 (by rfl)).1, rsX_o _ (by omega) (by omega)]; exact d12
    · rw [(x5 1 3 (by rfl)).1, rsX_o _ (by omega) (by omega)]; exact d13
    · rw [(x5 46 0 (by rfl)).1]; exact rsX_46 _
