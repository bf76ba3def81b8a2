/-! L3: image and again as operations -/
def OpG (S : Sk) (x : Option (Int32 × Sk × Mm)) (y : Sk → Mm → Option (Int32 × Mm)) : Prop := ∃ r S' m1 m2, x = some (r, S', m1) ∧ y S' m1 = some (r, m2) ∧ Inv S' m2 ∧ sN S' ≤ sN S + 11 ∧ sW S' ≤ sW S + 700
theorem CT_K2 {T : Td} {a : Nat} {S : Sk} {m m' : Mm} (ha : a = 1 ∨ 71 ≤ a) (e : ∀ p j, (p < 7 ∨ 71 ≤ p) → mI m' p j = mI m p j) (h : CT T a S m) : CT T a S m' := by
  have e1 : ∀ p j, 71 ≤ p → mI m' p j = mI m p j := fun p j hp => e p j (Or.inr hp)
  obtain ⟨h1, h2, h3, h4, h5, h6, h7⟩ := h
  refine ⟨by rw [e _ _ (by omega), h1], fun i hi => by rw [e _ _ (by omega)]; exact h2 i hi, by rw [e _ _ (by omega), h3], by rw [e _ _ (by omega), h4], fun s hs => by rw [e _ _ (by omega), h5 s hs], fun i hi => ?_, fun s i h0 hs hi => ?_⟩
  · obtain ⟨c, hc, hr, hk, hv⟩ := h6 i hi
    exact ⟨c, hc, hr, hk, VO_K e1 hc hv⟩
  · obtain ⟨c, hc, hr, hv⟩ := h7 s i h0 hs hi
    exact ⟨c, hc, hr, RO_K e1 hc hv⟩
theorem k9_1 {S : Sk} (h : Lay S) : KD S 1 9 := ⟨Nat.lt_of_lt_of_le (by decide) h.1, by rw [h.2.1 1 (by decide)]; rfl⟩
theorem CT_fit {T : Td} {a : Nat} {S : Sk} {m : Mm} (h : CT T a S m) : ∀ i, i < tl T → fits .byte (.int (tp T i)) = true := fun i hi => (h.2.1 i hi).2
theorem op_again {S : Sk} {mm : Mm} (h : Inv S mm) (a1 : Int32) : OpG S (m_X11_again S a1 mm) (fun S' => m_X12_again S' a1) := by
  have l2 : (2 : Int32) = nI 2 := rfl
  have l0 : (0 : Int32) = nI 0 := rfl
  rcases arg_cases a1 (n := 3) (by omega) with ⟨k, hk, rfl⟩ | h1
  · have C0 : m_X11_again S (nI k) mm = oM (sR S 6 k) (some (0, S, mm)) (fun c5 => gk S c5 9 ((m_X9_copyOf S 1 c5 mm).bind (fun q8 => some (1, q8.1, q8.2)))) := by
      unfold m_X11_again
      rw [if_neg (by rw [l0, n_lt (by omega) (by omega)]; omega), if_neg (by rw [show (3 : Int32) = nI 3 from rfl, n_le (by omega) (by omega)]; omega), n_grd (by omega) (by decide), n_ix (by omega)]
      congr 1
      funext c5
      rw [n_grd (by omega) (by decide)]
    have M0 : ∀ (S' : Sk) (m : Mm), m_X12_again S' (nI k) m = (if (mI m 70 k) = 0 then (some (0, (sI m 44 0 0))) else ((m_X12_copyAll S' (nI (k + 1)) (nI 0) (sI m 44 0 0)).bind (fun q4 => some (1, q4)))) := fun S' m => by
      unfold m_X12_again
      rw [l2, in_y (by omega) (by decide), if_neg i2t, n_grd (by omega) (by decide), n_ix (by omega), rdI_ne _ _ _ _ (by decide), show (1 : Int32) = nI 1 from rfl, nI_add]
      rfl
    rcases h.2.2.1 k hk with ⟨x1, x2⟩ | ⟨c, T, x1, hc, x2, x3, w1, w2, w3⟩
    · refine ⟨0, S, mm, sI mm 44 0 0, ?_, ?_, (Inv_m (L := [(44, some 0)]) h (by decide) (agx_wr (agx_rf _) (by rfl))).1, by omega, by omega⟩
      · rw [C0, x1]; rfl
      · show m_X12_again S (nI k) mm = _
        rw [M0, x2, if_pos (by decide)]
    · obtain ⟨S', m1, e1, hR, hC, hRF, hfr⟩ := copy_C h.1 h.2.2.2.2.2 (k9_1 h.1.1) x2 (by omega) w1 w2
      have hM1 : MT T (k + 1) (sI m1 44 0 0) := MT_slot w1 (fun p j g1 g2 _ => by rw [rdI_ne _ _ _ _ (by omega), hfr _ _ (by omega) (by omega) (by omega)]) w3
      obtain ⟨m2, e2, hM2, fr2⟩ := copy_M hR.2.2.2.1.1 w1 (show k + 1 < 4 by omega) (show 0 < 4 by decide) (by omega) hM1 (CT_fit w2)
      have fr3 : ∀ p j, ¬ (45 ≤ p ∧ p ≤ 53 ∧ j / Lp p = 0) → p ≠ 44 → mI m2 p j = mI m1 p j := fun p j g1 g2 => by rw [fr2 p j g1, rdI_ne _ _ _ _ g2]
      refine ⟨1, S', m1, m2, ?_, ?_, ?_, by rw [hR.1]; omega, by rw [hR.2.1]; omega⟩
      · rw [C0, x1]; simp only [oM]; rw [gk_pos x2, e1, ob_s]
      · show m_X12_again S' (nI k) m1 = _
        rw [M0, hfr _ _ (by decide) (by decide) (by decide), x3, if_neg (by decide), e2, ob_s]
      · refine Inv_told h hR.2.2.2.1 hRF ⟨by rw [hR.1]; exact Nat.le_refl _, fun p _ => hR.2.2.1 p, fun p i _ hp => ?_⟩ (fun p j g1 _ => ?_) (fun p j g1 g2 g3 => ?_) ?_ (fun j => ?_) ⟨T, w1, CT_K2 (Or.inl rfl) (fun p j hp => fr3 p j (by omega) (by omega)) hC, hM2⟩
        · rw [hR.2.2.2.2, if_neg (by omega), if_neg (by omega)]
        · rw [fr3 p j (by omega) (by omega), hfr _ _ (by omega) (by omega) (by omega)]
        · rw [fr3 p j (by omega) (by omega), hfr _ _ (by omega) (by omega) (by omega)]
        · rw [hR.2.2.2.2, if_neg (by omega), if_neg (by omega)]
        · rw [fr3 23 j (by omega) (by decide), hfr _ _ (by decide) (by decide) (by decide)]
  · refine ⟨0, S, mm, sI mm 44 0 0, ?_, ?_, (Inv_m (L := [(44, some 0)]) h (by decide) (agx_wr (agx_rf _) (by rfl))).1, by omega, by omega⟩
    · unfold m_X11_again
      by_cases z : a1 < 0
      · rw [if_pos z]
      · rw [if_neg z, if_pos (show (3 : Int32) ≤ a1 from h1.resolve_left z)]
    · show m_X12_again S a1 mm = _
      unfold m_X12_again
      rw [l2, in_n h1 (by decide), if_pos i2f]
theorem sK_nw (S : Sk) (k len z p : Nat) : sK (nwS S k len z) p = if p = S.1 then (k, len) else sK S p := rfl
theorem sR_nw (S : Sk) (k len z p j : Nat) : sR (nwS S k len z) p j = if p = S.1 then none else sR S p j := rfl
theorem mI_nw (S : Sk) (m : Mm) (p j : Nat) : mI (nwM S m) p j = if p = S.1 then 0 else mI m p j := rfl
theorem sK_s (S : Sk) (p i : Nat) (o : Option Nat) (a : Nat) : sK (sRs S p i o) a = sK S a := rfl
theorem one_s (S : Sk) (p i : Nat) (o : Option Nat) : (sRs S p i o).1 = S.1 := rfl
theorem one_nw (S : Sk) (k len z : Nat) : (nwS S k len z).1 = S.1 + 1 := rfl
theorem init_9 {S : Sk} (hS : SI S) (hRF : RF S) (mm : Mm) : ∃ S' m', m_X9_init (nwS S 9 0 7) S.1 (nwM S mm) = some (S', m') ∧ sN S' = sN S + 5 ∧ sW S' = sW S + 621 ∧ (∀ p, p < sN S → sK S' p = sK S p) ∧ (∀ p i, p < sN S → sR S' p i = sR S p i) ∧ SI S' ∧ RF S' ∧ KD S' (sN S) 9 ∧ ∀ p j, p < sN S → mI m' p j = mI mm p j := by
  have n71 : 71 ≤ S.1 := hS.1.1
  obtain ⟨S', m', e, n5, w5, KK, R0, R1, R2, R3, R4, R5, R6, MM⟩ : ∃ S' m', m_X9_init (nwS S 9 0 7) S.1 (nwM S mm) = some (S', m') ∧ sN S' = S.1 + 5 ∧ sW S' = sW S + 621 ∧ (∀ p, sK S' p = if p = S.1 + 4 then (24, 8) else if p = S.1 + 3 then (23, 2) else if p = S.1 + 2 then (20, 4) else if p = S.1 + 1 then (21, 600) else if p = S.1 then (9, 0) else sK S p) ∧ (∀ p i, p < S.1 → sR S' p i = sR S p i) ∧ sR S' S.1 0 = some (S.1 + 1) ∧ sR S' S.1 4 = some (S.1 + 2) ∧ sR S' S.1 5 = some (S.1 + 3) ∧ sR S' S.1 6 = some (S.1 + 4) ∧ (∀ i, sR S' (S.1 + 3) i = none) ∧ (∀ i, sR S' (S.1 + 4) i = none) ∧ ∀ p j, p < S.1 → mI m' p j = mI mm p j := by
    refine ⟨_, _, rfl, rfl, rfl, fun p => ?_, fun p i hp => ?_, ?_, ?_, ?_, ?_, fun i => ?_, fun i => ?_, fun p j hp => ?_⟩
    · simp only [sK_nw, sK_s, one_s, one_nw, Nat.add_assoc]
      rfl
    · simp (disch := omega) only [rdR, sR_nw, one_s, one_nw, if_neg]
    · simp (disch := omega) only [rdR, sR_nw, one_s, one_nw, if_neg, true_and, and_true, if_true]
    · simp (disch := omega) only [rdR, sR_nw, one_s, one_nw, if_neg, true_and, and_true, if_true]
    · simp (disch := omega) only [rdR, sR_nw, one_s, one_nw, if_neg, true_and, and_true, if_true]
    · simp (disch := omega) only [rdR, sR_nw, one_s, one_nw, if_neg, true_and, and_true, if_true]
    · simp (disch := omega) only [rdR, sR_nw, one_s, one_nw, if_neg]
      simp
    · simp (disch := omega) only [rdR, sR_nw, one_s, one_nw, if_neg]
      simp
    · simp (disch := omega) only [mI_nw, rdI_ne, one_s, one_nw, if_neg]
  have K0 : ∀ p, p < S.1 → sK S' p = sK S p := fun p hp => by
    rw [KK, if_neg (by omega), if_neg (by omega), if_neg (by omega), if_neg (by omega), if_neg (by omega)]
  have K1 : sK S' S.1 = (9, 0) := by rw [KK, if_neg (by omega), if_neg (by omega), if_neg (by omega), if_neg (by omega), if_pos rfl]
  have K2 : sK S' (S.1 + 1) = (21, 600) := by rw [KK, if_neg (by omega), if_neg (by omega), if_neg (by omega), if_pos rfl]
  have K3 : sK S' (S.1 + 2) = (20, 4) := by rw [KK, if_neg (by omega), if_neg (by omega), if_pos rfl]
  have K4 : sK S' (S.1 + 3) = (23, 2) := by rw [KK, if_neg (by omega), if_pos rfl]
  have K5 : sK S' (S.1 + 4) = (24, 8) := by rw [KK, if_pos rfl]
  have old : ∀ c k, k ≠ 9 → k < 20 → KD S' c k → KD S c k := fun c k h9 h20 hc => by
    obtain ⟨c1, c2⟩ := hc
    rw [n5] at c1
    by_cases q : c < S.1
    · exact ⟨q, by rw [← K0 c q]; exact c2⟩
    · exfalso
      rcases (by omega : c = S.1 ∨ c = S.1 + 1 ∨ c = S.1 + 2 ∨ c = S.1 + 3 ∨ c = S.1 + 4) with rfl | rfl | rfl | rfl | rfl
      · rw [K1] at c2; exact h9 c2.symm
      · rw [K2] at c2; exact absurd h20 (by rw [← c2]; decide)
      · rw [K3] at c2; exact absurd h20 (by rw [← c2]; decide)
      · rw [K4] at c2; exact absurd h20 (by rw [← c2]; decide)
      · rw [K5] at c2; exact absurd h20 (by rw [← c2]; decide)
  have old9 : ∀ c, KD S' c 9 → c = S.1 ∨ KD S c 9 := fun c hc => by
    obtain ⟨c1, c2⟩ := hc
    rw [n5] at c1
    by_cases q : c < S.1
    · exact Or.inr ⟨q, by rw [← K0 c q]; exact c2⟩
    · rcases (by omega : c = S.1 ∨ c = S.1 + 1 ∨ c = S.1 + 2 ∨ c = S.1 + 3 ∨ c = S.1 + 4) with rfl | rfl | rfl | rfl | rfl
      · exact Or.inl rfl
      · rw [K2] at c2; exact absurd c2 (by decide)
      · rw [K3] at c2; exact absurd c2 (by decide)
      · rw [K4] at c2; exact absurd c2 (by decide)
      · rw [K5] at c2; exact absurd c2 (by decide)
  have up : ∀ v k, KD S v k → KD S' v k := fun v k hv => ⟨by rw [n5]; exact Nat.lt_of_lt_of_le hv.1 (Nat.le_add_right _ _), by rw [K0 v hv.1]; exact hv.2⟩
  have hSI : SI S' := by
    refine ⟨⟨by rw [n5]; omega, fun p hp => by rw [K0 p (by omega)]; exact hS.1.2.1 p hp, fun q hq => ?_⟩, fun c hc j hj => ?_, fun c hc => ?_, fun c hc => ?_⟩
    · have key : layR.all (fun q => decide (q.1 < 71)) = true := by decide
      have := List.all_eq_true.mp key q hq
      rw [decide_eq_true_eq] at this
      rw [R0 _ _ (by omega)]; exact hS.1.2.2 q hq
    · have hc0 := old c 2 (by decide) (by decide) hc
      obtain ⟨g1, g2, g3⟩ := hS.2.1 c hc0 j hj
      have g2' : c + 1 + j < S.1 := g2
      exact ⟨by rw [R0 _ _ hc0.1]; exact g1, by rw [n5]; omega, by rw [K0 _ g2']; exact g3⟩
    · have hc0 := old c 6 (by decide) (by decide) hc
      obtain ⟨g1, g2, g3⟩ := hS.2.2.1 c hc0
      have g2' : c + 1 < S.1 := g2
      exact ⟨by rw [R0 _ _ hc0.1]; exact g1, by rw [n5]; omega, by rw [K0 _ g2']; exact g3⟩
    · rcases old9 c hc with rfl | hc0
      · exact ⟨⟨R1, by rw [n5]; omega, K2⟩, ⟨R2, by rw [n5]; omega, K3⟩, ⟨R3, by rw [n5]; omega, K4⟩, ⟨R4, by rw [n5]; omega, K5⟩⟩
      · obtain ⟨g1, g2, g3, g4⟩ := hS.2.2.2 c hc0
        have h0 := hc0.1
        have q1 : c + 1 < S.1 := g1.2.1
        have q2 : c + 2 < S.1 := g2.2.1
        have q3 : c + 3 < S.1 := g3.2.1
        have q4 : c + 4 < S.1 := g4.2.1
        exact ⟨⟨by rw [R0 _ _ h0]; exact g1.1, by rw [n5]; omega, by rw [K0 _ q1]; exact g1.2.2⟩, ⟨by rw [R0 _ _ h0]; exact g2.1, by rw [n5]; omega, by rw [K0 _ q2]; exact g2.2.2⟩, ⟨by rw [R0 _ _ h0]; exact g3.1, by rw [n5]; omega, by rw [K0 _ q3]; exact g3.2.2⟩, ⟨by rw [R0 _ _ h0]; exact g4.1, by rw [n5]; omega, by rw [K0 _ q4]; exact g4.2.2⟩⟩
  refine ⟨S', m', e, n5, w5, K0, R0, hSI, fun a ha => ?_, ⟨by rw [n5]; exact Nat.lt_add_of_pos_right (by decide), by rw [show sK S' (sN S) = (9, 0) from K1]⟩, MM⟩
  rcases old9 a ha with rfl | ha0
  · exact ⟨fun i v _ hv => absurd ((R5 i).symm.trans hv) (by intro q; cases q), fun i v _ hv => absurd ((R6 i).symm.trans hv) (by intro q; cases q)⟩
  · obtain ⟨_, _, g3, g4⟩ := hS.2.2.2 a ha0
    exact ⟨fun i v hi hv => up v 2 ((hRF a ha0).1 i v hi (by rw [← R0 _ _ g3.2.1]; exact hv)), fun i v hi hv => up v 6 ((hRF a ha0).2 i v hi (by rw [← R0 _ _ g4.2.1]; exact hv))⟩
/-- all but image k stands; image k has its object -/
def InvX (k c : Nat) (S : Sk) (mm : Mm) : Prop := SI S ∧ (∃ T, WT T ∧ CT T 1 S mm ∧ MT T 0 mm) ∧ (∀ l, l < 3 → l ≠ k → ImO S mm l) ∧ (∀ k l c, k < 3 → l < 3 → sR S 6 k = some c → sR S 6 l = some c → k = l) ∧ (TBI S mm ∧ RF S) ∧ sR S 6 k = some c ∧ 71 ≤ c ∧ KD S c 9
theorem image_copy {k c : Nat} (hk : k < 3) {S : Sk} {mm : Mm} (h : InvX k c S mm) : ∃ S' m1 m2, m_X9_copyOf S c 1 mm = some (S', m1) ∧ m_X12_image S' (nI k) m1 = some (1, m2) ∧ Inv S' m2 ∧ sN S' = sN S ∧ sW S' = sW S := by
  obtain ⟨hS, ⟨T, w1, w2, w3⟩, hI, hD, ⟨hTB, hRF⟩, hr, hc, hk9⟩ := h
  obtain ⟨S', m1, e1, hR, hC, hRF', hfr⟩ := copy_C hS hRF hk9 (k9_1 hS.1) (by omega) w1 w2
  obtain ⟨g1, g2, g3, hS', g5⟩ := hR
  have hM1 : MT T 0 (sI m1 44 0 0) := MT_slot w1 (fun p j q1 q2 _ => by rw [rdI_ne _ _ _ _ (by omega), hfr _ _ (by omega) (by omega) (by omega)]) w3
  obtain ⟨m2, e2, hM2, fr2⟩ := copy_M hS'.1 w1 (show 0 < 4 by decide) (show k + 1 < 4 by omega) (by omega) hM1 (CT_fit w2)
  have fr3 : ∀ p j, ¬ (45 ≤ p ∧ p ≤ 53 ∧ j / Lp p = k + 1) → p ≠ 44 → ¬ (p = 70 ∧ j = k) → mI (sI m2 70 k 1) p j = mI m1 p j := fun p j q1 q2 q3 => by rw [rdI, if_neg q3, fr2 p j q1, rdI_ne _ _ _ _ q2]
  have hM : m_X12_image S' (nI k) m1 = some (1, sI m2 70 k 1) := by
    unfold m_X12_image
    rw [show (2 : Int32) = nI 2 from rfl, in_y (by omega) (by decide), if_neg i2t, show (nI k + 1 : Int32) = nI (k + 1) by rw [show (1 : Int32) = nI 1 from rfl, nI_add], show m_X12_copyAll S' 0 (nI (k + 1)) (sI m1 44 0 0) = some m2 from e2, ob_s, n_grd (by omega) (by decide), n_ix (by omega)]
    rfl
  have rS : ∀ p i, (p = 6 ∨ p = 14 ∨ (p = 4 ∨ p = 5)) → sR S' p i = sR S p i := fun p i hp => by rw [g5, if_neg (by omega), if_neg (by omega)]
  have up : ∀ v k, KD S v k → KD S' v k := fun v k hv => ⟨by rw [g1]; exact hv.1, by rw [g3]; exact hv.2⟩
  -- a told state elsewhere
  have frR : ∀ d, KD S d 9 → d ≠ c → ∀ x j, (x = 3 ∨ x = 4) → sR S' (d + x) j = sR S (d + x) j := fun d hd hdc x j hx => by
    rw [g5, if_neg (fun q => sep_T hS hk9 hd (fun z => hdc z.symm) (x := x) (y := 3) (by omega) (by decide) q.1), if_neg (fun q => sep_T hS hk9 hd (fun z => hdc z.symm) (x := x) (y := 4) (by omega) (by decide) q.1)]
  have frC : ∀ d, KD S d 2 → 71 ≤ d → ∀ x j, x ≤ 8 → mI (sI m2 70 k 1) (d + x) j = mI mm (d + x) j := fun d hd hd7 x j hx => by
    have := sep_C hS hk9 hd hx
    rw [fr3 _ _ (by omega) (by omega) (by omega), hfr _ _ this.1 this.2.1 this.2.2.1]
  have frO : ∀ d, KD S d 6 → 71 ≤ d → ∀ x j, x ≤ 1 → mI (sI m2 70 k 1) (d + x) j = mI mm (d + x) j := fun d hd hd7 x j hx => by
    have := sep_R hS hk9 hd hx
    rw [fr3 _ _ (by omega) (by omega) (by omega), hfr _ _ this.1 this.2.1 this.2.2.1]
  have voN : ∀ W d, KD S d 2 → 71 ≤ d → VO W d mm → VO W d (sI m2 70 k 1) := fun W d hd hd7 hv => by
    have e := frC d hd hd7
    have e0 : ∀ j, mI (sI m2 70 k 1) d j = mI mm d j := fun j => e 0 j (by decide)
    unfold VO at hv ⊢
    simp (disch := omega) only [e, e0]
    exact hv
  have ctN : ∀ V d, KD S d 9 → d ≠ c → (d = 1 ∨ 71 ≤ d) → CT V d S mm → CT V d S' (sI m2 70 k 1) := fun V d hd hdc hd7 hv => by
    have e : ∀ x j, x ≤ 2 → mI (sI m2 70 k 1) (d + x) j = mI mm (d + x) j := fun x j hx => by
      rw [fr3 _ _ (by omega) (by omega) (by omega), hfr _ _ (sep_T hS hk9 hd (fun z => hdc z.symm) (y := 0) (by omega) (by decide)) (sep_T hS hk9 hd (fun z => hdc z.symm) (y := 1) (by omega) (by decide)) (sep_T hS hk9 hd (fun z => hdc z.symm) (y := 2) (by omega) (by decide))]
    have e0 : ∀ j, mI (sI m2 70 k 1) d j = mI mm d j := fun j => e 0 j (by decide)
    obtain ⟨h1, h2, h3, h4, h5, h6, h7⟩ := hv
    refine ⟨by rw [e0, h1], fun i hi => by rw [e 1 _ (by decide)]; exact h2 i hi, by rw [e0, h3], by rw [e0, h4], fun s hs => by rw [e 2 _ (by decide), h5 s hs], fun i hi => ?_, fun s i h0 hs hi => ?_⟩
    · obtain ⟨b, hb, hr, hkb, hv⟩ := h6 i hi
      exact ⟨b, hb, by rw [frR d hd hdc 3 _ (Or.inl rfl)]; exact hr, up _ _ hkb, voN _ _ hkb hb hv⟩
    · obtain ⟨b, hb, hr, k1, k2, k3, k4⟩ := h7 s i h0 hs hi
      exact ⟨b, hb, by rw [frR d hd hdc 4 _ (Or.inr rfl)]; exact hr, up _ _ k1, by rw [g3]; exact k2, by rw [show mI (sI m2 70 k 1) b 1 = mI mm b 1 from frO b k1 hb 0 1 (by decide)]; exact k3, fun j q hj hq => by rw [frO b k1 hb 1 _ (by decide)]; exact k4 j q hj hq⟩
  refine ⟨S', m1, sI m2 70 k 1, e1, hM, ⟨hS', ⟨T, w1, ctN T 1 (k9_1 hS.1) (by omega) (Or.inl rfl) w2, ?_⟩, fun l hl => ?_, fun x y d hx hy q1 q2 => hD x y d hx hy (by rw [← rS 6 x (Or.inl rfl)]; exact q1) (by rw [← rS 6 y (Or.inl rfl)]; exact q2), ⟨fun s hs => ?_, fun r hr => ?_, fun d hd => ?_⟩, hRF'⟩, g1, g2⟩
  · exact MT_slot w1 (fun p j q1 q2 q3 => by rw [fr3 _ _ (by omega) (by omega) (by omega), hfr _ _ (by omega) (by omega) (by omega)]) w3
  · by_cases el : l = k
    · subst el
      refine Or.inr ⟨c, T, by rw [rS 6 _ (Or.inl rfl)]; exact hr, hc, up _ _ hk9, rdI_eq _ _ _ _, w1, ?_, ?_⟩
      · exact CT_K2 (Or.inr hc) (fun p j hp => fr3 p j (by omega) (by omega) (by omega)) hC
      · exact MT_slot w1 (fun p j q1 q2 _ => rdI_ne _ _ _ _ (by omega)) hM2
    · rcases hI l hl el with ⟨x1, x2⟩ | ⟨d, V, x1, hd7, x2, x3, v1, v2, v3⟩
      · exact Or.inl ⟨by rw [rS 6 _ (Or.inl rfl)]; exact x1, by rw [fr3 _ _ (by omega) (by decide) (by omega), hfr _ _ (by omega) (by omega) (by omega)]; exact x2⟩
      · have hdc : d ≠ c := fun z => el (hD l k c hl hk (by rw [x1, z]) hr)
        refine Or.inr ⟨d, V, by rw [rS 6 _ (Or.inl rfl)]; exact x1, hd7, up _ _ x2, ?_, v1, ctN V d x2 hdc (Or.inr hd7) v2, ?_⟩
        · rw [fr3 _ _ (by omega) (by decide) (by omega), hfr _ _ (by omega) (by omega) (by omega)]; exact x3
        · exact MT_slot v1 (fun p j q1 q2 q3 => by rw [fr3 _ _ (by omega) (by omega) (by omega), hfr _ _ (by omega) (by omega) (by omega)]) v3
  · rw [fr3 _ _ (by omega) (by decide) (by omega), hfr _ _ (by omega) (by omega) (by omega)]; exact hTB.1 s hs
  · rw [fr3 _ _ (by omega) (by decide) (by omega), hfr _ _ (by omega) (by omega) (by omega)]; exact hTB.2.1 r hr
  · rw [rS 14 11 (by decide)] at hd
    obtain ⟨d7, dk, W, v1, v2, v3⟩ := hTB.2.2 d hd
    refine ⟨d7, up _ _ dk, W, voN _ _ dk d7 v1, v2, fun r hr s hs => ?_⟩
    rw [fr3 _ _ (by omega) (by decide) (by omega), hfr _ _ (by omega) (by omega) (by omega)]; exact v3 r hr s hs
