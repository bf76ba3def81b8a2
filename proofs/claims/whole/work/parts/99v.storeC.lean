/-! L3: the class stores what was read -/
theorem Lay_nw {S : Sk} (h : Lay S) (k l z : Nat) : Lay (nwS S k l z) := by
  have h1 : 71 ≤ S.1 := h.1
  refine ⟨by show 71 ≤ S.1 + 1; omega, fun p hp => by rw [sK_nw, if_neg (by omega)]; exact h.2.1 p hp, fun q hq => ?_⟩
  have key : layR.all (fun q => decide (q.1 < 71)) = true := by decide
  have := List.all_eq_true.mp key q hq
  rw [decide_eq_true_eq] at this
  rw [sR_nw, if_neg (by omega)]; exact h.2.2 q hq
theorem init2_m (S : Sk) (mm : Mm) : ∃ m0, m_X2_init (nwS S 2 0 10) S.1 (nwM S mm) = (whileF FU (m_X2_init_b80 S.1 (nwS S 2 0 10)) (0, m0)).bind (fun p46 => (whileF FU (m_X2_init_b101 S.1 (nwS S 2 0 10)) (0, p46)).bind (fun p55 => some (skC (nwS S 2 0 10) S.1, p55))) ∧ (∀ p j, p < S.1 → mI m0 p j = mI mm p j) ∧ ∀ x j, x < 9 → mI m0 (S.1 + x) j = 0 := by
  refine ⟨_, rfl, fun p j hp => ?_, fun x j hx => ?_⟩
  · simp (disch := omega) only [mI_nw, rdI_ne, one_s, one_nw, if_neg]
  · rw [rdI]
    by_cases e : S.1 + x = S.1 ∧ j = 9
    · rw [if_pos e]
    · rw [if_neg e, rdI]
      by_cases e2 : S.1 + x = S.1 ∧ j = 8
      · rw [if_pos e2]
      · rw [if_neg e2]
        simp only [mI_nw, one_s, one_nw]
        rcases (by omega : x = 0 ∨ x = 1 ∨ x = 2 ∨ x = 3 ∨ x = 4 ∨ x = 5 ∨ x = 6 ∨ x = 7 ∨ x = 8) with rfl | rfl | rfl | rfl | rfl | rfl | rfl | rfl | rfl <;> simp
theorem b80_eq (S : Sk) (a : Nat) (z : Int32 × Mm) : m_X2_init_b80 a S z = if 8 ≤ z.1 then (some (.inr z.2)) else (gR (sR (skC S a) a 3) (S.1 + 3) (grd z.1 8 (some (.inl (z.1 + 1, (sI z.2 (S.1 + 3) (ix z.1) 5)))))) := rfl
theorem b101_eq (S : Sk) (a : Nat) (z : Int32 × Mm) : m_X2_init_b101 a S z = gP (Lay (skC S a)) (if (mI z.2 8 1) ≤ z.1 then (some (.inr z.2)) else (gP (SI (skC S a)) ((m_X6_cell (skC S a) 8 z.1 0 z.2).bind (fun q63 => (m_X6_cell (skC S a) 8 z.1 1 z.2).bind (fun q65 => (m_X6_cell (skC S a) 8 z.1 2 z.2).bind (fun q67 => (m_X6_cell (skC S a) 8 z.1 3 z.2).bind (fun q69 => (m_X2_take a q63 q65 q67 q69 z.2).bind (fun q71 => some (.inl (z.1 + 1, q71)))))))))) := rfl
theorem skC_SI {S : Sk} (hS : SI S) (hRF : RF S) : SI (skC (nwS S 2 0 10) S.1) ∧ RF (skC (nwS S 2 0 10) S.1) ∧ KD (skC (nwS S 2 0 10) S.1) S.1 2 := by
  obtain ⟨n5, w5, KK, R0, R1⟩ := skC_f S
  have n71 : 71 ≤ S.1 := hS.1.1
  have KJ : ∀ j, j < 8 → sK (skC (nwS S 2 0 10) S.1) (S.1 + 1 + j) = (20, cLen j) := fun j hj => by
    rw [KK]
    rcases (by omega : j = 0 ∨ j = 1 ∨ j = 2 ∨ j = 3 ∨ j = 4 ∨ j = 5 ∨ j = 6 ∨ j = 7) with rfl | rfl | rfl | rfl | rfl | rfl | rfl | rfl
    · rw [if_neg (by omega), if_neg (by omega), if_neg (by omega), if_neg (by omega), if_neg (by omega), if_neg (by omega), if_neg (by omega), if_pos (by omega)]; rfl
    · rw [if_neg (by omega), if_neg (by omega), if_neg (by omega), if_neg (by omega), if_neg (by omega), if_neg (by omega), if_pos (by omega)]; rfl
    · rw [if_neg (by omega), if_neg (by omega), if_neg (by omega), if_neg (by omega), if_neg (by omega), if_pos (by omega)]; rfl
    · rw [if_neg (by omega), if_neg (by omega), if_neg (by omega), if_neg (by omega), if_pos (by omega)]; rfl
    · rw [if_neg (by omega), if_neg (by omega), if_neg (by omega), if_pos (by omega)]; rfl
    · rw [if_neg (by omega), if_neg (by omega), if_pos (by omega)]; rfl
    · rw [if_neg (by omega), if_pos (by omega)]; rfl
    · rw [if_pos (by omega)]; rfl
  have K1 : sK (skC (nwS S 2 0 10) S.1) S.1 = (2, 0) := by
    rw [KK, if_neg (by omega), if_neg (by omega), if_neg (by omega), if_neg (by omega), if_neg (by omega), if_neg (by omega), if_neg (by omega), if_neg (by omega), if_pos rfl]
  have g := grow_SI (S' := skC (nwS S 2 0 10) S.1) hS hRF (by rw [n5]; exact Nat.le_add_right _ _) (fun p hp => by
    have hp : p < S.1 := hp
    rw [KK, if_neg (by omega), if_neg (by omega), if_neg (by omega), if_neg (by omega), if_neg (by omega), if_neg (by omega), if_neg (by omega), if_neg (by omega), if_neg (by omega)]) R0 (fun p h1 h2 => by
    rw [n5] at h2
    have h1 : S.1 ≤ p := h1
    by_cases e : p = S.1
    · exact Or.inl e
    · right
      have := KJ (p - (S.1 + 1)) (by omega)
      rw [show S.1 + 1 + (p - (S.1 + 1)) = p by omega] at this
      rw [this]; exact Nat.le_refl 20) (Or.inl ⟨by rw [show sK (skC (nwS S 2 0 10) S.1) (sN S) = (2, 0) from K1], fun j hj => ⟨R1 j hj, by rw [n5]; show S.1 + 1 + j < S.1 + 9; omega, KJ j hj⟩⟩)
  exact ⟨g.1, g.2, by rw [n5]; omega, by rw [K1]⟩
theorem init_2 {S : Sk} (hS : SI S) (hRF : RF S) (mm : Mm) {N : Nat} {D : Dr} (hN : N ≤ 100) (h8 : mI mm 8 1 = nI N) (h9 : ∀ j q, j < N → q < 4 → mI mm 9 (j * 4 + q) = enX 0 (D j) q) (ok : okA 0 N D) : ∃ m', m_X2_init (nwS S 2 0 10) S.1 (nwM S mm) = some (skC (nwS S 2 0 10) S.1, m') ∧ VO (WDr D N) S.1 m' ∧ ∀ p j, p < S.1 → mI m' p j = mI mm p j := by
  obtain ⟨n5, w5, KK, R0, R1⟩ := skC_f S
  have n71 : 71 ≤ S.1 := hS.1.1
  obtain ⟨hS', hRF', hK'⟩ := skC_SI hS hRF
  obtain ⟨m0, e0, z0, y0⟩ := init2_m S mm
  have l1 : ∃ p46, whileF FU (m_X2_init_b80 S.1 (nwS S 2 0 10)) (0, m0) = some p46 ∧ (∀ t, t < 8 → mI p46 (S.1 + 4) t = nI 5) ∧ ∀ p j, p ≠ S.1 + 4 → mI p46 p j = mI m0 p j := by
    refine loop_inv (body := m_X2_init_b80 S.1 (nwS S 2 0 10)) (fun i z => z.1 = nI i ∧ (∀ t, t < i → mI z.2 (S.1 + 4) t = nI 5) ∧ ∀ p j, p ≠ S.1 + 4 → mI z.2 p j = mI m0 p j) (fun p46 => (∀ t, t < 8 → mI p46 (S.1 + 4) t = nI 5) ∧ ∀ p j, p ≠ S.1 + 4 → mI p46 p j = mI m0 p j) 8 (FU_big (by decide)) ⟨rfl, fun t ht => absurd ht (Nat.not_lt_zero _), fun _ _ _ => rfl⟩ ?_ ?_
    · rintro i ⟨z1, z⟩ hi ⟨h1, h2, h3⟩
      simp only at h1 h2 h3
      subst h1
      left
      rw [b80_eq]
      simp only
      rw [if_neg (by rw [show (8 : Int32) = nI 8 from rfl, n_le (by decide) (by omega)]; omega), gR_pos (show sR (skC (nwS S 2 0 10) S.1) S.1 3 = some ((nwS S 2 0 10).1 + 3) from R1 3 (by decide)), n_grd (by omega) (by decide), n_ix (by omega)]
      refine ⟨_, rfl, by show nI i + 1 = nI (i + 1); rw [show (1 : Int32) = nI 1 from rfl, nI_add], fun t ht => ?_, fun p j hp => ?_⟩
      · show mI (sI z (S.1 + 4) i 5) (S.1 + 4) t = nI 5
        by_cases et : t = i
        · rw [et, rdI_eq]; rfl
        · rw [rdI_nj _ _ _ _ et]; exact h2 t (by omega)
      · show mI (sI z (S.1 + 4) i 5) p j = mI m0 p j
        rw [rdI_ne _ _ _ _ hp]; exact h3 p j hp
    · rintro ⟨z1, z⟩ ⟨h1, h2, h3⟩
      simp only at h1 h2 h3
      subst h1
      exact ⟨z, rfl, h2, h3⟩
  obtain ⟨p46, e46, t46, f46⟩ := l1
  have old46 : ∀ p j, p < S.1 → mI p46 p j = mI mm p j := fun p j hp => by rw [f46 p j (by omega), z0 p j hp]
  have v46 : VO WZ S.1 p46 := by
    refine ⟨?_, ?_, fun p hp => ?_, fun p hp => ?_, fun p hp => ?_, fun p hp => t46 p hp, fun p hp => ?_, fun p hp => ?_, fun p hp => ?_, fun p hp => ?_⟩
    · rw [f46 _ _ (by omega)]; exact y0 0 8 (by decide)
    · rw [f46 _ _ (by omega)]; exact y0 0 9 (by decide)
    · rw [f46 _ _ (by omega)]; exact y0 1 p (by decide)
    · rw [f46 _ _ (by omega)]; exact y0 2 p (by decide)
    · rw [f46 _ _ (by omega)]; exact y0 3 p (by decide)
    · rw [f46 _ _ (by omega)]; exact y0 5 p (by decide)
    · rw [f46 _ _ (by omega)]; exact y0 6 p (by decide)
    · rw [f46 _ _ (by omega)]; exact y0 7 p (by decide)
    · rw [f46 _ _ (by omega)]; exact y0 8 p (by decide)
  have L9 : (sK (skC (nwS S 2 0 10) S.1) (8 + 1)).2 = 400 := by rw [hS'.1.2.1 9 (by decide)]; rfl
  have k5 := okA_5 ok
  have l2 : ∃ p55, whileF FU (m_X2_init_b101 S.1 (nwS S 2 0 10)) (0, p46) = some p55 ∧ VO (WDr D N) S.1 p55 ∧ ∀ p j, p < S.1 → mI p55 p j = mI mm p j := by
    refine loop_inv (body := m_X2_init_b101 S.1 (nwS S 2 0 10)) (fun i z => z.1 = nI i ∧ VO (WDr D i) S.1 z.2 ∧ ∀ p j, p < S.1 → mI z.2 p j = mI mm p j) (fun p55 => VO (WDr D N) S.1 p55 ∧ ∀ p j, p < S.1 → mI p55 p j = mI mm p j) N (FU_big (by omega)) ⟨rfl, v46, old46⟩ ?_ ?_
    · rintro i ⟨z1, z⟩ hi ⟨h1, h2, h3⟩
      simp only at h1 h2 h3
      subst h1
      left
      have z8 : mI z 8 1 = nI N := by rw [h3 8 1 (by omega)]; exact h8
      have cc : ∀ q, q < 4 → m_X6_cell (skC (nwS S 2 0 10) S.1) 8 (nI i) (nI q) z = some (enX 0 (D i) q) := fun q hq => C_cellR z8 L9 (by omega) (by decide) hi hq (by rw [h3 _ _ (by omega)]; exact h9 i q hi hq)
      have c0 : m_X6_cell (skC (nwS S 2 0 10) S.1) 8 (nI i) 0 z = some (enX 0 (D i) 0) := cc 0 (by decide)
      have c1 : m_X6_cell (skC (nwS S 2 0 10) S.1) 8 (nI i) 1 z = some (enX 0 (D i) 1) := cc 1 (by decide)
      have c2 : m_X6_cell (skC (nwS S 2 0 10) S.1) 8 (nI i) 2 z = some (enX 0 (D i) 2) := cc 2 (by decide)
      have c3 : m_X6_cell (skC (nwS S 2 0 10) S.1) 8 (nI i) 3 z = some (enX 0 (D i) 3) := cc 3 (by decide)
      have cn := WDr_n (D := D) (N := i) (fun j hj => k5 j (by omega))
      have m0' : cnK D 0 (i + 1) ≤ cnK D 0 N := fb_ct_mono _ hi
      have m4' : cnK D 4 (i + 1) ≤ cnK D 4 N := fb_ct_mono _ hi
      obtain ⟨o1, o2⟩ := ok.1 rfl
      obtain ⟨m', e1, e2, e3⟩ := C_take h2 (ok.2.2 i hi) (fun e => by
        rw [cn.1]
        have : cnK D 0 (i + 1) = cnK D 0 i + 1 := by unfold cnK; rw [fb_ct_succ, if_pos (decide_eq_true e)]
        omega) (fun e => by
        rw [cn.2]
        have : cnK D 4 (i + 1) = cnK D 4 i + 1 := by unfold cnK; rw [fb_ct_succ, if_pos (decide_eq_true e)]
        omega)
      rw [b101_eq]
      simp only
      rw [gP_pos hS'.1, z8, if_neg (by rw [n_le (by omega) (by omega)]; omega), gP_pos hS', c0, ob_s, c1, ob_s, c2, ob_s, c3, ob_s, e1, ob_s]
      exact ⟨_, rfl, by show nI i + 1 = nI (i + 1); rw [show (1 : Int32) = nI 1 from rfl, nI_add], e2, fun p j hp => by rw [e3 p j hp, h3 p j hp]⟩
    · rintro ⟨z1, z⟩ ⟨h1, h2, h3⟩
      simp only at h1 h2 h3
      subst h1
      rw [b101_eq]
      simp only
      rw [gP_pos hS'.1, h3 8 1 (by omega), h8, if_pos (by rw [n_le (by omega) (by omega)]; omega)]
      exact ⟨z, rfl, h2, h3⟩
  obtain ⟨p55, e55, v55, f55⟩ := l2
  exact ⟨p55, by rw [e0, e46, ob_s, e55, ob_s], v55, f55⟩
theorem copy_6 {S : Sk} (hS : SI S) (hRF : RF S) (mm : Mm) {N : Nat} {z : Nat → Nat → Int32} (hN : N ≤ 100) (h8 : mI mm 8 1 = nI N) (h9 : ∀ j q, j < N → q < 4 → mI mm 9 (j * 4 + q) = z j q) : ∃ S' m', m_X6_copy S mm = some (some (sN S), S', m') ∧ sN S' = sN S + 2 ∧ sW S' = sW S + 2 + 4 * N ∧ (∀ p, p < sN S → sK S' p = sK S p) ∧ (∀ p i, p < sN S → sR S' p i = sR S p i) ∧ SI S' ∧ RF S' ∧ RO N z (sN S) S' m' ∧ ∀ p j, p < sN S → mI m' p j = mI mm p j := by
  have n71 : 71 ≤ S.1 := hS.1.1
  have KK : ∀ p, sK (sRs (nwS (nwS S 6 0 2) 20 (N * 4) (N * 4)) S.1 0 (some (S.1 + 1))) p = if p = S.1 + 1 then (20, N * 4) else if p = S.1 then (6, 0) else sK S p := fun p => rfl
  have R0 : ∀ p i, p < S.1 → sR (sRs (nwS (nwS S 6 0 2) 20 (N * 4) (N * 4)) S.1 0 (some (S.1 + 1))) p i = sR S p i := fun p i hp => by
    simp (disch := omega) only [rdR, sR_nw, one_nw, if_neg]
  have R1 : sR (sRs (nwS (nwS S 6 0 2) 20 (N * 4) (N * 4)) S.1 0 (some (S.1 + 1))) S.1 0 = some (S.1 + 1) := by rw [rdR, if_pos ⟨rfl, rfl⟩]
  have n5 : sN (sRs (nwS (nwS S 6 0 2) 20 (N * 4) (N * 4)) S.1 0 (some (S.1 + 1))) = S.1 + 2 := rfl
  have w5 : sW (sRs (nwS (nwS S 6 0 2) 20 (N * 4) (N * 4)) S.1 0 (some (S.1 + 1))) = sW S + 2 + N * 4 := rfl
  have K1 : sK (sRs (nwS (nwS S 6 0 2) 20 (N * 4) (N * 4)) S.1 0 (some (S.1 + 1))) S.1 = (6, 0) := by rw [KK, if_neg (by omega), if_pos rfl]
  have K2 : sK (sRs (nwS (nwS S 6 0 2) 20 (N * 4) (N * 4)) S.1 0 (some (S.1 + 1))) (S.1 + 1) = (20, N * 4) := by rw [KK, if_pos rfl]
  have K0 : ∀ p, p < S.1 → sK (sRs (nwS (nwS S 6 0 2) 20 (N * 4) (N * 4)) S.1 0 (some (S.1 + 1))) p = sK S p := fun p hp => by rw [KK, if_neg (by omega), if_neg (by omega)]
  obtain ⟨hS', hRF'⟩ := grow_SI (S' := sRs (nwS (nwS S 6 0 2) 20 (N * 4) (N * 4)) S.1 0 (some (S.1 + 1))) hS hRF (by rw [n5]; exact Nat.le_add_right _ _) K0 R0 (fun p h1 h2 => by
    rw [n5] at h2
    have h1 : S.1 ≤ p := h1
    rcases (by omega : p = S.1 ∨ p = S.1 + 1) with e | e
    · exact Or.inl e
    · right; rw [e, K2]; exact Nat.le_refl 20) (Or.inr ⟨by rw [show sK _ (sN S) = (6, 0) from K1], R1, by rw [n5]; show S.1 + 1 < S.1 + 2; omega, by rw [show sK _ (sN S + 1) = (20, N * 4) from K2]⟩)
  have eI : m_X6_init (nwS S 6 0 2) S.1 (mI (nwM S mm) 8 1) (nwM S mm) = some (sRs (nwS (nwS S 6 0 2) 20 (N * 4) (N * 4)) S.1 0 (some (S.1 + 1)), nwM (nwS S 6 0 2) (sI (nwM S mm) S.1 1 0)) := by
    unfold m_X6_init
    rw [mI_nw, if_neg (by omega), h8, show (0 : Int32) = nI 0 from rfl, n_max (by omega) (by decide), show max N 0 = N by omega, show (4 : Int32) = nI 4 from rfl, n_mul]
    have hc : (nI (N * 4)).toNatClampNeg = N * 4 := n_ix (by omega)
    unfold gla
    rw [hc, if_pos ⟨by rw [show (0 : Int32) = nI 0 from rfl, n_lt (by omega) (by decide)]; omega, by omega⟩]
    rfl
  have q8 : mI (nwM (nwS S 6 0 2) (sI (nwM S mm) S.1 1 0)) 8 1 = nI N := by
    rw [mI_nw, if_neg (by show ¬ 8 = S.1 + 1; omega), rdI_ne _ _ _ _ (by omega), mI_nw, if_neg (by omega)]; exact h8
  have q9 : ∀ j, mI (nwM (nwS S 6 0 2) (sI (nwM S mm) S.1 1 0)) 9 j = mI mm 9 j := fun j => by
    rw [mI_nw, if_neg (by show ¬ 9 = S.1 + 1; omega), rdI_ne _ _ _ _ (by omega), mI_nw, if_neg (by omega)]
  have qo : ∀ p j, p < S.1 → mI (nwM (nwS S 6 0 2) (sI (nwM S mm) S.1 1 0)) p j = mI mm p j := fun p j hp => by
    rw [mI_nw, if_neg (by show ¬ p = S.1 + 1; omega), rdI_ne _ _ _ _ (by omega), mI_nw, if_neg (by omega)]
  generalize nwM (nwS S 6 0 2) (sI (nwM S mm) S.1 1 0) = m3 at eI q8 q9 qo
  have cO : cpOK 20 400 ((sK (sRs (nwS (nwS S 6 0 2) 20 (N * 4) (N * 4)) S.1 0 (some (S.1 + 1))) (S.1 + 1)).2) 0 0 (nI (N * 4)) (fun i => mI m3 9 i) := by
    rw [K2]
    refine ⟨by decide, by decide, ?_, ?_, ?_, fun i _ => rfl⟩
    · rw [show (0 : Int32) = nI 0 from rfl, n_lt (by omega) (by decide)]; omega
    · rw [ix0, n_ix (by omega)]; omega
    · rw [ix0, n_ix (by omega)]; omega
  refine ⟨sRs (nwS (nwS S 6 0 2) 20 (N * 4) (N * 4)) S.1 0 (some (S.1 + 1)), sI (cpM m3 9 0 (S.1 + 1) 0 (N * 4)) S.1 1 (nI N), ?_, n5, by rw [w5]; omega, K0, R0, hS', hRF', ⟨⟨by rw [n5]; exact Nat.lt_add_of_pos_right (by decide), by rw [show sK _ (sN S) = (6, 0) from K1]⟩, by rw [show sK _ (sN S + 1) = (20, N * 4) from K2]; omega, ?_, fun j q hj hq => ?_⟩, fun p j hp => ?_⟩
  · unfold m_X6_copy
    rw [gP_pos (Lay_nw hS.1 _ _ _), eI, ob_s]
    simp only
    rw [gP_pos hS'.1, gk_pos ⟨by rw [n5]; omega, by rw [K1]⟩, gP_pos hS', q8, show (4 : Int32) = nI 4 from rfl, n_mul, gP_pos cO, ix0, n_ix (by omega), rdCpN _ (by omega), q8]
  · show mI (sI _ S.1 1 _) S.1 1 = nI N
    rw [rdI_eq]
  · show mI (sI _ S.1 1 _) (S.1 + 1) (j * 4 + q) = z j q
    rw [rdI_ne _ _ _ _ (by omega), rdCpY (by omega), q9]
    exact h9 j q hj hq
  · have hp : p < S.1 := hp
    rw [rdI_ne _ _ _ _ (by omega), rdCpN _ (by omega), qo p j hp]
