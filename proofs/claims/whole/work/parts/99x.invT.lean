/-! L3: the told state behind text() -/
theorem by_u {x : Int32} (h : fits .byte (.int x) = true) : ∃ v, v < 256 ∧ x = sb v ∧ x &&& 255 = nI v := by
  have h1 : (-128 : Int32) ≤ x ∧ x ≤ 127 := by
    have h' : ((decide ((-128 : Int32) ≤ x)) && (decide (x ≤ (127 : Int32)))) = true := h
    rw [Bool.and_eq_true, decide_eq_true_eq, decide_eq_true_eq] at h'
    exact h'
  have a1 := Int32.le_iff_toInt_le.mp h1.1
  have a2 := Int32.le_iff_toInt_le.mp h1.2
  rw [show (-128 : Int32).toInt = -128 by decide] at a1
  rw [show (127 : Int32).toInt = 127 by decide] at a2
  have hw : x = nI (x.toInt + 128).toNat - nI 128 := by
    apply Int32.toInt_inj.mp
    rw [Int32.toInt_sub, nI_toInt (by omega), nI_toInt (by decide), Int.bmod_def]
    split <;> omega
  have key : ∀ w, w < 256 → nI w - nI 128 = sb ((w + 128) % 256) ∧ (nI w - nI 128) &&& 255 = nI ((w + 128) % 256) := by decide +kernel
  have k := key (x.toInt + 128).toNat (by omega)
  rw [← hw] at k
  exact ⟨_, Nat.mod_lt _ (by decide), k⟩
theorem Inv_flt {S S' : Sk} {mm m' : Mm} (h : Inv S mm) (hS' : SI S') (sc : scR S S') (e14 : sR S' 14 11 = sR S 14 11) (f q : Int32) (fr : ∀ p j, kept p = true → ¬ (p = 1 ∧ (j = 1 ∨ j = 2 ∨ j = 3)) → ¬ ((p = 46 ∨ p = 47 ∨ p = 48) ∧ j = 0) → mI m' p j = mI mm p j) (h23 : ∀ j, mI m' 23 j = mI mm 23 j) (c1 : mI m' 1 1 = nI 0) (c2 : mI m' 1 2 = f) (c3 : mI m' 1 3 = q) (m1 : mI m' 46 0 = nI 0) (m2 : mI m' 47 0 = f) (m3 : mI m' 48 0 = q) : Inv S' m' := by
  obtain ⟨T, ⟨w1, w2, w3, w4⟩, hc, hm⟩ := h.2.1
  have f71 : ∀ p j, 71 ≤ p → mI m' p j = mI mm p j := fun p j hp => fr p j (kept_of (by omega)) (by omega) (by omega)
  refine Inv_told h hS' (RF_s h.1.1 sc h.2.2.2.2.2) ⟨by rw [sc.1]; exact Nat.le_refl _, fun p _ => sc.2.2.1 p, fun p i _ hp => sc.2.2.2 p i (by omega)⟩ (fun p j h1 _ => fr p j (kept_of (by omega)) (by omega) (by omega)) (fun p j h1 h2 h3 => fr p j (kept_of (by omega)) (by omega) ?_) e14 h23 ⟨((0, tp T), (f, q), T.2.2), ⟨Nat.zero_le _, w2, w3, w4⟩, ?_, ?_⟩
  · rintro ⟨hp, rfl⟩
    rw [Nat.zero_div] at h3
    omega
  · obtain ⟨g1, g2, g3, g4, g5, g6, g7⟩ := hc
    refine ⟨c1, fun i hi => absurd hi (Nat.not_lt_zero i), c2, c3, fun s hs => by rw [fr _ _ (by decide) (by omega) (by omega)]; exact g5 s hs, fun i hi => ?_, fun s i h0 hs hi => ?_⟩
    · obtain ⟨c, hc, hr, hk, hv⟩ := g6 i hi
      exact ⟨c, hc, by rw [sc.2.2.2 _ _ (by omega)]; exact hr, kd_c sc hk, VO_K f71 hc hv⟩
    · obtain ⟨c, hc, hr, hv⟩ := g7 s i h0 hs hi
      exact ⟨c, hc, by rw [sc.2.2.2 _ _ (by omega)]; exact hr, RO_K f71 hc (RO_s sc hv)⟩
  · obtain ⟨g1, g2, g3, g4, g5, g6, g7⟩ := hm
    have e4 : ∀ p j, 49 ≤ p → p ≤ 53 → mI m' p j = mI mm p j := fun p j h1 h2 => fr p j (kept_of (by omega)) (by omega) (by omega)
    refine ⟨m1, fun i hi => absurd hi (Nat.not_lt_zero i), m2, m3, fun s hs => by rw [e4 _ _ (by decide) (by decide)]; exact g5 s hs, fun i hi => MV_eq (g6 i hi) (fun j => e4 _ _ (by decide) (by decide)), fun s i h0 hs hi => ?_⟩
    obtain ⟨k1, k2⟩ := g7 s i h0 hs hi
    exact ⟨by rw [e4 _ _ (by omega) (by omega)]; exact k1, fun j q hj hq => by rw [e4 _ _ (by omega) (by omega)]; exact k2 j q hj hq⟩
def okRz (s N : Nat) (z : Nat → Nat → Int32) : Prop := N ≤ rwm s ∧
  (s = 1 → ∃ dk da db dt, dOK N dk da db dt (fun j => z j 1) (fun j => z j 2) (fun j => z j 3) ∧ ∀ j, j < N → z j 0 = nI (dk j)) ∧
  (s = 2 → ∃ w t : Nat → Nat, (∀ j, w j < 6 ∧ t j < 8) ∧ ∀ j, j < N → z j 1 = nI (w j) ∧ z j 2 = nI (t j)) ∧
  (s = 3 → ∃ kd wh tg : Nat → Nat, (∀ j, kd j < 2 ∧ wh j < 6 ∧ tg j < 8) ∧ ∀ j, j < N → z j 0 = nI (kd j) ∧ z j 1 = nI (wh j) ∧ z j 2 = nI (tg j))
theorem okR_z {T : Td} {s i : Nat} (h : okRz s (tr T s i) (tz T s i)) : okR T s i :=
  ⟨h.1, fun e => by subst e; exact h.2.1 rfl, fun e => by subst e; exact h.2.2.1 rfl, fun e => by subst e; exact h.2.2.2 rfl⟩
theorem Inv_s0 {S S' : Sk} {mm m' : Mm} (h : Inv S mm) {T : Td} (wt : WT T) (hc : CT T 1 S mm) (hm : MT T 0 mm) (hS' : SI S') (hRF' : RF S') (gr : grw S S') (e14 : sR S' 14 11 = sR S 14 11) {k : Nat} (hk : k < 2) (hkn : k ≤ tn T 0) (r4 : ∀ i, i ≠ k → sR S' 4 i = sR S 4 i) (r5 : ∀ i, sR S' 5 i = sR S 5 i) (fr : ∀ p j, p < sN S → kept p = true → ¬ (p = 1 ∧ (j = 1 ∨ j = 2 ∨ j = 3)) → ¬ (p = 3 ∧ j = 0) → ¬ ((p = 46 ∨ p = 47 ∨ p = 48) ∧ j = 0) → ¬ (p = 49 ∧ j = 0) → ¬ (p = 50 ∧ 72 * k ≤ j ∧ j < 72 * k + 72) → mI m' p j = mI mm p j) (h23 : ∀ j, mI m' 23 j = mI mm 23 j) (c1 : mI m' 1 1 = nI 0) (c2 : mI m' 1 2 = nI 0) (c3 : mI m' 1 3 = -1) (m1 : mI m' 46 0 = nI 0) (m2 : mI m' 47 0 = nI 0) (m3 : mI m' 48 0 = -1) (n3 : mI m' 3 0 = nI (max (tn T 0) (k + 1))) (n49 : mI m' 49 0 = nI (max (tn T 0) (k + 1))) {W : Cn} (okW' : okC W) {c : Nat} (hc71 : 71 ≤ c) (rk : sR S' 4 k = some c) (kd : KD S' c 2) (vo : VO W c m') (mv : MV W (72 * k) m') : Inv S' m' := by
  obtain ⟨w1, w2, w3, w4⟩ := wt
  have n71 : 71 ≤ sN S := h.1.1.1
  have tn2 := w2 0 (by decide)
  have f71 : ∀ p j, 71 ≤ p → p < sN S → mI m' p j = mI mm p j := fun p j hp hs => fr p j hs (kept_of (by omega)) (by omega) (by omega) (by omega) (by omega) (by omega)
  refine Inv_told h hS' hRF' gr (fun p j h1 h2 => fr p j h2 (kept_of (by omega)) (by omega) (by omega) (by omega) (by omega) (by omega)) (fun p j h1 h2 h3 => fr p j (by omega) (kept_of (by omega)) (by omega) (by omega) ?_ ?_ ?_) e14 h23 ⟨((0, tp T), (nI 0, -1), (fun s => if s = 0 then max (tn T 0) (k + 1) else tn T s), (fun i => if i = k then W else tc T i), tr T, tz T), ⟨Nat.zero_le _, fun s hs => ?_, fun i hi => ?_, fun s i h0 hs hi => ?_⟩, ?_, ?_⟩
  · rintro ⟨hp, rfl⟩
    rw [Nat.zero_div] at h3
    omega
  · rintro ⟨rfl, rfl⟩
    exact absurd h3 (by decide)
  · rintro ⟨rfl, g1, g2⟩
    have h3 : 1 ≤ j / 144 := h3
    omega
  · show (if s = 0 then max (tn T 0) (k + 1) else tn T s) ≤ 2
    split
    · omega
    · exact w2 s hs
  · show okC (if i = k then W else tc T i)
    have hi : i < max (tn T 0) (k + 1) := hi
    split
    · exact okW'
    · exact w3 i (by omega)
  · have hi : i < (if s = 0 then max (tn T 0) (k + 1) else tn T s) := hi
    rw [if_neg (by omega)] at hi
    exact w4 s i h0 hs hi
  · obtain ⟨g1, g2, g3, g4, g5, g6, g7⟩ := hc
    refine ⟨c1, fun i hi => absurd hi (Nat.not_lt_zero i), c2, c3, fun s hs => ?_, fun i hi => ?_, fun s i h0 hs hi => ?_⟩
    · show mI m' 3 s = nI (if s = 0 then max (tn T 0) (k + 1) else tn T s)
      by_cases e : s = 0
      · rw [e, if_pos rfl]; exact n3
      · rw [if_neg e, fr _ _ (by omega) (by decide) (by omega) (by omega) (by omega) (by omega) (by omega)]; exact g5 s hs
    · have hi : i < max (tn T 0) (k + 1) := hi
      show ∃ c, 71 ≤ c ∧ sR S' 4 i = some c ∧ KD S' c 2 ∧ VO (if i = k then W else tc T i) c m'
      by_cases e : i = k
      · rw [e, if_pos rfl]; exact ⟨c, hc71, rk, kd, vo⟩
      · rw [if_neg e]
        obtain ⟨d, hd, hr, hk', hv⟩ := g6 i (by omega)
        exact ⟨d, hd, by rw [r4 i e]; exact hr, kd_g gr hk', VO_g h.1 hk' hd f71 hv⟩
    · have hi : i < (if s = 0 then max (tn T 0) (k + 1) else tn T s) := hi
      rw [if_neg (by omega)] at hi
      obtain ⟨d, hd, hr, hv⟩ := g7 s i h0 hs hi
      exact ⟨d, hd, by show sR S' 5 _ = _; rw [r5]; exact hr, RO_g h.1 hd gr f71 hv⟩
  · obtain ⟨g1, g2, g3, g4, g5, g6, g7⟩ := hm
    refine ⟨m1, fun i hi => absurd hi (Nat.not_lt_zero i), m2, m3, fun s hs => ?_, fun i hi => ?_, fun s i h0 hs hi => ?_⟩
    · show mI m' 49 (4 * 0 + s) = nI (if s = 0 then max (tn T 0) (k + 1) else tn T s)
      by_cases e : s = 0
      · rw [e, if_pos rfl]; exact n49
      · rw [if_neg e, fr _ _ (by omega) (by decide) (by omega) (by omega) (by omega) (by omega) (by omega)]; exact g5 s hs
    · have hi : i < max (tn T 0) (k + 1) := hi
      show MV (if i = k then W else tc T i) (144 * 0 + 72 * i) m'
      by_cases e : i = k
      · rw [e, if_pos rfl, show 144 * 0 + 72 * k = 72 * k by omega]; exact mv
      · rw [if_neg e]
        exact MV_eq2 (g6 i (by omega)) (fun x hx => fr _ _ (by omega) (by decide) (by omega) (by omega) (by omega) (by omega) (by omega))
    · have hi : i < (if s = 0 then max (tn T 0) (k + 1) else tn T s) := hi
      rw [if_neg (by omega)] at hi
      exact RM_eq h0 hs (w4 s i h0 hs hi).1 (g7 s i h0 hs hi) (fun x hx => fr _ _ (by omega) (kept_of (by omega)) (by omega) (by omega) (by omega) (by omega) (by omega))
theorem Inv_s1 {S S' : Sk} {mm m' : Mm} (h : Inv S mm) {T : Td} (wt : WT T) (hc : CT T 1 S mm) (hm : MT T 0 mm) (hS' : SI S') (hRF' : RF S') (gr : grw S S') (e14 : sR S' 14 11 = sR S 14 11) {g k : Nat} (g1 : 1 ≤ g) (hg : g < 4) (hk : k < 2) (hkn : k ≤ tn T g) (r4 : ∀ i, sR S' 4 i = sR S 4 i) (r5 : ∀ i, i ≠ g * 2 + k → sR S' 5 i = sR S 5 i) (fr : ∀ p j, p < sN S → kept p = true → ¬ (p = 1 ∧ (j = 1 ∨ j = 2 ∨ j = 3)) → ¬ (p = 3 ∧ j = g) → ¬ ((p = 46 ∨ p = 47 ∨ p = 48) ∧ j = 0) → ¬ (p = 49 ∧ j = g) → ¬ (p = 50 + g ∧ rwz g * k ≤ j ∧ j < rwz g * k + rwz g) → mI m' p j = mI mm p j) (h23 : ∀ j, mI m' 23 j = mI mm 23 j) (c1 : mI m' 1 1 = nI 0) (c2 : mI m' 1 2 = nI 0) (c3 : mI m' 1 3 = -1) (m1 : mI m' 46 0 = nI 0) (m2 : mI m' 47 0 = nI 0) (m3 : mI m' 48 0 = -1) (n3 : mI m' 3 g = nI (max (tn T g) (k + 1))) (n49 : mI m' 49 g = nI (max (tn T g) (k + 1))) {N : Nat} {z : Nat → Nat → Int32} (okz : okRz g N z) {c : Nat} (hc71 : 71 ≤ c) (rk : sR S' 5 (g * 2 + k) = some c) (ro : RO N z c S' m') (rm' : RM N z g (rwz g * k) m') : Inv S' m' := by
  obtain ⟨w1, w2, w3, w4⟩ := wt
  have n71 : 71 ≤ sN S := h.1.1.1
  have tn2 := w2 g hg
  have tn0 := w2 0 (by decide)
  have f71 : ∀ p j, 71 ≤ p → p < sN S → mI m' p j = mI mm p j := fun p j hp hs => fr p j hs (kept_of (by omega)) (by omega) (by omega) (by omega) (by omega) (by omega)
  have hz : rwz g * k + rwz g ≤ Lp (50 + g) ∧ 0 < Lp (50 + g) ∧ ∀ i, i ≠ k → i < 2 → rwz g * i + rwz g ≤ rwz g * k ∨ rwz g * k + rwz g ≤ rwz g * i := by
    rcases (by omega : g = 1 ∨ g = 2 ∨ g = 3) with rfl | rfl | rfl
    · show 161 * k + 161 ≤ 322 ∧ 0 < 322 ∧ ∀ i, i ≠ k → i < 2 → 161 * i + 161 ≤ 161 * k ∨ 161 * k + 161 ≤ 161 * i
      exact ⟨by omega, by decide, fun i h1 h2 => by omega⟩
    · show 13 * k + 13 ≤ 26 ∧ 0 < 26 ∧ ∀ i, i ≠ k → i < 2 → 13 * i + 13 ≤ 13 * k ∨ 13 * k + 13 ≤ 13 * i
      exact ⟨by omega, by decide, fun i h1 h2 => by omega⟩
    · show 25 * k + 25 ≤ 50 ∧ 0 < 50 ∧ ∀ i, i ≠ k → i < 2 → 25 * i + 25 ≤ 25 * k ∨ 25 * k + 25 ≤ 25 * i
      exact ⟨by omega, by decide, fun i h1 h2 => by omega⟩
  refine Inv_told h hS' hRF' gr (fun p j h1 h2 => fr p j h2 (kept_of (by omega)) (by omega) (by omega) (by omega) (by omega) (by omega)) (fun p j h1 h2 h3 => fr p j (by omega) (kept_of (by omega)) (by omega) (by omega) ?_ ?_ ?_) e14 h23 ⟨((0, tp T), (nI 0, -1), (fun s => if s = g then max (tn T g) (k + 1) else tn T s), tc T, (fun s i => if s = g ∧ i = k then N else tr T s i), (fun s i => if s = g ∧ i = k then z else tz T s i)), ⟨Nat.zero_le _, fun s hs => ?_, fun i hi => ?_, fun s i h0 hs hi => ?_⟩, ?_, ?_⟩
  · rintro ⟨hp, rfl⟩
    rw [Nat.zero_div] at h3
    omega
  · rintro ⟨rfl, rfl⟩
    have h3 : 1 ≤ j / 4 := h3
    omega
  · rintro ⟨rfl, q1, q2⟩
    have : j / Lp (50 + g) = 0 := Nat.div_eq_of_lt (by omega)
    omega
  · show (if s = g then max (tn T g) (k + 1) else tn T s) ≤ 2
    split
    · omega
    · exact w2 s hs
  · have hi : i < (if 0 = g then max (tn T g) (k + 1) else tn T 0) := hi
    rw [if_neg (by omega)] at hi
    exact w3 i hi
  · have hi : i < (if s = g then max (tn T g) (k + 1) else tn T s) := hi
    apply okR_z
    show okRz s (if s = g ∧ i = k then N else tr T s i) (if s = g ∧ i = k then z else tz T s i)
    by_cases e : s = g ∧ i = k
    · rw [if_pos e, if_pos e, e.1]; exact okz
    · rw [if_neg e, if_neg e]
      have hi' : i < tn T s := by
        by_cases e1 : s = g
        · rw [if_pos e1] at hi; rw [e1]; have : i ≠ k := fun q => e ⟨e1, q⟩; omega
        · rw [if_neg e1] at hi; exact hi
      obtain ⟨x1, x2, x3, x4⟩ := w4 s i h0 hs hi'
      exact ⟨x1, fun q => by subst q; exact x2 rfl, fun q => by subst q; exact x3 rfl, fun q => by subst q; exact x4 rfl⟩
  · obtain ⟨g1', g2, g3, g4, g5, g6, g7⟩ := hc
    refine ⟨c1, fun i hi => absurd hi (Nat.not_lt_zero i), c2, c3, fun s hs => ?_, fun i hi => ?_, fun s i h0 hs hi => ?_⟩
    · show mI m' 3 s = nI (if s = g then max (tn T g) (k + 1) else tn T s)
      by_cases e : s = g
      · rw [e, if_pos rfl]; exact n3
      · rw [if_neg e, fr _ _ (by omega) (by decide) (by omega) (by omega) (by omega) (by omega) (by omega)]; exact g5 s hs
    · have hi : i < (if 0 = g then max (tn T g) (k + 1) else tn T 0) := hi
      rw [if_neg (by omega)] at hi
      obtain ⟨d, hd, hr, hk', hv⟩ := g6 i hi
      exact ⟨d, hd, by show sR S' 4 i = _; rw [r4]; exact hr, kd_g gr hk', VO_g h.1 hk' hd f71 hv⟩
    · have hi : i < (if s = g then max (tn T g) (k + 1) else tn T s) := hi
      show ∃ c, 71 ≤ c ∧ sR S' 5 (s * 2 + i) = some c ∧ RO (if s = g ∧ i = k then N else tr T s i) (if s = g ∧ i = k then z else tz T s i) c S' m'
      by_cases e : s = g ∧ i = k
      · rw [if_pos e, if_pos e, e.1, e.2]; exact ⟨c, hc71, rk, ro⟩
      · rw [if_neg e, if_neg e]
        have hi' : i < tn T s ∧ i < 2 := by
          have := w2 s hs
          by_cases e1 : s = g
          · rw [if_pos e1] at hi; subst e1; have : i ≠ k := fun q => e ⟨rfl, q⟩; omega
          · rw [if_neg e1] at hi; omega
        obtain ⟨d, hd, hr, hv⟩ := g7 s i h0 hs hi'.1
        exact ⟨d, hd, by rw [r5 _ (fun q => e (by omega))]; exact hr, RO_g h.1 hd gr f71 hv⟩
  · obtain ⟨g1', g2, g3, g4, g5, g6, g7⟩ := hm
    refine ⟨m1, fun i hi => absurd hi (Nat.not_lt_zero i), m2, m3, fun s hs => ?_, fun i hi => ?_, fun s i h0 hs hi => ?_⟩
    · show mI m' 49 (4 * 0 + s) = nI (if s = g then max (tn T g) (k + 1) else tn T s)
      by_cases e : s = g
      · rw [e, if_pos rfl, show 4 * 0 + g = g by omega]; exact n49
      · rw [if_neg e, fr _ _ (by omega) (by decide) (by omega) (by omega) (by omega) (by omega) (by omega)]; exact g5 s hs
    · have hi : i < (if 0 = g then max (tn T g) (k + 1) else tn T 0) := hi
      rw [if_neg (by omega)] at hi
      exact MV_eq2 (g6 i hi) (fun x hx => fr _ _ (by omega) (by decide) (by omega) (by omega) (by omega) (by omega) (by omega))
    · have hi : i < (if s = g then max (tn T g) (k + 1) else tn T s) := hi
      show RM (if s = g ∧ i = k then N else tr T s i) (if s = g ∧ i = k then z else tz T s i) s (2 * rwz s * 0 + rwz s * i) m'
      by_cases e : s = g ∧ i = k
      · rw [if_pos e, if_pos e, e.1, e.2, Nat.mul_zero, Nat.zero_add]; exact rm'
      · rw [if_neg e, if_neg e]
        have hi' : i < tn T s ∧ i < 2 := by
          have := w2 s hs
          by_cases e1 : s = g
          · rw [if_pos e1] at hi; subst e1; have : i ≠ k := fun q => e ⟨rfl, q⟩; omega
          · rw [if_neg e1] at hi; omega
        refine RM_eq h0 hs (w4 s i h0 hs hi'.1).1 (g7 s i h0 hs hi'.1) (fun x hx => fr _ _ (by omega) (kept_of (by omega)) (by omega) (by omega) (by omega) (by omega) ?_)
        rintro ⟨q1, q2, q3⟩
        have es : s = g := by omega
        subst es
        rw [Nat.mul_zero, Nat.zero_add] at q2 q3
        rcases hz.2.2 i (fun q => e ⟨rfl, q⟩) hi'.2 with y | y <;> omega
