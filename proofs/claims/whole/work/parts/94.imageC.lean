/-! L3: image as an operation -/
theorem gO_pos {α : Type} {o : Option Nat} {c : Nat} {f : Nat → Option α} (h : o = some c) : gO o f = f c := by rw [h]; rfl
theorem CT_gg {T : Td} {c : Nat} {S S' : Sk} (hS : SI S) (hk : KD S c 9) (gN : sN S ≤ sN S') (gK : ∀ p, p < sN S → sK S' p = sK S p) (gR : ∀ p i, p < sN S → sR S' p i = sR S p i) {m m' : Mm} (e : ∀ p j, p < sN S → mI m' p j = mI m p j) (h : CT T c S m) : CT T c S' m' := by
  obtain ⟨a1, a2, a3, a4⟩ := hS.2.2.2 c hk
  have h0 := hk.1
  have g : grw S S' := ⟨gN, gK, fun p i h1 _ => gR p i h1⟩
  obtain ⟨h1, h2, h3, h4, h5, h6, h7⟩ := h
  refine ⟨by rw [e _ _ h0, h1], fun i hi => by rw [e _ _ a1.2.1]; exact h2 i hi, by rw [e _ _ h0, h3], by rw [e _ _ h0, h4], fun s hs => by rw [e _ _ a2.2.1, h5 s hs], fun i hi => ?_, fun s i h0 hs hi => ?_⟩
  · obtain ⟨d, hd, hr, hk, hv⟩ := h6 i hi
    exact ⟨d, hd, by rw [gR _ _ a3.2.1]; exact hr, kd_g g hk, VO_g hS hk hd (fun p j _ h2 => e p j h2) hv⟩
  · obtain ⟨d, hd, hr, hv⟩ := h7 s i h0 hs hi
    exact ⟨d, hd, by rw [gR _ _ a4.2.1]; exact hr, RO_g hS hd g (fun p j _ h2 => e p j h2) hv⟩
theorem CT_6 {T : Td} {a k : Nat} {o : Option Nat} {S : Sk} {m : Mm} (ha : a = 1 ∨ 71 ≤ a) (h : CT T a S m) : CT T a (sRs S 6 k o) m := by
  obtain ⟨h1, h2, h3, h4, h5, h6, h7⟩ := h
  refine ⟨h1, h2, h3, h4, h5, fun i hi => ?_, fun s i h0 hs hi => ?_⟩
  · obtain ⟨c, hc, hr, hk, hv⟩ := h6 i hi
    exact ⟨c, hc, by rw [rdR, if_neg (by omega)]; exact hr, hk, hv⟩
  · obtain ⟨c, hc, hr, hv⟩ := h7 s i h0 hs hi
    exact ⟨c, hc, by rw [rdR, if_neg (by omega)]; exact hr, hv⟩
theorem op_image {S : Sk} {mm : Mm} (h : Inv S mm) (a1 : Int32) : OpG S (m_X11_image S a1 mm) (fun S' => m_X12_image S' a1) := by
  have l0 : (0 : Int32) = nI 0 := rfl
  rcases arg_cases a1 (n := 3) (by omega) with ⟨k, hk, rfl⟩ | h1
  · have C0 : m_X11_image S (nI k) mm = ((oM (sR S 6 k) ((m_X9_init (nwS S 9 0 7) S.1 (nwM S mm)).bind (fun q11 => gP (Lay q11.1) (gk q11.1 S.1 9 (some ((sRs q11.1 6 k (some S.1)), q11.2))))) (fun c9 => some (S, mm)) : Option (Sk × Mm)).bind (fun p4 => gP (Lay p4.1) (gO (sR p4.1 6 k) (fun c18 => gk p4.1 c18 9 (gP (SI p4.1) ((m_X9_copyOf p4.1 c18 1 p4.2).bind (fun q22 => some (1, q22.1, q22.2)))))))) := by
      unfold m_X11_image
      rw [if_neg (by rw [l0, n_lt (by omega) (by omega)]; omega), if_pos (by rw [show (3 : Int32) = nI 3 from rfl, n_lt (by omega) (by omega)]; exact hk)]
      simp (disch := omega) only [n_grd, n_ix]
    have fin : ∀ c S1 m0, InvX k c S1 m0 → (oM (sR S 6 k) ((m_X9_init (nwS S 9 0 7) S.1 (nwM S mm)).bind (fun q11 => gP (Lay q11.1) (gk q11.1 S.1 9 (some ((sRs q11.1 6 k (some S.1)), q11.2))))) (fun c9 => some (S, mm)) : Option (Sk × Mm)) = some (S1, m0) → sN S1 ≤ sN S + 11 → sW S1 ≤ sW S + 700 → OpG S (m_X11_image S (nI k) mm) (fun S' => m_X12_image S' (nI k)) := fun c S1 m0 hX e0 hN hW => by
      obtain ⟨S', m1, m2, e1, e2, hI, g1, g2⟩ := image_copy hk hX
      refine ⟨1, S', m1, m2, ?_, e2, hI, by omega, by omega⟩
      rw [C0, e0, ob_s, gP_pos hX.1.1, gO_pos hX.2.2.2.2.2.1, gk_pos hX.2.2.2.2.2.2.2, gP_pos hX.1, e1, ob_s]
    cases hr : sR S 6 k with
    | some c =>
      rcases h.2.2.1 k hk with ⟨x1, _⟩ | ⟨d, T, x1, hd, x2, x3, w1, w2, w3⟩
      · rw [x1] at hr; cases hr
      · rw [hr] at x1
        obtain rfl := Option.some.inj x1
        refine fin c S mm ⟨h.1, h.2.1, fun l hl _ => h.2.2.1 l hl, h.2.2.2.1, h.2.2.2.2, hr, hd, x2⟩ (by rw [hr]; rfl) (by omega) (by omega)
    | none =>
      obtain ⟨S', m', e, n5, w5, K0, R0, hS', hRF', k9, MM⟩ := init_9 h.1 h.2.2.2.2.2 mm
      have n71 := h.1.1.1
      have g : grw S S' := ⟨by omega, K0, fun p i h1 _ => R0 p i h1⟩
      obtain ⟨T, t1, t2, t3⟩ := h.2.1
      have hI' : Inv S' m' := Inv_told h hS' hRF' g (fun p j _ h2 => MM p j h2) (fun p j h1 h2 _ => MM p j (by omega)) (R0 _ _ (by omega)) (fun j => MM _ _ (by omega)) ⟨T, t1, CT_gg h.1 (k9_1 h.1.1) (by omega) K0 R0 MM t2, MT_slot t1 (fun p j h1 h2 _ => MM p j (by omega)) t3⟩
      have lt : ∀ l c, l < 3 → sR S 6 l = some c → c < sN S := fun l c hl hc => by
        rcases h.2.2.1 l hl with ⟨x1, _⟩ | ⟨d, V, x1, _, x2, _⟩
        · rw [x1] at hc; cases hc
        · rw [x1] at hc; obtain rfl := Option.some.inj hc; exact x2.1
      have r6 : ∀ l, l ≠ k → sR (sRs S' 6 k (some S.1)) 6 l = sR S 6 l := fun l hl => by rw [rdR, if_neg (by omega), R0 _ _ (by omega)]
      have rk : sR (sRs S' 6 k (some S.1)) 6 k = some S.1 := by rw [rdR, if_pos ⟨rfl, rfl⟩]
      have sN1 : S.1 = sN S := rfl
      refine fin S.1 (sRs S' 6 k (some S.1)) m' ⟨SI_p hS' (lay_hi (by decide)) (by rw [hS'.1.2.1 6 (by decide)]; decide), ?_, fun l hl hlk => ?_, fun x y c hx hy q1 q2 => ?_, ⟨?_, ?_⟩, rk, n71, k9⟩ ?_ (by show sN S' ≤ _; omega) (by show sW S' ≤ _; omega)
      · obtain ⟨V, v1, v2, v3⟩ := hI'.2.1
        exact ⟨V, v1, CT_6 (Or.inl rfl) v2, v3⟩
      · rcases hI'.2.2.1 l hl with ⟨x1, x2⟩ | ⟨d, V, x1, hd, x2, x3, v1, v2, v3⟩
        · exact Or.inl ⟨by rw [rdR, if_neg (by omega)]; exact x1, x2⟩
        · exact Or.inr ⟨d, V, by rw [rdR, if_neg (by omega)]; exact x1, hd, x2, x3, v1, CT_6 (Or.inr hd) v2, v3⟩
      · by_cases ex : x = k
        · by_cases ey : y = k
          · rw [ex, ey]
          · exfalso
            rw [ex, rk] at q1
            rw [r6 y ey] at q2
            obtain rfl := Option.some.inj q1
            have := lt y _ hy q2
            omega
        · by_cases ey : y = k
          · exfalso
            rw [ey, rk] at q2
            rw [r6 x ex] at q1
            obtain rfl := Option.some.inj q2
            have := lt x _ hx q1
            omega
          · rw [r6 x ex] at q1
            rw [r6 y ey] at q2
            exact h.2.2.2.1 x y c hx hy q1 q2
      · obtain ⟨b1, b2', b3⟩ := hI'.2.2.2.2.1
        exact ⟨b1, b2', fun c hc => b3 c (by rw [← hc, rdR, if_neg (by omega)])⟩
      · intro a ha
        have ha' : KD S' a 9 := ha
        have := kd9 hS'.1 ha'
        obtain ⟨f1, f2⟩ := hRF' a ha'
        exact ⟨fun i v hi hv => f1 i v hi (by rw [← hv, rdR, if_neg (by omega)]), fun i v hi hv => f2 i v hi (by rw [← hv, rdR, if_neg (by omega)])⟩
      · rw [hr]
        simp only [oM]
        rw [e, ob_s, gP_pos hS'.1, gk_pos k9]
  · refine ⟨0, S, mm, sI mm 44 0 0, ?_, ?_, (Inv_m (L := [(44, some 0)]) h (by decide) (agx_wr (agx_rf _) (by rfl))).1, by omega, by omega⟩
    · unfold m_X11_image
      by_cases z : a1 < 0
      · rw [if_pos z]
      · rw [if_neg z, show (3 : Int32) = nI 3 from rfl, if_neg (far_lt h1 z)]
    · show m_X12_image S a1 mm = _
      unfold m_X12_image
      rw [show (2 : Int32) = nI 2 from rfl, in_n h1 (by decide), if_pos i2f]
