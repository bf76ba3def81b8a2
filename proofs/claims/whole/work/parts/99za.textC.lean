/-! L3: text() in both; the claim -/
theorem text_ok : TextOK := by
  intro S mm a1 a2 h
  obtain ⟨T, wt, hc, hm⟩ := h.2.1
  have l0 : (0 : Int32) = nI 0 := rfl
  rcases arg_cases a1 (n := 4) (by decide) with ⟨g, hg, rfl⟩ | h1
  · have tn2 := wt.2.1 g hg
    have h3 : mI mm 3 g = nI (tn T g) := hc.2.2.2.2.1 g hg
    have h49 : mI mm 49 g = nI (tn T g) := by
      have := hm.2.2.2.2.1 g hg
      rwa [Nat.mul_zero, Nat.zero_add] at this
    have gi : m_X12_in (nI g) 0 3 = b2 true := in_y (n := 3) (by omega) (by decide)
    have ga : ¬ nI g < 0 := by rw [l0, n_lt (by omega) (by decide)]; omega
    have gb : nI g < 4 := by rw [show (4 : Int32) = nI 4 from rfl, n_lt (by omega) (by decide)]; exact hg
    have r49 : ∀ mc : Mm, mI mc 49 g = nI (tn T g) → mI (rsX mc) 49 g = nI (tn T g) := fun mc q => by rw [rsX_o _ (by omega) (by omega)]; exact q
    have rX : ∀ (S' : Sk) (mc : Mm), m_X12_text S' (nI g) a2 mc = bS (if a2 = -1 then (grd (nI g) 16 (if (mI (rsX mc) 49 (ix (nI g))) = 2 then (some (.inr (-2, rsX mc))) else (some (.inl ())))) else ((m_X12_is (nI g) a2 (rsX mc)).bind (fun q7 => if q7 = 0 then (some (.inr (-2, rsX mc))) else (some (.inl ())))) : Option ((Unit) ⊕ (Int32 × Mm))) (fun p2 => (m_X12_readText (nI g) (rsX mc)).bind (fun q12 => if q12.1 = 0 then (some (-1, q12.2)) else ((if a2 = -1 then (grd (nI g) 16 (some (mI q12.2 49 (ix (nI g))))) else (some a2) : Option (Int32)).bind (fun p15 => grd (nI g) 16 (grd (nI g) 16 ((m_X12_storeOf S' (nI g) p15 (sI q12.2 49 (ix (nI g)) ((mI q12.2 49 (ix (nI g))) + (if a2 = -1 then 1 else 0)))).bind (fun q26 => some (p15, q26)))))))) := fun S' mc => by
      unfold m_X12_text
      rw [gi, if_neg i2t]
      rfl
    by_cases am : a2 = -1
    · by_cases t2 : tn T g = 2
      · refine text_no h ?_ ?_
        · unfold m_X9_placeFor
          rw [if_neg ga, if_pos gb, if_pos am, n_grd (by omega) (by decide), n_ix (by omega), h3, t2, if_pos (by decide)]
        · rw [rX, if_pos am, n_grd (by omega) (by decide), n_ix (by omega), r49 _ (by rw [clX_o _ (by omega)]; exact h49), t2, if_pos (by rfl), bs_r]
      · have n2 : ¬ nI (tn T g) = 2 := by rw [show (2 : Int32) = nI 2 from rfl, n_eq (by omega) (by decide)]; exact t2
        refine text_yes h wt hc hm hg (k := tn T g) (by omega) (Nat.le_refl _) ?_ (fun S' mc q12 c49 e q49 => ?_)
        · unfold m_X9_placeFor
          rw [if_neg ga, if_pos gb, if_pos am, n_grd (by omega) (by decide), n_ix (by omega), h3, if_neg (by rw [show (2 : Int32) = nI 2 from rfl, n_le (by decide) (by omega)]; omega), n_grd (by omega) (by decide)]
        · rw [rX, if_pos am, n_grd (by omega) (by decide), n_ix (by omega), r49 mc c49, if_neg n2, bs_l, e, ob_s, if_pos am, if_pos am, n_grd (by omega) (by decide), q49, ob_s, n_grd (by omega) (by decide), n_grd (by omega) (by decide), show (1 : Int32) = nI 1 from rfl, nI_add, show max (tn T g) (tn T g + 1) = tn T g + 1 by omega]
    · rcases arg_cases a2 (n := tn T g) (by omega) with ⟨k, hk, rfl⟩ | h2
      · refine text_yes h wt hc hm hg (k := k) (by omega) (by omega) ?_ (fun S' mc q12 c49 e q49 => ?_)
        · unfold m_X9_placeFor
          rw [if_neg ga, if_pos gb, if_neg am, if_neg (by rw [l0, n_lt (by omega) (by decide)]; omega), n_grd (by omega) (by decide), n_ix (by omega), h3, if_neg (by rw [n_le (by omega) (by omega)]; omega)]
        · have is' : m_X12_is (nI g) (nI k) (rsX mc) = some (b2 true) := by
            unfold m_X12_is
            rw [n_grd (by omega) (by decide), n_ix (by omega), r49 mc c49, show (1 : Int32) = nI 1 from rfl, n_sub (by omega), in_y (by omega) (by omega), n_gbz]
          rw [rX, if_neg am, is', ob_s, if_neg i2t, bs_l, e, ob_s, if_neg am, if_neg am, ob_s, n_grd (by omega) (by decide), n_grd (by omega) (by decide), n_ix (by omega), q49, l0, nI_add, show max (tn T g) (k + 1) = tn T g + 0 by omega]
      · refine text_no h ?_ ?_
        · unfold m_X9_placeFor
          rw [if_neg ga, if_pos gb, if_neg am]
          by_cases z : a2 < 0
          · rw [if_pos z]
          · rw [if_neg z, n_grd (by omega) (by decide), n_ix (by omega), h3, if_pos (h2.resolve_left z)]
        · have is' : m_X12_is (nI g) a2 (rsX (clX mm)) = some (b2 false) := by
            unfold m_X12_is
            rw [n_grd (by omega) (by decide), n_ix (by omega), r49 _ (by rw [clX_o _ (by omega)]; exact h49), M_in_no h2 (by omega), n_gbz]
          rw [rX, if_neg am, is', ob_s, if_pos i2f, bs_r]
  · refine text_no h ?_ ?_
    · unfold m_X9_placeFor
      by_cases z : a1 < 0
      · rw [if_pos z]
      · have q : nI 4 ≤ a1 := h1.resolve_left z
        rw [if_neg z, if_neg (show ¬ a1 < 4 from Int32.not_lt.mpr q)]
    · have i3 : m_X12_in a1 0 3 = b2 false := in_n (n := 3) h1 (by decide)
      unfold m_X12_text
      rw [i3, if_pos i2f]
      rfl
