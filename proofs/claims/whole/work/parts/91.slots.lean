/-! L3: the told state changes: slots of the reference, a world that grows -/
def Lp (p : Nat) : Nat := if p = 45 then 600 else if p = 49 then 4 else if p = 50 then 144 else if p = 51 then 322 else if p = 52 then 26 else if p = 53 then 50 else 1
theorem MV_eq2 {W : Cn} {o : Nat} {m m' : Mm} (h : MV W o m) (e : ∀ x, x < 72 → mI m' 50 (o + x) = mI m 50 (o + x)) : MV W o m' := by
  obtain ⟨g0, g1, g2, g3, g4, g5, g6, g7, g8, g9⟩ := h
  refine ⟨?_, ?_, fun p hp => ?_, fun p hp => ?_, fun p hp => ?_, fun p hp => ?_, fun p hp => ?_, fun p hp => ?_, fun p hp => ?_, fun p hp => ?_⟩
  · have := e 0 (by decide); rw [Nat.add_zero] at this; rw [this]; exact g0
  · rw [e _ (by decide)]; exact g1
  · rw [e _ (by omega)]; exact g2 p hp
  · rw [e _ (by omega)]; exact g3 p hp
  · rw [e _ (by omega)]; exact g4 p hp
  · rw [e _ (by omega)]; exact g5 p hp
  · rw [e _ (by omega)]; exact g6 p hp
  · rw [e _ (by omega)]; exact g7 p hp
  · rw [e _ (by omega)]; exact g8 p hp
  · rw [e _ (by omega)]; exact g9 p hp
theorem RM_eq {n : Nat} {z : Nat → Nat → Int32} {s o : Nat} {m m' : Mm} (h1 : 1 ≤ s) (h4 : s < 4) (hn : n ≤ rwm s) (h : RM n z s o m) (e : ∀ x, x < rwz s → mI m' (50 + s) (o + x) = mI m (50 + s) (o + x)) : RM n z s o m' := by
  obtain ⟨g0, g1⟩ := h
  have hz : 1 + rwn s * rwm s ≤ rwz s ∧ 0 < rwz s := by rcases (by omega : s = 1 ∨ s = 2 ∨ s = 3) with rfl | rfl | rfl <;> decide
  refine ⟨by have := e 0 hz.2; rw [Nat.add_zero] at this; rw [this]; exact g0, fun j q hj hq => ?_⟩
  have hx : 1 + rwn s * j + q < rwz s := by
    have : rwn s * (j + 1) ≤ rwn s * rwm s := Nat.mul_le_mul_left _ (by omega)
    rw [Nat.mul_add, Nat.mul_one] at this
    omega
  have := e _ hx
  rw [show o + 1 + rwn s * j + q = o + (1 + rwn s * j + q) by omega, this, ← show o + 1 + rwn s * j + q = o + (1 + rwn s * j + q) by omega]
  exact g1 j q hj hq
theorem MT_slot {T : Td} {b : Nat} {m m' : Mm} (w : WT T) (e : ∀ p j, 45 ≤ p → p ≤ 53 → j / Lp p = b → mI m' p j = mI m p j) (h : MT T b m) : MT T b m' := by
  obtain ⟨w1, w2, w3, w4⟩ := w
  obtain ⟨h1, h2, h3, h4, h5, h6, h7⟩ := h
  have d1 : b / 1 = b := Nat.div_one b
  refine ⟨by rw [e 46 b (by decide) (by decide) d1, h1], fun i hi => ?_, by rw [e 47 b (by decide) (by decide) d1, h3], by rw [e 48 b (by decide) (by decide) d1, h4], fun s hs => ?_, fun i hi => ?_, fun s i h0 hs hi => ?_⟩
  · rw [e 45 _ (by decide) (by decide) (show (600 * b + i) / 600 = b by omega)]; exact h2 i hi
  · rw [e 49 _ (by decide) (by decide) (show (4 * b + s) / 4 = b by omega)]; exact h5 s hs
  · have := w2 0 (by decide)
    exact MV_eq2 (h6 i hi) (fun x hx => e 50 _ (by decide) (by decide) (show (144 * b + 72 * i + x) / 144 = b by omega))
  · have := w2 s hs
    refine RM_eq h0 hs (w4 s i h0 hs hi).1 (h7 s i h0 hs hi) (fun x hx => e _ _ (by omega) (by omega) ?_)
    rcases (by omega : s = 1 ∨ s = 2 ∨ s = 3) with rfl | rfl | rfl
    · have hx' : x < 161 := hx
      show (2 * 161 * b + 161 * i + x) / 322 = b; omega
    · have hx' : x < 13 := hx
      show (2 * 13 * b + 13 * i + x) / 26 = b; omega
    · have hx' : x < 25 := hx
      show (2 * 25 * b + 25 * i + x) / 50 = b; omega
/-- a world that grew -/
def grw (S S' : Sk) : Prop := sN S ≤ sN S' ∧ (∀ p, p < sN S → sK S' p = sK S p) ∧ ∀ p i, p < sN S → (p = 6 ∨ 71 ≤ p) → sR S' p i = sR S p i
theorem grw_rf (S : Sk) : grw S S := ⟨Nat.le_refl _, fun _ _ => rfl, fun _ _ _ _ => rfl⟩
theorem kd_g {S S' : Sk} (g : grw S S') {c k : Nat} (h : KD S c k) : KD S' c k := ⟨Nat.lt_of_lt_of_le h.1 g.1, by rw [g.2.1 c h.1]; exact h.2⟩
theorem VO_g {W : Cn} {S : Sk} (hS : SI S) {c : Nat} (hk : KD S c 2) (hc : 71 ≤ c) {m m' : Mm} (e : ∀ p j, 71 ≤ p → p < sN S → mI m' p j = mI m p j) (h : VO W c m) : VO W c m' := by
  have h8 := (hS.2.1 c hk 7 (by decide)).2.1
  have h0 := hk.1
  unfold VO at h ⊢
  simp (disch := omega) only [e]
  exact h
theorem RO_g {n : Nat} {z : Nat → Nat → Int32} {S S' : Sk} (hS : SI S) {c : Nat} (hc : 71 ≤ c) (g : grw S S') {m m' : Mm} (e : ∀ p j, 71 ≤ p → p < sN S → mI m' p j = mI m p j) (h : RO n z c S m) : RO n z c S' m' := by
  obtain ⟨h1, h2, h3, h4⟩ := h
  have h5 := (hS.2.2.1 c h1).2.1
  exact ⟨kd_g g h1, by rw [g.2.1 _ h5]; exact h2, by rw [e _ _ hc h1.1]; exact h3, fun j q hj hq => by rw [e _ _ (by omega) h5]; exact h4 j q hj hq⟩
theorem CT_g {T : Td} {c : Nat} {S S' : Sk} (hS : SI S) (hk : KD S c 9) (hc : 71 ≤ c) (g : grw S S') {m m' : Mm} (e : ∀ p j, 71 ≤ p → p < sN S → mI m' p j = mI m p j) (h : CT T c S m) : CT T c S' m' := by
  obtain ⟨a1, a2, a3, a4⟩ := hS.2.2.2 c hk
  have h0 := hk.1
  obtain ⟨h1, h2, h3, h4, h5, h6, h7⟩ := h
  refine ⟨by rw [e _ _ hc h0, h1], fun i hi => by rw [e _ _ (by omega) a1.2.1]; exact h2 i hi, by rw [e _ _ hc h0, h3], by rw [e _ _ hc h0, h4], fun s hs => by rw [e _ _ (by omega) a2.2.1, h5 s hs], fun i hi => ?_, fun s i h0 hs hi => ?_⟩
  · obtain ⟨d, hd, hr, hk, hv⟩ := h6 i hi
    exact ⟨d, hd, by rw [g.2.2 _ _ a3.2.1 (by omega)]; exact hr, kd_g g hk, VO_g hS hk hd e hv⟩
  · obtain ⟨d, hd, hr, hv⟩ := h7 s i h0 hs hi
    exact ⟨d, hd, by rw [g.2.2 _ _ a4.2.1 (by omega)]; exact hr, RO_g hS hd g e hv⟩
theorem ImO_g {S S' : Sk} (hS : SI S) (g : grw S S') {m m' : Mm} (e : ∀ p j, 70 ≤ p → p < sN S → mI m' p j = mI m p j) {k : Nat} (e2 : ∀ p j, 45 ≤ p → p ≤ 53 → j / Lp p = k + 1 → mI m' p j = mI m p j) (h : ImO S m k) : ImO S' m' k := by
  have h71 := hS.1.1
  rcases h with ⟨a, b⟩ | ⟨c, V, a, ha, b, d, w1, w2, w3⟩
  · exact Or.inl ⟨by rw [g.2.2 _ _ (by omega) (Or.inl rfl)]; exact a, by rw [e _ _ (by decide) (by omega)]; exact b⟩
  · exact Or.inr ⟨c, V, by rw [g.2.2 _ _ (by omega) (Or.inl rfl)]; exact a, ha, kd_g g b, by rw [e _ _ (by decide) (by omega)]; exact d, w1, CT_g hS b ha g (fun p j h1 h2 => e p j (by omega) h2) w2, MT_slot w1 e2 w3⟩
theorem TBI_g {S S' : Sk} (hS : SI S) (g : grw S S') {m m' : Mm} (e : ∀ p j, 71 ≤ p → p < sN S → mI m' p j = mI m p j) (h : TBI S m) (e14 : sR S' 14 11 = sR S 14 11) (h23 : ∀ j, mI m' 23 j = mI m 23 j) : TBI S' m' := by
  obtain ⟨h1, h2, h3⟩ := h
  refine ⟨fun s hs => by rw [h23]; exact h1 s hs, fun r hr => by rw [h23]; exact h2 r hr, fun c hc => ?_⟩
  obtain ⟨a, b, W, w1, w2, w3⟩ := h3 c (by rw [← e14]; exact hc)
  exact ⟨a, kd_g g b, W, VO_g hS b a e w1, w2, fun r hr s hs => by rw [h23]; exact w3 r hr s hs⟩
theorem Inv_told {S S' : Sk} {m m' : Mm} (h : Inv S m) (hS : SI S') (hRF : RF S') (g : grw S S') (e : ∀ p j, 70 ≤ p → p < sN S → mI m' p j = mI m p j) (e2 : ∀ p j, 45 ≤ p → p ≤ 53 → 1 ≤ j / Lp p → mI m' p j = mI m p j) (e14 : sR S' 14 11 = sR S 14 11) (h23 : ∀ j, mI m' 23 j = mI m 23 j) (hT : ∃ T, WT T ∧ CT T 1 S' m' ∧ MT T 0 m') : Inv S' m' := by
  have h71 := h.1.1.1
  refine ⟨hS, hT, fun k hk => ImO_g h.1 g e (fun p j h1 h2 h3 => e2 p j h1 h2 (by omega)) (h.2.2.1 k hk), fun k l c hk hl e1 e3 => h.2.2.2.1 k l c hk hl (by rw [← g.2.2 _ _ (by omega) (Or.inl rfl)]; exact e1) (by rw [← g.2.2 _ _ (by omega) (Or.inl rfl)]; exact e3), TBI_g h.1 g (fun p j h1 h2 => e p j (by omega) h2) h.2.2.2.2.1 e14 h23, hRF⟩
/-! feed and end -/
def exF (f : Nat → Int32) (n : Nat) (v : Int32) : Nat → Int32 := fun i => if i = n + 3 then byC v 0 else if i = n + 2 then byC v 8 else if i = n + 1 then byC v 16 else if i = n then byC v 24 else f i
def RC (n : Nat) (f : Nat → Int32) (m : Mm) : Prop := mI m 1 1 = nI n ∧ ∀ i, i < n → mI m 2 i = f i
def RE (n : Nat) (f : Nat → Int32) (m : Mm) : Prop := mI m 46 0 = nI n ∧ ∀ i, i < n → mI m 45 i = f i
theorem apC_rd {b : Int32} {n : Nat} {f : Nat → Int32} {m : Mm} (h : RC n f m) (hn : n < 600) : RC (n + 1) (fun i => if i = n then b else f i) (apC b m) := by
  refine ⟨apC_len h.1, fun i hi => ?_⟩
  unfold apC
  rw [rdI_ne _ _ _ _ (by decide), rdI_sm, h.1, n_ix (by omega)]
  show _ = if i = n then b else f i
  by_cases e : i = n
  · rw [if_pos e, if_pos e]
  · rw [if_neg e, if_neg e]; exact h.2 i (by omega)
theorem apM_rd {b : Int32} {n : Nat} {f : Nat → Int32} {m : Mm} (h : RE n f m) (hn : n < 600) : RE (n + 1) (fun i => if i = n then b else f i) (apM b m) ∧ ∀ p j, ¬ (p = 45 ∧ j < 600) → ¬ (p = 46 ∧ j = 0) → mI (apM b m) p j = mI m p j := by
  refine ⟨⟨apM_len h.1, fun i hi => ?_⟩, fun p j h1 h2 => ?_⟩
  · unfold apM
    rw [rdI_ne _ _ _ _ (by decide), rdI_sm, h.1, n_ix (by omega)]
    show _ = if i = n then b else f i
    by_cases e : i = n
    · rw [if_pos e, if_pos e]
    · rw [if_neg e, if_neg e]; exact h.2 i (by omega)
  · unfold apM
    rw [rdI, if_neg h2, rdI, if_neg]
    rw [h.1, n_ix (by omega)]
    rintro ⟨rfl, rfl⟩
    exact h1 ⟨rfl, hn⟩
theorem app_C {v : Int32} {n : Nat} {f : Nat → Int32} {m : Mm} (h : RC n f m) (hn : n + 4 ≤ 600) : ∃ m', m_X9_append v m = some m' ∧ RC (n + 4) (exF f n v) m' :=
  ⟨_, append_eq hn h.1, apC_rd (apC_rd (apC_rd (apC_rd h (by omega)) (by omega)) (by omega)) (by omega)⟩
theorem app_M {v : Int32} {n : Nat} {f : Nat → Int32} {m : Mm} (h : RE n f m) (hn : n + 4 ≤ 600) : ∃ m', m_X12_four v m = some m' ∧ RE (n + 4) (exF f n v) m' ∧ ∀ p j, ¬ (p = 45 ∧ j < 600) → ¬ (p = 46 ∧ j = 0) → mI m' p j = mI m p j := by
  obtain ⟨a1, b1⟩ := apM_rd (b := byM v 24) h (by omega)
  obtain ⟨a2, b2'⟩ := apM_rd (b := byM v 16) a1 (by omega)
  obtain ⟨a3, b3⟩ := apM_rd (b := byM v 8) a2 (by omega)
  obtain ⟨a4, b4⟩ := apM_rd (b := byM v 0) a3 (by omega)
  refine ⟨_, four_eq (by omega) h.1, ?_, fun p j h1 h2 => by rw [b4 p j h1 h2, b3 p j h1 h2, b2' p j h1 h2, b1 p j h1 h2]⟩
  refine ⟨a4.1, fun i hi => ?_⟩
  rw [a4.2 i hi]
  unfold exF
  rw [by_eq v (k := 0) (by decide), by_eq v (k := 8) (by decide), by_eq v (k := 16) (by decide), by_eq v (k := 24) (by decide)]
theorem exF_fit {f : Nat → Int32} {n : Nat} (h : ∀ i, i < n → fits .byte (.int (f i)) = true) (v : Int32) : ∀ i, i < n + 4 → fits .byte (.int (exF f n v i)) = true := fun i hi => by
  have hb : ∀ k, fits .byte (.int (byC v k)) = true := fun k => fits_narrow_byte _
  unfold exF
  split
  · exact hb _
  · split
    · exact hb _
    · split
      · exact hb _
      · split
        · exact hb _
        · exact h i (by omega)
def OpF (S : Sk) (x : Option (Int32 × Mm)) (y : Mm → Option (Int32 × Mm)) : Prop := ∃ r m1 m2, x = some (r, m1) ∧ y m1 = some (r, m2) ∧ Inv S m2
/-- the tape alone changes -/
theorem Inv_tape {S : Sk} {m m' : Mm} (h : Inv S m) {n : Nat} {f : Nat → Int32} (hn : n ≤ 600) (hf : ∀ i, i < n → fits .byte (.int (f i)) = true) (hC : RC n f m') (hE : RE n f m') (e : ∀ p j, ¬ p = 2 → ¬ (p = 1 ∧ j = 1) → ¬ (p = 45 ∧ j < 600) → ¬ (p = 46 ∧ j = 0) → ¬ (p = 44 ∧ j = 0) → mI m' p j = mI m p j) : Inv S m' := by
  obtain ⟨T, ⟨w1, w2, w3, w4⟩, hc, hm⟩ := h.2.1
  have e71 : ∀ p j, 71 ≤ p → mI m' p j = mI m p j := fun p j hp => e p j (by omega) (by omega) (by omega) (by omega) (by omega)
  refine Inv_told h h.1 h.2.2.2.2.2 (grw_rf S) (fun p j h1 _ => e p j (by omega) (by omega) (by omega) (by omega) (by omega)) (fun p j h1 h2 h3 => e p j (by omega) (by omega) ?_ ?_ (by omega)) rfl (fun j => e 23 j (by decide) (by omega) (by omega) (by omega) (by omega)) ⟨((n, f), T.2), ⟨hn, w2, w3, w4⟩, ?_, ?_⟩
  · rintro ⟨rfl, hj⟩
    have : j / 600 = 0 := Nat.div_eq_of_lt hj
    have h4 : 1 ≤ j / 600 := h3
    omega
  · rintro ⟨rfl, rfl⟩
    exact absurd h3 (by decide)
  · obtain ⟨h1, h2, h3, h4, h5, h6, h7⟩ := hc
    refine ⟨hC.1, fun i hi => ⟨hC.2 i hi, hf i hi⟩, by rw [e _ _ (by decide) (by decide) (by decide) (by decide) (by decide)]; exact h3, by rw [e _ _ (by decide) (by decide) (by decide) (by decide) (by decide)]; exact h4, fun s hs => by rw [e _ _ (by decide) (by omega) (by omega) (by omega) (by omega)]; exact h5 s hs, fun i hi => ?_, fun s i h0 hs hi => ?_⟩
    · obtain ⟨c, hc, hr, hk, hv⟩ := h6 i hi
      exact ⟨c, hc, hr, hk, VO_K e71 hc hv⟩
    · obtain ⟨c, hc, hr, hv⟩ := h7 s i h0 hs hi
      exact ⟨c, hc, hr, RO_K e71 hc hv⟩
  · obtain ⟨h1, h2, h3, h4, h5, h6, h7⟩ := hm
    have e4 : ∀ p j, 47 ≤ p → p ≤ 53 → mI m' p j = mI m p j := fun p j h1 h2 => e p j (by omega) (by omega) (by omega) (by omega) (by omega)
    refine ⟨hE.1, fun i hi => by rw [Nat.mul_zero, Nat.zero_add]; exact hE.2 i hi, by rw [e4 _ _ (by decide) (by decide)]; exact h3, by rw [e4 _ _ (by decide) (by decide)]; exact h4, fun s hs => by rw [e4 _ _ (by decide) (by decide)]; exact h5 s hs, fun i hi => MV_eq (h6 i hi) (fun j => e4 _ _ (by decide) (by decide)), fun s i h0 hs hi => ?_⟩
    obtain ⟨g1, g2⟩ := h7 s i h0 hs hi
    exact ⟨by rw [e4 _ _ (by omega) (by omega)]; exact g1, fun j q hj hq => by rw [e4 _ _ (by omega) (by omega)]; exact g2 j q hj hq⟩
theorem op_feed {S : Sk} {mm : Mm} (h : Inv S mm) (a1 a2 a3 a4 a5 : Int32) : OpF S (m_X11_feed a1 a2 a3 a4 a5 mm) (m_X12_feed a1 a2 a3 a4 a5) := by
  obtain ⟨T, ⟨w1, _⟩, hc, hm⟩ := h.2.1
  have hC : RC (tl T) (tp T) mm := ⟨hc.1, fun i hi => (hc.2.1 i hi).1⟩
  have hE : RE (tl T) (tp T) mm := ⟨hm.1, fun i hi => by have := hm.2.1 i hi; rwa [Nat.mul_zero, Nat.zero_add] at this⟩
  have hf : ∀ i, i < tl T → fits .byte (.int (tp T i)) = true := fun i hi => (hc.2.1 i hi).2
  by_cases h20 : tl T + 20 ≤ 600
  · obtain ⟨x1, e1, c1⟩ := app_C (v := a1) hC (by omega)
    obtain ⟨x2, e2, c2⟩ := app_C (v := a2) c1 (by omega)
    obtain ⟨x3, e3, c3⟩ := app_C (v := a3) c2 (by omega)
    obtain ⟨x4, e4, c4⟩ := app_C (v := a4) c3 (by omega)
    obtain ⟨x5, e5, c5⟩ := app_C (v := a5) c4 (by omega)
    have ex : m_X11_feed a1 a2 a3 a4 a5 mm = some (nI (tl T + 4 + 4 + 4 + 4 + 4), x5) := by
      unfold m_X11_feed
      rw [hC.1, show (20 : Int32) = nI 20 from rfl, nI_add, if_pos (by rw [show (600 : Int32) = nI 600 from rfl, n_le (by omega) (by decide)]; exact h20), e1, ob_s, e2, ob_s, e3, ob_s, e4, ob_s, e5, ob_s, c5.1]
    have A := fr_X11_feed ex
    have eA : ∀ p j, ¬ p = 2 → ¬ (p = 1 ∧ j = 1) → mI x5 p j = mI mm p j := fun p j h1 h2 => (A p j (by
      cases hcv : covB [(1, some 1), (2, none)] p j with
      | false => rfl
      | true => exfalso; simp [covB] at hcv; omega)).1
    have hE0 : RE (tl T) (tp T) (sI x5 44 0 0) := ⟨by rw [rdI_ne _ _ _ _ (by decide), eA _ _ (by decide) (by decide)]; exact hE.1, fun i hi => by rw [rdI_ne _ _ _ _ (by decide), eA _ _ (by decide) (by omega)]; exact hE.2 i hi⟩
    obtain ⟨y1, k1, d1, z1⟩ := app_M (v := a1) hE0 (by omega)
    obtain ⟨y2, k2, d2, z2⟩ := app_M (v := a2) d1 (by omega)
    obtain ⟨y3, k3, d3, z3⟩ := app_M (v := a3) d2 (by omega)
    obtain ⟨y4, k4, d4, z4⟩ := app_M (v := a4) d3 (by omega)
    obtain ⟨y5, k5, d5, z5⟩ := app_M (v := a5) d4 (by omega)
    have zz : ∀ p j, ¬ (p = 45 ∧ j < 600) → ¬ (p = 46 ∧ j = 0) → ¬ (p = 44 ∧ j = 0) → mI y5 p j = mI x5 p j := fun p j h1 h2 h3 => by
      rw [z5 p j h1 h2, z4 p j h1 h2, z3 p j h1 h2, z2 p j h1 h2, z1 p j h1 h2, rdI, if_neg h3]
    have ey : m_X12_feed a1 a2 a3 a4 a5 x5 = some (nI (tl T + 4 + 4 + 4 + 4 + 4), y5) := by
      unfold m_X12_feed
      rw [ix0, hE0.1, show (20 : Int32) = nI 20 from rfl, nI_add, if_pos (by rw [show (600 : Int32) = nI 600 from rfl, n_le (by omega) (by decide)]; exact h20), k1, ob_s, k2, ob_s, k3, ob_s, k4, ob_s, k5, ob_s, d5.1]
    refine ⟨_, x5, y5, ex, ey, Inv_tape h (by omega) (exF_fit (exF_fit (exF_fit (exF_fit (exF_fit hf a1) a2) a3) a4) a5) ⟨?_, fun i hi => ?_⟩ d5 (fun p j h1 h2 h3 h4 h5 => ?_)⟩
    · rw [zz _ _ (by decide) (by decide) (by decide)]; exact c5.1
    · rw [zz _ _ (by omega) (by omega) (by omega)]; exact c5.2 i hi
    · rw [zz _ _ h3 h4 h5, eA _ _ h1 h2]
  · have c9 : ¬ nI (tl T) + 20 ≤ 600 := by
      rw [show (20 : Int32) = nI 20 from rfl, nI_add, show (600 : Int32) = nI 600 from rfl, n_le (by omega) (by decide)]; exact h20
    refine ⟨-1, mm, sI mm 44 0 0, ?_, ?_, (Inv_m (L := [(44, some 0)]) h (by decide) (agx_wr (agx_rf _) (by rfl))).1⟩
    · unfold m_X11_feed; rw [hC.1, if_neg c9]
    · unfold m_X12_feed; rw [ix0, rdI_ne _ _ _ _ (by decide), hE.1, if_neg c9]
theorem op_end {S : Sk} {mm : Mm} (h : Inv S mm) (a1 : Int32) : OpF S (some (m_X11_end a1 mm)) (m_X12_end a1) := by
  obtain ⟨T, ⟨w1, _⟩, hc, hm⟩ := h.2.1
  have hC : RC (tl T) (tp T) mm := ⟨hc.1, fun i hi => (hc.2.1 i hi).1⟩
  have hE : RE (tl T) (tp T) mm := ⟨hm.1, fun i hi => by have := hm.2.1 i hi; rwa [Nat.mul_zero, Nat.zero_add] at this⟩
  have hf : ∀ i, i < tl T → fits .byte (.int (tp T i)) = true := fun i hi => (hc.2.1 i hi).2
  rcases arg_cases a1 (n := tl T + 1) (by omega) with ⟨n, hn, rfl⟩ | h1
  · have ex : m_X11_end (nI n) mm = (nI n, sI mm 1 1 (nI n)) := by
      unfold m_X11_end
      rw [hC.1, if_neg (by rw [show (0 : Int32) = nI 0 from rfl, n_lt (by omega) (by omega)]; omega), if_pos (by rw [n_le (by omega) (by omega)]; omega)]
    have ey : m_X12_end (nI n) (sI mm 1 1 (nI n)) = some (nI n, sI (sI (sI mm 1 1 (nI n)) 44 0 0) 46 0 (nI n)) := by
      unfold m_X12_end
      rw [ix0, rdI_ne _ _ _ _ (by decide), rdI_ne _ _ _ _ (by decide), hE.1, in_y (by omega) (by omega), if_neg i2t]
    refine ⟨_, _, _, congrArg some ex, ey, Inv_tape h (n := n) (f := tp T) (by omega) (fun i hi => hf i (by omega)) ⟨?_, fun i hi => ?_⟩ ⟨rdI_eq _ _ _ _, fun i hi => ?_⟩ (fun p j g1 g2 g3 g4 g5 => ?_)⟩
    · rw [rdI_ne _ _ _ _ (by decide), rdI_ne _ _ _ _ (by decide), rdI_eq]
    · rw [rdI_ne _ _ _ _ (by decide), rdI_ne _ _ _ _ (by decide), rdI_ne _ _ _ _ (by decide)]; exact hC.2 i (by omega)
    · rw [rdI_ne _ _ _ _ (by decide), rdI_ne _ _ _ _ (by decide), rdI_ne _ _ _ _ (by decide)]; exact hE.2 i (by omega)
    · rw [rdI, if_neg g4, rdI, if_neg g5, rdI, if_neg g2]
  · have ex : m_X11_end a1 mm = (-1, mm) := by
      unfold m_X11_end
      by_cases z : a1 < 0
      · rw [if_pos z]
      · rw [if_neg z, hC.1, if_neg (far_le (by omega) h1 z)]
    refine ⟨-1, mm, sI mm 44 0 0, congrArg some ex, ?_, (Inv_m (L := [(44, some 0)]) h (by decide) (agx_wr (agx_rf _) (by rfl))).1⟩
    unfold m_X12_end
    rw [ix0, rdI_ne _ _ _ _ (by decide), hE.1, in_n h1 (by omega), if_pos i2f]
