/-! L3: all lines, as the reference reads them -/
noncomputable def MAn (u : Nat → Nat) (n g : Nat) (A : As) (m : Mm) : Prop := MPs u n A.1 m ∧ (pd A.1 = 0 → TCn g A.2.1 A.2.2 m ∧ (pf A.1 = 0 → TDn g A.2.1 A.2.2 m))
theorem TCn_a {g N : Nat} {D : Dr} {m m' : Mm} (h : TCn g N D m) (e : ∀ j, mI m' 54 j = mI m 54 j) : TCn g N D m' := ⟨fun q => by rw [e, e]; exact h.1 q, fun q => by rw [e]; exact h.2 q⟩
theorem TDn_a {g N : Nat} {D : Dr} {m m' : Mm} (h : TDn g N D m) (e : ∀ j, mI m' 54 j = mI m 54 j) (e2 : mI m' 44 21 = mI m 44 21) : TDn g N D m' := ⟨fun q => ⟨M54_a (h.1 q).1 e, by rw [e2]; exact (h.1 q).2⟩, fun q j x hj hx => by rw [e]; exact h.2 q j x hj hx⟩
theorem gb_k {f : Bool → Mm → Prop} {x : Option (Int32 × Mm)} (h : ∃ b m', x = some (b2 b, m') ∧ f b m') : ∃ b m', x.bind (fun q => gbz q.1 (some (q.1, q.2))) = some (b2 b, m') ∧ f b m' := by
  obtain ⟨b, m', e, hf⟩ := h
  exact ⟨b, m', by rw [e, ob_s, n_gbz], hf⟩
theorem LR_b {u : Nat → Nat} {n g : Nat} {A : As} {r : Option (Int32 × Mm)} (h : LRn u n g A r) : LRn u n g A (r.bind (fun q => gbz q.1 (some (q.1, q.2)))) := by
  refine ⟨fun q => ?_, fun k hk h7 => ?_⟩
  · obtain ⟨m', e, hm⟩ := h.1 q
    exact ⟨m', by rw [e, ob_s, n_gbz], hm⟩
  · obtain ⟨m', e, hm⟩ := h.2 k hk h7
    exact ⟨m', by rw [e, ob_s, n_gbz], hm⟩
theorem M_lineOf {u : Nat → Nat} {n g : Nat} (hg : g < 4) {A : As} {m : Mm} (h : MBn u n g A m) {w : Int64} (hw : w = if (pt A.1).1 = 1 ∧ (pt A.1).2.2 - (pt A.1).2.1 ≤ 8 then pk u (pt A.1).2.1 ((pt A.1).2.2 - (pt A.1).2.1) else 0) : LRn u n g A (m_X12_lineOf (nI g) w (nI (pt A.1).2.1) m) := by
  unfold m_X12_lineOf
  rcases (by omega : g = 0 ∨ g = 1 ∨ g = 2 ∨ g = 3) with rfl | rfl | rfl | rfl
  · rw [if_pos (by rfl)]; exact LR_b (M_county h hw)
  · rw [if_neg (by decide), if_pos (by rfl)]; exact LR_b (M_term h hw)
  · rw [if_neg (by decide), if_neg (by decide), if_pos (by rfl)]; exact LR_b (M_want h hw)
  · rw [if_neg (by decide), if_neg (by decide), if_neg (by decide)]; exact LR_b (M_log h hw)
theorem kM_2 {k : Nat} (h : k < 5) : (nI (kM k) = 2) = (k = 1) := by
  have key : ∀ k, k < 5 → (nI (kM k) = 2 ↔ k = 1) := by decide
  exact propext (key k h)
theorem kM_4 {k : Nat} (h : k < 5) : (nI (kM k) = 4) = (k = 3) := by
  have key : ∀ k, k < 5 → (nI (kM k) = 4 ↔ k = 3) := by decide
  exact propext (key k h)
theorem kM_z {k : Nat} (h : k < 5) : (nI (kM k) = 0) = (k = 0) := by
  have key : ∀ k, k < 5 → (nI (kM k) = 0 ↔ k = 0) := by decide
  exact propext (key k h)
theorem M_body {u : Nat → Nat} {n g : Nat} (hg : g < 4) {A : As} {z : Mm} (h : MAn u n g A z) (ga : GA u n g A) (h0 : pd A.1 = 0) (hk : (pt A.1).1 ≠ 0) : ∃ m', m_X12_allLines_b2 (nI g) (b2 true, z) = some (.inl (b2 (decide (pd (lnA u n g A).1 = 0)), m')) ∧ MAn u n g (lnA u n g A) m' := by
  obtain ⟨h1, h2⟩ := h
  obtain ⟨t1, t2⟩ := h2 h0
  have gb := GT_b ga.1.2.2.1
  have tb := tw_b (u := u) (t := pt A.1) (fun _ => gb.2.2.2.2 hk)
  have hB : MBn u n g A (sI z 44 22 1) := ⟨MPs_a h1 (agx_wr (W := [(44, some 22)]) (agx_rf _) (by rfl)) (fun i => by rfl) (by rfl), ga, h0, hk, TCn_a t1 (fun j => rdI_ne _ _ _ _ (by decide)), fun q => TDn_a (t2 q) (fun j => rdI_ne _ _ _ _ (by decide)) (rdI_nj _ _ _ _ (by decide)), rdI_eq _ _ _ _⟩
  have w0 : (if nI (kM (pt A.1).1) = 2 then mL z 44 15 else (0 : Int64)) = if (pt A.1).1 = 1 ∧ (pt A.1).2.2 - (pt A.1).2.1 ≤ 8 then pk u (pt A.1).2.1 ((pt A.1).2.2 - (pt A.1).2.1) else 0 := by
    rw [h1.2.1.2.2.2.2]
    by_cases k1 : (pt A.1).1 = 1
    · rw [if_pos (show nI (kM (pt A.1).1) = 2 by rw [kM_2 gb.1]; exact k1)]
    · rw [if_neg (show ¬ nI (kM (pt A.1).1) = 2 by rw [kM_2 gb.1]; exact k1), if_neg (fun q => k1 q.1)]
  have L := M_lineOf hg hB w0
  unfold m_X12_allLines_b2
  simp only
  rw [if_neg i2t, h1.2.1.1, if_neg (show ¬ nI (kM (pt A.1).1) = 0 by rw [kM_z gb.1]; exact hk), h1.2.1.2.1]
  generalize hκ : kdA g (tw u (pt A.1)) = k at L
  have kb : k ≤ 7 := by rw [← hκ]; exact kdA_b g hg _ tb.1
  by_cases k7 : k = 7
  · obtain ⟨m', e, hm⟩ := L.1 (hκ.trans k7)
    rw [e, ob_s]
    simp only
    rw [if_pos i2f, if_pos i2f, if_pos i2f, ob_s, lnA_7 (hκ.trans k7)]
    exact ⟨m', by rw [decide_eq_false (show ¬ pd (ddA A.1) = 0 from (by decide : ¬ (1 : Nat) = 0))], hm, fun q => absurd q (show ¬ (1 : Nat) = 0 by decide)⟩
  · obtain ⟨m', e, hm1, hm2⟩ := L.2 k hκ k7
    obtain ⟨q1, q2, q3, q4⟩ := GP_q0 (g := g) ga.1 hk
    have g3 := GP_l3 (g := sgN g k) q1
    have gb3 := GT_b g3.2.2.1
    rw [e, ob_s]
    simp only
    by_cases dd : pd (l3A u n (sgN g k) (q0A u n g A)) = 0
    · obtain ⟨c1, c2⟩ := hm2 dd
      rw [decide_eq_true dd, if_neg i2t, if_neg i2t, hm1.2.1.1]
      by_cases k3 : (pt (l3A u n (sgN g k) (q0A u n g A))).1 = 3
      · have k3' : nI (kM (pt (l3A u n (sgN g k) (q0A u n g A))).1) = 4 := by rw [kM_4 gb3.1]; exact k3
        rw [if_pos k3', if_pos k3', if_neg i2t]
        obtain ⟨m4, e4, d4, a4⟩ := M_nx hm1 dd g3.2.2.1
        rw [e4, ob_s, ob_s, lnA_l hκ k7 (by rw [l4A_s dd k3]; exact dd), l4A_s dd k3]
        exact ⟨m4, by rw [decide_eq_true (show pd (nxA u n (l3A u n (sgN g k) (q0A u n g A))) = 0 from dd)], d4, fun _ => ⟨TCn_a c1 (fun j => (a4 54 j (by rfl)).1), fun f0 => TDn_a (c2 f0) (fun j => (a4 54 j (by rfl)).1) (a4 44 21 (by rfl)).1⟩⟩
      · have k3' : ¬ nI (kM (pt (l3A u n (sgN g k) (q0A u n g A))).1) = 4 := by rw [kM_4 gb3.1]; exact k3
        rw [if_neg k3', if_neg k3', if_pos (show (m_X12_fails m').1 = 0 from rfl), ob_s, lnA_d hκ k7 (by rw [l4A_x dd k3]; rfl), l4A_x dd k3]
        exact ⟨_, by rw [decide_eq_false (show ¬ pd (ddA (l3A u n (sgN g k) (q0A u n g A))) = 0 from (by decide : ¬ (1 : Nat) = 0))]; rfl, M_dd hm1, fun q => absurd q (show ¬ (1 : Nat) = 0 by decide)⟩
    · have d1 : pd (l3A u n (sgN g k) (q0A u n g A)) = 1 := by have := g3.1; omega
      rw [decide_eq_false dd, if_pos i2f, if_pos i2f, if_pos i2f, ob_s, lnA_d hκ k7 (by rw [l4A_d d1]; exact d1), l4A_d d1]
      exact ⟨m', by rw [decide_eq_false dd], hm1, fun q => absurd q dd⟩
theorem M_all {u : Nat → Nat} {n g : Nat} {m : Mm} (hg : g < 4) (h : MAn u n g (stA u n g 0) m) : ∃ i m', m_X12_allLines (nI g) m = some (b2 (decide (pd (stA u n g i).1 = 0)), m') ∧ enA u n g i ∧ MAn u n g (stA u n g i) m' := by
  have n6 := h.1.1.1
  obtain ⟨r, e, i, m', hr, h1, h2⟩ := loop_inv (body := m_X12_allLines_b2 (nI g)) (a := ((1 : Int32), m)) (fun i z => ∃ w, z = (b2 (decide (pd (stA u n g i).1 = 0)), w) ∧ MAn u n g (stA u n g i) w ∧ GA u n g (stA u n g i) ∧ (∀ j, j < i → ¬ endd (stA u n g j)) ∧ (pd (stA u n g i).1 = 0 → i ≤ (pt (stA u n g i).1).2.1)) (fun r => ∃ i w, r = (b2 (decide (pd (stA u n g i).1 = 0)), w) ∧ enA u n g i ∧ MAn u n g (stA u n g i) w) n (FU_big (by omega)) ⟨m, rfl, h, GA_0 u n g, fun j hj => absurd hj (Nat.not_lt_zero _), fun _ => Nat.zero_le _⟩ (by
    rintro i z hi ⟨w, rfl, h1, h2, h3, h4⟩
    have gb := GT_b h2.1.2.2.1
    by_cases d0 : pd (stA u n g i).1 = 0
    · by_cases k0 : (pt (stA u n g i).1).1 = 0
      · right
        refine ⟨_, ?_, i, w, rfl, ⟨Or.inr k0, h3, h2⟩, h1⟩
        unfold m_X12_allLines_b2
        simp only
        rw [decide_eq_true d0, if_neg i2t, h1.1.2.1.1, if_pos (show nI (kM (pt (stA u n g i).1).1) = 0 by rw [kM_z gb.1]; exact k0)]
      · left
        obtain ⟨m', e1, e2⟩ := M_body hg h1 h2 d0 k0
        obtain ⟨g1, g2⟩ := GA_ln hg h2 d0 k0
        rw [decide_eq_true d0]
        refine ⟨_, e1, m', rfl, e2, g1, fun j hj => ?_, fun q => ?_⟩
        · by_cases ej : j = i
          · rw [ej]; rintro (q | q)
            · omega
            · exact k0 q
          · exact h3 j (by omega)
        · have q1 := g2 q
          have q2 := h4 d0
          show i + 1 ≤ (pt (lnA u n g (stA u n g i)).1).2.1
          omega
    · right
      have d1 : pd (stA u n g i).1 = 1 := by have := h2.1.1; omega
      refine ⟨_, ?_, i, w, rfl, ⟨Or.inl d1, h3, h2⟩, h1⟩
      unfold m_X12_allLines_b2
      simp only
      rw [decide_eq_false d0, if_pos i2f]) (by
    rintro z ⟨w, rfl, h1, h2, h3, h4⟩
    have gb := GT_b h2.1.2.2.1
    by_cases d0 : pd (stA u n g n).1 = 0
    · have q2 := h4 d0
      have k0 : (pt (stA u n g n).1).1 = 0 := by
        by_cases k0 : (pt (stA u n g n).1).1 = 0
        · exact k0
        · have := gb.2.2.2.2 k0; omega
      refine ⟨_, ?_, n, w, rfl, ⟨Or.inr k0, h3, h2⟩, h1⟩
      unfold m_X12_allLines_b2
      simp only
      rw [decide_eq_true d0, if_neg i2t, h1.1.2.1.1, if_pos (show nI (kM (pt (stA u n g n).1).1) = 0 by rw [kM_z gb.1]; exact k0)]
    · have d1 : pd (stA u n g n).1 = 1 := by have := h2.1.1; omega
      refine ⟨_, ?_, n, w, rfl, ⟨Or.inl d1, h3, h2⟩, h1⟩
      unfold m_X12_allLines_b2
      simp only
      rw [decide_eq_false d0, if_pos i2f])
  subst hr
  refine ⟨i, m', ?_, h1, h2⟩
  unfold m_X12_allLines
  rw [e, ob_s, n_gbz]
theorem fst1_sS {P : Nat → Bool} (n : Nat) : (fst1 P (n + 1)).isSome = ((fst1 P n).isSome || P n) := by
  rw [fst1]
  cases h : fst1 P n with
  | some k => rfl
  | none => cases hp : P n <;> simp
theorem ms_fa {D : Dr} {c : Nat} : ∀ N, (fst1 (msB D c) N).isSome = decide (c < faA D N)
  | 0 => rfl
  | N + 1 => by
    rw [fst1_sS, ms_fa N, faA]
    unfold msB
    by_cases k : (D N).1 = 3 ∨ (D N).1 = 4
    · rw [if_pos k]
      by_cases q : c < faA D N
      · rw [decide_eq_true q, Bool.true_or, decide_eq_true (by omega)]
      · rw [decide_eq_false q, Bool.false_or]
        by_cases x : c ≤ (D N).2.1 ∨ c ≤ (D N).2.2.1
        · rw [decide_eq_true ⟨k, x⟩, decide_eq_true (by omega)]
        · rw [decide_eq_false (fun z => x z.2), decide_eq_false (by omega)]
    · rw [if_neg k, decide_eq_false (p := ((D N).1 = 3 ∨ (D N).1 = 4) ∧ (c ≤ (D N).2.1 ∨ c ≤ (D N).2.2.1)) (fun z => k z.1), Bool.or_false]
theorem fah_lt : ∀ f, f < 11 → ∀ c, c < 7 → (nI f - 1 < nI c ↔ ¬ c < f) := by decide +kernel
abbrev rbL : List (Nat × Option Nat) := [(44, none), (47, some 0), (48, some 0), (54, none), (55, none)]
theorem rb_of {L : List (Nat × Option Nat)} (h : L.all (fun e => decide (e.1 = 44) || rbL.contains e) = true) : ∀ p j, covB rbL p j = false → covB L p j = false := by
  intro p j hp
  cases h1 : covB L p j with
  | false => rfl
  | true =>
    exfalso
    obtain ⟨e, he, h2⟩ := List.any_eq_true.mp h1
    have h3 := List.all_eq_true.mp h e he
    rw [Bool.or_eq_true] at h3
    rcases h3 with h3 | h3
    · rw [decide_eq_true_eq] at h3
      rw [Bool.and_eq_true] at h2
      have : p = 44 := by have := h2.1; rw [h3] at this; exact (eq_of_beq this).symm
      rw [this] at hp
      cases hp
    · have h4 : e ∈ rbL := by simpa using h3
      have : covB rbL p j = true := List.any_eq_true.mpr ⟨e, h4, h2⟩
      rw [this] at hp
      cases hp
theorem M_zero (g : Nat) (hg : g < 4) (m : Mm) : ∃ p2, whileF FU (m_X12_readText_b2 (nI g)) (0, m) = some p2 ∧ (∀ k, k < 161 → mI p2 54 k = nI (if g = 0 ∧ 20 ≤ k ∧ k ≤ 27 then 5 else 0)) ∧ agx [(54, none)] m p2 := by
  refine loop_inv (body := m_X12_readText_b2 (nI g)) (fun i z => z.1 = nI i ∧ (∀ k, k < i → mI z.2 54 k = nI (if g = 0 ∧ 20 ≤ k ∧ k ≤ 27 then 5 else 0)) ∧ agx [(54, none)] m z.2) (fun p2 => (∀ k, k < 161 → mI p2 54 k = nI (if g = 0 ∧ 20 ≤ k ∧ k ≤ 27 then 5 else 0)) ∧ agx [(54, none)] m p2) 161 (FU_big (by decide)) ⟨rfl, fun k hk => absurd hk (Nat.not_lt_zero _), agx_rf _⟩ ?_ ?_
  · rintro i ⟨z1, z⟩ hi ⟨h1, h2, h3⟩
    simp only at h1 h2 h3
    subst h1
    left
    have ev : (if nI g = 0 then (if (m_X12_in (nI i) 20 27) = 0 then (0 : Int32) else 5) else 0) = nI (if g = 0 ∧ 20 ≤ i ∧ i ≤ 27 then 5 else 0) := by
      rw [show (20 : Int32) = nI 20 from rfl, show (27 : Int32) = nI 27 from rfl, M_rng (by omega) (by decide) (by decide)]
      by_cases g0 : g = 0
      · rw [if_pos (by rw [g0]; rfl)]
        by_cases c : 20 ≤ i ∧ i ≤ 27
        · rw [decide_eq_true c, if_neg i2t, if_pos ⟨g0, c⟩]; rfl
        · rw [decide_eq_false c, if_pos i2f, if_neg (fun q => c q.2)]; rfl
      · rw [if_neg (by rw [show (0 : Int32) = nI 0 from rfl, n_eq (by omega) (by decide)]; exact g0), if_neg (fun q => g0 q.1)]; rfl
    unfold m_X12_readText_b2
    simp only
    rw [if_neg (by rw [show (161 : Int32) = nI 161 from rfl, n_le (by decide) (by omega)]; omega), n_grd (by omega) (by decide), n_ix (by omega), ev]
    refine ⟨_, rfl, by show nI i + 1 = nI (i + 1); rw [show (1 : Int32) = nI 1 from rfl, nI_add], fun k hk => ?_, agx_wr h3 (by rfl)⟩
    show mI (sI z 54 i _) 54 k = _
    by_cases ek : k = i
    · rw [ek, rdI_eq]
    · rw [rdI_nj _ _ _ _ ek]; exact h2 k (by omega)
  · rintro ⟨z1, z⟩ ⟨h1, h2, h3⟩
    simp only at h1 h2 h3
    subst h1
    unfold m_X12_readText_b2
    simp only
    rw [if_pos (by rw [show (161 : Int32) = nI 161 from rfl, n_le (by decide) (by omega)]; omega)]
    exact ⟨z, rfl, h2, h3⟩
