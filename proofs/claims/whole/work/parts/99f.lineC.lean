/-! L3: a line, as the class reads it -/
theorem TPC_a {u : Nat → Nat} {n : Nat} {S : Sk} {m m' : Mm} {L : List (Nat × Option Nat)} (h : TPC u n S m) (hA : agx L m m') (h6 : covB L 7 6 = false) (h2 : ∀ i, covB L 2 i = false) : TPC u n S m' :=
  ⟨h.1, h.2.1, h.2.2.1, by rw [(hA 7 6 h6).1]; exact h.2.2.2.1, fun i hi => by rw [(hA 2 i (h2 i)).1]; exact h.2.2.2.2 i hi⟩
theorem TKC_a {u : Nat → Nat} {t : Tk} {m m' : Mm} {L : List (Nat × Option Nat)} (h : TKC u t m) (hA : agx L m m') (h8 : covB L 7 8 = false) (h9 : covB L 7 9 = false) (h10 : covB L 7 10 = false) (h11 : covB L 7 11 = false) : TKC u t m' :=
  ⟨by rw [(hA 7 8 h8).1]; exact h.1, by rw [(hA 7 9 h9).1]; exact h.2.1, by rw [(hA 7 10 h10).1]; exact h.2.2.1, fun q => by rw [(hA 7 11 h11).1]; exact h.2.2.2 q⟩
theorem CPs_a {u : Nat → Nat} {n : Nat} {S : Sk} {P : Ps} {m m' : Mm} {L : List (Nat × Option Nat)} (h : CPs u n S P m) (hA : agx L m m') (h2 : ∀ i, covB L 2 i = false) (h7 : ∀ i, covB L 7 i = false) : CPs u n S P m' :=
  ⟨TPC_a h.1 hA (h7 6) h2, TKC_a h.2.1 hA (h7 8) (h7 9) (h7 10) (h7 11), fun q => by rw [(hA 7 1 (h7 1)).1, (hA 7 2 (h7 2)).1]; exact h.2.2.1 q, fun q => by rw [(hA 7 1 (h7 1)).1, (hA 7 2 (h7 2)).1]; exact h.2.2.2 q⟩
theorem C_nt {u : Nat → Nat} {n : Nat} {S : Sk} {P : Ps} {m : Mm} (h : CPs u n S P m) (h0 : pd P = 0) (hf : pf P < 10) {x w : Nat} (hx : x ≠ 0) : CPs u n S (ntA x w P) (m_X5_note (nI x) (nI w) m) := by
  have hA := @fr_X5_note (nI x) (nI w) m
  refine ⟨TPC_a h.1 hA (by rfl) (fun i => by rfl), TKC_a h.2.1 hA (by rfl) (by rfl) (by rfl) (by rfl), fun q => by have q : pd P = 1 := q; omega, fun _ => ?_⟩
  obtain ⟨d1, d2⟩ := h.2.2.2 h0
  by_cases z : pf P = 0
  · have e : ntA x w P = (pd P, x, w, pt P) := by unfold ntA; rw [if_pos z, if_pos z]
    rw [e]
    show mI _ 7 1 = nI x ∧ mI _ 7 2 = (if x = 0 then -1 else nI w)
    unfold m_X5_note
    rw [if_pos (show mI m 7 1 = 0 by rw [d1, z]; rfl), if_neg hx, rdI_nj _ _ _ _ (by decide), rdI_eq, rdI_eq]
    exact ⟨rfl, rfl⟩
  · have e : ntA x w P = P := by unfold ntA; rw [if_neg z, if_neg z]
    rw [e]
    unfold m_X5_note
    rw [if_neg (show ¬ mI m 7 1 = 0 by rw [d1, show (0 : Int32) = nI 0 from rfl, n_eq (by omega) (by decide)]; exact z)]
    exact ⟨d1, d2⟩
theorem C_nx {u : Nat → Nat} {n : Nat} {S : Sk} {P : Ps} {m : Mm} (h : CPs u n S P m) (h0 : pd P = 0) (gt : GT u n (pt P)) : ∃ m', m_X5_nextToken S m = some m' ∧ CPs u n S (nxA u n P) m' ∧ agx ctL m m' := by
  obtain ⟨m', e1, _, e3, e4, e5⟩ := C_tok h.1 (GT_b gt).2.2.1 h.2.1.2.2.1
  exact ⟨m', e1, ⟨e4, e3, fun q => by have q : pd P = 1 := q; omega, fun q => by rw [(e5 7 1 (by rfl)).1, (e5 7 2 (by rfl)).1]; exact h.2.2.2 q⟩, e5⟩
theorem C_dd {u : Nat → Nat} {n : Nat} {S : Sk} {P : Ps} {m : Mm} (h : CPs u n S P m) : CPs u n S (ddA P) (m_X5_giveUp m) := by
  have hA := @fr_X5_giveUp m
  refine ⟨TPC_a h.1 hA (by rfl) (fun i => by rfl), TKC_a h.2.1 hA (by rfl) (by rfl) (by rfl) (by rfl), fun _ => ?_, fun q => absurd q (show ¬ (1 : Nat) = 0 by decide)⟩
  unfold m_X5_giveUp
  rw [rdI_nj _ _ _ _ (by decide), rdI_eq, rdI_eq, rdI_nj _ _ _ _ (by decide)]
  exact ⟨rfl, h.2.1.2.1⟩
theorem C_readNum {u : Nat → Nat} {n : Nat} {S : Sk} {P : Ps} {m : Mm} (h : CPs u n S P m) (gp : GPs u n P) {g i : Nat} (hg : g < 24) (g1 : 1 ≤ g) (hi : i < 3) (hl : i < lnN g) {bt x0 : Nat} (hbt : bt = if i = 1 ∧ twc g = true then x0 else 5000) (hx : i = 1 → pd P = 0 → mI m 11 0 = nI x0 ∧ x0 < 3000) : ∃ m', m_X5_readNumber S g (nI i) m = some m' ∧ CPs u n S (nsA u n (hiN g i) bt P) m' ∧ (pd (nsA u n (hiN g i) bt P) = 0 → mI m' 11 i = nI (xv u P)) ∧ ∀ j, j ≠ i → mI m' 11 j = mI m 11 j := by
  have gp' := gp
  obtain ⟨p1, p2, p3, p4⟩ := gp'
  unfold m_X5_readNumber nsA
  by_cases d1 : pd P = 1
  · rw [if_pos d1, if_pos (by rw [(h.2.2.1 d1).1]; rfl)]
    exact ⟨m, rfl, h, fun q => by omega, fun j _ => rfl⟩
  · have d0 : pd P = 0 := by omega
    obtain ⟨f1, f2⟩ := h.2.2.2 d0
    obtain ⟨b1, b2', b3, b4, b5⟩ := GT_b p3
    rw [if_neg d1, if_neg (by rw [f1, show (1 : Int32) = nI 1 from rfl, n_eq (by omega) (by decide)]; omega), h.2.1.1]
    by_cases k2 : (pt P).1 = 2
    · rw [if_pos k2, if_pos (by rw [k2]; rfl)]
      have hv : mI m 7 11 = nI (xv u P) := h.2.1.2.2.2 k2
      have xb : xv u P < 3000 := nvI_b h.1.2.1 _ _
      have E1 : (if nI i = 1 then ((m_schar g 0).bind (fun q8 => (m_schar g 1).bind (fun q10 => if q8 = q10 then (if (mI m 7 11) = (mI m 11 (ix 0)) then (some (1 : Int32)) else (some 0)) else (some 0)))) else (some 0) : Option (Int32)) = some (b2 (decide (xv u P = bt))) := by
        by_cases i1 : i = 1
        · subst i1
          obtain ⟨y1, y2⟩ := hx rfl d0
          rw [if_pos (by rfl), show (0 : Int32) = nI 0 from rfl, show (1 : Int32) = nI 1 from rfl, schar_eq g hg g1 0 (by decide) (by omega), ob_s, schar_eq g hg g1 1 (by decide) hl, ob_s, n_ix (by decide), y1, hv]
          have c0 := chN_b g hg 0 (by decide)
          have c1 := chN_b g hg 1 (by decide)
          by_cases c : cyN g 0 = cyN g 1
          · have hb : bt = x0 := by rw [hbt, if_pos ⟨rfl, decide_eq_true c⟩]
            rw [hb, if_pos (by rw [c])]
            by_cases w : xv u P = x0
            · rw [if_pos (by rw [w]), decide_eq_true w]; rfl
            · rw [if_neg (by rw [n_eq (by omega) (by omega)]; exact w), decide_eq_false w]; rfl
          · have hb : bt = 5000 := by rw [hbt, if_neg (fun q => c (of_decide_eq_true q.2))]
            rw [hb, if_neg (by rw [n_eq (by omega) (by omega)]; exact c), decide_eq_false (by omega)]; rfl
        · rw [if_neg (by rw [show (1 : Int32) = nI 1 from rfl, n_eq (by omega) (by decide)]; exact i1), hbt, if_neg (fun q => i1 q.1), decide_eq_false (by omega)]; rfl
      rw [E1, ob_s]
      obtain ⟨hh1, hh2⟩ := hiN_eq g hg i (by omega)
      have E2 : (if b2 (decide (xv u P = bt)) = 0 then ((m_schar g (nI i)).bind (fun q19 => if (mI m 7 11) ≤ (m_X5_mostOf q19) then (some m) else (some (m_X5_note 2 (mI m 7 9) m)))) else (some (m_X5_note 2 (mI m 7 9) m)) : Option (Mm)) = some (if xv u P ≤ hiN g i ∧ xv u P ≠ bt then m else m_X5_note (nI 2) (nI (pt P).2.1) m) := by
        rw [schar_eq g hg g1 i (by omega) hl, ob_s, hh1, hv, h.2.1.2.1]
        by_cases w : xv u P = bt
        · rw [decide_eq_true w, if_neg i2t, if_neg (fun q => q.2 w)]; rfl
        · rw [decide_eq_false w, if_pos i2f]
          by_cases v : xv u P ≤ hiN g i
          · rw [if_pos (by rw [n_le (by omega) (by omega)]; exact v), if_pos ⟨v, w⟩]
          · rw [if_neg (by rw [n_le (by omega) (by omega)]; exact v), if_neg (fun q => v q.1)]; rfl
      rw [E2, ob_s]
      have key : ∃ p14, (if xv u P ≤ hiN g i ∧ xv u P ≠ bt then m else m_X5_note (nI 2) (nI (pt P).2.1) m) = p14 ∧ CPs u n S (nbA u (hiN g i) bt P) p14 ∧ pd (nbA u (hiN g i) bt P) = 0 ∧ pt (nbA u (hiN g i) bt P) = pt P ∧ mI p14 7 11 = nI (xv u P) ∧ ∀ j, mI p14 11 j = mI m 11 j := by
        unfold nbA
        by_cases c : xv u P ≤ hiN g i ∧ xv u P ≠ bt
        · rw [if_pos c, if_pos c]
          exact ⟨m, rfl, h, d0, rfl, hv, fun _ => rfl⟩
        · rw [if_neg c, if_neg c]
          have hA := @fr_X5_note (nI 2) (nI (pt P).2.1) m
          exact ⟨_, rfl, C_nt h d0 (by omega) (by decide), d0, rfl, by rw [(hA 7 11 (by rfl)).1]; exact hv, fun j => (hA 11 j (by rfl)).1⟩
      obtain ⟨p14, e14, c14, d14, t14, v14, j14⟩ := key
      rw [e14, n_grd (by omega) (by decide), n_ix (by omega), v14, o_id]
      have c15 : CPs u n S (nbA u (hiN g i) bt P) (sI p14 11 i (nI (xv u P))) := CPs_a c14 (agx_wr (W := [(11, none)]) (agx_rf _) (by rfl)) (fun i => by rfl) (fun i => by rfl)
      obtain ⟨m', e1, e2, e3⟩ := C_nx c15 d14 (by rw [t14]; exact p3)
      exact ⟨m', e1, e2, fun _ => by rw [(e3 11 i (by rfl)).1, rdI_eq], fun j hj => by rw [(e3 11 j (by rfl)).1, rdI_nj _ _ _ _ hj]; exact j14 j⟩
    · rw [if_neg k2, if_neg (by rw [show (2 : Int32) = nI 2 from rfl, n_eq (by omega) (by decide)]; exact k2)]
      have hA := @fr_X5_giveUp m
      exact ⟨_, rfl, C_dd h, fun q => absurd q (show ¬ (1 : Nat) = 0 by decide), fun j _ => (hA 11 j (by rfl)).1⟩
abbrev nuL : List (Nat × Option Nat) := [(7, some 1), (7, some 2), (7, some 8), (7, some 9), (7, some 10), (7, some 11), (11, none)]
theorem C_num {u : Nat → Nat} {n : Nat} {S : Sk} {P : Ps} {m : Mm} (h : CPs u n S P m) (gp : GPs u n P) {g i : Nat} (hg : g < 24) (g1 : 1 ≤ g) (hi : i < 3) {bt x0 : Nat} (hbt : bt = if i = 1 ∧ twc g = true then x0 else 5000) (hx : i = 1 → pd P = 0 → 1 < lnN g → mI m 11 0 = nI x0 ∧ x0 < 3000) : ∃ m', m_X5_readLine_b47 S g (nI i, m) = some (.inl (nI (i + 1), m')) ∧ CPs u n S (nsX u n g i bt P) m' ∧ (pd (nsX u n g i bt P) = 0 → mI m' 11 i = if i < lnN g then nI (xv u P) else -1) ∧ (∀ j, j ≠ i → mI m' 11 j = mI m 11 j) ∧ agx nuL m m' := by
  have ln := lnN_b g hg
  unfold m_X5_readLine_b47 nsX
  simp only
  rw [if_neg (by rw [show (3 : Int32) = nI 3 from rfl, n_le (by decide) (by omega)]; omega), n_grd (by omega) (by decide), slen_eq g hg g1, ob_s, n_ix (by omega), o_id]
  have hw : agx nuL m (sI m 11 i (-1)) := agx_wr (agx_rf _) (by rfl)
  by_cases c : lnN g ≤ i
  · rw [if_pos (by rw [n_le (by omega) (by omega)]; exact c), if_pos c, ob_s]
    refine ⟨_, by rw [show (1 : Int32) = nI 1 from rfl, nI_add], CPs_a h (agx_wr (W := [(11, none)]) (agx_rf _) (by rfl)) (fun i => by rfl) (fun i => by rfl), fun _ => ?_, fun j hj => rdI_nj _ _ _ _ hj, hw⟩
    rw [rdI_eq, if_neg (by omega)]
  · rw [if_neg (by rw [n_le (by omega) (by omega)]; exact c), if_neg c]
    have h' : CPs u n S P (sI m 11 i (-1)) := CPs_a h (agx_wr (W := [(11, none)]) (agx_rf _) (by rfl)) (fun i => by rfl) (fun i => by rfl)
    obtain ⟨m', e1, e2, e3, e4⟩ := C_readNum h' gp hg g1 hi (by omega) hbt (fun i1 d0 => by rw [rdI_nj _ _ _ _ (by omega)]; exact hx i1 d0 (by omega))
    rw [e1, ob_s]
    refine ⟨m', by rw [show (1 : Int32) = nI 1 from rfl, nI_add], e2, fun q => by rw [e3 q, if_pos (by omega)], fun j hj => by rw [e4 j hj, rdI_nj _ _ _ _ hj], agx_tr hw (fr_X5_readNumber e1)⟩
theorem while3 {σ ρ : Type} {body : σ → Option (σ ⊕ ρ)} {a b c d : σ} {r : ρ} (h0 : body a = some (.inl b)) (h1 : body b = some (.inl c)) (h2 : body c = some (.inl d)) (h3 : body d = some (.inr r)) : whileF FU body a = some r := by
  refine loop_seq (fun i => if i = 0 then a else if i = 1 then b else if i = 2 then c else d) 3 rfl (FU_big (by decide)) (fun i hi => ?_) h3
  rcases (by omega : i = 0 ∨ i = 1 ∨ i = 2) with rfl | rfl | rfl
  · exact h0
  · exact h1
  · exact h2
theorem b0_eq (u : Nat → Nat) (g : Nat) (P : Ps) : b0A u g P = if 1 = 1 ∧ twc g = true then xv u P else 5000 := by
  unfold b0A
  by_cases c : twc g = true
  · rw [if_pos c, if_pos ⟨rfl, c⟩]
  · rw [if_neg c, if_neg (fun q => c q.2)]
theorem C_nums {u : Nat → Nat} {n : Nat} {S : Sk} {P : Ps} {m : Mm} (h : CPs u n S P m) (gp : GPs u n P) {g : Nat} (hg : g < 24) (g1 : 1 ≤ g) : ∃ m', whileF FU (m_X5_readLine_b47 S g) (0, m) = some m' ∧ CPs u n S (l3A u n g P) m' ∧ (pd (l3A u n g P) = 0 → mI m' 11 0 = (if 0 < lnN g then nI (xv u P) else -1) ∧ mI m' 11 1 = (if 1 < lnN g then nI (xv u (l1A u n g P)) else -1) ∧ mI m' 11 2 = (if 2 < lnN g then nI (xv u (l2A u n g P)) else -1)) ∧ agx nuL m m' := by
  obtain ⟨a1, a2, a3, a4⟩ := GP_nsX gp g 0 5000
  obtain ⟨c1, c2, c3, c4⟩ := GP_nsX a1 g 1 (b0A u g P)
  obtain ⟨d1, d2, d3, d4⟩ := GP_nsX c1 g 2 5000
  obtain ⟨m1, e1, f1, v1, o1, w1⟩ := C_num (i := 0) (bt := 5000) (x0 := 0) h gp hg g1 (by decide) (by rw [if_neg (by rintro ⟨q, _⟩; cases q)]) (fun q => by cases q)
  obtain ⟨m2, e2, f2, v2, o2, w2⟩ := C_num (i := 1) (bt := b0A u g P) (x0 := xv u P) f1 a1 hg g1 (by decide) (b0_eq u g P) (fun _ q l => ⟨by rw [v1 q, if_pos (by omega)], nvI_b h.1.2.1 _ _⟩)
  obtain ⟨m3, e3, f3, v3, o3, w3⟩ := C_num (i := 2) (bt := 5000) (x0 := 0) f2 c1 hg g1 (by decide) (by rw [if_neg (by rintro ⟨q, _⟩; cases q)]) (fun q => by cases q)
  refine ⟨m3, while3 e1 e2 e3 rfl, f3, fun q => ?_, agx_tr w1 (agx_tr w2 w3)⟩
  have q2 := (d4 q).1
  have q1 := (c4 q2).1
  exact ⟨by rw [o3 0 (by decide), o2 0 (by decide)]; exact v1 q1, by rw [o3 1 (by decide)]; exact v2 q2, v3 q⟩
noncomputable def enX (g : Nat) (d : Nat × Nat × Nat × Nat) (q : Nat) : Int32 := if q = 0 then nI d.1 else if q ≤ lnN (sgN g d.1) then nI (xi d (q - 1)) else -1
def CA (u : Nat → Nat) (n g : Nat) (A : As) (S : Sk) (m : Mm) : Prop := CPs u n S A.1 m ∧ mI m 7 7 = nI g ∧ mI m 8 1 = nI (min A.2.1 100) ∧ (∀ j q, j < min A.2.1 100 → q < 4 → mI m 9 (j * 4 + q) = enX g (A.2.2 j) q) ∧ ∀ k, k < 7 → mI m 10 k = nI (cnK A.2.2 k A.2.1)
theorem cnK_b (D : Dr) (k N : Nat) : cnK D k N ≤ N := fb_ct_le _ _
theorem C_isFull {u : Nat → Nat} {n g : Nat} {A : As} {S : Sk} {m : Mm} (h : CA u n g A S m) (hg : g < 4) (hN : A.2.1 ≤ 600) {k : Nat} (hk : k < 7) : m_X5_isFull (nI k) m = some (b2 (fuA g k A.2.1 A.2.2)) := by
  obtain ⟨h1, h2, h3, h4, h5⟩ := h
  have n0 := cnK_b A.2.2 0 A.2.1
  have n4 := cnK_b A.2.2 4 A.2.1
  unfold m_X5_isFull fuA
  rw [h2, h3]
  rcases (by omega : g = 0 ∨ g = 1 ∨ g = 2 ∨ g = 3) with rfl | rfl | rfl | rfl
  · rw [if_pos rfl, if_pos (by rfl)]
    by_cases k0 : k = 0
    · subst k0
      rw [if_pos (by rfl), if_pos rfl, n_grd (by decide) (by decide), n_ix (by decide), h5 0 (by decide)]
      by_cases c : 6 ≤ cnK A.2.2 0 A.2.1
      · rw [if_pos (by rw [show (6 : Int32) = nI 6 from rfl, n_le (by decide) (by omega)]; exact c), bs_l, decide_eq_true c]; rfl
      · rw [if_neg (by rw [show (6 : Int32) = nI 6 from rfl, n_le (by decide) (by omega)]; exact c), if_neg (by decide), bs_r, decide_eq_false c]; rfl
    · rw [if_neg (by rw [show (0 : Int32) = nI 0 from rfl, n_eq (by omega) (by decide)]; exact k0), if_neg k0]
      by_cases k4 : k = 4
      · subst k4
        rw [if_pos (by rfl), if_pos rfl, n_grd (by decide) (by decide), n_ix (by decide), h5 4 (by decide)]
        by_cases c : 12 ≤ cnK A.2.2 4 A.2.1
        · rw [if_neg (by rw [show (12 : Int32) = nI 12 from rfl, n_lt (by omega) (by decide)]; omega), bs_l, decide_eq_true c]; rfl
        · rw [if_pos (by rw [show (12 : Int32) = nI 12 from rfl, n_lt (by omega) (by decide)]; omega), bs_r, decide_eq_false c]; rfl
      · rw [if_neg (by rw [show (4 : Int32) = nI 4 from rfl, n_eq (by omega) (by decide)]; exact k4), if_neg k4, bs_r]; rfl
  · rw [if_neg (by decide), if_pos (by rfl), if_neg (show ¬ (1 : Nat) = 0 by decide), show rwm 1 = 40 from rfl]
    by_cases c : 40 ≤ A.2.1
    · rw [if_neg (by rw [show (40 : Int32) = nI 40 from rfl, n_lt (by omega) (by decide)]; omega), decide_eq_true c]; rfl
    · rw [if_pos (by rw [show (40 : Int32) = nI 40 from rfl, n_lt (by omega) (by decide)]; omega), decide_eq_false c]; rfl
  · rw [if_neg (by decide), if_neg (by decide), if_pos (by rfl), if_neg (show ¬ (2 : Nat) = 0 by decide), show rwm 2 = 6 from rfl]
    by_cases c : 6 ≤ A.2.1
    · rw [if_neg (by rw [show (6 : Int32) = nI 6 from rfl, n_lt (by omega) (by decide)]; omega), decide_eq_true c]; rfl
    · rw [if_pos (by rw [show (6 : Int32) = nI 6 from rfl, n_lt (by omega) (by decide)]; omega), decide_eq_false c]; rfl
  · rw [if_neg (by decide), if_neg (by decide), if_neg (by decide), if_neg (show ¬ (3 : Nat) = 0 by decide), show rwm 3 = 8 from rfl]
    by_cases c : 8 ≤ A.2.1
    · rw [if_neg (by rw [show (8 : Int32) = nI 8 from rfl, n_lt (by omega) (by decide)]; omega), decide_eq_true c]; rfl
    · rw [if_pos (by rw [show (8 : Int32) = nI 8 from rfl, n_lt (by omega) (by decide)]; omega), decide_eq_false c]; rfl
