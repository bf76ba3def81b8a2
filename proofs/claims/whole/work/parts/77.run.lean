/-! L3: a course of deeds -/
abbrev XS : Type := Cn × Nat × Nat × Nat × Nat × Option Nat × Option Nat × Option Nat × Nat
def VQx (s : XS) (m : Mm) : Prop := VQ s.1 s.2.1 s.2.2.1 s.2.2.2.1 s.2.2.2.2.1 s.2.2.2.2.2.1 s.2.2.2.2.2.2.1 s.2.2.2.2.2.2.2.1 s.2.2.2.2.2.2.2.2 m
def VRx (s : XS) (c : Nat) (m : Mm) : Prop := VR s.1 c s.2.1 s.2.2.1 s.2.2.2.1 s.2.2.2.2.1 m
def okX (s : XS) : Prop := okW s.1 ∧ noV s.1 ∧ s.2.2.2.2.1 < 64 ∧ (∀ y, s.2.2.2.2.2.2.2.1 = some y → y ≤ 12) ∧ (s.2.2.2.2.2.1 = none ↔ s.2.2.2.2.1 = 0)
def monX (i : Nat) (s : XS) : XS := (zeroO s.1, s.2.1 + 1, s.2.2.1 + kn s.1, s.2.2.2.1 + pc (brk s.1 0), s.2.2.2.2.1 ||| swz s.1 (brk s.1 0), (if s.2.2.2.2.1 = 0 ∧ ¬ brk s.1 0 = 0 then some i else s.2.2.2.2.2.1), (if btr s.2.2.2.2.2.2.2.1 (kn s.1) then some (s.2.1 + 1) else s.2.2.2.2.2.2.1), (if btr s.2.2.2.2.2.2.2.1 (kn s.1) then some (kn s.1) else s.2.2.2.2.2.2.2.1), s.2.2.2.2.2.2.2.2)
def oneX (i k a b t : Nat) (s : XS) : Option XS := if k = 0 then some (monX i s) else (stp k a b t s.1 s.2.2.2.2.1).map (fun V => (V, s.2.1, s.2.2.1, s.2.2.2.1, s.2.2.2.2.1, s.2.2.2.2.2.1, s.2.2.2.2.2.2.1, s.2.2.2.2.2.2.2.1, s.2.2.2.2.2.2.2.2 + if k = 6 then 1 else 0))
theorem swz_0 {W : Cn} : swz W (brk W 0) = 0 ↔ brk W 0 = 0 := by
  constructor
  · intro h
    apply Nat.eq_of_testBit_eq
    intro k
    rw [Nat.zero_testBit]
    cases hb : (brk W 0).testBit k with
    | false => rfl
    | true =>
      have hk := ((brk_bit W 0 k).mp hb).1
      have h2 : (swz W (brk W 0)).testBit (sw W k) = true := by
        unfold swz
        rw [fo_or_bit (fun k => if (brk W 0).testBit k then 2 ^ sw W k else 0)]
        exact ⟨k, hk, by rw [if_pos hb, pow_bit]; simp⟩
      rw [h] at h2
      simp at h2
  · intro h
    rw [h]
    unfold swz
    have : ∀ n, fo (fun k s => s ||| if (0 : Nat).testBit k then 2 ^ sw W k else 0) 0 n = 0 := by
      intro n
      induction n with
      | zero => rfl
      | succ n ih => rw [fo, ih]; simp
    exact this _
theorem or_0 {a b : Nat} : a ||| b = 0 ↔ a = 0 ∧ b = 0 := by
  constructor
  · intro h
    constructor
    · apply Nat.eq_of_testBit_eq
      intro i
      have : (a ||| b).testBit i = false := by rw [h]; simp
      rw [Nat.testBit_or] at this
      rw [Nat.zero_testBit]
      cases ha : a.testBit i with
      | false => rfl
      | true => rw [ha] at this; cases this
    · apply Nat.eq_of_testBit_eq
      intro i
      have : (a ||| b).testBit i = false := by rw [h]; simp
      rw [Nat.testBit_or] at this
      rw [Nat.zero_testBit]
      cases hb : b.testBit i with
      | false => rfl
      | true => rw [hb, Bool.or_true] at this; cases this
  · rintro ⟨rfl, rfl⟩; rfl
theorem noV_stp {k a b t : Nat} {W V : Cn} {pj : Nat} (hn : noV W) (ha : a < 6) (hb : b < 6) (e : stp k a b t W pj = some V) (hfk : fk V = fk W) : noV V := by
  intro x y h1 h2 h3
  rw [hfk] at h1
  have h0 := hn x y h1 h2 h3
  unfold stp at e
  have key : ∀ U : Cn, U 4 = W 4 → U 4 (6 * x + y) = 0 := fun U hU => by rw [hU]; exact h0
  by_cases k1 : k = 1
  · rw [if_pos k1] at e
    by_cases c : a < fk W ∧ 1 ≤ wl W a
    · rw [if_pos c] at e; cases e; exact h0
    · rw [if_neg c] at e; cases e
  rw [if_neg k1] at e
  by_cases k2 : k = 2
  · rw [if_pos k2] at e
    by_cases c : a < fk W ∧ wl W a < 9
    · rw [if_pos c] at e; cases e; exact h0
    · rw [if_neg c] at e; cases e
  rw [if_neg k2] at e
  by_cases two : ¬ (a < fk W ∧ b < fk W ∧ a ≠ b)
  · rw [if_pos two] at e; cases e
  rw [if_neg two] at e
  have two := Classical.not_not.mp two
  by_cases k3 : k = 3
  · rw [if_pos k3] at e
    by_cases c : vs W (6 * a + b) < 9
    · rw [if_pos c] at e
      cases e
      show upW W 4 (6 * a + b) _ 4 (6 * x + y) = 0
      rw [upW_at, if_neg (by omega)]
      exact h0
    · rw [if_neg c] at e; cases e
  rw [if_neg k3] at e
  by_cases k4 : k = 4
  · rw [if_pos k4] at e
    by_cases c : (lk W b).testBit a = false
    · rw [if_pos c] at e; cases e; exact h0
    · rw [if_neg c] at e; cases e
  rw [if_neg k4] at e
  by_cases k5 : k = 5
  · rw [if_pos k5] at e
    by_cases c : (lk W b).testBit a = true
    · rw [if_pos c] at e; cases e; exact h0
    · rw [if_neg c] at e; cases e
  rw [if_neg k5] at e
  by_cases c : pj.testBit a = false ∧ oa W < 12 ∧ has3 W a b t = false
  · rw [if_pos c] at e
    cases e
    exact key _ (addO_vs W a b t)
  · rw [if_neg c] at e; cases e
theorem monX_ok {i : Nat} {s : XS} (h : okX s) : okX (monX i s) ∧ fk (monX i s).1 = fk s.1 := by
  obtain ⟨W, md, kp, br, pj, fp, bm, mk, sn⟩ := s
  obtain ⟨⟨wf, hc, ho⟩, hn, hp, hm, hfp⟩ := h
  simp only at wf hc ho hn hp hm hfp
  have hs := swz_b wf (brk W 0)
  refine ⟨⟨⟨zeroO_WF wf, hc, by show oa (zeroO W) ≤ 12; rw [zeroO_oa]; decide⟩, hn, or_b (n := 6) hp hs, fun y hy => ?_, ?_⟩, rfl⟩
  · simp only [monX] at hy
    by_cases c : btr mk (kn W) = true
    · rw [if_pos c] at hy
      cases hy
      show oa W - _ ≤ 12
      omega
    · rw [if_neg c] at hy; exact hm y hy
  · simp only [monX]
    rw [or_0, swz_0]
    by_cases c : pj = 0 ∧ ¬ brk W 0 = 0
    · rw [if_pos c]
      exact ⟨fun q => (by cases q), fun q => absurd q.2 c.2⟩
    · rw [if_neg c, hfp]
      constructor
      · intro q
        refine ⟨q, ?_⟩
        apply Classical.byContradiction
        intro hb
        exact c ⟨q, hb⟩
      · exact fun q => q.1
theorem oneX_ok {i k a b t : Nat} {s V : XS} (h : okX s) (ha : a < 6) (hb : b < 6) (ht : t < 8) (e : oneX i k a b t s = some V) : okX V ∧ fk V.1 = fk s.1 := by
  unfold oneX at e
  by_cases k0 : k = 0
  · rw [if_pos k0] at e
    cases e
    exact monX_ok h
  · rw [if_neg k0] at e
    obtain ⟨W, md, kp, br, pj, fp, bm, mk, sn⟩ := s
    obtain ⟨ok, hn, hp, hm, hfp⟩ := h
    simp only at ok hn hp hm hfp e
    cases es : stp k a b t W pj with
    | none => rw [es] at e; cases e
    | some U =>
      rw [es] at e
      cases e
      obtain ⟨h1, h2⟩ := stp_ok ok ha hb ht es
      exact ⟨⟨h1, noV_stp hn ha hb es h2, hp, hm, hfp⟩, h2⟩
theorem C_one {s : XS} {mm : Mm} (h : VQx s mm) (ok : okX s) {i k a b t : Nat} {a3 a4 a5 : Int32} (hk : k < 7) (ha : a < 6) (hb : b < 6) (ht : t < 8) (e3 : k ≠ 0 → a3 = nI a) (e4 : 3 ≤ k → a4 = nI b) (e5 : k = 6 → a5 = nI t) : ∃ m, m_X3_perform (nI i) (nI k) a3 a4 a5 mm = some (b2 (oneX i k a b t s).isSome, m) ∧ VQx ((oneX i k a b t s).getD s) m := by
  obtain ⟨W, md, kp, br, pj, fp, bm, mk, sn⟩ := s
  obtain ⟨okw, hn, hp, hm, hfp⟩ := ok
  simp only at okw hn hp hm hfp
  by_cases k0 : k = 0
  · obtain ⟨m, e, hq⟩ := C_monday h okw hp hm i
    unfold m_X3_perform oneX
    rw [if_pos k0, k0, if_pos (by decide), e, ob_s]
    exact ⟨m, rfl, hq⟩
  · obtain ⟨m, e, hq⟩ := C_perform h okw hp (nI i) k0 hk ha hb ht (e3 k0) e4 e5
    unfold oneX
    rw [if_neg k0]
    simp only at hq e ⊢
    cases es : stp k a b t W pj with
    | none =>
      rw [es] at hq e
      refine ⟨m, e, ?_⟩
      show VQ W md kp br pj fp bm mk sn m
      simpa using hq
    | some U =>
      rw [es] at hq e
      refine ⟨m, e, ?_⟩
      simp only [Option.isSome_some, and_true, Option.getD_some] at hq
      exact hq
theorem M_one {s : XS} {c : Nat} {mm : Mm} (h : VRx s c mm) (ok : okX s) {i k a b t : Nat} {a2 a3 a4 : Int32} (hk : k < 7) (ha : a < 6) (hb : b < 6) (ht : t < 8) (e2 : k ≠ 0 → a2 = nI a) (e3 : 3 ≤ k → a3 = nI b) (e4 : k = 6 → a4 = nI t) : ∃ m, m_X12_does (nI k) a2 a3 a4 mm = some (b2 (oneX i k a b t s).isSome, m) ∧ VRx ((oneX i k a b t s).getD s) c m := by
  obtain ⟨W, md, kp, br, pj, fp, bm, mk, sn⟩ := s
  obtain ⟨okw, hn, hp, hm, hfp⟩ := ok
  simp only at okw hn hp hm hfp
  by_cases k0 : k = 0
  · obtain ⟨m, e, hq⟩ := M_monday h okw
    unfold m_X12_does oneX
    rw [if_pos k0, k0, if_pos (by decide), e, ob_s]
    exact ⟨m, rfl, hq⟩
  · obtain ⟨m, e, hq⟩ := M_does h okw hp k0 hk ha hb ht (e2 k0) e3 e4
    unfold oneX
    rw [if_neg k0]
    simp only at hq e ⊢
    cases es : stp k a b t W pj with
    | none => rw [es] at hq e; exact ⟨m, e, hq⟩
    | some U => rw [es] at hq e; exact ⟨m, e, hq⟩
/-- deeds told: how many, kinds, numbers -/
def dOK (n : Nat) (dk da db dt : Nat → Nat) (c1 c2 c3 : Nat → Int32) : Prop := n ≤ 40 ∧ (∀ j, dk j < 7) ∧ (∀ j, da j < 6) ∧ (∀ j, db j < 6) ∧ (∀ j, dt j < 8) ∧ (∀ j, j < n → dk j ≠ 0 → c1 j = nI (da j)) ∧ (∀ j, j < n → 3 ≤ dk j → c2 j = nI (db j)) ∧ (∀ j, j < n → dk j = 6 → c3 j = nI (dt j))
def VT (n : Nat) (dk : Nat → Nat) (c1 c2 c3 : Nat → Int32) (a : Nat) (S : Sk) (mm : Mm) : Prop := KD S a 6 ∧ (sK S (a + 1)).2 = 4 * n ∧ mI mm a 1 = nI n ∧ (∀ j, j < n → mI mm (a + 1) (j * 4) = nI (dk j) ∧ mI mm (a + 1) (j * 4 + 1) = c1 j ∧ mI mm (a + 1) (j * 4 + 2) = c2 j ∧ mI mm (a + 1) (j * 4 + 3) = c3 j)
def VU (n : Nat) (dk : Nat → Nat) (c1 c2 c3 : Nat → Int32) (x : Nat) (mm : Mm) : Prop := x < 2 ∧ mI mm 44 38 = nI x ∧ mI mm 51 (161 * x) = nI n ∧ (∀ j, j < n → mI mm 51 (161 * x + 1 + 4 * j) = nI (dk j) ∧ mI mm 51 (161 * x + 1 + 4 * j + 1) = c1 j ∧ mI mm 51 (161 * x + 1 + 4 * j + 2) = c2 j ∧ mI mm 51 (161 * x + 1 + 4 * j + 3) = c3 j)
def seqX (dk da db dt : Nat → Nat) (s : XS) : Nat → Option XS
  | 0 => some s
  | i + 1 => (seqX dk da db dt s i).bind (oneX i (dk i) (da i) (db i) (dt i))
def stopX (dk da db dt : Nat → Nat) (s0 : XS) (n i : Nat) (s : XS) : Prop := i ≤ n ∧ seqX dk da db dt s0 i = some s ∧ (i = n ∨ seqX dk da db dt s0 (i + 1) = none)
theorem seqX_none {dk da db dt : Nat → Nat} {s : XS} {i : Nat} (h : seqX dk da db dt s i = none) : ∀ d, seqX dk da db dt s (i + d) = none
  | 0 => h
  | d + 1 => by rw [show i + (d + 1) = (i + d) + 1 from rfl, seqX, seqX_none h d]; rfl
theorem stopX_one {dk da db dt : Nat → Nat} {s0 s s' : XS} {n i j : Nat} (h : stopX dk da db dt s0 n i s) (h' : stopX dk da db dt s0 n j s') : i = j ∧ s = s' := by
  have key : ∀ {i j s s'}, stopX dk da db dt s0 n i s → stopX dk da db dt s0 n j s' → ¬ i < j := by
    intro i j s s' h h' hlt
    rcases h.2.2 with h1 | h1
    · have := h'.1; omega
    · have h2 := seqX_none h1 (j - (i + 1))
      rw [show i + 1 + (j - (i + 1)) = j by omega, h'.2.1] at h2
      cases h2
  have e : i = j := by
    have h1 := key h h'
    have h2 := key h' h
    omega
  subst e
  have := h.2.1.symm.trans h'.2.1
  exact ⟨rfl, by cases this; rfl⟩
theorem VT_agx {n : Nat} {dk : Nat → Nat} {c1 c2 c3 : Nat → Int32} {a : Nat} {S : Sk} {mm m : Mm} {Wl : List (Nat × Option Nat)} (h : VT n dk c1 c2 c3 a S mm) (ha : 71 ≤ a) (hg : agx Wl mm m) (hf : Wl.all (fun e => decide (e.1 < 71)) = true) : VT n dk c1 c2 c3 a S m := by
  obtain ⟨h1, h2, h3, h4⟩ := h
  refine ⟨h1, h2, by rw [(hg _ _ (hi_cov hf ha _)).1]; exact h3, fun j hj => ?_⟩
  rw [(hg _ _ (hi_cov hf (by omega) _)).1, (hg _ _ (hi_cov hf (by omega) _)).1, (hg _ _ (hi_cov hf (by omega) _)).1, (hg _ _ (hi_cov hf (by omega) _)).1]
  exact h4 j hj
theorem VU_agx {n : Nat} {dk : Nat → Nat} {c1 c2 c3 : Nat → Int32} {x : Nat} {mm m : Mm} {Wl : List (Nat × Option Nat)} (h : VU n dk c1 c2 c3 x mm) (hg : agx Wl mm m) (h1' : ∀ j, covB Wl 51 j = false) (h2' : covB Wl 44 38 = false) : VU n dk c1 c2 c3 x m := by
  obtain ⟨h1, h2, h3, h4⟩ := h
  refine ⟨h1, by rw [(hg _ _ h2').1]; exact h2, by rw [(hg _ _ (h1' _)).1]; exact h3, fun j hj => ?_⟩
  rw [(hg _ _ (h1' _)).1, (hg _ _ (h1' _)).1, (hg _ _ (h1' _)).1, (hg _ _ (h1' _)).1]
  exact h4 j hj
theorem seqX_ok {n : Nat} {dk da db dt : Nat → Nat} {c1 c2 c3 : Nat → Int32} (hd : dOK n dk da db dt c1 c2 c3) {s0 : XS} (h : okX s0) : ∀ i s, seqX dk da db dt s0 i = some s → okX s ∧ fk s.1 = fk s0.1
  | 0, s, e => by cases e; exact ⟨h, rfl⟩
  | i + 1, s, e => by
    rw [seqX] at e
    cases h1 : seqX dk da db dt s0 i with
    | none => rw [h1] at e; cases e
    | some s' =>
      rw [h1] at e
      obtain ⟨h2, h3⟩ := seqX_ok hd h i s' h1
      obtain ⟨h4, h5⟩ := oneX_ok h2 (hd.2.2.1 i) (hd.2.2.2.1 i) (hd.2.2.2.2.1 i) e
      exact ⟨h4, h5.trans h3⟩
/-- the class's run behind its beginning -/
theorem C_runW {n : Nat} {dk da db dt : Nat → Nat} {c1 c2 c3 : Nat → Int32} (hd : dOK n dk da db dt c1 c2 c3) {s0 : XS} (ok : okX s0) {a : Nat} (ha : 71 ≤ a) {q1 : Sk × Mm} (hS : SI q1.1) (hQ : VQx s0 q1.2) (hT : VT n dk c1 c2 c3 a q1.1 q1.2) {N : Nat} (hN : N ≤ n) : ∃ i s m, stopX dk da db dt s0 N i s ∧ VQx s m ∧ agx [(13, none), (14, none), (15, none), (17, none), (18, none), (20, none), (21, none), (22, none)] q1.2 m ∧ bS (whileF FU (m_X3_run_b8 a (nI N) q1) (0, q1.2)) (fun p4 => some (nI N, q1.1, p4)) = some (nI i, q1.1, m) := by
  obtain ⟨hn40, d7, a6, b6, t8, hc1, hc2, hc3⟩ := hd
  have hd : dOK n dk da db dt c1 c2 c3 := ⟨hn40, d7, a6, b6, t8, hc1, hc2, hc3⟩
  obtain ⟨q, e, hq⟩ := loop_inv (body := m_X3_run_b8 a (nI N) q1) (a := ((0 : Int32), q1.2)) (fun i z => ∃ m s, z = (nI i, m) ∧ seqX dk da db dt s0 i = some s ∧ VQx s m ∧ VT n dk c1 c2 c3 a q1.1 m ∧ agx [(13, none), (14, none), (15, none), (17, none), (18, none), (20, none), (21, none), (22, none)] q1.2 m) (fun q => (∃ m s, q = .inl m ∧ seqX dk da db dt s0 N = some s ∧ VQx s m ∧ agx [(13, none), (14, none), (15, none), (17, none), (18, none), (20, none), (21, none), (22, none)] q1.2 m) ∨ (∃ i m s, q = .inr (nI i, q1.1, m) ∧ i < N ∧ seqX dk da db dt s0 i = some s ∧ seqX dk da db dt s0 (i + 1) = none ∧ VQx s m ∧ agx [(13, none), (14, none), (15, none), (17, none), (18, none), (20, none), (21, none), (22, none)] q1.2 m)) N (FU_big (by omega)) ⟨_, s0, rfl, rfl, hQ, hT, agx_rf _⟩ (by
    rintro i z hi ⟨m, s, rfl, hs, hQ, hT, hA⟩
    obtain ⟨oks, _⟩ := seqX_ok hd ok i s hs
    obtain ⟨t1, t2, t3, t4⟩ := hT
    obtain ⟨u0, u1, u2, u3⟩ := t4 i (by omega)
    have e0 : m_X6_cell q1.1 a (nI i) 0 m = some (nI (dk i)) := (C_cell t3 t2 (by omega) (by omega) (c := 0) (by decide)).trans (congrArg some u0)
    have e1 : m_X6_cell q1.1 a (nI i) 1 m = some (c1 i) := (C_cell t3 t2 (by omega) (by omega) (c := 1) (by decide)).trans (congrArg some u1)
    have e2 : m_X6_cell q1.1 a (nI i) 2 m = some (c2 i) := (C_cell t3 t2 (by omega) (by omega) (c := 2) (by decide)).trans (congrArg some u2)
    have e3 : m_X6_cell q1.1 a (nI i) 3 m = some (c3 i) := (C_cell t3 t2 (by omega) (by omega) (c := 3) (by decide)).trans (congrArg some u3)
    obtain ⟨m', ep, hQ'⟩ := C_one hQ oks (i := i) (d7 i) (a6 i) (b6 i) (t8 i) (hc1 i (by omega)) (hc2 i (by omega)) (hc3 i (by omega))
    have fr := fr_X3_perform ep
    have fr' : agx [(13, none), (14, none), (15, none), (17, none), (18, none), (20, none), (21, none), (22, none)] m m' := fun p j h => fr p j (by
      cases hcv : covB _ p j with
      | false => rfl
      | true =>
        exfalso
        simp [covB] at h hcv
        omega)
    unfold m_X3_run_b8
    simp only []
    rw [if_neg (by rw [n_le (by omega) (by omega)]; omega), gk_pos t1, gP_pos hS, e0, ob_s, e1, ob_s, e2, ob_s, e3, ob_s, ep, ob_s]
    simp only [b2_ne]
    cases h1 : oneX i (dk i) (da i) (db i) (dt i) s with
    | none =>
      rw [h1] at hQ'
      right
      rw [Option.isSome_none, if_pos rfl]
      refine ⟨_, rfl, Or.inr ⟨i, m', s, rfl, hi, hs, ?_, hQ', agx_tr hA fr'⟩⟩
      rw [seqX, hs]; exact h1
    | some s' =>
      rw [h1] at hQ'
      left
      rw [Option.isSome_some, if_neg (by decide), nI_1]
      refine ⟨_, rfl, m', s', rfl, ?_, hQ', VT_agx ⟨t1, t2, t3, t4⟩ ha fr' (by rfl), agx_tr hA fr'⟩
      rw [seqX, hs]; exact h1) (by
    rintro z ⟨m, s, rfl, hs, hQ, hT, hA⟩
    unfold m_X3_run_b8
    rw [if_pos (by show nI N ≤ nI N; rw [n_le (by omega) (by omega)]; omega)]
    exact ⟨_, rfl, Or.inl ⟨m, s, rfl, hs, hQ, hA⟩⟩)
  rw [e]
  rcases hq with ⟨m, s, rfl, hs, hQ, hA⟩ | ⟨i, m, s, rfl, hi, hs, hs2, hQ, hA⟩
  · rw [bs_l]
    exact ⟨N, s, m, ⟨Nat.le_refl _, hs, Or.inl rfl⟩, hQ, hA, rfl⟩
  · rw [bs_r]
    exact ⟨i, s, m, ⟨by omega, hs, Or.inr hs2⟩, hQ, hA, rfl⟩
theorem M_deedOf {n : Nat} {dk : Nat → Nat} {c1 c2 c3 : Nat → Int32} {x : Nat} {mm : Mm} (h : VU n dk c1 c2 c3 x mm) (hn : n ≤ 40) {k : Nat} (hk : k < n) : m_X12_deedOf (nI k) (nI 0) mm = some (nI (dk k)) ∧ m_X12_deedOf (nI k) (nI 1) mm = some (c1 k) ∧ m_X12_deedOf (nI k) (nI 2) mm = some (c2 k) ∧ m_X12_deedOf (nI k) (nI 3) mm = some (c3 k) := by
  obtain ⟨h1, h2, h3, h4⟩ := h
  obtain ⟨u0, u1, u2, u3⟩ := h4 k hk
  refine ⟨?_, ?_, ?_, ?_⟩ <;> unfold m_X12_deedOf <;> rw [h2]
  · simp (disch := omega) only [zz_0, zz_1, zz_2, zz_3, zz_4, zz_5, zz_6, zz_7, zz_8, zz_9, zz_10, zz_11, zz_12, zz_13, zz_14, zz_15, zz_16, zz_20, zz_24, zz_25, zz_26, zz_28, zz_31, zz_32, zz_36, zz_39, zz_40, zz_48, zz_49, zz_50, zz_57, zz_59, zz_60, zz_64, zz_72, zz_97, zz_99, zz_100, zz_122, zz_144, zz_161, zz_255, zz_256, zz_288, zz_322, zz_384, zz_400, zz_448, zz_600, zz_1280, zz_1000000, n_mul, nI_add, n_grd, n_ix, Nat.add_zero, u0]
  · simp (disch := omega) only [zz_0, zz_1, zz_2, zz_3, zz_4, zz_5, zz_6, zz_7, zz_8, zz_9, zz_10, zz_11, zz_12, zz_13, zz_14, zz_15, zz_16, zz_20, zz_24, zz_25, zz_26, zz_28, zz_31, zz_32, zz_36, zz_39, zz_40, zz_48, zz_49, zz_50, zz_57, zz_59, zz_60, zz_64, zz_72, zz_97, zz_99, zz_100, zz_122, zz_144, zz_161, zz_255, zz_256, zz_288, zz_322, zz_384, zz_400, zz_448, zz_600, zz_1280, zz_1000000, n_mul, nI_add, n_grd, n_ix, u1]
  · simp (disch := omega) only [zz_0, zz_1, zz_2, zz_3, zz_4, zz_5, zz_6, zz_7, zz_8, zz_9, zz_10, zz_11, zz_12, zz_13, zz_14, zz_15, zz_16, zz_20, zz_24, zz_25, zz_26, zz_28, zz_31, zz_32, zz_36, zz_39, zz_40, zz_48, zz_49, zz_50, zz_57, zz_59, zz_60, zz_64, zz_72, zz_97, zz_99, zz_100, zz_122, zz_144, zz_161, zz_255, zz_256, zz_288, zz_322, zz_384, zz_400, zz_448, zz_600, zz_1280, zz_1000000, n_mul, nI_add, n_grd, n_ix, u2]
  · simp (disch := omega) only [zz_0, zz_1, zz_2, zz_3, zz_4, zz_5, zz_6, zz_7, zz_8, zz_9, zz_10, zz_11, zz_12, zz_13, zz_14, zz_15, zz_16, zz_20, zz_24, zz_25, zz_26, zz_28, zz_31, zz_32, zz_36, zz_39, zz_40, zz_48, zz_49, zz_50, zz_57, zz_59, zz_60, zz_64, zz_72, zz_97, zz_99, zz_100, zz_122, zz_144, zz_161, zz_255, zz_256, zz_288, zz_322, zz_384, zz_400, zz_448, zz_600, zz_1280, zz_1000000, n_mul, nI_add, n_grd, n_ix, u3]
theorem M_deeds {n : Nat} {dk : Nat → Nat} {c1 c2 c3 : Nat → Int32} {x : Nat} {mm : Mm} (h : VU n dk c1 c2 c3 x mm) : m_X12_deeds mm = some (nI n) := by
  obtain ⟨h1, h2, h3, h4⟩ := h
  unfold m_X12_deeds
  rw [h2]
  simp (disch := omega) only [zz_0, zz_1, zz_2, zz_3, zz_4, zz_5, zz_6, zz_7, zz_8, zz_9, zz_10, zz_11, zz_12, zz_13, zz_14, zz_15, zz_16, zz_20, zz_24, zz_25, zz_26, zz_28, zz_31, zz_32, zz_36, zz_39, zz_40, zz_48, zz_49, zz_50, zz_57, zz_59, zz_60, zz_64, zz_72, zz_97, zz_99, zz_100, zz_122, zz_144, zz_161, zz_255, zz_256, zz_288, zz_322, zz_384, zz_400, zz_448, zz_600, zz_1280, zz_1000000, n_mul, n_grd, n_ix, h3]
theorem M_doesDeed {n : Nat} {dk da db dt : Nat → Nat} {c1 c2 c3 : Nat → Int32} (hd : dOK n dk da db dt c1 c2 c3) {s : XS} (ok : okX s) {c x : Nat} {mm : Mm} (hR : VRx s c mm) (hU : VU n dk c1 c2 c3 x mm) {i : Nat} (hi : i < n) : ∃ m, m_X12_doesDeed (nI i) mm = some (b2 (oneX i (dk i) (da i) (db i) (dt i) s).isSome, m) ∧ VRx ((oneX i (dk i) (da i) (db i) (dt i) s).getD s) c m ∧ VU n dk c1 c2 c3 x m := by
  obtain ⟨hn40, d7, a6, b6, t8, hc1, hc2, hc3⟩ := hd
  obtain ⟨e0, e1, e2, e3⟩ := M_deedOf hU hn40 hi
  obtain ⟨m', ep, hR'⟩ := M_one hR ok (i := i) (d7 i) (a6 i) (b6 i) (t8 i) (hc1 i hi) (hc2 i hi) (hc3 i hi)
  have fr := fr_X12_does ep
  unfold m_X12_doesDeed
  simp only [zz_0, zz_1, zz_2, zz_3, zz_4, zz_5, zz_6, zz_7, zz_8, zz_9, zz_10, zz_11, zz_12, zz_13, zz_14, zz_15, zz_16, zz_20, zz_24, zz_25, zz_26, zz_28, zz_31, zz_32, zz_36, zz_39, zz_40, zz_48, zz_49, zz_50, zz_57, zz_59, zz_60, zz_64, zz_72, zz_97, zz_99, zz_100, zz_122, zz_144, zz_161, zz_255, zz_256, zz_288, zz_322, zz_384, zz_400, zz_448, zz_600, zz_1280, zz_1000000]
  rw [e0, ob_s, e1, ob_s, e2, ob_s, e3, ob_s, ep, ob_s, n_gbz]
  exact ⟨m', rfl, hR', VU_agx hU fr (by intro j; simp [covB]) (by rfl)⟩
theorem M_playW {n : Nat} {dk da db dt : Nat → Nat} {c1 c2 c3 : Nat → Int32} (hd : dOK n dk da db dt c1 c2 c3) {s0 : XS} (ok : okX s0) {c x : Nat} {mm : Mm} (hR : VRx s0 c mm) (hU : VU n dk c1 c2 c3 x mm) {N : Nat} (hN : N ≤ n) : ∃ i s m, stopX dk da db dt s0 N i s ∧ VRx s c m ∧ m_X12_play (nI N) mm = some (nI i, m) := by
  have hn40 := hd.1
  unfold m_X12_play
  obtain ⟨q, e, i, s, m, rfl, hst, hR'⟩ := loop_inv (body := m_X12_play_b2 (nI N)) (a := ((0 : Int32), mm)) (fun i z => ∃ m s, z = (nI i, m) ∧ seqX dk da db dt s0 i = some s ∧ VRx s c m ∧ VU n dk c1 c2 c3 x m) (fun q => ∃ i s m, q = (nI i, m) ∧ stopX dk da db dt s0 N i s ∧ VRx s c m) N (FU_big (by omega)) ⟨_, s0, rfl, rfl, hR, hU⟩ (by
    rintro i z hi ⟨m, s, rfl, hs, hR, hU⟩
    obtain ⟨oks, _⟩ := seqX_ok hd ok i s hs
    obtain ⟨m', ep, hR', hU'⟩ := M_doesDeed hd oks hR hU (i := i) (by omega)
    unfold m_X12_play_b2
    simp only []
    rw [if_neg (by rw [n_le (by omega) (by omega)]; omega), ep, ob_s]
    simp only [b2_ne]
    cases h1 : oneX i (dk i) (da i) (db i) (dt i) s with
    | none =>
      rw [h1] at hR'
      right
      rw [Option.isSome_none, if_pos rfl]
      refine ⟨_, rfl, i, s, m', rfl, ⟨by omega, hs, Or.inr ?_⟩, hR'⟩
      rw [seqX, hs]; exact h1
    | some s' =>
      rw [h1] at hR'
      left
      rw [Option.isSome_some, if_neg (by decide), nI_1]
      refine ⟨_, rfl, m', s', rfl, ?_, hR', hU'⟩
      rw [seqX, hs]; exact h1) (by
    rintro z ⟨m, s, rfl, hs, hR, hU⟩
    unfold m_X12_play_b2
    rw [if_pos (by show nI N ≤ nI N; rw [n_le (by omega) (by omega)]; omega)]
    exact ⟨_, rfl, N, s, m, rfl, ⟨Nat.le_refl _, hs, Or.inl rfl⟩, hR⟩)
  rw [e, ob_s]
  exact ⟨i, s, m, hst, hR', rfl⟩
