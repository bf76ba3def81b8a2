/-! L3: all lines, as the class reads them -/
noncomputable def stA (u : Nat → Nat) (n g : Nat) : Nat → As
  | 0 => ((0, 0, 0, tkn u n 0), 0, fun _ => (0, 0, 0, 0))
  | i + 1 => lnA u n g (stA u n g i)
def endd (A : As) : Prop := pd A.1 = 1 ∨ (pt A.1).1 = 0
def enA (u : Nat → Nat) (n g i : Nat) : Prop := endd (stA u n g i) ∧ (∀ j, j < i → ¬ endd (stA u n g j)) ∧ GA u n g (stA u n g i)
theorem enA_one {u : Nat → Nat} {n g i j : Nat} (h : enA u n g i) (h' : enA u n g j) : i = j := by
  rcases Nat.lt_trichotomy i j with q | q | q
  · exact absurd h.1 (h'.2.1 i q)
  · exact q
  · exact absurd h'.1 (h.2.1 j q)
theorem GA_0 (u : Nat → Nat) (n g : Nat) : GA u n g (stA u n g 0) := by
  obtain ⟨g1, g2⟩ := GT_n (u := u) (n := n) (pos := 0) (Nat.zero_le _)
  refine ⟨⟨Nat.zero_le _, Or.inl rfl, g1, fun q => absurd rfl q⟩, Nat.zero_le _, fun _ => Nat.zero_le _, fun _ _ => ⟨fun _ => ⟨Nat.zero_le _, Nat.zero_le _⟩, fun _ => Nat.zero_le _, fun j hj => absurd hj (Nat.not_lt_zero _)⟩⟩
abbrev rlL : List (Nat × Option Nat) := [(7, some 1), (7, some 2), (7, some 8), (7, some 9), (7, some 10), (7, some 11), (8, some 1), (9, none), (10, none), (11, none)]
theorem C_lines {u : Nat → Nat} {n g : Nat} {S : Sk} {m : Mm} (hg : g < 4) (h : CA u n g (stA u n g 0) (sRs S 7 5 (some 2)) m) : ∃ m', whileF FU (m_X5_read_b77 S) (0, m) = some m' ∧ ∃ i, enA u n g i ∧ CA u n g (stA u n g i) (sRs S 7 5 (some 2)) m' ∧ agx rlL m m' := by
  have n6 := h.1.1.1
  refine loop_inv (body := m_X5_read_b77 S) (a := ((0 : Int32), m)) (fun i z => z.1 = nI i ∧ CA u n g (stA u n g i) (sRs S 7 5 (some 2)) z.2 ∧ GA u n g (stA u n g i) ∧ (∀ j, j < i → ¬ endd (stA u n g j)) ∧ (pd (stA u n g i).1 = 0 → i ≤ (pt (stA u n g i).1).2.1) ∧ agx rlL m z.2) (fun r => ∃ i, enA u n g i ∧ CA u n g (stA u n g i) (sRs S 7 5 (some 2)) r ∧ agx rlL m r) n (FU_big (by omega)) ⟨rfl, h, GA_0 u n g, fun j hj => absurd hj (Nat.not_lt_zero _), fun _ => Nat.zero_le _, agx_rf _⟩ ?_ ?_
  · rintro i ⟨z1, z⟩ hi ⟨h1, h2, h3, h4, h5, h6⟩
    simp only at h1 h2 h6
    subst h1
    obtain ⟨b1, b2', b3, b4, b5⟩ := GT_b h3.1.2.2.1
    unfold m_X5_read_b77
    simp only
    rw [h2.1.1.2.2.2.1, if_neg (by rw [n_le (by omega) (by omega)]; omega), h2.1.2.1.1]
    by_cases k0 : (pt (stA u n g i).1).1 = 0
    · right
      rw [if_pos (by rw [k0]; rfl)]
      exact ⟨z, rfl, i, ⟨Or.inr k0, h4, h3⟩, h2, h6⟩
    · rw [if_neg (by rw [show (0 : Int32) = nI 0 from rfl, n_eq (by omega) (by decide)]; exact k0)]
      by_cases d1 : pd (stA u n g i).1 = 1
      · right
        rw [if_pos (by rw [(h2.1.2.2.1 d1).1]; rfl)]
        exact ⟨z, rfl, i, ⟨Or.inl d1, h4, h3⟩, h2, h6⟩
      · left
        have d0 : pd (stA u n g i).1 = 0 := by have := h3.1.1; omega
        have f3 := h3.1.2.1
        rw [if_neg (by rw [(h2.1.2.2.2 d0).1, show (1 : Int32) = nI 1 from rfl, n_eq (by omega) (by decide)]; omega)]
        obtain ⟨m', e1, e2⟩ := C_line h2 h3 hg d0 k0
        obtain ⟨g1, g2⟩ := GA_ln hg h3 d0 k0
        rw [e1, ob_s]
        refine ⟨_, rfl, by show nI i + 1 = nI (i + 1); rw [show (1 : Int32) = nI 1 from rfl, nI_add], e2, g1, fun j hj => ?_, fun q => ?_, agx_tr h6 (fr_X5_readLine e1)⟩
        · by_cases ej : j = i
          · rw [ej]; rintro (q | q)
            · omega
            · exact k0 q
          · exact h4 j (by omega)
        · have q1 := g2 q
          have q2 := h5 d0
          show i + 1 ≤ (pt (lnA u n g (stA u n g i)).1).2.1
          omega
  · rintro ⟨z1, z⟩ ⟨h1, h2, h3, h4, h5, h6⟩
    simp only at h1 h2 h6
    subst h1
    obtain ⟨b1, b2', b3, b4, b5⟩ := GT_b h3.1.2.2.1
    unfold m_X5_read_b77
    simp only
    rw [h2.1.1.2.2.2.1, if_pos (by rw [n_le (by omega) (by omega)]; omega)]
    refine ⟨z, rfl, n, ⟨?_, h4, h3⟩, h2, h6⟩
    by_cases d1 : pd (stA u n g n).1 = 1
    · exact Or.inl d1
    · right
      have d0 : pd (stA u n g n).1 = 0 := by have := h3.1.1; omega
      have := h5 d0
      by_cases k0 : (pt (stA u n g n).1).1 = 0
      · exact k0
      · have := b5 k0; omega
/-- one who was told of and is not there -/
def msB (D : Dr) (c j : Nat) : Bool := decide (((D j).1 = 3 ∨ (D j).1 = 4) ∧ (c ≤ (D j).2.1 ∨ c ≤ (D j).2.2.1))
def msA (A : As) : Bool := (fst1 (msB A.2.2 (cnK A.2.2 0 A.2.1)) A.2.1).isSome
theorem okD_k34 : ∀ k, k < 7 → (k = 3 ∨ k = 4) → 1 < lnN (sgN 0 k) := by decide +kernel
theorem C_cellR {S : Sk} {a : Nat} {m : Mm} {N L j q : Nat} {v : Int32} (h1 : mI m a 1 = nI N) (hL : (sK S (a + 1)).2 = L) (hN : 4 * N ≤ L) (hb : L < 100000) (hj : j < N) (hq : q < 4) (hv : mI m (a + 1) (j * 4 + q) = v) : m_X6_cell S a (nI j) (nI q) m = some v := by
  unfold m_X6_cell
  rw [if_neg (by rw [show (0 : Int32) = nI 0 from rfl, n_lt (by omega) (by decide)]; omega), h1, if_neg (by rw [n_le (by omega) (by omega)]; omega), if_neg (by rw [show (0 : Int32) = nI 0 from rfl, n_lt (by omega) (by decide)]; omega), if_pos (by rw [show (4 : Int32) = nI 4 from rfl, n_lt (by omega) (by decide)]; exact hq), show (4 : Int32) = nI 4 from rfl, n_mul, nI_add, hL, n_grd (by omega) (by omega), n_ix (by omega), hv]
theorem C_missing {u : Nat → Nat} {n : Nat} {A : As} {S : Sk} {m : Mm} (hS : Lay S) (h : CA u n 0 A S m) (ga : GA u n 0 A) (h0 : pd A.1 = 0) (f0 : pf A.1 = 0) : m_X5_someoneIsMissing S m = some (b2 (msA A)) := by
  obtain ⟨c1, c2, c3, c4, c5⟩ := h
  obtain ⟨o1, o2, o3⟩ := ga.2.2.2 h0 f0
  have n6 := c1.1.1
  have gb := GT_b ga.1.2.2.1
  have g6 := ga.2.2.1 rfl
  have eN : min A.2.1 100 = A.2.1 := by omega
  rw [eN] at c3 c4
  have L9 : (sK S (8 + 1)).2 = 400 := by rw [hS.2.1 9 (by decide)]; rfl
  have cl : ∀ j q, j < A.2.1 → q < 4 → m_X6_cell S 8 (nI j) (nI q) m = some (enX 0 (A.2.2 j) q) := fun j q hj hq => C_cellR c3 L9 (by omega) (by decide) hj hq (c4 j q hj hq)
  have c50 := c5 0 (by decide)
  have ob := (o1 rfl).1
  have bd : ∀ j, j < A.2.1 → m_X5_someoneIsMissing_b9 m S (nI j) = if msB A.2.2 (cnK A.2.2 0 A.2.1) j = true then some (.inr (.inr 1)) else some (.inl (nI (j + 1))) := by
    intro j hj
    obtain ⟨d1, d2, d3, d4⟩ := o3 j hj
    unfold m_X5_someoneIsMissing_b9
    rw [c3, if_neg (by rw [n_le (by omega) (by omega)]; omega), show (0 : Int32) = nI 0 from rfl, cl j 0 hj (by decide), ob_s, enX_0]
    unfold msB
    by_cases k34 : (A.2.2 j).1 = 3 ∨ (A.2.2 j).1 = 4
    · have l1 := okD_k34 _ d1 k34
      have x0 := d3 0 (by omega)
      have x1 := d3 1 l1
      have s3 := (sgN_eq 0 (by decide) _ d1).2.2.1
      have y0 := (hiN_eq (sgN 0 (A.2.2 j).1) s3 0 (by decide)).2
      have y1 := (hiN_eq (sgN 0 (A.2.2 j).1) s3 1 (by decide)).2
      have x0 : (A.2.2 j).2.1 ≤ 9 := Nat.le_trans x0 y0
      have x1 : (A.2.2 j).2.2.1 ≤ 9 := Nat.le_trans x1 y1
      have e1 : (if nI (A.2.2 j).1 = 3 then (1 : Int32) else (if nI (A.2.2 j).1 = 4 then 1 else 0)) = 1 := by
        rcases k34 with q | q
        · rw [if_pos (by rw [q]; rfl)]
        · rw [if_pos (show nI (A.2.2 j).1 = 4 by rw [q]; rfl), ite_self]
      rw [show nI 0 = (0 : Int32) from rfl, e1, if_neg (by decide), show (1 : Int32) = nI 1 from rfl, cl j 1 hj (by decide), ob_s, enX_1, if_pos (show 0 < lnN (sgN 0 (A.2.2 j).1) by omega), ix0, c50]
      by_cases q0 : cnK A.2.2 0 A.2.1 ≤ (A.2.2 j).2.1
      · rw [if_pos (by rw [n_le (by omega) (by omega)]; exact q0), bs_r, if_pos (decide_eq_true ⟨k34, Or.inl q0⟩)]
      · rw [if_neg (by rw [n_le (by omega) (by omega)]; exact q0), show (2 : Int32) = nI 2 from rfl, cl j 2 hj (by decide), ob_s, enX_2, if_pos l1]
        by_cases q1 : cnK A.2.2 0 A.2.1 ≤ (A.2.2 j).2.2.1
        · rw [if_neg (by rw [n_lt (by omega) (by omega)]; omega), bs_r, if_pos (decide_eq_true ⟨k34, Or.inr q1⟩)]
        · rw [if_pos (by rw [n_lt (by omega) (by omega)]; omega), bs_l, if_neg (by rw [decide_eq_true_eq]; rintro ⟨_, q | q⟩ <;> omega), nI_add]
    · have e1 : (if nI (A.2.2 j).1 = 3 then (1 : Int32) else (if nI (A.2.2 j).1 = 4 then 1 else 0)) = 0 := by
        rw [if_neg (by rw [show (3 : Int32) = nI 3 from rfl, n_eq (by omega) (by decide)]; exact fun q => k34 (Or.inl q)), if_neg (by rw [show (4 : Int32) = nI 4 from rfl, n_eq (by omega) (by decide)]; exact fun q => k34 (Or.inr q))]
      rw [show nI 0 = (0 : Int32) from rfl, e1, if_pos rfl, bs_l, if_neg (by rw [decide_eq_true_eq]; exact fun q => k34 q.1), show (1 : Int32) = nI 1 from rfl, nI_add]
  have lp : whileF FU (m_X5_someoneIsMissing_b9 m S) 0 = some (match fst1 (msB A.2.2 (cnK A.2.2 0 A.2.1)) A.2.1 with | some _ => (Sum.inr 1 : Unit ⊕ Int32) | none => Sum.inl ()) := by
    refine loop_fst (fun i => nI i) _ A.2.1 (fun _ => (Sum.inr 1 : Unit ⊕ Int32)) (Sum.inl ()) rfl (FU_big (by omega)) (fun i hi hp => ?_) (fun i hi hp => ?_) ?_
    · rw [bd i hi, if_neg (by rw [hp]; decide)]
    · rw [bd i hi, if_pos hp]
    · unfold m_X5_someoneIsMissing_b9
      rw [c3, if_pos (by rw [n_le (by omega) (by omega)]; omega)]
  unfold m_X5_someoneIsMissing msA
  cases hq : fst1 (msB A.2.2 (cnK A.2.2 0 A.2.1)) A.2.1 with
  | none =>
    rw [lp, hq]
    show bS (some (Sum.inl ())) _ = _
    rw [bs_l]; rfl
  | some k =>
    rw [lp, hq]
    show bS (some (Sum.inr 1)) _ = _
    rw [bs_r]; rfl
/-- the fault of a text and its place -/
def ftA (g : Nat) (A : As) : Nat := if pd A.1 = 1 then 1 else if pf A.1 = 0 then (if g = 0 ∧ msA A = true then 4 else 0) else pf A.1
def plA (n g : Nat) (A : As) : Int32 := if pd A.1 = 1 then nI (pt A.1).2.1 else if pf A.1 = 0 then (if g = 0 ∧ msA A = true then nI n else -1) else nI (pq A.1)
abbrev raL : List (Nat × Option Nat) := [(7, none), (8, some 1), (9, none), (10, none), (11, none)]
theorem agx_of {L1 L2 : List (Nat × Option Nat)} {m m' : Mm} (hs : ∀ p j, covB L2 p j = false → covB L1 p j = false) (h : agx L1 m m') : agx L2 m m' := fun p j hp => h p j (hs p j hp)
theorem ra_of {L : List (Nat × Option Nat)} (h : L.all (fun e => decide (e.1 = 7) || raL.contains e) = true) : ∀ p j, covB raL p j = false → covB L p j = false := by
  intro p j hp
  cases h1 : covB L p j with
  | false => rfl
  | true =>
    exfalso
    obtain ⟨e, he, h2⟩ := List.any_eq_true.mp h1
    have h3 := List.all_eq_true.mp h e he
    rw [Bool.or_eq_true] at h3
    rcases h3 with h3 | h3
    · rw [decide_eq_true_eq] at h3
      rw [Bool.and_eq_true] at h2
      have : p = 7 := by have := h2.1; rw [h3] at this; exact (eq_of_beq this).symm
      rw [this] at hp
      cases hp
    · have h4 : e ∈ raL := by simpa using h3
      have : covB raL p j = true := List.any_eq_true.mpr ⟨e, h4, h2⟩
      rw [this] at hp
      cases hp
theorem C_read {u : Nat → Nat} {n g : Nat} {S : Sk} {m : Mm} (hS : SI S) (hg : g < 4) (hn : n ≤ 600) (hu : ∀ i, u i < 256) (hb : ∀ i, i < n → mI m 2 i = sb (u i)) : ∃ m' i, m_X5_read S (nI n) (nI g) m = some (sRs S 7 5 (some 2), m') ∧ enA u n g i ∧ mI m' 7 1 = nI (ftA g (stA u n g i)) ∧ mI m' 7 2 = plA n g (stA u n g i) ∧ (ftA g (stA u n g i) = 0 → CA u n g (stA u n g i) (sRs S 7 5 (some 2)) m') ∧ agx raL m m' := by
  have hS' : SI (sRs S 7 5 (some 2)) := SI_s hS (by decide) (by rw [hS.1.2.1 7 (by decide)]; decide)
  unfold m_X5_read
  rw [gP_pos hS'.1, show (600 : Int32) = nI 600 from rfl, n_min (by omega) (by decide), show min n 600 = n by omega]
  have k0 : ∃ p3, whileF FU m_X5_read_b41 (0, (sI (sI (sI (sI (sI m 7 6 (nI n)) 7 7 (nI g)) 7 1 0) 7 2 (-1)) 8 1 0)) = some p3 ∧ (∀ k, k < 7 → mI p3 10 k = nI 0) ∧ agx [(10, none)] (sI (sI (sI (sI (sI m 7 6 (nI n)) 7 7 (nI g)) 7 1 0) 7 2 (-1)) 8 1 0) p3 := by
    refine loop_inv (body := m_X5_read_b41) (fun i z => z.1 = nI i ∧ (∀ k, k < i → mI z.2 10 k = nI 0) ∧ agx [(10, none)] (sI (sI (sI (sI (sI m 7 6 (nI n)) 7 7 (nI g)) 7 1 0) 7 2 (-1)) 8 1 0) z.2) (fun p3 => (∀ k, k < 7 → mI p3 10 k = nI 0) ∧ agx [(10, none)] (sI (sI (sI (sI (sI m 7 6 (nI n)) 7 7 (nI g)) 7 1 0) 7 2 (-1)) 8 1 0) p3) 7 (FU_big (by decide)) ⟨rfl, fun k hk => by omega, agx_rf _⟩ ?_ ?_
    · rintro i ⟨z1, z⟩ hi ⟨h1, h2, h3⟩
      simp only at h1 h2 h3
      subst h1
      left
      unfold m_X5_read_b41
      simp only
      rw [if_neg (by rw [show (7 : Int32) = nI 7 from rfl, n_le (by decide) (by omega)]; omega), n_grd (by omega) (by decide), n_ix (by omega)]
      refine ⟨_, rfl, by show nI i + 1 = nI (i + 1); rw [show (1 : Int32) = nI 1 from rfl, nI_add], fun k hk => ?_, agx_wr h3 (by rfl)⟩
      show mI (sI z 10 i 0) 10 k = nI 0
      by_cases ek : k = i
      · rw [ek, rdI_eq]; rfl
      · rw [rdI_nj _ _ _ _ ek]; exact h2 k (by omega)
    · rintro ⟨z1, z⟩ ⟨h1, h2, h3⟩
      simp only at h1 h2 h3
      subst h1
      exact ⟨z, rfl, h2, h3⟩
  obtain ⟨p3, e3, z3, a3⟩ := k0
  have b3 : agx raL m p3 := agx_tr (agx_wr (agx_wr (agx_wr (agx_wr (agx_wr (agx_rf _) (by rfl)) (by rfl)) (by rfl)) (by rfl)) (by rfl)) (agx_mono (by rfl) a3)
  have t3 : TPC u n (sRs S 7 5 (some 2)) (sI p3 7 10 0) := by
    refine TPC_wr ⟨hn, hu, by rw [rdR, if_pos ⟨rfl, rfl⟩], ?_, fun i hi => ?_⟩ (by decide) (fun _ => by decide) _
    · rw [(a3 7 6 (by rfl)).1, rdI_ne _ _ _ _ (by decide), rdI_nj _ _ _ _ (by decide), rdI_nj _ _ _ _ (by decide), rdI_nj _ _ _ _ (by decide), rdI_eq]
    · rw [(b3 2 i (by rfl)).1]; exact hb i hi
  rw [e3, ob_s]
  obtain ⟨m4, e4, _, k4, t4, a4⟩ := C_tok t3 (pos := 0) (Nat.zero_le _) (by rw [rdI_eq]; rfl)
  rw [e4, ob_s]
  have a34 : ∀ p j, covB ctL p j = false → (p = 7 → j ≠ 10) → mI m4 p j = mI p3 p j := fun p j h1 h2 => by
    rw [(a4 p j h1).1, rdI, if_neg]
    rintro ⟨rfl, rfl⟩
    exact h2 rfl rfl
  have c4 : CA u n g (stA u n g 0) (sRs S 7 5 (some 2)) m4 := by
    refine ⟨⟨t4, k4, fun q => absurd q (show ¬ (0 : Nat) = 1 by decide), fun _ => ⟨?_, ?_⟩⟩, ?_, ?_, fun j q hj => ?_, fun k hk => ?_⟩
    · rw [a34 7 1 (by rfl) (by decide), (a3 7 1 (by rfl)).1, rdI_ne _ _ _ _ (by decide), rdI_nj _ _ _ _ (by decide), rdI_eq]; rfl
    · rw [a34 7 2 (by rfl) (by decide), (a3 7 2 (by rfl)).1, rdI_ne _ _ _ _ (by decide), rdI_eq]; rfl
    · rw [a34 7 7 (by rfl) (by decide), (a3 7 7 (by rfl)).1, rdI_ne _ _ _ _ (by decide), rdI_nj _ _ _ _ (by decide), rdI_nj _ _ _ _ (by decide), rdI_eq]
    · rw [a34 8 1 (by rfl) (by decide), (a3 8 1 (by rfl)).1, rdI_eq]; rfl
    · have : j < min 0 100 := hj
      omega
    · rw [a34 10 k (by rfl) (by omega), z3 k hk]; rfl
  have b4 : agx raL m m4 := agx_tr (agx_wr b3 (by rfl)) (agx_of (ra_of (by rfl)) a4)
  obtain ⟨m5, e5, i, ei, c5, a5⟩ := C_lines hg c4
  have b5 : agx raL m m5 := agx_tr b4 (agx_of (ra_of (by rfl)) a5)
  rw [e5, ob_s]
  have gi := ei.2.2
  have c5' := c5
  obtain ⟨x1, x2, x3, x4, x5⟩ := c5'
  by_cases d1 : pd (stA u n g i).1 = 1
  · obtain ⟨y1, y2⟩ := x1.2.2.1 d1
    have f1 : ftA g (stA u n g i) = 1 := by unfold ftA; rw [if_pos d1]
    refine ⟨m5, i, by rw [if_neg (by rw [y1]; decide)], ei, by rw [f1]; exact y1, ?_, fun q => by omega, b5⟩
    rw [y2]; unfold plA; rw [if_pos d1]
  · have d0 : pd (stA u n g i).1 = 0 := by have := gi.1.1; omega
    obtain ⟨y1, y2⟩ := x1.2.2.2 d0
    have p3' := gi.1.2.1
    by_cases f0 : pf (stA u n g i).1 = 0
    · rw [if_pos (by rw [y1, f0]; rfl), x2]
      rw [if_pos f0] at y2
      rw [f0] at y1
      by_cases g0 : g = 0
      · subst g0
        rw [if_pos (by rfl), gP_pos hS', C_missing hS'.1 c5 gi d0 f0, ob_s]
        cases hm : msA (stA u n 0 i) with
        | false =>
          have f1 : ftA 0 (stA u n 0 i) = 0 := by unfold ftA; rw [if_neg d1, if_pos f0, hm, if_neg (by decide)]
          refine ⟨m5, i, by rw [if_pos i2f], ei, by rw [f1]; exact y1, ?_, fun _ => c5, b5⟩
          rw [y2]; unfold plA; rw [if_neg d1, if_pos f0, hm, if_neg (by decide)]
        | true =>
          have f1 : ftA 0 (stA u n 0 i) = 4 := by unfold ftA; rw [if_neg d1, if_pos f0, hm, if_pos ⟨rfl, rfl⟩]
          refine ⟨_, i, by rw [if_neg i2t], ei, ?_, ?_, fun q => by omega, agx_tr b5 (agx_of (ra_of (by rfl)) fr_X5_note)⟩
          · rw [f1]; unfold m_X5_note
            rw [if_pos (show mI m5 7 1 = 0 from y1), rdI_nj _ _ _ _ (by decide), rdI_eq]; rfl
          · unfold m_X5_note plA
            rw [if_pos (show mI m5 7 1 = 0 from y1), rdI_eq, if_neg d1, if_pos f0, hm, if_pos ⟨rfl, rfl⟩]
            exact x1.1.2.2.2.1
      · have f1 : ftA g (stA u n g i) = 0 := by unfold ftA; rw [if_neg d1, if_pos f0, if_neg (fun q => g0 q.1)]
        refine ⟨m5, i, by rw [if_neg (by rw [show (0 : Int32) = nI 0 from rfl, n_eq (by omega) (by decide)]; exact g0)], ei, by rw [f1]; exact y1, ?_, fun _ => c5, b5⟩
        rw [y2]; unfold plA; rw [if_neg d1, if_pos f0, if_neg (fun q => g0 q.1)]
    · have f1 : ftA g (stA u n g i) = pf (stA u n g i).1 := by unfold ftA; rw [if_neg d1, if_neg f0]
      refine ⟨m5, i, by rw [if_neg (by rw [y1, show (0 : Int32) = nI 0 from rfl, n_eq (by omega) (by decide)]; exact f0)], ei, by rw [f1]; exact y1, ?_, fun q => by omega, b5⟩
      rw [y2, if_neg f0]; unfold plA; rw [if_neg d1, if_neg f0]
