/-! L3: tokens as a function; the words of a line -/
abbrev Tk : Type := Nat × Nat × Nat
noncomputable def tkn (u : Nat → Nat) (n pos : Nat) : Tk := @dite _ (∃ t : Tk, tokS u n pos t.1 t.2.1 t.2.2) (Classical.propDecidable _) (fun h => Classical.choose h) (fun _ => (0, n, n))
theorem tkn_eq {u : Nat → Nat} {n pos k s e : Nat} (h : tokS u n pos k s e) : tkn u n pos = (k, s, e) := by
  have hx : ∃ t : Tk, tokS u n pos t.1 t.2.1 t.2.2 := ⟨(k, s, e), h⟩
  unfold tkn
  rw [dif_pos hx]
  have h2 := Classical.choose_spec hx
  obtain ⟨a, b, c⟩ := tokS_one h2 h
  exact Prod.ext a (Prod.ext b c)
def GT (u : Nat → Nat) (n : Nat) (t : Tk) : Prop := ∃ pos, tokS u n pos t.1 t.2.1 t.2.2
def TKC (u : Nat → Nat) (t : Tk) (m : Mm) : Prop := mI m 7 8 = nI t.1 ∧ mI m 7 9 = nI t.2.1 ∧ mI m 7 10 = nI t.2.2 ∧ (t.1 = 2 → mI m 7 11 = nI (nvI u t.2.1 (t.2.2 - t.2.1)))
def TKM (u : Nat → Nat) (t : Tk) (m : Mm) : Prop := mI m 44 13 = nI (kM t.1) ∧ mI m 44 12 = nI t.2.1 ∧ mI m 44 10 = nI t.2.2 ∧ (t.1 = 2 → mI m 44 14 = nI (nvI u t.2.1 (t.2.2 - t.2.1))) ∧ mL m 44 15 = (if t.1 = 1 ∧ t.2.2 - t.2.1 ≤ 8 then pk u t.2.1 (t.2.2 - t.2.1) else 0)
abbrev ctL : List (Nat × Option Nat) := [(7, some 8), (7, some 9), (7, some 10), (7, some 11)]
abbrev tkL : List (Nat × Option Nat) := [(44, some 10), (44, some 12), (44, some 13), (44, some 14), (44, some 15)]
theorem fr_X12_token {mm q : Mm} (e : m_X12_token mm = some q) : agx tkL mm q := by
  unfold m_X12_token at e
  obtain ⟨p2, w1, e⟩ := obind e
  have f1 : agx tkL mm p2 := by
    refine while_fr (Inv := fun z => agx tkL mm z) (Post := fun z => agx tkL mm z) w1 (agx_rf _) ?_
    intro z x eb hz
    unfold m_X12_token_b0 at eb
    obtain ⟨q7, _, eb⟩ := obind eb
    obtain ⟨y, ey, el, er⟩ := bS_some eb
    have key : (∃ a, y = Sum.inl a) ∨ y = Sum.inr (Sum.inr z) := by
      by_cases h : q7 = 10
      · replace ey := ite_t h ey
        cases ey
        exact Or.inl ⟨_, rfl⟩
      · replace ey := ite_f h ey
        obtain ⟨q14, _, ey⟩ := obind ey
        by_cases h2 : q14 = 32
        · replace ey := ite_t h2 ey
          cases ey
          exact Or.inl ⟨_, rfl⟩
        · replace ey := ite_f h2 ey
          cases ey
          exact Or.inr rfl
    rcases key with ⟨a, ha⟩ | ha
    · have h := el a ha
      cases h
      exact ⟨fun s' h => by cases h; exact agx_wr hz (by rfl), fun r h => by cases h⟩
    · have h := er _ ha
      subst h
      exact ⟨fun s' h => (by cases h), fun r h => (by cases h; exact hz)⟩
  obtain ⟨q17, _, e⟩ := obind e
  by_cases h0 : 0 ≤ q17
  · replace e := ite_t h0 e
    by_cases h1 : (m_X12_in q17 97 122) = 0
    · replace e := ite_t h1 e
      by_cases h2 : (m_X12_in q17 48 57) = 0
      · replace e := ite_t h2 e
        by_cases h3 : q17 = 59
        · replace e := ite_t h3 e
          cases e
          exact agx_wr (agx_wr (agx_wl (agx_wr f1 (by rfl)) (by rfl)) (by rfl)) (by rfl)
        · replace e := ite_f h3 e
          cases e
          exact agx_wr (agx_wr (agx_wl (agx_wr f1 (by rfl)) (by rfl)) (by rfl)) (by rfl)
      · replace e := ite_f h2 e
        obtain ⟨p, w2, e⟩ := obind e
        cases e
        refine agx_wr ?_ (by rfl)
        refine while_fr (Inv := fun z => agx tkL mm z.2) (Post := fun z => agx tkL mm z.2) w2 (agx_wr (agx_wl (agx_wr f1 (by rfl)) (by rfl)) (by rfl)) ?_
        intro z x eb hz
        unfold m_X12_token_b163 at eb
        obtain ⟨q29, _, eb⟩ := obind eb
        by_cases h4 : (m_X12_in q29 48 57) = 0
        · replace eb := ite_t h4 eb
          cases eb
          exact ⟨fun s' h => (by cases h), fun r h => (by cases h; exact hz)⟩
        · replace eb := ite_f h4 eb
          obtain ⟨p32, _, eb⟩ := obind eb
          cases eb
          exact ⟨fun s' h => by cases h; exact agx_wr (agx_wr hz (by rfl)) (by rfl), fun r h => by cases h⟩
    · replace e := ite_f h1 e
      obtain ⟨p, w2, e⟩ := obind e
      cases e
      refine agx_wr (agx_wl ?_ (by rfl)) (by rfl)
      refine while_fr (Inv := fun z => agx tkL mm z.2) (Post := fun z => agx tkL mm z.2) w2 (agx_wl (agx_wr f1 (by rfl)) (by rfl)) ?_
      intro z x eb hz
      unfold m_X12_token_b74 at eb
      obtain ⟨q29, _, eb⟩ := obind eb
      by_cases h4 : (m_X12_in q29 97 122) = 0
      · replace eb := ite_t h4 eb
        cases eb
        exact ⟨fun s' h => (by cases h), fun r h => (by cases h; exact hz)⟩
      · replace eb := ite_f h4 eb
        obtain ⟨p32, _, eb⟩ := obind eb
        cases eb
        exact ⟨fun s' h => by cases h; exact agx_wr (agx_wl hz (by rfl)) (by rfl), fun r h => by cases h⟩
  · replace e := ite_f h0 e
    cases e
    exact agx_wr (agx_wl (agx_wr f1 (by rfl)) (by rfl)) (by rfl)
theorem C_tok {u : Nat → Nat} {n : Nat} {S : Sk} {m : Mm} (h : TPC u n S m) {pos : Nat} (hp : pos ≤ n) (h10 : mI m 7 10 = nI pos) : ∃ m', m_X5_nextToken S m = some m' ∧ tokS u n pos (tkn u n pos).1 (tkn u n pos).2.1 (tkn u n pos).2.2 ∧ TKC u (tkn u n pos) m' ∧ TPC u n S m' ∧ agx ctL m m' := by
  obtain ⟨m', k, s, e, e1, t1, a8, a9, a10, a11, tp⟩ := C_token h hp h10
  rw [tkn_eq t1]
  exact ⟨m', e1, t1, ⟨a8, a9, a10, a11⟩, tp, fr_X5_nextToken e1⟩
theorem M_tok {u : Nat → Nat} {n : Nat} {m : Mm} (h : TPM u n m) {pos : Nat} (hp : pos ≤ n) (h10 : mI m 44 10 = nI pos) : ∃ m', m_X12_token m = some m' ∧ tokS u n pos (tkn u n pos).1 (tkn u n pos).2.1 (tkn u n pos).2.2 ∧ TKM u (tkn u n pos) m' ∧ TPM u n m' ∧ agx tkL m m' := by
  obtain ⟨m', k, s, e, e1, t1, a13, a12, a10, a14, a15, tp⟩ := M_token h hp h10
  rw [tkn_eq t1]
  exact ⟨m', e1, t1, ⟨a13, a12, a10, a14, a15⟩, tp, fr_X12_token e1⟩
theorem tokS_lt {u : Nat → Nat} {n pos k s e : Nat} (h : tokS u n pos k s e) (hk : k ≠ 0) : s < e := by
  have sk : ∀ {P : Nat → Bool}, s < n → P s = true → skS P n s e → s < e := by
    intro P h1 h2 h3
    rcases Nat.lt_or_ge s e with h | h
    · exact h
    · exfalso
      have he : e = s := Nat.le_antisymm h h3.1
      rcases h3.2.2.2 with q | q
      · omega
      · rw [he, h2] at q; cases q
  obtain ⟨_, h3⟩ := h
  rcases h3 with ⟨a1, a2, a3⟩ | ⟨a1, a2, a3, a4⟩ | ⟨a1, a2, a3, a4⟩ | ⟨a1, a2, a3, a4, a5⟩
  · exact absurd a2 hk
  · exact sk a1 a2 a4
  · exact sk a1 a2 a3
  · omega
theorem tokS_w {u : Nat → Nat} {n pos k s e : Nat} (h : tokS u n pos k s e) (hk : k = 1) : skS (lt u) n s e := by
  obtain ⟨_, h3⟩ := h
  rcases h3 with ⟨a1, a2, a3⟩ | ⟨a1, a2, a3, a4⟩ | ⟨a1, a2, a3, a4⟩ | ⟨a1, a2, a3, a4, a5⟩
  · omega
  · exact a4
  · rw [a4] at hk; split at hk <;> omega
  · rw [a5] at hk; split at hk <;> omega
def lnN (a : Nat) : Nat := sLen.getD (a - 1) 0
def cyN (a i : Nat) : Nat := ((sByt.getD (a - 1) []).getD i 0).toNatClampNeg
theorem slen_eq : ∀ a, a < 24 → 1 ≤ a → m_slen a = some (nI (lnN a)) := by decide +kernel
theorem schar_eq : ∀ a, a < 24 → 1 ≤ a → ∀ i, i < 6 → i < lnN a → m_schar a (nI i) = some (nI (cyN a i)) := by decide +kernel
theorem chN_b : ∀ a, a < 24 → ∀ i, i < 6 → cyN a i < 128 := by decide +kernel
theorem chN_1 : ∀ a, a < 24 → ∀ i, i < 6 → i < lnN a → 1 ≤ cyN a i := by decide +kernel
theorem lnN_b : ∀ a, a < 24 → lnN a ≤ 6 := by decide +kernel
def isWb (u : Nat → Nat) (s e a : Nat) : Bool := decide (e - s = lnN a ∧ ∀ i, i < lnN a → u (s + i) = cyN a i)
theorem C_isWord {u : Nat → Nat} {n : Nat} {S : Sk} {m : Mm} (h : TPC u n S m) {s e a : Nat} (ha : a < 24) (h1 : 1 ≤ a) (hse : s ≤ e) (hen : e ≤ n) (hl : ∀ j, s ≤ j → j < e → lt u j = true) (h9 : mI m 7 9 = nI s) (h10 : mI m 7 10 = nI e) : m_X5_isWord S a m = some (b2 (isWb u s e a)) := by
  have n6 := h.1
  have ln := lnN_b a ha
  unfold m_X5_isWord
  rw [slen_eq a ha h1, ob_s, h9, h10, n_sub hse]
  by_cases q : lnN a = e - s
  · rw [if_pos (by rw [q])]
    have bd : ∀ i, i < lnN a → m_X5_isWord_b20 a m S (nI i) = if u (s + i) = cyN a i then some (.inl (nI (i + 1))) else some (.inr (.inr 0)) := by
      intro i hi
      have hL := hl (s + i) (by omega) (by omega)
      unfold lt at hL
      rw [decide_eq_true_eq] at hL
      have hc := chN_b a ha i (by omega)
      unfold m_X5_isWord_b20
      rw [slen_eq a ha h1, ob_s, if_neg (by rw [n_le (by omega) (by omega)]; omega), gR_pos h.2.2.1, h9, nI_add, n_grd (by omega) (by decide), schar_eq a ha h1 i (by omega) hi, ob_s, n_ix (by omega), h.2.2.2.2 _ (by omega), show sb (u (s + i)) = nI (u (s + i)) by unfold sb; rw [if_pos (by omega)]]
      by_cases w : u (s + i) = cyN a i
      · rw [if_pos w, if_pos (by rw [w]), show (1 : Int32) = nI 1 from rfl, nI_add]
      · rw [if_neg w, if_neg (by rw [n_eq (by omega) (by omega)]; exact w)]
    have lp : whileF FU (m_X5_isWord_b20 a m S) 0 = some (match fst1 (fun i => !decide (u (s + i) = cyN a i)) (lnN a) with | some _ => (Sum.inr 0 : Unit ⊕ Int32) | none => Sum.inl ()) := by
      refine loop_fst (fun i => nI i) _ (lnN a) (fun _ => (Sum.inr 0 : Unit ⊕ Int32)) (Sum.inl ()) rfl (FU_big (by omega)) (fun i hi hp => ?_) (fun i hi hp => ?_) ?_
      · rw [bd i hi, if_pos (by simpa using hp)]
      · rw [bd i hi, if_neg (by simpa using hp)]
      · unfold m_X5_isWord_b20
        rw [slen_eq a ha h1, ob_s, if_pos (by rw [n_le (by omega) (by omega)]; omega)]
    cases hq : fst1 (fun i => !decide (u (s + i) = cyN a i)) (lnN a) with
    | none =>
      have hn := fst1_none.mp hq
      have e1 : isWb u s e a = true := decide_eq_true ⟨q.symm, fun i hi => by have := hn i hi; simpa using this⟩
      rw [lp, hq, e1]
      show bS (some (Sum.inl ())) _ = _
      rw [bs_l]; rfl
    | some k =>
      obtain ⟨k1, k2, _⟩ := fst1_some.mp hq
      have e1 : isWb u s e a = false := decide_eq_false (fun w => by have := w.2 k k1; simp [this] at k2)
      rw [lp, hq, e1]
      show bS (some (Sum.inr 0)) _ = _
      rw [bs_r]; rfl
  · rw [if_neg (fun w => q (by rwa [n_eq (by omega) (by omega)] at w))]
    have e1 : isWb u s e a = false := decide_eq_false (fun w => q w.1.symm)
    rw [e1]; rfl
def tw (u : Nat → Nat) (t : Tk) : Nat := if t.1 = 1 then (match fst1 (fun a => isWb u t.2.1 t.2.2 (a + 1)) 16 with | some k => k + 1 | none => 0) else 0
def sameW (a b : Nat) : Bool := decide (lnN a = lnN b) && (List.range 6).all (fun i => decide (lnN a ≤ i) || decide (cyN a i = cyN b i))
theorem wd_one : ∀ a, a < 17 → 1 ≤ a → ∀ b, b < 17 → 1 ≤ b → sameW a b = true → a = b := by decide +kernel
theorem isW_one {u : Nat → Nat} {s e a b : Nat} (ha : a < 17) (ha1 : 1 ≤ a) (hb : b < 17) (hb1 : 1 ≤ b) (x : isWb u s e a = true) (y : isWb u s e b = true) : a = b := by
  unfold isWb at x y
  rw [decide_eq_true_eq] at x y
  refine wd_one a ha ha1 b hb hb1 ?_
  unfold sameW
  rw [Bool.and_eq_true, List.all_eq_true]
  refine ⟨decide_eq_true (by rw [← x.1, ← y.1]), fun i _ => ?_⟩
  rw [Bool.or_eq_true, decide_eq_true_eq, decide_eq_true_eq]
  by_cases hi : lnN a ≤ i
  · exact Or.inl hi
  · right
    rw [← x.2 i (by omega), ← y.2 i (by rw [← y.1, x.1]; omega)]
theorem tw_iff {u : Nat → Nat} {t : Tk} (h1 : t.1 = 1) {a : Nat} (ha : a < 17) (h0 : 1 ≤ a) : (isWb u t.2.1 t.2.2 a = true) ↔ tw u t = a := by
  unfold tw
  rw [if_pos h1]
  cases hq : fst1 (fun a => isWb u t.2.1 t.2.2 (a + 1)) 16 with
  | none =>
    have this : isWb u t.2.1 t.2.2 (a - 1 + 1) = false := fst1_none.mp hq (a - 1) (by omega)
    rw [show a - 1 + 1 = a by omega] at this
    constructor
    · intro x; rw [this] at x; cases x
    · intro x
      have x : 0 = a := x
      omega
  | some k =>
    obtain ⟨k1, k2, _⟩ := fst1_some.mp hq
    constructor
    · intro x
      show k + 1 = a
      exact isW_one (by omega) (by omega) ha h0 k2 x
    · intro x
      have x : k + 1 = a := x
      rw [← x]; exact k2
theorem tw_0 {u : Nat → Nat} {t : Tk} (h1 : t.1 ≠ 1) : tw u t = 0 := by
  unfold tw; rw [if_neg h1]
theorem tw_b {u : Nat → Nat} {t : Tk} (hl : t.1 = 1 → t.2.1 < t.2.2) : tw u t < 17 ∧ tw u t ≠ 6 ∧ (tw u t ≠ 0 → t.1 = 1 ∧ t.2.2 - t.2.1 = lnN (tw u t)) := by
  by_cases h1 : t.1 = 1
  · have hb : tw u t < 17 := by
      unfold tw
      rw [if_pos h1]
      cases hq : fst1 (fun a => isWb u t.2.1 t.2.2 (a + 1)) 16 with
      | none => decide
      | some k =>
        obtain ⟨k1, k2, _⟩ := fst1_some.mp hq
        show k + 1 < 17
        omega
    have hx : tw u t ≠ 0 → t.2.2 - t.2.1 = lnN (tw u t) := by
      intro h0
      have := (tw_iff (u := u) h1 hb (by omega)).mpr rfl
      unfold isWb at this
      rw [decide_eq_true_eq] at this
      exact this.1
    refine ⟨hb, fun h6 => ?_, fun h0 => ⟨h1, hx h0⟩⟩
    have := hx (by omega)
    rw [h6] at this
    have l6 : lnN 6 = 0 := by decide
    have := hl h1
    omega
  · rw [tw_0 h1]
    exact ⟨by decide, by decide, fun h => absurd rfl h⟩
noncomputable def wN (g k : Nat) : Nat := (m_X5_wordOf (nI g) (nI k)).getD 0
theorem wN_eq : ∀ g, g < 4 → ∀ k, k < 7 → m_X5_wordOf (nI g) (nI k) = some (wN g k) ∧ 1 ≤ wN g k ∧ wN g k < 17 := by decide +kernel
noncomputable def kdA (g w : Nat) : Nat := match fst1 (fun k => decide (w = wN g k)) 7 with | some k => k | none => 7
theorem kdA_0 : ∀ g, g < 4 → kdA g 0 = 7 := by decide +kernel
theorem kdA_b : ∀ g, g < 4 → ∀ w, w < 17 → kdA g w ≤ 7 := by decide +kernel
theorem C_kind {u : Nat → Nat} {n : Nat} {S : Sk} {m : Mm} (h : TPC u n S m) {t : Tk} (ht : TKC u t m) (gt : GT u n t) {g : Nat} (hg : g < 4) (h7 : mI m 7 7 = nI g) : m_X5_kindOfWord S m = some (if kdA g (tw u t) = 7 then -1 else nI (kdA g (tw u t))) := by
  obtain ⟨pos, gt⟩ := gt
  obtain ⟨b1, b2', b3, b4, b5, b6⟩ := tokS_k gt
  unfold m_X5_kindOfWord
  rw [ht.1]
  by_cases k1 : t.1 = 1
  · rw [if_pos (by rw [k1]; rfl)]
    have sw := tokS_w gt k1
    have bd : ∀ i, i < 7 → m_X5_kindOfWord_b12 m S (nI i) = if tw u t = wN g i then some (.inr (.inr (nI i))) else some (.inl (nI (i + 1))) := by
      intro i hi
      obtain ⟨w1, w2, w3⟩ := wN_eq g hg i hi
      unfold m_X5_kindOfWord_b12
      rw [if_neg (by rw [show (7 : Int32) = nI 7 from rfl, n_le (by decide) (by omega)]; omega), h7, w1, ob_s, C_isWord h (by omega) w2 b3 b4 sw.2.2.1 ht.2.1 ht.2.2.1, ob_s]
      cases hw : isWb u t.2.1 t.2.2 (wN g i) with
      | true =>
        rw [if_pos ((tw_iff k1 w3 w2).mp hw), if_neg i2t]
      | false =>
        rw [if_pos i2f, if_neg (fun q : tw u t = wN g i => by rw [(tw_iff k1 w3 w2).mpr q] at hw; cases hw), show (1 : Int32) = nI 1 from rfl, nI_add]
    have lp : whileF FU (m_X5_kindOfWord_b12 m S) 0 = some (match fst1 (fun k => decide (tw u t = wN g k)) 7 with | some k => (Sum.inr (nI k) : Unit ⊕ Int32) | none => Sum.inl ()) := by
      refine loop_fst (fun i => nI i) _ 7 (fun k => (Sum.inr (nI k) : Unit ⊕ Int32)) (Sum.inl ()) rfl (FU_big (by decide)) (fun i hi hp => ?_) (fun i hi hp => ?_) ?_
      · rw [bd i hi, if_neg (by simpa using hp)]
      · rw [bd i hi, if_pos (by simpa using hp)]
      · rfl
    cases hq : fst1 (fun k => decide (tw u t = wN g k)) 7 with
    | none =>
      have hk : kdA g (tw u t) = 7 := by unfold kdA; rw [hq]
      rw [lp, hq, hk]
      show bS (some (Sum.inl ())) _ = _
      rw [bs_l]; rfl
    | some k =>
      obtain ⟨q1, _, _⟩ := fst1_some.mp hq
      have hk : kdA g (tw u t) = k := by unfold kdA; rw [hq]
      rw [lp, hq, hk, if_neg (by omega)]
      show bS (some (Sum.inr (nI k))) _ = _
      rw [bs_r]
  · rw [if_neg (fun q => k1 (by rwa [show (1 : Int32) = nI 1 from rfl, n_eq (by omega) (by decide)] at q)), tw_0 k1, kdA_0 g hg]; rfl
