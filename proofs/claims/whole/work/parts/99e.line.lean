/-! L3: a line, as numbers -/
theorem sk_ex (P : Nat → Bool) (n : Nat) : ∀ d pos, pos + d = n → ∃ e, skS P n pos e
  | 0, pos, h => ⟨n, by omega, Nat.le_refl _, fun j h1 h2 => by omega, Or.inl rfl⟩
  | d + 1, pos, h => by
    cases hp : P pos with
    | false => exact ⟨pos, Nat.le_refl _, by omega, fun j h1 h2 => by omega, Or.inr hp⟩
    | true =>
      obtain ⟨e, e1, e2, e3, e4⟩ := sk_ex P n d (pos + 1) (by omega)
      refine ⟨e, by omega, e2, fun j h1 h2 => ?_, e4⟩
      by_cases ej : j = pos
      · rw [ej]; exact hp
      · exact e3 j (by omega) h2
theorem tkn_ok {u : Nat → Nat} {n pos : Nat} (h : pos ≤ n) : tokS u n pos (tkn u n pos).1 (tkn u n pos).2.1 (tkn u n pos).2.2 := by
  have key : ∃ k s e, tokS u n pos k s e := by
    obtain ⟨s, hs⟩ := sk_ex (bk u) n (n - pos) pos (by omega)
    have s2 := hs.2.1
    by_cases h1 : s = n
    · exact ⟨0, s, n, hs, Or.inl ⟨h1, rfl, rfl⟩⟩
    · cases hl : lt u s with
      | true =>
        obtain ⟨e, he⟩ := sk_ex (lt u) n (n - s) s (by omega)
        exact ⟨1, s, e, hs, Or.inr (Or.inl ⟨by omega, hl, rfl, he⟩)⟩
      | false =>
        cases hd : dg u s with
        | true =>
          obtain ⟨e, he⟩ := sk_ex (dg u) n (n - s) s (by omega)
          exact ⟨_, s, e, hs, Or.inr (Or.inr (Or.inl ⟨by omega, hd, he, rfl⟩))⟩
        | false => exact ⟨_, s, s + 1, hs, Or.inr (Or.inr (Or.inr ⟨by omega, hl, hd, rfl, rfl⟩))⟩
  obtain ⟨k, s, e, hk⟩ := key
  rw [tkn_eq hk]; exact hk
theorem nvI_b {u : Nat → Nat} (hu : ∀ i, u i < 256) (s i : Nat) : nvI u s i < 3000 := by
  have h1 := hu s
  have h2 := hu (s + 1)
  unfold nvI
  split
  · omega
  · split <;> omega
/-- dead, fault, place, token -/
abbrev Ps : Type := Nat × Nat × Nat × Tk
abbrev pd (P : Ps) : Nat := P.1
abbrev pf (P : Ps) : Nat := P.2.1
abbrev pq (P : Ps) : Nat := P.2.2.1
abbrev pt (P : Ps) : Tk := P.2.2.2
def ntA (x w : Nat) (P : Ps) : Ps := (pd P, (if pf P = 0 then x else pf P), (if pf P = 0 then w else pq P), pt P)
def xv (u : Nat → Nat) (P : Ps) : Nat := nvI u (pt P).2.1 ((pt P).2.2 - (pt P).2.1)
noncomputable def nxA (u : Nat → Nat) (n : Nat) (P : Ps) : Ps := (pd P, pf P, pq P, tkn u n (pt P).2.2)
def ddA (P : Ps) : Ps := (1, pf P, pq P, pt P)
def nbA (u : Nat → Nat) (hi bt : Nat) (P : Ps) : Ps := if xv u P ≤ hi ∧ xv u P ≠ bt then P else ntA 2 (pt P).2.1 P
noncomputable def nsA (u : Nat → Nat) (n hi bt : Nat) (P : Ps) : Ps := if pd P = 1 then P else if (pt P).1 = 2 then nxA u n (nbA u hi bt P) else ddA P
def GPs (u : Nat → Nat) (n : Nat) (P : Ps) : Prop := pd P ≤ 1 ∧ (pf P = 0 ∨ pf P = 2 ∨ pf P = 3) ∧ GT u n (pt P) ∧ (pf P ≠ 0 → pq P < (pt P).2.1)
def CPs (u : Nat → Nat) (n : Nat) (S : Sk) (P : Ps) (m : Mm) : Prop := TPC u n S m ∧ TKC u (pt P) m ∧ (pd P = 1 → mI m 7 1 = nI 1 ∧ mI m 7 2 = nI (pt P).2.1) ∧ (pd P = 0 → mI m 7 1 = nI (pf P) ∧ mI m 7 2 = (if pf P = 0 then -1 else nI (pq P)))
theorem GT_b {u : Nat → Nat} {n : Nat} {t : Tk} (h : GT u n t) : t.1 < 5 ∧ t.2.1 ≤ t.2.2 ∧ t.2.2 ≤ n ∧ (t.1 = 0 → t.2.1 = n) ∧ (t.1 ≠ 0 → t.2.1 < t.2.2) := by
  obtain ⟨pos, h⟩ := h
  obtain ⟨b1, b2', b3, b4, b5, b6⟩ := tokS_k h
  exact ⟨b1, b3, b4, b5, tokS_lt h⟩
theorem GT_n {u : Nat → Nat} {n : Nat} {pos : Nat} (h : pos ≤ n) : GT u n (tkn u n pos) ∧ pos ≤ (tkn u n pos).2.1 := ⟨⟨pos, tkn_ok h⟩, (tokS_k (tkn_ok h)).2.1⟩
theorem GP_nt {u : Nat → Nat} {n : Nat} {P : Ps} (h : GPs u n P) {x : Nat} (hx : x = 2 ∨ x = 3) : (ntA x (pt P).2.1 P).2.1 ≠ 0 ∧ pd (ntA x (pt P).2.1 P) = pd P ∧ (pf (ntA x (pt P).2.1 P) = 0 ∨ pf (ntA x (pt P).2.1 P) = 2 ∨ pf (ntA x (pt P).2.1 P) = 3) ∧ pq (ntA x (pt P).2.1 P) ≤ (pt P).2.1 := by
  obtain ⟨h1, h2, h3, h4⟩ := h
  by_cases z : pf P = 0
  · have e : ntA x (pt P).2.1 P = (pd P, x, (pt P).2.1, pt P) := by unfold ntA; rw [if_pos z, if_pos z]
    rw [e]
    exact ⟨show x ≠ 0 by omega, rfl, show x = 0 ∨ x = 2 ∨ x = 3 by omega, Nat.le_refl _⟩
  · have e : ntA x (pt P).2.1 P = P := by unfold ntA; rw [if_neg z, if_neg z]
    rw [e]
    exact ⟨z, rfl, h2, by have := h4 z; omega⟩
/-- the next token behind one that is no end -/
theorem GP_nx {u : Nat → Nat} {n : Nat} {P : Ps} (h1 : pd P ≤ 1) (h2 : pf P = 0 ∨ pf P = 2 ∨ pf P = 3) (h3 : GT u n (pt P)) (h4 : pf P ≠ 0 → pq P ≤ (pt P).2.1) (hk : (pt P).1 ≠ 0) : GPs u n (nxA u n P) ∧ (pt P).2.2 ≤ (pt (nxA u n P)).2.1 := by
  obtain ⟨b1, b2', b3, b4, b5⟩ := GT_b h3
  obtain ⟨g1, g2⟩ := GT_n (u := u) b3
  have b5 := b5 hk
  exact ⟨⟨h1, h2, g1, fun q => by have := h4 q; show pq P < (tkn u n (pt P).2.2).2.1; omega⟩, g2⟩
theorem GP_ns {u : Nat → Nat} {n : Nat} {P : Ps} (h : GPs u n P) (hi bt : Nat) : GPs u n (nsA u n hi bt P) ∧ (pt P).2.1 ≤ (pt (nsA u n hi bt P)).2.1 ∧ (pf (nsA u n hi bt P) = 0 → pf P = 0) ∧ (pd (nsA u n hi bt P) = 0 → pd P = 0 ∧ (pt P).1 = 2 ∧ (pt P).2.1 < (pt (nsA u n hi bt P)).2.1 ∧ (pf (nsA u n hi bt P) = 0 → xv u P ≤ hi ∧ xv u P ≠ bt)) := by
  have h' := h
  obtain ⟨h1, h2, h3, h4⟩ := h'
  obtain ⟨b1, b2', b3, b4, b5⟩ := GT_b h3
  unfold nsA
  by_cases d1 : pd P = 1
  · rw [if_pos d1]
    exact ⟨h, Nat.le_refl _, fun q => q, fun q => by omega⟩
  · rw [if_neg d1]
    by_cases k2 : (pt P).1 = 2
    · rw [if_pos k2]
      have b5 := b5 (by omega)
      unfold nbA
      by_cases c : xv u P ≤ hi ∧ xv u P ≠ bt
      · rw [if_pos c]
        obtain ⟨g1, g2⟩ := GP_nx h1 h2 h3 (fun q => Nat.le_of_lt (h4 q)) (by omega)
        exact ⟨g1, by omega, fun q => q, fun _ => ⟨by omega, k2, by omega, fun _ => c⟩⟩
      · rw [if_neg c]
        obtain ⟨a1, a2, a3, a4⟩ := GP_nt h (x := 2) (Or.inl rfl)
        obtain ⟨g1, g2⟩ := GP_nx (P := ntA 2 (pt P).2.1 P) h1 a3 h3 (fun _ => a4) (by show (pt P).1 ≠ 0; omega)
        have g2 : (pt P).2.2 ≤ (pt (nxA u n (ntA 2 (pt P).2.1 P))).2.1 := g2
        exact ⟨g1, by omega, fun q => absurd q a1, fun _ => ⟨by omega, k2, by omega, fun q => absurd q a1⟩⟩
    · rw [if_neg k2]
      exact ⟨⟨Nat.le_refl _, h2, h3, h4⟩, Nat.le_refl _, fun q => q, fun q => absurd q (show ¬ (1 : Nat) = 0 by decide)⟩
noncomputable def hiN (g i : Nat) : Nat := (m_X5_mostOf (nI (cyN g i))).toNatClampNeg
theorem hiN_eq : ∀ g, g < 24 → ∀ i, i < 6 → m_X5_mostOf (nI (cyN g i)) = nI (hiN g i) ∧ hiN g i ≤ 9 := by decide +kernel
def twc (g : Nat) : Bool := decide (cyN g 0 = cyN g 1)
noncomputable def nsX (u : Nat → Nat) (n g i bt : Nat) (P : Ps) : Ps := if lnN g ≤ i then P else nsA u n (hiN g i) bt P
noncomputable def sgN (g k : Nat) : Nat := (m_X5_signsOf (nI g) (nI k)).getD 0
theorem sgN_eq : ∀ g, g < 4 → ∀ k, k < 7 → m_X5_signsOf (nI g) (nI k) = some (sgN g k) ∧ 1 ≤ sgN g k ∧ sgN g k < 24 ∧ lnN (sgN g k) ≤ 3 := by decide +kernel
noncomputable def b0A (u : Nat → Nat) (g : Nat) (P : Ps) : Nat := if twc g then xv u P else 5000
noncomputable def l1A (u : Nat → Nat) (n g : Nat) (P : Ps) : Ps := nsX u n g 0 5000 P
noncomputable def l2A (u : Nat → Nat) (n g : Nat) (P : Ps) : Ps := nsX u n g 1 (b0A u g P) (l1A u n g P)
noncomputable def l3A (u : Nat → Nat) (n g : Nat) (P : Ps) : Ps := nsX u n g 2 5000 (l2A u n g P)
noncomputable def l4A (u : Nat → Nat) (n g : Nat) (P : Ps) : Ps := if pd (l3A u n g P) = 1 then l3A u n g P else if (pt (l3A u n g P)).1 = 3 then nxA u n (l3A u n g P) else ddA (l3A u n g P)
abbrev Dr : Type := Nat → Nat × Nat × Nat × Nat
abbrev As : Type := Ps × Nat × Dr
def cnK (D : Dr) (k N : Nat) : Nat := fb_ct (fun j => decide ((D j).1 = k)) N
def fuA (g k N : Nat) (D : Dr) : Bool := if g = 0 then (if k = 0 then decide (6 ≤ cnK D 0 N) else if k = 4 then decide (12 ≤ cnK D 4 N) else false) else decide (rwm g ≤ N)
def updR (D : Dr) (N : Nat) (v : Nat × Nat × Nat × Nat) : Dr := fun j => if j = N then v else D j
noncomputable def q0A (u : Nat → Nat) (n g : Nat) (A : As) : Ps := nxA u n (if fuA g (kdA g (tw u (pt A.1))) A.2.1 A.2.2 = true then ntA 3 (pt A.1).2.1 A.1 else A.1)
noncomputable def roA (u : Nat → Nat) (n g k : Nat) (P : Ps) : Nat × Nat × Nat × Nat := (k, xv u P, xv u (l1A u n (sgN g k) P), xv u (l2A u n (sgN g k) P))
noncomputable def lnA (u : Nat → Nat) (n g : Nat) (A : As) : As :=
  if kdA g (tw u (pt A.1)) = 7 then (ddA A.1, A.2)
  else if pd (l4A u n (sgN g (kdA g (tw u (pt A.1)))) (q0A u n g A)) = 1 then (l4A u n (sgN g (kdA g (tw u (pt A.1)))) (q0A u n g A), A.2)
  else (l4A u n (sgN g (kdA g (tw u (pt A.1)))) (q0A u n g A), A.2.1 + 1, updR A.2.2 A.2.1 (roA u n g (kdA g (tw u (pt A.1))) (q0A u n g A)))
def xi (d : Nat × Nat × Nat × Nat) (i : Nat) : Nat := if i = 0 then d.2.1 else if i = 1 then d.2.2.1 else d.2.2.2
noncomputable def okD (g : Nat) (d : Nat × Nat × Nat × Nat) : Prop := d.1 < 7 ∧ wN g d.1 ≠ 6 ∧ (∀ i, i < lnN (sgN g d.1) → xi d i ≤ hiN (sgN g d.1) i) ∧ (2 ≤ lnN (sgN g d.1) → twc (sgN g d.1) = true → d.2.1 ≠ d.2.2.1)
noncomputable def okA (g N : Nat) (D : Dr) : Prop := (g = 0 → cnK D 0 N ≤ 6 ∧ cnK D 4 N ≤ 12) ∧ (g ≠ 0 → N ≤ rwm g) ∧ ∀ j, j < N → okD g (D j)
noncomputable def GA (u : Nat → Nat) (n g : Nat) (A : As) : Prop := GPs u n A.1 ∧ A.2.1 ≤ (pt A.1).2.1 ∧ (g = 0 → 6 * A.2.1 ≤ (pt A.1).2.1) ∧ (pd A.1 = 0 → pf A.1 = 0 → okA g A.2.1 A.2.2)
theorem GP_nsX {u : Nat → Nat} {n : Nat} {P : Ps} (h : GPs u n P) (g i bt : Nat) : GPs u n (nsX u n g i bt P) ∧ (pt P).2.1 ≤ (pt (nsX u n g i bt P)).2.1 ∧ (pf (nsX u n g i bt P) = 0 → pf P = 0) ∧ (pd (nsX u n g i bt P) = 0 → pd P = 0 ∧ (i < lnN g → (pt P).1 = 2 ∧ (pt P).2.1 < (pt (nsX u n g i bt P)).2.1 ∧ (pf (nsX u n g i bt P) = 0 → xv u P ≤ hiN g i ∧ xv u P ≠ bt))) := by
  unfold nsX
  by_cases c : lnN g ≤ i
  · rw [if_pos c]
    exact ⟨h, Nat.le_refl _, fun q => q, fun q => ⟨q, fun z => by omega⟩⟩
  · rw [if_neg c]
    obtain ⟨a, b, d, e⟩ := GP_ns h (hiN g i) bt
    exact ⟨a, b, d, fun q => ⟨(e q).1, fun _ => (e q).2⟩⟩
noncomputable def ckW (g w : Nat) : Bool := decide (w = 6) || (decide (kdA g w = 7) || (decide (w ≠ 0) && (decide (kdA g w < 7) && decide (wN g (kdA g w) = w))))
theorem ckW_ok : ∀ g, g < 4 → ∀ w, w < 17 → ckW g w = true := by decide +kernel
theorem kd_w1 (g : Nat) (hg : g < 4) (w : Nat) (hw : w < 17) (h6 : w ≠ 6) (h7 : kdA g w ≠ 7) : w ≠ 0 ∧ kdA g w < 7 ∧ wN g (kdA g w) = w := by
  have h := ckW_ok g hg w hw
  unfold ckW at h
  rw [decide_eq_false h6, decide_eq_false h7, Bool.false_or, Bool.false_or, Bool.and_eq_true, Bool.and_eq_true, decide_eq_true_eq, decide_eq_true_eq, decide_eq_true_eq] at h
  exact h
theorem kd_w2 : ∀ w, w < 17 → kdA 0 w ≠ 7 → w ≠ 6 → 4 ≤ lnN w ∧ 2 ≤ lnN (sgN 0 (kdA 0 w)) := by decide +kernel
theorem kd_w (g : Nat) (hg : g < 4) (w : Nat) (hw : w < 17) (h6 : w ≠ 6) (h7 : kdA g w ≠ 7) : w ≠ 0 ∧ kdA g w < 7 ∧ wN g (kdA g w) = w ∧ wN g (kdA g w) ≠ 6 ∧ (g = 0 → 4 ≤ lnN w ∧ 2 ≤ lnN (sgN 0 (kdA 0 w))) := by
  obtain ⟨a, b, c⟩ := kd_w1 g hg w hw h6 h7
  exact ⟨a, b, c, by rw [c]; exact h6, fun q => by subst q; exact kd_w2 w hw h7 h6⟩
theorem GP_q0 {u : Nat → Nat} {n g : Nat} {A : As} (h : GPs u n A.1) (hk : (pt A.1).1 ≠ 0) : GPs u n (q0A u n g A) ∧ (pt A.1).2.2 ≤ (pt (q0A u n g A)).2.1 ∧ pd (q0A u n g A) = pd A.1 ∧ (pf (q0A u n g A) = 0 → pf A.1 = 0 ∧ fuA g (kdA g (tw u (pt A.1))) A.2.1 A.2.2 = false) := by
  have h' := h
  obtain ⟨h1, h2, h3, h4⟩ := h'
  unfold q0A
  cases fuA g (kdA g (tw u (pt A.1))) A.2.1 A.2.2 with
  | false =>
    rw [if_neg (by decide)]
    obtain ⟨g1, g2⟩ := GP_nx h1 h2 h3 (fun q => Nat.le_of_lt (h4 q)) hk
    exact ⟨g1, g2, rfl, fun q => ⟨q, rfl⟩⟩
  | true =>
    rw [if_pos rfl]
    obtain ⟨a1, a2, a3, a4⟩ := GP_nt h (x := 3) (Or.inr rfl)
    obtain ⟨g1, g2⟩ := GP_nx (P := ntA 3 (pt A.1).2.1 A.1) h1 a3 h3 (fun _ => a4) hk
    exact ⟨g1, g2, rfl, fun q => absurd q a1⟩
theorem cnK_upd {D : Dr} {N : Nat} {v : Nat × Nat × Nat × Nat} (k : Nat) : cnK (updR D N v) k (N + 1) = cnK D k N + (if v.1 = k then 1 else 0) := by
  unfold cnK
  rw [fb_ct_succ, fb_ct_cong (q := fun j => decide ((D j).1 = k)) (fun j hj => by unfold updR; rw [if_neg (by omega)])]
  congr 1
  unfold updR
  simp only [if_true, decide_eq_true_eq]
theorem updR_lt {D : Dr} {N j : Nat} {v : Nat × Nat × Nat × Nat} (h : j < N) : updR D N v j = D j := by unfold updR; rw [if_neg (by omega)]
theorem updR_eq {D : Dr} {N : Nat} {v : Nat × Nat × Nat × Nat} : updR D N v N = v := by unfold updR; rw [if_pos rfl]
/-- what a line that lives tells -/
theorem GP_l4 {u : Nat → Nat} {n g : Nat} {P : Ps} (h : GPs u n P) : GPs u n (l4A u n g P) ∧ (pt P).2.1 ≤ (pt (l4A u n g P)).2.1 ∧ (pd (l4A u n g P) = 0 → pd P = 0 ∧ (2 ≤ lnN g → (pt P).2.1 + 3 ≤ (pt (l4A u n g P)).2.1) ∧ (pt P).2.1 + 1 ≤ (pt (l4A u n g P)).2.1 ∧ pd (l3A u n g P) = 0 ∧ (pt (l3A u n g P)).1 = 3 ∧ (pf (l4A u n g P) = 0 → pf P = 0 ∧ (0 < lnN g → xv u P ≤ hiN g 0) ∧ (1 < lnN g → xv u (l1A u n g P) ≤ hiN g 1 ∧ xv u (l1A u n g P) ≠ b0A u g P) ∧ (2 < lnN g → xv u (l2A u n g P) ≤ hiN g 2))) := by
  obtain ⟨a1, a2, a3, a4⟩ := GP_nsX h g 0 5000
  obtain ⟨c1, c2, c3, c4⟩ := GP_nsX a1 g 1 (b0A u g P)
  obtain ⟨d1, d2, d3, d4⟩ := GP_nsX c1 g 2 5000
  change GPs u n (l1A u n g P) at a1
  change _ ≤ (pt (l1A u n g P)).2.1 at a2
  change pf (l1A u n g P) = 0 → _ at a3
  change pd (l1A u n g P) = 0 → _ at a4
  change GPs u n (l2A u n g P) at c1
  change (pt (l1A u n g P)).2.1 ≤ (pt (l2A u n g P)).2.1 at c2
  change pf (l2A u n g P) = 0 → pf (l1A u n g P) = 0 at c3
  change pd (l2A u n g P) = 0 → _ at c4
  change GPs u n (l3A u n g P) at d1
  change (pt (l2A u n g P)).2.1 ≤ (pt (l3A u n g P)).2.1 at d2
  change pf (l3A u n g P) = 0 → pf (l2A u n g P) = 0 at d3
  change pd (l3A u n g P) = 0 → _ at d4
  unfold l4A
  by_cases e1 : pd (l3A u n g P) = 1
  · rw [if_pos e1]
    exact ⟨d1, by omega, fun q => by omega⟩
  · rw [if_neg e1]
    have e0 : pd (l3A u n g P) = 0 := by have := d1.1; omega
    by_cases k3 : (pt (l3A u n g P)).1 = 3
    · rw [if_pos k3]
      obtain ⟨g1, g2⟩ := GP_nx d1.1 d1.2.1 d1.2.2.1 (fun q => Nat.le_of_lt (d1.2.2.2 q)) (by omega)
      have gb := (GT_b d1.2.2.1).2.2.2.2 (by omega)
      obtain ⟨y1, y2⟩ := d4 e0
      obtain ⟨z1, z2⟩ := c4 y1
      obtain ⟨w1, w2⟩ := a4 z1
      refine ⟨g1, by omega, fun _ => ⟨w1, fun l2 => ?_, by omega, e0, k3, fun f0 => ?_⟩⟩
      · have v1 := (w2 (by omega)).2.1
        have v2 := (z2 (by omega)).2.1
        change (pt P).2.1 < (pt (l1A u n g P)).2.1 at v1
        change (pt (l1A u n g P)).2.1 < (pt (l2A u n g P)).2.1 at v2
        omega
      · have f3 : pf (l3A u n g P) = 0 := f0
        have f2 := d3 f3
        have f1 := c3 f2
        exact ⟨a3 f1, fun l => ((w2 l).2.2 f1).1, fun l => (z2 l).2.2 f2, fun l => ((y2 l).2.2 f3).1⟩
    · rw [if_neg k3]
      exact ⟨⟨Nat.le_refl _, d1.2.1, d1.2.2.1, d1.2.2.2⟩, by show (pt P).2.1 ≤ (pt (l3A u n g P)).2.1; omega, fun q => absurd q (show ¬ (1 : Nat) = 0 by decide)⟩
theorem GA_ln {u : Nat → Nat} {n g : Nat} {A : As} (hg : g < 4) (h : GA u n g A) (h0 : pd A.1 = 0) (hk : (pt A.1).1 ≠ 0) : GA u n g (lnA u n g A) ∧ (pd (lnA u n g A).1 = 0 → (pt A.1).2.1 < (pt (lnA u n g A).1).2.1) := by
  obtain ⟨h1, h2, h3, h4⟩ := h
  have b5 := (GT_b h1.2.2.1).2.2.2.2 hk
  obtain ⟨t1, t2, t3⟩ := tw_b (u := u) (t := pt A.1) (fun _ => b5)
  unfold lnA
  by_cases k7 : kdA g (tw u (pt A.1)) = 7
  · rw [if_pos k7]
    exact ⟨⟨⟨Nat.le_refl _, h1.2.1, h1.2.2.1, h1.2.2.2⟩, h2, h3, fun q => absurd q (show ¬ (1 : Nat) = 0 by decide)⟩, fun q => absurd q (show ¬ (1 : Nat) = 0 by decide)⟩
  · rw [if_neg k7]
    obtain ⟨x1, x2, x3, x4, x5⟩ := kd_w g hg _ t1 t2 k7
    obtain ⟨a1, a2, a3, a4⟩ := GP_q0 (g := g) h1 hk
    obtain ⟨c1, c2, c3⟩ := GP_l4 (g := sgN g (kdA g (tw u (pt A.1)))) a1
    by_cases e1 : pd (l4A u n (sgN g (kdA g (tw u (pt A.1)))) (q0A u n g A)) = 1
    · rw [if_pos e1]
      exact ⟨⟨c1, by show A.2.1 ≤ (pt (l4A u n (sgN g (kdA g (tw u (pt A.1)))) (q0A u n g A))).2.1; omega, fun q => by show 6 * A.2.1 ≤ (pt (l4A u n (sgN g (kdA g (tw u (pt A.1)))) (q0A u n g A))).2.1; have := h3 q; omega, fun q => by change pd (l4A u n (sgN g (kdA g (tw u (pt A.1)))) (q0A u n g A)) = 0 at q; omega⟩, fun q => by change pd (l4A u n (sgN g (kdA g (tw u (pt A.1)))) (q0A u n g A)) = 0 at q; omega⟩
    · rw [if_neg e1]
      have e0 : pd (l4A u n (sgN g (kdA g (tw u (pt A.1)))) (q0A u n g A)) = 0 := by have := c1.1; omega
      obtain ⟨y1, y2, y3, y4, y5, y6⟩ := c3 e0
      refine ⟨⟨c1, ?_, fun g0 => ?_, fun _ f0 => ?_⟩, fun _ => ?_⟩
      · show A.2.1 + 1 ≤ (pt (l4A u n (sgN g (kdA g (tw u (pt A.1)))) (q0A u n g A))).2.1
        omega
      · show 6 * (A.2.1 + 1) ≤ (pt (l4A u n (sgN g (kdA g (tw u (pt A.1)))) (q0A u n g A))).2.1
        have := h3 g0
        have z1 := (x5 g0).1
        have z2 := (x5 g0).2
        have z3 := (t3 x1).2
        have z4 := y2 (by rw [g0]; exact z2)
        omega
      · obtain ⟨f1, f2, f3, f4⟩ := y6 f0
        obtain ⟨f5, f6⟩ := a4 f1
        obtain ⟨o1, o2, o3⟩ := h4 h0 f5
        refine ⟨fun g0 => ?_, fun g0 => ?_, fun j hj => ?_⟩
        · show cnK (updR _ _ _) 0 (A.2.1 + 1) ≤ 6 ∧ cnK (updR _ _ _) 4 (A.2.1 + 1) ≤ 12
          rw [cnK_upd, cnK_upd]
          obtain ⟨o4, o5⟩ := o1 g0
          unfold fuA at f6
          rw [if_pos g0] at f6
          show cnK A.2.2 0 A.2.1 + (if kdA g (tw u (pt A.1)) = 0 then 1 else 0) ≤ 6 ∧ cnK A.2.2 4 A.2.1 + (if kdA g (tw u (pt A.1)) = 4 then 1 else 0) ≤ 12
          by_cases v0 : kdA g (tw u (pt A.1)) = 0
          · rw [if_pos v0] at f6
            rw [decide_eq_false_iff_not] at f6
            rw [if_pos v0, if_neg (by omega)]
            omega
          · rw [if_neg v0] at f6
            by_cases v4 : kdA g (tw u (pt A.1)) = 4
            · rw [if_pos v4] at f6
              rw [decide_eq_false_iff_not] at f6
              rw [if_neg v0, if_pos v4]
              omega
            · rw [if_neg v0, if_neg v4]
              omega
        · unfold fuA at f6
          rw [if_neg g0, decide_eq_false_iff_not] at f6
          show A.2.1 + 1 ≤ rwm g
          omega
        · by_cases ej : j = A.2.1
          · show okD g (updR _ _ _ j)
            rw [ej, updR_eq]
            refine ⟨x2, x4, fun i hi => ?_, fun l2 tc => ?_⟩
            · have l3 := (sgN_eq g hg _ x2).2.2.2
              change i < lnN (sgN g (kdA g (tw u (pt A.1)))) at hi
              rcases (by omega : i = 0 ∨ i = 1 ∨ i = 2) with rfl | rfl | rfl
              · exact f2 hi
              · exact (f3 hi).1
              · exact f4 hi
            · have := (f3 l2).2
              unfold b0A at this
              rw [if_pos (show twc (sgN g (kdA g (tw u (pt A.1)))) = true from tc)] at this
              exact fun q => this q.symm
          · show okD g (updR _ _ _ j)
            rw [updR_lt (by have : j < A.2.1 + 1 := hj; omega)]
            exact o3 j (by have : j < A.2.1 + 1 := hj; omega)
      · show (pt A.1).2.1 < (pt (l4A u n (sgN g (kdA g (tw u (pt A.1)))) (q0A u n g A))).2.1
        omega
