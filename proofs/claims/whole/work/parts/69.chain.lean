/-! L3: the longest row of those who swore one for the next -/
def fmx (f : Nat → Nat) (n : Nat) : Nat := fo (fun p x => max x (f p)) 0 n
theorem fmx_ge (f : Nat → Nat) : ∀ n j, j < n → f j ≤ fmx f n
  | 0, j, h => absurd h (Nat.not_lt_zero j)
  | n + 1, j, h => by
    have e : fmx f (n + 1) = max (fmx f n) (f n) := rfl
    rw [e]
    by_cases hj : j = n
    · rw [hj]; omega
    · have := fmx_ge f n j (by omega)
      omega
theorem fmx_ex (f : Nat → Nat) : ∀ n, fmx f n = 0 ∨ ∃ j, j < n ∧ f j = fmx f n
  | 0 => Or.inl rfl
  | n + 1 => by
    have e : fmx f (n + 1) = max (fmx f n) (f n) := rfl
    rw [e]
    by_cases h : f n ≤ fmx f n
    · rw [Nat.max_eq_left h]
      rcases fmx_ex f n with h1 | ⟨j, h1, h2⟩
      · exact Or.inl h1
      · exact Or.inr ⟨j, by omega, h2⟩
    · rw [Nat.max_eq_right (by omega)]
      exact Or.inr ⟨n, by omega, rfl⟩
theorem fmx_cong {f g : Nat → Nat} {n : Nat} (h : ∀ p, p < n → f p = g p) : fmx f n = fmx g n := fo_cong (n := n) (fun p x hp => by rw [h p hp]) n (Nat.le_refl _)
def nogo (W : Cn) (set at_ p : Nat) : Bool := set.testBit p || (decide (at_ < 6) && !(swr W at_).testBit p)
def sc (W : Cn) : Nat → Nat → Nat → Nat
  | 0, _, _ => 0
  | f + 1, set, at_ => fmx (fun p => if nogo W set at_ p then 0 else 1 + sc W f (set ||| 2 ^ p) p) (fk W)
def frn (W : Cn) (set : Nat) : Nat := fb_ct (fun p => !set.testBit p) (fk W)
theorem frn_set {W : Cn} {set p : Nat} (hp : p < fk W) (hs : set.testBit p = false) : frn W (set ||| 2 ^ p) + 1 = frn W set := by
  unfold frn
  have h := fb_ct_upd (fun q => !set.testBit q) false hp
  simp only [hs, Bool.not_false, if_true, Bool.false_eq_true, if_false] at h
  rw [show fb_ct (fun q => !(set ||| 2 ^ p).testBit q) (fk W) = fb_ct (fun q => if q = p then false else !set.testBit q) (fk W) from fb_ct_cong (fun q _ => by
    rw [fb_bit_set]
    by_cases e : q = p
    · simp [e]
    · simp [e])]
  omega
theorem sc_stable {W : Cn} : ∀ f g set at_, frn W set ≤ f → frn W set ≤ g → sc W f set at_ = sc W g set at_
  | 0, 0, _, _, _, _ => rfl
  | 0, g + 1, set, at_, h, _ => by
    have h0 : ∀ p, p < fk W → set.testBit p = true := fun p hp => by
      have := fb_ct_zero.mp (show fb_ct (fun p => !set.testBit p) (fk W) = 0 by unfold frn at h; omega) p hp
      simpa using this
    rw [sc, sc, fmx_cong (g := fun _ => 0) (fun p hp => by
      rw [if_pos]
      unfold nogo
      rw [h0 p hp]; rfl)]
    rcases fmx_ex (fun _ => 0) (fk W) with h1 | ⟨j, _, h2⟩
    · exact h1.symm
    · exact h2
  | f + 1, 0, set, at_, h, h' => (sc_stable 0 (f + 1) set at_ h' h).symm
  | f + 1, g + 1, set, at_, h, h' => by
    rw [sc, sc]
    refine fmx_cong (fun p hp => ?_)
    by_cases hn : nogo W set at_ p = true
    · rw [if_pos hn, if_pos hn]
    · rw [if_neg hn, if_neg hn]
      have hs : set.testBit p = false := by
        cases hb : set.testBit p with
        | false => rfl
        | true => exact absurd (by unfold nogo; rw [hb]; rfl) hn
      have := frn_set hp hs
      rw [sc_stable f g _ p (by omega) (by omega)]
def sco (W : Cn) (set at_ : Nat) : Nat := sc W 7 set at_
def tm (W : Cn) (set at_ p : Nat) : Nat := if nogo W set at_ p then 0 else 1 + sco W (set ||| 2 ^ p) p
theorem frn_le (W : Cn) (set : Nat) : frn W set ≤ fk W := fb_ct_le _ _
theorem sco_eq {W : Cn} (wf : WF W) (set at_ : Nat) : sco W set at_ = fmx (tm W set at_) (fk W) := by
  have hf := wf.1
  show sc W (6 + 1) set at_ = _
  rw [sc]
  refine fmx_cong (fun p hp => ?_)
  unfold tm sco
  by_cases hn : nogo W set at_ p = true
  · rw [if_pos hn, if_pos hn]
  · have := frn_le W (set ||| 2 ^ p)
    rw [if_neg hn, if_neg hn, sc_stable 6 7 _ p (by omega) (by omega)]
theorem tm_go {W : Cn} {set at_ p : Nat} (h : 0 < tm W set at_ p) : nogo W set at_ p = false ∧ set.testBit p = false ∧ tm W set at_ p = 1 + sco W (set ||| 2 ^ p) p := by
  unfold tm at h ⊢
  cases hn : nogo W set at_ p with
  | true => rw [hn] at h; simp at h
  | false =>
    refine ⟨rfl, ?_, by simp⟩
    unfold nogo at hn
    simp only [Bool.or_eq_false_iff] at hn
    exact hn.1
theorem sco_le {W : Cn} (wf : WF W) : ∀ n set at_, frn W set ≤ n → sco W set at_ ≤ frn W set := by
  intro n
  induction n with
  | zero =>
    intro set at_ h
    rw [sco_eq wf]
    rcases fmx_ex (tm W set at_) (fk W) with h1 | ⟨j, h1, h2⟩
    · omega
    · by_cases hz : fmx (tm W set at_) (fk W) = 0
      · omega
      · obtain ⟨_, h3, _⟩ := tm_go (W := W) (set := set) (at_ := at_) (p := j) (by omega)
        have := frn_set h1 h3
        omega
  | succ n ih =>
    intro set at_ h
    rw [sco_eq wf]
    rcases fmx_ex (tm W set at_) (fk W) with h1 | ⟨j, h1, h2⟩
    · omega
    · by_cases hz : fmx (tm W set at_) (fk W) = 0
      · omega
      · obtain ⟨_, h3, h4⟩ := tm_go (W := W) (set := set) (at_ := at_) (p := j) (by omega)
        have h5 := frn_set h1 h3
        have h6 := ih (set ||| 2 ^ j) j (by omega)
        omega
/-- who is next in the first of the longest rows -/
def fpn (W : Cn) (set at_ : Nat) : Nat := (fst1 (fun p => decide (tm W set at_ p = sco W set at_)) (fk W)).getD 0
theorem fpn_ok {W : Cn} (wf : WF W) {set at_ : Nat} (h : 0 < sco W set at_) : fpn W set at_ < fk W ∧ tm W set at_ (fpn W set at_) = sco W set at_ ∧ ∀ j, j < fpn W set at_ → tm W set at_ j ≠ sco W set at_ := by
  unfold fpn
  cases hf : fst1 (fun p => decide (tm W set at_ p = sco W set at_)) (fk W) with
  | none =>
    exfalso
    have h1 := fst1_none.mp hf
    rw [sco_eq wf] at h
    rcases fmx_ex (tm W set at_) (fk W) with h2 | ⟨j, h2, h3⟩
    · omega
    · have := h1 j h2
      rw [sco_eq wf, h3] at this
      simp at this
  | some p =>
    obtain ⟨h1, h2, h3⟩ := fst1_some.mp hf
    exact ⟨h1, by simpa using h2, fun j hj => by simpa using h3 j hj⟩
def cseq (W : Cn) : Nat → Nat → Nat → Nat
  | 0, set, at_ => fpn W set at_
  | i + 1, set, at_ => cseq W i (set ||| 2 ^ fpn W set at_) (fpn W set at_)
theorem sco_next {W : Cn} (wf : WF W) {set at_ : Nat} (h : 0 < sco W set at_) : sco W set at_ = 1 + sco W (set ||| 2 ^ fpn W set at_) (fpn W set at_) := by
  obtain ⟨h1, h2, h3⟩ := fpn_ok wf h
  rw [← h2]
  exact (tm_go (by omega)).2.2
/-- how the class holds what it seeks -/
def VE (W : Cn) (mm : Mm) : Prop := mI mm 25 1 = nI (fk W) ∧ ∀ p, p < 6 → mI mm 26 p = nI (swr W p)
def nxS (W : Cn) (at_ : Nat) : Nat := if at_ < 6 then swr W at_ else 2 ^ fk W - 1
theorem nxS_b {W : Cn} (wf : WF W) (at_ : Nat) : nxS W at_ < 64 := by
  unfold nxS
  have hf := wf.1
  split
  · exact swr_b wf _
  · have : 2 ^ fk W ≤ 2 ^ 6 := Nat.pow_le_pow_right (by decide) hf
    have := Nat.two_pow_pos (fk W)
    omega
theorem nogo_iff {W : Cn} {set at_ p : Nat} (hp : p < fk W) : nogo W set at_ p = !((ndf (nxS W at_) set).testBit p) := by
  rw [ndf_bit]
  unfold nogo nxS
  by_cases h : at_ < 6
  · rw [decide_eq_true h, if_pos h]
    cases set.testBit p <;> cases (swr W at_).testBit p <;> rfl
  · rw [decide_eq_false h, if_neg h, Nat.testBit_two_pow_sub_one, decide_eq_true hp]
    cases set.testBit p <;> rfl
theorem rdCp (m : Mm) (a sp b dp n x j : Nat) : mI (cpM m a sp b dp n) x j = if x = b ∧ dp ≤ j ∧ j < dp + n then mI m a (sp + (j - dp)) else mI m x j := rfl
theorem cp0 {n : Nat} (hn : n ≤ 6) (f : Nat → Int32) : cpOK 20 6 6 0 0 (nI n) f := by
  refine ⟨by decide, by decide, ?_, ?_, ?_, fun i _ => rfl⟩
  · rw [zz_0, n_lt (by omega) (by decide)]; omega
  · rw [ix0, n_ix (by omega)]; omega
  · rw [ix0, n_ix (by omega)]; omega
