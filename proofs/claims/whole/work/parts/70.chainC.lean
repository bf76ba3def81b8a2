/-! L3: the longest row by the class and by the reference -/
theorem cseq_0 (W : Cn) (set at_ : Nat) : cseq W 0 set at_ = fpn W set at_ := rfl
theorem cseq_s (W : Cn) (i set at_ : Nat) : cseq W (i + 1) set at_ = cseq W i (set ||| 2 ^ fpn W set at_) (fpn W set at_) := rfl
theorem VE_wr {W : Cn} {mm : Mm} (h : VE W mm) {p : Nat} (hp : p ≠ 26) {j : Nat} (hj : p = 25 → j ≠ 1) (v : Int32) : VE W (sI mm p j v) := by
  refine ⟨?_, fun q hq => ?_⟩
  · rw [rdI, if_neg]
    · exact h.1
    · rintro ⟨rfl, rfl⟩; exact hj rfl rfl
  · rw [rdI_ne _ _ _ _ (fun e => hp e.symm)]; exact h.2 q hq
theorem C_extend {W : Cn} (wf : WF W) : ∀ f d used at_, frn W used < f → d + frn W used = fk W → used < 64 → ∀ (r : Nat → Nat) (L : Nat) (lg : Nat → Nat) (mm : Mm), VE W mm → (∀ i, i < d → mI mm 30 i = nI (r i)) → mI mm 25 0 = nI L → L ≤ 6 → (∀ i, i < L → mI mm 31 i = nI (lg i)) → ∃ m, m_X0_extend f (nI d) (nI (nxS W at_)) (nI used) mm = some m ∧ VE W m ∧ (∀ i, i < d → mI m 30 i = nI (r i)) ∧ mI m 25 0 = nI (max L (d + sco W used at_)) ∧ (∀ i, i < max L (d + sco W used at_) → mI m 31 i = nI (if L < d + sco W used at_ then (if i < d then r i else cseq W (i - d) used at_) else lg i)) ∧ agx [(25, some 0), (30, none), (31, none)] mm m
  | 0, d, used, at_, h, _, _, _, _, _, _, _, _, _, _, _ => absurd h (Nat.not_lt_zero _)
  | f + 1, d, used, at_, hfu, hd, hu, r, L, lg, mm, hV, h30, hL, hL6, h31 => by
    have hf := wf.1
    have hs := sco_le wf _ used at_ (Nat.le_refl _)
    show ∃ m, m_X0_extend_s (m_X0_extend f) (nI d) (nI (nxS W at_)) (nI used) mm = some m ∧ _
    unfold m_X0_extend_s
    rw [hL]
    have step1 : ∃ m1', (if nI d ≤ nI L then (some mm) else (gP (cpOK 20 6 6 0 0 (nI d) (fun i => mI (sI mm 25 0 (nI d)) 30 i)) (some (cpM (sI mm 25 0 (nI d)) 30 (ix 0) 31 (ix 0) (ix (nI d))))) : Option Mm) = some m1' ∧ VE W m1' ∧ (∀ i, i < d → mI m1' 30 i = nI (r i)) ∧ mI m1' 25 0 = nI (max L d) ∧ (∀ i, i < max L d → mI m1' 31 i = nI (if L < d then r i else lg i)) ∧ agx [(25, some 0), (30, none), (31, none)] mm m1' := by
      by_cases hle : d ≤ L
      · rw [if_pos (by rw [n_le (by omega) (by omega)]; exact hle)]
        refine ⟨mm, rfl, hV, h30, ?_, fun i hi => ?_, agx_rf _⟩
        · rw [hL, Nat.max_eq_left hle]
        · rw [if_neg (by omega)]; exact h31 i (by omega)
      · rw [if_neg (by rw [n_le (by omega) (by omega)]; exact hle), gP_pos (cp0 (by omega) _), ix0, n_ix (by omega)]
        have hV2 : VE W (sI mm 25 0 (nI d)) := VE_wr hV (by decide) (by decide) _
        refine ⟨_, rfl, ⟨?_, fun q hq => ?_⟩, fun i hi => ?_, ?_, fun i hi => ?_, agx_cp (agx_wr (agx_rf _) (by rfl)) (fun j => rfl)⟩
        · rw [rdCp, if_neg (by omega)]; exact hV2.1
        · rw [rdCp, if_neg (by omega)]; exact hV2.2 q hq
        · rw [rdCp, if_neg (by omega), rdI_ne _ _ _ _ (by decide)]; exact h30 i hi
        · rw [rdCp, if_neg (by omega), rdI_eq, Nat.max_eq_right (by omega)]
        · rw [rdCp, if_pos ⟨rfl, by omega, by omega⟩, rdI_ne _ _ _ _ (by decide), if_pos (by omega), show 0 + (i - 0) = i by omega]
          exact h30 i (by omega)
    obtain ⟨m1', e1, V1, g30, gL, g31, A1⟩ := step1
    rw [e1, ob_s]
    by_cases hd6 : d < 6
    · rw [if_pos (by rw [show (6 : Int32) = nI 6 from rfl, n_lt (by omega) (by decide)]; exact hd6), o_id]
      have tmle : ∀ p, p < fk W → tm W used at_ p ≤ sco W used at_ := fun p hp => by rw [sco_eq wf]; exact fmx_ge _ _ _ hp
      obtain ⟨q, eq, V2, q30, qA, qL, hcase⟩ := loop_n (body := m_X0_extend_b37 (nI d) (nI (nxS W at_)) (nI used) (m_X0_extend f)) (a := ((0 : Int32), m1')) (fun i z => ∃ m, z = (nI i, m) ∧ VE W m ∧ (∀ j, j < d → mI m 30 j = nI (r j)) ∧ agx [(25, some 0), (30, none), (31, none)] mm m ∧ mI m 25 0 = nI (max (max L d) (d + fmx (tm W used at_) i)) ∧ ((max L d < d + fmx (tm W used at_) i ∧ ∃ w, w < i ∧ tm W used at_ w = fmx (tm W used at_) i ∧ (∀ q, q < w → tm W used at_ q ≠ fmx (tm W used at_) i) ∧ ∀ j, j < d + fmx (tm W used at_) i → mI m 31 j = nI (if j < d then r j else if j = d then w else cseq W (j - d - 1) (used ||| 2 ^ w) w)) ∨ (d + fmx (tm W used at_) i ≤ max L d ∧ ∀ j, j < max L d → mI m 31 j = nI (if L < d then r j else lg j)))) (fun m => VE W m ∧ (∀ j, j < d → mI m 30 j = nI (r j)) ∧ agx [(25, some 0), (30, none), (31, none)] mm m ∧ mI m 25 0 = nI (max (max L d) (d + fmx (tm W used at_) (fk W))) ∧ ((max L d < d + fmx (tm W used at_) (fk W) ∧ ∃ w, w < fk W ∧ tm W used at_ w = fmx (tm W used at_) (fk W) ∧ (∀ q, q < w → tm W used at_ q ≠ fmx (tm W used at_) (fk W)) ∧ ∀ j, j < d + fmx (tm W used at_) (fk W) → mI m 31 j = nI (if j < d then r j else if j = d then w else cseq W (j - d - 1) (used ||| 2 ^ w) w)) ∨ (d + fmx (tm W used at_) (fk W) ≤ max L d ∧ ∀ j, j < max L d → mI m 31 j = nI (if L < d then r j else lg j)))) (fk W) (FU_big (by omega)) ⟨m1', rfl, V1, g30, A1, by rw [gL]; congr 1; show max L d = max (max L d) (d + 0); omega, Or.inr ⟨by show d + 0 ≤ max L d; omega, g31⟩⟩ (by
        rintro i z hi ⟨m, rfl, V, j30, A, jL, hcase⟩
        have nb := nxS_b wf at_
        have nd := ndf_le (nxS W at_) used
        have e26 := V.2 i (by omega)
        have em : fmx (tm W used at_) (i + 1) = max (fmx (tm W used at_) i) (tm W used at_ i) := rfl
        have hng := nogo_iff (W := W) (set := used) (at_ := at_) hi
        have tl := tmle i hi
        have fml : fmx (tm W used at_) i ≤ sco W used at_ := by
          rcases fmx_ex (tm W used at_) i with h9 | ⟨j, h9, h10⟩
          · omega
          · rw [← h10]; exact tmle j (by omega)
        unfold m_X0_extend_b37
        simp (disch := omega) only [zz_0, zz_1, zz_2, zz_3, zz_4, zz_5, zz_6, zz_7, zz_8, zz_9, zz_10, zz_11, zz_12, zz_13, zz_14, zz_15, zz_16, zz_20, zz_24, zz_25, zz_26, zz_28, zz_31, zz_32, zz_36, zz_39, zz_40, zz_48, zz_49, zz_50, zz_57, zz_59, zz_60, zz_64, zz_72, zz_97, zz_99, zz_100, zz_122, zz_144, zz_161, zz_255, zz_256, zz_288, zz_322, zz_384, zz_400, zz_448, zz_600, zz_1280, zz_1000000, V.1, n_le, n_m1, n_andn, n_hasC, b2_0, n_grd, n_ix, n_shl1, fa_or, rdI_ne, e26, nI_add]
        rw [if_neg (by omega)]
        cases hb : (ndf (nxS W at_) used).testBit i with
        | false =>
          rw [hb] at hng
          have ht : tm W used at_ i = 0 := by unfold tm; rw [hng]; rfl
          rw [if_pos rfl, ob_s]
          rw [ht, Nat.max_eq_left (Nat.zero_le _)] at em
          rw [em]
          refine ⟨_, rfl, m, rfl, V, j30, A, jL, ?_⟩
          rcases hcase with ⟨c1, w, c2, c3, c4, c5⟩ | h9
          · exact Or.inl ⟨c1, w, by omega, c3, c4, c5⟩
          · exact Or.inr h9
        | true =>
          rw [hb] at hng
          have ht : tm W used at_ i = 1 + sco W (used ||| 2 ^ i) i := by unfold tm; rw [hng]; rfl
          have hub : used.testBit i = false := (tm_go (W := W) (set := used) (at_ := at_) (p := i) (by omega)).2.1
          have hfr := frn_set hi hub
          rw [if_neg (by decide)]
          have hlg : ∃ lgc : Nat → Nat, ∀ j, j < max (max L d) (d + fmx (tm W used at_) i) → mI m 31 j = nI (lgc j) := by
            rcases hcase with ⟨c1, w, c2, c3, c4, c5⟩ | ⟨c1, c2⟩
            · exact ⟨_, fun j hj => c5 j (by omega)⟩
            · exact ⟨_, fun j hj => c2 j (by omega)⟩
          obtain ⟨lgc, hlgc⟩ := hlg
          obtain ⟨m', e', V', k30, kL, k31, kA⟩ := C_extend wf f (d + 1) (used ||| 2 ^ i) i (by omega) (by omega) (or_b (n := 6) hu (pow_le (by omega))) (fun j => if j = d then i else r j) (max (max L d) (d + fmx (tm W used at_) i)) lgc (sI m 30 d (nI i)) (VE_wr V (by decide) (by omega) _) (fun j hj => by
            rw [rdI_sm]
            by_cases e : j = d
            · rw [if_pos e, if_pos e]
            · rw [if_neg e, if_neg e]; exact j30 j (by omega)) (by rw [rdI_ne _ _ _ _ (by decide)]; exact jL) (by omega) (fun j hj => by rw [rdI_ne _ _ _ _ (by decide)]; exact hlgc j hj)
          rw [show nxS W i = swr W i by unfold nxS; rw [if_pos (by omega)]] at e'
          rw [e', ob_s, ob_s]
          have kA' := agx_tr (agx_wr (p := 30) (j := d) (v := nI i) A (by rfl)) kA
          refine ⟨_, rfl, m', rfl, V', fun j hj => ?_, kA', ?_, ?_⟩
          · rw [k30 j (by omega), if_neg (by omega)]
          · rw [kL, em]; congr 1; omega
          · rw [em]
            by_cases hlt : max (max L d) (d + fmx (tm W used at_) i) < d + 1 + sco W (used ||| 2 ^ i) i
            · left
              have em2 : max (fmx (tm W used at_) i) (tm W used at_ i) = tm W used at_ i := by omega
              rw [em2]
              refine ⟨by omega, i, by omega, rfl, fun q hq => ?_, fun j hj => ?_⟩
              · have := fmx_ge (tm W used at_) i q hq
                omega
              · rw [k31 j (by omega), if_pos hlt]
                by_cases c1 : j < d
                · rw [if_pos (by omega), if_neg (by omega), if_pos c1]
                · by_cases c2 : j = d
                  · rw [if_pos (by omega), if_pos c2, if_neg c1, if_pos c2]
                  · rw [if_neg (by omega), if_neg c1, if_neg c2, show j - (d + 1) = j - d - 1 by omega]
            · have keep : ∀ j, j < max (max L d) (d + fmx (tm W used at_) i) → mI m' 31 j = mI m 31 j := fun j hj => by
                rw [k31 j (by omega), if_neg hlt, hlgc j hj]
              rcases hcase with ⟨c1, w, c2, c3, c4, c5⟩ | ⟨c1, c2⟩
              · left
                have em2 : max (fmx (tm W used at_) i) (tm W used at_ i) = fmx (tm W used at_) i := by omega
                rw [em2]
                exact ⟨c1, w, by omega, c3, c4, fun j hj => by rw [keep j (by omega)]; exact c5 j hj⟩
              · right
                exact ⟨by omega, fun j hj => by rw [keep j (by omega)]; exact c2 j hj⟩) (by
        rintro z ⟨m, rfl, V, j30, A, jL, hcase⟩
        unfold m_X0_extend_b37
        simp (disch := omega) only [zz_0, zz_1, zz_2, zz_3, zz_4, zz_5, zz_6, zz_7, zz_8, zz_9, zz_10, zz_11, zz_12, zz_13, zz_14, zz_15, zz_16, zz_20, zz_24, zz_25, zz_26, zz_28, zz_31, zz_32, zz_36, zz_39, zz_40, zz_48, zz_49, zz_50, zz_57, zz_59, zz_60, zz_64, zz_72, zz_97, zz_99, zz_100, zz_122, zz_144, zz_161, zz_255, zz_256, zz_288, zz_322, zz_384, zz_400, zz_448, zz_600, zz_1280, zz_1000000, V.1, n_le]
        rw [if_pos (by omega)]
        exact ⟨_, rfl, V, j30, A, jL, hcase⟩)
      rw [← sco_eq wf] at qL hcase
      refine ⟨q, eq, V2, q30, ?_, fun i hi => ?_, qA⟩
      · rw [qL]; congr 1; omega
      · rcases hcase with ⟨c1, w, c2, c3, c4, c5⟩ | ⟨c1, c2⟩
        · have hpos : 0 < sco W used at_ := by omega
          obtain ⟨f1, f2, f3⟩ := fpn_ok wf hpos
          have hw : w = fpn W used at_ := by
            have h1 : ¬ w < fpn W used at_ := fun q => f3 w q c3
            have h2 : ¬ fpn W used at_ < w := fun q => c4 _ q f2
            omega
          rw [c5 i (by omega), if_pos (show L < d + sco W used at_ by omega)]
          by_cases d1 : i < d
          · rw [if_pos d1, if_pos d1]
          · rw [if_neg d1, if_neg d1]
            by_cases d2 : i = d
            · rw [if_pos d2, d2, show d - d = 0 by omega, cseq_0, hw]
            · rw [if_neg d2, show i - d = (i - d - 1) + 1 by omega, cseq_s, ← hw]
              rfl
        · rw [c2 i (by omega)]
          by_cases d1 : L < d
          · rw [if_pos d1, if_pos (show L < d + sco W used at_ by omega), if_pos (show i < d by omega)]
          · rw [if_neg d1, if_neg (show ¬ L < d + sco W used at_ by omega)]
    · rw [if_neg (by rw [show (6 : Int32) = nI 6 from rfl, n_lt (by omega) (by decide)]; exact hd6)]
      have hz : sco W used at_ = 0 := by omega
      refine ⟨m1', rfl, V1, g30, ?_, fun i hi => ?_, A1⟩
      · rw [gL, hz]; rfl
      · rw [hz, Nat.add_zero] at hi ⊢
        rw [g31 i hi]
        by_cases d1 : L < d
        · rw [if_pos d1, if_pos d1, if_pos (by omega)]
        · rw [if_neg d1, if_neg d1]
theorem C_findChain {W : Cn} (wf : WF W) {mm : Mm} (hV : VB W mm) : ∃ m, m_X0_findChain mm = some m ∧ mI m 25 0 = nI (sco W 0 6) ∧ (∀ i, i < sco W 0 6 → mI m 31 i = nI (cseq W i 0 6)) ∧ agx [(25, some 0), (30, none), (31, none)] mm m := by
  have hf := wf.1
  have pp := Nat.two_pow_pos (fk W)
  have h0 : frn W 0 = fk W := by
    unfold frn
    exact fb_ct_all.mpr (fun k _ => by simp)
  obtain ⟨m, e, _, _, gL, g31, A⟩ := C_extend wf 12 0 0 6 (by omega) (by omega) (by decide) z0 0 z0 (sI mm 25 0 (nI 0)) (VE_wr ⟨hV.1, hV.2.1⟩ (by decide) (by decide) _) (fun i hi => absurd hi (Nat.not_lt_zero i)) (rdI_eq _ _ _ _) (by decide) (fun i hi => absurd hi (Nat.not_lt_zero i))
  unfold m_X0_findChain
  rw [rdI_nj _ _ _ _ (by decide), hV.1]
  simp (disch := omega) only [zz_0, zz_1, zz_2, zz_3, zz_4, zz_5, zz_6, zz_7, zz_8, zz_9, zz_10, zz_11, zz_12, zz_13, zz_14, zz_15, zz_16, zz_20, zz_24, zz_25, zz_26, zz_28, zz_31, zz_32, zz_36, zz_39, zz_40, zz_48, zz_49, zz_50, zz_57, zz_59, zz_60, zz_64, zz_72, zz_97, zz_99, zz_100, zz_122, zz_144, zz_161, zz_255, zz_256, zz_288, zz_322, zz_384, zz_400, zz_448, zz_600, zz_1280, zz_1000000, n_shl1, n_sub, o_id]
  have e6 : nxS W 6 = 2 ^ fk W - 1 := by unfold nxS; rw [if_neg (by decide)]
  rw [e6] at e
  refine ⟨m, e, ?_, fun i hi => ?_, agx_tr (agx_wr (agx_rf _) (by rfl)) A⟩
  · rw [gL]; congr 1; omega
  · rw [g31 i (by omega), if_pos (by omega), if_neg (by omega)]
    rfl
theorem M_chainBy {W : Cn} {st c : Nat} {mm : Mm} (h : VM W st c mm) (wf : WF W) {set at_ p : Nat} (hs : set < 64) (ha : at_ < 7) (hp : p < 6) (hsc : set.testBit p = false → mI mm 69 (64 * p + (set ||| 2 ^ p)) = nI (sco W (set ||| 2 ^ p) p)) : m_X12_chainBy (nI set) (nI at_) (nI p) mm = some (nI (tm W set at_ p)) := by
  have ob : set ||| 2 ^ p < 2 ^ 6 := or_b hs (pow_le hp)
  have pb : 2 ^ p < 2 ^ 6 := pow_le hp
  unfold m_X12_chainBy tm nogo
  simp (disch := omega) only [zz_0, zz_1, zz_2, zz_3, zz_4, zz_5, zz_6, zz_7, zz_8, zz_9, zz_10, zz_11, zz_12, zz_13, zz_14, zz_15, zz_16, zz_20, zz_24, zz_25, zz_26, zz_28, zz_31, zz_32, zz_36, zz_39, zz_40, zz_48, zz_49, zz_50, zz_57, zz_59, zz_60, zz_64, zz_72, zz_97, zz_99, zz_100, zz_122, zz_144, zz_161, zz_255, zz_256, zz_288, zz_322, zz_384, zz_400, zz_448, zz_600, zz_1280, zz_1000000, n_hasM, b2_0]
  cases hb : set.testBit p with
  | true =>
    rw [if_neg (by decide), bs_l]
    rfl
  | false =>
    have hsc := hsc hb
    rw [if_pos rfl]
    simp (disch := omega) only [n_le, n_shl1, fa_or, n_mul, nI_add, n_grd, n_ix, hsc]
    by_cases h6 : 6 ≤ at_
    · rw [if_pos h6, bs_l, bs_r, decide_eq_false (by omega)]
      rfl
    · rw [if_neg h6, M_hasSworn h wf (by omega) hp, ob_s, decide_eq_true (show at_ < 6 by omega)]
      cases (swr W at_).testBit p with
      | false =>
        simp only [b2_0, if_true, bs_r, bs_l]
        rfl
      | true =>
        simp only [b2_0, Bool.true_eq_false, if_false, bs_l, bs_r]
        rfl
theorem M_score {W : Cn} {c : Nat} {mm : Mm} (h : VM W 0 c mm) (wf : WF W) : ∃ m, whileF FU m_X12_chain_b24 (nI (2 ^ fk W) - nI 1, mm) = some m ∧ VM W 0 c m ∧ ∀ set at_, set < 2 ^ fk W → at_ < 7 → mI m 69 (64 * at_ + set) = nI (sco W set at_) := by
  have hf := wf.1
  have p6 : 2 ^ fk W ≤ 2 ^ 6 := Nat.pow_le_pow_right (by decide) hf
  refine loop_n (body := m_X12_chain_b24) (a := (nI (2 ^ fk W) - nI 1, mm)) (fun i z => ∃ m, z = (nI (2 ^ fk W - i) - nI 1, m) ∧ VM W 0 c m ∧ ∀ set at_, 2 ^ fk W - i ≤ set → set < 2 ^ fk W → at_ < 7 → mI m 69 (64 * at_ + set) = nI (sco W set at_)) (fun m => VM W 0 c m ∧ ∀ set at_, set < 2 ^ fk W → at_ < 7 → mI m 69 (64 * at_ + set) = nI (sco W set at_)) (2 ^ fk W) (FU_big (by omega)) ⟨mm, rfl, h, fun set at_ h1 h2 => by omega⟩ ?_ ?_
  · rintro i z hi ⟨m, rfl, V, hz⟩
    obtain ⟨s, hs⟩ : ∃ s, 2 ^ fk W - i = s + 1 := ⟨2 ^ fk W - i - 1, by omega⟩
    have hs2 : 2 ^ fk W - (i + 1) = s := by omega
    rw [hs] at hz ⊢
    rw [hs2]
    obtain ⟨m2, e2, V2, y1, y2⟩ := loop_n (body := m_X12_chain_b31 (nI (s + 1) - nI 1, m)) (a := (nI 0, m)) (fun a z => ∃ m', z = (nI a, m') ∧ VM W 0 c m' ∧ (∀ set at_, s + 1 ≤ set → set < 2 ^ fk W → at_ < 7 → mI m' 69 (64 * at_ + set) = nI (sco W set at_)) ∧ (∀ at_, at_ < a → mI m' 69 (64 * at_ + s) = nI (sco W s at_))) (fun m' => VM W 0 c m' ∧ (∀ set at_, s + 1 ≤ set → set < 2 ^ fk W → at_ < 7 → mI m' 69 (64 * at_ + set) = nI (sco W set at_)) ∧ (∀ at_, at_ < 7 → mI m' 69 (64 * at_ + s) = nI (sco W s at_))) 7 (FU_big (by decide)) ⟨m, rfl, V, hz, fun at_ ha => absurd ha (Nat.not_lt_zero at_)⟩ (by
      rintro a z ha ⟨m', rfl, V', w1, w2⟩
      have v24 := V'.2.1
      have e3 : whileF FU (m_X12_chain_b44 (nI s, m) (nI a, m')) (nI 0, nI 0) = some (nI (sco W s a)) := by
        rw [sco_eq wf]
        have tl : ∀ p, p < fk W → tm W s a p ≤ 7 := fun p hp => by
          have h1 := fmx_ge (tm W s a) (fk W) p hp
          rw [← sco_eq wf] at h1
          have h2 := sco_le wf _ s a (Nat.le_refl _)
          have h3 := frn_le W s
          omega
        refine loop_fo (fun (x : Nat) i => (nI x, nI i)) _ 0 (fk W) (fun x => nI x) (fun i x => x ≤ 7) rfl (FU_big (by omega)) (by decide) (fun p x hp hx => ?_) ?_ ?_
        · have := tl p hp; omega
        · intro p x hp hx
          have t1 := tl p hp
          have ecb := M_chainBy V' wf (set := s) (at_ := a) (p := p) (by omega) ha (by omega) (fun hb => by
            have h1 : s ||| 2 ^ p = s + 2 ^ p := add_or (fun i => by
              rw [pow_bit]
              rintro ⟨h2, h3⟩
              rw [decide_eq_true_eq] at h3
              rw [h3, hb] at h2; cases h2)
            have h2 : s ||| 2 ^ p < 2 ^ fk W := or_b (by omega) (pow_le hp)
            have h3 := Nat.two_pow_pos p
            exact w1 _ p (by omega) h2 (by omega))
          unfold m_X12_chain_b44
          simp (disch := omega) only [zz_0, zz_1, zz_2, zz_3, zz_4, zz_5, zz_6, zz_7, zz_8, zz_9, zz_10, zz_11, zz_12, zz_13, zz_14, zz_15, zz_16, zz_20, zz_24, zz_25, zz_26, zz_28, zz_31, zz_32, zz_36, zz_39, zz_40, zz_48, zz_49, zz_50, zz_57, zz_59, zz_60, zz_64, zz_72, zz_97, zz_99, zz_100, zz_122, zz_144, zz_161, zz_255, zz_256, zz_288, zz_322, zz_384, zz_400, zz_448, zz_600, zz_1280, zz_1000000, v24, n_le, ecb, ob_s, n_grt, nI_add]
          rw [if_neg (by omega)]
        · intro x hx
          unfold m_X12_chain_b44
          simp (disch := omega) only [zz_0, zz_1, zz_2, zz_3, zz_4, zz_5, zz_6, zz_7, zz_8, zz_9, zz_10, zz_11, zz_12, zz_13, zz_14, zz_15, zz_16, zz_20, zz_24, zz_25, zz_26, zz_28, zz_31, zz_32, zz_36, zz_39, zz_40, zz_48, zz_49, zz_50, zz_57, zz_59, zz_60, zz_64, zz_72, zz_97, zz_99, zz_100, zz_122, zz_144, zz_161, zz_255, zz_256, zz_288, zz_322, zz_384, zz_400, zz_448, zz_600, zz_1280, zz_1000000, v24, n_le]
          rw [if_pos (by omega)]
      unfold m_X12_chain_b31
      simp (disch := omega) only [zz_0, zz_1, zz_2, zz_3, zz_4, zz_5, zz_6, zz_7, zz_8, zz_9, zz_10, zz_11, zz_12, zz_13, zz_14, zz_15, zz_16, zz_20, zz_24, zz_25, zz_26, zz_28, zz_31, zz_32, zz_36, zz_39, zz_40, zz_48, zz_49, zz_50, zz_57, zz_59, zz_60, zz_64, zz_72, zz_97, zz_99, zz_100, zz_122, zz_144, zz_161, zz_255, zz_256, zz_288, zz_322, zz_384, zz_400, zz_448, zz_600, zz_1280, zz_1000000, n_lt, n_sub, show s + 1 - 1 = s from rfl, e3, ob_s, n_mul, nI_add, n_grd, n_ix]
      rw [if_neg (by omega)]
      refine ⟨_, rfl, _, rfl, VM_wr V' (by omega) _ _, fun set at_ h1 h2 h3 => ?_, fun at_ h1 => ?_⟩
      · rw [rdI_sm, if_neg (by omega)]; exact w1 set at_ h1 h2 h3
      · rw [rdI_sm]
        by_cases e : at_ = a
        · rw [if_pos (by rw [e]), e]
        · rw [if_neg (by omega)]; exact w2 at_ (by omega)) (by
      rintro z ⟨m', rfl, V', w1, w2⟩
      unfold m_X12_chain_b31
      simp (disch := omega) only [zz_0, zz_1, zz_2, zz_3, zz_4, zz_5, zz_6, zz_7, zz_8, zz_9, zz_10, zz_11, zz_12, zz_13, zz_14, zz_15, zz_16, zz_20, zz_24, zz_25, zz_26, zz_28, zz_31, zz_32, zz_36, zz_39, zz_40, zz_48, zz_49, zz_50, zz_57, zz_59, zz_60, zz_64, zz_72, zz_97, zz_99, zz_100, zz_122, zz_144, zz_161, zz_255, zz_256, zz_288, zz_322, zz_384, zz_400, zz_448, zz_600, zz_1280, zz_1000000, n_lt]
      rw [if_pos (by omega)]
      exact ⟨_, rfl, V', w1, w2⟩)
    unfold m_X12_chain_b24
    simp only [zz_0, zz_1, zz_2, zz_3, zz_4, zz_5, zz_6, zz_7, zz_8, zz_9, zz_10, zz_11, zz_12, zz_13, zz_14, zz_15, zz_16, zz_20, zz_24, zz_25, zz_26, zz_28, zz_31, zz_32, zz_36, zz_39, zz_40, zz_48, zz_49, zz_50, zz_57, zz_59, zz_60, zz_64, zz_72, zz_97, zz_99, zz_100, zz_122, zz_144, zz_161, zz_255, zz_256, zz_288, zz_322, zz_384, zz_400, zz_448, zz_600, zz_1280, zz_1000000]
    rw [e2, ob_s]
    simp (disch := omega) only [n_m1, n_pm1, n_sub, show s + 1 - 1 = s from rfl, n_lt]
    rw [if_neg (by omega)]
    refine ⟨_, rfl, m2, rfl, V2, fun set at_ h1 h2 h3 => ?_⟩
    by_cases e : set = s
    · rw [e]; exact y2 at_ h3
    · exact y1 set at_ (by omega) h2 h3
  · rintro z ⟨m, rfl, V, hz⟩
    unfold m_X12_chain_b24
    rw [show 2 ^ fk W - 2 ^ fk W = 0 by omega] at *
    rw [if_pos (show (nI 0 - nI 1 : Int32) < 0 by decide)]
    exact ⟨_, rfl, V, fun set at_ h1 h2 => hz set at_ (by omega) h1 h2⟩
def cst2 (W : Cn) : Nat → Nat × Nat
  | 0 => (0, 6)
  | i + 1 => ((cst2 W i).1 ||| 2 ^ fpn W (cst2 W i).1 (cst2 W i).2, fpn W (cst2 W i).1 (cst2 W i).2)
theorem cst2_ok {W : Cn} (wf : WF W) : ∀ i, i ≤ sco W 0 6 → (cst2 W i).1 < 2 ^ fk W ∧ (cst2 W i).2 < 7 ∧ sco W (cst2 W i).1 (cst2 W i).2 + i = sco W 0 6
  | 0, _ => ⟨Nat.two_pow_pos _, (show 6 < 7 by decide), rfl⟩
  | i + 1, h => by
    obtain ⟨h1, h2, h3⟩ := cst2_ok wf i (by omega)
    have hpos : 0 < sco W (cst2 W i).1 (cst2 W i).2 := by omega
    obtain ⟨h4, h5, h6⟩ := fpn_ok wf hpos
    have h7 := sco_next wf hpos
    have hf := wf.1
    refine ⟨or_b h1 (pow_le h4), by show fpn W _ _ < 7; omega, ?_⟩
    show sco W ((cst2 W i).1 ||| 2 ^ fpn W (cst2 W i).1 (cst2 W i).2) (fpn W (cst2 W i).1 (cst2 W i).2) + (i + 1) = _
    omega
theorem cseq_st (W : Cn) : ∀ i k, cseq W (i + k) 0 6 = cseq W k (cst2 W i).1 (cst2 W i).2
  | 0, k => by rw [Nat.zero_add]; rfl
  | i + 1, k => by
    rw [show i + 1 + k = i + (k + 1) by omega, cseq_st W i (k + 1), cseq_s]
    rfl
theorem M_chainW {W : Cn} {c : Nat} {m : Mm} (h : VM W 0 c m) (wf : WF W) (hsc : ∀ set at_, set < 2 ^ fk W → at_ < 7 → mI m 69 (64 * at_ + set) = nI (sco W set at_)) {k : Nat} (hk : k < sco W 0 6) : whileF FU (m_X12_chain_b147 (nI k) m) (0, 6, 0) = some (nI (cseq W k 0 6)) := by
  have hf := wf.1
  have p6 : 2 ^ fk W ≤ 2 ^ 6 := Nat.pow_le_pow_right (by decide) hf
  have s6 := sco_le wf _ 0 6 (Nat.le_refl _)
  have s7 := frn_le W 0
  obtain ⟨q, e, rfl⟩ := loop_n (body := m_X12_chain_b147 (nI k) m) (a := ((0 : Int32), (6 : Int32), (0 : Int32))) (fun i z => z = (nI (cst2 W i).1, nI (cst2 W i).2, nI i)) (fun q => q = nI (cseq W k 0 6)) (k + 1) (FU_big (by omega)) rfl (by
    rintro i z hi rfl
    obtain ⟨h1, h2, h3⟩ := cst2_ok wf i (by omega)
    have hpos : 0 < sco W (cst2 W i).1 (cst2 W i).2 := by omega
    obtain ⟨f1, f2, f3⟩ := fpn_ok wf hpos
    have hcur := hsc _ _ h1 h2
    have ecb : ∀ p, p < fk W → m_X12_chainBy (nI (cst2 W i).1) (nI (cst2 W i).2) (nI p) m = some (nI (tm W (cst2 W i).1 (cst2 W i).2 p)) := fun p hp => M_chainBy h wf (by omega) h2 (by omega) (fun hb => hsc _ p (or_b h1 (pow_le hp)) (by omega))
    have tl : ∀ p, p < fk W → tm W (cst2 W i).1 (cst2 W i).2 p ≤ sco W (cst2 W i).1 (cst2 W i).2 := fun p hp => by rw [sco_eq wf]; exact fmx_ge _ _ _ hp
    have ew : whileF FU (m_X12_chain_b156 m (nI (cst2 W i).1, nI (cst2 W i).2, nI i)) 0 = some (nI (fpn W (cst2 W i).1 (cst2 W i).2)) := by
      refine loop_seq (fun p => nI p) (fpn W (cst2 W i).1 (cst2 W i).2) rfl (FU_big (by omega)) (fun p hp => ?_) ?_
      · have t1 := tl p (by omega)
        have t2 := f3 p hp
        unfold m_X12_chain_b156
        simp (disch := omega) only [zz_0, zz_1, zz_2, zz_3, zz_4, zz_5, zz_6, zz_7, zz_8, zz_9, zz_10, zz_11, zz_12, zz_13, zz_14, zz_15, zz_16, zz_20, zz_24, zz_25, zz_26, zz_28, zz_31, zz_32, zz_36, zz_39, zz_40, zz_48, zz_49, zz_50, zz_57, zz_59, zz_60, zz_64, zz_72, zz_97, zz_99, zz_100, zz_122, zz_144, zz_161, zz_255, zz_256, zz_288, zz_322, zz_384, zz_400, zz_448, zz_600, zz_1280, zz_1000000, ecb, ob_s, n_mul, nI_add, n_grd, n_ix, hcur, n_eq]
        rw [if_neg t2]
      · have t1 := tl _ f1
        unfold m_X12_chain_b156
        simp (disch := omega) only [zz_0, zz_1, zz_2, zz_3, zz_4, zz_5, zz_6, zz_7, zz_8, zz_9, zz_10, zz_11, zz_12, zz_13, zz_14, zz_15, zz_16, zz_20, zz_24, zz_25, zz_26, zz_28, zz_31, zz_32, zz_36, zz_39, zz_40, zz_48, zz_49, zz_50, zz_57, zz_59, zz_60, zz_64, zz_72, zz_97, zz_99, zz_100, zz_122, zz_144, zz_161, zz_255, zz_256, zz_288, zz_322, zz_384, zz_400, zz_448, zz_600, zz_1280, zz_1000000, ecb, ob_s, n_mul, nI_add, n_grd, n_ix, hcur, n_eq]
        rw [if_pos f2]
    unfold m_X12_chain_b147
    rw [ew, ob_s]
    simp (disch := omega) only [zz_0, zz_1, zz_2, zz_3, zz_4, zz_5, zz_6, zz_7, zz_8, zz_9, zz_10, zz_11, zz_12, zz_13, zz_14, zz_15, zz_16, zz_20, zz_24, zz_25, zz_26, zz_28, zz_31, zz_32, zz_36, zz_39, zz_40, zz_48, zz_49, zz_50, zz_57, zz_59, zz_60, zz_64, zz_72, zz_97, zz_99, zz_100, zz_122, zz_144, zz_161, zz_255, zz_256, zz_288, zz_322, zz_384, zz_400, zz_448, zz_600, zz_1280, zz_1000000, n_lt, n_shl1, fa_or, nI_add]
    rw [if_neg (by omega)]
    exact ⟨_, rfl, rfl⟩) (by
    rintro z rfl
    unfold m_X12_chain_b147
    simp (disch := omega) only [n_lt]
    rw [if_pos (by omega)]
    refine ⟨_, rfl, ?_⟩
    have := cseq_st W k 0
    rw [Nat.add_zero] at this
    rw [this]
    rfl)
  exact e
