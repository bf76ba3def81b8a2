/-! L3: fits: both, and what is told of them -/
theorem M_findFits {W : Cn} {c : Nat} {mm : Mm} (h : VM W 0 c mm) (wf : WF W) (hc : symC (cl W)) {n : Nat} {kd wh tg : Nat → Nat} {x : Nat} (hG : VG n kd wh tg x mm) (hn : n ≤ 8) (k2 : ∀ j, kd j < 2) (w6 : ∀ j, wh j < 6) (t8 : ∀ j, tg j < 8) {p : Nat} (hp : p < fk W) (K : Int32) : ∃ m, m_X12_findFits (nI p) K mm = some m ∧ VK (fitF W n kd wh tg p) (kpv W p) K 50 m := by
  have hf := wf.1
  unfold m_X12_findFits
  have V0 : VM W 0 c (sI (sI (sI (sI (sI (sI mm 44 47 0) 44 48 (-2)) 44 49 1000000) 44 50 (-1)) 44 51 0) 44 52 0) := VM_wr44 (VM_wr44 (VM_wr44 (VM_wr44 (VM_wr44 (VM_wr44 h (by omega) _) (by omega) _) (by omega) _) (by omega) _) (by omega) _) (by omega) _
  have A0 : agx [(44, some 47), (44, some 48), (44, some 49), (44, some 50), (44, some 51), (44, some 52)] mm (sI (sI (sI (sI (sI (sI mm 44 47 0) 44 48 (-2)) 44 49 1000000) 44 50 (-1)) 44 51 0) 44 52 0) := agx_wr (agx_wr (agx_wr (agx_wr (agx_wr (agx_wr (agx_rf _) (by rfl)) (by rfl)) (by rfl)) (by rfl)) (by rfl)) (by rfl)
  have G0 := VG_agx hG A0 (by intro j; simp [covB]) (by rfl)
  have r44 : mI (sI (sI (sI (sI (sI (sI mm 44 47 0) 44 48 (-2)) 44 49 1000000) 44 50 (-1)) 44 51 0) 44 52 0) 44 47 = 0 ∧ mI (sI (sI (sI (sI (sI (sI mm 44 47 0) 44 48 (-2)) 44 49 1000000) 44 50 (-1)) 44 51 0) 44 52 0) 44 48 = -2 ∧ mI (sI (sI (sI (sI (sI (sI mm 44 47 0) 44 48 (-2)) 44 49 1000000) 44 50 (-1)) 44 51 0) 44 52 0) 44 49 = 1000000 ∧ mI (sI (sI (sI (sI (sI (sI mm 44 47 0) 44 48 (-2)) 44 49 1000000) 44 50 (-1)) 44 51 0) 44 52 0) 44 50 = -1 ∧ mI (sI (sI (sI (sI (sI (sI mm 44 47 0) 44 48 (-2)) 44 49 1000000) 44 50 (-1)) 44 51 0) 44 52 0) 44 51 = 0 ∧ mI (sI (sI (sI (sI (sI (sI mm 44 47 0) 44 48 (-2)) 44 49 1000000) 44 50 (-1)) 44 51 0) 44 52 0) 44 52 = 0 := by
    simp (disch := omega) only [rdI_nj, rdI_eq, and_self]
  generalize sI (sI (sI (sI (sI (sI mm 44 47 0) 44 48 (-2)) 44 49 1000000) 44 50 (-1)) 44 51 0) 44 52 0 = m0 at *
  obtain ⟨m1', e1, V1, G1, A1, z1⟩ := loop_n (body := m_X12_findFits_b35) (a := ((0 : Int32), m0)) (fun i z => ∃ m, z = (nI i, m) ∧ VM W 0 c m ∧ VG n kd wh tg x m ∧ (∀ j, mI m 44 j = mI m0 44 j) ∧ (∀ a, a < i → mI m 68 a = nI 0)) (fun m => VM W 0 c m ∧ VG n kd wh tg x m ∧ (∀ j, mI m 44 j = mI m0 44 j) ∧ (∀ a, a < 8 → mI m 68 a = nI 0)) 8 (FU_big (by decide)) ⟨m0, rfl, V0, G0, fun _ => rfl, fun a ha => absurd ha (Nat.not_lt_zero a)⟩ (by
    rintro i z hi ⟨m, rfl, V, G, A, hz⟩
    unfold m_X12_findFits_b35
    simp (disch := omega) only [zz_0, zz_1, zz_2, zz_3, zz_4, zz_5, zz_6, zz_7, zz_8, zz_9, zz_10, zz_11, zz_12, zz_13, zz_14, zz_15, zz_16, zz_20, zz_24, zz_25, zz_26, zz_28, zz_31, zz_32, zz_36, zz_39, zz_40, zz_48, zz_49, zz_50, zz_57, zz_59, zz_60, zz_64, zz_72, zz_97, zz_99, zz_100, zz_122, zz_144, zz_161, zz_255, zz_256, zz_288, zz_322, zz_384, zz_400, zz_448, zz_600, zz_1280, zz_1000000, nI_add, n_mul, n_sub, fa_or, fa_and, fb_xorI, n_div, n_rem, n_le, n_lt, n_eq, n_shl1, n_shr, n_andn, n_ix, n_grd, n_gdz, n_gbz, n_hasM, n_hasC, b2_0, b2_1, n_m1, ob_s, bs_l, bs_r, n_max, n_min, n_grt, n_les]
    rw [if_neg (by omega)]
    refine ⟨_, rfl, _, rfl, VM_wr V (by omega) _ _, VG_agx G (agx_wr (W := [(68, none)]) (agx_rf _) (by rfl)) (by intro j; rfl) (by rfl), fun j => by rw [rdI_ne _ _ _ _ (by decide)]; exact A j, fun a ha => ?_⟩
    rw [rdI_sm]
    by_cases e : a = i
    · rw [if_pos e]
    · rw [if_neg e]; exact hz a (by omega)) (by
    rintro z ⟨m, rfl, V, G, A, hz⟩
    unfold m_X12_findFits_b35
    simp (disch := omega) only [zz_0, zz_1, zz_2, zz_3, zz_4, zz_5, zz_6, zz_7, zz_8, zz_9, zz_10, zz_11, zz_12, zz_13, zz_14, zz_15, zz_16, zz_20, zz_24, zz_25, zz_26, zz_28, zz_31, zz_32, zz_36, zz_39, zz_40, zz_48, zz_49, zz_50, zz_57, zz_59, zz_60, zz_64, zz_72, zz_97, zz_99, zz_100, zz_122, zz_144, zz_161, zz_255, zz_256, zz_288, zz_322, zz_384, zz_400, zz_448, zz_600, zz_1280, zz_1000000, nI_add, n_mul, n_sub, fa_or, fa_and, fb_xorI, n_div, n_rem, n_le, n_lt, n_eq, n_shl1, n_shr, n_andn, n_ix, n_grd, n_gdz, n_gbz, n_hasM, n_hasC, b2_0, b2_1, n_m1, ob_s, bs_l, bs_r, n_max, n_min, n_grt, n_les]
    rw [if_pos (by omega)]
    exact ⟨_, rfl, V, G, A, hz⟩)
  rw [e1, ob_s, o_id]
  have K0 : VK (fitF W n kd wh tg p) (kpv W p) K 0 m1' := by
    refine ⟨?_, fun k hk e => ?_, ?_, ?_, ?_, ?_, z1⟩
    · rw [A1]; exact r44.1
    · rw [A1]; exact r44.2.1
    · rw [A1]; exact r44.2.2.1
    · rw [A1]; exact r44.2.2.2.1
    · rw [A1]; exact r44.2.2.2.2.1
    · rw [A1]; exact r44.2.2.2.2.2
  refine loop_n (body := m_X12_findFits_b56 (nI p) K) (a := ((0 : Int32), m1')) (fun v z => ∃ m v0 r0, z = (nI v, m) ∧ VM (upVR W p v0 r0) 0 c m ∧ VG n kd wh tg x m ∧ VK (fitF W n kd wh tg p) (kpv W p) K (5 * v) m) (fun m => VK (fitF W n kd wh tg p) (kpv W p) K 50 m) 10 (FU_big (by decide)) ⟨_, wl W p, rm W p, rfl, by rw [upVR_id]; exact V1, G1, K0⟩ ?_ ?_
  · rintro v z hv ⟨m, v0, r0, rfl, V, G, hK⟩
    obtain ⟨m2, e2, w0, s0, V2, G2, K2⟩ := loop_n (body := m_X12_findFits_b65 (nI p) K (nI v, m)) (a := (nI 0, m)) (fun r z => ∃ m' v0 r0, z = (nI r, m') ∧ VM (upVR W p v0 r0) 0 c m' ∧ VG n kd wh tg x m' ∧ VK (fitF W n kd wh tg p) (kpv W p) K (5 * v + r) m') (fun m' => ∃ v0 r0, VM (upVR W p v0 r0) 0 c m' ∧ VG n kd wh tg x m' ∧ VK (fitF W n kd wh tg p) (kpv W p) K (5 * (v + 1)) m') 5 (FU_big (by decide)) ⟨m, v0, r0, rfl, V, G, hK⟩ (by
      rintro r z hr ⟨m', v1, r1, rfl, V', G', K'⟩
      have i1 : (5 * v + r) / 5 = v := by omega
      have i2 : (5 * v + r) % 5 = r := by omega
      have V3 : VM (upVR W p v r) 0 c (sI (sI m' 56 p (nI v)) 57 p (nI r)) := by
        have := VM_room (VM_will V' p v) p r
        rwa [upVR_tw] at this
      have A3 : agx [(56, none), (57, none)] m' (sI (sI m' 56 p (nI v)) 57 p (nI r)) := agx_wr (agx_wr (agx_rf _) (by rfl)) (by rfl)
      have G3 := VG_agx G' A3 (by intro j; rfl) (by rfl)
      have K3 : VK (fitF W n kd wh tg p) (kpv W p) K (5 * v + r) (sI (sI m' 56 p (nI v)) 57 p (nI r)) := by
        unfold VK at K' ⊢
        simp (disch := omega) only [rdI_ne]
        exact K'
      have wf3 := WF_VR wf (p := p) (v := v) (r := r) (by omega) (by omega)
      have es := M_isSo V3 wf3 hc G3 hn k2 w6 t8
      have hfit := isSo_fit (W := W) (n := n) (kd := kd) (wh := wh) (tg := tg) k2 (x := 5 * v + r) hp
      rw [i1, i2] at hfit
      rw [hfit] at es
      unfold m_X12_findFits_b65
      simp (disch := omega) only [zz_0, zz_1, zz_2, zz_3, zz_4, zz_5, zz_6, zz_7, zz_8, zz_9, zz_10, zz_11, zz_12, zz_13, zz_14, zz_15, zz_16, zz_20, zz_24, zz_25, zz_26, zz_28, zz_31, zz_32, zz_36, zz_39, zz_40, zz_48, zz_49, zz_50, zz_57, zz_59, zz_60, zz_64, zz_72, zz_97, zz_99, zz_100, zz_122, zz_144, zz_161, zz_255, zz_256, zz_288, zz_322, zz_384, zz_400, zz_448, zz_600, zz_1280, zz_1000000, n_le, n_grd, n_ix, es, ob_s, b2_0]
      rw [if_neg (by omega)]
      cases hF : fitF W n kd wh tg p (5 * v + r) with
      | false =>
        rw [if_pos rfl, ob_s, nI_add]
        refine ⟨_, rfl, _, v, r, rfl, V3, G3, ?_⟩
        obtain ⟨a47, a48, a49, a50, a51, a52, a68⟩ := K3
        refine ⟨?_, fun k hk e => ?_, ?_, ?_, ?_, ?_, fun t ht => ?_⟩
        · rw [a47, show 5 * v + (r + 1) = 5 * v + r + 1 from rfl, fb_ct_succ, hF]; rfl
        · rw [a48 k hk e]
          unfold akK
          rw [show 5 * v + (r + 1) = 5 * v + r + 1 from rfl, fst1, hF]
          cases fst1 (fun x => fitF W n kd wh tg p x && decide (fb_ct (fitF W n kd wh tg p) x = k)) (5 * v + r) <;> rfl
        · rw [a49]
          unfold low
          rw [show 5 * v + (r + 1) = 5 * v + r + 1 from rfl, fst1, hF]
          cases fst1 (fitF W n kd wh tg p) (5 * v + r) <;> rfl
        · rw [a50]
          show _ = enc1 (if fitF W n kd wh tg p (5 * v + r) then some ((5 * v + r) / 5) else hig (fitF W n kd wh tg p) (5 * v + r))
          rw [hF]; rfl
        · rw [a51]
          unfold bsG
          rw [show 5 * v + (r + 1) = 5 * v + r + 1 from rfl, fo, hF]
          simp
        · rw [a52]
          unfold bsG
          rw [show 5 * v + (r + 1) = 5 * v + r + 1 from rfl, fo, hF]
          simp
        · rw [a68 t ht, show 5 * v + (r + 1) = 5 * v + r + 1 from rfl, fb_ct_succ, hF]; rfl
      | true =>
        have hkv : kby (upVR W p v r) 0 p = kpv W p (5 * v + r) := by
          have := kby_vp (W := W) (p := p) (x := 5 * v + r)
          rwa [i1, i2] at this
        obtain ⟨m4, e4, K4, V4⟩ := M_noteFit V3 wf3 hc K3 hF (by omega) (p := p) (by omega) hkv
        rw [i1, i2] at e4
        have fr := fr_X12_noteFit e4
        rw [if_neg (by decide), e4, ob_s, ob_s, nI_add]
        exact ⟨_, rfl, m4, v, r, rfl, V4, VG_agx G3 fr (by intro j; simp [covB]) (by rfl), K4⟩) (by
      rintro z ⟨m', v1, r1, rfl, V', G', K'⟩
      unfold m_X12_findFits_b65
      simp (disch := omega) only [zz_0, zz_1, zz_2, zz_3, zz_4, zz_5, zz_6, zz_7, zz_8, zz_9, zz_10, zz_11, zz_12, zz_13, zz_14, zz_15, zz_16, zz_20, zz_24, zz_25, zz_26, zz_28, zz_31, zz_32, zz_36, zz_39, zz_40, zz_48, zz_49, zz_50, zz_57, zz_59, zz_60, zz_64, zz_72, zz_97, zz_99, zz_100, zz_122, zz_144, zz_161, zz_255, zz_256, zz_288, zz_322, zz_384, zz_400, zz_448, zz_600, zz_1280, zz_1000000, n_le]
      rw [if_pos (by omega)]
      exact ⟨_, rfl, v1, r1, V', G', K'⟩)
    unfold m_X12_findFits_b56
    simp (disch := omega) only [zz_0, zz_1, zz_2, zz_3, zz_4, zz_5, zz_6, zz_7, zz_8, zz_9, zz_10, zz_11, zz_12, zz_13, zz_14, zz_15, zz_16, zz_20, zz_24, zz_25, zz_26, zz_28, zz_31, zz_32, zz_36, zz_39, zz_40, zz_48, zz_49, zz_50, zz_57, zz_59, zz_60, zz_64, zz_72, zz_97, zz_99, zz_100, zz_122, zz_144, zz_161, zz_255, zz_256, zz_288, zz_322, zz_384, zz_400, zz_448, zz_600, zz_1280, zz_1000000, n_le]
    rw [if_neg (by omega), e2, ob_s, nI_add]
    exact ⟨_, rfl, m2, w0, s0, rfl, V2, G2, K2⟩
  · rintro z ⟨m, v0, r0, rfl, V, G, hK⟩
    unfold m_X12_findFits_b56
    simp (disch := omega) only [zz_0, zz_1, zz_2, zz_3, zz_4, zz_5, zz_6, zz_7, zz_8, zz_9, zz_10, zz_11, zz_12, zz_13, zz_14, zz_15, zz_16, zz_20, zz_24, zz_25, zz_26, zz_28, zz_31, zz_32, zz_36, zz_39, zz_40, zz_48, zz_49, zz_50, zz_57, zz_59, zz_60, zz_64, zz_72, zz_97, zz_99, zz_100, zz_122, zz_144, zz_161, zz_255, zz_256, zz_288, zz_322, zz_384, zz_400, zz_448, zz_600, zz_1280, zz_1000000, n_le]
    rw [if_pos (by omega)]
    exact ⟨_, rfl, hK⟩
theorem bsG_bit (F : Nat → Bool) (g : Nat → Nat) (i j : Nat) : (bsG F g i).testBit j = true ↔ ∃ x, x < i ∧ F x = true ∧ g x = j := by
  unfold bsG
  rw [fo_or_bit (fun x => if F x = true then 2 ^ g x else 0)]
  simp only [ite_bit]
/-- the one value of all that fit -/
def surR (F : Nat → Bool) (g : Nat → Nat) : Option Nat := fst1 (fun v => decide (bsG F g 50 = 2 ^ v)) 10
theorem bsG_b {F : Nat → Bool} {g : Nat → Nat} (hg : ∀ x, x < 50 → g x < 10) : bsG F g 50 < 1024 := by
  refine fo_inv (n := 50) (fun _ x => x < 2 ^ 10) (show 0 < 2 ^ 10 by decide) (fun i x hi hx => or_b hx ?_) _ (Nat.le_refl _)
  exact ite_b (hg i hi)
theorem M_sure {F : Nat → Bool} {g : Nat → Nat} (hg : ∀ x, x < 50 → g x < 10) : m_X12_sure (nI (bsG F g 50)) = some (enc1 (surR F g)) := by
  have hb := bsG_b (F := F) hg
  unfold m_X12_sure
  have hw := loop_fst (body := m_X12_sure_b2 (nI (bsG F g 50))) (s0 := (0 : Int32)) (fun i => nI i) (fun v => decide (bsG F g 50 = 2 ^ v)) 10 (fun k => .inr (nI k)) (.inl ()) rfl (FU_big (by decide)) (by
    intro i hi hq
    have : 2 ^ i < 2 ^ 10 := pow_le hi
    unfold m_X12_sure_b2
    simp (disch := omega) only [zz_0, zz_1, zz_2, zz_3, zz_4, zz_5, zz_6, zz_7, zz_8, zz_9, zz_10, zz_11, zz_12, zz_13, zz_14, zz_15, zz_16, zz_20, zz_24, zz_25, zz_26, zz_28, zz_31, zz_32, zz_36, zz_39, zz_40, zz_48, zz_49, zz_50, zz_57, zz_59, zz_60, zz_64, zz_72, zz_97, zz_99, zz_100, zz_122, zz_144, zz_161, zz_255, zz_256, zz_288, zz_322, zz_384, zz_400, zz_448, zz_600, zz_1280, zz_1000000, nI_add, n_mul, n_sub, fa_or, fa_and, fb_xorI, n_div, n_rem, n_le, n_lt, n_eq, n_shl1, n_shr, n_andn, n_ix, n_grd, n_gdz, n_gbz, n_hasM, n_hasC, b2_0, b2_1, n_m1, ob_s, bs_l, bs_r, n_max, n_min, n_grt, n_les]
    rw [if_neg (by omega), if_neg (by simpa using hq)]) (by
    intro i hi hq
    have : 2 ^ i < 2 ^ 10 := pow_le hi
    unfold m_X12_sure_b2
    simp (disch := omega) only [zz_0, zz_1, zz_2, zz_3, zz_4, zz_5, zz_6, zz_7, zz_8, zz_9, zz_10, zz_11, zz_12, zz_13, zz_14, zz_15, zz_16, zz_20, zz_24, zz_25, zz_26, zz_28, zz_31, zz_32, zz_36, zz_39, zz_40, zz_48, zz_49, zz_50, zz_57, zz_59, zz_60, zz_64, zz_72, zz_97, zz_99, zz_100, zz_122, zz_144, zz_161, zz_255, zz_256, zz_288, zz_322, zz_384, zz_400, zz_448, zz_600, zz_1280, zz_1000000, nI_add, n_mul, n_sub, fa_or, fa_and, fb_xorI, n_div, n_rem, n_le, n_lt, n_eq, n_shl1, n_shr, n_andn, n_ix, n_grd, n_gdz, n_gbz, n_hasM, n_hasC, b2_0, b2_1, n_m1, ob_s, bs_l, bs_r, n_max, n_min, n_grt, n_les]
    rw [if_neg (by omega), if_pos (by simpa using hq)]) (by
    unfold m_X12_sure_b2
    simp (disch := omega) only [zz_0, zz_1, zz_2, zz_3, zz_4, zz_5, zz_6, zz_7, zz_8, zz_9, zz_10, zz_11, zz_12, zz_13, zz_14, zz_15, zz_16, zz_20, zz_24, zz_25, zz_26, zz_28, zz_31, zz_32, zz_36, zz_39, zz_40, zz_48, zz_49, zz_50, zz_57, zz_59, zz_60, zz_64, zz_72, zz_97, zz_99, zz_100, zz_122, zz_144, zz_161, zz_255, zz_256, zz_288, zz_322, zz_384, zz_400, zz_448, zz_600, zz_1280, zz_1000000, nI_add, n_mul, n_sub, fa_or, fa_and, fb_xorI, n_div, n_rem, n_le, n_lt, n_eq, n_shl1, n_shr, n_andn, n_ix, n_grd, n_gdz, n_gbz, n_hasM, n_hasC, b2_0, b2_1, n_m1, ob_s, bs_l, bs_r, n_max, n_min, n_grt, n_les]
    rw [if_pos (by omega)])
  rw [hw]
  unfold surR
  cases fst1 (fun v => decide (bsG F g 50 = 2 ^ v)) 10 <;> rfl
theorem C_sure {S : Sk} {mm : Mm} {F : Nat → Bool} {g : Nat → Nat} (hg : ∀ x, x < 50 → g x < 10) {A : Nat} (hA : (sK S A).2 = 50) (h0 : mI mm 40 0 = nI (fb_ct F 50)) (hv : ∀ x, x < 50 → F x = true → mI mm A (fb_ct F x) = nI (g x)) : m_X4_sure S A mm = some (enc1 (surR F g)) := by
  have cl := fb_ct_le F 50
  unfold m_X4_sure
  by_cases hz : fb_ct F 50 = 0
  · have e1 : whileF FU (m_X4_sure_b2 A mm S) 1 = some (.inl ()) := by
      refine loop_seq (fun _ : Nat => (1 : Int32)) 0 rfl (FU_big (by decide)) (fun i hi => by omega) ?_
      unfold m_X4_sure_b2
      rw [h0, hz]
      rfl
    rw [e1, bs_l, h0, hz, if_pos (by decide)]
    have : surR F g = none := by
      unfold surR
      refine fst1_none.mpr (fun v hv => ?_)
      have hz2 := fb_ct_zero.mp hz
      have : bsG F g 50 = 0 := by
        apply Nat.eq_of_testBit_eq
        intro j
        rw [Nat.zero_testBit]
        cases hb : (bsG F g 50).testBit j with
        | false => rfl
        | true =>
          obtain ⟨x, h1, h2, _⟩ := (bsG_bit F g 50 j).mp hb
          rw [hz2 x h1] at h2; cases h2
      rw [this]
      have := Nat.two_pow_pos v
      exact decide_eq_false (by omega)
    rw [this]; rfl
  · obtain ⟨x0, hx0, hF0, hc0⟩ := fb_ct_kth (p := F) (k := 0) (n := 50) (by omega)
    have r0 : mI mm A 0 = nI (g x0) := by
      have := hv x0 hx0 hF0
      rwa [hc0] at this
    have hg0 := hg x0 hx0
    have hval : ∀ i, i < fb_ct F 50 → ∃ x, x < 50 ∧ F x = true ∧ mI mm A i = nI (g x) := fun i hi => by
      obtain ⟨x, h1, h2, h3⟩ := fb_ct_kth (p := F) hi
      refine ⟨x, h1, h2, ?_⟩
      have := hv x h1 h2
      rwa [h3] at this
    have hw := loop_fst (body := m_X4_sure_b2 A mm S) (s0 := (1 : Int32)) (fun i => nI (i + 1)) (fun i => decide (¬ mI mm A (i + 1) = nI (g x0))) (fb_ct F 50 - 1) (fun _ => .inr (-1)) (.inl ()) rfl (FU_big (by omega)) (by
      intro i hi hq
      simp only [decide_eq_false_iff_not, Classical.not_not] at hq
      unfold m_X4_sure_b2
      simp (disch := omega) only [zz_0, zz_1, zz_2, zz_3, zz_4, zz_5, zz_6, zz_7, zz_8, zz_9, zz_10, zz_11, zz_12, zz_13, zz_14, zz_15, zz_16, zz_20, zz_24, zz_25, zz_26, zz_28, zz_31, zz_32, zz_36, zz_39, zz_40, zz_48, zz_49, zz_50, zz_57, zz_59, zz_60, zz_64, zz_72, zz_97, zz_99, zz_100, zz_122, zz_144, zz_161, zz_255, zz_256, zz_288, zz_322, zz_384, zz_400, zz_448, zz_600, zz_1280, zz_1000000, nI_add, n_mul, n_sub, fa_or, fa_and, fb_xorI, n_div, n_rem, n_le, n_lt, n_eq, n_shl1, n_shr, n_andn, n_ix, n_grd, n_gdz, n_gbz, n_hasM, n_hasC, b2_0, b2_1, n_m1, ob_s, bs_l, bs_r, n_max, n_min, n_grt, n_les, h0, hA, r0, hq]
      rw [if_neg (by omega), if_pos trivial]) (by
      intro i hi hq
      simp only [decide_eq_true_eq] at hq
      unfold m_X4_sure_b2
      simp (disch := omega) only [zz_0, zz_1, zz_2, zz_3, zz_4, zz_5, zz_6, zz_7, zz_8, zz_9, zz_10, zz_11, zz_12, zz_13, zz_14, zz_15, zz_16, zz_20, zz_24, zz_25, zz_26, zz_28, zz_31, zz_32, zz_36, zz_39, zz_40, zz_48, zz_49, zz_50, zz_57, zz_59, zz_60, zz_64, zz_72, zz_97, zz_99, zz_100, zz_122, zz_144, zz_161, zz_255, zz_256, zz_288, zz_322, zz_384, zz_400, zz_448, zz_600, zz_1280, zz_1000000, nI_add, n_mul, n_sub, fa_or, fa_and, fb_xorI, n_div, n_rem, n_le, n_lt, n_eq, n_shl1, n_shr, n_andn, n_ix, n_grd, n_gdz, n_gbz, n_hasM, n_hasC, b2_0, b2_1, n_m1, ob_s, bs_l, bs_r, n_max, n_min, n_grt, n_les, h0, hA, r0]
      rw [if_neg (by omega), if_neg hq]) (by
      unfold m_X4_sure_b2
      simp (disch := omega) only [zz_0, zz_1, zz_2, zz_3, zz_4, zz_5, zz_6, zz_7, zz_8, zz_9, zz_10, zz_11, zz_12, zz_13, zz_14, zz_15, zz_16, zz_20, zz_24, zz_25, zz_26, zz_28, zz_31, zz_32, zz_36, zz_39, zz_40, zz_48, zz_49, zz_50, zz_57, zz_59, zz_60, zz_64, zz_72, zz_97, zz_99, zz_100, zz_122, zz_144, zz_161, zz_255, zz_256, zz_288, zz_322, zz_384, zz_400, zz_448, zz_600, zz_1280, zz_1000000, nI_add, n_mul, n_sub, fa_or, fa_and, fb_xorI, n_div, n_rem, n_le, n_lt, n_eq, n_shl1, n_shr, n_andn, n_ix, n_grd, n_gdz, n_gbz, n_hasM, n_hasC, b2_0, b2_1, n_m1, ob_s, bs_l, bs_r, n_max, n_min, n_grt, n_les, h0]
      rw [if_pos (by omega)])
    rw [hw]
    cases hs : fst1 (fun i => decide (¬ mI mm A (i + 1) = nI (g x0))) (fb_ct F 50 - 1) with
    | none =>
      have h1 := fst1_none.mp hs
      simp only [bs_l]
      simp (disch := omega) only [zz_0, zz_1, zz_2, zz_3, zz_4, zz_5, zz_6, zz_7, zz_8, zz_9, zz_10, zz_11, zz_12, zz_13, zz_14, zz_15, zz_16, zz_20, zz_24, zz_25, zz_26, zz_28, zz_31, zz_32, zz_36, zz_39, zz_40, zz_48, zz_49, zz_50, zz_57, zz_59, zz_60, zz_64, zz_72, zz_97, zz_99, zz_100, zz_122, zz_144, zz_161, zz_255, zz_256, zz_288, zz_322, zz_384, zz_400, zz_448, zz_600, zz_1280, zz_1000000, h0, n_eq, hA, n_grd, n_ix, r0]
      rw [if_neg hz]
      have hall : ∀ x, x < 50 → F x = true → g x = g x0 := fun x hx hFx => by
        have h2 := hv x hx hFx
        have h3 := hg x hx
        by_cases hcx : fb_ct F x = 0
        · rw [hcx, r0] at h2
          exact ((nI_eq (by omega) (by omega)).mp h2).symm
        · have h5 : fb_ct F x < fb_ct F 50 := by
            have h6 := fb_ct_mono F (show x + 1 ≤ 50 by omega)
            rw [fb_ct_succ, hFx] at h6
            simp only [if_true] at h6
            omega
          have h4 := h1 (fb_ct F x - 1) (by omega)
          rw [show fb_ct F x - 1 + 1 = fb_ct F x by omega, h2] at h4
          simp only [decide_eq_false_iff_not, Classical.not_not] at h4
          exact (nI_eq (by omega) (by omega)).mp h4
      have hS : bsG F g 50 = 2 ^ g x0 := by
        apply Nat.eq_of_testBit_eq
        intro j
        rw [Bool.eq_iff_iff, bsG_bit, pow_bit, decide_eq_true_eq]
        constructor
        · rintro ⟨x, h2, h3, h4⟩; rw [← h4]; exact hall x h2 h3
        · rintro rfl; exact ⟨x0, hx0, hF0, rfl⟩
      have : surR F g = some (g x0) := by
        unfold surR
        refine fst1_some.mpr ⟨hg0, decide_eq_true hS, fun j hj => decide_eq_false (fun e => ?_)⟩
        rw [hS] at e
        have := Nat.pow_lt_pow_right (a := 2) (by decide) hj
        omega
      rw [this]; rfl
    | some i =>
      obtain ⟨h1, h2, _⟩ := fst1_some.mp hs
      simp only [decide_eq_true_eq] at h2
      simp only [bs_r]
      obtain ⟨x, h3, h4, h5⟩ := hval (i + 1) (by omega)
      have hne : g x ≠ g x0 := fun e => h2 (by rw [h5, e])
      have : surR F g = none := by
        unfold surR
        refine fst1_none.mpr (fun v hv => decide_eq_false (fun e => ?_))
        have b1 := (bsG_bit F g 50 (g x)).mpr ⟨x, h3, h4, rfl⟩
        have b2 := (bsG_bit F g 50 (g x0)).mpr ⟨x0, hx0, hF0, rfl⟩
        rw [e, pow_bit, decide_eq_true_eq] at b1 b2
        omega
      rw [this]; rfl
/-- what to ask -/
def askO (F : Nat → Bool) (kv : Nat → Nat) : Nat → Option (Nat × Nat)
  | 0 => none
  | t + 1 => match askO F kv t with
    | none => some (t, max (fb_ct (fun x => F x && (kv x).testBit t) 50) (fb_ct F 50 - fb_ct (fun x => F x && (kv x).testBit t) 50))
    | some q => if q.2 ≤ max (fb_ct (fun x => F x && (kv x).testBit t) 50) (fb_ct F 50 - fb_ct (fun x => F x && (kv x).testBit t) 50) then some q else some (t, max (fb_ct (fun x => F x && (kv x).testBit t) 50) (fb_ct F 50 - fb_ct (fun x => F x && (kv x).testBit t) 50))
theorem askO_b {F : Nat → Bool} {kv : Nat → Nat} : ∀ t q, askO F kv t = some q → q.2 ≤ 100
  | 0, q, h => by cases h
  | t + 1, q, h => by
    have h1 := fb_ct_le (fun x => F x && (kv x).testBit t) 50
    have h2 := fb_ct_le F 50
    rw [askO] at h
    cases h3 : askO F kv t with
    | none => rw [h3] at h; cases h; show max _ _ ≤ 100; omega
    | some q' =>
      have h4 := askO_b t q' h3
      rw [h3] at h
      simp only at h
      split at h
      · cases h; exact h4
      · cases h; show max _ _ ≤ 100; omega
def askR (F : Nat → Bool) (kv : Nat → Nat) : Option Nat := if fb_ct F 50 = 0 then none else (askO F kv 8).map (fun q => q.1)
theorem ct_and_le (F : Nat → Bool) (G : Nat → Bool) (n : Nat) : fb_ct (fun x => F x && G x) n ≤ fb_ct F n := fb_ct_sub (fun k _ h => by
  simp only [Bool.and_eq_true] at h
  exact h.1)
theorem M_askWhat {F : Nat → Bool} {kv : Nat → Nat} {K : Int32} {mm : Mm} (h : VK F kv K 50 mm) : m_X12_askWhat mm = some (enc1 (askR F kv)) := by
  obtain ⟨a47, a48, a49, a50, a51, a52, a68⟩ := h
  have cl := fb_ct_le F 50
  unfold m_X12_askWhat askR
  rw [o_id]
  by_cases hz : fb_ct F 50 = 0
  · rw [if_pos hz]
    refine loop_seq (fun _ : Nat => ((-1 : Int32), (1000000 : Int32), (0 : Int32))) 0 rfl (FU_big (by decide)) (fun i hi => by omega) ?_
    unfold m_X12_askWhat_b8
    rw [a47, hz]
    rfl
  · rw [if_neg hz]
    obtain ⟨q, e, rfl⟩ := loop_n (body := m_X12_askWhat_b8 mm) (a := ((-1 : Int32), (1000000 : Int32), (0 : Int32))) (fun t z => z = (enc1 ((askO F kv t).map (fun q => q.1)), nI (match askO F kv t with | none => 1000000 | some q => q.2), nI t)) (fun q => q = enc1 ((askO F kv 8).map (fun q => q.1))) 8 (FU_big (by decide)) rfl (by
      rintro t z ht rfl
      have g := a68 t ht
      have cl2 := ct_and_le F (fun x => (kv x).testBit t) 50
      unfold m_X12_askWhat_b8
      rw [askO]
      simp (disch := omega) only [zz_0, zz_1, zz_2, zz_3, zz_4, zz_5, zz_6, zz_7, zz_8, zz_9, zz_10, zz_11, zz_12, zz_13, zz_14, zz_15, zz_16, zz_20, zz_24, zz_25, zz_26, zz_28, zz_31, zz_32, zz_36, zz_39, zz_40, zz_48, zz_49, zz_50, zz_57, zz_59, zz_60, zz_64, zz_72, zz_97, zz_99, zz_100, zz_122, zz_144, zz_161, zz_255, zz_256, zz_288, zz_322, zz_384, zz_400, zz_448, zz_600, zz_1280, zz_1000000, n_le, a47, n_grd, n_ix, g, n_sub, n_grt, nI_add]
      rw [if_neg (by omega), if_neg (by omega)]
      refine ⟨_, rfl, ?_⟩
      cases h3 : askO F kv t with
      | none =>
        simp (disch := omega) only [n_le, n_les]
        rw [if_neg (by omega), Nat.min_eq_right (by omega)]
        rfl
      | some q =>
        have qb := askO_b t q h3
        simp (disch := omega) only [n_le, n_les]
        by_cases hle : q.2 ≤ max (fb_ct (fun x => F x && (kv x).testBit t) 50) (fb_ct F 50 - fb_ct (fun x => F x && (kv x).testBit t) 50)
        · rw [if_pos hle, if_pos hle, Nat.min_eq_left hle]
        · rw [if_neg hle, if_neg hle, Nat.min_eq_right (by omega)]
          rfl) (by
      rintro z rfl
      unfold m_X12_askWhat_b8
      simp (disch := omega) only [zz_0, zz_1, zz_2, zz_3, zz_4, zz_5, zz_6, zz_7, zz_8, zz_9, zz_10, zz_11, zz_12, zz_13, zz_14, zz_15, zz_16, zz_20, zz_24, zz_25, zz_26, zz_28, zz_31, zz_32, zz_36, zz_39, zz_40, zz_48, zz_49, zz_50, zz_57, zz_59, zz_60, zz_64, zz_72, zz_97, zz_99, zz_100, zz_122, zz_144, zz_161, zz_255, zz_256, zz_288, zz_322, zz_384, zz_400, zz_448, zz_600, zz_1280, zz_1000000, n_le]
      rw [if_pos (by omega)]
      exact ⟨_, rfl, rfl⟩)
    exact e
theorem ct_level {F G : Nat → Bool} {X Y : Nat} (h : X ≤ Y) (e : fb_ct F X = fb_ct F Y) : fb_ct (fun x => F x && G x) Y = fb_ct (fun x => F x && G x) X := ct_same h (fun i h1 h2 => by
  cases hF : F i with
  | false => rfl
  | true =>
    exfalso
    have h3 := fb_ct_mono F h1
    have h4 := fb_ct_mono F (show i + 1 ≤ Y by omega)
    rw [fb_ct_succ, hF] at h4
    simp only [if_true] at h4
    omega)
theorem ct_lev2 {F G : Nat → Bool} {X Y : Nat} (e : fb_ct F X = fb_ct F Y) : fb_ct (fun x => F x && G x) X = fb_ct (fun x => F x && G x) Y := by
  by_cases h : X ≤ Y
  · exact (ct_level h e).symm
  · exact ct_level (by omega) e.symm
theorem C_ask {F : Nat → Bool} {kv : Nat → Nat} (hk : ∀ x, kv x < 256) {mm : Mm} (h : VH F kv 50 mm) : m_X4_ask mm = some (enc1 (askR F kv)) := by
  obtain ⟨h0, hv⟩ := h
  have cl := fb_ct_le F 50
  unfold m_X4_ask askR
  rw [o_id, h0]
  by_cases hz : fb_ct F 50 = 0
  · rw [if_pos hz]
    refine loop_seq (fun _ : Nat => ((-1 : Int32), nI (fb_ct F 50), (0 : Int32))) 0 rfl (FU_big (by decide)) (fun i hi => by omega) ?_
    unfold m_X4_ask_b9
    rw [h0, hz]
    rfl
  · rw [if_neg hz]
    obtain ⟨q, e, rfl⟩ := loop_n (body := m_X4_ask_b9 mm) (a := ((-1 : Int32), nI (fb_ct F 50), (0 : Int32))) (fun t z => z = (enc1 ((askO F kv t).map (fun q => q.1)), nI (match askO F kv t with | none => fb_ct F 50 | some q => q.2), nI t) ∧ ∀ q, askO F kv t = some q → q.1 < t) (fun q => q = enc1 ((askO F kv 8).map (fun q => q.1))) 8 (FU_big (by decide)) ⟨rfl, fun q h => by cases h⟩ (by
      rintro t z ht ⟨rfl, hqt⟩
      have cl2 := ct_and_le F (fun x => (kv x).testBit t) 50
      have e1 : ∀ z1 : Int32 × Int32 × Int32, z1.2.2 = nI t → whileF FU (m_X4_ask_b28 mm z1) (nI 0, nI 0) = some (nI (fb_ct (fun x => F x && (kv x).testBit t) 50)) := by
        intro z1 hz1
        obtain ⟨q, e, rfl⟩ := loop_n (body := m_X4_ask_b28 mm z1) (a := (nI 0, nI 0)) (fun i z => ∃ X, X ≤ 50 ∧ fb_ct F X = i ∧ z = (nI (fb_ct (fun x => F x && (kv x).testBit t) X), nI i)) (fun q => q = nI (fb_ct (fun x => F x && (kv x).testBit t) 50)) (fb_ct F 50) (FU_big (by omega)) ⟨0, by decide, rfl, rfl⟩ (by
          rintro i z hi ⟨X, hX, hXi, rfl⟩
          obtain ⟨x, b1, b2, b3⟩ := fb_ct_kth (p := F) hi
          have g := (hv x b1 b2).2.2
          rw [b3] at g
          have kx := hk x
          unfold m_X4_ask_b28
          rw [h0, hz1]
          simp (disch := omega) only [zz_0, zz_1, zz_2, zz_3, zz_4, zz_5, zz_6, zz_7, zz_8, zz_9, zz_10, zz_11, zz_12, zz_13, zz_14, zz_15, zz_16, zz_20, zz_24, zz_25, zz_26, zz_28, zz_31, zz_32, zz_36, zz_39, zz_40, zz_48, zz_49, zz_50, zz_57, zz_59, zz_60, zz_64, zz_72, zz_97, zz_99, zz_100, zz_122, zz_144, zz_161, zz_255, zz_256, zz_288, zz_322, zz_384, zz_400, zz_448, zz_600, zz_1280, zz_1000000, nI_add, n_mul, n_sub, fa_or, fa_and, fb_xorI, n_div, n_rem, n_le, n_lt, n_eq, n_shl1, n_shr, n_andn, n_ix, n_grd, n_gdz, n_gbz, n_hasM, n_hasC, b2_0, b2_1, n_m1, ob_s, bs_l, bs_r, n_max, n_min, n_grt, n_les, g]
          rw [if_neg (by omega)]
          refine ⟨_, rfl, x + 1, by omega, ?_, ?_⟩
          · rw [fb_ct_succ, b2, b3]; rfl
          · rw [fb_ct_succ, b2, Bool.true_and, n_and1, ct_lev2 (F := F) (X := X) (Y := x) (by omega)]) (by
          rintro z ⟨X, hX, hXi, rfl⟩
          unfold m_X4_ask_b28
          rw [h0]
          simp (disch := omega) only [n_le]
          rw [if_pos (by omega)]
          exact ⟨_, rfl, by rw [ct_lev2 (F := F) (X := X) (Y := 50) hXi]⟩)
        exact e
      unfold m_X4_ask_b9
      simp only [zz_0, zz_1, zz_2, zz_3, zz_4, zz_5, zz_6, zz_7, zz_8, zz_9, zz_10, zz_11, zz_12, zz_13, zz_14, zz_15, zz_16, zz_20, zz_24, zz_25, zz_26, zz_28, zz_31, zz_32, zz_36, zz_39, zz_40, zz_48, zz_49, zz_50, zz_57, zz_59, zz_60, zz_64, zz_72, zz_97, zz_99, zz_100, zz_122, zz_144, zz_161, zz_255, zz_256, zz_288, zz_322, zz_384, zz_400, zz_448, zz_600, zz_1280, zz_1000000]
      rw [e1 _ rfl, h0]
      simp (disch := omega) only [n_le, ob_s, n_sub, n_max, nI_add, n_m1]
      rw [if_neg (by omega), if_neg (by omega), askO]
      cases h3 : askO F kv t with
      | none =>
        refine ⟨_, rfl, ?_, fun q hq => ?_⟩
        · rw [show enc1 (Option.map (fun q : Nat × Nat => q.1) none) = m1 from rfl, if_pos rfl, if_pos rfl]
          rfl
        · cases hq
          show t < t + 1
          omega
      | some q =>
        have qb := askO_b t q h3
        have qt := hqt q h3
        have hne : ¬ enc1 (Option.map (fun q : Nat × Nat => q.1) (some q)) = m1 := enc1_m1 (k := q.1) (by omega)
        refine ⟨_, rfl, ?_, fun q' hq => ?_⟩
        · rw [if_neg hne, if_neg hne]
          simp (disch := omega) only [n_le]
          by_cases hle : q.2 ≤ max (fb_ct (fun x => F x && (kv x).testBit t) 50) (fb_ct F 50 - fb_ct (fun x => F x && (kv x).testBit t) 50)
          · rw [if_pos hle, if_pos hle, if_pos hle]
          · rw [if_neg hle, if_neg hle, if_neg hle]
            rfl
        · simp only at hq
          split at hq
          · cases hq; omega
          · cases hq
            show t < t + 1
            omega) (by
      rintro z ⟨rfl, hqt⟩
      unfold m_X4_ask_b9
      simp (disch := omega) only [zz_0, zz_1, zz_2, zz_3, zz_4, zz_5, zz_6, zz_7, zz_8, zz_9, zz_10, zz_11, zz_12, zz_13, zz_14, zz_15, zz_16, zz_20, zz_24, zz_25, zz_26, zz_28, zz_31, zz_32, zz_36, zz_39, zz_40, zz_48, zz_49, zz_50, zz_57, zz_59, zz_60, zz_64, zz_72, zz_97, zz_99, zz_100, zz_122, zz_144, zz_161, zz_255, zz_256, zz_288, zz_322, zz_384, zz_400, zz_448, zz_600, zz_1280, zz_1000000, n_le]
      rw [if_pos (by omega)]
      exact ⟨_, rfl, rfl⟩)
    exact e
theorem hig_last {F : Nat → Bool} : ∀ i x, x < i → F x = true → (∀ y, x < y → y < i → F y = false) → hig F i = some (x / 5)
  | 0, x, h, _, _ => absurd h (Nat.not_lt_zero x)
  | i + 1, x, h, hF, hy => by
    have es : hig F (i + 1) = if F i then some (i / 5) else hig F i := rfl
    rw [es]
    by_cases e : x = i
    · rw [← e, if_pos hF]
    · rw [hy i (by omega) (by omega), if_neg (by decide)]
      exact hig_last i x (by omega) hF (fun y h1 h2 => hy y h1 (by omega))
theorem hig_none {F : Nat → Bool} : ∀ i, (∀ x, x < i → F x = false) → hig F i = none
  | 0, _ => rfl
  | i + 1, h => by
    have es : hig F (i + 1) = if F i then some (i / 5) else hig F i := rfl
    rw [es, h i (by omega), if_neg (by decide)]
    exact hig_none i (fun x hx => h x (by omega))
theorem int_cases (a : Int32) : (∃ k, k < 2147483648 ∧ a = nI k) ∨ a < 0 := by
  by_cases h : a < 0
  · exact Or.inr h
  · obtain ⟨j, hj, rfl⟩ := nI_of h
    exact Or.inl ⟨j, hj, rfl⟩
/-- the class tells of the fits as the reference does -/
theorem fits_tell {S : Sk} (hL : Lay S) {mc mr : Mm} {F : Nat → Bool} {kv : Nat → Nat} (hk : ∀ x, kv x < 256) (hH : VH F kv 50 mc) (a4 : Int32) (hK : VK F kv (a4 - 10) 50 mr) : ∃ r, m_X4_tell S a4 mc = some r ∧ (if a4 < 10 then (if a4 = 0 then (some (mI mr 44 47, mr)) else (if a4 = 1 then ((m_X12_sure (mI mr 44 51)).bind (fun q15 => some (q15, mr))) else (if a4 = 2 then ((m_X12_sure (mI mr 44 52)).bind (fun q18 => some (q18, mr))) else (if a4 = 3 then ((m_X12_askWhat mr).bind (fun q21 => some (q21, mr))) else (if a4 = 4 then (if (mI mr 44 47) = 0 then (some (-1, mr)) else (some (mI mr 44 49, mr))) else (if a4 = 5 then (some (mI mr 44 50, mr)) else (some (-2, mr)))))))) else (some (mI mr 44 48, mr))) = some (r, mr) := by
  have eC := C_ask hk hH
  have eM := M_askWhat hK
  obtain ⟨h0, hv⟩ := hH
  obtain ⟨a47, a48, a49, a50, a51, a52, a68⟩ := hK
  have cl := fb_ct_le F 50
  have g1 : ∀ x, x < 50 → x / 5 < 10 := fun x hx => by omega
  have g2 : ∀ x, x < 50 → x % 5 < 10 := fun x hx => by omega
  have s1 := C_sure (S := S) (A := 41) g1 (by rw [lk_41 hL]) h0 (fun x hx hF => (hv x hx hF).1)
  have s2 := C_sure (S := S) (A := 42) g2 (by rw [lk_42 hL]) h0 (fun x hx hF => (hv x hx hF).2.1)
  have t1 := M_sure (F := F) g1
  have t2 := M_sure (F := F) g2
  unfold m_X4_tell
  by_cases k0 : a4 = 0
  · rw [if_pos k0, if_pos (by rw [k0]; decide), if_pos k0, h0, a47]
    exact ⟨_, rfl, rfl⟩
  · rw [if_neg k0]
    by_cases k1 : a4 = 1
    · rw [if_pos k1, if_pos (by rw [k1]; decide), if_neg k0, if_pos k1, s1, a51, t1]
      exact ⟨_, rfl, rfl⟩
    · rw [if_neg k1]
      by_cases k2 : a4 = 2
      · rw [if_pos k2, if_pos (by rw [k2]; decide), if_neg k0, if_neg k1, if_pos k2, s2, a52, t2]
        exact ⟨_, rfl, rfl⟩
      · rw [if_neg k2]
        by_cases k3 : a4 = 3
        · rw [if_pos k3, if_pos (by rw [k3]; decide), if_neg k0, if_neg k1, if_neg k2, if_pos k3, eC, eM]
          exact ⟨_, rfl, rfl⟩
        · rw [if_neg k3]
          by_cases k4 : a4 = 4
          · rw [if_pos k4, if_pos (show a4 < 10 by rw [k4]; decide), if_neg k0, if_neg k1, if_neg k2, if_neg k3, if_pos k4, h0, a47]
            by_cases hz : fb_ct F 50 = 0
            · rw [hz, if_pos (by decide), if_pos (by decide)]
              exact ⟨_, rfl, rfl⟩
            · have hz' : ¬ nI (fb_ct F 50) = 0 := fun q => hz ((nI_eq (b := 0) (by omega) (by decide)).mp q)
              rw [if_neg hz', if_neg hz']
              obtain ⟨x0, hx0, hF0, hc0⟩ := fb_ct_kth (p := F) (k := 0) (n := 50) (by omega)
              have hf : fst1 F 50 = some x0 := fst1_some.mpr ⟨hx0, hF0, fun j hj => fb_ct_zero.mp hc0 j hj⟩
              refine ⟨_, rfl, ?_⟩
              have := (hv x0 hx0 hF0).1
              rw [hc0] at this
              rw [a49, ix0, this]
              unfold low
              rw [hf]
          · rw [if_neg k4]
            by_cases k5 : a4 = 5
            · rw [if_pos k5, if_pos (show a4 < 10 by rw [k5]; decide), if_neg k0, if_neg k1, if_neg k2, if_neg k3, if_neg k4, if_pos k5, h0, a50]
              by_cases hz : fb_ct F 50 = 0
              · rw [hz, if_pos (by decide), hig_none 50 (fb_ct_zero.mp hz)]
                exact ⟨_, rfl, rfl⟩
              · have hz' : ¬ nI (fb_ct F 50) = 0 := fun q => hz ((nI_eq (b := 0) (by omega) (by decide)).mp q)
                obtain ⟨x0, hx0, hF0, hc0⟩ := fb_ct_kth (p := F) (k := fb_ct F 50 - 1) (n := 50) (by omega)
                have := (hv x0 hx0 hF0).1
                rw [hc0] at this
                rw [if_neg hz']
                simp (disch := omega) only [zz_0, zz_1, zz_2, zz_3, zz_4, zz_5, zz_6, zz_7, zz_8, zz_9, zz_10, zz_11, zz_12, zz_13, zz_14, zz_15, zz_16, zz_20, zz_24, zz_25, zz_26, zz_28, zz_31, zz_32, zz_36, zz_39, zz_40, zz_48, zz_49, zz_50, zz_57, zz_59, zz_60, zz_64, zz_72, zz_97, zz_99, zz_100, zz_122, zz_144, zz_161, zz_255, zz_256, zz_288, zz_322, zz_384, zz_400, zz_448, zz_600, zz_1280, zz_1000000, n_sub, n_grd, n_ix, this]
                rw [hig_last 50 x0 hx0 hF0 (fun y h1 h2 => by
                  cases hy : F y with
                  | false => rfl
                  | true =>
                    exfalso
                    have h3 := fb_ct_mono F (show x0 + 1 ≤ y by omega)
                    have h4 := fb_ct_mono F (show y + 1 ≤ 50 by omega)
                    rw [fb_ct_succ, hF0] at h3
                    rw [fb_ct_succ, hy] at h4
                    simp only [if_true] at h3 h4
                    omega)]
                exact ⟨_, rfl, rfl⟩
            · rw [if_neg k5]
              by_cases k10 : a4 < 10
              · rw [if_pos k10, if_pos k10, if_neg k0, if_neg k1, if_neg k2, if_neg k3, if_neg k4, if_neg k5, bs_l]
                exact ⟨_, rfl, rfl⟩
              · rw [if_neg k10, if_neg k10]
                rcases int_cases a4 with ⟨w, hw, rfl⟩ | hneg
                · have hw10 : 10 ≤ w := by
                    rw [show (10 : Int32) = nI 10 from rfl, n_lt hw (by decide)] at k10
                    omega
                  have hk2 := a48 (w - 10) (by omega) (by rw [show (10 : Int32) = nI 10 from rfl, n_sub hw10])
                  rw [hk2]
                  simp (disch := omega) only [zz_0, zz_1, zz_2, zz_3, zz_4, zz_5, zz_6, zz_7, zz_8, zz_9, zz_10, zz_11, zz_12, zz_13, zz_14, zz_15, zz_16, zz_20, zz_24, zz_25, zz_26, zz_28, zz_31, zz_32, zz_36, zz_39, zz_40, zz_48, zz_49, zz_50, zz_57, zz_59, zz_60, zz_64, zz_72, zz_97, zz_99, zz_100, zz_122, zz_144, zz_161, zz_255, zz_256, zz_288, zz_322, zz_384, zz_400, zz_448, zz_600, zz_1280, zz_1000000, n_sub, n_lt, h0]
                  by_cases hlt : w - 10 < fb_ct F 50
                  · obtain ⟨x0, hx0, hF0, hc0⟩ := fb_ct_kth (p := F) hlt
                    have q1 := (hv x0 hx0 hF0).1
                    have q2 := (hv x0 hx0 hF0).2.1
                    rw [hc0] at q1 q2
                    rw [if_pos hlt]
                    simp (disch := omega) only [n_grd, n_ix, q1, q2, bs_r, n_mul, nI_add]
                    refine ⟨_, rfl, ?_⟩
                    unfold akK
                    rw [fst1_some.mpr ⟨hx0, by simp [hF0, hc0], fun j hj => ?_⟩]
                    cases hFj : F j with
                    | false => rfl
                    | true =>
                      simp only [Bool.true_and, decide_eq_false_iff_not]
                      intro e
                      have h3 := fb_ct_mono F (show j + 1 ≤ x0 by omega)
                      rw [fb_ct_succ, hFj] at h3
                      simp only [if_true] at h3
                      omega
                  · rw [if_neg hlt, bs_l]
                    refine ⟨_, rfl, ?_⟩
                    unfold akK
                    rw [fst1_none.mpr (fun j hj => ?_)]
                    · rfl
                    · cases hFj : F j with
                      | false => rfl
                      | true =>
                        simp only [Bool.true_and, decide_eq_false_iff_not]
                        intro e
                        have h3 := fb_ct_mono F (show j + 1 ≤ 50 by omega)
                        rw [fb_ct_succ, hFj] at h3
                        simp only [if_true] at h3
                        omega
                · exfalso
                  apply k10
                  rw [fa_lt] at hneg ⊢
                  have e0 : (0 : Int32).toInt = 0 := by decide
                  have e10 : (10 : Int32).toInt = 10 := by decide
                  omega
