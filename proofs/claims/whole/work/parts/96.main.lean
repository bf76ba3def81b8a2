/-! L3: the law's loop, over what text() does -/
def TextOK : Prop := ∀ (S : Sk) (mm : Mm) (a1 a2 : Int32), Inv S mm → OpG S (m_X11_text S a1 a2 mm) (fun S' => m_X12_text S' a1 a2)
theorem bool_b2 (x : Int32) : (if x = 0 then (0 : Int32) else 1) = b2 (!decide (x = 0)) := by
  by_cases h : x = 0 <;> simp [h, b2] <;> rfl
theorem disp (hT : TextOK) {nx : Nat} (xs : Nat → Int32) (hx : nx ≤ 4096) {i : Nat} (hi : 8 * i + 8 ≤ nx) {S : Sk} {mm : Mm} (h : Inv S mm) : ∃ S' m', m_L_law_b18 nx xs (nI (8 * i), S, mm) = some (.inl (nI (8 * (i + 1)), S', m')) ∧ Inv S' m' ∧ sN S' ≤ sN S + 11 ∧ sW S' ≤ sW S + 700 := by
  have G : ∀ k, k < 8 → ∀ {α : Type} (x : Option α), grd (nI (8 * i) + nI k) nx x = x := fun k hk α x => by rw [nI_add]; exact n_grd (by omega) (by omega)
  have G0 : ∀ {α : Type} (x : Option α), grd (nI (8 * i)) nx x = x := fun x => n_grd (by omega) (by omega)
  have G1 : ∀ {α : Type} (x : Option α), grd (nI (8 * i) + 1) nx x = x := fun x => G 1 (by decide) x
  have G2 : ∀ {α : Type} (x : Option α), grd (nI (8 * i) + 2) nx x = x := fun x => G 2 (by decide) x
  have G3 : ∀ {α : Type} (x : Option α), grd (nI (8 * i) + 3) nx x = x := fun x => G 3 (by decide) x
  have G4 : ∀ {α : Type} (x : Option α), grd (nI (8 * i) + 4) nx x = x := fun x => G 4 (by decide) x
  have G5 : ∀ {α : Type} (x : Option α), grd (nI (8 * i) + 5) nx x = x := fun x => G 5 (by decide) x
  have G6 : ∀ {α : Type} (x : Option α), grd (nI (8 * i) + 6) nx x = x := fun x => G 6 (by decide) x
  have G7 : ∀ {α : Type} (x : Option α), grd (nI (8 * i) + 7) nx x = x := fun x => G 7 (by decide) x
  have E8 : nI (8 * i) + 8 = nI (8 * (i + 1)) := by rw [show (8 : Int32) = nI 8 from rfl, nI_add]; rfl
  have St : ¬ (Int32.ofNat nx - 8 < nI (8 * i)) := by
    rw [show Int32.ofNat nx = nI nx from rfl, show (8 : Int32) = nI 8 from rfl, n_sub (by omega), n_lt (by omega) (by omega)]; omega
  unfold m_L_law_b18
  simp only []
  rw [if_neg St, G0]
  simp only [G1, G2, G3, G4, G5, G6, G7, bool_b2]
  by_cases k0 : (xs (ix (nI (8 * i)))) &&& 31 = 0
  · obtain ⟨r, m1, m2, ex, ey, hI⟩ := op_feed h (xs (ix (nI (8 * i) + 1))) (xs (ix (nI (8 * i) + 2))) (xs (ix (nI (8 * i) + 3))) (xs (ix (nI (8 * i) + 4))) (xs (ix (nI (8 * i) + 5)))
    refine ⟨S, m2, ?_, hI, by omega, by omega⟩
    rw [if_pos k0, gP_pos h.1.1, ex, ob_s, ey, ob_s, if_pos rfl, bs_l, E8]
  by_cases k1 : (xs (ix (nI (8 * i)))) &&& 31 = 1
  · obtain ⟨r, m1, m2, ex, ey, hI⟩ := op_end h (xs (ix (nI (8 * i) + 1)))
    have ex := Option.some.inj ex
    refine ⟨S, m2, ?_, hI, by omega, by omega⟩
    rw [if_neg k0, if_pos k1, gP_pos h.1.1, ex, ey, ob_s, if_pos rfl, bs_l, E8]
  by_cases k2 : (xs (ix (nI (8 * i)))) &&& 31 = 2
  · obtain ⟨r, S', m1, m2, ex, ey0, hI, hN, hW⟩ := hT S mm (xs (ix (nI (8 * i) + 1))) (xs (ix (nI (8 * i) + 2))) h
    have ey : m_X12_text S' (xs (ix (nI (8 * i) + 1))) (xs (ix (nI (8 * i) + 2))) m1 = some (r, m2) := ey0
    refine ⟨S', m2, ?_, hI, hN, hW⟩
    rw [if_neg k0, if_neg k1, if_pos k2, gP_pos h.1.1, ex, ob_s, gP_pos hI.1.1, ey, ob_s, if_pos rfl, bs_l, E8]
  by_cases k3 : (xs (ix (nI (8 * i)))) &&& 31 = 3
  · obtain ⟨r, m2, ex, ey, hI⟩ := op_fault h (xs (ix (nI (8 * i) + 1)))
    have ex := Option.some.inj ex
    refine ⟨S, m2, ?_, hI, by omega, by omega⟩
    rw [if_neg k0, if_neg k1, if_neg k2, if_pos k3, gP_pos h.1.1, ey, ob_s, ex, if_pos rfl, bs_l, E8]
  by_cases k4 : (xs (ix (nI (8 * i)))) &&& 31 = 4
  · obtain ⟨r, m2, ex, ey, hI⟩ := op_county h (xs (ix (nI (8 * i) + 1))) (xs (ix (nI (8 * i) + 2)))
    refine ⟨S, m2, ?_, hI, by omega, by omega⟩
    rw [if_neg k0, if_neg k1, if_neg k2, if_neg k3, if_pos k4, gP_pos h.1.1, gP_pos h.1, ex, ob_s, ey, ob_s, if_pos rfl, bs_l, E8]
  by_cases k5 : (xs (ix (nI (8 * i)))) &&& 31 = 5
  · obtain ⟨r, m2, ex, ey, hI⟩ := op_deed h (xs (ix (nI (8 * i) + 1))) (xs (ix (nI (8 * i) + 2))) (xs (ix (nI (8 * i) + 3)))
    refine ⟨S, m2, ?_, hI, by omega, by omega⟩
    rw [if_neg k0, if_neg k1, if_neg k2, if_neg k3, if_neg k4, if_pos k5, gP_pos h.1.1, gP_pos h.1, ex, ob_s, ey, ob_s, if_pos rfl, bs_l, E8]
  by_cases k6 : (xs (ix (nI (8 * i)))) &&& 31 = 6
  · obtain ⟨r, S', m1, m2, ex, ey, hI, hS', hN, hW⟩ := op_stop h (xs (ix (nI (8 * i) + 1))) (xs (ix (nI (8 * i) + 2)))
    refine ⟨S', m2, ?_, hI, by omega, by omega⟩
    rw [if_neg k0, if_neg k1, if_neg k2, if_neg k3, if_neg k4, if_neg k5, if_pos k6, gP_pos h.1.1, gP_pos h.1, ex, ob_s, gP_pos hS'.1, ey, ob_s, if_pos rfl, bs_l, E8]
  by_cases k7 : (xs (ix (nI (8 * i)))) &&& 31 = 7
  · obtain ⟨r, S', m1, m2, ex, ey, hI, hS', hN, hW⟩ := op_state h (xs (ix (nI (8 * i) + 1))) (xs (ix (nI (8 * i) + 2))) (xs (ix (nI (8 * i) + 3))) (xs (ix (nI (8 * i) + 4)))
    refine ⟨S', m2, ?_, hI, by omega, by omega⟩
    rw [if_neg k0, if_neg k1, if_neg k2, if_neg k3, if_neg k4, if_neg k5, if_neg k6, if_pos k7, gP_pos h.1.1, gP_pos h.1, ex, ob_s, gP_pos hS'.1, ey, ob_s, if_pos rfl, bs_l, E8]
  by_cases k8 : (xs (ix (nI (8 * i)))) &&& 31 = 8
  · obtain ⟨r, S', m1, m2, ex, ey, hI, hS', hN, hW⟩ := op_keeps h (xs (ix (nI (8 * i) + 1))) (xs (ix (nI (8 * i) + 2))) (xs (ix (nI (8 * i) + 3)))
    refine ⟨S', m2, ?_, hI, by omega, by omega⟩
    rw [if_neg k0, if_neg k1, if_neg k2, if_neg k3, if_neg k4, if_neg k5, if_neg k6, if_neg k7, if_pos k8, gP_pos h.1.1, gP_pos h.1, ex, ob_s, gP_pos hS'.1, ey, ob_s, if_pos rfl, bs_l, E8]
  by_cases k9 : (xs (ix (nI (8 * i)))) &&& 31 = 9
  · obtain ⟨r, S', m1, m2, ex, ey, hI, hS', hN, hW⟩ := op_heart h (xs (ix (nI (8 * i) + 1))) (xs (ix (nI (8 * i) + 2))) (xs (ix (nI (8 * i) + 3)))
    refine ⟨S', m2, ?_, hI, by omega, by omega⟩
    rw [if_neg k0, if_neg k1, if_neg k2, if_neg k3, if_neg k4, if_neg k5, if_neg k6, if_neg k7, if_neg k8, if_pos k9, gP_pos h.1.1, gP_pos h.1, ex, ob_s, gP_pos hS'.1, ey, ob_s, if_pos rfl, bs_l, E8]
  by_cases k10 : (xs (ix (nI (8 * i)))) &&& 31 = 10
  · obtain ⟨r, S', m1, m2, ex, ey, hI, hS', hN, hW⟩ := op_fall h (xs (ix (nI (8 * i) + 1))) (xs (ix (nI (8 * i) + 2)))
    refine ⟨S', m2, ?_, hI, by omega, by omega⟩
    rw [if_neg k0, if_neg k1, if_neg k2, if_neg k3, if_neg k4, if_neg k5, if_neg k6, if_neg k7, if_neg k8, if_neg k9, if_pos k10, gP_pos h.1.1, gP_pos h.1, ex, ob_s, gP_pos hS'.1, ey, ob_s, if_pos rfl, bs_l, E8]
  by_cases k11 : (xs (ix (nI (8 * i)))) &&& 31 = 11
  · obtain ⟨r, m2, ex, ey, hI⟩ := op_want h (xs (ix (nI (8 * i) + 1))) (xs (ix (nI (8 * i) + 2))) (xs (ix (nI (8 * i) + 3)))
    refine ⟨S, m2, ?_, hI, by omega, by omega⟩
    rw [if_neg k0, if_neg k1, if_neg k2, if_neg k3, if_neg k4, if_neg k5, if_neg k6, if_neg k7, if_neg k8, if_neg k9, if_neg k10, if_pos k11, gP_pos h.1.1, gP_pos h.1, ex, ob_s, ey, ob_s, if_pos rfl, bs_l, E8]
  by_cases k12 : (xs (ix (nI (8 * i)))) &&& 31 = 12
  · obtain ⟨r, S', m1, m2, ex, ey, hI, hS', hN, hW⟩ := op_swearers h (xs (ix (nI (8 * i) + 1))) (xs (ix (nI (8 * i) + 2))) (xs (ix (nI (8 * i) + 3)))
    refine ⟨S', m2, ?_, hI, by omega, by omega⟩
    rw [if_neg k0, if_neg k1, if_neg k2, if_neg k3, if_neg k4, if_neg k5, if_neg k6, if_neg k7, if_neg k8, if_neg k9, if_neg k10, if_neg k11, if_pos k12, gP_pos h.1.1, gP_pos h.1, ex, ob_s, gP_pos hS'.1, ey, ob_s, if_pos rfl, bs_l, E8]
  by_cases k13 : (xs (ix (nI (8 * i)))) &&& 31 = 13
  · obtain ⟨r, S', m1, m2, ex, ey, hI, hS', hN, hW⟩ := op_dare h (xs (ix (nI (8 * i) + 1))) (xs (ix (nI (8 * i) + 2))) (xs (ix (nI (8 * i) + 3))) (xs (ix (nI (8 * i) + 4))) (!decide ((xs (ix (nI (8 * i) + 5))) = 0))
    refine ⟨S', m2, ?_, hI, by omega, by omega⟩
    rw [if_neg k0, if_neg k1, if_neg k2, if_neg k3, if_neg k4, if_neg k5, if_neg k6, if_neg k7, if_neg k8, if_neg k9, if_neg k10, if_neg k11, if_neg k12, if_pos k13, gP_pos h.1.1, gP_pos h.1, ex, ob_s, gP_pos hS'.1, ey, ob_s, if_pos rfl, bs_l, E8]
  by_cases k14 : (xs (ix (nI (8 * i)))) &&& 31 = 14
  · obtain ⟨r, S', m1, m2, ex, ey, hI, hS', hN, hW⟩ := op_chance h (xs (ix (nI (8 * i) + 1))) (xs (ix (nI (8 * i) + 2))) (xs (ix (nI (8 * i) + 3))) (xs (ix (nI (8 * i) + 4))) (xs (ix (nI (8 * i) + 5))) (xs (ix (nI (8 * i) + 6))) (!decide ((xs (ix (nI (8 * i) + 7))) = 0))
    refine ⟨S', m2, ?_, hI, by omega, by omega⟩
    rw [if_neg k0, if_neg k1, if_neg k2, if_neg k3, if_neg k4, if_neg k5, if_neg k6, if_neg k7, if_neg k8, if_neg k9, if_neg k10, if_neg k11, if_neg k12, if_neg k13, if_pos k14, gP_pos h.1.1, gP_pos h.1, ex, ob_s, gP_pos hS'.1, ey, ob_s, if_pos rfl, bs_l, E8]
  by_cases k15 : (xs (ix (nI (8 * i)))) &&& 31 = 15
  · obtain ⟨r, m2, ex, ey, hI⟩ := op_fact h (xs (ix (nI (8 * i) + 1))) (xs (ix (nI (8 * i) + 2))) (xs (ix (nI (8 * i) + 3)))
    refine ⟨S, m2, ?_, hI, by omega, by omega⟩
    rw [if_neg k0, if_neg k1, if_neg k2, if_neg k3, if_neg k4, if_neg k5, if_neg k6, if_neg k7, if_neg k8, if_neg k9, if_neg k10, if_neg k11, if_neg k12, if_neg k13, if_neg k14, if_pos k15, gP_pos h.1.1, gP_pos h.1, ex, ob_s, ey, ob_s, if_pos rfl, bs_l, E8]
  by_cases k16 : (xs (ix (nI (8 * i)))) &&& 31 = 16
  · obtain ⟨r, S', m1, m2, ex, ey, hI, hS', hN, hW⟩ := op_fits h (xs (ix (nI (8 * i) + 1))) (xs (ix (nI (8 * i) + 2))) (xs (ix (nI (8 * i) + 3))) (xs (ix (nI (8 * i) + 4)))
    refine ⟨S', m2, ?_, hI, by omega, by omega⟩
    rw [if_neg k0, if_neg k1, if_neg k2, if_neg k3, if_neg k4, if_neg k5, if_neg k6, if_neg k7, if_neg k8, if_neg k9, if_neg k10, if_neg k11, if_neg k12, if_neg k13, if_neg k14, if_neg k15, if_pos k16, gP_pos h.1.1, gP_pos h.1, ex, ob_s, gP_pos hS'.1, ey, ob_s, if_pos rfl, bs_l, E8]
  by_cases k17 : (xs (ix (nI (8 * i)))) &&& 31 = 17
  · obtain ⟨r, S', m1, m2, ex, ey, hI, hS', hN, hW⟩ := op_drawn h (xs (ix (nI (8 * i) + 1))) (xs (ix (nI (8 * i) + 2))) (xs (ix (nI (8 * i) + 3))) (xs (ix (nI (8 * i) + 4)))
    refine ⟨S', m2, ?_, hI, by omega, by omega⟩
    rw [if_neg k0, if_neg k1, if_neg k2, if_neg k3, if_neg k4, if_neg k5, if_neg k6, if_neg k7, if_neg k8, if_neg k9, if_neg k10, if_neg k11, if_neg k12, if_neg k13, if_neg k14, if_neg k15, if_neg k16, if_pos k17, gP_pos h.1.1, gP_pos h.1, ex, ob_s, gP_pos hS'.1, ey, ob_s, if_pos rfl, bs_l, E8]
  by_cases k18 : (xs (ix (nI (8 * i)))) &&& 31 = 18
  · obtain ⟨r, S', m1, m2, ex, ey, hI, hS', hN, hW⟩ := op_lone h (xs (ix (nI (8 * i) + 1))) (xs (ix (nI (8 * i) + 2)))
    refine ⟨S', m2, ?_, hI, by omega, by omega⟩
    rw [if_neg k0, if_neg k1, if_neg k2, if_neg k3, if_neg k4, if_neg k5, if_neg k6, if_neg k7, if_neg k8, if_neg k9, if_neg k10, if_neg k11, if_neg k12, if_neg k13, if_neg k14, if_neg k15, if_neg k16, if_neg k17, if_pos k18, gP_pos h.1.1, gP_pos h.1, ex, ob_s, gP_pos hS'.1, ey, ob_s, if_pos rfl, bs_l, E8]
  by_cases k19 : (xs (ix (nI (8 * i)))) &&& 31 = 19
  · obtain ⟨r, S', m1, m2, ex, ey, hI, hS', hN, hW⟩ := op_chain h (xs (ix (nI (8 * i) + 1))) (xs (ix (nI (8 * i) + 2)))
    refine ⟨S', m2, ?_, hI, by omega, by omega⟩
    rw [if_neg k0, if_neg k1, if_neg k2, if_neg k3, if_neg k4, if_neg k5, if_neg k6, if_neg k7, if_neg k8, if_neg k9, if_neg k10, if_neg k11, if_neg k12, if_neg k13, if_neg k14, if_neg k15, if_neg k16, if_neg k17, if_neg k18, if_pos k19, gP_pos h.1.1, gP_pos h.1, ex, ob_s, gP_pos hS'.1, ey, ob_s, if_pos rfl, bs_l, E8]
  by_cases k20 : (xs (ix (nI (8 * i)))) &&& 31 = 20
  · obtain ⟨r, S', m1, m2, ex, ey, hI, hS', hN, hW⟩ := op_steps h (xs (ix (nI (8 * i) + 1))) (xs (ix (nI (8 * i) + 2))) (xs (ix (nI (8 * i) + 3)))
    refine ⟨S', m2, ?_, hI, by omega, by omega⟩
    rw [if_neg k0, if_neg k1, if_neg k2, if_neg k3, if_neg k4, if_neg k5, if_neg k6, if_neg k7, if_neg k8, if_neg k9, if_neg k10, if_neg k11, if_neg k12, if_neg k13, if_neg k14, if_neg k15, if_neg k16, if_neg k17, if_neg k18, if_neg k19, if_pos k20, gP_pos h.1.1, gP_pos h.1, ex, ob_s, gP_pos hS'.1, ey, ob_s, if_pos rfl, bs_l, E8]
  by_cases k21 : (xs (ix (nI (8 * i)))) &&& 31 = 21
  · obtain ⟨r, S', m1, m2, ex, ey, hI, hS', hN, hW⟩ := op_after h (xs (ix (nI (8 * i) + 1))) (xs (ix (nI (8 * i) + 2))) (xs (ix (nI (8 * i) + 3)))
    refine ⟨S', m2, ?_, hI, by omega, by omega⟩
    rw [if_neg k0, if_neg k1, if_neg k2, if_neg k3, if_neg k4, if_neg k5, if_neg k6, if_neg k7, if_neg k8, if_neg k9, if_neg k10, if_neg k11, if_neg k12, if_neg k13, if_neg k14, if_neg k15, if_neg k16, if_neg k17, if_neg k18, if_neg k19, if_neg k20, if_pos k21, gP_pos h.1.1, gP_pos h.1, ex, ob_s, gP_pos hS'.1, ey, ob_s, if_pos rfl, bs_l, E8]
  by_cases k22 : (xs (ix (nI (8 * i)))) &&& 31 = 22
  · obtain ⟨r, m2, ex, ey, hI⟩ := op_count h (xs (ix (nI (8 * i) + 1)))
    refine ⟨S, m2, ?_, hI, by omega, by omega⟩
    rw [if_neg k0, if_neg k1, if_neg k2, if_neg k3, if_neg k4, if_neg k5, if_neg k6, if_neg k7, if_neg k8, if_neg k9, if_neg k10, if_neg k11, if_neg k12, if_neg k13, if_neg k14, if_neg k15, if_neg k16, if_neg k17, if_neg k18, if_neg k19, if_neg k20, if_neg k21, if_pos k22, gP_pos h.1.1, ex, ob_s, ey, ob_s, if_pos rfl, bs_l, E8]
  by_cases k23 : (xs (ix (nI (8 * i)))) &&& 31 = 23
  · obtain ⟨r, S', m1, m2, ex, ey0, hI, hN, hW⟩ := op_image h (xs (ix (nI (8 * i) + 1)))
    have ey : m_X12_image S' (xs (ix (nI (8 * i) + 1))) m1 = some (r, m2) := ey0
    refine ⟨S', m2, ?_, hI, hN, hW⟩
    rw [if_neg k0, if_neg k1, if_neg k2, if_neg k3, if_neg k4, if_neg k5, if_neg k6, if_neg k7, if_neg k8, if_neg k9, if_neg k10, if_neg k11, if_neg k12, if_neg k13, if_neg k14, if_neg k15, if_neg k16, if_neg k17, if_neg k18, if_neg k19, if_neg k20, if_neg k21, if_neg k22, if_pos k23, gP_pos h.1.1, ex, ob_s, gP_pos hI.1.1, ey, ob_s, if_pos rfl, bs_l, E8]
  by_cases k24 : (xs (ix (nI (8 * i)))) &&& 31 = 24
  · obtain ⟨r, S', m1, m2, ex, ey0, hI, hN, hW⟩ := op_again h (xs (ix (nI (8 * i) + 1)))
    have ey : m_X12_again S' (xs (ix (nI (8 * i) + 1))) m1 = some (r, m2) := ey0
    refine ⟨S', m2, ?_, hI, hN, hW⟩
    rw [if_neg k0, if_neg k1, if_neg k2, if_neg k3, if_neg k4, if_neg k5, if_neg k6, if_neg k7, if_neg k8, if_neg k9, if_neg k10, if_neg k11, if_neg k12, if_neg k13, if_neg k14, if_neg k15, if_neg k16, if_neg k17, if_neg k18, if_neg k19, if_neg k20, if_neg k21, if_neg k22, if_neg k23, if_pos k24, gP_pos h.1.1, gP_pos h.1, ex, ob_s, gP_pos hI.1.1, ey, ob_s, if_pos rfl, bs_l, E8]
  refine ⟨S, mm, ?_, h, by omega, by omega⟩
  rw [if_neg k0, if_neg k1, if_neg k2, if_neg k3, if_neg k4, if_neg k5, if_neg k6, if_neg k7, if_neg k8, if_neg k9, if_neg k10, if_neg k11, if_neg k12, if_neg k13, if_neg k14, if_neg k15, if_neg k16, if_neg k17, if_neg k18, if_neg k19, if_neg k20, if_neg k21, if_neg k22, if_neg k23, if_neg k24, bs_l, E8]
theorem stop_law {nx : Nat} (xs : Nat → Int32) (hx : nx ≤ 4096) {i : Nat} (hi : nx < 8 * i + 8) (hi2 : 8 * i ≤ nx) (S : Sk) (mm : Mm) : m_L_law_b18 nx xs (nI (8 * i), S, mm) = some (.inr (.inl (S, mm))) := by
  have St : Int32.ofNat nx - 8 < nI (8 * i) := by
    by_cases h8 : 8 ≤ nx
    · rw [show Int32.ofNat nx = nI nx from rfl, show (8 : Int32) = nI 8 from rfl, n_sub (by omega), n_lt (by omega) (by omega)]; omega
    · have : i = 0 := by omega
      subst this
      rcases (by omega : nx = 0 ∨ nx = 1 ∨ nx = 2 ∨ nx = 3 ∨ nx = 4 ∨ nx = 5 ∨ nx = 6 ∨ nx = 7) with rfl | rfl | rfl | rfl | rfl | rfl | rfl | rfl <;> decide
  unfold m_L_law_b18
  simp only []
  rw [if_pos St]
theorem main_loop (hT : TextOK) {nx : Nat} (xs : Nat → Int32) (hx : nx ≤ 4096) {S0 : Sk} {m0 : Mm} (hI0 : Inv S0 m0) : ∃ S m, whileF FU (m_L_law_b18 nx xs) ((0 : Int32), S0, m0) = some (.inl (S, m)) ∧ sN S ≤ sN S0 + 11 * 512 ∧ sW S ≤ sW S0 + 700 * 512 := by
  obtain ⟨r, e, S', m', hr, hN, hW⟩ := loop_n (body := m_L_law_b18 nx xs) (a := ((0 : Int32), S0, m0)) (fun i z => ∃ S m, z = (nI (8 * i), S, m) ∧ Inv S m ∧ sN S ≤ sN S0 + 11 * i ∧ sW S ≤ sW S0 + 700 * i) (fun r => ∃ S m, r = .inl (S, m) ∧ sN S ≤ sN S0 + 11 * 512 ∧ sW S ≤ sW S0 + 700 * 512) (nx / 8) (FU_big (by omega)) ⟨S0, m0, rfl, hI0, by omega, by omega⟩ (by
    rintro i z hi ⟨S, m, rfl, hI, hN, hW⟩
    obtain ⟨S', m', e, hI', hN', hW'⟩ := disp hT xs hx (i := i) (by omega) hI
    exact ⟨_, e, S', m', rfl, hI', by omega, Nat.le_trans hW' (by rw [Nat.mul_succ, ← Nat.add_assoc]; exact Nat.add_le_add_right hW 700)⟩) (by
    rintro z ⟨S, m, rfl, hI, hN, hW⟩
    exact ⟨_, stop_law xs hx (by omega) (by omega) S m, S, m, rfl, by omega, by omega⟩)
  subst hr
  exact ⟨S', m', e, hN, hW⟩
theorem le_of2 {a b c d : Nat} (h1 : a ≤ b + c) (h2 : b ≤ d) (h3 : d + c ≤ 600000) : a ≤ 600000 := by omega
theorem le_of3 {a b c d : Nat} (h1 : a ≤ b + c) (h2 : b ≤ d) (h3 : d + c ≤ 7302250) : a ≤ 7302250 := by omega
theorem main_of (hT : TextOK) : MainOK := fun nx xs hx => by
  obtain ⟨S', m', e, hN, hW⟩ := main_loop hT xs hx Inv_start
  refine ⟨S', m', ?_, le_of2 hN (Nat.le_of_eq w4_1) (by decide), le_of3 hW w4_W (by decide)⟩
  unfold m_L_law
  rw [e, bs_l]
