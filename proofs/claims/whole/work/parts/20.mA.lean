def m_X12_in (a0 : Int32) (a1 : Int32) (a2 : Int32) : Int32 := if a0 < a1 then ((0 : Int32)) else (if a2 < a0 then ((0 : Int32)) else ((1 : Int32)))
set_option maxHeartbeats 4000000 in
set_option maxRecDepth 100000 in
theorem c_X12_in {l : Launch} {G : Gt} {S : Sk} (hS : Lay S) {a0 : Int32} {a1 : Int32} {a2 : Int32} {mm : Mm} : CallOK l G M_X12_in yX12_in 0 [vi a0, vi a1, vi a2] S mm (some (vi (m_X12_in a0 a1 a2))) S mm := by
  refine call_of_run rfl rfl rfl (by decide) ?_
  show Run l G M_X12_in 0 0 [some (vi a0), some (vi a1), some (vi a2)] [] S mm (some (vi (m_X12_in a0 a1 a2))) S mm
  generalize e : m_X12_in a0 a1 a2 = q
  unfold m_X12_in at e
  refine r_iload_n dX12_in_0 rfl ?_
  refine r_iload_n dX12_in_1 rfl ?_
  refine r_icmp_lt (tgt := 14) dX12_in_2 rfl (fun h1 => ?_) (fun h1 => ?_)
  · replace e := ite_t h1 e
    refine r_iconst (v := 0) dX12_in_14 ci_0 ?_
    cases e
    exact r_ireturn dX12_in_15 rfl (nz_b (by first | exact Or.inl rfl | exact Or.inr rfl)).1
  · replace e := ite_f h1 e
    refine r_iload_n dX12_in_5 rfl ?_
    refine r_iload_n dX12_in_6 rfl ?_
    refine r_icmp_gt (tgt := 14) dX12_in_7 rfl (fun h2 => ?_) (fun h2 => ?_)
    · replace e := ite_t h2 e
      refine r_iconst (v := 0) dX12_in_14 ci_0 ?_
      cases e
      exact r_ireturn dX12_in_15 rfl (nz_b (by first | exact Or.inl rfl | exact Or.inr rfl)).1
    · replace e := ite_f h2 e
      refine r_iconst (v := 1) dX12_in_10 ci_1 ?_
      refine r_goto (tgt := 15) dX12_in_11 rfl ?_
      cases e
      exact r_ireturn dX12_in_15 rfl (nz_b (by first | exact Or.inl rfl | exact Or.inr rfl)).1
def m_X12_has (a0 : Int32) (a1 : Int32) : Int32 := if ((xshr a0 a1) &&& (1 : Int32)) = (1 : Int32) then ((1 : Int32)) else ((0 : Int32))
set_option maxHeartbeats 4000000 in
set_option maxRecDepth 100000 in
theorem c_X12_has {l : Launch} {G : Gt} {S : Sk} (hS : Lay S) {a0 : Int32} {a1 : Int32} {mm : Mm} : CallOK l G M_X12_has yX12_has 0 [vi a0, vi a1] S mm (some (vi (m_X12_has a0 a1))) S mm := by
  refine call_of_run rfl rfl rfl (by decide) ?_
  show Run l G M_X12_has 0 0 [some (vi a0), some (vi a1)] [] S mm (some (vi (m_X12_has a0 a1))) S mm
  generalize e : m_X12_has a0 a1 = q
  unfold m_X12_has at e
  refine r_iload_n dX12_has_0 rfl ?_
  refine r_iload_n dX12_has_1 rfl ?_
  refine r_ishr dX12_has_2 ?_
  refine r_iconst (v := 1) dX12_has_3 ci_1 ?_
  refine r_iand dX12_has_4 ?_
  refine r_iconst (v := 1) dX12_has_5 ci_1 ?_
  refine r_icmp_ne (tgt := 13) dX12_has_6 rfl (fun h1 => ?_) (fun h1 => ?_)
  · replace e := ite_f h1 e
    refine r_iconst (v := 0) dX12_has_13 ci_0 ?_
    cases e
    exact r_ireturn dX12_has_14 rfl (nz_b (by first | exact Or.inl rfl | exact Or.inr rfl)).1
  · replace e := ite_t h1 e
    refine r_iconst (v := 1) dX12_has_9 ci_1 ?_
    refine r_goto (tgt := 14) dX12_has_10 rfl ?_
    cases e
    exact r_ireturn dX12_has_14 rfl (nz_b (by first | exact Or.inl rfl | exact Or.inr rfl)).1
def m_X12_greater (a0 : Int32) (a1 : Int32) : Int32 := if a0 ≤ a1 then (a1) else (a0)
set_option maxHeartbeats 4000000 in
set_option maxRecDepth 100000 in
theorem c_X12_greater {l : Launch} {G : Gt} {S : Sk} (hS : Lay S) {a0 : Int32} {a1 : Int32} {mm : Mm} : CallOK l G M_X12_greater yX12_greater 0 [vi a0, vi a1] S mm (some (vi (m_X12_greater a0 a1))) S mm := by
  refine call_of_run rfl rfl rfl (by decide) ?_
  show Run l G M_X12_greater 0 0 [some (vi a0), some (vi a1)] [] S mm (some (vi (m_X12_greater a0 a1))) S mm
  generalize e : m_X12_greater a0 a1 = q
  unfold m_X12_greater at e
  refine r_iload_n dX12_greater_0 rfl ?_
  refine r_iload_n dX12_greater_1 rfl ?_
  refine r_icmp_le (tgt := 9) dX12_greater_2 rfl (fun h1 => ?_) (fun h1 => ?_)
  · replace e := ite_t h1 e
    refine r_iload_n dX12_greater_9 rfl ?_
    cases e
    exact r_ireturn dX12_greater_10 rfl rfl
  · replace e := ite_f h1 e
    refine r_iload_n dX12_greater_5 rfl ?_
    refine r_goto (tgt := 10) dX12_greater_6 rfl ?_
    cases e
    exact r_ireturn dX12_greater_10 rfl rfl
def m_X12_lesser (a0 : Int32) (a1 : Int32) : Int32 := if a1 ≤ a0 then (a1) else (a0)
set_option maxHeartbeats 4000000 in
set_option maxRecDepth 100000 in
theorem c_X12_lesser {l : Launch} {G : Gt} {S : Sk} (hS : Lay S) {a0 : Int32} {a1 : Int32} {mm : Mm} : CallOK l G M_X12_lesser yX12_lesser 0 [vi a0, vi a1] S mm (some (vi (m_X12_lesser a0 a1))) S mm := by
  refine call_of_run rfl rfl rfl (by decide) ?_
  show Run l G M_X12_lesser 0 0 [some (vi a0), some (vi a1)] [] S mm (some (vi (m_X12_lesser a0 a1))) S mm
  generalize e : m_X12_lesser a0 a1 = q
  unfold m_X12_lesser at e
  refine r_iload_n dX12_lesser_0 rfl ?_
  refine r_iload_n dX12_lesser_1 rfl ?_
  refine r_icmp_ge (tgt := 9) dX12_lesser_2 rfl (fun h1 => ?_) (fun h1 => ?_)
  · replace e := ite_t h1 e
    refine r_iload_n dX12_lesser_9 rfl ?_
    cases e
    exact r_ireturn dX12_lesser_10 rfl rfl
  · replace e := ite_f h1 e
    refine r_iload_n dX12_lesser_5 rfl ?_
    refine r_goto (tgt := 10) dX12_lesser_6 rfl ?_
    cases e
    exact r_ireturn dX12_lesser_10 rfl rfl
def m_X12_ones_b4 (a0 : Int32) (z1 : Int32 × Int32) : Option ((Int32 × Int32) ⊕ (Int32)) := if (12 : Int32) ≤ z1.2 then (some (.inr z1.1)) else (some (.inl (z1.1 + (if (m_X12_has a0 z1.2) = 0 then (0 : Int32) else (1 : Int32)), z1.2 + (1 : Int32))))
def m_X12_ones (a0 : Int32) : Option (Int32) := (whileF FU (m_X12_ones_b4 a0) ((0 : Int32), (0 : Int32))).bind (fun p2 => some p2)
set_option maxHeartbeats 4000000 in
set_option maxRecDepth 100000 in
theorem c_X12_ones {l : Launch} {G : Gt} {S : Sk} (hS : Lay S) {a0 : Int32} {mm : Mm} {q : Int32} (e : m_X12_ones a0 = some q) : CallOK l G M_X12_ones yX12_ones 1 [vi a0] S mm (some (vi q)) S mm := by
  refine call_of_run rfl rfl rfl (by decide) ?_
  show Run l G M_X12_ones 1 0 [some (vi a0), none, none] [] S mm (some (vi q)) S mm
  unfold m_X12_ones at e
  refine r_iconst (v := 0) dX12_ones_0 ci_0 ?_
  refine r_istore_n dX12_ones_1 (by decide) rfl ?_
  refine r_iconst (v := 0) dX12_ones_2 ci_0 ?_
  refine r_istore_n dX12_ones_3 (by decide) rfl ?_
  obtain ⟨p2, eb6w, e⟩ := obind e
  have J3a : Run l G M_X12_ones 1 32 [none, some (vi p2), none] [] S mm (some (vi q)) S mm := by
    refine r_iload_n dX12_ones_32 rfl ?_
    cases e
    exact r_ireturn dX12_ones_33 rfl rfl
  have J3 : ∀ pp : Int32, pp = p2 → Run l G M_X12_ones 1 32 [none, some (vi pp), none] [] S mm (some (vi q)) S mm := by
    intro pp hpp
    rw [hpp]
    exact J3a
  have J3w : Run l G M_X12_ones 1 4 [some (vi a0), some (vi (0 : Int32)), some (vi (0 : Int32))] [] S mm (some (vi q)) S mm := by
    refine while_run (s := ((0 : Int32), (0 : Int32))) (Gs := fun (z1 : Int32 × Int32) => Run l G M_X12_ones 1 4 [some (vi a0), some (vi z1.1), some (vi z1.2)] [] S mm (some (vi q)) S mm) eb6w ?_
    intro z1 x4y eb6 hx5
    unfold m_X12_ones_b4 at eb6
    refine r_iload_n dX12_ones_4 rfl ?_
    refine r_bipush (v := 12) dX12_ones_5 cb_12 ?_
    refine r_icmp_ge (tgt := 32) dX12_ones_7 rfl (fun h7 => ?_) (fun h7 => ?_)
    · replace eb6 := ite_t h7 eb6
      cases eb6
      exact r_weak (L' := [none, some (vi z1.1), none]) ⟨rfl, trivial⟩ (J3 _ hx5)
    · replace eb6 := ite_f h7 eb6
      refine r_iload_n dX12_ones_10 rfl ?_
      refine r_iload_n dX12_ones_11 rfl ?_
      refine r_iload_n dX12_ones_12 rfl ?_
      refine r_callS (as := [_, _]) (rest := [_]) dX12_ones_13 ml_X12_94 yS_X12_has (c_X12_has hS) (by decide) rfl (Nat.le_of_ble_eq_true rfl) ?_
      have J10 : ∀ (w9 : Int32), w9 = (if (m_X12_has a0 z1.2) = 0 then (0 : Int32) else (1 : Int32)) → Run l G M_X12_ones 1 24 [some (vi a0), none, some (vi z1.2)] [vi w9, vi z1.1] S mm (some (vi q)) S mm := by
        intro w9 hw11
        subst hw11
        refine r_iadd dX12_ones_24 ?_
        refine r_istore_n dX12_ones_25 (by decide) rfl ?_
        refine r_iinc (v := _ + (1 : Int32)) dX12_ones_26 rfl (congrArg (_ + ·) ci_1) (by decide) rfl ?_
        refine r_goto (tgt := 4) dX12_ones_29 rfl ?_
        cases eb6
        exact r_weak (L' := [some (vi a0), some (vi (z1.1 + (if (m_X12_has a0 z1.2) = 0 then (0 : Int32) else (1 : Int32)))), some (vi (z1.2 + (1 : Int32)))]) ⟨rfl, rfl, rfl, trivial⟩ hx5
      refine r_if_eq (tgt := 23) dX12_ones_16 rfl (fun h8 => ?_) (fun h8 => ?_)
      · refine r_iconst (v := 0) dX12_ones_23 ci_0 ?_
        exact r_weak (L' := [some (vi a0), none, some (vi z1.2)]) ⟨rfl, rfl, trivial⟩ (J10 _ (by first | rfl | simp only [if_pos h8]))
      · refine r_iconst (v := 1) dX12_ones_19 ci_1 ?_
        refine r_goto (tgt := 24) dX12_ones_20 rfl ?_
        exact r_weak (L' := [some (vi a0), none, some (vi z1.2)]) ⟨rfl, rfl, trivial⟩ (J10 _ (by first | rfl | simp only [if_neg h8]))
  exact r_weak (L' := [some (vi a0), some (vi (0 : Int32)), some (vi (0 : Int32))]) ⟨rfl, rfl, rfl, trivial⟩ J3w
def m_X12_copyRow_b3 (a0 : Nat) (a1 : Int32) (a2 : Int32) (a3 : Int32) (S : Sk) (z1 : Int32 × Mm) : Option ((Int32 × Mm) ⊕ (Mm)) := if a1 ≤ z1.1 then (some (.inr z1.2)) else (grd ((a1 * a2) + z1.1) ((sK S a0).2) (grd ((a1 * a3) + z1.1) ((sK S a0).2) (some (.inl (z1.1 + (1 : Int32), (sI z1.2 a0 (ix ((a1 * a3) + z1.1)) (mI z1.2 a0 (ix ((a1 * a2) + z1.1)))))))))
def m_X12_copyRow (S : Sk) (a0 : Nat) (a1 : Int32) (a2 : Int32) (a3 : Int32) (mm : Mm) : Option (Mm) := (whileF FU (m_X12_copyRow_b3 a0 a1 a2 a3 S) ((0 : Int32), mm)).bind (fun p2 => some p2)
set_option maxHeartbeats 4000000 in
set_option maxRecDepth 100000 in
theorem c_X12_copyRow {l : Launch} {G : Gt} {S : Sk} (hS : Lay S) {a0 : Nat} {a1 : Int32} {a2 : Int32} {a3 : Int32} {mm : Mm} (ha0 : a0 < sN S ∧ (sK S a0).1 = 20) {q : Mm} (e : m_X12_copyRow S a0 a1 a2 a3 mm = some q) : CallOK l G M_X12_copyRow yX12_copyRow 0 [vr (some a0), vi a1, vi a2, vi a3] S mm (none) S q := by
  refine call_of_run rfl rfl rfl (by decide) ?_
  show Run l G M_X12_copyRow 0 0 [some (vr (some a0)), some (vi a1), some (vi a2), some (vi a3), none] [] S mm (none) S q
  unfold m_X12_copyRow at e
  refine r_iconst (v := 0) dX12_copyRow_0 ci_0 ?_
  refine r_istore dX12_copyRow_1 (by decide) rfl ?_
  obtain ⟨p2, eb6w, e⟩ := obind e
  have J3a : Run l G M_X12_copyRow 0 31 [none, none, none, none, none] [] S p2 (none) S q := by
    cases e
    exact r_return dX12_copyRow_31 rfl
  have J3 : ∀ pp : Mm, pp = p2 → Run l G M_X12_copyRow 0 31 [none, none, none, none, none] [] S pp (none) S q := by
    intro pp hpp
    rw [hpp]
    exact J3a
  have J3w : Run l G M_X12_copyRow 0 3 [some (vr (some a0)), some (vi a1), some (vi a2), some (vi a3), some (vi (0 : Int32))] [] S mm (none) S q := by
    refine while_run (s := ((0 : Int32), mm)) (Gs := fun (z1 : Int32 × Mm) => Run l G M_X12_copyRow 0 3 [some (vr (some a0)), some (vi a1), some (vi a2), some (vi a3), some (vi z1.1)] [] S z1.2 (none) S q) eb6w ?_
    intro z1 x4y eb6 hx5
    unfold m_X12_copyRow_b3 at eb6
    refine r_iload dX12_copyRow_3 rfl ?_
    refine r_iload_n dX12_copyRow_5 rfl ?_
    refine r_icmp_ge (tgt := 31) dX12_copyRow_6 rfl (fun h7 => ?_) (fun h7 => ?_)
    · replace eb6 := ite_t h7 eb6
      cases eb6
      exact r_weak (L' := [none, none, none, none, none]) ⟨trivial⟩ (J3 _ hx5)
    · replace eb6 := ite_f h7 eb6
      refine r_aload_n dX12_copyRow_9 rfl ?_
      refine r_iload_n dX12_copyRow_10 rfl ?_
      refine r_iload_n dX12_copyRow_11 rfl ?_
      refine r_imul dX12_copyRow_12 ?_
      refine r_iload dX12_copyRow_13 rfl ?_
      refine r_iadd dX12_copyRow_15 ?_
      refine r_aload_n dX12_copyRow_16 rfl ?_
      refine r_iload_n dX12_copyRow_17 rfl ?_
      refine r_iload_n dX12_copyRow_18 rfl ?_
      refine r_imul dX12_copyRow_19 ?_
      refine r_iload dX12_copyRow_20 rfl ?_
      refine r_iadd dX12_copyRow_22 ?_
      obtain ⟨hg8, eb6⟩ := grd_some eb6
      refine r_iald dX12_copyRow_23 ha0.1 (arr_k ha0) hg8 ?_
      obtain ⟨hg9, eb6⟩ := grd_some eb6
      refine r_iast dX12_copyRow_24 ha0.1 (arr_k ha0) hg9 ?_
      refine r_iinc (v := _ + (1 : Int32)) dX12_copyRow_25 rfl (congrArg (_ + ·) ci_1) (by decide) rfl ?_
      refine r_goto (tgt := 3) dX12_copyRow_28 rfl ?_
      cases eb6
      exact r_weak (L' := [some (vr (some a0)), some (vi a1), some (vi a2), some (vi a3), some (vi (z1.1 + (1 : Int32)))]) ⟨rfl, rfl, rfl, rfl, rfl, trivial⟩ hx5
  exact r_weak (L' := [some (vr (some a0)), some (vi a1), some (vi a2), some (vi a3), some (vi (0 : Int32))]) ⟨rfl, rfl, rfl, rfl, rfl, trivial⟩ J3w
def m_X12_copyAll_b2 (a1 : Int32) (a2 : Int32) (z1 : Int32 × Mm) : Option ((Int32 × Mm) ⊕ (Mm)) := if (600 : Int32) ≤ z1.1 then (some (.inr z1.2)) else (grd (((600 : Int32) * a1) + z1.1) 2400 (grd (((600 : Int32) * a2) + z1.1) 2400 (some (.inl (z1.1 + (1 : Int32), (sI z1.2 45 (ix (((600 : Int32) * a2) + z1.1)) (vp_nar .byte (mI z1.2 45 (ix (((600 : Int32) * a1) + z1.1))))))))))
def m_X12_copyAll (a1 : Int32) (a2 : Int32) (mm : Mm) : Option (Mm) := (whileF FU (m_X12_copyAll_b2 a1 a2) ((0 : Int32), mm)).bind (fun p2 => (m_X12_copyRow S 46 (1 : Int32) a1 a2 p2).bind (fun q10 => (m_X12_copyRow S 47 (1 : Int32) a1 a2 q10).bind (fun q12 => (m_X12_copyRow S 48 (1 : Int32) a1 a2 q12).bind (fun q14 => (m_X12_copyRow S 49 (4 : Int32) a1 a2 q14).bind (fun q16 => (m_X12_copyRow S 50 (144 : Int32) a1 a2 q16).bind (fun q18 => (m_X12_copyRow S 51 (322 : Int32) a1 a2 q18).bind (fun q20 => (m_X12_copyRow S 52 (26 : Int32) a1 a2 q20).bind (fun q22 => (m_X12_copyRow S 53 (50 : Int32) a1 a2 q22).bind (fun q24 => some q24)))))))))
set_option maxHeartbeats 4000000 in
set_option maxRecDepth 100000 in
theorem c_X12_copyAll {l : Launch} {G : Gt} {S : Sk} (hS : Lay S) {a1 : Int32} {a2 : Int32} {mm : Mm} {q : Mm} (e : m_X12_copyAll a1 a2 mm = some q) : CallOK l G M_X12_copyAll yX12_copyAll 1 [vr (some 44), vi a1, vi a2] S mm (none) S q := by
  refine call_of_run rfl rfl rfl (by decide) ?_
  show Run l G M_X12_copyAll 1 0 [some (vr (some 44)), some (vi a1), some (vi a2), none] [] S mm (none) S q
  unfold m_X12_copyAll at e
  refine r_iconst (v := 0) dX12_copyAll_0 ci_0 ?_
  refine r_istore_n dX12_copyAll_1 (by decide) rfl ?_
  obtain ⟨p2, eb6w, e⟩ := obind e
  have J3a : Run l G M_X12_copyAll 1 39 [some (vr (some 44)), some (vi a1), some (vi a2), none] [] S p2 (none) S q := by
    refine r_aload_n dX12_copyAll_39 rfl ?_
    refine r_getR dX12_copyAll_40 fl_X12_13 rfl (lp_44 hS) (lq_44 hS) (lr_44_2 hS) ?_
    refine r_iconst (v := 1) dX12_copyAll_43 ci_1 ?_
    refine r_iload_n dX12_copyAll_44 rfl ?_
    refine r_iload_n dX12_copyAll_45 rfl ?_
    obtain ⟨q10, eq11, e⟩ := obind e
    refine r_callS (as := [_, _, _, _]) (rest := []) dX12_copyAll_46 ml_X12_98 yS_X12_copyRow (c_X12_copyRow hS (la_46 hS) eq11) (by decide) rfl (Nat.le_of_ble_eq_true rfl) ?_
    refine r_aload_n dX12_copyAll_49 rfl ?_
    refine r_getR dX12_copyAll_50 fl_X12_17 rfl (lp_44 hS) (lq_44 hS) (lr_44_3 hS) ?_
    refine r_iconst (v := 1) dX12_copyAll_53 ci_1 ?_
    refine r_iload_n dX12_copyAll_54 rfl ?_
    refine r_iload_n dX12_copyAll_55 rfl ?_
    obtain ⟨q12, eq13, e⟩ := obind e
    refine r_callS (as := [_, _, _, _]) (rest := []) dX12_copyAll_56 ml_X12_98 yS_X12_copyRow (c_X12_copyRow hS (la_47 hS) eq13) (by decide) rfl (Nat.le_of_ble_eq_true rfl) ?_
    refine r_aload_n dX12_copyAll_59 rfl ?_
    refine r_getR dX12_copyAll_60 fl_X12_20 rfl (lp_44 hS) (lq_44 hS) (lr_44_4 hS) ?_
    refine r_iconst (v := 1) dX12_copyAll_63 ci_1 ?_
    refine r_iload_n dX12_copyAll_64 rfl ?_
    refine r_iload_n dX12_copyAll_65 rfl ?_
    obtain ⟨q14, eq15, e⟩ := obind e
    refine r_callS (as := [_, _, _, _]) (rest := []) dX12_copyAll_66 ml_X12_98 yS_X12_copyRow (c_X12_copyRow hS (la_48 hS) eq15) (by decide) rfl (Nat.le_of_ble_eq_true rfl) ?_
    refine r_aload_n dX12_copyAll_69 rfl ?_
    refine r_getR dX12_copyAll_70 fl_X12_23 rfl (lp_44 hS) (lq_44 hS) (lr_44_5 hS) ?_
    refine r_iconst (v := 4) dX12_copyAll_73 ci_4 ?_
    refine r_iload_n dX12_copyAll_74 rfl ?_
    refine r_iload_n dX12_copyAll_75 rfl ?_
    obtain ⟨q16, eq17, e⟩ := obind e
    refine r_callS (as := [_, _, _, _]) (rest := []) dX12_copyAll_76 ml_X12_98 yS_X12_copyRow (c_X12_copyRow hS (la_49 hS) eq17) (by decide) rfl (Nat.le_of_ble_eq_true rfl) ?_
    refine r_aload_n dX12_copyAll_79 rfl ?_
    refine r_getR dX12_copyAll_80 fl_X12_26 rfl (lp_44 hS) (lq_44 hS) (lr_44_6 hS) ?_
    refine r_sipush (v := 144) dX12_copyAll_83 cs_144 ?_
    refine r_iload_n dX12_copyAll_86 rfl ?_
    refine r_iload_n dX12_copyAll_87 rfl ?_
    obtain ⟨q18, eq19, e⟩ := obind e
    refine r_callS (as := [_, _, _, _]) (rest := []) dX12_copyAll_88 ml_X12_98 yS_X12_copyRow (c_X12_copyRow hS (la_50 hS) eq19) (by decide) rfl (Nat.le_of_ble_eq_true rfl) ?_
    refine r_aload_n dX12_copyAll_91 rfl ?_
    refine r_getR dX12_copyAll_92 fl_X12_29 rfl (lp_44 hS) (lq_44 hS) (lr_44_7 hS) ?_
    refine r_sipush (v := 322) dX12_copyAll_95 cs_322 ?_
    refine r_iload_n dX12_copyAll_98 rfl ?_
    refine r_iload_n dX12_copyAll_99 rfl ?_
    obtain ⟨q20, eq21, e⟩ := obind e
    refine r_callS (as := [_, _, _, _]) (rest := []) dX12_copyAll_100 ml_X12_98 yS_X12_copyRow (c_X12_copyRow hS (la_51 hS) eq21) (by decide) rfl (Nat.le_of_ble_eq_true rfl) ?_
    refine r_aload_n dX12_copyAll_103 rfl ?_
    refine r_getR dX12_copyAll_104 fl_X12_32 rfl (lp_44 hS) (lq_44 hS) (lr_44_8 hS) ?_
    refine r_bipush (v := 26) dX12_copyAll_107 cb_26 ?_
    refine r_iload_n dX12_copyAll_109 rfl ?_
    refine r_iload_n dX12_copyAll_110 rfl ?_
    obtain ⟨q22, eq23, e⟩ := obind e
    refine r_callS (as := [_, _, _, _]) (rest := []) dX12_copyAll_111 ml_X12_98 yS_X12_copyRow (c_X12_copyRow hS (la_52 hS) eq23) (by decide) rfl (Nat.le_of_ble_eq_true rfl) ?_
    refine r_aload_n dX12_copyAll_114 rfl ?_
    refine r_getR dX12_copyAll_115 fl_X12_35 rfl (lp_44 hS) (lq_44 hS) (lr_44_9 hS) ?_
    refine r_bipush (v := 50) dX12_copyAll_118 cb_50 ?_
    refine r_iload_n dX12_copyAll_120 rfl ?_
    refine r_iload_n dX12_copyAll_121 rfl ?_
    obtain ⟨q24, eq25, e⟩ := obind e
    refine r_callS (as := [_, _, _, _]) (rest := []) dX12_copyAll_122 ml_X12_98 yS_X12_copyRow (c_X12_copyRow hS (la_53 hS) eq25) (by decide) rfl (Nat.le_of_ble_eq_true rfl) ?_
    cases e
    exact r_return dX12_copyAll_125 rfl
  have J3 : ∀ pp : Mm, pp = p2 → Run l G M_X12_copyAll 1 39 [some (vr (some 44)), some (vi a1), some (vi a2), none] [] S pp (none) S q := by
    intro pp hpp
    rw [hpp]
    exact J3a
  have J3w : Run l G M_X12_copyAll 1 2 [some (vr (some 44)), some (vi a1), some (vi a2), some (vi (0 : Int32))] [] S mm (none) S q := by
    refine while_run (s := ((0 : Int32), mm)) (Gs := fun (z1 : Int32 × Mm) => Run l G M_X12_copyAll 1 2 [some (vr (some 44)), some (vi a1), some (vi a2), some (vi z1.1)] [] S z1.2 (none) S q) eb6w ?_
    intro z1 x4y eb6 hx5
    unfold m_X12_copyAll_b2 at eb6
    refine r_iload_n dX12_copyAll_2 rfl ?_
    refine r_sipush (v := 600) dX12_copyAll_3 cs_600 ?_
    refine r_icmp_ge (tgt := 39) dX12_copyAll_6 rfl (fun h7 => ?_) (fun h7 => ?_)
    · replace eb6 := ite_t h7 eb6
      cases eb6
      exact r_weak (L' := [some (vr (some 44)), some (vi a1), some (vi a2), none]) ⟨rfl, rfl, rfl, trivial⟩ (J3 _ hx5)
    · replace eb6 := ite_f h7 eb6
      refine r_aload_n dX12_copyAll_9 rfl ?_
      refine r_getR dX12_copyAll_10 fl_X12_7 rfl (lp_44 hS) (lq_44 hS) (lr_44_1 hS) ?_
      refine r_sipush (v := 600) dX12_copyAll_13 cs_600 ?_
      refine r_iload_n dX12_copyAll_16 rfl ?_
      refine r_imul dX12_copyAll_17 ?_
      refine r_iload_n dX12_copyAll_18 rfl ?_
      refine r_iadd dX12_copyAll_19 ?_
      refine r_aload_n dX12_copyAll_20 rfl ?_
      refine r_getR dX12_copyAll_21 fl_X12_7 rfl (lp_44 hS) (lq_44 hS) (lr_44_1 hS) ?_
      refine r_sipush (v := 600) dX12_copyAll_24 cs_600 ?_
      refine r_iload_n dX12_copyAll_27 rfl ?_
      refine r_imul dX12_copyAll_28 ?_
      refine r_iload_n dX12_copyAll_29 rfl ?_
      refine r_iadd dX12_copyAll_30 ?_
      obtain ⟨hg8, eb6⟩ := grd_some eb6
      refine r_bald dX12_copyAll_31 (lp_45 hS) (lk_45 hS) hg8 ?_
      obtain ⟨hg9, eb6⟩ := grd_some eb6
      refine r_bast dX12_copyAll_32 (lp_45 hS) (lk_45 hS) hg9 ?_
      refine r_iinc (v := _ + (1 : Int32)) dX12_copyAll_33 rfl (congrArg (_ + ·) ci_1) (by decide) rfl ?_
      refine r_goto (tgt := 2) dX12_copyAll_36 rfl ?_
      cases eb6
      exact r_weak (L' := [some (vr (some 44)), some (vi a1), some (vi a2), some (vi (z1.1 + (1 : Int32)))]) ⟨rfl, rfl, rfl, rfl, trivial⟩ hx5
  exact r_weak (L' := [some (vr (some 44)), some (vi a1), some (vi a2), some (vi (0 : Int32))]) ⟨rfl, rfl, rfl, rfl, trivial⟩ J3w
def m_X12_is (a1 : Int32) (a2 : Int32) (mm : Mm) : Option (Int32) := grd a1 16 (gbz (m_X12_in a2 (0 : Int32) ((mI mm 49 (ix a1)) - (1 : Int32))) (some (m_X12_in a2 (0 : Int32) ((mI mm 49 (ix a1)) - (1 : Int32)))))
set_option maxHeartbeats 4000000 in
set_option maxRecDepth 100000 in
theorem c_X12_is {l : Launch} {G : Gt} {S : Sk} (hS : Lay S) {a1 : Int32} {a2 : Int32} {mm : Mm} {q : Int32} (e : m_X12_is a1 a2 mm = some q) : CallOK l G M_X12_is yX12_is 1 [vr (some 44), vi a1, vi a2] S mm (some (vi q)) S mm := by
  refine call_of_run rfl rfl rfl (by decide) ?_
  show Run l G M_X12_is 1 0 [some (vr (some 44)), some (vi a1), some (vi a2)] [] S mm (some (vi q)) S mm
  unfold m_X12_is at e
  refine r_iload_n dX12_is_0 rfl ?_
  refine r_iconst (v := 0) dX12_is_1 ci_0 ?_
  refine r_aload_n dX12_is_2 rfl ?_
  refine r_getR dX12_is_3 fl_X12_23 rfl (lp_44 hS) (lq_44 hS) (lr_44_5 hS) ?_
  refine r_iload_n dX12_is_6 rfl ?_
  obtain ⟨hg1, e⟩ := grd_some e
  refine r_iald dX12_is_7 (lp_49 hS) (lk_49 hS) hg1 ?_
  refine r_iconst (v := 1) dX12_is_8 ci_1 ?_
  refine r_isub dX12_is_9 ?_
  refine r_callS (as := [_, _, _]) (rest := []) dX12_is_10 ml_X12_102 yS_X12_in (c_X12_in hS) (by decide) rfl (Nat.le_of_ble_eq_true rfl) ?_
  obtain ⟨hbz, e⟩ := gbz_some e
  cases e
  exact r_ireturn dX12_is_13 rfl (nz_b hbz).1
def m_X12_four_b3 (a1 : Int32) (z1 : Int32 × Mm) : Option ((Int32 × Mm) ⊕ (Mm)) := if z1.1 < 0 then (some (.inr z1.2)) else (grd (mI z1.2 46 (ix (0 : Int32))) 2400 (some (.inl (z1.1 + (-8 : Int32), (sI (sI z1.2 45 (ix (mI z1.2 46 (ix (0 : Int32)))) (vp_nar .byte ((xshr a1 z1.1).toInt8.toInt32))) 46 (ix (0 : Int32)) ((mI (sI z1.2 45 (ix (mI z1.2 46 (ix (0 : Int32)))) (vp_nar .byte ((xshr a1 z1.1).toInt8.toInt32))) 46 (ix (0 : Int32))) + (1 : Int32)))))))
def m_X12_four (a1 : Int32) (mm : Mm) : Option (Mm) := (whileF FU (m_X12_four_b3 a1) ((24 : Int32), mm)).bind (fun p2 => some p2)
set_option maxHeartbeats 4000000 in
set_option maxRecDepth 100000 in
theorem c_X12_four {l : Launch} {G : Gt} {S : Sk} (hS : Lay S) {a1 : Int32} {mm : Mm} {q : Mm} (e : m_X12_four a1 mm = some q) : CallOK l G M_X12_four yX12_four 0 [vr (some 44), vi a1] S mm (none) S q := by
  refine call_of_run rfl rfl rfl (by decide) ?_
  show Run l G M_X12_four 0 0 [some (vr (some 44)), some (vi a1), none] [] S mm (none) S q
  unfold m_X12_four at e
  refine r_bipush (v := 24) dX12_four_0 cb_24 ?_
  refine r_istore_n dX12_four_2 (by decide) rfl ?_
  obtain ⟨p2, eb6w, e⟩ := obind e
  have J3a : Run l G M_X12_four 0 38 [none, none, none] [] S p2 (none) S q := by
    cases e
    exact r_return dX12_four_38 rfl
  have J3 : ∀ pp : Mm, pp = p2 → Run l G M_X12_four 0 38 [none, none, none] [] S pp (none) S q := by
    intro pp hpp
    rw [hpp]
    exact J3a
  have J3w : Run l G M_X12_four 0 3 [some (vr (some 44)), some (vi a1), some (vi (24 : Int32))] [] S mm (none) S q := by
    refine while_run (s := ((24 : Int32), mm)) (Gs := fun (z1 : Int32 × Mm) => Run l G M_X12_four 0 3 [some (vr (some 44)), some (vi a1), some (vi z1.1)] [] S z1.2 (none) S q) eb6w ?_
    intro z1 x4y eb6 hx5
    unfold m_X12_four_b3 at eb6
    refine r_iload_n dX12_four_3 rfl ?_
    refine r_if_lt (tgt := 38) dX12_four_4 rfl (fun h7 => ?_) (fun h7 => ?_)
    · replace eb6 := ite_t h7 eb6
      cases eb6
      exact r_weak (L' := [none, none, none]) ⟨trivial⟩ (J3 _ hx5)
    · replace eb6 := ite_f h7 eb6
      refine r_aload_n dX12_four_7 rfl ?_
      refine r_getR dX12_four_8 fl_X12_7 rfl (lp_44 hS) (lq_44 hS) (lr_44_1 hS) ?_
      refine r_aload_n dX12_four_11 rfl ?_
      refine r_getR dX12_four_12 fl_X12_13 rfl (lp_44 hS) (lq_44 hS) (lr_44_2 hS) ?_
      refine r_iconst (v := 0) dX12_four_15 ci_0 ?_
      refine r_iald dX12_four_16 (lp_46 hS) (lk_46 hS) (vp_in_iff.mpr ⟨by decide, by decide⟩) ?_
      refine r_iload_n dX12_four_17 rfl ?_
      refine r_iload_n dX12_four_18 rfl ?_
      refine r_ishr dX12_four_19 ?_
      refine r_i2b dX12_four_20 ?_
      obtain ⟨hg8, eb6⟩ := grd_some eb6
      refine r_bast dX12_four_21 (lp_45 hS) (lk_45 hS) hg8 ?_
      refine r_aload_n dX12_four_22 rfl ?_
      refine r_getR dX12_four_23 fl_X12_13 rfl (lp_44 hS) (lq_44 hS) (lr_44_2 hS) ?_
      refine r_iconst (v := 0) dX12_four_26 ci_0 ?_
      refine r_dup2 dX12_four_27 rfl rfl ?_
      refine r_iald dX12_four_28 (lp_46 hS) (lk_46 hS) (vp_in_iff.mpr ⟨by decide, by decide⟩) ?_
      refine r_iconst (v := 1) dX12_four_29 ci_1 ?_
      refine r_iadd dX12_four_30 ?_
      refine r_iast dX12_four_31 (lp_46 hS) (lk_46 hS) (vp_in_iff.mpr ⟨by decide, by decide⟩) ?_
      refine r_iinc (v := _ + (-8 : Int32)) dX12_four_32 rfl (congrArg (_ + ·) ci_m8) (by decide) rfl ?_
      refine r_goto (tgt := 3) dX12_four_35 rfl ?_
      cases eb6
      exact r_weak (L' := [some (vr (some 44)), some (vi a1), some (vi (z1.1 + (-8 : Int32)))]) ⟨rfl, rfl, rfl, trivial⟩ hx5
  exact r_weak (L' := [some (vr (some 44)), some (vi a1), some (vi (24 : Int32))]) ⟨rfl, rfl, rfl, trivial⟩ J3w
def m_X12_feed (a1 : Int32) (a2 : Int32) (a3 : Int32) (a4 : Int32) (a5 : Int32) (mm : Mm) : Option (Int32 × Mm) := if ((mI (sI mm 44 0 (0 : Int32)) 46 (ix (0 : Int32))) + (20 : Int32)) ≤ (600 : Int32) then ((m_X12_four a1 (sI mm 44 0 (0 : Int32))).bind (fun q2 => (m_X12_four a2 q2).bind (fun q4 => (m_X12_four a3 q4).bind (fun q6 => (m_X12_four a4 q6).bind (fun q8 => (m_X12_four a5 q8).bind (fun q10 => some (mI q10 46 (ix (0 : Int32)), q10))))))) else (some ((-1 : Int32), (sI mm 44 0 (0 : Int32))))
set_option maxHeartbeats 4000000 in
set_option maxRecDepth 100000 in
theorem c_X12_feed {l : Launch} {G : Gt} {S : Sk} (hS : Lay S) {a1 : Int32} {a2 : Int32} {a3 : Int32} {a4 : Int32} {a5 : Int32} {mm : Mm} {q : Int32 × Mm} (e : m_X12_feed a1 a2 a3 a4 a5 mm = some q) : CallOK l G M_X12_feed yX12_feed 1 [vr (some 44), vi a1, vi a2, vi a3, vi a4, vi a5] S mm (some (vi q.1)) S q.2 := by
  refine call_of_run rfl rfl rfl (by decide) ?_
  show Run l G M_X12_feed 1 0 [some (vr (some 44)), some (vi a1), some (vi a2), some (vi a3), some (vi a4), some (vi a5)] [] S mm (some (vi q.1)) S q.2
  unfold m_X12_feed at e
  refine r_aload_n dX12_feed_0 rfl ?_
  refine r_iconst (v := 0) dX12_feed_1 ci_0 ?_
  refine r_putI dX12_feed_2 fl_X12_90 ft_12_0 (Or.inl rfl) rfl rfl rfl (lp_44 hS) (lq_44 hS) ?_
  refine r_aload_n dX12_feed_5 rfl ?_
  refine r_getR dX12_feed_6 fl_X12_13 rfl (lp_44 hS) (lq_44 hS) (lr_44_2 hS) ?_
  refine r_iconst (v := 0) dX12_feed_9 ci_0 ?_
  refine r_iald dX12_feed_10 (lp_46 hS) (lk_46 hS) (vp_in_iff.mpr ⟨by decide, by decide⟩) ?_
  refine r_bipush (v := 20) dX12_feed_11 cb_20 ?_
  refine r_iadd dX12_feed_13 ?_
  refine r_sipush (v := 600) dX12_feed_14 cs_600 ?_
  refine r_icmp_le (tgt := 22) dX12_feed_17 rfl (fun h1 => ?_) (fun h1 => ?_)
  · replace e := ite_t h1 e
    refine r_aload_n dX12_feed_22 rfl ?_
    refine r_iload_n dX12_feed_23 rfl ?_
    obtain ⟨q2, eq3, e⟩ := obind e
    refine r_callV (as := [_]) (rest := []) dX12_feed_24 ml_X12_106 yV_X12_four (c_X12_four hS eq3) (by decide) rfl (lp_44 hS) (lq_44 hS) (Nat.le_of_ble_eq_true rfl) ?_
    refine r_aload_n dX12_feed_27 rfl ?_
    refine r_iload_n dX12_feed_28 rfl ?_
    obtain ⟨q4, eq5, e⟩ := obind e
    refine r_callV (as := [_]) (rest := []) dX12_feed_29 ml_X12_106 yV_X12_four (c_X12_four hS eq5) (by decide) rfl (lp_44 hS) (lq_44 hS) (Nat.le_of_ble_eq_true rfl) ?_
    refine r_aload_n dX12_feed_32 rfl ?_
    refine r_iload_n dX12_feed_33 rfl ?_
    obtain ⟨q6, eq7, e⟩ := obind e
    refine r_callV (as := [_]) (rest := []) dX12_feed_34 ml_X12_106 yV_X12_four (c_X12_four hS eq7) (by decide) rfl (lp_44 hS) (lq_44 hS) (Nat.le_of_ble_eq_true rfl) ?_
    refine r_aload_n dX12_feed_37 rfl ?_
    refine r_iload dX12_feed_38 rfl ?_
    obtain ⟨q8, eq9, e⟩ := obind e
    refine r_callV (as := [_]) (rest := []) dX12_feed_40 ml_X12_106 yV_X12_four (c_X12_four hS eq9) (by decide) rfl (lp_44 hS) (lq_44 hS) (Nat.le_of_ble_eq_true rfl) ?_
    refine r_aload_n dX12_feed_43 rfl ?_
    refine r_iload dX12_feed_44 rfl ?_
    obtain ⟨q10, eq11, e⟩ := obind e
    refine r_callV (as := [_]) (rest := []) dX12_feed_46 ml_X12_106 yV_X12_four (c_X12_four hS eq11) (by decide) rfl (lp_44 hS) (lq_44 hS) (Nat.le_of_ble_eq_true rfl) ?_
    refine r_aload_n dX12_feed_49 rfl ?_
    refine r_getR dX12_feed_50 fl_X12_13 rfl (lp_44 hS) (lq_44 hS) (lr_44_2 hS) ?_
    refine r_iconst (v := 0) dX12_feed_53 ci_0 ?_
    refine r_iald dX12_feed_54 (lp_46 hS) (lk_46 hS) (vp_in_iff.mpr ⟨by decide, by decide⟩) ?_
    cases e
    exact r_ireturn dX12_feed_55 rfl rfl
  · replace e := ite_f h1 e
    refine r_iconst (v := -1) dX12_feed_20 ci_m1 ?_
    cases e
    exact r_ireturn dX12_feed_21 rfl rfl
def m_X12_end (a1 : Int32) (mm : Mm) : Option (Int32 × Mm) := if (m_X12_in a1 (0 : Int32) (mI (sI mm 44 0 (0 : Int32)) 46 (ix (0 : Int32)))) = 0 then (some ((-1 : Int32), (sI mm 44 0 (0 : Int32)))) else (some (a1, (sI (sI mm 44 0 (0 : Int32)) 46 (ix (0 : Int32)) a1)))
set_option maxHeartbeats 4000000 in
set_option maxRecDepth 100000 in
theorem c_X12_end {l : Launch} {G : Gt} {S : Sk} (hS : Lay S) {a1 : Int32} {mm : Mm} {q : Int32 × Mm} (e : m_X12_end a1 mm = some q) : CallOK l G M_X12_end yX12_end 1 [vr (some 44), vi a1] S mm (some (vi q.1)) S q.2 := by
  refine call_of_run rfl rfl rfl (by decide) ?_
  show Run l G M_X12_end 1 0 [some (vr (some 44)), some (vi a1)] [] S mm (some (vi q.1)) S q.2
  unfold m_X12_end at e
  refine r_aload_n dX12_end_0 rfl ?_
  refine r_iconst (v := 0) dX12_end_1 ci_0 ?_
  refine r_putI dX12_end_2 fl_X12_90 ft_12_0 (Or.inl rfl) rfl rfl rfl (lp_44 hS) (lq_44 hS) ?_
  refine r_iload_n dX12_end_5 rfl ?_
  refine r_iconst (v := 0) dX12_end_6 ci_0 ?_
  refine r_aload_n dX12_end_7 rfl ?_
  refine r_getR dX12_end_8 fl_X12_13 rfl (lp_44 hS) (lq_44 hS) (lr_44_2 hS) ?_
  refine r_iconst (v := 0) dX12_end_11 ci_0 ?_
  refine r_iald dX12_end_12 (lp_46 hS) (lk_46 hS) (vp_in_iff.mpr ⟨by decide, by decide⟩) ?_
  refine r_callS (as := [_, _, _]) (rest := []) dX12_end_13 ml_X12_102 yS_X12_in (c_X12_in hS) (by decide) rfl (Nat.le_of_ble_eq_true rfl) ?_
  refine r_if_ne (tgt := 21) dX12_end_16 rfl (fun h1 => ?_) (fun h1 => ?_)
  · replace e := ite_f h1 e
    refine r_aload_n dX12_end_21 rfl ?_
    refine r_getR dX12_end_22 fl_X12_13 rfl (lp_44 hS) (lq_44 hS) (lr_44_2 hS) ?_
    refine r_iconst (v := 0) dX12_end_25 ci_0 ?_
    refine r_iload_n dX12_end_26 rfl ?_
    refine r_iast dX12_end_27 (lp_46 hS) (lk_46 hS) (vp_in_iff.mpr ⟨by decide, by decide⟩) ?_
    refine r_iload_n dX12_end_28 rfl ?_
    cases e
    exact r_ireturn dX12_end_29 rfl rfl
  · replace e := ite_t h1 e
    refine r_iconst (v := -1) dX12_end_19 ci_m1 ?_
    cases e
    exact r_ireturn dX12_end_20 rfl rfl
def m_X12_see (mm : Mm) : Option (Int32) := if (mI mm 44 11) ≤ (mI mm 44 10) then (some (-1 : Int32)) else (grd (mI mm 44 10) 2400 (some ((mI mm 45 (ix (mI mm 44 10))) &&& (255 : Int32))))
set_option maxHeartbeats 4000000 in
set_option maxRecDepth 100000 in
theorem c_X12_see {l : Launch} {G : Gt} {S : Sk} (hS : Lay S) {mm : Mm} {q : Int32} (e : m_X12_see mm = some q) : CallOK l G M_X12_see yX12_see 0 [vr (some 44)] S mm (some (vi q)) S mm := by
  refine call_of_run rfl rfl rfl (by decide) ?_
  show Run l G M_X12_see 0 0 [some (vr (some 44))] [] S mm (some (vi q)) S mm
  unfold m_X12_see at e
  refine r_aload_n dX12_see_0 rfl ?_
  refine r_getI dX12_see_1 fl_X12_110 rfl (lp_44 hS) (lq_44 hS) ?_
  refine r_aload_n dX12_see_4 rfl ?_
  refine r_getI dX12_see_5 fl_X12_113 rfl (lp_44 hS) (lq_44 hS) ?_
  refine r_icmp_ge (tgt := 27) dX12_see_8 rfl (fun h1 => ?_) (fun h1 => ?_)
  · replace e := ite_t h1 e
    refine r_iconst (v := -1) dX12_see_27 ci_m1 ?_
    cases e
    exact r_ireturn dX12_see_28 rfl rfl
  · replace e := ite_f h1 e
    refine r_aload_n dX12_see_11 rfl ?_
    refine r_getR dX12_see_12 fl_X12_7 rfl (lp_44 hS) (lq_44 hS) (lr_44_1 hS) ?_
    refine r_aload_n dX12_see_15 rfl ?_
    refine r_getI dX12_see_16 fl_X12_110 rfl (lp_44 hS) (lq_44 hS) ?_
    obtain ⟨hg2, e⟩ := grd_some e
    refine r_bald dX12_see_19 (lp_45 hS) (lk_45 hS) hg2 ?_
    refine r_sipush (v := 255) dX12_see_20 cs_255 ?_
    refine r_iand dX12_see_23 ?_
    refine r_goto (tgt := 28) dX12_see_24 rfl ?_
    cases e
    exact r_ireturn dX12_see_28 rfl rfl
def m_X12_token_b0 (q7 : Int32) (p9 : Unit) (q14 : Int32) (z1 : Mm) : Option ((Mm) ⊕ (Mm)) := (m_X12_see z1).bind (fun q7 => bS (if q7 = (10 : Int32) then (some (.inl ())) else ((m_X12_see z1).bind (fun q14 => if q14 = (32 : Int32) then (some (.inl ())) else (some (.inr (.inr z1))))) : Option ((Unit) ⊕ ((Mm) ⊕ (Mm)))) (fun p9 => some (.inl (sI z1 44 10 ((mI z1 44 10) + (1 : Int32))))))
def m_X12_token_b163 (q29 : Int32) (p32 : Int32) (q37 : Int32) (z23 : Int32 × Mm) : Option ((Int32 × Mm) ⊕ (Int32 × Mm)) := (m_X12_see z23.2).bind (fun q29 => if (m_X12_in q29 (48 : Int32) (57 : Int32)) = 0 then (some (.inr (z23.1, z23.2))) else ((if (2 : Int32) ≤ z23.1 then (some (mI z23.2 44 14)) else ((m_X12_see z23.2).bind (fun q37 => some ((((10 : Int32) * (mI z23.2 44 14)) + q37) - (48 : Int32)))) : Option (Int32)).bind (fun p32 => some (.inl (z23.1 + (1 : Int32), (sI (sI z23.2 44 14 p32) 44 10 ((mI (sI z23.2 44 14 p32) 44 10) + (1 : Int32))))))))
def m_X12_token_b74 (q49 : Int32) (q52 : Int32) (z43 : Int32 × Mm) : Option ((Int32 × Mm) ⊕ (Int32 × Mm)) := (m_X12_see z43.2).bind (fun q49 => if (m_X12_in q49 (97 : Int32) (122 : Int32)) = 0 then (some (.inr (z43.1, z43.2))) else ((m_X12_see z43.2).bind (fun q52 => some (.inl (z43.1 + (1 : Int32), (sI (sL z43.2 44 15 ((xlshl (mL z43.2 44 15) (8 : Int32)) ||| ((q52).toInt64))) 44 10 ((mI (sL z43.2 44 15 ((xlshl (mL z43.2 44 15) (8 : Int32)) ||| ((q52).toInt64))) 44 10) + (1 : Int32))))))))
def m_X12_token (mm : Mm) : Option (Mm) := (whileF FU (m_X12_token_b0 q7 p9 q14) mm).bind (fun p2 => (m_X12_see (sI p2 44 12 (mI p2 44 10))).bind (fun q17 => if 0 ≤ q17 then (if (m_X12_in q17 (97 : Int32) (122 : Int32)) = 0 then (if (m_X12_in q17 (48 : Int32) (57 : Int32)) = 0 then (if q17 = (59 : Int32) then (some (sI (sI (sL (sI p2 44 12 (mI p2 44 10)) 44 15 (0 : Int64)) 44 10 ((mI (sL (sI p2 44 12 (mI p2 44 10)) 44 15 (0 : Int64)) 44 10) + (1 : Int32))) 44 13 (4 : Int32))) else (some (sI (sI (sL (sI p2 44 12 (mI p2 44 10)) 44 15 (0 : Int64)) 44 10 ((mI (sL (sI p2 44 12 (mI p2 44 10)) 44 15 (0 : Int64)) 44 10) + (1 : Int32))) 44 13 (1 : Int32)))) else ((whileF FU (m_X12_token_b163 q29 p32 q37) ((0 : Int32), (sI (sL (sI p2 44 12 (mI p2 44 10)) 44 15 (0 : Int64)) 44 14 (0 : Int32)))).bind (fun p24 => some (sI p24.2 44 13 (if p24.1 ≤ (2 : Int32) then (3 : Int32) else (1 : Int32)))))) else ((whileF FU (m_X12_token_b74 q49 q52) ((0 : Int32), (sL (sI p2 44 12 (mI p2 44 10)) 44 15 (0 : Int64)))).bind (fun p44 => some (sI (sL p44.2 44 15 (if p44.1 ≤ (8 : Int32) then mL p44.2 44 15 else (0 : Int64))) 44 13 (2 : Int32))))) else (some (sI (sL (sI p2 44 12 (mI p2 44 10)) 44 15 (0 : Int64)) 44 13 (0 : Int32)))))
set_option maxHeartbeats 4000000 in
set_option maxRecDepth 100000 in
theorem c_X12_token {l : Launch} {G : Gt} {S : Sk} (hS : Lay S) {mm : Mm} {q : Mm} (e : m_X12_token mm = some q) : CallOK l G M_X12_token yX12_token 1 [vr (some 44)] S mm (none) S q := by
  refine call_of_run rfl rfl rfl (by decide) ?_
  show Run l G M_X12_token 1 0 [some (vr (some 44)), none, none] [] S mm (none) S q
  unfold m_X12_token at e
  obtain ⟨p2, eb6w, e⟩ := obind e
  have J3a : Run l G M_X12_token 1 31 [some (vr (some 44)), none, none] [] S p2 (none) S q := by
    refine r_aload_n dX12_token_31 rfl ?_
    refine r_aload_n dX12_token_32 rfl ?_
    refine r_getI dX12_token_33 fl_X12_110 rfl (lp_44 hS) (lq_44 hS) ?_
    refine r_putI dX12_token_36 fl_X12_120 ft_12_12 (Or.inl rfl) rfl rfl rfl (lp_44 hS) (lq_44 hS) ?_
    refine r_aload_n dX12_token_39 rfl ?_
    obtain ⟨q17, eq18, e⟩ := obind e
    refine r_callV (as := []) (rest := []) dX12_token_40 ml_X12_116 yV_X12_see (c_X12_see hS eq18) (by decide) rfl (lp_44 hS) (lq_44 hS) (Nat.le_of_ble_eq_true rfl) ?_
    refine r_istore_n dX12_token_43 (by decide) rfl ?_
    refine r_aload_n dX12_token_44 rfl ?_
    refine r_lconst (v := 0) dX12_token_45 rfl ?_
    refine r_putL dX12_token_46 fl_X12_123 ft_12_15 (lp_44 hS) (lq_44 hS) ?_
    refine r_iconst (v := 0) dX12_token_49 ci_0 ?_
    refine r_istore_n dX12_token_50 (by decide) rfl ?_
    refine r_iload_n dX12_token_51 rfl ?_
    refine r_if_ge (tgt := 63) dX12_token_52 rfl (fun h19 => ?_) (fun h19 => ?_)
    · replace e := ite_t h19 e
      refine r_iload_n dX12_token_63 rfl ?_
      refine r_bipush (v := 97) dX12_token_64 cb_97 ?_
      refine r_bipush (v := 122) dX12_token_66 cb_122 ?_
      refine r_callS (as := [_, _, _]) (rest := []) dX12_token_68 ml_X12_102 yS_X12_in (c_X12_in hS) (by decide) rfl (Nat.le_of_ble_eq_true rfl) ?_
      refine r_if_eq (tgt := 147) dX12_token_71 rfl (fun h20 => ?_) (fun h20 => ?_)
      · replace e := ite_t h20 e
        refine r_iload_n dX12_token_147 rfl ?_
        refine r_bipush (v := 48) dX12_token_148 cb_48 ?_
        refine r_bipush (v := 57) dX12_token_150 cb_57 ?_
        refine r_callS (as := [_, _, _]) (rest := []) dX12_token_152 ml_X12_102 yS_X12_in (c_X12_in hS) (by decide) rfl (Nat.le_of_ble_eq_true rfl) ?_
        refine r_if_eq (tgt := 241) dX12_token_155 rfl (fun h21 => ?_) (fun h21 => ?_)
        · replace e := ite_t h21 e
          refine r_aload_n dX12_token_241 rfl ?_
          refine r_dup dX12_token_242 rfl ?_
          refine r_getI dX12_token_243 fl_X12_110 rfl (lp_44 hS) (lq_44 hS) ?_
          refine r_iconst (v := 1) dX12_token_246 ci_1 ?_
          refine r_iadd dX12_token_247 ?_
          refine r_putI dX12_token_248 fl_X12_110 ft_12_10 (Or.inl rfl) rfl rfl rfl (lp_44 hS) (lq_44 hS) ?_
          refine r_aload_n dX12_token_251 rfl ?_
          refine r_iload_n dX12_token_252 rfl ?_
          refine r_bipush (v := 59) dX12_token_253 cb_59 ?_
          refine r_icmp_ne (tgt := 262) dX12_token_255 rfl (fun h22 => ?_) (fun h22 => ?_)
          · replace e := ite_f h22 e
            refine r_iconst (v := 1) dX12_token_262 ci_1 ?_
            refine r_putI dX12_token_263 fl_X12_127 ft_12_13 (Or.inl rfl) rfl rfl rfl (lp_44 hS) (lq_44 hS) ?_
            cases e
            exact r_return dX12_token_266 rfl
          · replace e := ite_t h22 e
            refine r_iconst (v := 4) dX12_token_258 ci_4 ?_
            refine r_goto (tgt := 263) dX12_token_259 rfl ?_
            refine r_putI dX12_token_263 fl_X12_127 ft_12_13 (Or.inl rfl) rfl rfl rfl (lp_44 hS) (lq_44 hS) ?_
            cases e
            exact r_return dX12_token_266 rfl
        · replace e := ite_f h21 e
          refine r_aload_n dX12_token_158 rfl ?_
          refine r_iconst (v := 0) dX12_token_159 ci_0 ?_
          refine r_putI dX12_token_160 fl_X12_130 ft_12_14 (Or.inl rfl) rfl rfl rfl (lp_44 hS) (lq_44 hS) ?_
          obtain ⟨p24, eb28w, e⟩ := obind e
          have J25a : Run l G M_X12_token 1 224 [some (vr (some 44)), none, some (vi p24.1)] [] S p24.2 (none) S q := by
            refine r_aload_n dX12_token_224 rfl ?_
            refine r_iload_n dX12_token_225 rfl ?_
            refine r_iconst (v := 2) dX12_token_226 ci_2 ?_
            have J41 : ∀ (w40 : Int32), w40 = (if p24.1 ≤ (2 : Int32) then (3 : Int32) else (1 : Int32)) → Run l G M_X12_token 1 235 [none, none, none] [vi w40, vr (some 44)] S p24.2 (none) S q := by
              intro w40 hw42
              subst hw42
              refine r_putI dX12_token_235 fl_X12_127 ft_12_13 (Or.inl rfl) rfl rfl rfl (lp_44 hS) (lq_44 hS) ?_
              refine r_goto (tgt := 266) dX12_token_238 rfl ?_
              cases e
              exact r_return dX12_token_266 rfl
            refine r_icmp_le (tgt := 234) dX12_token_227 rfl (fun h39 => ?_) (fun h39 => ?_)
            · refine r_iconst (v := 3) dX12_token_234 ci_3 ?_
              exact r_weak (L' := [none, none, none]) ⟨trivial⟩ (J41 _ (by first | rfl | simp only [if_pos h39]))
            · refine r_iconst (v := 1) dX12_token_230 ci_1 ?_
              refine r_goto (tgt := 235) dX12_token_231 rfl ?_
              exact r_weak (L' := [none, none, none]) ⟨trivial⟩ (J41 _ (by first | rfl | simp only [if_neg h39]))
          have J25 : ∀ pp : Int32 × Mm, pp = p24 → Run l G M_X12_token 1 224 [some (vr (some 44)), none, some (vi pp.1)] [] S pp.2 (none) S q := by
            intro pp hpp
            rw [hpp]
            exact J25a
          have J25w : Run l G M_X12_token 1 163 [some (vr (some 44)), none, some (vi (0 : Int32))] [] S (sI (sL (sI p2 44 12 (mI p2 44 10)) 44 15 (0 : Int64)) 44 14 (0 : Int32)) (none) S q := by
            refine while_run (s := ((0 : Int32), (sI (sL (sI p2 44 12 (mI p2 44 10)) 44 15 (0 : Int64)) 44 14 (0 : Int32)))) (Gs := fun (z23 : Int32 × Mm) => Run l G M_X12_token 1 163 [some (vr (some 44)), none, some (vi z23.1)] [] S z23.2 (none) S q) eb28w ?_
            intro z23 x26y eb28 hx27
            unfold m_X12_token_b163 at eb28
            refine r_aload_n dX12_token_163 rfl ?_
            obtain ⟨q29, eq30, eb28⟩ := obind eb28
            refine r_callV (as := []) (rest := []) dX12_token_164 ml_X12_116 yV_X12_see (c_X12_see hS eq30) (by decide) rfl (lp_44 hS) (lq_44 hS) (Nat.le_of_ble_eq_true rfl) ?_
            refine r_bipush (v := 48) dX12_token_167 cb_48 ?_
            refine r_bipush (v := 57) dX12_token_169 cb_57 ?_
            refine r_callS (as := [_, _, _]) (rest := []) dX12_token_171 ml_X12_102 yS_X12_in (c_X12_in hS) (by decide) rfl (Nat.le_of_ble_eq_true rfl) ?_
            refine r_if_eq (tgt := 224) dX12_token_174 rfl (fun h31 => ?_) (fun h31 => ?_)
            · replace eb28 := ite_t h31 eb28
              cases eb28
              exact r_weak (L' := [some (vr (some 44)), none, some (vi z23.1)]) ⟨rfl, rfl, trivial⟩ (J25 _ hx27)
            · replace eb28 := ite_f h31 eb28
              refine r_aload_n dX12_token_177 rfl ?_
              refine r_iload_n dX12_token_178 rfl ?_
              refine r_iconst (v := 2) dX12_token_179 ci_2 ?_
              obtain ⟨p32, ep34, eb28⟩ := obind eb28
              have J33a : Run l G M_X12_token 1 205 [some (vr (some 44)), none, some (vi z23.1)] [vi p32, vr (some 44)] S z23.2 (none) S q := by
                refine r_putI dX12_token_205 fl_X12_130 ft_12_14 (Or.inl rfl) rfl rfl rfl (lp_44 hS) (lq_44 hS) ?_
                refine r_aload_n dX12_token_208 rfl ?_
                refine r_dup dX12_token_209 rfl ?_
                refine r_getI dX12_token_210 fl_X12_110 rfl (lp_44 hS) (lq_44 hS) ?_
                refine r_iconst (v := 1) dX12_token_213 ci_1 ?_
                refine r_iadd dX12_token_214 ?_
                refine r_putI dX12_token_215 fl_X12_110 ft_12_10 (Or.inl rfl) rfl rfl rfl (lp_44 hS) (lq_44 hS) ?_
                refine r_iinc (v := _ + (1 : Int32)) dX12_token_218 rfl (congrArg (_ + ·) ci_1) (by decide) rfl ?_
                refine r_goto (tgt := 163) dX12_token_221 rfl ?_
                cases eb28
                exact r_weak (L' := [some (vr (some 44)), none, some (vi (z23.1 + (1 : Int32)))]) ⟨rfl, rfl, trivial⟩ hx27
              have J33 : ∀ pp : Int32, pp = p32 → Run l G M_X12_token 1 205 [some (vr (some 44)), none, some (vi z23.1)] [vi pp, vr (some 44)] S z23.2 (none) S q := by
                intro pp hpp
                rw [hpp]
                exact J33a
              refine r_icmp_ge (tgt := 201) dX12_token_180 rfl (fun h36 => ?_) (fun h36 => ?_)
              · replace ep34 := ite_t h36 ep34
                refine r_aload_n dX12_token_201 rfl ?_
                refine r_getI dX12_token_202 fl_X12_130 rfl (lp_44 hS) (lq_44 hS) ?_
                exact r_weak (L' := [some (vr (some 44)), none, some (vi z23.1)]) ⟨rfl, rfl, trivial⟩ (J33 _ (Option.some.inj ep34))
              · replace ep34 := ite_f h36 ep34
                refine r_bipush (v := 10) dX12_token_183 cb_10 ?_
                refine r_aload_n dX12_token_185 rfl ?_
                refine r_getI dX12_token_186 fl_X12_130 rfl (lp_44 hS) (lq_44 hS) ?_
                refine r_imul dX12_token_189 ?_
                refine r_aload_n dX12_token_190 rfl ?_
                obtain ⟨q37, eq38, ep34⟩ := obind ep34
                refine r_callV (as := []) (rest := [_, _]) dX12_token_191 ml_X12_116 yV_X12_see (c_X12_see hS eq38) (by decide) rfl (lp_44 hS) (lq_44 hS) (Nat.le_of_ble_eq_true rfl) ?_
                refine r_iadd dX12_token_194 ?_
                refine r_bipush (v := 48) dX12_token_195 cb_48 ?_
                refine r_isub dX12_token_197 ?_
                refine r_goto (tgt := 205) dX12_token_198 rfl ?_
                exact r_weak (L' := [some (vr (some 44)), none, some (vi z23.1)]) ⟨rfl, rfl, trivial⟩ (J33 _ (Option.some.inj ep34))
          exact r_weak (L' := [some (vr (some 44)), none, some (vi (0 : Int32))]) ⟨rfl, rfl, trivial⟩ J25w
      · replace e := ite_f h20 e
        obtain ⟨p44, eb48w, e⟩ := obind e
        have J45a : Run l G M_X12_token 1 121 [some (vr (some 44)), none, some (vi p44.1)] [] S p44.2 (none) S q := by
          refine r_aload_n dX12_token_121 rfl ?_
          refine r_iload_n dX12_token_122 rfl ?_
          refine r_bipush (v := 8) dX12_token_123 cb_8 ?_
          have J56 : ∀ (w55 : Int64), w55 = (if p44.1 ≤ (8 : Int32) then mL p44.2 44 15 else (0 : Int64)) → Run l G M_X12_token 1 136 [some (vr (some 44)), none, none] [vl w55, vr (some 44)] S p44.2 (none) S q := by
            intro w55 hw57
            subst hw57
            refine r_putL dX12_token_136 fl_X12_123 ft_12_15 (lp_44 hS) (lq_44 hS) ?_
            refine r_aload_n dX12_token_139 rfl ?_
            refine r_iconst (v := 2) dX12_token_140 ci_2 ?_
            refine r_putI dX12_token_141 fl_X12_127 ft_12_13 (Or.inl rfl) rfl rfl rfl (lp_44 hS) (lq_44 hS) ?_
            refine r_goto (tgt := 266) dX12_token_144 rfl ?_
            cases e
            exact r_return dX12_token_266 rfl
          refine r_icmp_le (tgt := 132) dX12_token_125 rfl (fun h54 => ?_) (fun h54 => ?_)
          · refine r_aload_n dX12_token_132 rfl ?_
            refine r_getL dX12_token_133 fl_X12_123 rfl (lp_44 hS) (lq_44 hS) ?_
            exact r_weak (L' := [some (vr (some 44)), none, none]) ⟨rfl, trivial⟩ (J56 _ (by first | rfl | simp only [if_pos h54]))
          · refine r_lconst (v := 0) dX12_token_128 rfl ?_
            refine r_goto (tgt := 136) dX12_token_129 rfl ?_
            exact r_weak (L' := [some (vr (some 44)), none, none]) ⟨rfl, trivial⟩ (J56 _ (by first | rfl | simp only [if_neg h54]))
        have J45 : ∀ pp : Int32 × Mm, pp = p44 → Run l G M_X12_token 1 121 [some (vr (some 44)), none, some (vi pp.1)] [] S pp.2 (none) S q := by
          intro pp hpp
          rw [hpp]
          exact J45a
        have J45w : Run l G M_X12_token 1 74 [some (vr (some 44)), none, some (vi (0 : Int32))] [] S (sL (sI p2 44 12 (mI p2 44 10)) 44 15 (0 : Int64)) (none) S q := by
          refine while_run (s := ((0 : Int32), (sL (sI p2 44 12 (mI p2 44 10)) 44 15 (0 : Int64)))) (Gs := fun (z43 : Int32 × Mm) => Run l G M_X12_token 1 74 [some (vr (some 44)), none, some (vi z43.1)] [] S z43.2 (none) S q) eb48w ?_
          intro z43 x46y eb48 hx47
          unfold m_X12_token_b74 at eb48
          refine r_aload_n dX12_token_74 rfl ?_
          obtain ⟨q49, eq50, eb48⟩ := obind eb48
          refine r_callV (as := []) (rest := []) dX12_token_75 ml_X12_116 yV_X12_see (c_X12_see hS eq50) (by decide) rfl (lp_44 hS) (lq_44 hS) (Nat.le_of_ble_eq_true rfl) ?_
          refine r_bipush (v := 97) dX12_token_78 cb_97 ?_
          refine r_bipush (v := 122) dX12_token_80 cb_122 ?_
          refine r_callS (as := [_, _, _]) (rest := []) dX12_token_82 ml_X12_102 yS_X12_in (c_X12_in hS) (by decide) rfl (Nat.le_of_ble_eq_true rfl) ?_
          refine r_if_eq (tgt := 121) dX12_token_85 rfl (fun h51 => ?_) (fun h51 => ?_)
          · replace eb48 := ite_t h51 eb48
            cases eb48
            exact r_weak (L' := [some (vr (some 44)), none, some (vi z43.1)]) ⟨rfl, rfl, trivial⟩ (J45 _ hx47)
          · replace eb48 := ite_f h51 eb48
            refine r_aload_n dX12_token_88 rfl ?_
            refine r_aload_n dX12_token_89 rfl ?_
            refine r_getL dX12_token_90 fl_X12_123 rfl (lp_44 hS) (lq_44 hS) ?_
            refine r_bipush (v := 8) dX12_token_93 cb_8 ?_
            refine r_lshl dX12_token_95 ?_
            refine r_aload_n dX12_token_96 rfl ?_
            obtain ⟨q52, eq53, eb48⟩ := obind eb48
            refine r_callV (as := []) (rest := [_, _]) dX12_token_97 ml_X12_116 yV_X12_see (c_X12_see hS eq53) (by decide) rfl (lp_44 hS) (lq_44 hS) (Nat.le_of_ble_eq_true rfl) ?_
            refine r_i2l dX12_token_100 ?_
            refine r_lor dX12_token_101 ?_
            refine r_putL dX12_token_102 fl_X12_123 ft_12_15 (lp_44 hS) (lq_44 hS) ?_
            refine r_aload_n dX12_token_105 rfl ?_
            refine r_dup dX12_token_106 rfl ?_
            refine r_getI dX12_token_107 fl_X12_110 rfl (lp_44 hS) (lq_44 hS) ?_
            refine r_iconst (v := 1) dX12_token_110 ci_1 ?_
            refine r_iadd dX12_token_111 ?_
            refine r_putI dX12_token_112 fl_X12_110 ft_12_10 (Or.inl rfl) rfl rfl rfl (lp_44 hS) (lq_44 hS) ?_
            refine r_iinc (v := _ + (1 : Int32)) dX12_token_115 rfl (congrArg (_ + ·) ci_1) (by decide) rfl ?_
            refine r_goto (tgt := 74) dX12_token_118 rfl ?_
            cases eb48
            exact r_weak (L' := [some (vr (some 44)), none, some (vi (z43.1 + (1 : Int32)))]) ⟨rfl, rfl, trivial⟩ hx47
        exact r_weak (L' := [some (vr (some 44)), none, some (vi (0 : Int32))]) ⟨rfl, rfl, trivial⟩ J45w
    · replace e := ite_f h19 e
      refine r_aload_n dX12_token_55 rfl ?_
      refine r_iconst (v := 0) dX12_token_56 ci_0 ?_
      refine r_putI dX12_token_57 fl_X12_127 ft_12_13 (Or.inl rfl) rfl rfl rfl (lp_44 hS) (lq_44 hS) ?_
      refine r_goto (tgt := 266) dX12_token_60 rfl ?_
      cases e
      exact r_return dX12_token_266 rfl
  have J3 : ∀ pp : Mm, pp = p2 → Run l G M_X12_token 1 31 [some (vr (some 44)), none, none] [] S pp (none) S q := by
    intro pp hpp
    rw [hpp]
    exact J3a
  have J3w : Run l G M_X12_token 1 0 [some (vr (some 44)), none, none] [] S mm (none) S q := by
    refine while_run (s := mm) (Gs := fun (z1 : Mm) => Run l G M_X12_token 1 0 [some (vr (some 44)), none, none] [] S z1 (none) S q) eb6w ?_
    intro z1 x4y eb6 hx5
    unfold m_X12_token_b0 at eb6
    refine r_aload_n dX12_token_0 rfl ?_
    obtain ⟨q7, eq8, eb6⟩ := obind eb6
    refine r_callV (as := []) (rest := []) dX12_token_1 ml_X12_116 yV_X12_see (c_X12_see hS eq8) (by decide) rfl (lp_44 hS) (lq_44 hS) (Nat.le_of_ble_eq_true rfl) ?_
    refine r_bipush (v := 10) dX12_token_4 cb_10 ?_
    obtain ⟨x12, ep11, elx12, erx12⟩ := bS_some eb6
    have J10 : ∀ p9 : Unit, x12 = .inl p9 → Run l G M_X12_token 1 18 [some (vr (some 44)), none, none] [] S z1 (none) S q := by
      intro p9 hp9
      replace eb6 := elx12 p9 hp9
      refine r_aload_n dX12_token_18 rfl ?_
      refine r_dup dX12_token_19 rfl ?_
      refine r_getI dX12_token_20 fl_X12_110 rfl (lp_44 hS) (lq_44 hS) ?_
      refine r_iconst (v := 1) dX12_token_23 ci_1 ?_
      refine r_iadd dX12_token_24 ?_
      refine r_putI dX12_token_25 fl_X12_110 ft_12_10 (Or.inl rfl) rfl rfl rfl (lp_44 hS) (lq_44 hS) ?_
      refine r_goto (tgt := 0) dX12_token_28 rfl ?_
      cases eb6
      exact r_weak (L' := [some (vr (some 44)), none, none]) ⟨rfl, trivial⟩ hx5
    refine r_icmp_eq (tgt := 18) dX12_token_6 rfl (fun h13 => ?_) (fun h13 => ?_)
    · replace ep11 := ite_t h13 ep11
      cases ep11
      exact r_weak (L' := [some (vr (some 44)), none, none]) ⟨rfl, trivial⟩ (J10 _ rfl)
    · replace ep11 := ite_f h13 ep11
      refine r_aload_n dX12_token_9 rfl ?_
      obtain ⟨q14, eq15, ep11⟩ := obind ep11
      refine r_callV (as := []) (rest := []) dX12_token_10 ml_X12_116 yV_X12_see (c_X12_see hS eq15) (by decide) rfl (lp_44 hS) (lq_44 hS) (Nat.le_of_ble_eq_true rfl) ?_
      refine r_bipush (v := 32) dX12_token_13 cb_32 ?_
      refine r_icmp_ne (tgt := 31) dX12_token_15 rfl (fun h16 => ?_) (fun h16 => ?_)
      · replace ep11 := ite_f h16 ep11
        cases ep11
        have eb6 := congrArg some (erx12 _ rfl)
        cases eb6
        exact r_weak (L' := [some (vr (some 44)), none, none]) ⟨rfl, trivial⟩ (J3 _ hx5)
      · replace ep11 := ite_t h16 ep11
        cases ep11
        exact r_weak (L' := [some (vr (some 44)), none, none]) ⟨rfl, trivial⟩ (J10 _ rfl)
  exact r_weak (L' := [some (vr (some 44)), none, none]) ⟨rfl, trivial⟩ J3w
def m_X12_fails (mm : Mm) : Int32 × Mm := ((0 : Int32), (sI mm 44 16 (mI mm 44 12)))
set_option maxHeartbeats 4000000 in
set_option maxRecDepth 100000 in
theorem c_X12_fails {l : Launch} {G : Gt} {S : Sk} (hS : Lay S) {mm : Mm} : CallOK l G M_X12_fails yX12_fails 0 [vr (some 44)] S mm (some (vi (m_X12_fails mm).1)) S (m_X12_fails mm).2 := by
  refine call_of_run rfl rfl rfl (by decide) ?_
  show Run l G M_X12_fails 0 0 [some (vr (some 44))] [] S mm (some (vi (m_X12_fails mm).1)) S (m_X12_fails mm).2
  generalize e : m_X12_fails mm = q
  unfold m_X12_fails at e
  refine r_aload_n dX12_fails_0 rfl ?_
  refine r_aload_n dX12_fails_1 rfl ?_
  refine r_getI dX12_fails_2 fl_X12_120 rfl (lp_44 hS) (lq_44 hS) ?_
  refine r_putI dX12_fails_5 fl_X12_133 ft_12_16 (Or.inl rfl) rfl rfl rfl (lp_44 hS) (lq_44 hS) ?_
  refine r_iconst (v := 0) dX12_fails_8 ci_0 ?_
  cases e
  exact r_ireturn dX12_fails_9 rfl (nz_b (by first | exact Or.inl rfl | exact Or.inr rfl)).1
