def m_X12_in (a0 : Int32) (a1 : Int32) (a2 : Int32) : Int32 := if a0 < a1 then ((0 : Int32)) else (if a2 < a0 then ((0 : Int32)) else ((1 : Int32)))
set_option maxHeartbeats 4000000 in
set_option maxRecDepth 100000 in
theorem c_X12_in {l : Launch} {G : Gt} {S : Sk} (hS : Lay S) {a0 : Int32} {a1 : Int32} {a2 : Int32} {mm : Mm} : CallOK l G M_X12_in yX12_in 0 [vi a0, vi a1, vi a2] S mm (some (vi (m_X12_in a0 a1 a2))) S mm := by
  refine call_of_run rfl rfl rfl (Nat.le_of_ble_eq_true rfl) ?_
  show Run l G M_X12_in 0 0 [some (vi a0), some (vi a1), some (vi a2)] [] S mm (some (vi (m_X12_in a0 a1 a2))) S mm
  generalize e : m_X12_in a0 a1 a2 = q
  unfold m_X12_in at e
  refine r_iload_n dX12_in_0 rfl ?_
  refine r_iload_n dX12_in_1 rfl ?_
  refine r_icmp_lt (tgt := 14) dX12_in_2 rfl (fun h1 => ?_) (fun h1 => ?_)
  · replace e := ite_t h1 e
    refine r_iconst (v := 0) dX12_in_14 ci_0 ?_
    cases e
    exact r_ireturn dX12_in_15 rfl (nz_b (by first | exact Or.inl rfl | exact Or.inr rfl)).1
  · replace e := ite_f h1 e
    refine r_iload_n dX12_in_5 rfl ?_
    refine r_iload_n dX12_in_6 rfl ?_
    refine r_icmp_gt (tgt := 14) dX12_in_7 rfl (fun h2 => ?_) (fun h2 => ?_)
    · replace e := ite_t h2 e
      refine r_iconst (v := 0) dX12_in_14 ci_0 ?_
      cases e
      exact r_ireturn dX12_in_15 rfl (nz_b (by first | exact Or.inl rfl | exact Or.inr rfl)).1
    · replace e := ite_f h2 e
      refine r_iconst (v := 1) dX12_in_10 ci_1 ?_
      refine r_goto (tgt := 15) dX12_in_11 rfl ?_
      cases e
      exact r_ireturn dX12_in_15 rfl (nz_b (by first | exact Or.inl rfl | exact Or.inr rfl)).1
def m_X12_has (a0 : Int32) (a1 : Int32) : Int32 := if ((xshr a0 a1) &&& (1 : Int32)) = (1 : Int32) then ((1 : Int32)) else ((0 : Int32))
set_option maxHeartbeats 4000000 in
set_option maxRecDepth 100000 in
theorem c_X12_has {l : Launch} {G : Gt} {S : Sk} (hS : Lay S) {a0 : Int32} {a1 : Int32} {mm : Mm} : CallOK l G M_X12_has yX12_has 0 [vi a0, vi a1] S mm (some (vi (m_X12_has a0 a1))) S mm := by
  refine call_of_run rfl rfl rfl (Nat.le_of_ble_eq_true rfl) ?_
  show Run l G M_X12_has 0 0 [some (vi a0), some (vi a1)] [] S mm (some (vi (m_X12_has a0 a1))) S mm
  generalize e : m_X12_has a0 a1 = q
  unfold m_X12_has at e
  refine r_iload_n dX12_has_0 rfl ?_
  refine r_iload_n dX12_has_1 rfl ?_
  refine r_ishr dX12_has_2 ?_
  refine r_iconst (v := 1) dX12_has_3 ci_1 ?_
  refine r_iand dX12_has_4 ?_
  refine r_iconst (v := 1) dX12_has_5 ci_1 ?_
  refine r_icmp_ne (tgt := 13) dX12_has_6 rfl (fun h1 => ?_) (fun h1 => ?_)
  · replace e := ite_f h1 e
    refine r_iconst (v := 0) dX12_has_13 ci_0 ?_
    cases e
    exact r_ireturn dX12_has_14 rfl (nz_b (by first | exact Or.inl rfl | exact Or.inr rfl)).1
  · replace e := ite_t h1 e
    refine r_iconst (v := 1) dX12_has_9 ci_1 ?_
    refine r_goto (tgt := 14) dX12_has_10 rfl ?_
    cases e
    exact r_ireturn dX12_has_14 rfl (nz_b (by first | exact Or.inl rfl | exact Or.inr rfl)).1
def m_X12_greater (a0 : Int32) (a1 : Int32) : Int32 := if a0 ≤ a1 then (a1) else (a0)
set_option maxHeartbeats 4000000 in
set_option maxRecDepth 100000 in
theorem c_X12_greater {l : Launch} {G : Gt} {S : Sk} (hS : Lay S) {a0 : Int32} {a1 : Int32} {mm : Mm} : CallOK l G M_X12_greater yX12_greater 0 [vi a0, vi a1] S mm (some (vi (m_X12_greater a0 a1))) S mm := by
  refine call_of_run rfl rfl rfl (Nat.le_of_ble_eq_true rfl) ?_
  show Run l G M_X12_greater 0 0 [some (vi a0), some (vi a1)] [] S mm (some (vi (m_X12_greater a0 a1))) S mm
  generalize e : m_X12_greater a0 a1 = q
  unfold m_X12_greater at e
  refine r_iload_n dX12_greater_0 rfl ?_
  refine r_iload_n dX12_greater_1 rfl ?_
  refine r_icmp_le (tgt := 9) dX12_greater_2 rfl (fun h1 => ?_) (fun h1 => ?_)
  · replace e := ite_t h1 e
    refine r_iload_n dX12_greater_9 rfl ?_
    cases e
    exact r_ireturn dX12_greater_10 rfl rfl
  · replace e := ite_f h1 e
    refine r_iload_n dX12_greater_5 rfl ?_
    refine r_goto (tgt := 10) dX12_greater_6 rfl ?_
    cases e
    exact r_ireturn dX12_greater_10 rfl rfl
def m_X12_lesser (a0 : Int32) (a1 : Int32) : Int32 := if a1 ≤ a0 then (a1) else (a0)
set_option maxHeartbeats 4000000 in
set_option maxRecDepth 100000 in
theorem c_X12_lesser {l : Launch} {G : Gt} {S : Sk} (hS : Lay S) {a0 : Int32} {a1 : Int32} {mm : Mm} : CallOK l G M_X12_lesser yX12_lesser 0 [vi a0, vi a1] S mm (some (vi (m_X12_lesser a0 a1))) S mm := by
  refine call_of_run rfl rfl rfl (Nat.le_of_ble_eq_true rfl) ?_
  show Run l G M_X12_lesser 0 0 [some (vi a0), some (vi a1)] [] S mm (some (vi (m_X12_lesser a0 a1))) S mm
  generalize e : m_X12_lesser a0 a1 = q
  unfold m_X12_lesser at e
  refine r_iload_n dX12_lesser_0 rfl ?_
  refine r_iload_n dX12_lesser_1 rfl ?_
  refine r_icmp_ge (tgt := 9) dX12_lesser_2 rfl (fun h1 => ?_) (fun h1 => ?_)
  · replace e := ite_t h1 e
    refine r_iload_n dX12_lesser_9 rfl ?_
    cases e
    exact r_ireturn dX12_lesser_10 rfl rfl
  · replace e := ite_f h1 e
    refine r_iload_n dX12_lesser_5 rfl ?_
    refine r_goto (tgt := 10) dX12_lesser_6 rfl ?_
    cases e
    exact r_ireturn dX12_lesser_10 rfl rfl
def m_X12_ones_b4 (a0 : Int32) (z1 : Int32 × Int32) : Option ((Int32 × Int32) ⊕ (Int32)) := if (12 : Int32) ≤ z1.2 then (some (.inr z1.1)) else (some (.inl (z1.1 + (if (m_X12_has a0 z1.2) = 0 then (0 : Int32) else (1 : Int32)), z1.2 + (1 : Int32))))
def m_X12_ones (a0 : Int32) : Option (Int32) := (whileF FU (m_X12_ones_b4 a0) ((0 : Int32), (0 : Int32))).bind (fun p2 => some p2)
set_option maxHeartbeats 4000000 in
set_option maxRecDepth 100000 in
theorem c_X12_ones {l : Launch} {G : Gt} {S : Sk} (hS : Lay S) {a0 : Int32} {mm : Mm} {q : Int32} (e : m_X12_ones a0 = some q) : CallOK l G M_X12_ones yX12_ones 1 [vi a0] S mm (some (vi q)) S mm := by
  refine call_of_run rfl rfl rfl (Nat.le_of_ble_eq_true rfl) ?_
  show Run l G M_X12_ones 1 0 [some (vi a0), none, none] [] S mm (some (vi q)) S mm
  unfold m_X12_ones at e
  refine r_iconst (v := 0) dX12_ones_0 ci_0 ?_
  refine r_istore_n dX12_ones_1 (by decide) rfl ?_
  refine r_iconst (v := 0) dX12_ones_2 ci_0 ?_
  refine r_istore_n dX12_ones_3 (by decide) rfl ?_
  obtain ⟨p2, eb6w, e⟩ := obind e
  have J3a : Run l G M_X12_ones 1 32 [none, some (vi p2), none] [] S mm (some (vi q)) S mm := by
    refine r_iload_n dX12_ones_32 rfl ?_
    cases e
    exact r_ireturn dX12_ones_33 rfl rfl
  have J3 : ∀ pp : Int32, pp = p2 → Run l G M_X12_ones 1 32 [none, some (vi pp), none] [] S mm (some (vi q)) S mm := by
    intro pp hpp
    rw [hpp]
    exact J3a
  have J3w : Run l G M_X12_ones 1 4 [some (vi a0), some (vi (0 : Int32)), some (vi (0 : Int32))] [] S mm (some (vi q)) S mm := by
    refine while_run (s := ((0 : Int32), (0 : Int32))) (Gs := fun (z1 : Int32 × Int32) => Run l G M_X12_ones 1 4 [some (vi a0), some (vi z1.1), some (vi z1.2)] [] S mm (some (vi q)) S mm) eb6w ?_
    intro z1 x4y eb6 hx5
    unfold m_X12_ones_b4 at eb6
    refine r_iload_n dX12_ones_4 rfl ?_
    refine r_bipush (v := 12) dX12_ones_5 cb_12 ?_
    refine r_icmp_ge (tgt := 32) dX12_ones_7 rfl (fun h7 => ?_) (fun h7 => ?_)
    · replace eb6 := ite_t h7 eb6
      cases eb6
      exact r_weak (L' := [none, some (vi z1.1), none]) ⟨rfl, trivial⟩ (J3 _ hx5)
    · replace eb6 := ite_f h7 eb6
      refine r_iload_n dX12_ones_10 rfl ?_
      refine r_iload_n dX12_ones_11 rfl ?_
      refine r_iload_n dX12_ones_12 rfl ?_
      refine r_callS (as := [_, _]) (rest := [_]) dX12_ones_13 ml_X12_94 yS_X12_has (c_X12_has hS) (by decide) rfl (Nat.le_of_ble_eq_true rfl) ?_
      have J10 : ∀ (w9 : Int32), w9 = (if (m_X12_has a0 z1.2) = 0 then (0 : Int32) else (1 : Int32)) → Run l G M_X12_ones 1 24 [some (vi a0), none, some (vi z1.2)] [vi w9, vi z1.1] S mm (some (vi q)) S mm := by
        intro w9 hw11
        subst hw11
        refine r_iadd dX12_ones_24 ?_
        refine r_istore_n dX12_ones_25 (by decide) rfl ?_
        refine r_iinc (v := _ + (1 : Int32)) dX12_ones_26 rfl (congrArg (_ + ·) ci_1) (by decide) rfl ?_
        refine r_goto (tgt := 4) dX12_ones_29 rfl ?_
        cases eb6
        exact r_weak (L' := [some (vi a0), some (vi (z1.1 + (if (m_X12_has a0 z1.2) = 0 then (0 : Int32) else (1 : Int32)))), some (vi (z1.2 + (1 : Int32)))]) ⟨rfl, rfl, rfl, trivial⟩ hx5
      refine r_if_eq (tgt := 23) dX12_ones_16 rfl (fun h8 => ?_) (fun h8 => ?_)
      · refine r_iconst (v := 0) dX12_ones_23 ci_0 ?_
        exact r_weak (L' := [some (vi a0), none, some (vi z1.2)]) ⟨rfl, rfl, trivial⟩ (J10 _ (Eq.symm (if_pos h8)))
      · refine r_iconst (v := 1) dX12_ones_19 ci_1 ?_
        refine r_goto (tgt := 24) dX12_ones_20 rfl ?_
        exact r_weak (L' := [some (vi a0), none, some (vi z1.2)]) ⟨rfl, rfl, trivial⟩ (J10 _ (Eq.symm (if_neg h8)))
  exact r_weak (L' := [some (vi a0), some (vi (0 : Int32)), some (vi (0 : Int32))]) ⟨rfl, rfl, rfl, trivial⟩ J3w
def m_X12_copyRow_b3 (a0 : Nat) (a1 : Int32) (a2 : Int32) (a3 : Int32) (S : Sk) (z1 : Int32 × Mm) : Option ((Int32 × Mm) ⊕ (Mm)) := if a1 ≤ z1.1 then (some (.inr z1.2)) else (grd ((a1 * a2) + z1.1) ((sK S a0).2) (grd ((a1 * a3) + z1.1) ((sK S a0).2) (some (.inl (z1.1 + (1 : Int32), (sI z1.2 a0 (ix ((a1 * a3) + z1.1)) (mI z1.2 a0 (ix ((a1 * a2) + z1.1)))))))))
def m_X12_copyRow (S : Sk) (a0 : Nat) (a1 : Int32) (a2 : Int32) (a3 : Int32) (mm : Mm) : Option (Mm) := (whileF FU (m_X12_copyRow_b3 a0 a1 a2 a3 S) ((0 : Int32), mm)).bind (fun p2 => some p2)
set_option maxHeartbeats 4000000 in
set_option maxRecDepth 100000 in
theorem c_X12_copyRow {l : Launch} {G : Gt} {S : Sk} (hS : Lay S) {a0 : Nat} {a1 : Int32} {a2 : Int32} {a3 : Int32} {mm : Mm} (ha0 : a0 < sN S ∧ (sK S a0).1 = 20) {q : Mm} (e : m_X12_copyRow S a0 a1 a2 a3 mm = some q) : CallOK l G M_X12_copyRow yX12_copyRow 0 [vr (some a0), vi a1, vi a2, vi a3] S mm (none) S q := by
  refine call_of_run rfl rfl rfl (Nat.le_of_ble_eq_true rfl) ?_
  show Run l G M_X12_copyRow 0 0 [some (vr (some a0)), some (vi a1), some (vi a2), some (vi a3), none] [] S mm (none) S q
  unfold m_X12_copyRow at e
  refine r_iconst (v := 0) dX12_copyRow_0 ci_0 ?_
  refine r_istore dX12_copyRow_1 (by decide) rfl ?_
  obtain ⟨p2, eb6w, e⟩ := obind e
  have J3a : Run l G M_X12_copyRow 0 31 [none, none, none, none, none] [] S p2 (none) S q := by
    cases e
    exact r_return dX12_copyRow_31 rfl
  have J3 : ∀ pp : Mm, pp = p2 → Run l G M_X12_copyRow 0 31 [none, none, none, none, none] [] S pp (none) S q := by
    intro pp hpp
    rw [hpp]
    exact J3a
  have J3w : Run l G M_X12_copyRow 0 3 [some (vr (some a0)), some (vi a1), some (vi a2), some (vi a3), some (vi (0 : Int32))] [] S mm (none) S q := by
    refine while_run (s := ((0 : Int32), mm)) (Gs := fun (z1 : Int32 × Mm) => Run l G M_X12_copyRow 0 3 [some (vr (some a0)), some (vi a1), some (vi a2), some (vi a3), some (vi z1.1)] [] S z1.2 (none) S q) eb6w ?_
    intro z1 x4y eb6 hx5
    unfold m_X12_copyRow_b3 at eb6
    refine r_iload dX12_copyRow_3 rfl ?_
    refine r_iload_n dX12_copyRow_5 rfl ?_
    refine r_icmp_ge (tgt := 31) dX12_copyRow_6 rfl (fun h7 => ?_) (fun h7 => ?_)
    · replace eb6 := ite_t h7 eb6
      cases eb6
      exact r_weak (L' := [none, none, none, none, none]) trivial (J3 _ hx5)
    · replace eb6 := ite_f h7 eb6
      refine r_aload_n dX12_copyRow_9 rfl ?_
      refine r_iload_n dX12_copyRow_10 rfl ?_
      refine r_iload_n dX12_copyRow_11 rfl ?_
      refine r_imul dX12_copyRow_12 ?_
      refine r_iload dX12_copyRow_13 rfl ?_
      refine r_iadd dX12_copyRow_15 ?_
      refine r_aload_n dX12_copyRow_16 rfl ?_
      refine r_iload_n dX12_copyRow_17 rfl ?_
      refine r_iload_n dX12_copyRow_18 rfl ?_
      refine r_imul dX12_copyRow_19 ?_
      refine r_iload dX12_copyRow_20 rfl ?_
      refine r_iadd dX12_copyRow_22 ?_
      obtain ⟨hg8, eb6⟩ := grd_some eb6
      refine r_iald dX12_copyRow_23 ha0.1 (arr_k ha0) hg8 ?_
      obtain ⟨hg9, eb6⟩ := grd_some eb6
      refine r_iast dX12_copyRow_24 ha0.1 (arr_k ha0) hg9 ?_
      refine r_iinc (v := _ + (1 : Int32)) dX12_copyRow_25 rfl (congrArg (_ + ·) ci_1) (by decide) rfl ?_
      refine r_goto (tgt := 3) dX12_copyRow_28 rfl ?_
      cases eb6
      exact r_weak (L' := [some (vr (some a0)), some (vi a1), some (vi a2), some (vi a3), some (vi (z1.1 + (1 : Int32)))]) ⟨rfl, rfl, rfl, rfl, rfl, trivial⟩ hx5
  exact r_weak (L' := [some (vr (some a0)), some (vi a1), some (vi a2), some (vi a3), some (vi (0 : Int32))]) ⟨rfl, rfl, rfl, rfl, rfl, trivial⟩ J3w
def m_X12_copyAll_b2 (a1 : Int32) (a2 : Int32) (z1 : Int32 × Mm) : Option ((Int32 × Mm) ⊕ (Mm)) := if (600 : Int32) ≤ z1.1 then (some (.inr z1.2)) else (grd (((600 : Int32) * a1) + z1.1) 2400 (grd (((600 : Int32) * a2) + z1.1) 2400 (some (.inl (z1.1 + (1 : Int32), (sI z1.2 45 (ix (((600 : Int32) * a2) + z1.1)) (vp_nar .byte (mI z1.2 45 (ix (((600 : Int32) * a1) + z1.1))))))))))
def m_X12_copyAll (S : Sk) (a1 : Int32) (a2 : Int32) (mm : Mm) : Option (Mm) := (whileF FU (m_X12_copyAll_b2 a1 a2) ((0 : Int32), mm)).bind (fun p2 => (m_X12_copyRow S 46 (1 : Int32) a1 a2 p2).bind (fun q10 => (m_X12_copyRow S 47 (1 : Int32) a1 a2 q10).bind (fun q12 => (m_X12_copyRow S 48 (1 : Int32) a1 a2 q12).bind (fun q14 => (m_X12_copyRow S 49 (4 : Int32) a1 a2 q14).bind (fun q16 => (m_X12_copyRow S 50 (144 : Int32) a1 a2 q16).bind (fun q18 => (m_X12_copyRow S 51 (322 : Int32) a1 a2 q18).bind (fun q20 => (m_X12_copyRow S 52 (26 : Int32) a1 a2 q20).bind (fun q22 => (m_X12_copyRow S 53 (50 : Int32) a1 a2 q22).bind (fun q24 => some q24)))))))))
set_option maxHeartbeats 4000000 in
set_option maxRecDepth 100000 in
theorem c_X12_copyAll {l : Launch} {G : Gt} {S : Sk} (hS : Lay S) {a1 : Int32} {a2 : Int32} {mm : Mm} {q : Mm} (e : m_X12_copyAll S a1 a2 mm = some q) : CallOK l G M_X12_copyAll yX12_copyAll 1 [vr (some 44), vi a1, vi a2] S mm (none) S q := by
  refine call_of_run rfl rfl rfl (Nat.le_of_ble_eq_true rfl) ?_
  show Run l G M_X12_copyAll 1 0 [some (vr (some 44)), some (vi a1), some (vi a2), none] [] S mm (none) S q
  unfold m_X12_copyAll at e
  refine r_iconst (v := 0) dX12_copyAll_0 ci_0 ?_
  refine r_istore_n dX12_copyAll_1 (by decide) rfl ?_
  obtain ⟨p2, eb6w, e⟩ := obind e
  have J3a : Run l G M_X12_copyAll 1 39 [some (vr (some 44)), some (vi a1), some (vi a2), none] [] S p2 (none) S q := by
    refine r_aload_n dX12_copyAll_39 rfl ?_
    refine r_getR dX12_copyAll_40 fl_X12_13 rfl (lp_44 hS) (lq_44 hS) (lr_44_2 hS) ?_
    refine r_iconst (v := 1) dX12_copyAll_43 ci_1 ?_
    refine r_iload_n dX12_copyAll_44 rfl ?_
    refine r_iload_n dX12_copyAll_45 rfl ?_
    obtain ⟨q10, eq11, e⟩ := obind e
    refine r_callS (as := [_, _, _, _]) (rest := []) dX12_copyAll_46 ml_X12_98 yS_X12_copyRow (c_X12_copyRow hS (la_46 hS) eq11) (by decide) rfl (Nat.le_of_ble_eq_true rfl) ?_
    refine r_aload_n dX12_copyAll_49 rfl ?_
    refine r_getR dX12_copyAll_50 fl_X12_17 rfl (lp_44 hS) (lq_44 hS) (lr_44_3 hS) ?_
    refine r_iconst (v := 1) dX12_copyAll_53 ci_1 ?_
    refine r_iload_n dX12_copyAll_54 rfl ?_
    refine r_iload_n dX12_copyAll_55 rfl ?_
    obtain ⟨q12, eq13, e⟩ := obind e
    refine r_callS (as := [_, _, _, _]) (rest := []) dX12_copyAll_56 ml_X12_98 yS_X12_copyRow (c_X12_copyRow hS (la_47 hS) eq13) (by decide) rfl (Nat.le_of_ble_eq_true rfl) ?_
    refine r_aload_n dX12_copyAll_59 rfl ?_
    refine r_getR dX12_copyAll_60 fl_X12_20 rfl (lp_44 hS) (lq_44 hS) (lr_44_4 hS) ?_
    refine r_iconst (v := 1) dX12_copyAll_63 ci_1 ?_
    refine r_iload_n dX12_copyAll_64 rfl ?_
    refine r_iload_n dX12_copyAll_65 rfl ?_
    obtain ⟨q14, eq15, e⟩ := obind e
    refine r_callS (as := [_, _, _, _]) (rest := []) dX12_copyAll_66 ml_X12_98 yS_X12_copyRow (c_X12_copyRow hS (la_48 hS) eq15) (by decide) rfl (Nat.le_of_ble_eq_true rfl) ?_
    refine r_aload_n dX12_copyAll_69 rfl ?_
    refine r_getR dX12_copyAll_70 fl_X12_23 rfl (lp_44 hS) (lq_44 hS) (lr_44_5 hS) ?_
    refine r_iconst (v := 4) dX12_copyAll_73 ci_4 ?_
    refine r_iload_n dX12_copyAll_74 rfl ?_
    refine r_iload_n dX12_copyAll_75 rfl ?_
    obtain ⟨q16, eq17, e⟩ := obind e
    refine r_callS (as := [_, _, _, _]) (rest := []) dX12_copyAll_76 ml_X12_98 yS_X12_copyRow (c_X12_copyRow hS (la_49 hS) eq17) (by decide) rfl (Nat.le_of_ble_eq_true rfl) ?_
    refine r_aload_n dX12_copyAll_79 rfl ?_
    refine r_getR dX12_copyAll_80 fl_X12_26 rfl (lp_44 hS) (lq_44 hS) (lr_44_6 hS) ?_
    refine r_sipush (v := 144) dX12_copyAll_83 cs_144 ?_
    refine r_iload_n dX12_copyAll_86 rfl ?_
    refine r_iload_n dX12_copyAll_87 rfl ?_
    obtain ⟨q18, eq19, e⟩ := obind e
    refine r_callS (as := [_, _, _, _]) (rest := []) dX12_copyAll_88 ml_X12_98 yS_X12_copyRow (c_X12_copyRow hS (la_50 hS) eq19) (by decide) rfl (Nat.le_of_ble_eq_true rfl) ?_
    refine r_aload_n dX12_copyAll_91 rfl ?_
    refine r_getR dX12_copyAll_92 fl_X12_29 rfl (lp_44 hS) (lq_44 hS) (lr_44_7 hS) ?_
    refine r_sipush (v := 322) dX12_copyAll_95 cs_322 ?_
    refine r_iload_n dX12_copyAll_98 rfl ?_
    refine r_iload_n dX12_copyAll_99 rfl ?_
    obtain ⟨q20, eq21, e⟩ := obind e
    refine r_callS (as := [_, _, _, _]) (rest := []) dX12_copyAll_100 ml_X12_98 yS_X12_copyRow (c_X12_copyRow hS (la_51 hS) eq21) (by decide) rfl (Nat.le_of_ble_eq_true rfl) ?_
    refine r_aload_n dX12_copyAll_103 rfl ?_
    refine r_getR dX12_copyAll_104 fl_X12_32 rfl (lp_44 hS) (lq_44 hS) (lr_44_8 hS) ?_
    refine r_bipush (v := 26) dX12_copyAll_107 cb_26 ?_
    refine r_iload_n dX12_copyAll_109 rfl ?_
    refine r_iload_n dX12_copyAll_110 rfl ?_
    obtain ⟨q22, eq23, e⟩ := obind e
    refine r_callS (as := [_, _, _, _]) (rest := []) dX12_copyAll_111 ml_X12_98 yS_X12_copyRow (c_X12_copyRow hS (la_52 hS) eq23) (by decide) rfl (Nat.le_of_ble_eq_true rfl) ?_
    refine r_aload_n dX12_copyAll_114 rfl ?_
    refine r_getR dX12_copyAll_115 fl_X12_35 rfl (lp_44 hS) (lq_44 hS) (lr_44_9 hS) ?_
    refine r_bipush (v := 50) dX12_copyAll_118 cb_50 ?_
    refine r_iload_n dX12_copyAll_120 rfl ?_
    refine r_iload_n dX12_copyAll_121 rfl ?_
    obtain ⟨q24, eq25, e⟩ := obind e
    refine r_callS (as := [_, _, _, _]) (rest := []) dX12_copyAll_122 ml_X12_98 yS_X12_copyRow (c_X12_copyRow hS (la_53 hS) eq25) (by decide) rfl (Nat.le_of_ble_eq_true rfl) ?_
    cases e
    exact r_return dX12_copyAll_125 rfl
  have J3 : ∀ pp : Mm, pp = p2 → Run l G M_X12_copyAll 1 39 [some (vr (some 44)), some (vi a1), some (vi a2), none] [] S pp (none) S q := by
    intro pp hpp
    rw [hpp]
    exact J3a
  have J3w : Run l G M_X12_copyAll 1 2 [some (vr (some 44)), some (vi a1), some (vi a2), some (vi (0 : Int32))] [] S mm (none) S q := by
    refine while_run (s := ((0 : Int32), mm)) (Gs := fun (z1 : Int32 × Mm) => Run l G M_X12_copyAll 1 2 [some (vr (some 44)), some (vi a1), some (vi a2), some (vi z1.1)] [] S z1.2 (none) S q) eb6w ?_
    intro z1 x4y eb6 hx5
    unfold m_X12_copyAll_b2 at eb6
    refine r_iload_n dX12_copyAll_2 rfl ?_
    refine r_sipush (v := 600) dX12_copyAll_3 cs_600 ?_
    refine r_icmp_ge (tgt := 39) dX12_copyAll_6 rfl (fun h7 => ?_) (fun h7 => ?_)
    · replace eb6 := ite_t h7 eb6
      cases eb6
      exact r_weak (L' := [some (vr (some 44)), some (vi a1), some (vi a2), none]) ⟨rfl, rfl, rfl, trivial⟩ (J3 _ hx5)
    · replace eb6 := ite_f h7 eb6
      refine r_aload_n dX12_copyAll_9 rfl ?_
      refine r_getR dX12_copyAll_10 fl_X12_7 rfl (lp_44 hS) (lq_44 hS) (lr_44_1 hS) ?_
      refine r_sipush (v := 600) dX12_copyAll_13 cs_600 ?_
      refine r_iload_n dX12_copyAll_16 rfl ?_
      refine r_imul dX12_copyAll_17 ?_
      refine r_iload_n dX12_copyAll_18 rfl ?_
      refine r_iadd dX12_copyAll_19 ?_
      refine r_aload_n dX12_copyAll_20 rfl ?_
      refine r_getR dX12_copyAll_21 fl_X12_7 rfl (lp_44 hS) (lq_44 hS) (lr_44_1 hS) ?_
      refine r_sipush (v := 600) dX12_copyAll_24 cs_600 ?_
      refine r_iload_n dX12_copyAll_27 rfl ?_
      refine r_imul dX12_copyAll_28 ?_
      refine r_iload_n dX12_copyAll_29 rfl ?_
      refine r_iadd dX12_copyAll_30 ?_
      obtain ⟨hg8, eb6⟩ := grd_some eb6
      refine r_bald dX12_copyAll_31 (lp_45 hS) (lk_45 hS) hg8 ?_
      obtain ⟨hg9, eb6⟩ := grd_some eb6
      refine r_bast dX12_copyAll_32 (lp_45 hS) (lk_45 hS) hg9 ?_
      refine r_iinc (v := _ + (1 : Int32)) dX12_copyAll_33 rfl (congrArg (_ + ·) ci_1) (by decide) rfl ?_
      refine r_goto (tgt := 2) dX12_copyAll_36 rfl ?_
      cases eb6
      exact r_weak (L' := [some (vr (some 44)), some (vi a1), some (vi a2), some (vi (z1.1 + (1 : Int32)))]) ⟨rfl, rfl, rfl, rfl, trivial⟩ hx5
  exact r_weak (L' := [some (vr (some 44)), some (vi a1), some (vi a2), some (vi (0 : Int32))]) ⟨rfl, rfl, rfl, rfl, trivial⟩ J3w
def m_X12_is (a1 : Int32) (a2 : Int32) (mm : Mm) : Option (Int32) := grd a1 16 (gbz (m_X12_in a2 (0 : Int32) ((mI mm 49 (ix a1)) - (1 : Int32))) (some (m_X12_in a2 (0 : Int32) ((mI mm 49 (ix a1)) - (1 : Int32)))))
set_option maxHeartbeats 4000000 in
set_option maxRecDepth 100000 in
theorem c_X12_is {l : Launch} {G : Gt} {S : Sk} (hS : Lay S) {a1 : Int32} {a2 : Int32} {mm : Mm} {q : Int32} (e : m_X12_is a1 a2 mm = some q) : CallOK l G M_X12_is yX12_is 1 [vr (some 44), vi a1, vi a2] S mm (some (vi q)) S mm := by
  refine call_of_run rfl rfl rfl (Nat.le_of_ble_eq_true rfl) ?_
  show Run l G M_X12_is 1 0 [some (vr (some 44)), some (vi a1), some (vi a2)] [] S mm (some (vi q)) S mm
  unfold m_X12_is at e
  refine r_iload_n dX12_is_0 rfl ?_
  refine r_iconst (v := 0) dX12_is_1 ci_0 ?_
  refine r_aload_n dX12_is_2 rfl ?_
  refine r_getR dX12_is_3 fl_X12_23 rfl (lp_44 hS) (lq_44 hS) (lr_44_5 hS) ?_
  refine r_iload_n dX12_is_6 rfl ?_
  obtain ⟨hg1, e⟩ := grd_some e
  refine r_iald dX12_is_7 (lp_49 hS) (lk_49 hS) hg1 ?_
  refine r_iconst (v := 1) dX12_is_8 ci_1 ?_
  refine r_isub dX12_is_9 ?_
  refine r_callS (as := [_, _, _]) (rest := []) dX12_is_10 ml_X12_102 yS_X12_in (c_X12_in hS) (by decide) rfl (Nat.le_of_ble_eq_true rfl) ?_
  obtain ⟨hbz, e⟩ := gbz_some e
  cases e
  exact r_ireturn dX12_is_13 rfl (nz_b hbz).1
def m_X12_four_b3 (a1 : Int32) (z1 : Int32 × Mm) : Option ((Int32 × Mm) ⊕ (Mm)) := if z1.1 < 0 then (some (.inr z1.2)) else (grd (mI z1.2 46 (ix (0 : Int32))) 2400 (some (.inl (z1.1 + (-8 : Int32), (sI (sI z1.2 45 (ix (mI z1.2 46 (ix (0 : Int32)))) (vp_nar .byte ((xshr a1 z1.1).toInt8.toInt32))) 46 (ix (0 : Int32)) ((mI (sI z1.2 45 (ix (mI z1.2 46 (ix (0 : Int32)))) (vp_nar .byte ((xshr a1 z1.1).toInt8.toInt32))) 46 (ix (0 : Int32))) + (1 : Int32)))))))
def m_X12_four (a1 : Int32) (mm : Mm) : Option (Mm) := (whileF FU (m_X12_four_b3 a1) ((24 : Int32), mm)).bind (fun p2 => some p2)
set_option maxHeartbeats 4000000 in
set_option maxRecDepth 100000 in
theorem c_X12_four {l : Launch} {G : Gt} {S : Sk} (hS : Lay S) {a1 : Int32} {mm : Mm} {q : Mm} (e : m_X12_four a1 mm = some q) : CallOK l G M_X12_four yX12_four 0 [vr (some 44), vi a1] S mm (none) S q := by
  refine call_of_run rfl rfl rfl (Nat.le_of_ble_eq_true rfl) ?_
  show Run l G M_X12_four 0 0 [some (vr (some 44)), some (vi a1), none] [] S mm (none) S q
  unfold m_X12_four at e
  refine r_bipush (v := 24) dX12_four_0 cb_24 ?_
  refine r_istore_n dX12_four_2 (by decide) rfl ?_
  obtain ⟨p2, eb6w, e⟩ := obind e
  have J3a : Run l G M_X12_four 0 38 [none, none, none] [] S p2 (none) S q := by
    cases e
    exact r_return dX12_four_38 rfl
  have J3 : ∀ pp : Mm, pp = p2 → Run l G M_X12_four 0 38 [none, none, none] [] S pp (none) S q := by
    intro pp hpp
    rw [hpp]
    exact J3a
  have J3w : Run l G M_X12_four 0 3 [some (vr (some 44)), some (vi a1), some (vi (24 : Int32))] [] S mm (none) S q := by
    refine while_run (s := ((24 : Int32), mm)) (Gs := fun (z1 : Int32 × Mm) => Run l G M_X12_four 0 3 [some (vr (some 44)), some (vi a1), some (vi z1.1)] [] S z1.2 (none) S q) eb6w ?_
    intro z1 x4y eb6 hx5
    unfold m_X12_four_b3 at eb6
    refine r_iload_n dX12_four_3 rfl ?_
    refine r_if_lt (tgt := 38) dX12_four_4 rfl (fun h7 => ?_) (fun h7 => ?_)
    · replace eb6 := ite_t h7 eb6
      cases eb6
      exact r_weak (L' := [none, none, none]) trivial (J3 _ hx5)
    · replace eb6 := ite_f h7 eb6
      refine r_aload_n dX12_four_7 rfl ?_
      refine r_getR dX12_four_8 fl_X12_7 rfl (lp_44 hS) (lq_44 hS) (lr_44_1 hS) ?_
      refine r_aload_n dX12_four_11 rfl ?_
      refine r_getR dX12_four_12 fl_X12_13 rfl (lp_44 hS) (lq_44 hS) (lr_44_2 hS) ?_
      refine r_iconst (v := 0) dX12_four_15 ci_0 ?_
      refine r_iald dX12_four_16 (lp_46 hS) (lk_46 hS) (vp_in_iff.mpr ⟨by decide, by decide⟩) ?_
      refine r_iload_n dX12_four_17 rfl ?_
      refine r_iload_n dX12_four_18 rfl ?_
      refine r_ishr dX12_four_19 ?_
      refine r_i2b dX12_four_20 ?_
      obtain ⟨hg8, eb6⟩ := grd_some eb6
      refine r_bast dX12_four_21 (lp_45 hS) (lk_45 hS) hg8 ?_
      refine r_aload_n dX12_four_22 rfl ?_
      refine r_getR dX12_four_23 fl_X12_13 rfl (lp_44 hS) (lq_44 hS) (lr_44_2 hS) ?_
      refine r_iconst (v := 0) dX12_four_26 ci_0 ?_
      refine r_dup2 dX12_four_27 rfl rfl ?_
      refine r_iald dX12_four_28 (lp_46 hS) (lk_46 hS) (vp_in_iff.mpr ⟨by decide, by decide⟩) ?_
      refine r_iconst (v := 1) dX12_four_29 ci_1 ?_
      refine r_iadd dX12_four_30 ?_
      refine r_iast dX12_four_31 (lp_46 hS) (lk_46 hS) (vp_in_iff.mpr ⟨by decide, by decide⟩) ?_
      refine r_iinc (v := _ + (-8 : Int32)) dX12_four_32 rfl (congrArg (_ + ·) ci_m8) (by decide) rfl ?_
      refine r_goto (tgt := 3) dX12_four_35 rfl ?_
      cases eb6
      exact r_weak (L' := [some (vr (some 44)), some (vi a1), some (vi (z1.1 + (-8 : Int32)))]) ⟨rfl, rfl, rfl, trivial⟩ hx5
  exact r_weak (L' := [some (vr (some 44)), some (vi a1), some (vi (24 : Int32))]) ⟨rfl, rfl, rfl, trivial⟩ J3w
def m_X12_feed (a1 : Int32) (a2 : Int32) (a3 : Int32) (a4 : Int32) (a5 : Int32) (mm : Mm) : Option (Int32 × Mm) := if ((mI (sI mm 44 0 (0 : Int32)) 46 (ix (0 : Int32))) + (20 : Int32)) ≤ (600 : Int32) then ((m_X12_four a1 (sI mm 44 0 (0 : Int32))).bind (fun q2 => (m_X12_four a2 q2).bind (fun q4 => (m_X12_four a3 q4).bind (fun q6 => (m_X12_four a4 q6).bind (fun q8 => (m_X12_four a5 q8).bind (fun q10 => some (mI q10 46 (ix (0 : Int32)), q10))))))) else (some ((-1 : Int32), (sI mm 44 0 (0 : Int32))))
set_option maxHeartbeats 4000000 in
set_option maxRecDepth 100000 in
theorem c_X12_feed {l : Launch} {G : Gt} {S : Sk} (hS : Lay S) {a1 : Int32} {a2 : Int32} {a3 : Int32} {a4 : Int32} {a5 : Int32} {mm : Mm} {q : Int32 × Mm} (e : m_X12_feed a1 a2 a3 a4 a5 mm = some q) : CallOK l G M_X12_feed yX12_feed 1 [vr (some 44), vi a1, vi a2, vi a3, vi a4, vi a5] S mm (some (vi q.1)) S q.2 := by
  refine call_of_run rfl rfl rfl (Nat.le_of_ble_eq_true rfl) ?_
  show Run l G M_X12_feed 1 0 [some (vr (some 44)), some (vi a1), some (vi a2), some (vi a3), some (vi a4), some (vi a5)] [] S mm (some (vi q.1)) S q.2
  unfold m_X12_feed at e
  refine r_aload_n dX12_feed_0 rfl ?_
  refine r_iconst (v := 0) dX12_feed_1 ci_0 ?_
  refine r_putI dX12_feed_2 fl_X12_90 ft_12_0 (Or.inl rfl) rfl rfl rfl (lp_44 hS) (lq_44 hS) ?_
  refine r_aload_n dX12_feed_5 rfl ?_
  refine r_getR dX12_feed_6 fl_X12_13 rfl (lp_44 hS) (lq_44 hS) (lr_44_2 hS) ?_
  refine r_iconst (v := 0) dX12_feed_9 ci_0 ?_
  refine r_iald dX12_feed_10 (lp_46 hS) (lk_46 hS) (vp_in_iff.mpr ⟨by decide, by decide⟩) ?_
  refine r_bipush (v := 20) dX12_feed_11 cb_20 ?_
  refine r_iadd dX12_feed_13 ?_
  refine r_sipush (v := 600) dX12_feed_14 cs_600 ?_
  refine r_icmp_le (tgt := 22) dX12_feed_17 rfl (fun h1 => ?_) (fun h1 => ?_)
  · replace e := ite_t h1 e
    refine r_aload_n dX12_feed_22 rfl ?_
    refine r_iload_n dX12_feed_23 rfl ?_
    obtain ⟨q2, eq3, e⟩ := obind e
    refine r_callV (as := [_]) (rest := []) dX12_feed_24 ml_X12_106 yV_X12_four (c_X12_four hS eq3) (by decide) rfl (lp_44 hS) (lq_44 hS) (Nat.le_of_ble_eq_true rfl) ?_
    refine r_aload_n dX12_feed_27 rfl ?_
    refine r_iload_n dX12_feed_28 rfl ?_
    obtain ⟨q4, eq5, e⟩ := obind e
    refine r_callV (as := [_]) (rest := []) dX12_feed_29 ml_X12_106 yV_X12_four (c_X12_four hS eq5) (by decide) rfl (lp_44 hS) (lq_44 hS) (Nat.le_of_ble_eq_true rfl) ?_
    refine r_aload_n dX12_feed_32 rfl ?_
    refine r_iload_n dX12_feed_33 rfl ?_
    obtain ⟨q6, eq7, e⟩ := obind e
    refine r_callV (as := [_]) (rest := []) dX12_feed_34 ml_X12_106 yV_X12_four (c_X12_four hS eq7) (by decide) rfl (lp_44 hS) (lq_44 hS) (Nat.le_of_ble_eq_true rfl) ?_
    refine r_aload_n dX12_feed_37 rfl ?_
    refine r_iload dX12_feed_38 rfl ?_
    obtain ⟨q8, eq9, e⟩ := obind e
    refine r_callV (as := [_]) (rest := []) dX12_feed_40 ml_X12_106 yV_X12_four (c_X12_four hS eq9) (by decide) rfl (lp_44 hS) (lq_44 hS) (Nat.le_of_ble_eq_true rfl) ?_
    refine r_aload_n dX12_feed_43 rfl ?_
    refine r_iload dX12_feed_44 rfl ?_
    obtain ⟨q10, eq11, e⟩ := obind e
    refine r_callV (as := [_]) (rest := []) dX12_feed_46 ml_X12_106 yV_X12_four (c_X12_four hS eq11) (by decide) rfl (lp_44 hS) (lq_44 hS) (Nat.le_of_ble_eq_true rfl) ?_
    refine r_aload_n dX12_feed_49 rfl ?_
    refine r_getR dX12_feed_50 fl_X12_13 rfl (lp_44 hS) (lq_44 hS) (lr_44_2 hS) ?_
    refine r_iconst (v := 0) dX12_feed_53 ci_0 ?_
    refine r_iald dX12_feed_54 (lp_46 hS) (lk_46 hS) (vp_in_iff.mpr ⟨by decide, by decide⟩) ?_
    cases e
    exact r_ireturn dX12_feed_55 rfl rfl
  · replace e := ite_f h1 e
    refine r_iconst (v := -1) dX12_feed_20 ci_m1 ?_
    cases e
    exact r_ireturn dX12_feed_21 rfl rfl
def m_X12_end (a1 : Int32) (mm : Mm) : Option (Int32 × Mm) := if (m_X12_in a1 (0 : Int32) (mI (sI mm 44 0 (0 : Int32)) 46 (ix (0 : Int32)))) = 0 then (some ((-1 : Int32), (sI mm 44 0 (0 : Int32)))) else (some (a1, (sI (sI mm 44 0 (0 : Int32)) 46 (ix (0 : Int32)) a1)))
set_option maxHeartbeats 4000000 in
set_option maxRecDepth 100000 in
theorem c_X12_end {l : Launch} {G : Gt} {S : Sk} (hS : Lay S) {a1 : Int32} {mm : Mm} {q : Int32 × Mm} (e : m_X12_end a1 mm = some q) : CallOK l G M_X12_end yX12_end 1 [vr (some 44), vi a1] S mm (some (vi q.1)) S q.2 := by
  refine call_of_run rfl rfl rfl (Nat.le_of_ble_eq_true rfl) ?_
  show Run l G M_X12_end 1 0 [some (vr (some 44)), some (vi a1)] [] S mm (some (vi q.1)) S q.2
  unfold m_X12_end at e
  refine r_aload_n dX12_end_0 rfl ?_
  refine r_iconst (v := 0) dX12_end_1 ci_0 ?_
  refine r_putI dX12_end_2 fl_X12_90 ft_12_0 (Or.inl rfl) rfl rfl rfl (lp_44 hS) (lq_44 hS) ?_
  refine r_iload_n dX12_end_5 rfl ?_
  refine r_iconst (v := 0) dX12_end_6 ci_0 ?_
  refine r_aload_n dX12_end_7 rfl ?_
  refine r_getR dX12_end_8 fl_X12_13 rfl (lp_44 hS) (lq_44 hS) (lr_44_2 hS) ?_
  refine r_iconst (v := 0) dX12_end_11 ci_0 ?_
  refine r_iald dX12_end_12 (lp_46 hS) (lk_46 hS) (vp_in_iff.mpr ⟨by decide, by decide⟩) ?_
  refine r_callS (as := [_, _, _]) (rest := []) dX12_end_13 ml_X12_102 yS_X12_in (c_X12_in hS) (by decide) rfl (Nat.le_of_ble_eq_true rfl) ?_
  refine r_if_ne (tgt := 21) dX12_end_16 rfl (fun h1 => ?_) (fun h1 => ?_)
  · replace e := ite_f h1 e
    refine r_aload_n dX12_end_21 rfl ?_
    refine r_getR dX12_end_22 fl_X12_13 rfl (lp_44 hS) (lq_44 hS) (lr_44_2 hS) ?_
    refine r_iconst (v := 0) dX12_end_25 ci_0 ?_
    refine r_iload_n dX12_end_26 rfl ?_
    refine r_iast dX12_end_27 (lp_46 hS) (lk_46 hS) (vp_in_iff.mpr ⟨by decide, by decide⟩) ?_
    refine r_iload_n dX12_end_28 rfl ?_
    cases e
    exact r_ireturn dX12_end_29 rfl rfl
  · replace e := ite_t h1 e
    refine r_iconst (v := -1) dX12_end_19 ci_m1 ?_
    cases e
    exact r_ireturn dX12_end_20 rfl rfl
def m_X12_see (mm : Mm) : Option (Int32) := if (mI mm 44 11) ≤ (mI mm 44 10) then (some (-1 : Int32)) else (grd (mI mm 44 10) 2400 (some ((mI mm 45 (ix (mI mm 44 10))) &&& (255 : Int32))))
set_option maxHeartbeats 4000000 in
set_option maxRecDepth 100000 in
theorem c_X12_see {l : Launch} {G : Gt} {S : Sk} (hS : Lay S) {mm : Mm} {q : Int32} (e : m_X12_see mm = some q) : CallOK l G M_X12_see yX12_see 0 [vr (some 44)] S mm (some (vi q)) S mm := by
  refine call_of_run rfl rfl rfl (Nat.le_of_ble_eq_true rfl) ?_
  show Run l G M_X12_see 0 0 [some (vr (some 44))] [] S mm (some (vi q)) S mm
  unfold m_X12_see at e
  refine r_aload_n dX12_see_0 rfl ?_
  refine r_getI dX12_see_1 fl_X12_110 rfl (lp_44 hS) (lq_44 hS) ?_
  refine r_aload_n dX12_see_4 rfl ?_
  refine r_getI dX12_see_5 fl_X12_113 rfl (lp_44 hS) (lq_44 hS) ?_
  refine r_icmp_ge (tgt := 27) dX12_see_8 rfl (fun h1 => ?_) (fun h1 => ?_)
  · replace e := ite_t h1 e
    refine r_iconst (v := -1) dX12_see_27 ci_m1 ?_
    cases e
    exact r_ireturn dX12_see_28 rfl rfl
  · replace e := ite_f h1 e
    refine r_aload_n dX12_see_11 rfl ?_
    refine r_getR dX12_see_12 fl_X12_7 rfl (lp_44 hS) (lq_44 hS) (lr_44_1 hS) ?_
    refine r_aload_n dX12_see_15 rfl ?_
    refine r_getI dX12_see_16 fl_X12_110 rfl (lp_44 hS) (lq_44 hS) ?_
    obtain ⟨hg2, e⟩ := grd_some e
    refine r_bald dX12_see_19 (lp_45 hS) (lk_45 hS) hg2 ?_
    refine r_sipush (v := 255) dX12_see_20 cs_255 ?_
    refine r_iand dX12_see_23 ?_
    refine r_goto (tgt := 28) dX12_see_24 rfl ?_
    cases e
    exact r_ireturn dX12_see_28 rfl rfl
def m_X12_token_b0 (z1 : Mm) : Option ((Mm) ⊕ (Mm)) := (m_X12_see z1).bind (fun q7 => bS (if q7 = (10 : Int32) then (some (.inl ())) else ((m_X12_see z1).bind (fun q14 => if q14 = (32 : Int32) then (some (.inl ())) else (some (.inr (.inr z1))))) : Option ((Unit) ⊕ ((Mm) ⊕ (Mm)))) (fun p9 => some (.inl (sI z1 44 10 ((mI z1 44 10) + (1 : Int32))))))
def m_X12_token_b163 (z23 : Int32 × Mm) : Option ((Int32 × Mm) ⊕ (Int32 × Mm)) := (m_X12_see z23.2).bind (fun q29 => if (m_X12_in q29 (48 : Int32) (57 : Int32)) = 0 then (some (.inr (z23.1, z23.2))) else ((if (2 : Int32) ≤ z23.1 then (some (mI z23.2 44 14)) else ((m_X12_see z23.2).bind (fun q37 => some ((((10 : Int32) * (mI z23.2 44 14)) + q37) - (48 : Int32)))) : Option (Int32)).bind (fun p32 => some (.inl (z23.1 + (1 : Int32), (sI (sI z23.2 44 14 p32) 44 10 ((mI (sI z23.2 44 14 p32) 44 10) + (1 : Int32))))))))
def m_X12_token_b74 (z43 : Int32 × Mm) : Option ((Int32 × Mm) ⊕ (Int32 × Mm)) := (m_X12_see z43.2).bind (fun q49 => if (m_X12_in q49 (97 : Int32) (122 : Int32)) = 0 then (some (.inr (z43.1, z43.2))) else ((m_X12_see z43.2).bind (fun q52 => some (.inl (z43.1 + (1 : Int32), (sI (sL z43.2 44 15 ((xlshl (mL z43.2 44 15) (8 : Int32)) ||| ((q52).toInt64))) 44 10 ((mI (sL z43.2 44 15 ((xlshl (mL z43.2 44 15) (8 : Int32)) ||| ((q52).toInt64))) 44 10) + (1 : Int32))))))))
def m_X12_token (mm : Mm) : Option (Mm) := (whileF FU (m_X12_token_b0) mm).bind (fun p2 => (m_X12_see (sI p2 44 12 (mI p2 44 10))).bind (fun q17 => if 0 ≤ q17 then (if (m_X12_in q17 (97 : Int32) (122 : Int32)) = 0 then (if (m_X12_in q17 (48 : Int32) (57 : Int32)) = 0 then (if q17 = (59 : Int32) then (some (sI (sI (sL (sI p2 44 12 (mI p2 44 10)) 44 15 (0 : Int64)) 44 10 ((mI (sL (sI p2 44 12 (mI p2 44 10)) 44 15 (0 : Int64)) 44 10) + (1 : Int32))) 44 13 (4 : Int32))) else (some (sI (sI (sL (sI p2 44 12 (mI p2 44 10)) 44 15 (0 : Int64)) 44 10 ((mI (sL (sI p2 44 12 (mI p2 44 10)) 44 15 (0 : Int64)) 44 10) + (1 : Int32))) 44 13 (1 : Int32)))) else ((whileF FU (m_X12_token_b163) ((0 : Int32), (sI (sL (sI p2 44 12 (mI p2 44 10)) 44 15 (0 : Int64)) 44 14 (0 : Int32)))).bind (fun p24 => some (sI p24.2 44 13 (if p24.1 ≤ (2 : Int32) then (3 : Int32) else (1 : Int32)))))) else ((whileF FU (m_X12_token_b74) ((0 : Int32), (sL (sI p2 44 12 (mI p2 44 10)) 44 15 (0 : Int64)))).bind (fun p44 => some (sI (sL p44.2 44 15 (if p44.1 ≤ (8 : Int32) then mL p44.2 44 15 else (0 : Int64))) 44 13 (2 : Int32))))) else (some (sI (sL (sI p2 44 12 (mI p2 44 10)) 44 15 (0 : Int64)) 44 13 (0 : Int32)))))
set_option maxHeartbeats 4000000 in
set_option maxRecDepth 100000 in
theorem c_X12_token {l : Launch} {G : Gt} {S : Sk} (hS : Lay S) {mm : Mm} {q : Mm} (e : m_X12_token mm = some q) : CallOK l G M_X12_token yX12_token 1 [vr (some 44)] S mm (none) S q := by
  refine call_of_run rfl rfl rfl (Nat.le_of_ble_eq_true rfl) ?_
  show Run l G M_X12_token 1 0 [some (vr (some 44)), none, none] [] S mm (none) S q
  unfold m_X12_token at e
  obtain ⟨p2, eb6w, e⟩ := obind e
  have J3a : Run l G M_X12_token 1 31 [some (vr (some 44)), none, none] [] S p2 (none) S q := by
    refine r_aload_n dX12_token_31 rfl ?_
    refine r_aload_n dX12_token_32 rfl ?_
    refine r_getI dX12_token_33 fl_X12_110 rfl (lp_44 hS) (lq_44 hS) ?_
    refine r_putI dX12_token_36 fl_X12_120 ft_12_12 (Or.inl rfl) rfl rfl rfl (lp_44 hS) (lq_44 hS) ?_
    refine r_aload_n dX12_token_39 rfl ?_
    obtain ⟨q17, eq18, e⟩ := obind e
    refine r_callV (as := []) (rest := []) dX12_token_40 ml_X12_116 yV_X12_see (c_X12_see hS eq18) (by decide) rfl (lp_44 hS) (lq_44 hS) (Nat.le_of_ble_eq_true rfl) ?_
    refine r_istore_n dX12_token_43 (by decide) rfl ?_
    refine r_aload_n dX12_token_44 rfl ?_
    refine r_lconst (v := 0) dX12_token_45 rfl ?_
    refine r_putL dX12_token_46 fl_X12_123 ft_12_15 (lp_44 hS) (lq_44 hS) ?_
    refine r_iconst (v := 0) dX12_token_49 ci_0 ?_
    refine r_istore_n dX12_token_50 (by decide) rfl ?_
    refine r_iload_n dX12_token_51 rfl ?_
    refine r_if_ge (tgt := 63) dX12_token_52 rfl (fun h19 => ?_) (fun h19 => ?_)
    · replace e := ite_t h19 e
      refine r_iload_n dX12_token_63 rfl ?_
      refine r_bipush (v := 97) dX12_token_64 cb_97 ?_
      refine r_bipush (v := 122) dX12_token_66 cb_122 ?_
      refine r_callS (as := [_, _, _]) (rest := []) dX12_token_68 ml_X12_102 yS_X12_in (c_X12_in hS) (by decide) rfl (Nat.le_of_ble_eq_true rfl) ?_
      refine r_if_eq (tgt := 147) dX12_token_71 rfl (fun h20 => ?_) (fun h20 => ?_)
      · replace e := ite_t h20 e
        refine r_iload_n dX12_token_147 rfl ?_
        refine r_bipush (v := 48) dX12_token_148 cb_48 ?_
        refine r_bipush (v := 57) dX12_token_150 cb_57 ?_
        refine r_callS (as := [_, _, _]) (rest := []) dX12_token_152 ml_X12_102 yS_X12_in (c_X12_in hS) (by decide) rfl (Nat.le_of_ble_eq_true rfl) ?_
        refine r_if_eq (tgt := 241) dX12_token_155 rfl (fun h21 => ?_) (fun h21 => ?_)
        · replace e := ite_t h21 e
          refine r_aload_n dX12_token_241 rfl ?_
          refine r_dup dX12_token_242 rfl ?_
          refine r_getI dX12_token_243 fl_X12_110 rfl (lp_44 hS) (lq_44 hS) ?_
          refine r_iconst (v := 1) dX12_token_246 ci_1 ?_
          refine r_iadd dX12_token_247 ?_
          refine r_putI dX12_token_248 fl_X12_110 ft_12_10 (Or.inl rfl) rfl rfl rfl (lp_44 hS) (lq_44 hS) ?_
          refine r_aload_n dX12_token_251 rfl ?_
          refine r_iload_n dX12_token_252 rfl ?_
          refine r_bipush (v := 59) dX12_token_253 cb_59 ?_
          refine r_icmp_ne (tgt := 262) dX12_token_255 rfl (fun h22 => ?_) (fun h22 => ?_)
          · replace e := ite_f h22 e
            refine r_iconst (v := 1) dX12_token_262 ci_1 ?_
            refine r_putI dX12_token_263 fl_X12_127 ft_12_13 (Or.inl rfl) rfl rfl rfl (lp_44 hS) (lq_44 hS) ?_
            cases e
            exact r_return dX12_token_266 rfl
          · replace e := ite_t h22 e
            refine r_iconst (v := 4) dX12_token_258 ci_4 ?_
            refine r_goto (tgt := 263) dX12_token_259 rfl ?_
            refine r_putI dX12_token_263 fl_X12_127 ft_12_13 (Or.inl rfl) rfl rfl rfl (lp_44 hS) (lq_44 hS) ?_
            cases e
            exact r_return dX12_token_266 rfl
        · replace e := ite_f h21 e
          refine r_aload_n dX12_token_158 rfl ?_
          refine r_iconst (v := 0) dX12_token_159 ci_0 ?_
          refine r_putI dX12_token_160 fl_X12_130 ft_12_14 (Or.inl rfl) rfl rfl rfl (lp_44 hS) (lq_44 hS) ?_
          obtain ⟨p24, eb28w, e⟩ := obind e
          have J25a : Run l G M_X12_token 1 224 [some (vr (some 44)), none, some (vi p24.1)] [] S p24.2 (none) S q := by
            refine r_aload_n dX12_token_224 rfl ?_
            refine r_iload_n dX12_token_225 rfl ?_
            refine r_iconst (v := 2) dX12_token_226 ci_2 ?_
            have J41 : ∀ (w40 : Int32), w40 = (if p24.1 ≤ (2 : Int32) then (3 : Int32) else (1 : Int32)) → Run l G M_X12_token 1 235 [none, none, none] [vi w40, vr (some 44)] S p24.2 (none) S q := by
              intro w40 hw42
              subst hw42
              refine r_putI dX12_token_235 fl_X12_127 ft_12_13 (Or.inl rfl) rfl rfl rfl (lp_44 hS) (lq_44 hS) ?_
              refine r_goto (tgt := 266) dX12_token_238 rfl ?_
              cases e
              exact r_return dX12_token_266 rfl
            refine r_icmp_le (tgt := 234) dX12_token_227 rfl (fun h39 => ?_) (fun h39 => ?_)
            · refine r_iconst (v := 3) dX12_token_234 ci_3 ?_
              exact r_weak (L' := [none, none, none]) trivial (J41 _ (Eq.symm (if_pos h39)))
            · refine r_iconst (v := 1) dX12_token_230 ci_1 ?_
              refine r_goto (tgt := 235) dX12_token_231 rfl ?_
              exact r_weak (L' := [none, none, none]) trivial (J41 _ (Eq.symm (if_neg h39)))
          have J25 : ∀ pp : Int32 × Mm, pp = p24 → Run l G M_X12_token 1 224 [some (vr (some 44)), none, some (vi pp.1)] [] S pp.2 (none) S q := by
            intro pp hpp
            rw [hpp]
            exact J25a
          have J25w : Run l G M_X12_token 1 163 [some (vr (some 44)), none, some (vi (0 : Int32))] [] S (sI (sL (sI p2 44 12 (mI p2 44 10)) 44 15 (0 : Int64)) 44 14 (0 : Int32)) (none) S q := by
            refine while_run (s := ((0 : Int32), (sI (sL (sI p2 44 12 (mI p2 44 10)) 44 15 (0 : Int64)) 44 14 (0 : Int32)))) (Gs := fun (z23 : Int32 × Mm) => Run l G M_X12_token 1 163 [some (vr (some 44)), none, some (vi z23.1)] [] S z23.2 (none) S q) eb28w ?_
            intro z23 x26y eb28 hx27
            unfold m_X12_token_b163 at eb28
            refine r_aload_n dX12_token_163 rfl ?_
            obtain ⟨q29, eq30, eb28⟩ := obind eb28
            refine r_callV (as := []) (rest := []) dX12_token_164 ml_X12_116 yV_X12_see (c_X12_see hS eq30) (by decide) rfl (lp_44 hS) (lq_44 hS) (Nat.le_of_ble_eq_true rfl) ?_
            refine r_bipush (v := 48) dX12_token_167 cb_48 ?_
            refine r_bipush (v := 57) dX12_token_169 cb_57 ?_
            refine r_callS (as := [_, _, _]) (rest := []) dX12_token_171 ml_X12_102 yS_X12_in (c_X12_in hS) (by decide) rfl (Nat.le_of_ble_eq_true rfl) ?_
            refine r_if_eq (tgt := 224) dX12_token_174 rfl (fun h31 => ?_) (fun h31 => ?_)
            · replace eb28 := ite_t h31 eb28
              cases eb28
              exact r_weak (L' := [some (vr (some 44)), none, some (vi z23.1)]) ⟨rfl, rfl, trivial⟩ (J25 _ hx27)
            · replace eb28 := ite_f h31 eb28
              refine r_aload_n dX12_token_177 rfl ?_
              refine r_iload_n dX12_token_178 rfl ?_
              refine r_iconst (v := 2) dX12_token_179 ci_2 ?_
              obtain ⟨p32, ep34, eb28⟩ := obind eb28
              have J33a : Run l G M_X12_token 1 205 [some (vr (some 44)), none, some (vi z23.1)] [vi p32, vr (some 44)] S z23.2 (none) S q := by
                refine r_putI dX12_token_205 fl_X12_130 ft_12_14 (Or.inl rfl) rfl rfl rfl (lp_44 hS) (lq_44 hS) ?_
                refine r_aload_n dX12_token_208 rfl ?_
                refine r_dup dX12_token_209 rfl ?_
                refine r_getI dX12_token_210 fl_X12_110 rfl (lp_44 hS) (lq_44 hS) ?_
                refine r_iconst (v := 1) dX12_token_213 ci_1 ?_
                refine r_iadd dX12_token_214 ?_
                refine r_putI dX12_token_215 fl_X12_110 ft_12_10 (Or.inl rfl) rfl rfl rfl (lp_44 hS) (lq_44 hS) ?_
                refine r_iinc (v := _ + (1 : Int32)) dX12_token_218 rfl (congrArg (_ + ·) ci_1) (by decide) rfl ?_
                refine r_goto (tgt := 163) dX12_token_221 rfl ?_
                cases eb28
                exact r_weak (L' := [some (vr (some 44)), none, some (vi (z23.1 + (1 : Int32)))]) ⟨rfl, rfl, trivial⟩ hx27
              have J33 : ∀ pp : Int32, pp = p32 → Run l G M_X12_token 1 205 [some (vr (some 44)), none, some (vi z23.1)] [vi pp, vr (some 44)] S z23.2 (none) S q := by
                intro pp hpp
                rw [hpp]
                exact J33a
              refine r_icmp_ge (tgt := 201) dX12_token_180 rfl (fun h36 => ?_) (fun h36 => ?_)
              · replace ep34 := ite_t h36 ep34
                refine r_aload_n dX12_token_201 rfl ?_
                refine r_getI dX12_token_202 fl_X12_130 rfl (lp_44 hS) (lq_44 hS) ?_
                exact r_weak (L' := [some (vr (some 44)), none, some (vi z23.1)]) ⟨rfl, rfl, trivial⟩ (J33 _ (Option.some.inj ep34))
              · replace ep34 := ite_f h36 ep34
                refine r_bipush (v := 10) dX12_token_183 cb_10 ?_
                refine r_aload_n dX12_token_185 rfl ?_
                refine r_getI dX12_token_186 fl_X12_130 rfl (lp_44 hS) (lq_44 hS) ?_
                refine r_imul dX12_token_189 ?_
                refine r_aload_n dX12_token_190 rfl ?_
                obtain ⟨q37, eq38, ep34⟩ := obind ep34
                refine r_callV (as := []) (rest := [_, _]) dX12_token_191 ml_X12_116 yV_X12_see (c_X12_see hS eq38) (by decide) rfl (lp_44 hS) (lq_44 hS) (Nat.le_of_ble_eq_true rfl) ?_
                refine r_iadd dX12_token_194 ?_
                refine r_bipush (v := 48) dX12_token_195 cb_48 ?_
                refine r_isub dX12_token_197 ?_
                refine r_goto (tgt := 205) dX12_token_198 rfl ?_
                exact r_weak (L' := [some (vr (some 44)), none, some (vi z23.1)]) ⟨rfl, rfl, trivial⟩ (J33 _ (Option.some.inj ep34))
          exact r_weak (L' := [some (vr (some 44)), none, some (vi (0 : Int32))]) ⟨rfl, rfl, trivial⟩ J25w
      · replace e := ite_f h20 e
        obtain ⟨p44, eb48w, e⟩ := obind e
        have J45a : Run l G M_X12_token 1 121 [some (vr (some 44)), none, some (vi p44.1)] [] S p44.2 (none) S q := by
          refine r_aload_n dX12_token_121 rfl ?_
          refine r_iload_n dX12_token_122 rfl ?_
          refine r_bipush (v := 8) dX12_token_123 cb_8 ?_
          have J56 : ∀ (w55 : Int64), w55 = (if p44.1 ≤ (8 : Int32) then mL p44.2 44 15 else (0 : Int64)) → Run l G M_X12_token 1 136 [some (vr (some 44)), none, none] [vl w55, vr (some 44)] S p44.2 (none) S q := by
            intro w55 hw57
            subst hw57
            refine r_putL dX12_token_136 fl_X12_123 ft_12_15 (lp_44 hS) (lq_44 hS) ?_
            refine r_aload_n dX12_token_139 rfl ?_
            refine r_iconst (v := 2) dX12_token_140 ci_2 ?_
            refine r_putI dX12_token_141 fl_X12_127 ft_12_13 (Or.inl rfl) rfl rfl rfl (lp_44 hS) (lq_44 hS) ?_
            refine r_goto (tgt := 266) dX12_token_144 rfl ?_
            cases e
            exact r_return dX12_token_266 rfl
          refine r_icmp_le (tgt := 132) dX12_token_125 rfl (fun h54 => ?_) (fun h54 => ?_)
          · refine r_aload_n dX12_token_132 rfl ?_
            refine r_getL dX12_token_133 fl_X12_123 rfl (lp_44 hS) (lq_44 hS) ?_
            exact r_weak (L' := [some (vr (some 44)), none, none]) ⟨rfl, trivial⟩ (J56 _ (Eq.symm (if_pos h54)))
          · refine r_lconst (v := 0) dX12_token_128 rfl ?_
            refine r_goto (tgt := 136) dX12_token_129 rfl ?_
            exact r_weak (L' := [some (vr (some 44)), none, none]) ⟨rfl, trivial⟩ (J56 _ (Eq.symm (if_neg h54)))
        have J45 : ∀ pp : Int32 × Mm, pp = p44 → Run l G M_X12_token 1 121 [some (vr (some 44)), none, some (vi pp.1)] [] S pp.2 (none) S q := by
          intro pp hpp
          rw [hpp]
          exact J45a
        have J45w : Run l G M_X12_token 1 74 [some (vr (some 44)), none, some (vi (0 : Int32))] [] S (sL (sI p2 44 12 (mI p2 44 10)) 44 15 (0 : Int64)) (none) S q := by
          refine while_run (s := ((0 : Int32), (sL (sI p2 44 12 (mI p2 44 10)) 44 15 (0 : Int64)))) (Gs := fun (z43 : Int32 × Mm) => Run l G M_X12_token 1 74 [some (vr (some 44)), none, some (vi z43.1)] [] S z43.2 (none) S q) eb48w ?_
          intro z43 x46y eb48 hx47
          unfold m_X12_token_b74 at eb48
          refine r_aload_n dX12_token_74 rfl ?_
          obtain ⟨q49, eq50, eb48⟩ := obind eb48
          refine r_callV (as := []) (rest := []) dX12_token_75 ml_X12_116 yV_X12_see (c_X12_see hS eq50) (by decide) rfl (lp_44 hS) (lq_44 hS) (Nat.le_of_ble_eq_true rfl) ?_
          refine r_bipush (v := 97) dX12_token_78 cb_97 ?_
          refine r_bipush (v := 122) dX12_token_80 cb_122 ?_
          refine r_callS (as := [_, _, _]) (rest := []) dX12_token_82 ml_X12_102 yS_X12_in (c_X12_in hS) (by decide) rfl (Nat.le_of_ble_eq_true rfl) ?_
          refine r_if_eq (tgt := 121) dX12_token_85 rfl (fun h51 => ?_) (fun h51 => ?_)
          · replace eb48 := ite_t h51 eb48
            cases eb48
            exact r_weak (L' := [some (vr (some 44)), none, some (vi z43.1)]) ⟨rfl, rfl, trivial⟩ (J45 _ hx47)
          · replace eb48 := ite_f h51 eb48
            refine r_aload_n dX12_token_88 rfl ?_
            refine r_aload_n dX12_token_89 rfl ?_
            refine r_getL dX12_token_90 fl_X12_123 rfl (lp_44 hS) (lq_44 hS) ?_
            refine r_bipush (v := 8) dX12_token_93 cb_8 ?_
            refine r_lshl dX12_token_95 ?_
            refine r_aload_n dX12_token_96 rfl ?_
            obtain ⟨q52, eq53, eb48⟩ := obind eb48
            refine r_callV (as := []) (rest := [_, _]) dX12_token_97 ml_X12_116 yV_X12_see (c_X12_see hS eq53) (by decide) rfl (lp_44 hS) (lq_44 hS) (Nat.le_of_ble_eq_true rfl) ?_
            refine r_i2l dX12_token_100 ?_
            refine r_lor dX12_token_101 ?_
            refine r_putL dX12_token_102 fl_X12_123 ft_12_15 (lp_44 hS) (lq_44 hS) ?_
            refine r_aload_n dX12_token_105 rfl ?_
            refine r_dup dX12_token_106 rfl ?_
            refine r_getI dX12_token_107 fl_X12_110 rfl (lp_44 hS) (lq_44 hS) ?_
            refine r_iconst (v := 1) dX12_token_110 ci_1 ?_
            refine r_iadd dX12_token_111 ?_
            refine r_putI dX12_token_112 fl_X12_110 ft_12_10 (Or.inl rfl) rfl rfl rfl (lp_44 hS) (lq_44 hS) ?_
            refine r_iinc (v := _ + (1 : Int32)) dX12_token_115 rfl (congrArg (_ + ·) ci_1) (by decide) rfl ?_
            refine r_goto (tgt := 74) dX12_token_118 rfl ?_
            cases eb48
            exact r_weak (L' := [some (vr (some 44)), none, some (vi (z43.1 + (1 : Int32)))]) ⟨rfl, rfl, trivial⟩ hx47
        exact r_weak (L' := [some (vr (some 44)), none, some (vi (0 : Int32))]) ⟨rfl, rfl, trivial⟩ J45w
    · replace e := ite_f h19 e
      refine r_aload_n dX12_token_55 rfl ?_
      refine r_iconst (v := 0) dX12_token_56 ci_0 ?_
      refine r_putI dX12_token_57 fl_X12_127 ft_12_13 (Or.inl rfl) rfl rfl rfl (lp_44 hS) (lq_44 hS) ?_
      refine r_goto (tgt := 266) dX12_token_60 rfl ?_
      cases e
      exact r_return dX12_token_266 rfl
  have J3 : ∀ pp : Mm, pp = p2 → Run l G M_X12_token 1 31 [some (vr (some 44)), none, none] [] S pp (none) S q := by
    intro pp hpp
    rw [hpp]
    exact J3a
  have J3w : Run l G M_X12_token 1 0 [some (vr (some 44)), none, none] [] S mm (none) S q := by
    refine while_run (s := mm) (Gs := fun (z1 : Mm) => Run l G M_X12_token 1 0 [some (vr (some 44)), none, none] [] S z1 (none) S q) eb6w ?_
    intro z1 x4y eb6 hx5
    unfold m_X12_token_b0 at eb6
    refine r_aload_n dX12_token_0 rfl ?_
    obtain ⟨q7, eq8, eb6⟩ := obind eb6
    refine r_callV (as := []) (rest := []) dX12_token_1 ml_X12_116 yV_X12_see (c_X12_see hS eq8) (by decide) rfl (lp_44 hS) (lq_44 hS) (Nat.le_of_ble_eq_true rfl) ?_
    refine r_bipush (v := 10) dX12_token_4 cb_10 ?_
    obtain ⟨x12, ep11, elx12, erx12⟩ := bS_some eb6
    have J10 : ∀ p9 : Unit, x12 = .inl p9 → Run l G M_X12_token 1 18 [some (vr (some 44)), none, none] [] S z1 (none) S q := by
      intro p9 hp9
      replace eb6 := elx12 p9 hp9
      refine r_aload_n dX12_token_18 rfl ?_
      refine r_dup dX12_token_19 rfl ?_
      refine r_getI dX12_token_20 fl_X12_110 rfl (lp_44 hS) (lq_44 hS) ?_
      refine r_iconst (v := 1) dX12_token_23 ci_1 ?_
      refine r_iadd dX12_token_24 ?_
      refine r_putI dX12_token_25 fl_X12_110 ft_12_10 (Or.inl rfl) rfl rfl rfl (lp_44 hS) (lq_44 hS) ?_
      refine r_goto (tgt := 0) dX12_token_28 rfl ?_
      cases eb6
      exact r_weak (L' := [some (vr (some 44)), none, none]) ⟨rfl, trivial⟩ hx5
    refine r_icmp_eq (tgt := 18) dX12_token_6 rfl (fun h13 => ?_) (fun h13 => ?_)
    · replace ep11 := ite_t h13 ep11
      cases ep11
      exact r_weak (L' := [some (vr (some 44)), none, none]) ⟨rfl, trivial⟩ (J10 _ rfl)
    · replace ep11 := ite_f h13 ep11
      refine r_aload_n dX12_token_9 rfl ?_
      obtain ⟨q14, eq15, ep11⟩ := obind ep11
      refine r_callV (as := []) (rest := []) dX12_token_10 ml_X12_116 yV_X12_see (c_X12_see hS eq15) (by decide) rfl (lp_44 hS) (lq_44 hS) (Nat.le_of_ble_eq_true rfl) ?_
      refine r_bipush (v := 32) dX12_token_13 cb_32 ?_
      refine r_icmp_ne (tgt := 31) dX12_token_15 rfl (fun h16 => ?_) (fun h16 => ?_)
      · replace ep11 := ite_f h16 ep11
        cases ep11
        have eb6 := congrArg some (erx12 _ rfl)
        cases eb6
        exact r_weak (L' := [some (vr (some 44)), none, none]) ⟨rfl, trivial⟩ (J3 _ hx5)
      · replace ep11 := ite_t h16 ep11
        cases ep11
        exact r_weak (L' := [some (vr (some 44)), none, none]) ⟨rfl, trivial⟩ (J10 _ rfl)
  exact r_weak (L' := [some (vr (some 44)), none, none]) ⟨rfl, trivial⟩ J3w
def m_X12_fails (mm : Mm) : Int32 × Mm := ((0 : Int32), (sI mm 44 16 (mI mm 44 12)))
set_option maxHeartbeats 4000000 in
set_option maxRecDepth 100000 in
theorem c_X12_fails {l : Launch} {G : Gt} {S : Sk} (hS : Lay S) {mm : Mm} : CallOK l G M_X12_fails yX12_fails 0 [vr (some 44)] S mm (some (vi (m_X12_fails mm).1)) S (m_X12_fails mm).2 := by
  refine call_of_run rfl rfl rfl (Nat.le_of_ble_eq_true rfl) ?_
  show Run l G M_X12_fails 0 0 [some (vr (some 44))] [] S mm (some (vi (m_X12_fails mm).1)) S (m_X12_fails mm).2
  generalize e : m_X12_fails mm = q
  unfold m_X12_fails at e
  refine r_aload_n dX12_fails_0 rfl ?_
  refine r_aload_n dX12_fails_1 rfl ?_
  refine r_getI dX12_fails_2 fl_X12_120 rfl (lp_44 hS) (lq_44 hS) ?_
  refine r_putI dX12_fails_5 fl_X12_133 ft_12_16 (Or.inl rfl) rfl rfl rfl (lp_44 hS) (lq_44 hS) ?_
  refine r_iconst (v := 0) dX12_fails_8 ci_0 ?_
  cases e
  exact r_ireturn dX12_fails_9 rfl (nz_b (by first | exact Or.inl rfl | exact Or.inr rfl)).1
def m_X12_addsFault (a1 : Int32) (a2 : Int32) (mm : Mm) : Option (Mm) := bS (if (mI mm 44 17) = 0 then (some (.inl ())) else (if a2 < (mI mm 44 18) then (some (.inl ())) else (if a2 = (mI mm 44 18) then (if (mI mm 44 17) ≤ a1 then (some (.inr mm)) else (some (.inl ()))) else (some (.inr mm)))) : Option ((Unit) ⊕ (Mm))) (fun p1 => some (sI (sI mm 44 17 a1) 44 18 a2))
set_option maxHeartbeats 4000000 in
set_option maxRecDepth 100000 in
theorem c_X12_addsFault {l : Launch} {G : Gt} {S : Sk} (hS : Lay S) {a1 : Int32} {a2 : Int32} {mm : Mm} {q : Mm} (e : m_X12_addsFault a1 a2 mm = some q) : CallOK l G M_X12_addsFault yX12_addsFault 0 [vr (some 44), vi a1, vi a2] S mm (none) S q := by
  refine call_of_run rfl rfl rfl (Nat.le_of_ble_eq_true rfl) ?_
  show Run l G M_X12_addsFault 0 0 [some (vr (some 44)), some (vi a1), some (vi a2)] [] S mm (none) S q
  unfold m_X12_addsFault at e
  refine r_aload_n dX12_addsFault_0 rfl ?_
  refine r_getI dX12_addsFault_1 fl_X12_136 rfl (lp_44 hS) (lq_44 hS) ?_
  obtain ⟨x4, ep3, elx4, erx4⟩ := bS_some e
  have J2 : ∀ p1 : Unit, x4 = .inl p1 → Run l G M_X12_addsFault 0 31 [some (vr (some 44)), some (vi a1), some (vi a2)] [] S mm (none) S q := by
    intro p1 hp1
    replace e := elx4 p1 hp1
    refine r_aload_n dX12_addsFault_31 rfl ?_
    refine r_iload_n dX12_addsFault_32 rfl ?_
    refine r_putI dX12_addsFault_33 fl_X12_136 ft_12_17 (Or.inl rfl) rfl rfl rfl (lp_44 hS) (lq_44 hS) ?_
    refine r_aload_n dX12_addsFault_36 rfl ?_
    refine r_iload_n dX12_addsFault_37 rfl ?_
    refine r_putI dX12_addsFault_38 fl_X12_139 ft_12_18 (Or.inl rfl) rfl rfl rfl (lp_44 hS) (lq_44 hS) ?_
    cases e
    exact r_return dX12_addsFault_41 rfl
  refine r_if_eq (tgt := 31) dX12_addsFault_4 rfl (fun h5 => ?_) (fun h5 => ?_)
  · replace ep3 := ite_t h5 ep3
    cases ep3
    exact r_weak (L' := [some (vr (some 44)), some (vi a1), some (vi a2)]) ⟨rfl, rfl, rfl, trivial⟩ (J2 _ rfl)
  · replace ep3 := ite_f h5 ep3
    refine r_iload_n dX12_addsFault_7 rfl ?_
    refine r_aload_n dX12_addsFault_8 rfl ?_
    refine r_getI dX12_addsFault_9 fl_X12_139 rfl (lp_44 hS) (lq_44 hS) ?_
    refine r_icmp_lt (tgt := 31) dX12_addsFault_12 rfl (fun h6 => ?_) (fun h6 => ?_)
    · replace ep3 := ite_t h6 ep3
      cases ep3
      exact r_weak (L' := [some (vr (some 44)), some (vi a1), some (vi a2)]) ⟨rfl, rfl, rfl, trivial⟩ (J2 _ rfl)
    · replace ep3 := ite_f h6 ep3
      refine r_iload_n dX12_addsFault_15 rfl ?_
      refine r_aload_n dX12_addsFault_16 rfl ?_
      refine r_getI dX12_addsFault_17 fl_X12_139 rfl (lp_44 hS) (lq_44 hS) ?_
      refine r_icmp_ne (tgt := 41) dX12_addsFault_20 rfl (fun h7 => ?_) (fun h7 => ?_)
      · replace ep3 := ite_f h7 ep3
        cases ep3
        have e := congrArg some (erx4 _ rfl)
        cases e
        exact r_return dX12_addsFault_41 rfl
      · replace ep3 := ite_t h7 ep3
        refine r_iload_n dX12_addsFault_23 rfl ?_
        refine r_aload_n dX12_addsFault_24 rfl ?_
        refine r_getI dX12_addsFault_25 fl_X12_136 rfl (lp_44 hS) (lq_44 hS) ?_
        refine r_icmp_ge (tgt := 41) dX12_addsFault_28 rfl (fun h8 => ?_) (fun h8 => ?_)
        · replace ep3 := ite_t h8 ep3
          cases ep3
          have e := congrArg some (erx4 _ rfl)
          cases e
          exact r_return dX12_addsFault_41 rfl
        · replace ep3 := ite_f h8 ep3
          cases ep3
          exact r_weak (L' := [some (vr (some 44)), some (vi a1), some (vi a2)]) ⟨rfl, rfl, rfl, trivial⟩ (J2 _ rfl)
def m_X12_takeBut (a1 : Int32) (a2 : Int32) (a3 : Int32) (a4 : Int32) (mm : Mm) : Option (Int32 × Mm) := if (mI mm 44 13) = (3 : Int32) then (grd a1 4 ((if (m_X12_in (mI (sI mm 55 (ix a1) (mI mm 44 14)) 44 14) a2 a3) = 0 then ((m_X12_addsFault (2 : Int32) (mI (sI mm 55 (ix a1) (mI mm 44 14)) 44 12) (sI mm 55 (ix a1) (mI mm 44 14))).bind (fun q8 => some (sI q8 44 22 (0 : Int32)))) else (if (mI (sI mm 55 (ix a1) (mI mm 44 14)) 44 14) = a4 then ((m_X12_addsFault (2 : Int32) (mI (sI mm 55 (ix a1) (mI mm 44 14)) 44 12) (sI mm 55 (ix a1) (mI mm 44 14))).bind (fun q11 => some (sI q11 44 22 (0 : Int32)))) else (some (sI mm 55 (ix a1) (mI mm 44 14)))) : Option (Mm)).bind (fun p3 => (m_X12_token p3).bind (fun q13 => some ((1 : Int32), q13))))) else (gbz ((m_X12_fails mm).1) (some ((m_X12_fails mm).1, ((m_X12_fails mm).2))))
set_option maxHeartbeats 4000000 in
set_option maxRecDepth 100000 in
theorem c_X12_takeBut {l : Launch} {G : Gt} {S : Sk} (hS : Lay S) {a1 : Int32} {a2 : Int32} {a3 : Int32} {a4 : Int32} {mm : Mm} {q : Int32 × Mm} (e : m_X12_takeBut a1 a2 a3 a4 mm = some q) : CallOK l G M_X12_takeBut yX12_takeBut 2 [vr (some 44), vi a1, vi a2, vi a3, vi a4] S mm (some (vi q.1)) S q.2 := by
  refine call_of_run rfl rfl rfl (Nat.le_of_ble_eq_true rfl) ?_
  show Run l G M_X12_takeBut 2 0 [some (vr (some 44)), some (vi a1), some (vi a2), some (vi a3), some (vi a4)] [] S mm (some (vi q.1)) S q.2
  unfold m_X12_takeBut at e
  refine r_aload_n dX12_takeBut_0 rfl ?_
  refine r_getI dX12_takeBut_1 fl_X12_127 rfl (lp_44 hS) (lq_44 hS) ?_
  refine r_iconst (v := 3) dX12_takeBut_4 ci_3 ?_
  refine r_icmp_eq (tgt := 13) dX12_takeBut_5 rfl (fun h1 => ?_) (fun h1 => ?_)
  · replace e := ite_t h1 e
    refine r_aload_n dX12_takeBut_13 rfl ?_
    refine r_getR dX12_takeBut_14 fl_X12_41 rfl (lp_44 hS) (lq_44 hS) (lr_44_20 hS) ?_
    refine r_iload_n dX12_takeBut_17 rfl ?_
    refine r_aload_n dX12_takeBut_18 rfl ?_
    refine r_getI dX12_takeBut_19 fl_X12_130 rfl (lp_44 hS) (lq_44 hS) ?_
    obtain ⟨hg2, e⟩ := grd_some e
    refine r_iast dX12_takeBut_22 (lp_55 hS) (lk_55 hS) hg2 ?_
    refine r_aload_n dX12_takeBut_23 rfl ?_
    refine r_getI dX12_takeBut_24 fl_X12_130 rfl (lp_44 hS) (lq_44 hS) ?_
    refine r_iload_n dX12_takeBut_27 rfl ?_
    refine r_iload_n dX12_takeBut_28 rfl ?_
    refine r_callS (as := [_, _, _]) (rest := []) dX12_takeBut_29 ml_X12_102 yS_X12_in (c_X12_in hS) (by decide) rfl (Nat.le_of_ble_eq_true rfl) ?_
    obtain ⟨p3, ep5, e⟩ := obind e
    have J4a : Run l G M_X12_takeBut 2 58 [some (vr (some 44)), none, none, none, none] [] S p3 (some (vi q.1)) S q.2 := by
      refine r_aload_n dX12_takeBut_58 rfl ?_
      obtain ⟨q13, eq14, e⟩ := obind e
      refine r_callV (as := []) (rest := []) dX12_takeBut_59 ml_X12_154 yV_X12_token (c_X12_token hS eq14) (by decide) rfl (lp_44 hS) (lq_44 hS) (Nat.le_of_ble_eq_true rfl) ?_
      refine r_iconst (v := 1) dX12_takeBut_62 ci_1 ?_
      cases e
      exact r_ireturn dX12_takeBut_63 rfl (nz_b (by first | exact Or.inl rfl | exact Or.inr rfl)).1
    have J4 : ∀ pp : Mm, pp = p3 → Run l G M_X12_takeBut 2 58 [some (vr (some 44)), none, none, none, none] [] S pp (some (vi q.1)) S q.2 := by
      intro pp hpp
      rw [hpp]
      exact J4a
    refine r_if_eq (tgt := 44) dX12_takeBut_32 rfl (fun h7 => ?_) (fun h7 => ?_)
    · replace ep5 := ite_t h7 ep5
      refine r_aload_n dX12_takeBut_44 rfl ?_
      refine r_iconst (v := 2) dX12_takeBut_45 ci_2 ?_
      refine r_aload_n dX12_takeBut_46 rfl ?_
      refine r_getI dX12_takeBut_47 fl_X12_120 rfl (lp_44 hS) (lq_44 hS) ?_
      obtain ⟨q8, eq9, ep5⟩ := obind ep5
      refine r_callV (as := [_, _]) (rest := []) dX12_takeBut_50 ml_X12_146 yV_X12_addsFault (c_X12_addsFault hS eq9) (by decide) rfl (lp_44 hS) (lq_44 hS) (Nat.le_of_ble_eq_true rfl) ?_
      refine r_aload_n dX12_takeBut_53 rfl ?_
      refine r_iconst (v := 0) dX12_takeBut_54 ci_0 ?_
      refine r_putI dX12_takeBut_55 fl_X12_150 ft_12_22 (Or.inl rfl) rfl (nz_b (by first | exact Or.inl rfl | exact Or.inr rfl | (split <;> first | exact Or.inl rfl | exact Or.inr rfl))).1 (nz_b (by first | exact Or.inl rfl | exact Or.inr rfl | (split <;> first | exact Or.inl rfl | exact Or.inr rfl))).2 (lp_44 hS) (lq_44 hS) ?_
      exact r_weak (L' := [some (vr (some 44)), none, none, none, none]) ⟨rfl, trivial⟩ (J4 _ (Option.some.inj ep5))
    · replace ep5 := ite_f h7 ep5
      refine r_aload_n dX12_takeBut_35 rfl ?_
      refine r_getI dX12_takeBut_36 fl_X12_130 rfl (lp_44 hS) (lq_44 hS) ?_
      refine r_iload dX12_takeBut_39 rfl ?_
      refine r_icmp_ne (tgt := 58) dX12_takeBut_41 rfl (fun h10 => ?_) (fun h10 => ?_)
      · replace ep5 := ite_f h10 ep5
        exact r_weak (L' := [some (vr (some 44)), none, none, none, none]) ⟨rfl, trivial⟩ (J4 _ (Option.some.inj ep5))
      · replace ep5 := ite_t h10 ep5
        refine r_aload_n dX12_takeBut_44 rfl ?_
        refine r_iconst (v := 2) dX12_takeBut_45 ci_2 ?_
        refine r_aload_n dX12_takeBut_46 rfl ?_
        refine r_getI dX12_takeBut_47 fl_X12_120 rfl (lp_44 hS) (lq_44 hS) ?_
        obtain ⟨q11, eq12, ep5⟩ := obind ep5
        refine r_callV (as := [_, _]) (rest := []) dX12_takeBut_50 ml_X12_146 yV_X12_addsFault (c_X12_addsFault hS eq12) (by decide) rfl (lp_44 hS) (lq_44 hS) (Nat.le_of_ble_eq_true rfl) ?_
        refine r_aload_n dX12_takeBut_53 rfl ?_
        refine r_iconst (v := 0) dX12_takeBut_54 ci_0 ?_
        refine r_putI dX12_takeBut_55 fl_X12_150 ft_12_22 (Or.inl rfl) rfl (nz_b (by first | exact Or.inl rfl | exact Or.inr rfl | (split <;> first | exact Or.inl rfl | exact Or.inr rfl))).1 (nz_b (by first | exact Or.inl rfl | exact Or.inr rfl | (split <;> first | exact Or.inl rfl | exact Or.inr rfl))).2 (lp_44 hS) (lq_44 hS) ?_
        exact r_weak (L' := [some (vr (some 44)), none, none, none, none]) ⟨rfl, trivial⟩ (J4 _ (Option.some.inj ep5))
  · replace e := ite_f h1 e
    refine r_aload_n dX12_takeBut_8 rfl ?_
    refine r_callV (as := []) (rest := []) dX12_takeBut_9 ml_X12_142 yV_X12_fails (c_X12_fails hS) (by decide) rfl (lp_44 hS) (lq_44 hS) (Nat.le_of_ble_eq_true rfl) ?_
    obtain ⟨hbz, e⟩ := gbz_some e
    cases e
    exact r_ireturn dX12_takeBut_12 rfl (nz_b hbz).1
def m_X12_take (a1 : Int32) (a2 : Int32) (a3 : Int32) (mm : Mm) : Option (Int32 × Mm) := (m_X12_takeBut a1 a2 a3 (-1 : Int32) mm).bind (fun q1 => gbz q1.1 (some (q1.1, q1.2)))
set_option maxHeartbeats 4000000 in
set_option maxRecDepth 100000 in
theorem c_X12_take {l : Launch} {G : Gt} {S : Sk} (hS : Lay S) {a1 : Int32} {a2 : Int32} {a3 : Int32} {mm : Mm} {q : Int32 × Mm} (e : m_X12_take a1 a2 a3 mm = some q) : CallOK l G M_X12_take yX12_take 3 [vr (some 44), vi a1, vi a2, vi a3] S mm (some (vi q.1)) S q.2 := by
  refine call_of_run rfl rfl rfl (Nat.le_of_ble_eq_true rfl) ?_
  show Run l G M_X12_take 3 0 [some (vr (some 44)), some (vi a1), some (vi a2), some (vi a3)] [] S mm (some (vi q.1)) S q.2
  unfold m_X12_take at e
  refine r_aload_n dX12_take_0 rfl ?_
  refine r_iload_n dX12_take_1 rfl ?_
  refine r_iload_n dX12_take_2 rfl ?_
  refine r_iload_n dX12_take_3 rfl ?_
  refine r_iconst (v := -1) dX12_take_4 ci_m1 ?_
  obtain ⟨q1, eq2, e⟩ := obind e
  refine r_callV (as := [_, _, _, _]) (rest := []) dX12_take_5 ml_X12_157 yV_X12_takeBut (c_X12_takeBut hS eq2) (by decide) rfl (lp_44 hS) (lq_44 hS) (Nat.le_of_ble_eq_true rfl) ?_
  obtain ⟨hbz, e⟩ := gbz_some e
  cases e
  exact r_ireturn dX12_take_8 rfl (nz_b hbz).1
def m_X12_takeTwo (a1 : Int32) (a2 : Int32) (mm : Mm) : Option (Int32 × Mm) := (m_X12_take a1 (0 : Int32) a2 mm).bind (fun q1 => if q1.1 = 0 then (some ((0 : Int32), q1.2)) else (grd a1 4 ((m_X12_takeBut (a1 + (1 : Int32)) (0 : Int32) a2 (mI q1.2 55 (ix a1)) q1.2).bind (fun q5 => if q5.1 = 0 then (some ((0 : Int32), q5.2)) else (some ((1 : Int32), q5.2))))))
set_option maxHeartbeats 4000000 in
set_option maxRecDepth 100000 in
theorem c_X12_takeTwo {l : Launch} {G : Gt} {S : Sk} (hS : Lay S) {a1 : Int32} {a2 : Int32} {mm : Mm} {q : Int32 × Mm} (e : m_X12_takeTwo a1 a2 mm = some q) : CallOK l G M_X12_takeTwo yX12_takeTwo 4 [vr (some 44), vi a1, vi a2] S mm (some (vi q.1)) S q.2 := by
  refine call_of_run rfl rfl rfl (Nat.le_of_ble_eq_true rfl) ?_
  show Run l G M_X12_takeTwo 4 0 [some (vr (some 44)), some (vi a1), some (vi a2)] [] S mm (some (vi q.1)) S q.2
  unfold m_X12_takeTwo at e
  refine r_aload_n dX12_takeTwo_0 rfl ?_
  refine r_iload_n dX12_takeTwo_1 rfl ?_
  refine r_iconst (v := 0) dX12_takeTwo_2 ci_0 ?_
  refine r_iload_n dX12_takeTwo_3 rfl ?_
  obtain ⟨q1, eq2, e⟩ := obind e
  refine r_callV (as := [_, _, _]) (rest := []) dX12_takeTwo_4 ml_X12_161 yV_X12_take (c_X12_take hS eq2) (by decide) rfl (lp_44 hS) (lq_44 hS) (Nat.le_of_ble_eq_true rfl) ?_
  refine r_if_eq (tgt := 32) dX12_takeTwo_7 rfl (fun h3 => ?_) (fun h3 => ?_)
  · replace e := ite_t h3 e
    refine r_iconst (v := 0) dX12_takeTwo_32 ci_0 ?_
    cases e
    exact r_ireturn dX12_takeTwo_33 rfl (nz_b (by first | exact Or.inl rfl | exact Or.inr rfl)).1
  · replace e := ite_f h3 e
    refine r_aload_n dX12_takeTwo_10 rfl ?_
    refine r_iload_n dX12_takeTwo_11 rfl ?_
    refine r_iconst (v := 1) dX12_takeTwo_12 ci_1 ?_
    refine r_iadd dX12_takeTwo_13 ?_
    refine r_iconst (v := 0) dX12_takeTwo_14 ci_0 ?_
    refine r_iload_n dX12_takeTwo_15 rfl ?_
    refine r_aload_n dX12_takeTwo_16 rfl ?_
    refine r_getR dX12_takeTwo_17 fl_X12_41 rfl (lp_44 hS) (lq_44 hS) (lr_44_20 hS) ?_
    refine r_iload_n dX12_takeTwo_20 rfl ?_
    obtain ⟨hg4, e⟩ := grd_some e
    refine r_iald dX12_takeTwo_21 (lp_55 hS) (lk_55 hS) hg4 ?_
    obtain ⟨q5, eq6, e⟩ := obind e
    refine r_callV (as := [_, _, _, _]) (rest := []) dX12_takeTwo_22 ml_X12_157 yV_X12_takeBut (c_X12_takeBut hS eq6) (by decide) rfl (lp_44 hS) (lq_44 hS) (Nat.le_of_ble_eq_true rfl) ?_
    refine r_if_eq (tgt := 32) dX12_takeTwo_25 rfl (fun h7 => ?_) (fun h7 => ?_)
    · replace e := ite_t h7 e
      refine r_iconst (v := 0) dX12_takeTwo_32 ci_0 ?_
      cases e
      exact r_ireturn dX12_takeTwo_33 rfl (nz_b (by first | exact Or.inl rfl | exact Or.inr rfl)).1
    · replace e := ite_f h7 e
      refine r_iconst (v := 1) dX12_takeTwo_28 ci_1 ?_
      refine r_goto (tgt := 33) dX12_takeTwo_29 rfl ?_
      cases e
      exact r_ireturn dX12_takeTwo_33 rfl (nz_b (by first | exact Or.inl rfl | exact Or.inr rfl)).1
def m_X12_full (a1 : Int32) (a2 : Int32) (a3 : Int32) (mm : Mm) : Option (Mm) := grd a1 161 (if (mI mm 54 (ix a1)) = a2 then ((m_X12_addsFault (3 : Int32) a3 mm).bind (fun q3 => some q3)) else (some mm))
set_option maxHeartbeats 4000000 in
set_option maxRecDepth 100000 in
theorem c_X12_full {l : Launch} {G : Gt} {S : Sk} (hS : Lay S) {a1 : Int32} {a2 : Int32} {a3 : Int32} {mm : Mm} {q : Mm} (e : m_X12_full a1 a2 a3 mm = some q) : CallOK l G M_X12_full yX12_full 1 [vr (some 44), vi a1, vi a2, vi a3] S mm (none) S q := by
  refine call_of_run rfl rfl rfl (Nat.le_of_ble_eq_true rfl) ?_
  show Run l G M_X12_full 1 0 [some (vr (some 44)), some (vi a1), some (vi a2), some (vi a3)] [] S mm (none) S q
  unfold m_X12_full at e
  refine r_aload_n dX12_full_0 rfl ?_
  refine r_getR dX12_full_1 fl_X12_38 rfl (lp_44 hS) (lq_44 hS) (lr_44_19 hS) ?_
  refine r_iload_n dX12_full_4 rfl ?_
  obtain ⟨hg1, e⟩ := grd_some e
  refine r_iald dX12_full_5 (lp_54 hS) (lk_54 hS) hg1 ?_
  refine r_iload_n dX12_full_6 rfl ?_
  refine r_icmp_ne (tgt := 16) dX12_full_7 rfl (fun h2 => ?_) (fun h2 => ?_)
  · replace e := ite_f h2 e
    cases e
    exact r_return dX12_full_16 rfl
  · replace e := ite_t h2 e
    refine r_aload_n dX12_full_10 rfl ?_
    refine r_iconst (v := 3) dX12_full_11 ci_3 ?_
    refine r_iload_n dX12_full_12 rfl ?_
    obtain ⟨q3, eq4, e⟩ := obind e
    refine r_callV (as := [_, _]) (rest := []) dX12_full_13 ml_X12_146 yV_X12_addsFault (c_X12_addsFault hS eq4) (by decide) rfl (lp_44 hS) (lq_44 hS) (Nat.le_of_ble_eq_true rfl) ?_
    cases e
    exact r_return dX12_full_16 rfl
def m_X12_folkLine (a1 : Int32) (mm : Mm) : Option (Int32 × Mm) := (m_X12_full (0 : Int32) (6 : Int32) a1 mm).bind (fun q1 => (m_X12_token q1).bind (fun q3 => (m_X12_take (0 : Int32) (0 : Int32) (9 : Int32) q3).bind (fun q5 => if q5.1 = 0 then (some ((0 : Int32), q5.2)) else ((m_X12_take (1 : Int32) (0 : Int32) (4 : Int32) q5.2).bind (fun q8 => if q8.1 = 0 then (some ((0 : Int32), q8.2)) else ((if (6 : Int32) ≤ (mI q8.2 54 (ix (0 : Int32))) then (some q8.2) else (grd ((2 : Int32) + (mI q8.2 54 (ix (0 : Int32)))) 161 (grd ((8 : Int32) + (mI q8.2 54 (ix (0 : Int32)))) 161 (some (sI (sI q8.2 54 (ix ((2 : Int32) + (mI q8.2 54 (ix (0 : Int32))))) (mI q8.2 55 (ix (0 : Int32)))) 54 (ix ((8 : Int32) + (mI q8.2 54 (ix (0 : Int32))))) (mI (sI q8.2 54 (ix ((2 : Int32) + (mI q8.2 54 (ix (0 : Int32))))) (mI q8.2 55 (ix (0 : Int32)))) 55 (ix (1 : Int32))))))) : Option (Mm)).bind (fun p11 => some ((1 : Int32), (sI p11 54 (ix (0 : Int32)) (m_X12_lesser (6 : Int32) ((mI q8.2 54 (ix (0 : Int32))) + (1 : Int32))))))))))))
set_option maxHeartbeats 4000000 in
set_option maxRecDepth 100000 in
theorem c_X12_folkLine {l : Launch} {G : Gt} {S : Sk} (hS : Lay S) {a1 : Int32} {mm : Mm} {q : Int32 × Mm} (e : m_X12_folkLine a1 mm = some q) : CallOK l G M_X12_folkLine yX12_folkLine 4 [vr (some 44), vi a1] S mm (some (vi q.1)) S q.2 := by
  refine call_of_run rfl rfl rfl (Nat.le_of_ble_eq_true rfl) ?_
  show Run l G M_X12_folkLine 4 0 [some (vr (some 44)), some (vi a1), none] [] S mm (some (vi q.1)) S q.2
  unfold m_X12_folkLine at e
  refine r_aload_n dX12_folkLine_0 rfl ?_
  refine r_iconst (v := 0) dX12_folkLine_1 ci_0 ?_
  refine r_bipush (v := 6) dX12_folkLine_2 cb_6 ?_
  refine r_iload_n dX12_folkLine_4 rfl ?_
  obtain ⟨q1, eq2, e⟩ := obind e
  refine r_callV (as := [_, _, _]) (rest := []) dX12_folkLine_5 ml_X12_164 yV_X12_full (c_X12_full hS eq2) (by decide) rfl (lp_44 hS) (lq_44 hS) (Nat.le_of_ble_eq_true rfl) ?_
  refine r_aload_n dX12_folkLine_8 rfl ?_
  obtain ⟨q3, eq4, e⟩ := obind e
  refine r_callV (as := []) (rest := []) dX12_folkLine_9 ml_X12_154 yV_X12_token (c_X12_token hS eq4) (by decide) rfl (lp_44 hS) (lq_44 hS) (Nat.le_of_ble_eq_true rfl) ?_
  refine r_aload_n dX12_folkLine_12 rfl ?_
  refine r_iconst (v := 0) dX12_folkLine_13 ci_0 ?_
  refine r_iconst (v := 0) dX12_folkLine_14 ci_0 ?_
  refine r_bipush (v := 9) dX12_folkLine_15 cb_9 ?_
  obtain ⟨q5, eq6, e⟩ := obind e
  refine r_callV (as := [_, _, _]) (rest := []) dX12_folkLine_17 ml_X12_161 yV_X12_take (c_X12_take hS eq6) (by decide) rfl (lp_44 hS) (lq_44 hS) (Nat.le_of_ble_eq_true rfl) ?_
  refine r_if_eq (tgt := 33) dX12_folkLine_20 rfl (fun h7 => ?_) (fun h7 => ?_)
  · replace e := ite_t h7 e
    refine r_iconst (v := 0) dX12_folkLine_33 ci_0 ?_
    cases e
    exact r_ireturn dX12_folkLine_34 rfl (nz_b (by first | exact Or.inl rfl | exact Or.inr rfl)).1
  · replace e := ite_f h7 e
    refine r_aload_n dX12_folkLine_23 rfl ?_
    refine r_iconst (v := 1) dX12_folkLine_24 ci_1 ?_
    refine r_iconst (v := 0) dX12_folkLine_25 ci_0 ?_
    refine r_iconst (v := 4) dX12_folkLine_26 ci_4 ?_
    obtain ⟨q8, eq9, e⟩ := obind e
    refine r_callV (as := [_, _, _]) (rest := []) dX12_folkLine_27 ml_X12_161 yV_X12_take (c_X12_take hS eq9) (by decide) rfl (lp_44 hS) (lq_44 hS) (Nat.le_of_ble_eq_true rfl) ?_
    refine r_if_ne (tgt := 35) dX12_folkLine_30 rfl (fun h10 => ?_) (fun h10 => ?_)
    · replace e := ite_f h10 e
      refine r_aload_n dX12_folkLine_35 rfl ?_
      refine r_getR dX12_folkLine_36 fl_X12_38 rfl (lp_44 hS) (lq_44 hS) (lr_44_19 hS) ?_
      refine r_iconst (v := 0) dX12_folkLine_39 ci_0 ?_
      refine r_iald dX12_folkLine_40 (lp_54 hS) (lk_54 hS) (vp_in_iff.mpr ⟨by decide, by decide⟩) ?_
      refine r_istore_n dX12_folkLine_41 (by decide) rfl ?_
      refine r_iload_n dX12_folkLine_42 rfl ?_
      refine r_bipush (v := 6) dX12_folkLine_43 cb_6 ?_
      obtain ⟨p11, ep13, e⟩ := obind e
      have J12a : Run l G M_X12_folkLine 4 77 [some (vr (some 44)), none, some (vi (mI q8.2 54 (ix (0 : Int32))))] [] S p11 (some (vi q.1)) S q.2 := by
        refine r_aload_n dX12_folkLine_77 rfl ?_
        refine r_getR dX12_folkLine_78 fl_X12_38 rfl (lp_44 hS) (lq_44 hS) (lr_44_19 hS) ?_
        refine r_iconst (v := 0) dX12_folkLine_81 ci_0 ?_
        refine r_bipush (v := 6) dX12_folkLine_82 cb_6 ?_
        refine r_iload_n dX12_folkLine_84 rfl ?_
        refine r_iconst (v := 1) dX12_folkLine_85 ci_1 ?_
        refine r_iadd dX12_folkLine_86 ?_
        refine r_callS (as := [_, _]) (rest := [_, _]) dX12_folkLine_87 ml_X12_168 yS_X12_lesser (c_X12_lesser hS) (by decide) rfl (Nat.le_of_ble_eq_true rfl) ?_
        refine r_iast dX12_folkLine_90 (lp_54 hS) (lk_54 hS) (vp_in_iff.mpr ⟨by decide, by decide⟩) ?_
        refine r_iconst (v := 1) dX12_folkLine_91 ci_1 ?_
        cases e
        exact r_ireturn dX12_folkLine_92 rfl (nz_b (by first | exact Or.inl rfl | exact Or.inr rfl)).1
      have J12 : ∀ pp : Mm, pp = p11 → Run l G M_X12_folkLine 4 77 [some (vr (some 44)), none, some (vi (mI q8.2 54 (ix (0 : Int32))))] [] S pp (some (vi q.1)) S q.2 := by
        intro pp hpp
        rw [hpp]
        exact J12a
      refine r_icmp_ge (tgt := 77) dX12_folkLine_45 rfl (fun h15 => ?_) (fun h15 => ?_)
      · replace ep13 := ite_t h15 ep13
        exact r_weak (L' := [some (vr (some 44)), none, some (vi (mI q8.2 54 (ix (0 : Int32))))]) ⟨rfl, rfl, trivial⟩ (J12 _ (Option.some.inj ep13))
      · replace ep13 := ite_f h15 ep13
        refine r_aload_n dX12_folkLine_48 rfl ?_
        refine r_getR dX12_folkLine_49 fl_X12_38 rfl (lp_44 hS) (lq_44 hS) (lr_44_19 hS) ?_
        refine r_iconst (v := 2) dX12_folkLine_52 ci_2 ?_
        refine r_iload_n dX12_folkLine_53 rfl ?_
        refine r_iadd dX12_folkLine_54 ?_
        refine r_aload_n dX12_folkLine_55 rfl ?_
        refine r_getR dX12_folkLine_56 fl_X12_41 rfl (lp_44 hS) (lq_44 hS) (lr_44_20 hS) ?_
        refine r_iconst (v := 0) dX12_folkLine_59 ci_0 ?_
        refine r_iald dX12_folkLine_60 (lp_55 hS) (lk_55 hS) (vp_in_iff.mpr ⟨by decide, by decide⟩) ?_
        obtain ⟨hg16, ep13⟩ := grd_some ep13
        refine r_iast dX12_folkLine_61 (lp_54 hS) (lk_54 hS) hg16 ?_
        refine r_aload_n dX12_folkLine_62 rfl ?_
        refine r_getR dX12_folkLine_63 fl_X12_38 rfl (lp_44 hS) (lq_44 hS) (lr_44_19 hS) ?_
        refine r_bipush (v := 8) dX12_folkLine_66 cb_8 ?_
        refine r_iload_n dX12_folkLine_68 rfl ?_
        refine r_iadd dX12_folkLine_69 ?_
        refine r_aload_n dX12_folkLine_70 rfl ?_
        refine r_getR dX12_folkLine_71 fl_X12_41 rfl (lp_44 hS) (lq_44 hS) (lr_44_20 hS) ?_
        refine r_iconst (v := 1) dX12_folkLine_74 ci_1 ?_
        refine r_iald dX12_folkLine_75 (lp_55 hS) (lk_55 hS) (vp_in_iff.mpr ⟨by decide, by decide⟩) ?_
        obtain ⟨hg17, ep13⟩ := grd_some ep13
        refine r_iast dX12_folkLine_76 (lp_54 hS) (lk_54 hS) hg17 ?_
        exact r_weak (L' := [some (vr (some 44)), none, some (vi (mI q8.2 54 (ix (0 : Int32))))]) ⟨rfl, rfl, trivial⟩ (J12 _ (Option.some.inj ep13))
    · replace e := ite_t h10 e
      refine r_iconst (v := 0) dX12_folkLine_33 ci_0 ?_
      cases e
      exact r_ireturn dX12_folkLine_34 rfl (nz_b (by first | exact Or.inl rfl | exact Or.inr rfl)).1
def m_X12_oathLine_b69 (q8 : Int32 × Mm) (z11 : Int32 × Mm) : Option ((Int32 × Mm) ⊕ (Mm)) := if (3 : Int32) ≤ z11.1 then (some (.inr z11.2)) else (if (12 : Int32) ≤ (mI (sI q8.2 44 21 (m_X12_greater (mI q8.2 44 21) (m_X12_greater (mI q8.2 55 (ix (0 : Int32))) (mI q8.2 55 (ix (1 : Int32)))))) 54 (ix (1 : Int32))) then (some (.inr z11.2)) else (grd z11.1 4 (grd (((36 : Int32) + ((3 : Int32) * (mI (sI q8.2 44 21 (m_X12_greater (mI q8.2 44 21) (m_X12_greater (mI q8.2 55 (ix (0 : Int32))) (mI q8.2 55 (ix (1 : Int32)))))) 54 (ix (1 : Int32))))) + z11.1) 161 (some (.inl (z11.1 + (1 : Int32), (sI z11.2 54 (ix (((36 : Int32) + ((3 : Int32) * (mI (sI q8.2 44 21 (m_X12_greater (mI q8.2 44 21) (m_X12_greater (mI q8.2 55 (ix (0 : Int32))) (mI q8.2 55 (ix (1 : Int32)))))) 54 (ix (1 : Int32))))) + z11.1)) (mI z11.2 55 (ix z11.1)))))))))
def m_X12_oathLine (a1 : Int32) (mm : Mm) : Option (Int32 × Mm) := (m_X12_full (1 : Int32) (12 : Int32) a1 mm).bind (fun q1 => (m_X12_token q1).bind (fun q3 => (m_X12_takeTwo (0 : Int32) (5 : Int32) q3).bind (fun q5 => if q5.1 = 0 then (some ((0 : Int32), q5.2)) else ((m_X12_take (2 : Int32) (0 : Int32) (7 : Int32) q5.2).bind (fun q8 => if q8.1 = 0 then (some ((0 : Int32), q8.2)) else ((whileF FU (m_X12_oathLine_b69 q8) ((0 : Int32), (sI q8.2 44 21 (m_X12_greater (mI q8.2 44 21) (m_X12_greater (mI q8.2 55 (ix (0 : Int32))) (mI q8.2 55 (ix (1 : Int32)))))))).bind (fun p12 => some ((1 : Int32), (sI p12 54 (ix (1 : Int32)) (m_X12_lesser (12 : Int32) ((mI (sI q8.2 44 21 (m_X12_greater (mI q8.2 44 21) (m_X12_greater (mI q8.2 55 (ix (0 : Int32))) (mI q8.2 55 (ix (1 : Int32)))))) 54 (ix (1 : Int32))) + (1 : Int32))))))))))))
set_option maxHeartbeats 4000000 in
set_option maxRecDepth 100000 in
theorem c_X12_oathLine {l : Launch} {G : Gt} {S : Sk} (hS : Lay S) {a1 : Int32} {mm : Mm} {q : Int32 × Mm} (e : m_X12_oathLine a1 mm = some q) : CallOK l G M_X12_oathLine yX12_oathLine 5 [vr (some 44), vi a1] S mm (some (vi q.1)) S q.2 := by
  refine call_of_run rfl rfl rfl (Nat.le_of_ble_eq_true rfl) ?_
  show Run l G M_X12_oathLine 5 0 [some (vr (some 44)), some (vi a1), none, none] [] S mm (some (vi q.1)) S q.2
  unfold m_X12_oathLine at e
  refine r_aload_n dX12_oathLine_0 rfl ?_
  refine r_iconst (v := 1) dX12_oathLine_1 ci_1 ?_
  refine r_bipush (v := 12) dX12_oathLine_2 cb_12 ?_
  refine r_iload_n dX12_oathLine_4 rfl ?_
  obtain ⟨q1, eq2, e⟩ := obind e
  refine r_callV (as := [_, _, _]) (rest := []) dX12_oathLine_5 ml_X12_164 yV_X12_full (c_X12_full hS eq2) (by decide) rfl (lp_44 hS) (lq_44 hS) (Nat.le_of_ble_eq_true rfl) ?_
  refine r_aload_n dX12_oathLine_8 rfl ?_
  obtain ⟨q3, eq4, e⟩ := obind e
  refine r_callV (as := []) (rest := []) dX12_oathLine_9 ml_X12_154 yV_X12_token (c_X12_token hS eq4) (by decide) rfl (lp_44 hS) (lq_44 hS) (Nat.le_of_ble_eq_true rfl) ?_
  refine r_aload_n dX12_oathLine_12 rfl ?_
  refine r_iconst (v := 0) dX12_oathLine_13 ci_0 ?_
  refine r_iconst (v := 5) dX12_oathLine_14 ci_5 ?_
  obtain ⟨q5, eq6, e⟩ := obind e
  refine r_callV (as := [_, _]) (rest := []) dX12_oathLine_15 ml_X12_172 yV_X12_takeTwo (c_X12_takeTwo hS eq6) (by decide) rfl (lp_44 hS) (lq_44 hS) (Nat.le_of_ble_eq_true rfl) ?_
  refine r_if_eq (tgt := 32) dX12_oathLine_18 rfl (fun h7 => ?_) (fun h7 => ?_)
  · replace e := ite_t h7 e
    refine r_iconst (v := 0) dX12_oathLine_32 ci_0 ?_
    cases e
    exact r_ireturn dX12_oathLine_33 rfl (nz_b (by first | exact Or.inl rfl | exact Or.inr rfl)).1
  · replace e := ite_f h7 e
    refine r_aload_n dX12_oathLine_21 rfl ?_
    refine r_iconst (v := 2) dX12_oathLine_22 ci_2 ?_
    refine r_iconst (v := 0) dX12_oathLine_23 ci_0 ?_
    refine r_bipush (v := 7) dX12_oathLine_24 cb_7 ?_
    obtain ⟨q8, eq9, e⟩ := obind e
    refine r_callV (as := [_, _, _]) (rest := []) dX12_oathLine_26 ml_X12_161 yV_X12_take (c_X12_take hS eq9) (by decide) rfl (lp_44 hS) (lq_44 hS) (Nat.le_of_ble_eq_true rfl) ?_
    refine r_if_ne (tgt := 34) dX12_oathLine_29 rfl (fun h10 => ?_) (fun h10 => ?_)
    · replace e := ite_f h10 e
      refine r_aload_n dX12_oathLine_34 rfl ?_
      refine r_aload_n dX12_oathLine_35 rfl ?_
      refine r_getI dX12_oathLine_36 fl_X12_175 rfl (lp_44 hS) (lq_44 hS) ?_
      refine r_aload_n dX12_oathLine_39 rfl ?_
      refine r_getR dX12_oathLine_40 fl_X12_41 rfl (lp_44 hS) (lq_44 hS) (lr_44_20 hS) ?_
      refine r_iconst (v := 0) dX12_oathLine_43 ci_0 ?_
      refine r_iald dX12_oathLine_44 (lp_55 hS) (lk_55 hS) (vp_in_iff.mpr ⟨by decide, by decide⟩) ?_
      refine r_aload_n dX12_oathLine_45 rfl ?_
      refine r_getR dX12_oathLine_46 fl_X12_41 rfl (lp_44 hS) (lq_44 hS) (lr_44_20 hS) ?_
      refine r_iconst (v := 1) dX12_oathLine_49 ci_1 ?_
      refine r_iald dX12_oathLine_50 (lp_55 hS) (lk_55 hS) (vp_in_iff.mpr ⟨by decide, by decide⟩) ?_
      refine r_callS (as := [_, _]) (rest := [_, _]) dX12_oathLine_51 ml_X12_178 yS_X12_greater (c_X12_greater hS) (by decide) rfl (Nat.le_of_ble_eq_true rfl) ?_
      refine r_callS (as := [_, _]) (rest := [_]) dX12_oathLine_54 ml_X12_178 yS_X12_greater (c_X12_greater hS) (by decide) rfl (Nat.le_of_ble_eq_true rfl) ?_
      refine r_putI dX12_oathLine_57 fl_X12_175 ft_12_21 (Or.inl rfl) rfl rfl rfl (lp_44 hS) (lq_44 hS) ?_
      refine r_aload_n dX12_oathLine_60 rfl ?_
      refine r_getR dX12_oathLine_61 fl_X12_38 rfl (lp_44 hS) (lq_44 hS) (lr_44_19 hS) ?_
      refine r_iconst (v := 1) dX12_oathLine_64 ci_1 ?_
      refine r_iald dX12_oathLine_65 (lp_54 hS) (lk_54 hS) (vp_in_iff.mpr ⟨by decide, by decide⟩) ?_
      refine r_istore_n dX12_oathLine_66 (by decide) rfl ?_
      refine r_iconst (v := 0) dX12_oathLine_67 ci_0 ?_
      refine r_istore_n dX12_oathLine_68 (by decide) rfl ?_
      obtain ⟨p12, eb16w, e⟩ := obind e
      have J13a : Run l G M_X12_oathLine 5 105 [some (vr (some 44)), none, some (vi (mI (sI q8.2 44 21 (m_X12_greater (mI q8.2 44 21) (m_X12_greater (mI q8.2 55 (ix (0 : Int32))) (mI q8.2 55 (ix (1 : Int32)))))) 54 (ix (1 : Int32)))), none] [] S p12 (some (vi q.1)) S q.2 := by
        refine r_aload_n dX12_oathLine_105 rfl ?_
        refine r_getR dX12_oathLine_106 fl_X12_38 rfl (lp_44 hS) (lq_44 hS) (lr_44_19 hS) ?_
        refine r_iconst (v := 1) dX12_oathLine_109 ci_1 ?_
        refine r_bipush (v := 12) dX12_oathLine_110 cb_12 ?_
        refine r_iload_n dX12_oathLine_112 rfl ?_
        refine r_iconst (v := 1) dX12_oathLine_113 ci_1 ?_
        refine r_iadd dX12_oathLine_114 ?_
        refine r_callS (as := [_, _]) (rest := [_, _]) dX12_oathLine_115 ml_X12_168 yS_X12_lesser (c_X12_lesser hS) (by decide) rfl (Nat.le_of_ble_eq_true rfl) ?_
        refine r_iast dX12_oathLine_118 (lp_54 hS) (lk_54 hS) (vp_in_iff.mpr ⟨by decide, by decide⟩) ?_
        refine r_iconst (v := 1) dX12_oathLine_119 ci_1 ?_
        cases e
        exact r_ireturn dX12_oathLine_120 rfl (nz_b (by first | exact Or.inl rfl | exact Or.inr rfl)).1
      have J13 : ∀ pp : Mm, pp = p12 → Run l G M_X12_oathLine 5 105 [some (vr (some 44)), none, some (vi (mI (sI q8.2 44 21 (m_X12_greater (mI q8.2 44 21) (m_X12_greater (mI q8.2 55 (ix (0 : Int32))) (mI q8.2 55 (ix (1 : Int32)))))) 54 (ix (1 : Int32)))), none] [] S pp (some (vi q.1)) S q.2 := by
        intro pp hpp
        rw [hpp]
        exact J13a
      have J13w : Run l G M_X12_oathLine 5 69 [some (vr (some 44)), none, some (vi (mI (sI q8.2 44 21 (m_X12_greater (mI q8.2 44 21) (m_X12_greater (mI q8.2 55 (ix (0 : Int32))) (mI q8.2 55 (ix (1 : Int32)))))) 54 (ix (1 : Int32)))), some (vi (0 : Int32))] [] S (sI q8.2 44 21 (m_X12_greater (mI q8.2 44 21) (m_X12_greater (mI q8.2 55 (ix (0 : Int32))) (mI q8.2 55 (ix (1 : Int32)))))) (some (vi q.1)) S q.2 := by
        refine while_run (s := ((0 : Int32), (sI q8.2 44 21 (m_X12_greater (mI q8.2 44 21) (m_X12_greater (mI q8.2 55 (ix (0 : Int32))) (mI q8.2 55 (ix (1 : Int32)))))))) (Gs := fun (z11 : Int32 × Mm) => Run l G M_X12_oathLine 5 69 [some (vr (some 44)), none, some (vi (mI (sI q8.2 44 21 (m_X12_greater (mI q8.2 44 21) (m_X12_greater (mI q8.2 55 (ix (0 : Int32))) (mI q8.2 55 (ix (1 : Int32)))))) 54 (ix (1 : Int32)))), some (vi z11.1)] [] S z11.2 (some (vi q.1)) S q.2) eb16w ?_
        intro z11 x14y eb16 hx15
        unfold m_X12_oathLine_b69 at eb16
        refine r_iload_n dX12_oathLine_69 rfl ?_
        refine r_iconst (v := 3) dX12_oathLine_70 ci_3 ?_
        refine r_icmp_ge (tgt := 105) dX12_oathLine_71 rfl (fun h17 => ?_) (fun h17 => ?_)
        · replace eb16 := ite_t h17 eb16
          cases eb16
          exact r_weak (L' := [some (vr (some 44)), none, some (vi (mI (sI q8.2 44 21 (m_X12_greater (mI q8.2 44 21) (m_X12_greater (mI q8.2 55 (ix (0 : Int32))) (mI q8.2 55 (ix (1 : Int32)))))) 54 (ix (1 : Int32)))), none]) ⟨rfl, rfl, trivial⟩ (J13 _ hx15)
        · replace eb16 := ite_f h17 eb16
          refine r_iload_n dX12_oathLine_74 rfl ?_
          refine r_bipush (v := 12) dX12_oathLine_75 cb_12 ?_
          refine r_icmp_ge (tgt := 105) dX12_oathLine_77 rfl (fun h18 => ?_) (fun h18 => ?_)
          · replace eb16 := ite_t h18 eb16
            cases eb16
            exact r_weak (L' := [some (vr (some 44)), none, some (vi (mI (sI q8.2 44 21 (m_X12_greater (mI q8.2 44 21) (m_X12_greater (mI q8.2 55 (ix (0 : Int32))) (mI q8.2 55 (ix (1 : Int32)))))) 54 (ix (1 : Int32)))), none]) ⟨rfl, rfl, trivial⟩ (J13 _ hx15)
          · replace eb16 := ite_f h18 eb16
            refine r_aload_n dX12_oathLine_80 rfl ?_
            refine r_getR dX12_oathLine_81 fl_X12_38 rfl (lp_44 hS) (lq_44 hS) (lr_44_19 hS) ?_
            refine r_bipush (v := 36) dX12_oathLine_84 cb_36 ?_
            refine r_iconst (v := 3) dX12_oathLine_86 ci_3 ?_
            refine r_iload_n dX12_oathLine_87 rfl ?_
            refine r_imul dX12_oathLine_88 ?_
            refine r_iadd dX12_oathLine_89 ?_
            refine r_iload_n dX12_oathLine_90 rfl ?_
            refine r_iadd dX12_oathLine_91 ?_
            refine r_aload_n dX12_oathLine_92 rfl ?_
            refine r_getR dX12_oathLine_93 fl_X12_41 rfl (lp_44 hS) (lq_44 hS) (lr_44_20 hS) ?_
            refine r_iload_n dX12_oathLine_96 rfl ?_
            obtain ⟨hg19, eb16⟩ := grd_some eb16
            refine r_iald dX12_oathLine_97 (lp_55 hS) (lk_55 hS) hg19 ?_
            obtain ⟨hg20, eb16⟩ := grd_some eb16
            refine r_iast dX12_oathLine_98 (lp_54 hS) (lk_54 hS) hg20 ?_
            refine r_iinc (v := _ + (1 : Int32)) dX12_oathLine_99 rfl (congrArg (_ + ·) ci_1) (by decide) rfl ?_
            refine r_goto (tgt := 69) dX12_oathLine_102 rfl ?_
            cases eb16
            exact r_weak (L' := [some (vr (some 44)), none, some (vi (mI (sI q8.2 44 21 (m_X12_greater (mI q8.2 44 21) (m_X12_greater (mI q8.2 55 (ix (0 : Int32))) (mI q8.2 55 (ix (1 : Int32)))))) 54 (ix (1 : Int32)))), some (vi (z11.1 + (1 : Int32)))]) ⟨rfl, rfl, rfl, trivial⟩ hx15
      exact r_weak (L' := [some (vr (some 44)), none, some (vi (mI (sI q8.2 44 21 (m_X12_greater (mI q8.2 44 21) (m_X12_greater (mI q8.2 55 (ix (0 : Int32))) (mI q8.2 55 (ix (1 : Int32)))))) 54 (ix (1 : Int32)))), some (vi (0 : Int32))]) ⟨rfl, rfl, rfl, trivial⟩ J13w
    · replace e := ite_t h10 e
      refine r_iconst (v := 0) dX12_oathLine_32 ci_0 ?_
      cases e
      exact r_ireturn dX12_oathLine_33 rfl (nz_b (by first | exact Or.inl rfl | exact Or.inr rfl)).1
def m_X12_countyLine (a1 : Int64) (a3 : Int32) (mm : Mm) : Option (Int32 × Mm) := if (lg_cmp a1 (1718578283 : Int64)) = 0 then ((m_X12_folkLine a3 mm).bind (fun q47 => gbz q47.1 (some (q47.1, q47.2)))) else (if (lg_cmp a1 (1868657768 : Int64)) = 0 then ((m_X12_oathLine a3 mm).bind (fun q45 => gbz q45.1 (some (q45.1, q45.2)))) else (bS (if (lg_cmp a1 (1751216740 : Int64)) = 0 then (some (.inl ())) else (if (lg_cmp a1 (427020088168 : Int64)) = 0 then (some (.inl ())) else (if (lg_cmp a1 (465625113971 : Int64)) = 0 then (some (.inl ())) else (gbz ((m_X12_fails mm).1) (some (.inr ((m_X12_fails mm).1, ((m_X12_fails mm).2))))))) : Option ((Unit) ⊕ (Int32 × Mm))) (fun p3 => (m_X12_token mm).bind (fun q10 => if (lg_cmp a1 (1751216740 : Int64)) = 0 then ((m_X12_take (0 : Int32) (0 : Int32) (7 : Int32) q10).bind (fun q37 => if q37.1 = 0 then (some ((0 : Int32), q37.2)) else ((m_X12_take (1 : Int32) (0 : Int32) (9 : Int32) q37.2).bind (fun q40 => if q40.1 = 0 then (some ((0 : Int32), q40.2)) else (if (mI q40.2 44 22) = 0 then (some ((1 : Int32), q40.2)) else (grd ((20 : Int32) + (mI q40.2 55 (ix (0 : Int32)))) 161 (some ((1 : Int32), (sI q40.2 54 (ix ((20 : Int32) + (mI q40.2 55 (ix (0 : Int32))))) (mI q40.2 55 (ix (1 : Int32)))))))))))) else ((m_X12_takeTwo (0 : Int32) (if (lg_cmp a1 (427020088168 : Int64)) = 0 then (7 : Int32) else (5 : Int32)) q10).bind (fun q16 => if q16.1 = 0 then (some ((0 : Int32), q16.2)) else (bS (if (mI (if (lg_cmp a1 (465625113971 : Int64)) = 0 then (sI q16.2 44 21 (m_X12_greater (mI q16.2 44 21) (m_X12_greater (mI q16.2 55 (ix (0 : Int32))) (mI q16.2 55 (ix (1 : Int32)))))) else q16.2) 44 22) = 0 then (some (.inl ())) else (if (lg_cmp a1 (465625113971 : Int64)) = 0 then (grd ((14 : Int32) + (mI (if (lg_cmp a1 (465625113971 : Int64)) = 0 then (sI q16.2 44 21 (m_X12_greater (mI q16.2 44 21) (m_X12_greater (mI q16.2 55 (ix (0 : Int32))) (mI q16.2 55 (ix (1 : Int32)))))) else q16.2) 55 (ix (0 : Int32)))) 161 (grd ((14 : Int32) + (mI (if (lg_cmp a1 (465625113971 : Int64)) = 0 then (sI q16.2 44 21 (m_X12_greater (mI q16.2 44 21) (m_X12_greater (mI q16.2 55 (ix (0 : Int32))) (mI q16.2 55 (ix (1 : Int32)))))) else q16.2) 55 (ix (0 : Int32)))) 161 (some (.inr ((1 : Int32), (sI (if (lg_cmp a1 (465625113971 : Int64)) = 0 then (sI q16.2 44 21 (m_X12_greater (mI q16.2 44 21) (m_X12_greater (mI q16.2 55 (ix (0 : Int32))) (mI q16.2 55 (ix (1 : Int32)))))) else q16.2) 54 (ix ((14 : Int32) + (mI (if (lg_cmp a1 (465625113971 : Int64)) = 0 then (sI q16.2 44 21 (m_X12_greater (mI q16.2 44 21) (m_X12_greater (mI q16.2 55 (ix (0 : Int32))) (mI q16.2 55 (ix (1 : Int32)))))) else q16.2) 55 (ix (0 : Int32))))) ((mI (if (lg_cmp a1 (465625113971 : Int64)) = 0 then (sI q16.2 44 21 (m_X12_greater (mI q16.2 44 21) (m_X12_greater (mI q16.2 55 (ix (0 : Int32))) (mI q16.2 55 (ix (1 : Int32)))))) else q16.2) 54 (ix ((14 : Int32) + (mI (if (lg_cmp a1 (465625113971 : Int64)) = 0 then (sI q16.2 44 21 (m_X12_greater (mI q16.2 44 21) (m_X12_greater (mI q16.2 55 (ix (0 : Int32))) (mI q16.2 55 (ix (1 : Int32)))))) else q16.2) 55 (ix (0 : Int32)))))) ||| (xshl (1 : Int32) (mI (if (lg_cmp a1 (465625113971 : Int64)) = 0 then (sI q16.2 44 21 (m_X12_greater (mI q16.2 44 21) (m_X12_greater (mI q16.2 55 (ix (0 : Int32))) (mI q16.2 55 (ix (1 : Int32)))))) else q16.2) 55 (ix (1 : Int32))))))))))) else (some (.inl ()))) : Option ((Unit) ⊕ (Int32 × Mm))) (fun p22 => if (mI (if (lg_cmp a1 (465625113971 : Int64)) = 0 then (sI q16.2 44 21 (m_X12_greater (mI q16.2 44 21) (m_X12_greater (mI q16.2 55 (ix (0 : Int32))) (mI q16.2 55 (ix (1 : Int32)))))) else q16.2) 44 22) = 0 then (some ((1 : Int32), (if (lg_cmp a1 (465625113971 : Int64)) = 0 then (sI q16.2 44 21 (m_X12_greater (mI q16.2 44 21) (m_X12_greater (mI q16.2 55 (ix (0 : Int32))) (mI q16.2 55 (ix (1 : Int32)))))) else q16.2))) else (grd ((28 : Int32) + (mI (if (lg_cmp a1 (465625113971 : Int64)) = 0 then (sI q16.2 44 21 (m_X12_greater (mI q16.2 44 21) (m_X12_greater (mI q16.2 55 (ix (0 : Int32))) (mI q16.2 55 (ix (1 : Int32)))))) else q16.2) 55 (ix (0 : Int32)))) 161 (grd ((28 : Int32) + (mI (if (lg_cmp a1 (465625113971 : Int64)) = 0 then (sI q16.2 44 21 (m_X12_greater (mI q16.2 44 21) (m_X12_greater (mI q16.2 55 (ix (0 : Int32))) (mI q16.2 55 (ix (1 : Int32)))))) else q16.2) 55 (ix (0 : Int32)))) 161 (grd ((28 : Int32) + (mI (sI (if (lg_cmp a1 (465625113971 : Int64)) = 0 then (sI q16.2 44 21 (m_X12_greater (mI q16.2 44 21) (m_X12_greater (mI q16.2 55 (ix (0 : Int32))) (mI q16.2 55 (ix (1 : Int32)))))) else q16.2) 54 (ix ((28 : Int32) + (mI (if (lg_cmp a1 (465625113971 : Int64)) = 0 then (sI q16.2 44 21 (m_X12_greater (mI q16.2 44 21) (m_X12_greater (mI q16.2 55 (ix (0 : Int32))) (mI q16.2 55 (ix (1 : Int32)))))) else q16.2) 55 (ix (0 : Int32))))) ((mI (if (lg_cmp a1 (465625113971 : Int64)) = 0 then (sI q16.2 44 21 (m_X12_greater (mI q16.2 44 21) (m_X12_greater (mI q16.2 55 (ix (0 : Int32))) (mI q16.2 55 (ix (1 : Int32)))))) else q16.2) 54 (ix ((28 : Int32) + (mI (if (lg_cmp a1 (465625113971 : Int64)) = 0 then (sI q16.2 44 21 (m_X12_greater (mI q16.2 44 21) (m_X12_greater (mI q16.2 55 (ix (0 : Int32))) (mI q16.2 55 (ix (1 : Int32)))))) else q16.2) 55 (ix (0 : Int32)))))) ||| (xshl (1 : Int32) (mI (if (lg_cmp a1 (465625113971 : Int64)) = 0 then (sI q16.2 44 21 (m_X12_greater (mI q16.2 44 21) (m_X12_greater (mI q16.2 55 (ix (0 : Int32))) (mI q16.2 55 (ix (1 : Int32)))))) else q16.2) 55 (ix (1 : Int32)))))) 55 (ix (1 : Int32)))) 161 (grd ((28 : Int32) + (mI (sI (if (lg_cmp a1 (465625113971 : Int64)) = 0 then (sI q16.2 44 21 (m_X12_greater (mI q16.2 44 21) (m_X12_greater (mI q16.2 55 (ix (0 : Int32))) (mI q16.2 55 (ix (1 : Int32)))))) else q16.2) 54 (ix ((28 : Int32) + (mI (if (lg_cmp a1 (465625113971 : Int64)) = 0 then (sI q16.2 44 21 (m_X12_greater (mI q16.2 44 21) (m_X12_greater (mI q16.2 55 (ix (0 : Int32))) (mI q16.2 55 (ix (1 : Int32)))))) else q16.2) 55 (ix (0 : Int32))))) ((mI (if (lg_cmp a1 (465625113971 : Int64)) = 0 then (sI q16.2 44 21 (m_X12_greater (mI q16.2 44 21) (m_X12_greater (mI q16.2 55 (ix (0 : Int32))) (mI q16.2 55 (ix (1 : Int32)))))) else q16.2) 54 (ix ((28 : Int32) + (mI (if (lg_cmp a1 (465625113971 : Int64)) = 0 then (sI q16.2 44 21 (m_X12_greater (mI q16.2 44 21) (m_X12_greater (mI q16.2 55 (ix (0 : Int32))) (mI q16.2 55 (ix (1 : Int32)))))) else q16.2) 55 (ix (0 : Int32)))))) ||| (xshl (1 : Int32) (mI (if (lg_cmp a1 (465625113971 : Int64)) = 0 then (sI q16.2 44 21 (m_X12_greater (mI q16.2 44 21) (m_X12_greater (mI q16.2 55 (ix (0 : Int32))) (mI q16.2 55 (ix (1 : Int32)))))) else q16.2) 55 (ix (1 : Int32)))))) 55 (ix (1 : Int32)))) 161 (some ((1 : Int32), (sI (sI (if (lg_cmp a1 (465625113971 : Int64)) = 0 then (sI q16.2 44 21 (m_X12_greater (mI q16.2 44 21) (m_X12_greater (mI q16.2 55 (ix (0 : Int32))) (mI q16.2 55 (ix (1 : Int32)))))) else q16.2) 54 (ix ((28 : Int32) + (mI (if (lg_cmp a1 (465625113971 : Int64)) = 0 then (sI q16.2 44 21 (m_X12_greater (mI q16.2 44 21) (m_X12_greater (mI q16.2 55 (ix (0 : Int32))) (mI q16.2 55 (ix (1 : Int32)))))) else q16.2) 55 (ix (0 : Int32))))) ((mI (if (lg_cmp a1 (465625113971 : Int64)) = 0 then (sI q16.2 44 21 (m_X12_greater (mI q16.2 44 21) (m_X12_greater (mI q16.2 55 (ix (0 : Int32))) (mI q16.2 55 (ix (1 : Int32)))))) else q16.2) 54 (ix ((28 : Int32) + (mI (if (lg_cmp a1 (465625113971 : Int64)) = 0 then (sI q16.2 44 21 (m_X12_greater (mI q16.2 44 21) (m_X12_greater (mI q16.2 55 (ix (0 : Int32))) (mI q16.2 55 (ix (1 : Int32)))))) else q16.2) 55 (ix (0 : Int32)))))) ||| (xshl (1 : Int32) (mI (if (lg_cmp a1 (465625113971 : Int64)) = 0 then (sI q16.2 44 21 (m_X12_greater (mI q16.2 44 21) (m_X12_greater (mI q16.2 55 (ix (0 : Int32))) (mI q16.2 55 (ix (1 : Int32)))))) else q16.2) 55 (ix (1 : Int32)))))) 54 (ix ((28 : Int32) + (mI (sI (if (lg_cmp a1 (465625113971 : Int64)) = 0 then (sI q16.2 44 21 (m_X12_greater (mI q16.2 44 21) (m_X12_greater (mI q16.2 55 (ix (0 : Int32))) (mI q16.2 55 (ix (1 : Int32)))))) else q16.2) 54 (ix ((28 : Int32) + (mI (if (lg_cmp a1 (465625113971 : Int64)) = 0 then (sI q16.2 44 21 (m_X12_greater (mI q16.2 44 21) (m_X12_greater (mI q16.2 55 (ix (0 : Int32))) (mI q16.2 55 (ix (1 : Int32)))))) else q16.2) 55 (ix (0 : Int32))))) ((mI (if (lg_cmp a1 (465625113971 : Int64)) = 0 then (sI q16.2 44 21 (m_X12_greater (mI q16.2 44 21) (m_X12_greater (mI q16.2 55 (ix (0 : Int32))) (mI q16.2 55 (ix (1 : Int32)))))) else q16.2) 54 (ix ((28 : Int32) + (mI (if (lg_cmp a1 (465625113971 : Int64)) = 0 then (sI q16.2 44 21 (m_X12_greater (mI q16.2 44 21) (m_X12_greater (mI q16.2 55 (ix (0 : Int32))) (mI q16.2 55 (ix (1 : Int32)))))) else q16.2) 55 (ix (0 : Int32)))))) ||| (xshl (1 : Int32) (mI (if (lg_cmp a1 (465625113971 : Int64)) = 0 then (sI q16.2 44 21 (m_X12_greater (mI q16.2 44 21) (m_X12_greater (mI q16.2 55 (ix (0 : Int32))) (mI q16.2 55 (ix (1 : Int32)))))) else q16.2) 55 (ix (1 : Int32)))))) 55 (ix (1 : Int32))))) ((mI (sI (if (lg_cmp a1 (465625113971 : Int64)) = 0 then (sI q16.2 44 21 (m_X12_greater (mI q16.2 44 21) (m_X12_greater (mI q16.2 55 (ix (0 : Int32))) (mI q16.2 55 (ix (1 : Int32)))))) else q16.2) 54 (ix ((28 : Int32) + (mI (if (lg_cmp a1 (465625113971 : Int64)) = 0 then (sI q16.2 44 21 (m_X12_greater (mI q16.2 44 21) (m_X12_greater (mI q16.2 55 (ix (0 : Int32))) (mI q16.2 55 (ix (1 : Int32)))))) else q16.2) 55 (ix (0 : Int32))))) ((mI (if (lg_cmp a1 (465625113971 : Int64)) = 0 then (sI q16.2 44 21 (m_X12_greater (mI q16.2 44 21) (m_X12_greater (mI q16.2 55 (ix (0 : Int32))) (mI q16.2 55 (ix (1 : Int32)))))) else q16.2) 54 (ix ((28 : Int32) + (mI (if (lg_cmp a1 (465625113971 : Int64)) = 0 then (sI q16.2 44 21 (m_X12_greater (mI q16.2 44 21) (m_X12_greater (mI q16.2 55 (ix (0 : Int32))) (mI q16.2 55 (ix (1 : Int32)))))) else q16.2) 55 (ix (0 : Int32)))))) ||| (xshl (1 : Int32) (mI (if (lg_cmp a1 (465625113971 : Int64)) = 0 then (sI q16.2 44 21 (m_X12_greater (mI q16.2 44 21) (m_X12_greater (mI q16.2 55 (ix (0 : Int32))) (mI q16.2 55 (ix (1 : Int32)))))) else q16.2) 55 (ix (1 : Int32)))))) 54 (ix ((28 : Int32) + (mI (sI (if (lg_cmp a1 (465625113971 : Int64)) = 0 then (sI q16.2 44 21 (m_X12_greater (mI q16.2 44 21) (m_X12_greater (mI q16.2 55 (ix (0 : Int32))) (mI q16.2 55 (ix (1 : Int32)))))) else q16.2) 54 (ix ((28 : Int32) + (mI (if (lg_cmp a1 (465625113971 : Int64)) = 0 then (sI q16.2 44 21 (m_X12_greater (mI q16.2 44 21) (m_X12_greater (mI q16.2 55 (ix (0 : Int32))) (mI q16.2 55 (ix (1 : Int32)))))) else q16.2) 55 (ix (0 : Int32))))) ((mI (if (lg_cmp a1 (465625113971 : Int64)) = 0 then (sI q16.2 44 21 (m_X12_greater (mI q16.2 44 21) (m_X12_greater (mI q16.2 55 (ix (0 : Int32))) (mI q16.2 55 (ix (1 : Int32)))))) else q16.2) 54 (ix ((28 : Int32) + (mI (if (lg_cmp a1 (465625113971 : Int64)) = 0 then (sI q16.2 44 21 (m_X12_greater (mI q16.2 44 21) (m_X12_greater (mI q16.2 55 (ix (0 : Int32))) (mI q16.2 55 (ix (1 : Int32)))))) else q16.2) 55 (ix (0 : Int32)))))) ||| (xshl (1 : Int32) (mI (if (lg_cmp a1 (465625113971 : Int64)) = 0 then (sI q16.2 44 21 (m_X12_greater (mI q16.2 44 21) (m_X12_greater (mI q16.2 55 (ix (0 : Int32))) (mI q16.2 55 (ix (1 : Int32)))))) else q16.2) 55 (ix (1 : Int32)))))) 55 (ix (1 : Int32)))))) ||| (xshl (1 : Int32) (mI (sI (if (lg_cmp a1 (465625113971 : Int64)) = 0 then (sI q16.2 44 21 (m_X12_greater (mI q16.2 44 21) (m_X12_greater (mI q16.2 55 (ix (0 : Int32))) (mI q16.2 55 (ix (1 : Int32)))))) else q16.2) 54 (ix ((28 : Int32) + (mI (if (lg_cmp a1 (465625113971 : Int64)) = 0 then (sI q16.2 44 21 (m_X12_greater (mI q16.2 44 21) (m_X12_greater (mI q16.2 55 (ix (0 : Int32))) (mI q16.2 55 (ix (1 : Int32)))))) else q16.2) 55 (ix (0 : Int32))))) ((mI (if (lg_cmp a1 (465625113971 : Int64)) = 0 then (sI q16.2 44 21 (m_X12_greater (mI q16.2 44 21) (m_X12_greater (mI q16.2 55 (ix (0 : Int32))) (mI q16.2 55 (ix (1 : Int32)))))) else q16.2) 54 (ix ((28 : Int32) + (mI (if (lg_cmp a1 (465625113971 : Int64)) = 0 then (sI q16.2 44 21 (m_X12_greater (mI q16.2 44 21) (m_X12_greater (mI q16.2 55 (ix (0 : Int32))) (mI q16.2 55 (ix (1 : Int32)))))) else q16.2) 55 (ix (0 : Int32)))))) ||| (xshl (1 : Int32) (mI (if (lg_cmp a1 (465625113971 : Int64)) = 0 then (sI q16.2 44 21 (m_X12_greater (mI q16.2 44 21) (m_X12_greater (mI q16.2 55 (ix (0 : Int32))) (mI q16.2 55 (ix (1 : Int32)))))) else q16.2) 55 (ix (1 : Int32)))))) 55 (ix (0 : Int32))))))))))))))))))))
set_option maxHeartbeats 4000000 in
set_option maxRecDepth 100000 in
theorem c_X12_countyLine {l : Launch} {G : Gt} {S : Sk} (hS : Lay S) {a1 : Int64} {a3 : Int32} {mm : Mm} {q : Int32 × Mm} (e : m_X12_countyLine a1 a3 mm = some q) : CallOK l G M_X12_countyLine yX12_countyLine 6 [vr (some 44), vl a1, vi a3] S mm (some (vi q.1)) S q.2 := by
  refine call_of_run rfl rfl rfl (Nat.le_of_ble_eq_true rfl) ?_
  show Run l G M_X12_countyLine 6 0 [some (vr (some 44)), some (vl a1), none, some (vi a3)] [] S mm (some (vi q.1)) S q.2
  unfold m_X12_countyLine at e
  refine r_lload_n dX12_countyLine_0 rfl ?_
  refine r_ldc2 dX12_countyLine_1 ct_X12_181 ?_
  refine r_lcmp dX12_countyLine_4 ?_
  refine r_if_ne (tgt := 14) dX12_countyLine_5 rfl (fun h1 => ?_) (fun h1 => ?_)
  · replace e := ite_f h1 e
    refine r_lload_n dX12_countyLine_14 rfl ?_
    refine r_ldc2 dX12_countyLine_15 ct_X12_187 ?_
    refine r_lcmp dX12_countyLine_18 ?_
    refine r_if_ne (tgt := 28) dX12_countyLine_19 rfl (fun h2 => ?_) (fun h2 => ?_)
    · replace e := ite_f h2 e
      refine r_lload_n dX12_countyLine_28 rfl ?_
      refine r_ldc2 dX12_countyLine_29 ct_X12_192 ?_
      refine r_lcmp dX12_countyLine_32 ?_
      obtain ⟨x6, ep5, elx6, erx6⟩ := bS_some e
      have J4 : ∀ p3 : Unit, x6 = .inl p3 → Run l G M_X12_countyLine 6 57 [some (vr (some 44)), some (vl a1), none, none] [] S mm (some (vi q.1)) S q.2 := by
        intro p3 hp3
        replace e := elx6 p3 hp3
        refine r_aload_n dX12_countyLine_57 rfl ?_
        obtain ⟨q10, eq11, e⟩ := obind e
        refine r_callV (as := []) (rest := []) dX12_countyLine_58 ml_X12_154 yV_X12_token (c_X12_token hS eq11) (by decide) rfl (lp_44 hS) (lq_44 hS) (Nat.le_of_ble_eq_true rfl) ?_
        refine r_lload_n dX12_countyLine_61 rfl ?_
        refine r_ldc2 dX12_countyLine_62 ct_X12_192 ?_
        refine r_lcmp dX12_countyLine_65 ?_
        refine r_if_ne (tgt := 122) dX12_countyLine_66 rfl (fun h12 => ?_) (fun h12 => ?_)
        · replace e := ite_f h12 e
          refine r_aload_n dX12_countyLine_122 rfl ?_
          refine r_iconst (v := 0) dX12_countyLine_123 ci_0 ?_
          refine r_lload_n dX12_countyLine_124 rfl ?_
          refine r_ldc2 dX12_countyLine_125 ct_X12_194 ?_
          refine r_lcmp dX12_countyLine_128 ?_
          have J15 : ∀ (w14 : Int32), w14 = (if (lg_cmp a1 (427020088168 : Int64)) = 0 then (7 : Int32) else (5 : Int32)) → Run l G M_X12_countyLine 6 138 [some (vr (some 44)), some (vl a1), none, none] [vi w14, vi (0 : Int32), vr (some 44)] S q10 (some (vi q.1)) S q.2 := by
            intro w14 hw36
            subst hw36
            obtain ⟨q16, eq17, e⟩ := obind e
            refine r_callV (as := [_, _]) (rest := []) dX12_countyLine_138 ml_X12_172 yV_X12_takeTwo (c_X12_takeTwo hS eq17) (by decide) rfl (lp_44 hS) (lq_44 hS) (Nat.le_of_ble_eq_true rfl) ?_
            refine r_if_ne (tgt := 146) dX12_countyLine_141 rfl (fun h18 => ?_) (fun h18 => ?_)
            · replace e := ite_f h18 e
              refine r_lload_n dX12_countyLine_146 rfl ?_
              refine r_ldc2 dX12_countyLine_147 ct_X12_196 ?_
              refine r_lcmp dX12_countyLine_150 ?_
              have J21 : ∀ (w20 : Mm), w20 = (if (lg_cmp a1 (465625113971 : Int64)) = 0 then (sI q16.2 44 21 (m_X12_greater (mI q16.2 44 21) (m_X12_greater (mI q16.2 55 (ix (0 : Int32))) (mI q16.2 55 (ix (1 : Int32)))))) else q16.2) → Run l G M_X12_countyLine 6 180 [some (vr (some 44)), some (vl a1), none, none] [] S w20 (some (vi q.1)) S q.2 := by
                intro w20 hw35
                subst hw35
                refine r_aload_n dX12_countyLine_180 rfl ?_
                refine r_getI dX12_countyLine_181 fl_X12_150 rfl (lp_44 hS) (lq_44 hS) ?_
                obtain ⟨x25, ep24, elx25, erx25⟩ := bS_some e
                have J23 : ∀ p22 : Unit, x25 = .inl p22 → Run l G M_X12_countyLine 6 223 [some (vr (some 44)), none, none, none] [] S (if (lg_cmp a1 (465625113971 : Int64)) = 0 then (sI q16.2 44 21 (m_X12_greater (mI q16.2 44 21) (m_X12_greater (mI q16.2 55 (ix (0 : Int32))) (mI q16.2 55 (ix (1 : Int32)))))) else q16.2) (some (vi q.1)) S q.2 := by
                  intro p22 hp22
                  replace e := elx25 p22 hp22
                  refine r_aload_n dX12_countyLine_223 rfl ?_
                  refine r_getI dX12_countyLine_224 fl_X12_150 rfl (lp_44 hS) (lq_44 hS) ?_
                  refine r_if_eq (tgt := 280) dX12_countyLine_227 rfl (fun h30 => ?_) (fun h30 => ?_)
                  · replace e := ite_t h30 e
                    refine r_iconst (v := 1) dX12_countyLine_280 ci_1 ?_
                    cases e
                    exact r_ireturn dX12_countyLine_281 rfl (nz_b (by first | exact Or.inl rfl | exact Or.inr rfl)).1
                  · replace e := ite_f h30 e
                    refine r_aload_n dX12_countyLine_230 rfl ?_
                    refine r_getR dX12_countyLine_231 fl_X12_38 rfl (lp_44 hS) (lq_44 hS) (lr_44_19 hS) ?_
                    refine r_bipush (v := 28) dX12_countyLine_234 cb_28 ?_
                    refine r_aload_n dX12_countyLine_236 rfl ?_
                    refine r_getR dX12_countyLine_237 fl_X12_41 rfl (lp_44 hS) (lq_44 hS) (lr_44_20 hS) ?_
                    refine r_iconst (v := 0) dX12_countyLine_240 ci_0 ?_
                    refine r_iald dX12_countyLine_241 (lp_55 hS) (lk_55 hS) (vp_in_iff.mpr ⟨by decide, by decide⟩) ?_
                    refine r_iadd dX12_countyLine_242 ?_
                    refine r_dup2 dX12_countyLine_243 rfl rfl ?_
                    obtain ⟨hg31, e⟩ := grd_some e
                    refine r_iald dX12_countyLine_244 (lp_54 hS) (lk_54 hS) hg31 ?_
                    refine r_iconst (v := 1) dX12_countyLine_245 ci_1 ?_
                    refine r_aload_n dX12_countyLine_246 rfl ?_
                    refine r_getR dX12_countyLine_247 fl_X12_41 rfl (lp_44 hS) (lq_44 hS) (lr_44_20 hS) ?_
                    refine r_iconst (v := 1) dX12_countyLine_250 ci_1 ?_
                    refine r_iald dX12_countyLine_251 (lp_55 hS) (lk_55 hS) (vp_in_iff.mpr ⟨by decide, by decide⟩) ?_
                    refine r_ishl dX12_countyLine_252 ?_
                    refine r_ior dX12_countyLine_253 ?_
                    obtain ⟨hg32, e⟩ := grd_some e
                    refine r_iast dX12_countyLine_254 (lp_54 hS) (lk_54 hS) hg32 ?_
                    refine r_aload_n dX12_countyLine_255 rfl ?_
                    refine r_getR dX12_countyLine_256 fl_X12_38 rfl (lp_44 hS) (lq_44 hS) (lr_44_19 hS) ?_
                    refine r_bipush (v := 28) dX12_countyLine_259 cb_28 ?_
                    refine r_aload_n dX12_countyLine_261 rfl ?_
                    refine r_getR dX12_countyLine_262 fl_X12_41 rfl (lp_44 hS) (lq_44 hS) (lr_44_20 hS) ?_
                    refine r_iconst (v := 1) dX12_countyLine_265 ci_1 ?_
                    refine r_iald dX12_countyLine_266 (lp_55 hS) (lk_55 hS) (vp_in_iff.mpr ⟨by decide, by decide⟩) ?_
                    refine r_iadd dX12_countyLine_267 ?_
                    refine r_dup2 dX12_countyLine_268 rfl rfl ?_
                    obtain ⟨hg33, e⟩ := grd_some e
                    refine r_iald dX12_countyLine_269 (lp_54 hS) (lk_54 hS) hg33 ?_
                    refine r_iconst (v := 1) dX12_countyLine_270 ci_1 ?_
                    refine r_aload_n dX12_countyLine_271 rfl ?_
                    refine r_getR dX12_countyLine_272 fl_X12_41 rfl (lp_44 hS) (lq_44 hS) (lr_44_20 hS) ?_
                    refine r_iconst (v := 0) dX12_countyLine_275 ci_0 ?_
                    refine r_iald dX12_countyLine_276 (lp_55 hS) (lk_55 hS) (vp_in_iff.mpr ⟨by decide, by decide⟩) ?_
                    refine r_ishl dX12_countyLine_277 ?_
                    refine r_ior dX12_countyLine_278 ?_
                    obtain ⟨hg34, e⟩ := grd_some e
                    refine r_iast dX12_countyLine_279 (lp_54 hS) (lk_54 hS) hg34 ?_
                    refine r_iconst (v := 1) dX12_countyLine_280 ci_1 ?_
                    cases e
                    exact r_ireturn dX12_countyLine_281 rfl (nz_b (by first | exact Or.inl rfl | exact Or.inr rfl)).1
                refine r_if_eq (tgt := 223) dX12_countyLine_184 rfl (fun h26 => ?_) (fun h26 => ?_)
                · replace ep24 := ite_t h26 ep24
                  cases ep24
                  exact r_weak (L' := [some (vr (some 44)), none, none, none]) ⟨rfl, trivial⟩ (J23 _ rfl)
                · replace ep24 := ite_f h26 ep24
                  refine r_lload_n dX12_countyLine_187 rfl ?_
                  refine r_ldc2 dX12_countyLine_188 ct_X12_196 ?_
                  refine r_lcmp dX12_countyLine_191 ?_
                  refine r_if_ne (tgt := 223) dX12_countyLine_192 rfl (fun h27 => ?_) (fun h27 => ?_)
                  · replace ep24 := ite_f h27 ep24
                    cases ep24
                    exact r_weak (L' := [some (vr (some 44)), none, none, none]) ⟨rfl, trivial⟩ (J23 _ rfl)
                  · replace ep24 := ite_t h27 ep24
                    refine r_aload_n dX12_countyLine_195 rfl ?_
                    refine r_getR dX12_countyLine_196 fl_X12_38 rfl (lp_44 hS) (lq_44 hS) (lr_44_19 hS) ?_
                    refine r_bipush (v := 14) dX12_countyLine_199 cb_14 ?_
                    refine r_aload_n dX12_countyLine_201 rfl ?_
                    refine r_getR dX12_countyLine_202 fl_X12_41 rfl (lp_44 hS) (lq_44 hS) (lr_44_20 hS) ?_
                    refine r_iconst (v := 0) dX12_countyLine_205 ci_0 ?_
                    refine r_iald dX12_countyLine_206 (lp_55 hS) (lk_55 hS) (vp_in_iff.mpr ⟨by decide, by decide⟩) ?_
                    refine r_iadd dX12_countyLine_207 ?_
                    refine r_dup2 dX12_countyLine_208 rfl rfl ?_
                    obtain ⟨hg28, ep24⟩ := grd_some ep24
                    refine r_iald dX12_countyLine_209 (lp_54 hS) (lk_54 hS) hg28 ?_
                    refine r_iconst (v := 1) dX12_countyLine_210 ci_1 ?_
                    refine r_aload_n dX12_countyLine_211 rfl ?_
                    refine r_getR dX12_countyLine_212 fl_X12_41 rfl (lp_44 hS) (lq_44 hS) (lr_44_20 hS) ?_
                    refine r_iconst (v := 1) dX12_countyLine_215 ci_1 ?_
                    refine r_iald dX12_countyLine_216 (lp_55 hS) (lk_55 hS) (vp_in_iff.mpr ⟨by decide, by decide⟩) ?_
                    refine r_ishl dX12_countyLine_217 ?_
                    refine r_ior dX12_countyLine_218 ?_
                    obtain ⟨hg29, ep24⟩ := grd_some ep24
                    refine r_iast dX12_countyLine_219 (lp_54 hS) (lk_54 hS) hg29 ?_
                    refine r_goto (tgt := 280) dX12_countyLine_220 rfl ?_
                    refine r_iconst (v := 1) dX12_countyLine_280 ci_1 ?_
                    cases ep24
                    have e := congrArg some (erx25 _ rfl)
                    cases e
                    exact r_ireturn dX12_countyLine_281 rfl (nz_b (by first | exact Or.inl rfl | exact Or.inr rfl)).1
              refine r_if_ne (tgt := 180) dX12_countyLine_151 rfl (fun h19 => ?_) (fun h19 => ?_)
              · exact r_weak (L' := [some (vr (some 44)), some (vl a1), none, none]) ⟨rfl, rfl, trivial⟩ (J21 _ (Eq.symm (if_neg h19)))
              · refine r_aload_n dX12_countyLine_154 rfl ?_
                refine r_aload_n dX12_countyLine_155 rfl ?_
                refine r_getI dX12_countyLine_156 fl_X12_175 rfl (lp_44 hS) (lq_44 hS) ?_
                refine r_aload_n dX12_countyLine_159 rfl ?_
                refine r_getR dX12_countyLine_160 fl_X12_41 rfl (lp_44 hS) (lq_44 hS) (lr_44_20 hS) ?_
                refine r_iconst (v := 0) dX12_countyLine_163 ci_0 ?_
                refine r_iald dX12_countyLine_164 (lp_55 hS) (lk_55 hS) (vp_in_iff.mpr ⟨by decide, by decide⟩) ?_
                refine r_aload_n dX12_countyLine_165 rfl ?_
                refine r_getR dX12_countyLine_166 fl_X12_41 rfl (lp_44 hS) (lq_44 hS) (lr_44_20 hS) ?_
                refine r_iconst (v := 1) dX12_countyLine_169 ci_1 ?_
                refine r_iald dX12_countyLine_170 (lp_55 hS) (lk_55 hS) (vp_in_iff.mpr ⟨by decide, by decide⟩) ?_
                refine r_callS (as := [_, _]) (rest := [_, _]) dX12_countyLine_171 ml_X12_178 yS_X12_greater (c_X12_greater hS) (by decide) rfl (Nat.le_of_ble_eq_true rfl) ?_
                refine r_callS (as := [_, _]) (rest := [_]) dX12_countyLine_174 ml_X12_178 yS_X12_greater (c_X12_greater hS) (by decide) rfl (Nat.le_of_ble_eq_true rfl) ?_
                refine r_putI dX12_countyLine_177 fl_X12_175 ft_12_21 (Or.inl rfl) rfl rfl rfl (lp_44 hS) (lq_44 hS) ?_
                exact r_weak (L' := [some (vr (some 44)), some (vl a1), none, none]) ⟨rfl, rfl, trivial⟩ (J21 _ (Eq.symm (if_pos h19)))
            · replace e := ite_t h18 e
              refine r_iconst (v := 0) dX12_countyLine_144 ci_0 ?_
              cases e
              exact r_ireturn dX12_countyLine_145 rfl (nz_b (by first | exact Or.inl rfl | exact Or.inr rfl)).1
          refine r_if_ne (tgt := 137) dX12_countyLine_129 rfl (fun h13 => ?_) (fun h13 => ?_)
          · refine r_iconst (v := 5) dX12_countyLine_137 ci_5 ?_
            exact r_weak (L' := [some (vr (some 44)), some (vl a1), none, none]) ⟨rfl, rfl, trivial⟩ (J15 _ (Eq.symm (if_neg h13)))
          · refine r_bipush (v := 7) dX12_countyLine_132 cb_7 ?_
            refine r_goto (tgt := 138) dX12_countyLine_134 rfl ?_
            exact r_weak (L' := [some (vr (some 44)), some (vl a1), none, none]) ⟨rfl, rfl, trivial⟩ (J15 _ (Eq.symm (if_pos h13)))
        · replace e := ite_t h12 e
          refine r_aload_n dX12_countyLine_69 rfl ?_
          refine r_iconst (v := 0) dX12_countyLine_70 ci_0 ?_
          refine r_iconst (v := 0) dX12_countyLine_71 ci_0 ?_
          refine r_bipush (v := 7) dX12_countyLine_72 cb_7 ?_
          obtain ⟨q37, eq38, e⟩ := obind e
          refine r_callV (as := [_, _, _]) (rest := []) dX12_countyLine_74 ml_X12_161 yV_X12_take (c_X12_take hS eq38) (by decide) rfl (lp_44 hS) (lq_44 hS) (Nat.le_of_ble_eq_true rfl) ?_
          refine r_if_eq (tgt := 91) dX12_countyLine_77 rfl (fun h39 => ?_) (fun h39 => ?_)
          · replace e := ite_t h39 e
            refine r_iconst (v := 0) dX12_countyLine_91 ci_0 ?_
            cases e
            exact r_ireturn dX12_countyLine_92 rfl (nz_b (by first | exact Or.inl rfl | exact Or.inr rfl)).1
          · replace e := ite_f h39 e
            refine r_aload_n dX12_countyLine_80 rfl ?_
            refine r_iconst (v := 1) dX12_countyLine_81 ci_1 ?_
            refine r_iconst (v := 0) dX12_countyLine_82 ci_0 ?_
            refine r_bipush (v := 9) dX12_countyLine_83 cb_9 ?_
            obtain ⟨q40, eq41, e⟩ := obind e
            refine r_callV (as := [_, _, _]) (rest := []) dX12_countyLine_85 ml_X12_161 yV_X12_take (c_X12_take hS eq41) (by decide) rfl (lp_44 hS) (lq_44 hS) (Nat.le_of_ble_eq_true rfl) ?_
            refine r_if_ne (tgt := 93) dX12_countyLine_88 rfl (fun h42 => ?_) (fun h42 => ?_)
            · replace e := ite_f h42 e
              refine r_aload_n dX12_countyLine_93 rfl ?_
              refine r_getI dX12_countyLine_94 fl_X12_150 rfl (lp_44 hS) (lq_44 hS) ?_
              refine r_if_eq (tgt := 120) dX12_countyLine_97 rfl (fun h43 => ?_) (fun h43 => ?_)
              · replace e := ite_t h43 e
                refine r_iconst (v := 1) dX12_countyLine_120 ci_1 ?_
                cases e
                exact r_ireturn dX12_countyLine_121 rfl (nz_b (by first | exact Or.inl rfl | exact Or.inr rfl)).1
              · replace e := ite_f h43 e
                refine r_aload_n dX12_countyLine_100 rfl ?_
                refine r_getR dX12_countyLine_101 fl_X12_38 rfl (lp_44 hS) (lq_44 hS) (lr_44_19 hS) ?_
                refine r_bipush (v := 20) dX12_countyLine_104 cb_20 ?_
                refine r_aload_n dX12_countyLine_106 rfl ?_
                refine r_getR dX12_countyLine_107 fl_X12_41 rfl (lp_44 hS) (lq_44 hS) (lr_44_20 hS) ?_
                refine r_iconst (v := 0) dX12_countyLine_110 ci_0 ?_
                refine r_iald dX12_countyLine_111 (lp_55 hS) (lk_55 hS) (vp_in_iff.mpr ⟨by decide, by decide⟩) ?_
                refine r_iadd dX12_countyLine_112 ?_
                refine r_aload_n dX12_countyLine_113 rfl ?_
                refine r_getR dX12_countyLine_114 fl_X12_41 rfl (lp_44 hS) (lq_44 hS) (lr_44_20 hS) ?_
                refine r_iconst (v := 1) dX12_countyLine_117 ci_1 ?_
                refine r_iald dX12_countyLine_118 (lp_55 hS) (lk_55 hS) (vp_in_iff.mpr ⟨by decide, by decide⟩) ?_
                obtain ⟨hg44, e⟩ := grd_some e
                refine r_iast dX12_countyLine_119 (lp_54 hS) (lk_54 hS) hg44 ?_
                refine r_iconst (v := 1) dX12_countyLine_120 ci_1 ?_
                cases e
                exact r_ireturn dX12_countyLine_121 rfl (nz_b (by first | exact Or.inl rfl | exact Or.inr rfl)).1
            · replace e := ite_t h42 e
              refine r_iconst (v := 0) dX12_countyLine_91 ci_0 ?_
              cases e
              exact r_ireturn dX12_countyLine_92 rfl (nz_b (by first | exact Or.inl rfl | exact Or.inr rfl)).1
      refine r_if_eq (tgt := 57) dX12_countyLine_33 rfl (fun h7 => ?_) (fun h7 => ?_)
      · replace ep5 := ite_t h7 ep5
        cases ep5
        exact r_weak (L' := [some (vr (some 44)), some (vl a1), none, none]) ⟨rfl, rfl, trivial⟩ (J4 _ rfl)
      · replace ep5 := ite_f h7 ep5
        refine r_lload_n dX12_countyLine_36 rfl ?_
        refine r_ldc2 dX12_countyLine_37 ct_X12_194 ?_
        refine r_lcmp dX12_countyLine_40 ?_
        refine r_if_eq (tgt := 57) dX12_countyLine_41 rfl (fun h8 => ?_) (fun h8 => ?_)
        · replace ep5 := ite_t h8 ep5
          cases ep5
          exact r_weak (L' := [some (vr (some 44)), some (vl a1), none, none]) ⟨rfl, rfl, trivial⟩ (J4 _ rfl)
        · replace ep5 := ite_f h8 ep5
          refine r_lload_n dX12_countyLine_44 rfl ?_
          refine r_ldc2 dX12_countyLine_45 ct_X12_196 ?_
          refine r_lcmp dX12_countyLine_48 ?_
          refine r_if_eq (tgt := 57) dX12_countyLine_49 rfl (fun h9 => ?_) (fun h9 => ?_)
          · replace ep5 := ite_t h9 ep5
            cases ep5
            exact r_weak (L' := [some (vr (some 44)), some (vl a1), none, none]) ⟨rfl, rfl, trivial⟩ (J4 _ rfl)
          · replace ep5 := ite_f h9 ep5
            refine r_aload_n dX12_countyLine_52 rfl ?_
            refine r_callV (as := []) (rest := []) dX12_countyLine_53 ml_X12_142 yV_X12_fails (c_X12_fails hS) (by decide) rfl (lp_44 hS) (lq_44 hS) (Nat.le_of_ble_eq_true rfl) ?_
            obtain ⟨hbz, ep5⟩ := gbz_some ep5
            cases ep5
            have e := congrArg some (erx6 _ rfl)
            cases e
            exact r_ireturn dX12_countyLine_56 rfl (nz_b hbz).1
    · replace e := ite_t h2 e
      refine r_aload_n dX12_countyLine_22 rfl ?_
      refine r_iload_n dX12_countyLine_23 rfl ?_
      obtain ⟨q45, eq46, e⟩ := obind e
      refine r_callV (as := [_]) (rest := []) dX12_countyLine_24 ml_X12_189 yV_X12_oathLine (c_X12_oathLine hS eq46) (by decide) rfl (lp_44 hS) (lq_44 hS) (Nat.le_of_ble_eq_true rfl) ?_
      obtain ⟨hbz, e⟩ := gbz_some e
      cases e
      exact r_ireturn dX12_countyLine_27 rfl (nz_b hbz).1
  · replace e := ite_t h1 e
    refine r_aload_n dX12_countyLine_8 rfl ?_
    refine r_iload_n dX12_countyLine_9 rfl ?_
    obtain ⟨q47, eq48, e⟩ := obind e
    refine r_callV (as := [_]) (rest := []) dX12_countyLine_10 ml_X12_183 yV_X12_folkLine (c_X12_folkLine hS eq48) (by decide) rfl (lp_44 hS) (lq_44 hS) (Nat.le_of_ble_eq_true rfl) ?_
    obtain ⟨hbz, e⟩ := gbz_some e
    cases e
    exact r_ireturn dX12_countyLine_13 rfl (nz_b hbz).1
def m_X12_keepRow_b10 (a1 : Int32) (a2 : Int32) (mm : Mm) (z1 : Int32 × Mm) : Option ((Int32 × Mm) ⊕ (Mm)) := if a1 ≤ z1.1 then (some (.inr z1.2)) else (if a2 ≤ (mI mm 54 (ix (0 : Int32))) then (some (.inr z1.2)) else (grd z1.1 4 (grd (((1 : Int32) + (a1 * (mI mm 54 (ix (0 : Int32))))) + z1.1) 161 (some (.inl (z1.1 + (1 : Int32), (sI z1.2 54 (ix (((1 : Int32) + (a1 * (mI mm 54 (ix (0 : Int32))))) + z1.1)) (mI z1.2 55 (ix z1.1)))))))))
def m_X12_keepRow (a1 : Int32) (a2 : Int32) (mm : Mm) : Option (Mm) := (whileF FU (m_X12_keepRow_b10 a1 a2 mm) ((0 : Int32), mm)).bind (fun p2 => some (sI p2 54 (ix (0 : Int32)) (m_X12_lesser a2 ((mI mm 54 (ix (0 : Int32))) + (1 : Int32)))))
set_option maxHeartbeats 4000000 in
set_option maxRecDepth 100000 in
theorem c_X12_keepRow {l : Launch} {G : Gt} {S : Sk} (hS : Lay S) {a1 : Int32} {a2 : Int32} {mm : Mm} {q : Mm} (e : m_X12_keepRow a1 a2 mm = some q) : CallOK l G M_X12_keepRow yX12_keepRow 1 [vr (some 44), vi a1, vi a2] S mm (none) S q := by
  refine call_of_run rfl rfl rfl (Nat.le_of_ble_eq_true rfl) ?_
  show Run l G M_X12_keepRow 1 0 [some (vr (some 44)), some (vi a1), some (vi a2), none, none] [] S mm (none) S q
  unfold m_X12_keepRow at e
  refine r_aload_n dX12_keepRow_0 rfl ?_
  refine r_getR dX12_keepRow_1 fl_X12_38 rfl (lp_44 hS) (lq_44 hS) (lr_44_19 hS) ?_
  refine r_iconst (v := 0) dX12_keepRow_4 ci_0 ?_
  refine r_iald dX12_keepRow_5 (lp_54 hS) (lk_54 hS) (vp_in_iff.mpr ⟨by decide, by decide⟩) ?_
  refine r_istore_n dX12_keepRow_6 (by decide) rfl ?_
  refine r_iconst (v := 0) dX12_keepRow_7 ci_0 ?_
  refine r_istore dX12_keepRow_8 (by decide) rfl ?_
  obtain ⟨p2, eb6w, e⟩ := obind e
  have J3a : Run l G M_X12_keepRow 1 47 [some (vr (some 44)), none, some (vi a2), some (vi (mI mm 54 (ix (0 : Int32)))), none] [] S p2 (none) S q := by
    refine r_aload_n dX12_keepRow_47 rfl ?_
    refine r_getR dX12_keepRow_48 fl_X12_38 rfl (lp_44 hS) (lq_44 hS) (lr_44_19 hS) ?_
    refine r_iconst (v := 0) dX12_keepRow_51 ci_0 ?_
    refine r_iload_n dX12_keepRow_52 rfl ?_
    refine r_iload_n dX12_keepRow_53 rfl ?_
    refine r_iconst (v := 1) dX12_keepRow_54 ci_1 ?_
    refine r_iadd dX12_keepRow_55 ?_
    refine r_callS (as := [_, _]) (rest := [_, _]) dX12_keepRow_56 ml_X12_168 yS_X12_lesser (c_X12_lesser hS) (by decide) rfl (Nat.le_of_ble_eq_true rfl) ?_
    refine r_iast dX12_keepRow_59 (lp_54 hS) (lk_54 hS) (vp_in_iff.mpr ⟨by decide, by decide⟩) ?_
    cases e
    exact r_return dX12_keepRow_60 rfl
  have J3 : ∀ pp : Mm, pp = p2 → Run l G M_X12_keepRow 1 47 [some (vr (some 44)), none, some (vi a2), some (vi (mI mm 54 (ix (0 : Int32)))), none] [] S pp (none) S q := by
    intro pp hpp
    rw [hpp]
    exact J3a
  have J3w : Run l G M_X12_keepRow 1 10 [some (vr (some 44)), some (vi a1), some (vi a2), some (vi (mI mm 54 (ix (0 : Int32)))), some (vi (0 : Int32))] [] S mm (none) S q := by
    refine while_run (s := ((0 : Int32), mm)) (Gs := fun (z1 : Int32 × Mm) => Run l G M_X12_keepRow 1 10 [some (vr (some 44)), some (vi a1), some (vi a2), some (vi (mI mm 54 (ix (0 : Int32)))), some (vi z1.1)] [] S z1.2 (none) S q) eb6w ?_
    intro z1 x4y eb6 hx5
    unfold m_X12_keepRow_b10 at eb6
    refine r_iload dX12_keepRow_10 rfl ?_
    refine r_iload_n dX12_keepRow_12 rfl ?_
    refine r_icmp_ge (tgt := 47) dX12_keepRow_13 rfl (fun h7 => ?_) (fun h7 => ?_)
    · replace eb6 := ite_t h7 eb6
      cases eb6
      exact r_weak (L' := [some (vr (some 44)), none, some (vi a2), some (vi (mI mm 54 (ix (0 : Int32)))), none]) ⟨rfl, rfl, rfl, trivial⟩ (J3 _ hx5)
    · replace eb6 := ite_f h7 eb6
      refine r_iload_n dX12_keepRow_16 rfl ?_
      refine r_iload_n dX12_keepRow_17 rfl ?_
      refine r_icmp_ge (tgt := 47) dX12_keepRow_18 rfl (fun h8 => ?_) (fun h8 => ?_)
      · replace eb6 := ite_t h8 eb6
        cases eb6
        exact r_weak (L' := [some (vr (some 44)), none, some (vi a2), some (vi (mI mm 54 (ix (0 : Int32)))), none]) ⟨rfl, rfl, rfl, trivial⟩ (J3 _ hx5)
      · replace eb6 := ite_f h8 eb6
        refine r_aload_n dX12_keepRow_21 rfl ?_
        refine r_getR dX12_keepRow_22 fl_X12_38 rfl (lp_44 hS) (lq_44 hS) (lr_44_19 hS) ?_
        refine r_iconst (v := 1) dX12_keepRow_25 ci_1 ?_
        refine r_iload_n dX12_keepRow_26 rfl ?_
        refine r_iload_n dX12_keepRow_27 rfl ?_
        refine r_imul dX12_keepRow_28 ?_
        refine r_iadd dX12_keepRow_29 ?_
        refine r_iload dX12_keepRow_30 rfl ?_
        refine r_iadd dX12_keepRow_32 ?_
        refine r_aload_n dX12_keepRow_33 rfl ?_
        refine r_getR dX12_keepRow_34 fl_X12_41 rfl (lp_44 hS) (lq_44 hS) (lr_44_20 hS) ?_
        refine r_iload dX12_keepRow_37 rfl ?_
        obtain ⟨hg9, eb6⟩ := grd_some eb6
        refine r_iald dX12_keepRow_39 (lp_55 hS) (lk_55 hS) hg9 ?_
        obtain ⟨hg10, eb6⟩ := grd_some eb6
        refine r_iast dX12_keepRow_40 (lp_54 hS) (lk_54 hS) hg10 ?_
        refine r_iinc (v := _ + (1 : Int32)) dX12_keepRow_41 rfl (congrArg (_ + ·) ci_1) (by decide) rfl ?_
        refine r_goto (tgt := 10) dX12_keepRow_44 rfl ?_
        cases eb6
        exact r_weak (L' := [some (vr (some 44)), some (vi a1), some (vi a2), some (vi (mI mm 54 (ix (0 : Int32)))), some (vi (z1.1 + (1 : Int32)))]) ⟨rfl, rfl, rfl, rfl, rfl, trivial⟩ hx5
  exact r_weak (L' := [some (vr (some 44)), some (vi a1), some (vi a2), some (vi (mI mm 54 (ix (0 : Int32)))), some (vi (0 : Int32))]) ⟨rfl, rfl, rfl, rfl, rfl, trivial⟩ J3w
def m_X12_deedBy (a1 : Int64) : Int32 := if (lg_cmp a1 (120325360869753 : Int64)) = 0 then ((0 : Int32)) else (if (lg_cmp a1 (1953067621 : Int64)) = 0 then ((1 : Int32)) else (if (lg_cmp a1 (1919251316 : Int64)) = 0 then ((2 : Int32)) else (if (lg_cmp a1 (508575312244 : Int64)) = 0 then ((3 : Int32)) else (if (lg_cmp a1 (427071730292 : Int64)) = 0 then ((4 : Int32)) else (if (lg_cmp a1 (6518132 : Int64)) = 0 then ((5 : Int32)) else (if (lg_cmp a1 (495924371826 : Int64)) = 0 then ((6 : Int32)) else ((-1 : Int32))))))))
set_option maxHeartbeats 4000000 in
set_option maxRecDepth 100000 in
theorem c_X12_deedBy {l : Launch} {G : Gt} {S : Sk} (hS : Lay S) {a1 : Int64} {mm : Mm} : CallOK l G M_X12_deedBy yX12_deedBy 0 [vr (some 44), vl a1] S mm (some (vi (m_X12_deedBy a1))) S mm := by
  refine call_of_run rfl rfl rfl (Nat.le_of_ble_eq_true rfl) ?_
  show Run l G M_X12_deedBy 0 0 [some (vr (some 44)), some (vl a1), none] [] S mm (some (vi (m_X12_deedBy a1))) S mm
  generalize e : m_X12_deedBy a1 = q
  unfold m_X12_deedBy at e
  refine r_lload_n dX12_deedBy_0 rfl ?_
  refine r_ldc2 dX12_deedBy_1 ct_X12_198 ?_
  refine r_lcmp dX12_deedBy_4 ?_
  refine r_if_ne (tgt := 12) dX12_deedBy_5 rfl (fun h1 => ?_) (fun h1 => ?_)
  · replace e := ite_f h1 e
    refine r_lload_n dX12_deedBy_12 rfl ?_
    refine r_ldc2 dX12_deedBy_13 ct_X12_200 ?_
    refine r_lcmp dX12_deedBy_16 ?_
    refine r_if_ne (tgt := 24) dX12_deedBy_17 rfl (fun h2 => ?_) (fun h2 => ?_)
    · replace e := ite_f h2 e
      refine r_lload_n dX12_deedBy_24 rfl ?_
      refine r_ldc2 dX12_deedBy_25 ct_X12_202 ?_
      refine r_lcmp dX12_deedBy_28 ?_
      refine r_if_ne (tgt := 36) dX12_deedBy_29 rfl (fun h3 => ?_) (fun h3 => ?_)
      · replace e := ite_f h3 e
        refine r_lload_n dX12_deedBy_36 rfl ?_
        refine r_ldc2 dX12_deedBy_37 ct_X12_204 ?_
        refine r_lcmp dX12_deedBy_40 ?_
        refine r_if_ne (tgt := 48) dX12_deedBy_41 rfl (fun h4 => ?_) (fun h4 => ?_)
        · replace e := ite_f h4 e
          refine r_lload_n dX12_deedBy_48 rfl ?_
          refine r_ldc2 dX12_deedBy_49 ct_X12_206 ?_
          refine r_lcmp dX12_deedBy_52 ?_
          refine r_if_ne (tgt := 60) dX12_deedBy_53 rfl (fun h5 => ?_) (fun h5 => ?_)
          · replace e := ite_f h5 e
            refine r_lload_n dX12_deedBy_60 rfl ?_
            refine r_ldc2 dX12_deedBy_61 ct_X12_208 ?_
            refine r_lcmp dX12_deedBy_64 ?_
            refine r_if_ne (tgt := 72) dX12_deedBy_65 rfl (fun h6 => ?_) (fun h6 => ?_)
            · replace e := ite_f h6 e
              refine r_lload_n dX12_deedBy_72 rfl ?_
              refine r_ldc2 dX12_deedBy_73 ct_X12_210 ?_
              refine r_lcmp dX12_deedBy_76 ?_
              refine r_if_ne (tgt := 85) dX12_deedBy_77 rfl (fun h7 => ?_) (fun h7 => ?_)
              · replace e := ite_f h7 e
                refine r_iconst (v := -1) dX12_deedBy_85 ci_m1 ?_
                cases e
                exact r_ireturn dX12_deedBy_86 rfl rfl
              · replace e := ite_t h7 e
                refine r_bipush (v := 6) dX12_deedBy_80 cb_6 ?_
                refine r_goto (tgt := 86) dX12_deedBy_82 rfl ?_
                cases e
                exact r_ireturn dX12_deedBy_86 rfl rfl
            · replace e := ite_t h6 e
              refine r_iconst (v := 5) dX12_deedBy_68 ci_5 ?_
              refine r_goto (tgt := 86) dX12_deedBy_69 rfl ?_
              cases e
              exact r_ireturn dX12_deedBy_86 rfl rfl
          · replace e := ite_t h5 e
            refine r_iconst (v := 4) dX12_deedBy_56 ci_4 ?_
            refine r_goto (tgt := 86) dX12_deedBy_57 rfl ?_
            cases e
            exact r_ireturn dX12_deedBy_86 rfl rfl
        · replace e := ite_t h4 e
          refine r_iconst (v := 3) dX12_deedBy_44 ci_3 ?_
          refine r_goto (tgt := 86) dX12_deedBy_45 rfl ?_
          cases e
          exact r_ireturn dX12_deedBy_86 rfl rfl
      · replace e := ite_t h3 e
        refine r_iconst (v := 2) dX12_deedBy_32 ci_2 ?_
        refine r_goto (tgt := 86) dX12_deedBy_33 rfl ?_
        cases e
        exact r_ireturn dX12_deedBy_86 rfl rfl
    · replace e := ite_t h2 e
      refine r_iconst (v := 1) dX12_deedBy_20 ci_1 ?_
      refine r_goto (tgt := 86) dX12_deedBy_21 rfl ?_
      cases e
      exact r_ireturn dX12_deedBy_86 rfl rfl
  · replace e := ite_t h1 e
    refine r_iconst (v := 0) dX12_deedBy_8 ci_0 ?_
    refine r_goto (tgt := 86) dX12_deedBy_9 rfl ?_
    cases e
    exact r_ireturn dX12_deedBy_86 rfl rfl
def m_X12_termLine_b33 (z6 : Int32 × Mm) : Option ((Int32 × Mm) ⊕ (Mm)) := if (4 : Int32) ≤ z6.1 then (some (.inr z6.2)) else (grd z6.1 4 (some (.inl (z6.1 + (1 : Int32), (sI z6.2 55 (ix z6.1) (-1 : Int32))))))
def m_X12_termLine (a1 : Int64) (a3 : Int32) (mm : Mm) : Option (Int32 × Mm) := if (m_X12_deedBy a1) = (-1 : Int32) then (gbz ((m_X12_fails mm).1) (some ((m_X12_fails mm).1, ((m_X12_fails mm).2)))) else ((m_X12_full (0 : Int32) (40 : Int32) a3 mm).bind (fun q2 => (m_X12_token q2).bind (fun q4 => (whileF FU (m_X12_termLine_b33) ((1 : Int32), q4)).bind (fun p7 => bS (if (m_X12_in (m_X12_deedBy a1) (1 : Int32) (2 : Int32)) = 0 then (some (.inl p7)) else ((m_X12_take (1 : Int32) (0 : Int32) (5 : Int32) p7).bind (fun q19 => if q19.1 = 0 then (some (.inr ((0 : Int32), q19.2))) else (some (.inl q19.2)))) : Option ((Mm) ⊕ (Int32 × Mm))) (fun p14 => bS (if (m_X12_deedBy a1) < (3 : Int32) then (some (.inl p14)) else ((m_X12_takeTwo (1 : Int32) (5 : Int32) p14).bind (fun q27 => if q27.1 = 0 then (some (.inr ((0 : Int32), q27.2))) else (some (.inl q27.2)))) : Option ((Mm) ⊕ (Int32 × Mm))) (fun p22 => bS (if (m_X12_deedBy a1) = (6 : Int32) then ((m_X12_take (3 : Int32) (0 : Int32) (7 : Int32) p22).bind (fun q35 => if q35.1 = 0 then (some (.inr ((0 : Int32), q35.2))) else (some (.inl q35.2)))) else (some (.inl p22)) : Option ((Mm) ⊕ (Int32 × Mm))) (fun p30 => (m_X12_keepRow (4 : Int32) (40 : Int32) (sI p30 55 (ix (0 : Int32)) (m_X12_deedBy a1))).bind (fun q38 => some ((1 : Int32), q38)))))))))
set_option maxHeartbeats 4000000 in
set_option maxRecDepth 100000 in
theorem c_X12_termLine {l : Launch} {G : Gt} {S : Sk} (hS : Lay S) {a1 : Int64} {a3 : Int32} {mm : Mm} {q : Int32 × Mm} (e : m_X12_termLine a1 a3 mm = some q) : CallOK l G M_X12_termLine yX12_termLine 5 [vr (some 44), vl a1, vi a3] S mm (some (vi q.1)) S q.2 := by
  refine call_of_run rfl rfl rfl (Nat.le_of_ble_eq_true rfl) ?_
  show Run l G M_X12_termLine 5 0 [some (vr (some 44)), some (vl a1), none, some (vi a3), none, none] [] S mm (some (vi q.1)) S q.2
  unfold m_X12_termLine at e
  refine r_aload_n dX12_termLine_0 rfl ?_
  refine r_lload_n dX12_termLine_1 rfl ?_
  refine r_callV (as := [_]) (rest := []) dX12_termLine_2 ml_X12_212 yV_X12_deedBy (c_X12_deedBy hS) (by decide) rfl (lp_44 hS) (lq_44 hS) (Nat.le_of_ble_eq_true rfl) ?_
  refine r_istore dX12_termLine_5 (by decide) rfl ?_
  refine r_iload dX12_termLine_7 rfl ?_
  refine r_iconst (v := -1) dX12_termLine_9 ci_m1 ?_
  refine r_icmp_ne (tgt := 18) dX12_termLine_10 rfl (fun h1 => ?_) (fun h1 => ?_)
  · replace e := ite_f h1 e
    refine r_aload_n dX12_termLine_18 rfl ?_
    refine r_iconst (v := 0) dX12_termLine_19 ci_0 ?_
    refine r_bipush (v := 40) dX12_termLine_20 cb_40 ?_
    refine r_iload_n dX12_termLine_22 rfl ?_
    obtain ⟨q2, eq3, e⟩ := obind e
    refine r_callV (as := [_, _, _]) (rest := []) dX12_termLine_23 ml_X12_164 yV_X12_full (c_X12_full hS eq3) (by decide) rfl (lp_44 hS) (lq_44 hS) (Nat.le_of_ble_eq_true rfl) ?_
    refine r_aload_n dX12_termLine_26 rfl ?_
    obtain ⟨q4, eq5, e⟩ := obind e
    refine r_callV (as := []) (rest := []) dX12_termLine_27 ml_X12_154 yV_X12_token (c_X12_token hS eq5) (by decide) rfl (lp_44 hS) (lq_44 hS) (Nat.le_of_ble_eq_true rfl) ?_
    refine r_iconst (v := 1) dX12_termLine_30 ci_1 ?_
    refine r_istore dX12_termLine_31 (by decide) rfl ?_
    obtain ⟨p7, eb11w, e⟩ := obind e
    have J8a : Run l G M_X12_termLine 5 53 [some (vr (some 44)), none, none, none, some (vi (m_X12_deedBy a1)), none] [] S p7 (some (vi q.1)) S q.2 := by
      refine r_iload dX12_termLine_53 rfl ?_
      refine r_iconst (v := 1) dX12_termLine_55 ci_1 ?_
      refine r_iconst (v := 2) dX12_termLine_56 ci_2 ?_
      refine r_callS (as := [_, _, _]) (rest := []) dX12_termLine_57 ml_X12_102 yS_X12_in (c_X12_in hS) (by decide) rfl (Nat.le_of_ble_eq_true rfl) ?_
      obtain ⟨x17, ep16, elx17, erx17⟩ := bS_some e
      have J15 : ∀ p14 : Mm, x17 = .inl p14 → Run l G M_X12_termLine 5 73 [some (vr (some 44)), none, none, none, some (vi (m_X12_deedBy a1)), none] [] S p14 (some (vi q.1)) S q.2 := by
        intro p14 hp14
        replace e := elx17 p14 hp14
        refine r_iload dX12_termLine_73 rfl ?_
        refine r_iconst (v := 3) dX12_termLine_75 ci_3 ?_
        obtain ⟨x25, ep24, elx25, erx25⟩ := bS_some e
        have J23 : ∀ p22 : Mm, x25 = .inl p22 → Run l G M_X12_termLine 5 88 [some (vr (some 44)), none, none, none, some (vi (m_X12_deedBy a1)), none] [] S p22 (some (vi q.1)) S q.2 := by
          intro p22 hp22
          replace e := elx25 p22 hp22
          refine r_iload dX12_termLine_88 rfl ?_
          refine r_bipush (v := 6) dX12_termLine_90 cb_6 ?_
          obtain ⟨x33, ep32, elx33, erx33⟩ := bS_some e
          have J31 : ∀ p30 : Mm, x33 = .inl p30 → Run l G M_X12_termLine 5 108 [some (vr (some 44)), none, none, none, some (vi (m_X12_deedBy a1)), none] [] S p30 (some (vi q.1)) S q.2 := by
            intro p30 hp30
            replace e := elx33 p30 hp30
            refine r_aload_n dX12_termLine_108 rfl ?_
            refine r_getR dX12_termLine_109 fl_X12_41 rfl (lp_44 hS) (lq_44 hS) (lr_44_20 hS) ?_
            refine r_iconst (v := 0) dX12_termLine_112 ci_0 ?_
            refine r_iload dX12_termLine_113 rfl ?_
            refine r_iast dX12_termLine_115 (lp_55 hS) (lk_55 hS) (vp_in_iff.mpr ⟨by decide, by decide⟩) ?_
            refine r_aload_n dX12_termLine_116 rfl ?_
            refine r_iconst (v := 4) dX12_termLine_117 ci_4 ?_
            refine r_bipush (v := 40) dX12_termLine_118 cb_40 ?_
            obtain ⟨q38, eq39, e⟩ := obind e
            refine r_callV (as := [_, _]) (rest := []) dX12_termLine_120 ml_X12_216 yV_X12_keepRow (c_X12_keepRow hS eq39) (by decide) rfl (lp_44 hS) (lq_44 hS) (Nat.le_of_ble_eq_true rfl) ?_
            refine r_iconst (v := 1) dX12_termLine_123 ci_1 ?_
            cases e
            exact r_ireturn dX12_termLine_124 rfl (nz_b (by first | exact Or.inl rfl | exact Or.inr rfl)).1
          refine r_icmp_ne (tgt := 108) dX12_termLine_92 rfl (fun h34 => ?_) (fun h34 => ?_)
          · replace ep32 := ite_f h34 ep32
            cases ep32
            exact r_weak (L' := [some (vr (some 44)), none, none, none, some (vi (m_X12_deedBy a1)), none]) ⟨rfl, rfl, trivial⟩ (J31 _ rfl)
          · replace ep32 := ite_t h34 ep32
            refine r_aload_n dX12_termLine_95 rfl ?_
            refine r_iconst (v := 3) dX12_termLine_96 ci_3 ?_
            refine r_iconst (v := 0) dX12_termLine_97 ci_0 ?_
            refine r_bipush (v := 7) dX12_termLine_98 cb_7 ?_
            obtain ⟨q35, eq36, ep32⟩ := obind ep32
            refine r_callV (as := [_, _, _]) (rest := []) dX12_termLine_100 ml_X12_161 yV_X12_take (c_X12_take hS eq36) (by decide) rfl (lp_44 hS) (lq_44 hS) (Nat.le_of_ble_eq_true rfl) ?_
            refine r_if_ne (tgt := 108) dX12_termLine_103 rfl (fun h37 => ?_) (fun h37 => ?_)
            · replace ep32 := ite_f h37 ep32
              cases ep32
              exact r_weak (L' := [some (vr (some 44)), none, none, none, some (vi (m_X12_deedBy a1)), none]) ⟨rfl, rfl, trivial⟩ (J31 _ rfl)
            · replace ep32 := ite_t h37 ep32
              refine r_iconst (v := 0) dX12_termLine_106 ci_0 ?_
              cases ep32
              have e := congrArg some (erx33 _ rfl)
              cases e
              exact r_ireturn dX12_termLine_107 rfl (nz_b (by first | exact Or.inl rfl | exact Or.inr rfl)).1
        refine r_icmp_lt (tgt := 88) dX12_termLine_76 rfl (fun h26 => ?_) (fun h26 => ?_)
        · replace ep24 := ite_t h26 ep24
          cases ep24
          exact r_weak (L' := [some (vr (some 44)), none, none, none, some (vi (m_X12_deedBy a1)), none]) ⟨rfl, rfl, trivial⟩ (J23 _ rfl)
        · replace ep24 := ite_f h26 ep24
          refine r_aload_n dX12_termLine_79 rfl ?_
          refine r_iconst (v := 1) dX12_termLine_80 ci_1 ?_
          refine r_iconst (v := 5) dX12_termLine_81 ci_5 ?_
          obtain ⟨q27, eq28, ep24⟩ := obind ep24
          refine r_callV (as := [_, _]) (rest := []) dX12_termLine_82 ml_X12_172 yV_X12_takeTwo (c_X12_takeTwo hS eq28) (by decide) rfl (lp_44 hS) (lq_44 hS) (Nat.le_of_ble_eq_true rfl) ?_
          refine r_if_eq (tgt := 106) dX12_termLine_85 rfl (fun h29 => ?_) (fun h29 => ?_)
          · replace ep24 := ite_t h29 ep24
            refine r_iconst (v := 0) dX12_termLine_106 ci_0 ?_
            cases ep24
            have e := congrArg some (erx25 _ rfl)
            cases e
            exact r_ireturn dX12_termLine_107 rfl (nz_b (by first | exact Or.inl rfl | exact Or.inr rfl)).1
          · replace ep24 := ite_f h29 ep24
            cases ep24
            exact r_weak (L' := [some (vr (some 44)), none, none, none, some (vi (m_X12_deedBy a1)), none]) ⟨rfl, rfl, trivial⟩ (J23 _ rfl)
      refine r_if_eq (tgt := 73) dX12_termLine_60 rfl (fun h18 => ?_) (fun h18 => ?_)
      · replace ep16 := ite_t h18 ep16
        cases ep16
        exact r_weak (L' := [some (vr (some 44)), none, none, none, some (vi (m_X12_deedBy a1)), none]) ⟨rfl, rfl, trivial⟩ (J15 _ rfl)
      · replace ep16 := ite_f h18 ep16
        refine r_aload_n dX12_termLine_63 rfl ?_
        refine r_iconst (v := 1) dX12_termLine_64 ci_1 ?_
        refine r_iconst (v := 0) dX12_termLine_65 ci_0 ?_
        refine r_iconst (v := 5) dX12_termLine_66 ci_5 ?_
        obtain ⟨q19, eq20, ep16⟩ := obind ep16
        refine r_callV (as := [_, _, _]) (rest := []) dX12_termLine_67 ml_X12_161 yV_X12_take (c_X12_take hS eq20) (by decide) rfl (lp_44 hS) (lq_44 hS) (Nat.le_of_ble_eq_true rfl) ?_
        refine r_if_eq (tgt := 106) dX12_termLine_70 rfl (fun h21 => ?_) (fun h21 => ?_)
        · replace ep16 := ite_t h21 ep16
          refine r_iconst (v := 0) dX12_termLine_106 ci_0 ?_
          cases ep16
          have e := congrArg some (erx17 _ rfl)
          cases e
          exact r_ireturn dX12_termLine_107 rfl (nz_b (by first | exact Or.inl rfl | exact Or.inr rfl)).1
        · replace ep16 := ite_f h21 ep16
          cases ep16
          exact r_weak (L' := [some (vr (some 44)), none, none, none, some (vi (m_X12_deedBy a1)), none]) ⟨rfl, rfl, trivial⟩ (J15 _ rfl)
    have J8 : ∀ pp : Mm, pp = p7 → Run l G M_X12_termLine 5 53 [some (vr (some 44)), none, none, none, some (vi (m_X12_deedBy a1)), none] [] S pp (some (vi q.1)) S q.2 := by
      intro pp hpp
      rw [hpp]
      exact J8a
    have J8w : Run l G M_X12_termLine 5 33 [some (vr (some 44)), none, none, none, some (vi (m_X12_deedBy a1)), some (vi (1 : Int32))] [] S q4 (some (vi q.1)) S q.2 := by
      refine while_run (s := ((1 : Int32), q4)) (Gs := fun (z6 : Int32 × Mm) => Run l G M_X12_termLine 5 33 [some (vr (some 44)), none, none, none, some (vi (m_X12_deedBy a1)), some (vi z6.1)] [] S z6.2 (some (vi q.1)) S q.2) eb11w ?_
      intro z6 x9y eb11 hx10
      unfold m_X12_termLine_b33 at eb11
      refine r_iload dX12_termLine_33 rfl ?_
      refine r_iconst (v := 4) dX12_termLine_35 ci_4 ?_
      refine r_icmp_ge (tgt := 53) dX12_termLine_36 rfl (fun h12 => ?_) (fun h12 => ?_)
      · replace eb11 := ite_t h12 eb11
        cases eb11
        exact r_weak (L' := [some (vr (some 44)), none, none, none, some (vi (m_X12_deedBy a1)), none]) ⟨rfl, rfl, trivial⟩ (J8 _ hx10)
      · replace eb11 := ite_f h12 eb11
        refine r_aload_n dX12_termLine_39 rfl ?_
        refine r_getR dX12_termLine_40 fl_X12_41 rfl (lp_44 hS) (lq_44 hS) (lr_44_20 hS) ?_
        refine r_iload dX12_termLine_43 rfl ?_
        refine r_iconst (v := -1) dX12_termLine_45 ci_m1 ?_
        obtain ⟨hg13, eb11⟩ := grd_some eb11
        refine r_iast dX12_termLine_46 (lp_55 hS) (lk_55 hS) hg13 ?_
        refine r_iinc (v := _ + (1 : Int32)) dX12_termLine_47 rfl (congrArg (_ + ·) ci_1) (by decide) rfl ?_
        refine r_goto (tgt := 33) dX12_termLine_50 rfl ?_
        cases eb11
        exact r_weak (L' := [some (vr (some 44)), none, none, none, some (vi (m_X12_deedBy a1)), some (vi (z6.1 + (1 : Int32)))]) ⟨rfl, rfl, rfl, trivial⟩ hx10
    exact r_weak (L' := [some (vr (some 44)), none, none, none, some (vi (m_X12_deedBy a1)), some (vi (1 : Int32))]) ⟨rfl, rfl, rfl, trivial⟩ J8w
  · replace e := ite_t h1 e
    refine r_aload_n dX12_termLine_13 rfl ?_
    refine r_callV (as := []) (rest := []) dX12_termLine_14 ml_X12_142 yV_X12_fails (c_X12_fails hS) (by decide) rfl (lp_44 hS) (lq_44 hS) (Nat.le_of_ble_eq_true rfl) ?_
    obtain ⟨hbz, e⟩ := gbz_some e
    cases e
    exact r_ireturn dX12_termLine_17 rfl (nz_b hbz).1
def m_X12_wantLine (a1 : Int64) (a3 : Int32) (mm : Mm) : Option (Int32 × Mm) := if (lg_cmp a1 (2002873972 : Int64)) = 0 then ((m_X12_full (0 : Int32) (6 : Int32) a3 mm).bind (fun q2 => (m_X12_token q2).bind (fun q4 => (m_X12_take (0 : Int32) (0 : Int32) (5 : Int32) q4).bind (fun q6 => if q6.1 = 0 then (some ((0 : Int32), q6.2)) else ((m_X12_take (1 : Int32) (0 : Int32) (7 : Int32) q6.2).bind (fun q9 => if q9.1 = 0 then (some ((0 : Int32), q9.2)) else ((m_X12_keepRow (2 : Int32) (6 : Int32) q9.2).bind (fun q12 => some ((1 : Int32), q12))))))))) else (gbz ((m_X12_fails mm).1) (some ((m_X12_fails mm).1, ((m_X12_fails mm).2))))
set_option maxHeartbeats 4000000 in
set_option maxRecDepth 100000 in
theorem c_X12_wantLine {l : Launch} {G : Gt} {S : Sk} (hS : Lay S) {a1 : Int64} {a3 : Int32} {mm : Mm} {q : Int32 × Mm} (e : m_X12_wantLine a1 a3 mm = some q) : CallOK l G M_X12_wantLine yX12_wantLine 4 [vr (some 44), vl a1, vi a3] S mm (some (vi q.1)) S q.2 := by
  refine call_of_run rfl rfl rfl (Nat.le_of_ble_eq_true rfl) ?_
  show Run l G M_X12_wantLine 4 0 [some (vr (some 44)), some (vl a1), none, some (vi a3)] [] S mm (some (vi q.1)) S q.2
  unfold m_X12_wantLine at e
  refine r_lload_n dX12_wantLine_0 rfl ?_
  refine r_ldc2 dX12_wantLine_1 ct_X12_219 ?_
  refine r_lcmp dX12_wantLine_4 ?_
  refine r_if_eq (tgt := 13) dX12_wantLine_5 rfl (fun h1 => ?_) (fun h1 => ?_)
  · replace e := ite_t h1 e
    refine r_aload_n dX12_wantLine_13 rfl ?_
    refine r_iconst (v := 0) dX12_wantLine_14 ci_0 ?_
    refine r_bipush (v := 6) dX12_wantLine_15 cb_6 ?_
    refine r_iload_n dX12_wantLine_17 rfl ?_
    obtain ⟨q2, eq3, e⟩ := obind e
    refine r_callV (as := [_, _, _]) (rest := []) dX12_wantLine_18 ml_X12_164 yV_X12_full (c_X12_full hS eq3) (by decide) rfl (lp_44 hS) (lq_44 hS) (Nat.le_of_ble_eq_true rfl) ?_
    refine r_aload_n dX12_wantLine_21 rfl ?_
    obtain ⟨q4, eq5, e⟩ := obind e
    refine r_callV (as := []) (rest := []) dX12_wantLine_22 ml_X12_154 yV_X12_token (c_X12_token hS eq5) (by decide) rfl (lp_44 hS) (lq_44 hS) (Nat.le_of_ble_eq_true rfl) ?_
    refine r_aload_n dX12_wantLine_25 rfl ?_
    refine r_iconst (v := 0) dX12_wantLine_26 ci_0 ?_
    refine r_iconst (v := 0) dX12_wantLine_27 ci_0 ?_
    refine r_iconst (v := 5) dX12_wantLine_28 ci_5 ?_
    obtain ⟨q6, eq7, e⟩ := obind e
    refine r_callV (as := [_, _, _]) (rest := []) dX12_wantLine_29 ml_X12_161 yV_X12_take (c_X12_take hS eq7) (by decide) rfl (lp_44 hS) (lq_44 hS) (Nat.le_of_ble_eq_true rfl) ?_
    refine r_if_eq (tgt := 46) dX12_wantLine_32 rfl (fun h8 => ?_) (fun h8 => ?_)
    · replace e := ite_t h8 e
      refine r_iconst (v := 0) dX12_wantLine_46 ci_0 ?_
      cases e
      exact r_ireturn dX12_wantLine_47 rfl (nz_b (by first | exact Or.inl rfl | exact Or.inr rfl)).1
    · replace e := ite_f h8 e
      refine r_aload_n dX12_wantLine_35 rfl ?_
      refine r_iconst (v := 1) dX12_wantLine_36 ci_1 ?_
      refine r_iconst (v := 0) dX12_wantLine_37 ci_0 ?_
      refine r_bipush (v := 7) dX12_wantLine_38 cb_7 ?_
      obtain ⟨q9, eq10, e⟩ := obind e
      refine r_callV (as := [_, _, _]) (rest := []) dX12_wantLine_40 ml_X12_161 yV_X12_take (c_X12_take hS eq10) (by decide) rfl (lp_44 hS) (lq_44 hS) (Nat.le_of_ble_eq_true rfl) ?_
      refine r_if_ne (tgt := 48) dX12_wantLine_43 rfl (fun h11 => ?_) (fun h11 => ?_)
      · replace e := ite_f h11 e
        refine r_aload_n dX12_wantLine_48 rfl ?_
        refine r_iconst (v := 2) dX12_wantLine_49 ci_2 ?_
        refine r_bipush (v := 6) dX12_wantLine_50 cb_6 ?_
        obtain ⟨q12, eq13, e⟩ := obind e
        refine r_callV (as := [_, _]) (rest := []) dX12_wantLine_52 ml_X12_216 yV_X12_keepRow (c_X12_keepRow hS eq13) (by decide) rfl (lp_44 hS) (lq_44 hS) (Nat.le_of_ble_eq_true rfl) ?_
        refine r_iconst (v := 1) dX12_wantLine_55 ci_1 ?_
        cases e
        exact r_ireturn dX12_wantLine_56 rfl (nz_b (by first | exact Or.inl rfl | exact Or.inr rfl)).1
      · replace e := ite_t h11 e
        refine r_iconst (v := 0) dX12_wantLine_46 ci_0 ?_
        cases e
        exact r_ireturn dX12_wantLine_47 rfl (nz_b (by first | exact Or.inl rfl | exact Or.inr rfl)).1
  · replace e := ite_f h1 e
    refine r_aload_n dX12_wantLine_8 rfl ?_
    refine r_callV (as := []) (rest := []) dX12_wantLine_9 ml_X12_142 yV_X12_fails (c_X12_fails hS) (by decide) rfl (lp_44 hS) (lq_44 hS) (Nat.le_of_ble_eq_true rfl) ?_
    obtain ⟨hbz, e⟩ := gbz_some e
    cases e
    exact r_ireturn dX12_wantLine_12 rfl (nz_b hbz).1
def m_X12_logLine (a1 : Int64) (a3 : Int32) (mm : Mm) : Option (Int32 × Mm) := bS (if (lg_cmp a1 (1801810036 : Int64)) = 0 then (some (.inl ())) else (if (lg_cmp a1 (422826699621 : Int64)) = 0 then (some (.inl ())) else (gbz ((m_X12_fails mm).1) (some (.inr ((m_X12_fails mm).1, ((m_X12_fails mm).2)))))) : Option ((Unit) ⊕ (Int32 × Mm))) (fun p1 => (m_X12_full (0 : Int32) (8 : Int32) a3 mm).bind (fun q7 => (m_X12_token q7).bind (fun q9 => (m_X12_take (1 : Int32) (0 : Int32) (5 : Int32) q9).bind (fun q11 => if q11.1 = 0 then (some ((0 : Int32), q11.2)) else ((m_X12_take (2 : Int32) (0 : Int32) (7 : Int32) q11.2).bind (fun q14 => if q14.1 = 0 then (some ((0 : Int32), q14.2)) else ((m_X12_keepRow (3 : Int32) (8 : Int32) (sI q14.2 55 (ix (0 : Int32)) (if (lg_cmp a1 (1801810036 : Int64)) = 0 then (1 : Int32) else (0 : Int32)))).bind (fun q20 => some ((1 : Int32), q20)))))))))
set_option maxHeartbeats 4000000 in
set_option maxRecDepth 100000 in
theorem c_X12_logLine {l : Launch} {G : Gt} {S : Sk} (hS : Lay S) {a1 : Int64} {a3 : Int32} {mm : Mm} {q : Int32 × Mm} (e : m_X12_logLine a1 a3 mm = some q) : CallOK l G M_X12_logLine yX12_logLine 4 [vr (some 44), vl a1, vi a3] S mm (some (vi q.1)) S q.2 := by
  refine call_of_run rfl rfl rfl (Nat.le_of_ble_eq_true rfl) ?_
  show Run l G M_X12_logLine 4 0 [some (vr (some 44)), some (vl a1), none, some (vi a3)] [] S mm (some (vi q.1)) S q.2
  unfold m_X12_logLine at e
  refine r_lload_n dX12_logLine_0 rfl ?_
  refine r_ldc2 dX12_logLine_1 ct_X12_221 ?_
  refine r_lcmp dX12_logLine_4 ?_
  obtain ⟨x4, ep3, elx4, erx4⟩ := bS_some e
  have J2 : ∀ p1 : Unit, x4 = .inl p1 → Run l G M_X12_logLine 4 21 [some (vr (some 44)), some (vl a1), none, some (vi a3)] [] S mm (some (vi q.1)) S q.2 := by
    intro p1 hp1
    replace e := elx4 p1 hp1
    refine r_aload_n dX12_logLine_21 rfl ?_
    refine r_iconst (v := 0) dX12_logLine_22 ci_0 ?_
    refine r_bipush (v := 8) dX12_logLine_23 cb_8 ?_
    refine r_iload_n dX12_logLine_25 rfl ?_
    obtain ⟨q7, eq8, e⟩ := obind e
    refine r_callV (as := [_, _, _]) (rest := []) dX12_logLine_26 ml_X12_164 yV_X12_full (c_X12_full hS eq8) (by decide) rfl (lp_44 hS) (lq_44 hS) (Nat.le_of_ble_eq_true rfl) ?_
    refine r_aload_n dX12_logLine_29 rfl ?_
    obtain ⟨q9, eq10, e⟩ := obind e
    refine r_callV (as := []) (rest := []) dX12_logLine_30 ml_X12_154 yV_X12_token (c_X12_token hS eq10) (by decide) rfl (lp_44 hS) (lq_44 hS) (Nat.le_of_ble_eq_true rfl) ?_
    refine r_aload_n dX12_logLine_33 rfl ?_
    refine r_iconst (v := 1) dX12_logLine_34 ci_1 ?_
    refine r_iconst (v := 0) dX12_logLine_35 ci_0 ?_
    refine r_iconst (v := 5) dX12_logLine_36 ci_5 ?_
    obtain ⟨q11, eq12, e⟩ := obind e
    refine r_callV (as := [_, _, _]) (rest := []) dX12_logLine_37 ml_X12_161 yV_X12_take (c_X12_take hS eq12) (by decide) rfl (lp_44 hS) (lq_44 hS) (Nat.le_of_ble_eq_true rfl) ?_
    refine r_if_eq (tgt := 54) dX12_logLine_40 rfl (fun h13 => ?_) (fun h13 => ?_)
    · replace e := ite_t h13 e
      refine r_iconst (v := 0) dX12_logLine_54 ci_0 ?_
      cases e
      exact r_ireturn dX12_logLine_55 rfl (nz_b (by first | exact Or.inl rfl | exact Or.inr rfl)).1
    · replace e := ite_f h13 e
      refine r_aload_n dX12_logLine_43 rfl ?_
      refine r_iconst (v := 2) dX12_logLine_44 ci_2 ?_
      refine r_iconst (v := 0) dX12_logLine_45 ci_0 ?_
      refine r_bipush (v := 7) dX12_logLine_46 cb_7 ?_
      obtain ⟨q14, eq15, e⟩ := obind e
      refine r_callV (as := [_, _, _]) (rest := []) dX12_logLine_48 ml_X12_161 yV_X12_take (c_X12_take hS eq15) (by decide) rfl (lp_44 hS) (lq_44 hS) (Nat.le_of_ble_eq_true rfl) ?_
      refine r_if_ne (tgt := 56) dX12_logLine_51 rfl (fun h16 => ?_) (fun h16 => ?_)
      · replace e := ite_f h16 e
        refine r_aload_n dX12_logLine_56 rfl ?_
        refine r_getR dX12_logLine_57 fl_X12_41 rfl (lp_44 hS) (lq_44 hS) (lr_44_20 hS) ?_
        refine r_iconst (v := 0) dX12_logLine_60 ci_0 ?_
        refine r_lload_n dX12_logLine_61 rfl ?_
        refine r_ldc2 dX12_logLine_62 ct_X12_221 ?_
        refine r_lcmp dX12_logLine_65 ?_
        have J19 : ∀ (w18 : Int32), w18 = (if (lg_cmp a1 (1801810036 : Int64)) = 0 then (1 : Int32) else (0 : Int32)) → Run l G M_X12_logLine 4 74 [some (vr (some 44)), none, none, none] [vi w18, vi (0 : Int32), vr (some 55)] S q14.2 (some (vi q.1)) S q.2 := by
          intro w18 hw22
          subst hw22
          refine r_iast dX12_logLine_74 (lp_55 hS) (lk_55 hS) (vp_in_iff.mpr ⟨by decide, by decide⟩) ?_
          refine r_aload_n dX12_logLine_75 rfl ?_
          refine r_iconst (v := 3) dX12_logLine_76 ci_3 ?_
          refine r_bipush (v := 8) dX12_logLine_77 cb_8 ?_
          obtain ⟨q20, eq21, e⟩ := obind e
          refine r_callV (as := [_, _]) (rest := []) dX12_logLine_79 ml_X12_216 yV_X12_keepRow (c_X12_keepRow hS eq21) (by decide) rfl (lp_44 hS) (lq_44 hS) (Nat.le_of_ble_eq_true rfl) ?_
          refine r_iconst (v := 1) dX12_logLine_82 ci_1 ?_
          cases e
          exact r_ireturn dX12_logLine_83 rfl (nz_b (by first | exact Or.inl rfl | exact Or.inr rfl)).1
        refine r_if_ne (tgt := 73) dX12_logLine_66 rfl (fun h17 => ?_) (fun h17 => ?_)
        · refine r_iconst (v := 0) dX12_logLine_73 ci_0 ?_
          exact r_weak (L' := [some (vr (some 44)), none, none, none]) ⟨rfl, trivial⟩ (J19 _ (Eq.symm (if_neg h17)))
        · refine r_iconst (v := 1) dX12_logLine_69 ci_1 ?_
          refine r_goto (tgt := 74) dX12_logLine_70 rfl ?_
          exact r_weak (L' := [some (vr (some 44)), none, none, none]) ⟨rfl, trivial⟩ (J19 _ (Eq.symm (if_pos h17)))
      · replace e := ite_t h16 e
        refine r_iconst (v := 0) dX12_logLine_54 ci_0 ?_
        cases e
        exact r_ireturn dX12_logLine_55 rfl (nz_b (by first | exact Or.inl rfl | exact Or.inr rfl)).1
  refine r_if_eq (tgt := 21) dX12_logLine_5 rfl (fun h5 => ?_) (fun h5 => ?_)
  · replace ep3 := ite_t h5 ep3
    cases ep3
    exact r_weak (L' := [some (vr (some 44)), some (vl a1), none, some (vi a3)]) ⟨rfl, rfl, rfl, trivial⟩ (J2 _ rfl)
  · replace ep3 := ite_f h5 ep3
    refine r_lload_n dX12_logLine_8 rfl ?_
    refine r_ldc2 dX12_logLine_9 ct_X12_223 ?_
    refine r_lcmp dX12_logLine_12 ?_
    refine r_if_eq (tgt := 21) dX12_logLine_13 rfl (fun h6 => ?_) (fun h6 => ?_)
    · replace ep3 := ite_t h6 ep3
      cases ep3
      exact r_weak (L' := [some (vr (some 44)), some (vl a1), none, some (vi a3)]) ⟨rfl, rfl, rfl, trivial⟩ (J2 _ rfl)
    · replace ep3 := ite_f h6 ep3
      refine r_aload_n dX12_logLine_16 rfl ?_
      refine r_callV (as := []) (rest := []) dX12_logLine_17 ml_X12_142 yV_X12_fails (c_X12_fails hS) (by decide) rfl (lp_44 hS) (lq_44 hS) (Nat.le_of_ble_eq_true rfl) ?_
      obtain ⟨hbz, ep3⟩ := gbz_some ep3
      cases ep3
      have e := congrArg some (erx4 _ rfl)
      cases e
      exact r_ireturn dX12_logLine_20 rfl (nz_b hbz).1
def m_X12_lineOf (a1 : Int32) (a2 : Int64) (a4 : Int32) (mm : Mm) : Option (Int32 × Mm) := if a1 = 0 then ((m_X12_countyLine a2 a4 mm).bind (fun q10 => gbz q10.1 (some (q10.1, q10.2)))) else (if a1 = (1 : Int32) then ((m_X12_termLine a2 a4 mm).bind (fun q8 => gbz q8.1 (some (q8.1, q8.2)))) else (if a1 = (2 : Int32) then ((m_X12_wantLine a2 a4 mm).bind (fun q6 => gbz q6.1 (some (q6.1, q6.2)))) else ((m_X12_logLine a2 a4 mm).bind (fun q4 => gbz q4.1 (some (q4.1, q4.2))))))
set_option maxHeartbeats 4000000 in
set_option maxRecDepth 100000 in
theorem c_X12_lineOf {l : Launch} {G : Gt} {S : Sk} (hS : Lay S) {a1 : Int32} {a2 : Int64} {a4 : Int32} {mm : Mm} {q : Int32 × Mm} (e : m_X12_lineOf a1 a2 a4 mm = some q) : CallOK l G M_X12_lineOf yX12_lineOf 7 [vr (some 44), vi a1, vl a2, vi a4] S mm (some (vi q.1)) S q.2 := by
  refine call_of_run rfl rfl rfl (Nat.le_of_ble_eq_true rfl) ?_
  show Run l G M_X12_lineOf 7 0 [some (vr (some 44)), some (vi a1), some (vl a2), none, some (vi a4)] [] S mm (some (vi q.1)) S q.2
  unfold m_X12_lineOf at e
  refine r_iload_n dX12_lineOf_0 rfl ?_
  refine r_if_ne (tgt := 14) dX12_lineOf_1 rfl (fun h1 => ?_) (fun h1 => ?_)
  · replace e := ite_f h1 e
    refine r_iload_n dX12_lineOf_14 rfl ?_
    refine r_iconst (v := 1) dX12_lineOf_15 ci_1 ?_
    refine r_icmp_ne (tgt := 29) dX12_lineOf_16 rfl (fun h2 => ?_) (fun h2 => ?_)
    · replace e := ite_f h2 e
      refine r_iload_n dX12_lineOf_29 rfl ?_
      refine r_iconst (v := 2) dX12_lineOf_30 ci_2 ?_
      refine r_icmp_ne (tgt := 44) dX12_lineOf_31 rfl (fun h3 => ?_) (fun h3 => ?_)
      · replace e := ite_f h3 e
        refine r_aload_n dX12_lineOf_44 rfl ?_
        refine r_lload_n dX12_lineOf_45 rfl ?_
        refine r_iload dX12_lineOf_46 rfl ?_
        obtain ⟨q4, eq5, e⟩ := obind e
        refine r_callV (as := [_, _]) (rest := []) dX12_lineOf_48 ml_X12_235 yV_X12_logLine (c_X12_logLine hS eq5) (by decide) rfl (lp_44 hS) (lq_44 hS) (Nat.le_of_ble_eq_true rfl) ?_
        obtain ⟨hbz, e⟩ := gbz_some e
        cases e
        exact r_ireturn dX12_lineOf_51 rfl (nz_b hbz).1
      · replace e := ite_t h3 e
        refine r_aload_n dX12_lineOf_34 rfl ?_
        refine r_lload_n dX12_lineOf_35 rfl ?_
        refine r_iload dX12_lineOf_36 rfl ?_
        obtain ⟨q6, eq7, e⟩ := obind e
        refine r_callV (as := [_, _]) (rest := []) dX12_lineOf_38 ml_X12_232 yV_X12_wantLine (c_X12_wantLine hS eq7) (by decide) rfl (lp_44 hS) (lq_44 hS) (Nat.le_of_ble_eq_true rfl) ?_
        refine r_goto (tgt := 51) dX12_lineOf_41 rfl ?_
        obtain ⟨hbz, e⟩ := gbz_some e
        cases e
        exact r_ireturn dX12_lineOf_51 rfl (nz_b hbz).1
    · replace e := ite_t h2 e
      refine r_aload_n dX12_lineOf_19 rfl ?_
      refine r_lload_n dX12_lineOf_20 rfl ?_
      refine r_iload dX12_lineOf_21 rfl ?_
      obtain ⟨q8, eq9, e⟩ := obind e
      refine r_callV (as := [_, _]) (rest := []) dX12_lineOf_23 ml_X12_229 yV_X12_termLine (c_X12_termLine hS eq9) (by decide) rfl (lp_44 hS) (lq_44 hS) (Nat.le_of_ble_eq_true rfl) ?_
      refine r_goto (tgt := 51) dX12_lineOf_26 rfl ?_
      obtain ⟨hbz, e⟩ := gbz_some e
      cases e
      exact r_ireturn dX12_lineOf_51 rfl (nz_b hbz).1
  · replace e := ite_t h1 e
    refine r_aload_n dX12_lineOf_4 rfl ?_
    refine r_lload_n dX12_lineOf_5 rfl ?_
    refine r_iload dX12_lineOf_6 rfl ?_
    obtain ⟨q10, eq11, e⟩ := obind e
    refine r_callV (as := [_, _]) (rest := []) dX12_lineOf_8 ml_X12_225 yV_X12_countyLine (c_X12_countyLine hS eq11) (by decide) rfl (lp_44 hS) (lq_44 hS) (Nat.le_of_ble_eq_true rfl) ?_
    refine r_goto (tgt := 51) dX12_lineOf_11 rfl ?_
    obtain ⟨hbz, e⟩ := gbz_some e
    cases e
    exact r_ireturn dX12_lineOf_51 rfl (nz_b hbz).1
def m_X12_allLines_b2 (a1 : Int32) (z1 : Int32 × Mm) : Option ((Int32 × Mm) ⊕ (Int32 × Mm)) := if z1.1 = 0 then (some (.inr (z1.1, z1.2))) else (if (mI z1.2 44 13) = 0 then (some (.inr (z1.1, z1.2))) else ((m_X12_lineOf a1 (if (mI z1.2 44 13) = (2 : Int32) then mL z1.2 44 15 else (0 : Int64)) (mI z1.2 44 12) (sI z1.2 44 22 (1 : Int32))).bind (fun q12 => (if (if q12.1 = 0 then q12.1 else (if (mI q12.2 44 13) = (4 : Int32) then q12.1 else (m_X12_fails q12.2).1)) = 0 then (some (if q12.1 = 0 then q12.2 else (if (mI q12.2 44 13) = (4 : Int32) then q12.2 else ((m_X12_fails q12.2).2)))) else ((m_X12_token (if q12.1 = 0 then q12.2 else (if (mI q12.2 44 13) = (4 : Int32) then q12.2 else ((m_X12_fails q12.2).2)))).bind (fun q24 => some q24)) : Option (Mm)).bind (fun p19 => some (.inl ((if q12.1 = 0 then q12.1 else (if (mI q12.2 44 13) = (4 : Int32) then q12.1 else (m_X12_fails q12.2).1)), p19))))))
def m_X12_allLines (a1 : Int32) (mm : Mm) : Option (Int32 × Mm) := (whileF FU (m_X12_allLines_b2 a1) ((1 : Int32), mm)).bind (fun p2 => gbz p2.1 (some (p2.1, p2.2)))
set_option maxHeartbeats 4000000 in
set_option maxRecDepth 100000 in
theorem c_X12_allLines {l : Launch} {G : Gt} {S : Sk} (hS : Lay S) {a1 : Int32} {mm : Mm} {q : Int32 × Mm} (e : m_X12_allLines a1 mm = some q) : CallOK l G M_X12_allLines yX12_allLines 8 [vr (some 44), vi a1] S mm (some (vi q.1)) S q.2 := by
  refine call_of_run rfl rfl rfl (Nat.le_of_ble_eq_true rfl) ?_
  show Run l G M_X12_allLines 8 0 [some (vr (some 44)), some (vi a1), none, none, none, none] [] S mm (some (vi q.1)) S q.2
  unfold m_X12_allLines at e
  refine r_iconst (v := 1) dX12_allLines_0 ci_1 ?_
  refine r_istore_n dX12_allLines_1 (by decide) rfl ?_
  obtain ⟨p2, eb6w, e⟩ := obind e
  have J3a : Run l G M_X12_allLines 8 78 [none, none, some (vi p2.1), none, none, none] [] S p2.2 (some (vi q.1)) S q.2 := by
    refine r_iload_n dX12_allLines_78 rfl ?_
    obtain ⟨hbz, e⟩ := gbz_some e
    cases e
    exact r_ireturn dX12_allLines_79 rfl (nz_b hbz).1
  have J3 : ∀ pp : Int32 × Mm, pp = p2 → Run l G M_X12_allLines 8 78 [none, none, some (vi pp.1), none, none, none] [] S pp.2 (some (vi q.1)) S q.2 := by
    intro pp hpp
    rw [hpp]
    exact J3a
  have J3w : Run l G M_X12_allLines 8 2 [some (vr (some 44)), some (vi a1), some (vi (1 : Int32)), none, none, none] [] S mm (some (vi q.1)) S q.2 := by
    refine while_run (s := ((1 : Int32), mm)) (Gs := fun (z1 : Int32 × Mm) => Run l G M_X12_allLines 8 2 [some (vr (some 44)), some (vi a1), some (vi z1.1), none, none, none] [] S z1.2 (some (vi q.1)) S q.2) eb6w ?_
    intro z1 x4y eb6 hx5
    unfold m_X12_allLines_b2 at eb6
    refine r_iload_n dX12_allLines_2 rfl ?_
    refine r_if_eq (tgt := 78) dX12_allLines_3 rfl (fun h7 => ?_) (fun h7 => ?_)
    · replace eb6 := ite_t h7 eb6
      cases eb6
      exact r_weak (L' := [none, none, some (vi z1.1), none, none, none]) ⟨rfl, trivial⟩ (J3 _ hx5)
    · replace eb6 := ite_f h7 eb6
      refine r_aload_n dX12_allLines_6 rfl ?_
      refine r_getI dX12_allLines_7 fl_X12_127 rfl (lp_44 hS) (lq_44 hS) ?_
      refine r_if_eq (tgt := 78) dX12_allLines_10 rfl (fun h8 => ?_) (fun h8 => ?_)
      · replace eb6 := ite_t h8 eb6
        cases eb6
        exact r_weak (L' := [none, none, some (vi z1.1), none, none, none]) ⟨rfl, trivial⟩ (J3 _ hx5)
      · replace eb6 := ite_f h8 eb6
        refine r_aload_n dX12_allLines_13 rfl ?_
        refine r_getI dX12_allLines_14 fl_X12_120 rfl (lp_44 hS) (lq_44 hS) ?_
        refine r_istore_n dX12_allLines_17 (by decide) rfl ?_
        refine r_aload_n dX12_allLines_18 rfl ?_
        refine r_getI dX12_allLines_19 fl_X12_127 rfl (lp_44 hS) (lq_44 hS) ?_
        refine r_iconst (v := 2) dX12_allLines_22 ci_2 ?_
        have J11 : ∀ (w10 : Int64), w10 = (if (mI z1.2 44 13) = (2 : Int32) then mL z1.2 44 15 else (0 : Int64)) → Run l G M_X12_allLines 8 34 [some (vr (some 44)), some (vi a1), none, some (vi (mI z1.2 44 12)), none, none] [vl w10] S z1.2 (some (vi q.1)) S q.2 := by
          intro w10 hw28
          subst hw28
          refine r_lstore dX12_allLines_34 (by decide) rfl ?_
          refine r_aload_n dX12_allLines_36 rfl ?_
          refine r_iconst (v := 1) dX12_allLines_37 ci_1 ?_
          refine r_putI dX12_allLines_38 fl_X12_150 ft_12_22 (Or.inl rfl) rfl (nz_b (by first | exact Or.inl rfl | exact Or.inr rfl | (split <;> first | exact Or.inl rfl | exact Or.inr rfl))).1 (nz_b (by first | exact Or.inl rfl | exact Or.inr rfl | (split <;> first | exact Or.inl rfl | exact Or.inr rfl))).2 (lp_44 hS) (lq_44 hS) ?_
          refine r_aload_n dX12_allLines_41 rfl ?_
          refine r_iload_n dX12_allLines_42 rfl ?_
          refine r_lload dX12_allLines_43 rfl ?_
          refine r_iload_n dX12_allLines_45 rfl ?_
          obtain ⟨q12, eq13, eb6⟩ := obind eb6
          refine r_callV (as := [_, _, _]) (rest := []) dX12_allLines_46 ml_X12_238 yV_X12_lineOf (c_X12_lineOf hS eq13) (by decide) rfl (lp_44 hS) (lq_44 hS) (Nat.le_of_ble_eq_true rfl) ?_
          refine r_istore_n dX12_allLines_49 (by decide) rfl ?_
          refine r_iload_n dX12_allLines_50 rfl ?_
          have J18 : ∀ (w16 : Int32) (w17 : Mm), w16 = (if q12.1 = 0 then q12.1 else (if (mI q12.2 44 13) = (4 : Int32) then q12.1 else (m_X12_fails q12.2).1)) → w17 = (if q12.1 = 0 then q12.2 else (if (mI q12.2 44 13) = (4 : Int32) then q12.2 else ((m_X12_fails q12.2).2))) → Run l G M_X12_allLines 8 67 [some (vr (some 44)), some (vi a1), some (vi w16), none, none, none] [] S w17 (some (vi q.1)) S q.2 := by
            intro w16 w17 hw26 hw27
            subst hw26
            subst hw27
            refine r_iload_n dX12_allLines_67 rfl ?_
            obtain ⟨p19, ep21, eb6⟩ := obind eb6
            have J20a : Run l G M_X12_allLines 8 75 [some (vr (some 44)), some (vi a1), some (vi (if q12.1 = 0 then q12.1 else (if (mI q12.2 44 13) = (4 : Int32) then q12.1 else (m_X12_fails q12.2).1))), none, none, none] [] S p19 (some (vi q.1)) S q.2 := by
              refine r_goto (tgt := 2) dX12_allLines_75 rfl ?_
              cases eb6
              exact r_weak (L' := [some (vr (some 44)), some (vi a1), some (vi (if q12.1 = 0 then q12.1 else (if (mI q12.2 44 13) = (4 : Int32) then q12.1 else (m_X12_fails q12.2).1))), none, none, none]) ⟨rfl, rfl, rfl, trivial⟩ hx5
            have J20 : ∀ pp : Mm, pp = p19 → Run l G M_X12_allLines 8 75 [some (vr (some 44)), some (vi a1), some (vi (if q12.1 = 0 then q12.1 else (if (mI q12.2 44 13) = (4 : Int32) then q12.1 else (m_X12_fails q12.2).1))), none, none, none] [] S pp (some (vi q.1)) S q.2 := by
              intro pp hpp
              rw [hpp]
              exact J20a
            refine r_if_eq (tgt := 75) dX12_allLines_68 rfl (fun h23 => ?_) (fun h23 => ?_)
            · replace ep21 := ite_t h23 ep21
              exact r_weak (L' := [some (vr (some 44)), some (vi a1), some (vi (if q12.1 = 0 then q12.1 else (if (mI q12.2 44 13) = (4 : Int32) then q12.1 else (m_X12_fails q12.2).1))), none, none, none]) ⟨rfl, rfl, rfl, trivial⟩ (J20 _ (Option.some.inj ep21))
            · replace ep21 := ite_f h23 ep21
              refine r_aload_n dX12_allLines_71 rfl ?_
              obtain ⟨q24, eq25, ep21⟩ := obind ep21
              refine r_callV (as := []) (rest := []) dX12_allLines_72 ml_X12_154 yV_X12_token (c_X12_token hS eq25) (by decide) rfl (lp_44 hS) (lq_44 hS) (Nat.le_of_ble_eq_true rfl) ?_
              exact r_weak (L' := [some (vr (some 44)), some (vi a1), some (vi (if q12.1 = 0 then q12.1 else (if (mI q12.2 44 13) = (4 : Int32) then q12.1 else (m_X12_fails q12.2).1))), none, none, none]) ⟨rfl, rfl, rfl, trivial⟩ (J20 _ (Option.some.inj ep21))
          refine r_if_eq (tgt := 67) dX12_allLines_51 rfl (fun h14 => ?_) (fun h14 => ?_)
          · exact r_weak (L' := [some (vr (some 44)), some (vi a1), some (vi q12.1), none, none, none]) ⟨rfl, rfl, rfl, trivial⟩ (J18 _ _ (Eq.symm (if_pos h14)) (Eq.symm (if_pos h14)))
          · refine r_aload_n dX12_allLines_54 rfl ?_
            refine r_getI dX12_allLines_55 fl_X12_127 rfl (lp_44 hS) (lq_44 hS) ?_
            refine r_iconst (v := 4) dX12_allLines_58 ci_4 ?_
            refine r_icmp_eq (tgt := 67) dX12_allLines_59 rfl (fun h15 => ?_) (fun h15 => ?_)
            · exact r_weak (L' := [some (vr (some 44)), some (vi a1), some (vi q12.1), none, none, none]) ⟨rfl, rfl, rfl, trivial⟩ (J18 _ _ (Eq.symm ((if_neg h14).trans (if_pos h15))) (Eq.symm ((if_neg h14).trans (if_pos h15))))
            · refine r_aload_n dX12_allLines_62 rfl ?_
              refine r_callV (as := []) (rest := []) dX12_allLines_63 ml_X12_142 yV_X12_fails (c_X12_fails hS) (by decide) rfl (lp_44 hS) (lq_44 hS) (Nat.le_of_ble_eq_true rfl) ?_
              refine r_istore_n dX12_allLines_66 (by decide) rfl ?_
              exact r_weak (L' := [some (vr (some 44)), some (vi a1), some (vi ((m_X12_fails q12.2).1)), none, none, none]) ⟨rfl, rfl, rfl, trivial⟩ (J18 _ _ (Eq.symm ((if_neg h14).trans (if_neg h15))) (Eq.symm ((if_neg h14).trans (if_neg h15))))
        refine r_icmp_ne (tgt := 33) dX12_allLines_23 rfl (fun h9 => ?_) (fun h9 => ?_)
        · refine r_lconst (v := 0) dX12_allLines_33 rfl ?_
          exact r_weak (L' := [some (vr (some 44)), some (vi a1), none, some (vi (mI z1.2 44 12)), none, none]) ⟨rfl, rfl, rfl, trivial⟩ (J11 _ (Eq.symm (if_neg h9)))
        · refine r_aload_n dX12_allLines_26 rfl ?_
          refine r_getL dX12_allLines_27 fl_X12_123 rfl (lp_44 hS) (lq_44 hS) ?_
          refine r_goto (tgt := 34) dX12_allLines_30 rfl ?_
          exact r_weak (L' := [some (vr (some 44)), some (vi a1), none, some (vi (mI z1.2 44 12)), none, none]) ⟨rfl, rfl, rfl, trivial⟩ (J11 _ (Eq.symm (if_pos h9)))
  exact r_weak (L' := [some (vr (some 44)), some (vi a1), some (vi (1 : Int32)), none, none, none]) ⟨rfl, rfl, rfl, trivial⟩ J3w
def m_X12_readText_b2 (a1 : Int32) (z1 : Int32 × Mm) : Option ((Int32 × Mm) ⊕ (Mm)) := if (161 : Int32) ≤ z1.1 then (some (.inr z1.2)) else (grd z1.1 161 (some (.inl (z1.1 + (1 : Int32), (sI z1.2 54 (ix z1.1) (if a1 = 0 then (if (m_X12_in z1.1 (20 : Int32) (27 : Int32)) = 0 then (0 : Int32) else (5 : Int32)) else (0 : Int32)))))))
def m_X12_readText (a1 : Int32) (mm : Mm) : Option (Int32 × Mm) := (whileF FU (m_X12_readText_b2 a1) ((0 : Int32), mm)).bind (fun p2 => (m_X12_token (sI (sI (sI p2 44 21 (-1 : Int32)) 44 10 (0 : Int32)) 44 17 (0 : Int32))).bind (fun q14 => (m_X12_allLines a1 q14).bind (fun q16 => (if q16.1 = 0 then (some q16.2) else (if a1 = 0 then (if (mI q16.2 44 17) = 0 then (if (mI q16.2 44 21) < (mI q16.2 54 (ix (0 : Int32))) then (some q16.2) else ((m_X12_addsFault (4 : Int32) (mI q16.2 44 12) q16.2).bind (fun q26 => some q26))) else (some q16.2)) else (some q16.2)) : Option (Mm)).bind (fun p18 => if (mI (sI (sI p18 47 (ix (0 : Int32)) (if q16.1 = 0 then (1 : Int32) else mI p18 44 17)) 48 (ix (0 : Int32)) (if q16.1 = 0 then mI (sI p18 47 (ix (0 : Int32)) (if q16.1 = 0 then (1 : Int32) else mI p18 44 17)) 44 16 else (if (mI (sI p18 47 (ix (0 : Int32)) (if q16.1 = 0 then (1 : Int32) else mI p18 44 17)) 44 17) ≤ 0 then (-1 : Int32) else mI (sI p18 47 (ix (0 : Int32)) (if q16.1 = 0 then (1 : Int32) else mI p18 44 17)) 44 18))) 47 (ix (0 : Int32))) = 0 then (some ((1 : Int32), (sI (sI p18 47 (ix (0 : Int32)) (if q16.1 = 0 then (1 : Int32) else mI p18 44 17)) 48 (ix (0 : Int32)) (if q16.1 = 0 then mI (sI p18 47 (ix (0 : Int32)) (if q16.1 = 0 then (1 : Int32) else mI p18 44 17)) 44 16 else (if (mI (sI p18 47 (ix (0 : Int32)) (if q16.1 = 0 then (1 : Int32) else mI p18 44 17)) 44 17) ≤ 0 then (-1 : Int32) else mI (sI p18 47 (ix (0 : Int32)) (if q16.1 = 0 then (1 : Int32) else mI p18 44 17)) 44 18))))) else (some ((0 : Int32), (sI (sI p18 47 (ix (0 : Int32)) (if q16.1 = 0 then (1 : Int32) else mI p18 44 17)) 48 (ix (0 : Int32)) (if q16.1 = 0 then mI (sI p18 47 (ix (0 : Int32)) (if q16.1 = 0 then (1 : Int32) else mI p18 44 17)) 44 16 else (if (mI (sI p18 47 (ix (0 : Int32)) (if q16.1 = 0 then (1 : Int32) else mI p18 44 17)) 44 17) ≤ 0 then (-1 : Int32) else mI (sI p18 47 (ix (0 : Int32)) (if q16.1 = 0 then (1 : Int32) else mI p18 44 17)) 44 18)))))))))
set_option maxHeartbeats 4000000 in
set_option maxRecDepth 100000 in
theorem c_X12_readText {l : Launch} {G : Gt} {S : Sk} (hS : Lay S) {a1 : Int32} {mm : Mm} {q : Int32 × Mm} (e : m_X12_readText a1 mm = some q) : CallOK l G M_X12_readText yX12_readText 9 [vr (some 44), vi a1] S mm (some (vi q.1)) S q.2 := by
  refine call_of_run rfl rfl rfl (Nat.le_of_ble_eq_true rfl) ?_
  show Run l G M_X12_readText 9 0 [some (vr (some 44)), some (vi a1), none] [] S mm (some (vi q.1)) S q.2
  unfold m_X12_readText at e
  refine r_iconst (v := 0) dX12_readText_0 ci_0 ?_
  refine r_istore_n dX12_readText_1 (by decide) rfl ?_
  obtain ⟨p2, eb6w, e⟩ := obind e
  have J3a : Run l G M_X12_readText 9 41 [some (vr (some 44)), some (vi a1), none] [] S p2 (some (vi q.1)) S q.2 := by
    refine r_aload_n dX12_readText_41 rfl ?_
    refine r_iconst (v := -1) dX12_readText_42 ci_m1 ?_
    refine r_putI dX12_readText_43 fl_X12_175 ft_12_21 (Or.inl rfl) rfl rfl rfl (lp_44 hS) (lq_44 hS) ?_
    refine r_aload_n dX12_readText_46 rfl ?_
    refine r_iconst (v := 0) dX12_readText_47 ci_0 ?_
    refine r_putI dX12_readText_48 fl_X12_110 ft_12_10 (Or.inl rfl) rfl rfl rfl (lp_44 hS) (lq_44 hS) ?_
    refine r_aload_n dX12_readText_51 rfl ?_
    refine r_iconst (v := 0) dX12_readText_52 ci_0 ?_
    refine r_putI dX12_readText_53 fl_X12_136 ft_12_17 (Or.inl rfl) rfl rfl rfl (lp_44 hS) (lq_44 hS) ?_
    refine r_aload_n dX12_readText_56 rfl ?_
    obtain ⟨q14, eq15, e⟩ := obind e
    refine r_callV (as := []) (rest := []) dX12_readText_57 ml_X12_154 yV_X12_token (c_X12_token hS eq15) (by decide) rfl (lp_44 hS) (lq_44 hS) (Nat.le_of_ble_eq_true rfl) ?_
    refine r_aload_n dX12_readText_60 rfl ?_
    refine r_iload_n dX12_readText_61 rfl ?_
    obtain ⟨q16, eq17, e⟩ := obind e
    refine r_callV (as := [_]) (rest := []) dX12_readText_62 ml_X12_242 yV_X12_allLines (c_X12_allLines hS eq17) (by decide) rfl (lp_44 hS) (lq_44 hS) (Nat.le_of_ble_eq_true rfl) ?_
    refine r_istore_n dX12_readText_65 (by decide) rfl ?_
    refine r_iload_n dX12_readText_66 rfl ?_
    obtain ⟨p18, ep20, e⟩ := obind e
    have J19a : Run l G M_X12_readText 9 103 [some (vr (some 44)), none, some (vi q16.1)] [] S p18 (some (vi q.1)) S q.2 := by
      refine r_aload_n dX12_readText_103 rfl ?_
      refine r_getR dX12_readText_104 fl_X12_17 rfl (lp_44 hS) (lq_44 hS) (lr_44_3 hS) ?_
      refine r_iconst (v := 0) dX12_readText_107 ci_0 ?_
      refine r_iload_n dX12_readText_108 rfl ?_
      have J30 : ∀ (w29 : Int32), w29 = (if q16.1 = 0 then (1 : Int32) else mI p18 44 17) → Run l G M_X12_readText 9 120 [some (vr (some 44)), none, some (vi q16.1)] [vi w29, vi (0 : Int32), vr (some 47)] S p18 (some (vi q.1)) S q.2 := by
        intro w29 hw37
        subst hw37
        refine r_iast dX12_readText_120 (lp_47 hS) (lk_47 hS) (vp_in_iff.mpr ⟨by decide, by decide⟩) ?_
        refine r_aload_n dX12_readText_121 rfl ?_
        refine r_getR dX12_readText_122 fl_X12_20 rfl (lp_44 hS) (lq_44 hS) (lr_44_4 hS) ?_
        refine r_iconst (v := 0) dX12_readText_125 ci_0 ?_
        refine r_iload_n dX12_readText_126 rfl ?_
        have J34 : ∀ (w33 : Int32), w33 = (if q16.1 = 0 then mI (sI p18 47 (ix (0 : Int32)) (if q16.1 = 0 then (1 : Int32) else mI p18 44 17)) 44 16 else (if (mI (sI p18 47 (ix (0 : Int32)) (if q16.1 = 0 then (1 : Int32) else mI p18 44 17)) 44 17) ≤ 0 then (-1 : Int32) else mI (sI p18 47 (ix (0 : Int32)) (if q16.1 = 0 then (1 : Int32) else mI p18 44 17)) 44 18)) → Run l G M_X12_readText 9 152 [some (vr (some 44)), none, none] [vi w33, vi (0 : Int32), vr (some 48)] S (sI p18 47 (ix (0 : Int32)) (if q16.1 = 0 then (1 : Int32) else mI p18 44 17)) (some (vi q.1)) S q.2 := by
          intro w33 hw36
          subst hw36
          refine r_iast dX12_readText_152 (lp_48 hS) (lk_48 hS) (vp_in_iff.mpr ⟨by decide, by decide⟩) ?_
          refine r_aload_n dX12_readText_153 rfl ?_
          refine r_getR dX12_readText_154 fl_X12_17 rfl (lp_44 hS) (lq_44 hS) (lr_44_3 hS) ?_
          refine r_iconst (v := 0) dX12_readText_157 ci_0 ?_
          refine r_iald dX12_readText_158 (lp_47 hS) (lk_47 hS) (vp_in_iff.mpr ⟨by decide, by decide⟩) ?_
          refine r_if_ne (tgt := 166) dX12_readText_159 rfl (fun h35 => ?_) (fun h35 => ?_)
          · replace e := ite_f h35 e
            refine r_iconst (v := 0) dX12_readText_166 ci_0 ?_
            cases e
            exact r_ireturn dX12_readText_167 rfl (nz_b (by first | exact Or.inl rfl | exact Or.inr rfl)).1
          · replace e := ite_t h35 e
            refine r_iconst (v := 1) dX12_readText_162 ci_1 ?_
            refine r_goto (tgt := 167) dX12_readText_163 rfl ?_
            cases e
            exact r_ireturn dX12_readText_167 rfl (nz_b (by first | exact Or.inl rfl | exact Or.inr rfl)).1
        refine r_if_ne (tgt := 137) dX12_readText_127 rfl (fun h31 => ?_) (fun h31 => ?_)
        · refine r_aload_n dX12_readText_137 rfl ?_
          refine r_getI dX12_readText_138 fl_X12_136 rfl (lp_44 hS) (lq_44 hS) ?_
          refine r_if_le (tgt := 151) dX12_readText_141 rfl (fun h32 => ?_) (fun h32 => ?_)
          · refine r_iconst (v := -1) dX12_readText_151 ci_m1 ?_
            exact r_weak (L' := [some (vr (some 44)), none, none]) ⟨rfl, trivial⟩ (J34 _ (Eq.symm ((if_neg h31).trans (if_pos h32))))
          · refine r_aload_n dX12_readText_144 rfl ?_
            refine r_getI dX12_readText_145 fl_X12_139 rfl (lp_44 hS) (lq_44 hS) ?_
            refine r_goto (tgt := 152) dX12_readText_148 rfl ?_
            exact r_weak (L' := [some (vr (some 44)), none, none]) ⟨rfl, trivial⟩ (J34 _ (Eq.symm ((if_neg h31).trans (if_neg h32))))
        · refine r_aload_n dX12_readText_130 rfl ?_
          refine r_getI dX12_readText_131 fl_X12_133 rfl (lp_44 hS) (lq_44 hS) ?_
          refine r_goto (tgt := 152) dX12_readText_134 rfl ?_
          exact r_weak (L' := [some (vr (some 44)), none, none]) ⟨rfl, trivial⟩ (J34 _ (Eq.symm (if_pos h31)))
      refine r_if_eq (tgt := 119) dX12_readText_109 rfl (fun h28 => ?_) (fun h28 => ?_)
      · refine r_iconst (v := 1) dX12_readText_119 ci_1 ?_
        exact r_weak (L' := [some (vr (some 44)), none, some (vi q16.1)]) ⟨rfl, rfl, trivial⟩ (J30 _ (Eq.symm (if_pos h28)))
      · refine r_aload_n dX12_readText_112 rfl ?_
        refine r_getI dX12_readText_113 fl_X12_136 rfl (lp_44 hS) (lq_44 hS) ?_
        refine r_goto (tgt := 120) dX12_readText_116 rfl ?_
        exact r_weak (L' := [some (vr (some 44)), none, some (vi q16.1)]) ⟨rfl, rfl, trivial⟩ (J30 _ (Eq.symm (if_neg h28)))
    have J19 : ∀ pp : Mm, pp = p18 → Run l G M_X12_readText 9 103 [some (vr (some 44)), none, some (vi q16.1)] [] S pp (some (vi q.1)) S q.2 := by
      intro pp hpp
      rw [hpp]
      exact J19a
    refine r_if_eq (tgt := 103) dX12_readText_67 rfl (fun h22 => ?_) (fun h22 => ?_)
    · replace ep20 := ite_t h22 ep20
      exact r_weak (L' := [some (vr (some 44)), none, some (vi q16.1)]) ⟨rfl, rfl, trivial⟩ (J19 _ (Option.some.inj ep20))
    · replace ep20 := ite_f h22 ep20
      refine r_iload_n dX12_readText_70 rfl ?_
      refine r_if_ne (tgt := 103) dX12_readText_71 rfl (fun h23 => ?_) (fun h23 => ?_)
      · replace ep20 := ite_f h23 ep20
        exact r_weak (L' := [some (vr (some 44)), none, some (vi q16.1)]) ⟨rfl, rfl, trivial⟩ (J19 _ (Option.some.inj ep20))
      · replace ep20 := ite_t h23 ep20
        refine r_aload_n dX12_readText_74 rfl ?_
        refine r_getI dX12_readText_75 fl_X12_136 rfl (lp_44 hS) (lq_44 hS) ?_
        refine r_if_ne (tgt := 103) dX12_readText_78 rfl (fun h24 => ?_) (fun h24 => ?_)
        · replace ep20 := ite_f h24 ep20
          exact r_weak (L' := [some (vr (some 44)), none, some (vi q16.1)]) ⟨rfl, rfl, trivial⟩ (J19 _ (Option.some.inj ep20))
        · replace ep20 := ite_t h24 ep20
          refine r_aload_n dX12_readText_81 rfl ?_
          refine r_getI dX12_readText_82 fl_X12_175 rfl (lp_44 hS) (lq_44 hS) ?_
          refine r_aload_n dX12_readText_85 rfl ?_
          refine r_getR dX12_readText_86 fl_X12_38 rfl (lp_44 hS) (lq_44 hS) (lr_44_19 hS) ?_
          refine r_iconst (v := 0) dX12_readText_89 ci_0 ?_
          refine r_iald dX12_readText_90 (lp_54 hS) (lk_54 hS) (vp_in_iff.mpr ⟨by decide, by decide⟩) ?_
          refine r_icmp_lt (tgt := 103) dX12_readText_91 rfl (fun h25 => ?_) (fun h25 => ?_)
          · replace ep20 := ite_t h25 ep20
            exact r_weak (L' := [some (vr (some 44)), none, some (vi q16.1)]) ⟨rfl, rfl, trivial⟩ (J19 _ (Option.some.inj ep20))
          · replace ep20 := ite_f h25 ep20
            refine r_aload_n dX12_readText_94 rfl ?_
            refine r_iconst (v := 4) dX12_readText_95 ci_4 ?_
            refine r_aload_n dX12_readText_96 rfl ?_
            refine r_getI dX12_readText_97 fl_X12_120 rfl (lp_44 hS) (lq_44 hS) ?_
            obtain ⟨q26, eq27, ep20⟩ := obind ep20
            refine r_callV (as := [_, _]) (rest := []) dX12_readText_100 ml_X12_146 yV_X12_addsFault (c_X12_addsFault hS eq27) (by decide) rfl (lp_44 hS) (lq_44 hS) (Nat.le_of_ble_eq_true rfl) ?_
            exact r_weak (L' := [some (vr (some 44)), none, some (vi q16.1)]) ⟨rfl, rfl, trivial⟩ (J19 _ (Option.some.inj ep20))
  have J3 : ∀ pp : Mm, pp = p2 → Run l G M_X12_readText 9 41 [some (vr (some 44)), some (vi a1), none] [] S pp (some (vi q.1)) S q.2 := by
    intro pp hpp
    rw [hpp]
    exact J3a
  have J3w : Run l G M_X12_readText 9 2 [some (vr (some 44)), some (vi a1), some (vi (0 : Int32))] [] S mm (some (vi q.1)) S q.2 := by
    refine while_run (s := ((0 : Int32), mm)) (Gs := fun (z1 : Int32 × Mm) => Run l G M_X12_readText 9 2 [some (vr (some 44)), some (vi a1), some (vi z1.1)] [] S z1.2 (some (vi q.1)) S q.2) eb6w ?_
    intro z1 x4y eb6 hx5
    unfold m_X12_readText_b2 at eb6
    refine r_iload_n dX12_readText_2 rfl ?_
    refine r_sipush (v := 161) dX12_readText_3 cs_161 ?_
    refine r_icmp_ge (tgt := 41) dX12_readText_6 rfl (fun h7 => ?_) (fun h7 => ?_)
    · replace eb6 := ite_t h7 eb6
      cases eb6
      exact r_weak (L' := [some (vr (some 44)), some (vi a1), none]) ⟨rfl, rfl, trivial⟩ (J3 _ hx5)
    · replace eb6 := ite_f h7 eb6
      refine r_aload_n dX12_readText_9 rfl ?_
      refine r_getR dX12_readText_10 fl_X12_38 rfl (lp_44 hS) (lq_44 hS) (lr_44_19 hS) ?_
      refine r_iload_n dX12_readText_13 rfl ?_
      refine r_iload_n dX12_readText_14 rfl ?_
      have J11 : ∀ (w10 : Int32), w10 = (if a1 = 0 then (if (m_X12_in z1.1 (20 : Int32) (27 : Int32)) = 0 then (0 : Int32) else (5 : Int32)) else (0 : Int32)) → Run l G M_X12_readText 9 34 [some (vr (some 44)), some (vi a1), some (vi z1.1)] [vi w10, vi z1.1, vr (some 54)] S z1.2 (some (vi q.1)) S q.2 := by
        intro w10 hw13
        subst hw13
        obtain ⟨hg12, eb6⟩ := grd_some eb6
        refine r_iast dX12_readText_34 (lp_54 hS) (lk_54 hS) hg12 ?_
        refine r_iinc (v := _ + (1 : Int32)) dX12_readText_35 rfl (congrArg (_ + ·) ci_1) (by decide) rfl ?_
        refine r_goto (tgt := 2) dX12_readText_38 rfl ?_
        cases eb6
        exact r_weak (L' := [some (vr (some 44)), some (vi a1), some (vi (z1.1 + (1 : Int32)))]) ⟨rfl, rfl, rfl, trivial⟩ hx5
      refine r_if_ne (tgt := 33) dX12_readText_15 rfl (fun h8 => ?_) (fun h8 => ?_)
      · refine r_iconst (v := 0) dX12_readText_33 ci_0 ?_
        exact r_weak (L' := [some (vr (some 44)), some (vi a1), some (vi z1.1)]) ⟨rfl, rfl, rfl, trivial⟩ (J11 _ (Eq.symm (if_neg h8)))
      · refine r_iload_n dX12_readText_18 rfl ?_
        refine r_bipush (v := 20) dX12_readText_19 cb_20 ?_
        refine r_bipush (v := 27) dX12_readText_21 cb_27 ?_
        refine r_callS (as := [_, _, _]) (rest := [_, _]) dX12_readText_23 ml_X12_102 yS_X12_in (c_X12_in hS) (by decide) rfl (Nat.le_of_ble_eq_true rfl) ?_
        refine r_if_eq (tgt := 33) dX12_readText_26 rfl (fun h9 => ?_) (fun h9 => ?_)
        · refine r_iconst (v := 0) dX12_readText_33 ci_0 ?_
          exact r_weak (L' := [some (vr (some 44)), some (vi a1), some (vi z1.1)]) ⟨rfl, rfl, rfl, trivial⟩ (J11 _ (Eq.symm ((if_pos h8).trans (if_pos h9))))
        · refine r_iconst (v := 5) dX12_readText_29 ci_5 ?_
          refine r_goto (tgt := 34) dX12_readText_30 rfl ?_
          exact r_weak (L' := [some (vr (some 44)), some (vi a1), some (vi z1.1)]) ⟨rfl, rfl, rfl, trivial⟩ (J11 _ (Eq.symm ((if_pos h8).trans (if_neg h9))))
  exact r_weak (L' := [some (vr (some 44)), some (vi a1), some (vi (0 : Int32))]) ⟨rfl, rfl, rfl, trivial⟩ J3w
def m_X12_store_b3 (a1 : Nat) (a2 : Int32) (a3 : Int32) (S : Sk) (z1 : Int32 × Mm) : Option ((Int32 × Mm) ⊕ (Mm)) := if a2 ≤ z1.1 then (some (.inr z1.2)) else (grd z1.1 161 (grd ((a2 * a3) + z1.1) ((sK S a1).2) (some (.inl (z1.1 + (1 : Int32), (sI z1.2 a1 (ix ((a2 * a3) + z1.1)) (mI z1.2 54 (ix z1.1))))))))
def m_X12_store (S : Sk) (a1 : Nat) (a2 : Int32) (a3 : Int32) (mm : Mm) : Option (Mm) := (whileF FU (m_X12_store_b3 a1 a2 a3 S) ((0 : Int32), mm)).bind (fun p2 => some p2)
set_option maxHeartbeats 4000000 in
set_option maxRecDepth 100000 in
theorem c_X12_store {l : Launch} {G : Gt} {S : Sk} (hS : Lay S) {a1 : Nat} {a2 : Int32} {a3 : Int32} {mm : Mm} (ha1 : a1 < sN S ∧ (sK S a1).1 = 20) {q : Mm} (e : m_X12_store S a1 a2 a3 mm = some q) : CallOK l G M_X12_store yX12_store 0 [vr (some 44), vr (some a1), vi a2, vi a3] S mm (none) S q := by
  refine call_of_run rfl rfl rfl (Nat.le_of_ble_eq_true rfl) ?_
  show Run l G M_X12_store 0 0 [some (vr (some 44)), some (vr (some a1)), some (vi a2), some (vi a3), none] [] S mm (none) S q
  unfold m_X12_store at e
  refine r_iconst (v := 0) dX12_store_0 ci_0 ?_
  refine r_istore dX12_store_1 (by decide) rfl ?_
  obtain ⟨p2, eb6w, e⟩ := obind e
  have J3a : Run l G M_X12_store 0 30 [none, none, none, none, none] [] S p2 (none) S q := by
    cases e
    exact r_return dX12_store_30 rfl
  have J3 : ∀ pp : Mm, pp = p2 → Run l G M_X12_store 0 30 [none, none, none, none, none] [] S pp (none) S q := by
    intro pp hpp
    rw [hpp]
    exact J3a
  have J3w : Run l G M_X12_store 0 3 [some (vr (some 44)), some (vr (some a1)), some (vi a2), some (vi a3), some (vi (0 : Int32))] [] S mm (none) S q := by
    refine while_run (s := ((0 : Int32), mm)) (Gs := fun (z1 : Int32 × Mm) => Run l G M_X12_store 0 3 [some (vr (some 44)), some (vr (some a1)), some (vi a2), some (vi a3), some (vi z1.1)] [] S z1.2 (none) S q) eb6w ?_
    intro z1 x4y eb6 hx5
    unfold m_X12_store_b3 at eb6
    refine r_iload dX12_store_3 rfl ?_
    refine r_iload_n dX12_store_5 rfl ?_
    refine r_icmp_ge (tgt := 30) dX12_store_6 rfl (fun h7 => ?_) (fun h7 => ?_)
    · replace eb6 := ite_t h7 eb6
      cases eb6
      exact r_weak (L' := [none, none, none, none, none]) trivial (J3 _ hx5)
    · replace eb6 := ite_f h7 eb6
      refine r_aload_n dX12_store_9 rfl ?_
      refine r_iload_n dX12_store_10 rfl ?_
      refine r_iload_n dX12_store_11 rfl ?_
      refine r_imul dX12_store_12 ?_
      refine r_iload dX12_store_13 rfl ?_
      refine r_iadd dX12_store_15 ?_
      refine r_aload_n dX12_store_16 rfl ?_
      refine r_getR dX12_store_17 fl_X12_38 rfl (lp_44 hS) (lq_44 hS) (lr_44_19 hS) ?_
      refine r_iload dX12_store_20 rfl ?_
      obtain ⟨hg8, eb6⟩ := grd_some eb6
      refine r_iald dX12_store_22 (lp_54 hS) (lk_54 hS) hg8 ?_
      obtain ⟨hg9, eb6⟩ := grd_some eb6
      refine r_iast dX12_store_23 ha1.1 (arr_k ha1) hg9 ?_
      refine r_iinc (v := _ + (1 : Int32)) dX12_store_24 rfl (congrArg (_ + ·) ci_1) (by decide) rfl ?_
      refine r_goto (tgt := 3) dX12_store_27 rfl ?_
      cases eb6
      exact r_weak (L' := [some (vr (some 44)), some (vr (some a1)), some (vi a2), some (vi a3), some (vi (z1.1 + (1 : Int32)))]) ⟨rfl, rfl, rfl, rfl, rfl, trivial⟩ hx5
  exact r_weak (L' := [some (vr (some 44)), some (vr (some a1)), some (vi a2), some (vi a3), some (vi (0 : Int32))]) ⟨rfl, rfl, rfl, rfl, rfl, trivial⟩ J3w
def m_X12_storeOf (S : Sk) (a1 : Int32) (a2 : Int32) (mm : Mm) : Option (Mm) := if a1 = 0 then ((m_X12_store S 50 (72 : Int32) a2 mm).bind (fun q10 => some q10)) else (if a1 = (1 : Int32) then ((m_X12_store S 51 (161 : Int32) a2 mm).bind (fun q8 => some q8)) else (if a1 = (2 : Int32) then ((m_X12_store S 52 (13 : Int32) a2 mm).bind (fun q6 => some q6)) else ((m_X12_store S 53 (25 : Int32) a2 mm).bind (fun q4 => some q4))))
set_option maxHeartbeats 4000000 in
set_option maxRecDepth 100000 in
theorem c_X12_storeOf {l : Launch} {G : Gt} {S : Sk} (hS : Lay S) {a1 : Int32} {a2 : Int32} {mm : Mm} {q : Mm} (e : m_X12_storeOf S a1 a2 mm = some q) : CallOK l G M_X12_storeOf yX12_storeOf 1 [vr (some 44), vi a1, vi a2] S mm (none) S q := by
  refine call_of_run rfl rfl rfl (Nat.le_of_ble_eq_true rfl) ?_
  show Run l G M_X12_storeOf 1 0 [some (vr (some 44)), some (vi a1), some (vi a2)] [] S mm (none) S q
  unfold m_X12_storeOf at e
  refine r_iload_n dX12_storeOf_0 rfl ?_
  refine r_if_ne (tgt := 18) dX12_storeOf_1 rfl (fun h1 => ?_) (fun h1 => ?_)
  · replace e := ite_f h1 e
    refine r_iload_n dX12_storeOf_18 rfl ?_
    refine r_iconst (v := 1) dX12_storeOf_19 ci_1 ?_
    refine r_icmp_ne (tgt := 38) dX12_storeOf_20 rfl (fun h2 => ?_) (fun h2 => ?_)
    · replace e := ite_f h2 e
      refine r_iload_n dX12_storeOf_38 rfl ?_
      refine r_iconst (v := 2) dX12_storeOf_39 ci_2 ?_
      refine r_icmp_ne (tgt := 57) dX12_storeOf_40 rfl (fun h3 => ?_) (fun h3 => ?_)
      · replace e := ite_f h3 e
        refine r_aload_n dX12_storeOf_57 rfl ?_
        refine r_aload_n dX12_storeOf_58 rfl ?_
        refine r_getR dX12_storeOf_59 fl_X12_35 rfl (lp_44 hS) (lq_44 hS) (lr_44_9 hS) ?_
        refine r_bipush (v := 25) dX12_storeOf_62 cb_25 ?_
        refine r_iload_n dX12_storeOf_64 rfl ?_
        obtain ⟨q4, eq5, e⟩ := obind e
        refine r_callV (as := [_, _, _]) (rest := []) dX12_storeOf_65 ml_X12_245 yV_X12_store (c_X12_store hS (la_53 hS) eq5) (by decide) rfl (lp_44 hS) (lq_44 hS) (Nat.le_of_ble_eq_true rfl) ?_
        cases e
        exact r_return dX12_storeOf_68 rfl
      · replace e := ite_t h3 e
        refine r_aload_n dX12_storeOf_43 rfl ?_
        refine r_aload_n dX12_storeOf_44 rfl ?_
        refine r_getR dX12_storeOf_45 fl_X12_32 rfl (lp_44 hS) (lq_44 hS) (lr_44_8 hS) ?_
        refine r_bipush (v := 13) dX12_storeOf_48 cb_13 ?_
        refine r_iload_n dX12_storeOf_50 rfl ?_
        obtain ⟨q6, eq7, e⟩ := obind e
        refine r_callV (as := [_, _, _]) (rest := []) dX12_storeOf_51 ml_X12_245 yV_X12_store (c_X12_store hS (la_52 hS) eq7) (by decide) rfl (lp_44 hS) (lq_44 hS) (Nat.le_of_ble_eq_true rfl) ?_
        refine r_goto (tgt := 68) dX12_storeOf_54 rfl ?_
        cases e
        exact r_return dX12_storeOf_68 rfl
    · replace e := ite_t h2 e
      refine r_aload_n dX12_storeOf_23 rfl ?_
      refine r_aload_n dX12_storeOf_24 rfl ?_
      refine r_getR dX12_storeOf_25 fl_X12_29 rfl (lp_44 hS) (lq_44 hS) (lr_44_7 hS) ?_
      refine r_sipush (v := 161) dX12_storeOf_28 cs_161 ?_
      refine r_iload_n dX12_storeOf_31 rfl ?_
      obtain ⟨q8, eq9, e⟩ := obind e
      refine r_callV (as := [_, _, _]) (rest := []) dX12_storeOf_32 ml_X12_245 yV_X12_store (c_X12_store hS (la_51 hS) eq9) (by decide) rfl (lp_44 hS) (lq_44 hS) (Nat.le_of_ble_eq_true rfl) ?_
      refine r_goto (tgt := 68) dX12_storeOf_35 rfl ?_
      cases e
      exact r_return dX12_storeOf_68 rfl
  · replace e := ite_t h1 e
    refine r_aload_n dX12_storeOf_4 rfl ?_
    refine r_aload_n dX12_storeOf_5 rfl ?_
    refine r_getR dX12_storeOf_6 fl_X12_26 rfl (lp_44 hS) (lq_44 hS) (lr_44_6 hS) ?_
    refine r_bipush (v := 72) dX12_storeOf_9 cb_72 ?_
    refine r_iload_n dX12_storeOf_11 rfl ?_
    obtain ⟨q10, eq11, e⟩ := obind e
    refine r_callV (as := [_, _, _]) (rest := []) dX12_storeOf_12 ml_X12_245 yV_X12_store (c_X12_store hS (la_50 hS) eq11) (by decide) rfl (lp_44 hS) (lq_44 hS) (Nat.le_of_ble_eq_true rfl) ?_
    refine r_goto (tgt := 68) dX12_storeOf_15 rfl ?_
    cases e
    exact r_return dX12_storeOf_68 rfl
def m_X12_text (S : Sk) (a1 : Int32) (a2 : Int32) (mm : Mm) : Option (Int32 × Mm) := if (m_X12_in a1 (0 : Int32) (3 : Int32)) = 0 then (some ((-2 : Int32), (sI (sI (sI (sI (sI mm 44 0 (0 : Int32)) 44 11 (mI (sI mm 44 0 (0 : Int32)) 46 (ix (0 : Int32)))) 46 (ix (0 : Int32)) (0 : Int32)) 47 (ix (0 : Int32)) (0 : Int32)) 48 (ix (0 : Int32)) (-1 : Int32)))) else (bS (if a2 = (-1 : Int32) then (grd a1 16 (if (mI (sI (sI (sI (sI (sI mm 44 0 (0 : Int32)) 44 11 (mI (sI mm 44 0 (0 : Int32)) 46 (ix (0 : Int32)))) 46 (ix (0 : Int32)) (0 : Int32)) 47 (ix (0 : Int32)) (0 : Int32)) 48 (ix (0 : Int32)) (-1 : Int32)) 49 (ix a1)) = (2 : Int32) then (some (.inr ((-2 : Int32), (sI (sI (sI (sI (sI mm 44 0 (0 : Int32)) 44 11 (mI (sI mm 44 0 (0 : Int32)) 46 (ix (0 : Int32)))) 46 (ix (0 : Int32)) (0 : Int32)) 47 (ix (0 : Int32)) (0 : Int32)) 48 (ix (0 : Int32)) (-1 : Int32))))) else (some (.inl ())))) else ((m_X12_is a1 a2 (sI (sI (sI (sI (sI mm 44 0 (0 : Int32)) 44 11 (mI (sI mm 44 0 (0 : Int32)) 46 (ix (0 : Int32)))) 46 (ix (0 : Int32)) (0 : Int32)) 47 (ix (0 : Int32)) (0 : Int32)) 48 (ix (0 : Int32)) (-1 : Int32))).bind (fun q7 => if q7 = 0 then (some (.inr ((-2 : Int32), (sI (sI (sI (sI (sI mm 44 0 (0 : Int32)) 44 11 (mI (sI mm 44 0 (0 : Int32)) 46 (ix (0 : Int32)))) 46 (ix (0 : Int32)) (0 : Int32)) 47 (ix (0 : Int32)) (0 : Int32)) 48 (ix (0 : Int32)) (-1 : Int32))))) else (some (.inl ())))) : Option ((Unit) ⊕ (Int32 × Mm))) (fun p2 => (m_X12_readText a1 (sI (sI (sI (sI (sI mm 44 0 (0 : Int32)) 44 11 (mI (sI mm 44 0 (0 : Int32)) 46 (ix (0 : Int32)))) 46 (ix (0 : Int32)) (0 : Int32)) 47 (ix (0 : Int32)) (0 : Int32)) 48 (ix (0 : Int32)) (-1 : Int32))).bind (fun q12 => if q12.1 = 0 then (some ((-1 : Int32), q12.2)) else ((if a2 = (-1 : Int32) then (grd a1 16 (some (mI q12.2 49 (ix a1)))) else (some a2) : Option (Int32)).bind (fun p15 => grd a1 16 (grd a1 16 ((m_X12_storeOf S a1 p15 (sI q12.2 49 (ix a1) ((mI q12.2 49 (ix a1)) + (if a2 = (-1 : Int32) then (1 : Int32) else (0 : Int32))))).bind (fun q26 => some (p15, q26)))))))))
set_option maxHeartbeats 4000000 in
set_option maxRecDepth 100000 in
theorem c_X12_text {l : Launch} {G : Gt} {S : Sk} (hS : Lay S) {a1 : Int32} {a2 : Int32} {mm : Mm} {q : Int32 × Mm} (e : m_X12_text S a1 a2 mm = some q) : CallOK l G M_X12_text yX12_text 10 [vr (some 44), vi a1, vi a2] S mm (some (vi q.1)) S q.2 := by
  refine call_of_run rfl rfl rfl (Nat.le_of_ble_eq_true rfl) ?_
  show Run l G M_X12_text 10 0 [some (vr (some 44)), some (vi a1), some (vi a2), none] [] S mm (some (vi q.1)) S q.2
  unfold m_X12_text at e
  refine r_aload_n dX12_text_0 rfl ?_
  refine r_iconst (v := 0) dX12_text_1 ci_0 ?_
  refine r_putI dX12_text_2 fl_X12_90 ft_12_0 (Or.inl rfl) rfl rfl rfl (lp_44 hS) (lq_44 hS) ?_
  refine r_aload_n dX12_text_5 rfl ?_
  refine r_aload_n dX12_text_6 rfl ?_
  refine r_getR dX12_text_7 fl_X12_13 rfl (lp_44 hS) (lq_44 hS) (lr_44_2 hS) ?_
  refine r_iconst (v := 0) dX12_text_10 ci_0 ?_
  refine r_iald dX12_text_11 (lp_46 hS) (lk_46 hS) (vp_in_iff.mpr ⟨by decide, by decide⟩) ?_
  refine r_putI dX12_text_12 fl_X12_113 ft_12_11 (Or.inl rfl) rfl rfl rfl (lp_44 hS) (lq_44 hS) ?_
  refine r_aload_n dX12_text_15 rfl ?_
  refine r_getR dX12_text_16 fl_X12_13 rfl (lp_44 hS) (lq_44 hS) (lr_44_2 hS) ?_
  refine r_iconst (v := 0) dX12_text_19 ci_0 ?_
  refine r_iconst (v := 0) dX12_text_20 ci_0 ?_
  refine r_iast dX12_text_21 (lp_46 hS) (lk_46 hS) (vp_in_iff.mpr ⟨by decide, by decide⟩) ?_
  refine r_aload_n dX12_text_22 rfl ?_
  refine r_getR dX12_text_23 fl_X12_17 rfl (lp_44 hS) (lq_44 hS) (lr_44_3 hS) ?_
  refine r_iconst (v := 0) dX12_text_26 ci_0 ?_
  refine r_iconst (v := 0) dX12_text_27 ci_0 ?_
  refine r_iast dX12_text_28 (lp_47 hS) (lk_47 hS) (vp_in_iff.mpr ⟨by decide, by decide⟩) ?_
  refine r_aload_n dX12_text_29 rfl ?_
  refine r_getR dX12_text_30 fl_X12_20 rfl (lp_44 hS) (lq_44 hS) (lr_44_4 hS) ?_
  refine r_iconst (v := 0) dX12_text_33 ci_0 ?_
  refine r_iconst (v := -1) dX12_text_34 ci_m1 ?_
  refine r_iast dX12_text_35 (lp_48 hS) (lk_48 hS) (vp_in_iff.mpr ⟨by decide, by decide⟩) ?_
  refine r_iload_n dX12_text_36 rfl ?_
  refine r_iconst (v := 0) dX12_text_37 ci_0 ?_
  refine r_iconst (v := 3) dX12_text_38 ci_3 ?_
  refine r_callS (as := [_, _, _]) (rest := []) dX12_text_39 ml_X12_102 yS_X12_in (c_X12_in hS) (by decide) rfl (Nat.le_of_ble_eq_true rfl) ?_
  refine r_if_eq (tgt := 72) dX12_text_42 rfl (fun h1 => ?_) (fun h1 => ?_)
  · replace e := ite_t h1 e
    refine r_bipush (v := -2) dX12_text_72 cb_m2 ?_
    cases e
    exact r_ireturn dX12_text_74 rfl rfl
  · replace e := ite_f h1 e
    refine r_iload_n dX12_text_45 rfl ?_
    refine r_iconst (v := -1) dX12_text_46 ci_m1 ?_
    obtain ⟨x5, ep4, elx5, erx5⟩ := bS_some e
    have J3 : ∀ p2 : Unit, x5 = .inl p2 → Run l G M_X12_text 10 75 [some (vr (some 44)), some (vi a1), some (vi a2), none] [] S (sI (sI (sI (sI (sI mm 44 0 (0 : Int32)) 44 11 (mI (sI mm 44 0 (0 : Int32)) 46 (ix (0 : Int32)))) 46 (ix (0 : Int32)) (0 : Int32)) 47 (ix (0 : Int32)) (0 : Int32)) 48 (ix (0 : Int32)) (-1 : Int32)) (some (vi q.1)) S q.2 := by
      intro p2 hp2
      replace e := elx5 p2 hp2
      refine r_aload_n dX12_text_75 rfl ?_
      refine r_iload_n dX12_text_76 rfl ?_
      obtain ⟨q12, eq13, e⟩ := obind e
      refine r_callV (as := [_]) (rest := []) dX12_text_77 ml_X12_252 yV_X12_readText (c_X12_readText hS eq13) (by decide) rfl (lp_44 hS) (lq_44 hS) (Nat.le_of_ble_eq_true rfl) ?_
      refine r_if_ne (tgt := 85) dX12_text_80 rfl (fun h14 => ?_) (fun h14 => ?_)
      · replace e := ite_f h14 e
        refine r_iload_n dX12_text_85 rfl ?_
        refine r_iconst (v := -1) dX12_text_86 ci_m1 ?_
        obtain ⟨p15, ep17, e⟩ := obind e
        have J16a : Run l G M_X12_text 10 100 [some (vr (some 44)), some (vi a1), some (vi a2), none] [vi p15] S q12.2 (some (vi q.1)) S q.2 := by
          refine r_istore_n dX12_text_100 (by decide) rfl ?_
          refine r_aload_n dX12_text_101 rfl ?_
          refine r_getR dX12_text_102 fl_X12_23 rfl (lp_44 hS) (lq_44 hS) (lr_44_5 hS) ?_
          refine r_iload_n dX12_text_105 rfl ?_
          refine r_dup2 dX12_text_106 rfl rfl ?_
          obtain ⟨hg21, e⟩ := grd_some e
          refine r_iald dX12_text_107 (lp_49 hS) (lk_49 hS) hg21 ?_
          refine r_iload_n dX12_text_108 rfl ?_
          refine r_iconst (v := -1) dX12_text_109 ci_m1 ?_
          have J24 : ∀ (w23 : Int32), w23 = (if a2 = (-1 : Int32) then (1 : Int32) else (0 : Int32)) → Run l G M_X12_text 10 118 [some (vr (some 44)), some (vi a1), none, some (vi p15)] [vi w23, vi (mI q12.2 49 (ix a1)), vi a1, vr (some 49)] S q12.2 (some (vi q.1)) S q.2 := by
            intro w23 hw28
            subst hw28
            refine r_iadd dX12_text_118 ?_
            obtain ⟨hg25, e⟩ := grd_some e
            refine r_iast dX12_text_119 (lp_49 hS) (lk_49 hS) hg25 ?_
            refine r_aload_n dX12_text_120 rfl ?_
            refine r_iload_n dX12_text_121 rfl ?_
            refine r_iload_n dX12_text_122 rfl ?_
            obtain ⟨q26, eq27, e⟩ := obind e
            refine r_callV (as := [_, _]) (rest := []) dX12_text_123 ml_X12_255 yV_X12_storeOf (c_X12_storeOf hS eq27) (by decide) rfl (lp_44 hS) (lq_44 hS) (Nat.le_of_ble_eq_true rfl) ?_
            refine r_iload_n dX12_text_126 rfl ?_
            cases e
            exact r_ireturn dX12_text_127 rfl rfl
          refine r_icmp_ne (tgt := 117) dX12_text_110 rfl (fun h22 => ?_) (fun h22 => ?_)
          · refine r_iconst (v := 0) dX12_text_117 ci_0 ?_
            exact r_weak (L' := [some (vr (some 44)), some (vi a1), none, some (vi p15)]) ⟨rfl, rfl, rfl, trivial⟩ (J24 _ (Eq.symm (if_neg h22)))
          · refine r_iconst (v := 1) dX12_text_113 ci_1 ?_
            refine r_goto (tgt := 118) dX12_text_114 rfl ?_
            exact r_weak (L' := [some (vr (some 44)), some (vi a1), none, some (vi p15)]) ⟨rfl, rfl, rfl, trivial⟩ (J24 _ (Eq.symm (if_pos h22)))
        have J16 : ∀ pp : Int32, pp = p15 → Run l G M_X12_text 10 100 [some (vr (some 44)), some (vi a1), some (vi a2), none] [vi pp] S q12.2 (some (vi q.1)) S q.2 := by
          intro pp hpp
          rw [hpp]
          exact J16a
        refine r_icmp_ne (tgt := 99) dX12_text_87 rfl (fun h19 => ?_) (fun h19 => ?_)
        · replace ep17 := ite_f h19 ep17
          refine r_iload_n dX12_text_99 rfl ?_
          exact r_weak (L' := [some (vr (some 44)), some (vi a1), some (vi a2), none]) ⟨rfl, rfl, rfl, trivial⟩ (J16 _ (Option.some.inj ep17))
        · replace ep17 := ite_t h19 ep17
          refine r_aload_n dX12_text_90 rfl ?_
          refine r_getR dX12_text_91 fl_X12_23 rfl (lp_44 hS) (lq_44 hS) (lr_44_5 hS) ?_
          refine r_iload_n dX12_text_94 rfl ?_
          obtain ⟨hg20, ep17⟩ := grd_some ep17
          refine r_iald dX12_text_95 (lp_49 hS) (lk_49 hS) hg20 ?_
          refine r_goto (tgt := 100) dX12_text_96 rfl ?_
          exact r_weak (L' := [some (vr (some 44)), some (vi a1), some (vi a2), none]) ⟨rfl, rfl, rfl, trivial⟩ (J16 _ (Option.some.inj ep17))
      · replace e := ite_t h14 e
        refine r_iconst (v := -1) dX12_text_83 ci_m1 ?_
        cases e
        exact r_ireturn dX12_text_84 rfl rfl
    refine r_icmp_ne (tgt := 63) dX12_text_47 rfl (fun h6 => ?_) (fun h6 => ?_)
    · replace ep4 := ite_f h6 ep4
      refine r_aload_n dX12_text_63 rfl ?_
      refine r_iload_n dX12_text_64 rfl ?_
      refine r_iload_n dX12_text_65 rfl ?_
      obtain ⟨q7, eq8, ep4⟩ := obind ep4
      refine r_callV (as := [_, _]) (rest := []) dX12_text_66 ml_X12_249 yV_X12_is (c_X12_is hS eq8) (by decide) rfl (lp_44 hS) (lq_44 hS) (Nat.le_of_ble_eq_true rfl) ?_
      refine r_if_ne (tgt := 75) dX12_text_69 rfl (fun h9 => ?_) (fun h9 => ?_)
      · replace ep4 := ite_f h9 ep4
        cases ep4
        exact r_weak (L' := [some (vr (some 44)), some (vi a1), some (vi a2), none]) ⟨rfl, rfl, rfl, trivial⟩ (J3 _ rfl)
      · replace ep4 := ite_t h9 ep4
        refine r_bipush (v := -2) dX12_text_72 cb_m2 ?_
        cases ep4
        have e := congrArg some (erx5 _ rfl)
        cases e
        exact r_ireturn dX12_text_74 rfl rfl
    · replace ep4 := ite_t h6 ep4
      refine r_aload_n dX12_text_50 rfl ?_
      refine r_getR dX12_text_51 fl_X12_23 rfl (lp_44 hS) (lq_44 hS) (lr_44_5 hS) ?_
      refine r_iload_n dX12_text_54 rfl ?_
      obtain ⟨hg10, ep4⟩ := grd_some ep4
      refine r_iald dX12_text_55 (lp_49 hS) (lk_49 hS) hg10 ?_
      refine r_iconst (v := 2) dX12_text_56 ci_2 ?_
      refine r_icmp_ne (tgt := 75) dX12_text_57 rfl (fun h11 => ?_) (fun h11 => ?_)
      · replace ep4 := ite_f h11 ep4
        cases ep4
        exact r_weak (L' := [some (vr (some 44)), some (vi a1), some (vi a2), none]) ⟨rfl, rfl, rfl, trivial⟩ (J3 _ rfl)
      · replace ep4 := ite_t h11 ep4
        refine r_goto (tgt := 72) dX12_text_60 rfl ?_
        refine r_bipush (v := -2) dX12_text_72 cb_m2 ?_
        cases ep4
        have e := congrArg some (erx5 _ rfl)
        cases e
        exact r_ireturn dX12_text_74 rfl rfl
