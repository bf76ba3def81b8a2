def m_X12_fault (a1 : Int32) (mm : Mm) : Option (Int32 × Mm) := if a1 = 0 then (some (mI (sI mm 44 0 (0 : Int32)) 47 (ix (0 : Int32)), (sI mm 44 0 (0 : Int32)))) else (if a1 = (1 : Int32) then (some (mI (sI mm 44 0 (0 : Int32)) 48 (ix (0 : Int32)), (sI mm 44 0 (0 : Int32)))) else (some ((-1 : Int32), (sI mm 44 0 (0 : Int32)))))
set_option maxHeartbeats 4000000 in
set_option maxRecDepth 100000 in
theorem c_X12_fault {l : Launch} {G : Gt} {S : Sk} (hS : Lay S) {a1 : Int32} {mm : Mm} {q : Int32 × Mm} (e : m_X12_fault a1 mm = some q) : CallOK l G M_X12_fault yX12_fault 0 [vr (some 44), vi a1] S mm (some (vi q.1)) S q.2 := by
  refine call_of_run rfl rfl rfl (Nat.le_of_ble_eq_true rfl) ?_
  show Run l G M_X12_fault 0 0 [some (vr (some 44)), some (vi a1)] [] S mm (some (vi q.1)) S q.2
  unfold m_X12_fault at e
  refine r_aload_n dX12_fault_0 rfl ?_
  refine r_iconst (v := 0) dX12_fault_1 ci_0 ?_
  refine r_putI dX12_fault_2 fl_X12_90 ft_12_0 (Or.inl rfl) rfl rfl rfl (lp_44 hS) (lq_44 hS) ?_
  refine r_iload_n dX12_fault_5 rfl ?_
  refine r_if_ne (tgt := 18) dX12_fault_6 rfl (fun h1 => ?_) (fun h1 => ?_)
  · replace e := ite_f h1 e
    refine r_iload_n dX12_fault_18 rfl ?_
    refine r_iconst (v := 1) dX12_fault_19 ci_1 ?_
    refine r_icmp_ne (tgt := 32) dX12_fault_20 rfl (fun h2 => ?_) (fun h2 => ?_)
    · replace e := ite_f h2 e
      refine r_iconst (v := -1) dX12_fault_32 ci_m1 ?_
      cases e
      exact r_ireturn dX12_fault_33 rfl rfl
    · replace e := ite_t h2 e
      refine r_aload_n dX12_fault_23 rfl ?_
      refine r_getR dX12_fault_24 fl_X12_20 rfl (lp_44 hS) (lq_44 hS) (lr_44_4 hS) ?_
      refine r_iconst (v := 0) dX12_fault_27 ci_0 ?_
      refine r_iald dX12_fault_28 (lp_48 hS) (lk_48 hS) (vp_in_iff.mpr ⟨by decide, by decide⟩) ?_
      refine r_goto (tgt := 33) dX12_fault_29 rfl ?_
      cases e
      exact r_ireturn dX12_fault_33 rfl rfl
  · replace e := ite_t h1 e
    refine r_aload_n dX12_fault_9 rfl ?_
    refine r_getR dX12_fault_10 fl_X12_17 rfl (lp_44 hS) (lq_44 hS) (lr_44_3 hS) ?_
    refine r_iconst (v := 0) dX12_fault_13 ci_0 ?_
    refine r_iald dX12_fault_14 (lp_47 hS) (lk_47 hS) (vp_in_iff.mpr ⟨by decide, by decide⟩) ?_
    refine r_goto (tgt := 33) dX12_fault_15 rfl ?_
    cases e
    exact r_ireturn dX12_fault_33 rfl rfl
def m_X12_of (a1 : Int32) (mm : Mm) : Option (Int32) := grd (((72 : Int32) * (mI mm 44 23)) + a1) 576 (some (mI mm 50 (ix (((72 : Int32) * (mI mm 44 23)) + a1))))
set_option maxHeartbeats 4000000 in
set_option maxRecDepth 100000 in
theorem c_X12_of {l : Launch} {G : Gt} {S : Sk} (hS : Lay S) {a1 : Int32} {mm : Mm} {q : Int32} (e : m_X12_of a1 mm = some q) : CallOK l G M_X12_of yX12_of 0 [vr (some 44), vi a1] S mm (some (vi q)) S mm := by
  refine call_of_run rfl rfl rfl (Nat.le_of_ble_eq_true rfl) ?_
  show Run l G M_X12_of 0 0 [some (vr (some 44)), some (vi a1)] [] S mm (some (vi q)) S mm
  unfold m_X12_of at e
  refine r_aload_n dX12_of_0 rfl ?_
  refine r_getR dX12_of_1 fl_X12_26 rfl (lp_44 hS) (lq_44 hS) (lr_44_6 hS) ?_
  refine r_bipush (v := 72) dX12_of_4 cb_72 ?_
  refine r_aload_n dX12_of_6 rfl ?_
  refine r_getI dX12_of_7 fl_X12_258 rfl (lp_44 hS) (lq_44 hS) ?_
  refine r_imul dX12_of_10 ?_
  refine r_iload_n dX12_of_11 rfl ?_
  refine r_iadd dX12_of_12 ?_
  obtain ⟨hg1, e⟩ := grd_some e
  refine r_iald dX12_of_13 (lp_50 hS) (lk_50 hS) hg1 ?_
  cases e
  exact r_ireturn dX12_of_14 rfl rfl
def m_X12_asTold_b36 (z3 : Int32 × Mm) : Option ((Int32 × Mm) ⊕ (Mm)) := if (6 : Int32) ≤ z3.1 then (some (.inr z3.2)) else ((m_X12_of ((2 : Int32) + z3.1) z3.2).bind (fun q10 => grd z3.1 6 ((m_X12_of ((8 : Int32) + z3.1) (sI z3.2 56 (ix z3.1) q10)).bind (fun q13 => grd z3.1 6 ((m_X12_of ((14 : Int32) + z3.1) (sI (sI z3.2 56 (ix z3.1) q10) 57 (ix z3.1) q13)).bind (fun q16 => grd z3.1 6 (some (.inl (z3.1 + (1 : Int32), (sI (sI (sI z3.2 56 (ix z3.1) q10) 57 (ix z3.1) q13) 58 (ix z3.1) q16))))))))))
def m_X12_asTold_b91 (z19 : Int32 × Mm) : Option ((Int32 × Mm) ⊕ (Mm)) := if (36 : Int32) ≤ z19.1 then (some (.inr z19.2)) else (grd z19.1 36 (some (.inl (z19.1 + (1 : Int32), (sI z19.2 59 (ix z19.1) (0 : Int32))))))
def m_X12_asTold_b112 (z27 : Int32 × Mm) : Option ((Int32 × Mm) ⊕ (Mm)) := if (12 : Int32) ≤ z27.1 then (some (.inr z27.2)) else ((m_X12_of ((36 : Int32) + ((3 : Int32) * z27.1)) z27.2).bind (fun q34 => grd z27.1 16 ((m_X12_of (((36 : Int32) + ((3 : Int32) * z27.1)) + (1 : Int32)) (sI z27.2 60 (ix z27.1) q34)).bind (fun q37 => grd z27.1 16 ((m_X12_of (((36 : Int32) + ((3 : Int32) * z27.1)) + (2 : Int32)) (sI (sI z27.2 60 (ix z27.1) q34) 61 (ix z27.1) q37)).bind (fun q40 => grd z27.1 16 (some (.inl (z27.1 + (1 : Int32), (sI (sI (sI z27.2 60 (ix z27.1) q34) 61 (ix z27.1) q37) 62 (ix z27.1) q40))))))))))
def m_X12_asTold (mm : Mm) : Option (Mm) := (m_X12_of (1 : Int32) (sI (sI (sI (sI (sI mm 44 26 (0 : Int32)) 44 27 (0 : Int32)) 44 28 (0 : Int32)) 44 29 (0 : Int32)) 44 30 (0 : Int32))).bind (fun q1 => (whileF FU (m_X12_asTold_b36) ((0 : Int32), (sI (sI (sI (sI (sI (sI mm 44 26 (0 : Int32)) 44 27 (0 : Int32)) 44 28 (0 : Int32)) 44 29 (0 : Int32)) 44 30 (0 : Int32)) 44 25 q1))).bind (fun p4 => (whileF FU (m_X12_asTold_b91) ((0 : Int32), p4)).bind (fun p20 => (whileF FU (m_X12_asTold_b112) ((0 : Int32), p20)).bind (fun p28 => some p28))))
set_option maxHeartbeats 4000000 in
set_option maxRecDepth 100000 in
theorem c_X12_asTold {l : Launch} {G : Gt} {S : Sk} (hS : Lay S) {mm : Mm} {q : Mm} (e : m_X12_asTold mm = some q) : CallOK l G M_X12_asTold yX12_asTold 1 [vr (some 44)] S mm (none) S q := by
  refine call_of_run rfl rfl rfl (Nat.le_of_ble_eq_true rfl) ?_
  show Run l G M_X12_asTold 1 0 [some (vr (some 44)), none] [] S mm (none) S q
  unfold m_X12_asTold at e
  refine r_aload_n dX12_asTold_0 rfl ?_
  refine r_iconst (v := 0) dX12_asTold_1 ci_0 ?_
  refine r_putI dX12_asTold_2 fl_X12_261 ft_12_26 (Or.inl rfl) rfl rfl rfl (lp_44 hS) (lq_44 hS) ?_
  refine r_aload_n dX12_asTold_5 rfl ?_
  refine r_iconst (v := 0) dX12_asTold_6 ci_0 ?_
  refine r_putI dX12_asTold_7 fl_X12_264 ft_12_27 (Or.inl rfl) rfl rfl rfl (lp_44 hS) (lq_44 hS) ?_
  refine r_aload_n dX12_asTold_10 rfl ?_
  refine r_iconst (v := 0) dX12_asTold_11 ci_0 ?_
  refine r_putI dX12_asTold_12 fl_X12_267 ft_12_28 (Or.inl rfl) rfl rfl rfl (lp_44 hS) (lq_44 hS) ?_
  refine r_aload_n dX12_asTold_15 rfl ?_
  refine r_iconst (v := 0) dX12_asTold_16 ci_0 ?_
  refine r_putI dX12_asTold_17 fl_X12_270 ft_12_29 (Or.inl rfl) rfl rfl rfl (lp_44 hS) (lq_44 hS) ?_
  refine r_aload_n dX12_asTold_20 rfl ?_
  refine r_iconst (v := 0) dX12_asTold_21 ci_0 ?_
  refine r_putI dX12_asTold_22 fl_X12_273 ft_12_30 (Or.inl rfl) rfl rfl rfl (lp_44 hS) (lq_44 hS) ?_
  refine r_aload_n dX12_asTold_25 rfl ?_
  refine r_aload_n dX12_asTold_26 rfl ?_
  refine r_iconst (v := 1) dX12_asTold_27 ci_1 ?_
  obtain ⟨q1, eq2, e⟩ := obind e
  refine r_callV (as := [_]) (rest := [_]) dX12_asTold_28 ml_X12_276 yV_X12_of (c_X12_of hS eq2) (by decide) rfl (lp_44 hS) (lq_44 hS) (Nat.le_of_ble_eq_true rfl) ?_
  refine r_putI dX12_asTold_31 fl_X12_280 ft_12_25 (Or.inl rfl) rfl rfl rfl (lp_44 hS) (lq_44 hS) ?_
  refine r_iconst (v := 0) dX12_asTold_34 ci_0 ?_
  refine r_istore_n dX12_asTold_35 (by decide) rfl ?_
  obtain ⟨p4, eb8w, e⟩ := obind e
  have J5a : Run l G M_X12_asTold 1 89 [some (vr (some 44)), none] [] S p4 (none) S q := by
    refine r_iconst (v := 0) dX12_asTold_89 ci_0 ?_
    refine r_istore_n dX12_asTold_90 (by decide) rfl ?_
    obtain ⟨p20, eb24w, e⟩ := obind e
    have J21a : Run l G M_X12_asTold 1 110 [some (vr (some 44)), none] [] S p20 (none) S q := by
      refine r_iconst (v := 0) dX12_asTold_110 ci_0 ?_
      refine r_istore_n dX12_asTold_111 (by decide) rfl ?_
      obtain ⟨p28, eb32w, e⟩ := obind e
      have J29a : Run l G M_X12_asTold 1 176 [none, none] [] S p28 (none) S q := by
        cases e
        exact r_return dX12_asTold_176 rfl
      have J29 : ∀ pp : Mm, pp = p28 → Run l G M_X12_asTold 1 176 [none, none] [] S pp (none) S q := by
        intro pp hpp
        rw [hpp]
        exact J29a
      have J29w : Run l G M_X12_asTold 1 112 [some (vr (some 44)), some (vi (0 : Int32))] [] S p20 (none) S q := by
        refine while_run (s := ((0 : Int32), p20)) (Gs := fun (z27 : Int32 × Mm) => Run l G M_X12_asTold 1 112 [some (vr (some 44)), some (vi z27.1)] [] S z27.2 (none) S q) eb32w ?_
        intro z27 x30y eb32 hx31
        unfold m_X12_asTold_b112 at eb32
        refine r_iload_n dX12_asTold_112 rfl ?_
        refine r_bipush (v := 12) dX12_asTold_113 cb_12 ?_
        refine r_icmp_ge (tgt := 176) dX12_asTold_115 rfl (fun h33 => ?_) (fun h33 => ?_)
        · replace eb32 := ite_t h33 eb32
          cases eb32
          exact r_weak (L' := [none, none]) trivial (J29 _ hx31)
        · replace eb32 := ite_f h33 eb32
          refine r_aload_n dX12_asTold_118 rfl ?_
          refine r_getR dX12_asTold_119 fl_X12_56 rfl (lp_44 hS) (lq_44 hS) (lr_44_35 hS) ?_
          refine r_iload_n dX12_asTold_122 rfl ?_
          refine r_aload_n dX12_asTold_123 rfl ?_
          refine r_bipush (v := 36) dX12_asTold_124 cb_36 ?_
          refine r_iconst (v := 3) dX12_asTold_126 ci_3 ?_
          refine r_iload_n dX12_asTold_127 rfl ?_
          refine r_imul dX12_asTold_128 ?_
          refine r_iadd dX12_asTold_129 ?_
          obtain ⟨q34, eq35, eb32⟩ := obind eb32
          refine r_callV (as := [_]) (rest := [_, _]) dX12_asTold_130 ml_X12_276 yV_X12_of (c_X12_of hS eq35) (by decide) rfl (lp_44 hS) (lq_44 hS) (Nat.le_of_ble_eq_true rfl) ?_
          obtain ⟨hg36, eb32⟩ := grd_some eb32
          refine r_iast dX12_asTold_133 (lp_60 hS) (lk_60 hS) hg36 ?_
          refine r_aload_n dX12_asTold_134 rfl ?_
          refine r_getR dX12_asTold_135 fl_X12_59 rfl (lp_44 hS) (lq_44 hS) (lr_44_36 hS) ?_
          refine r_iload_n dX12_asTold_138 rfl ?_
          refine r_aload_n dX12_asTold_139 rfl ?_
          refine r_bipush (v := 36) dX12_asTold_140 cb_36 ?_
          refine r_iconst (v := 3) dX12_asTold_142 ci_3 ?_
          refine r_iload_n dX12_asTold_143 rfl ?_
          refine r_imul dX12_asTold_144 ?_
          refine r_iadd dX12_asTold_145 ?_
          refine r_iconst (v := 1) dX12_asTold_146 ci_1 ?_
          refine r_iadd dX12_asTold_147 ?_
          obtain ⟨q37, eq38, eb32⟩ := obind eb32
          refine r_callV (as := [_]) (rest := [_, _]) dX12_asTold_148 ml_X12_276 yV_X12_of (c_X12_of hS eq38) (by decide) rfl (lp_44 hS) (lq_44 hS) (Nat.le_of_ble_eq_true rfl) ?_
          obtain ⟨hg39, eb32⟩ := grd_some eb32
          refine r_iast dX12_asTold_151 (lp_61 hS) (lk_61 hS) hg39 ?_
          refine r_aload_n dX12_asTold_152 rfl ?_
          refine r_getR dX12_asTold_153 fl_X12_62 rfl (lp_44 hS) (lq_44 hS) (lr_44_37 hS) ?_
          refine r_iload_n dX12_asTold_156 rfl ?_
          refine r_aload_n dX12_asTold_157 rfl ?_
          refine r_bipush (v := 36) dX12_asTold_158 cb_36 ?_
          refine r_iconst (v := 3) dX12_asTold_160 ci_3 ?_
          refine r_iload_n dX12_asTold_161 rfl ?_
          refine r_imul dX12_asTold_162 ?_
          refine r_iadd dX12_asTold_163 ?_
          refine r_iconst (v := 2) dX12_asTold_164 ci_2 ?_
          refine r_iadd dX12_asTold_165 ?_
          obtain ⟨q40, eq41, eb32⟩ := obind eb32
          refine r_callV (as := [_]) (rest := [_, _]) dX12_asTold_166 ml_X12_276 yV_X12_of (c_X12_of hS eq41) (by decide) rfl (lp_44 hS) (lq_44 hS) (Nat.le_of_ble_eq_true rfl) ?_
          obtain ⟨hg42, eb32⟩ := grd_some eb32
          refine r_iast dX12_asTold_169 (lp_62 hS) (lk_62 hS) hg42 ?_
          refine r_iinc (v := _ + (1 : Int32)) dX12_asTold_170 rfl (congrArg (_ + ·) ci_1) (by decide) rfl ?_
          refine r_goto (tgt := 112) dX12_asTold_173 rfl ?_
          cases eb32
          exact r_weak (L' := [some (vr (some 44)), some (vi (z27.1 + (1 : Int32)))]) ⟨rfl, rfl, trivial⟩ hx31
      exact r_weak (L' := [some (vr (some 44)), some (vi (0 : Int32))]) ⟨rfl, rfl, trivial⟩ J29w
    have J21 : ∀ pp : Mm, pp = p20 → Run l G M_X12_asTold 1 110 [some (vr (some 44)), none] [] S pp (none) S q := by
      intro pp hpp
      rw [hpp]
      exact J21a
    have J21w : Run l G M_X12_asTold 1 91 [some (vr (some 44)), some (vi (0 : Int32))] [] S p4 (none) S q := by
      refine while_run (s := ((0 : Int32), p4)) (Gs := fun (z19 : Int32 × Mm) => Run l G M_X12_asTold 1 91 [some (vr (some 44)), some (vi z19.1)] [] S z19.2 (none) S q) eb24w ?_
      intro z19 x22y eb24 hx23
      unfold m_X12_asTold_b91 at eb24
      refine r_iload_n dX12_asTold_91 rfl ?_
      refine r_bipush (v := 36) dX12_asTold_92 cb_36 ?_
      refine r_icmp_ge (tgt := 110) dX12_asTold_94 rfl (fun h25 => ?_) (fun h25 => ?_)
      · replace eb24 := ite_t h25 eb24
        cases eb24
        exact r_weak (L' := [some (vr (some 44)), none]) ⟨rfl, trivial⟩ (J21 _ hx23)
      · replace eb24 := ite_f h25 eb24
        refine r_aload_n dX12_asTold_97 rfl ?_
        refine r_getR dX12_asTold_98 fl_X12_53 rfl (lp_44 hS) (lq_44 hS) (lr_44_34 hS) ?_
        refine r_iload_n dX12_asTold_101 rfl ?_
        refine r_iconst (v := 0) dX12_asTold_102 ci_0 ?_
        obtain ⟨hg26, eb24⟩ := grd_some eb24
        refine r_iast dX12_asTold_103 (lp_59 hS) (lk_59 hS) hg26 ?_
        refine r_iinc (v := _ + (1 : Int32)) dX12_asTold_104 rfl (congrArg (_ + ·) ci_1) (by decide) rfl ?_
        refine r_goto (tgt := 91) dX12_asTold_107 rfl ?_
        cases eb24
        exact r_weak (L' := [some (vr (some 44)), some (vi (z19.1 + (1 : Int32)))]) ⟨rfl, rfl, trivial⟩ hx23
    exact r_weak (L' := [some (vr (some 44)), some (vi (0 : Int32))]) ⟨rfl, rfl, trivial⟩ J21w
  have J5 : ∀ pp : Mm, pp = p4 → Run l G M_X12_asTold 1 89 [some (vr (some 44)), none] [] S pp (none) S q := by
    intro pp hpp
    rw [hpp]
    exact J5a
  have J5w : Run l G M_X12_asTold 1 36 [some (vr (some 44)), some (vi (0 : Int32))] [] S (sI (sI (sI (sI (sI (sI mm 44 26 (0 : Int32)) 44 27 (0 : Int32)) 44 28 (0 : Int32)) 44 29 (0 : Int32)) 44 30 (0 : Int32)) 44 25 q1) (none) S q := by
    refine while_run (s := ((0 : Int32), (sI (sI (sI (sI (sI (sI mm 44 26 (0 : Int32)) 44 27 (0 : Int32)) 44 28 (0 : Int32)) 44 29 (0 : Int32)) 44 30 (0 : Int32)) 44 25 q1))) (Gs := fun (z3 : Int32 × Mm) => Run l G M_X12_asTold 1 36 [some (vr (some 44)), some (vi z3.1)] [] S z3.2 (none) S q) eb8w ?_
    intro z3 x6y eb8 hx7
    unfold m_X12_asTold_b36 at eb8
    refine r_iload_n dX12_asTold_36 rfl ?_
    refine r_bipush (v := 6) dX12_asTold_37 cb_6 ?_
    refine r_icmp_ge (tgt := 89) dX12_asTold_39 rfl (fun h9 => ?_) (fun h9 => ?_)
    · replace eb8 := ite_t h9 eb8
      cases eb8
      exact r_weak (L' := [some (vr (some 44)), none]) ⟨rfl, trivial⟩ (J5 _ hx7)
    · replace eb8 := ite_f h9 eb8
      refine r_aload_n dX12_asTold_42 rfl ?_
      refine r_getR dX12_asTold_43 fl_X12_44 rfl (lp_44 hS) (lq_44 hS) (lr_44_31 hS) ?_
      refine r_iload_n dX12_asTold_46 rfl ?_
      refine r_aload_n dX12_asTold_47 rfl ?_
      refine r_iconst (v := 2) dX12_asTold_48 ci_2 ?_
      refine r_iload_n dX12_asTold_49 rfl ?_
      refine r_iadd dX12_asTold_50 ?_
      obtain ⟨q10, eq11, eb8⟩ := obind eb8
      refine r_callV (as := [_]) (rest := [_, _]) dX12_asTold_51 ml_X12_276 yV_X12_of (c_X12_of hS eq11) (by decide) rfl (lp_44 hS) (lq_44 hS) (Nat.le_of_ble_eq_true rfl) ?_
      obtain ⟨hg12, eb8⟩ := grd_some eb8
      refine r_iast dX12_asTold_54 (lp_56 hS) (lk_56 hS) hg12 ?_
      refine r_aload_n dX12_asTold_55 rfl ?_
      refine r_getR dX12_asTold_56 fl_X12_47 rfl (lp_44 hS) (lq_44 hS) (lr_44_32 hS) ?_
      refine r_iload_n dX12_asTold_59 rfl ?_
      refine r_aload_n dX12_asTold_60 rfl ?_
      refine r_bipush (v := 8) dX12_asTold_61 cb_8 ?_
      refine r_iload_n dX12_asTold_63 rfl ?_
      refine r_iadd dX12_asTold_64 ?_
      obtain ⟨q13, eq14, eb8⟩ := obind eb8
      refine r_callV (as := [_]) (rest := [_, _]) dX12_asTold_65 ml_X12_276 yV_X12_of (c_X12_of hS eq14) (by decide) rfl (lp_44 hS) (lq_44 hS) (Nat.le_of_ble_eq_true rfl) ?_
      obtain ⟨hg15, eb8⟩ := grd_some eb8
      refine r_iast dX12_asTold_68 (lp_57 hS) (lk_57 hS) hg15 ?_
      refine r_aload_n dX12_asTold_69 rfl ?_
      refine r_getR dX12_asTold_70 fl_X12_50 rfl (lp_44 hS) (lq_44 hS) (lr_44_33 hS) ?_
      refine r_iload_n dX12_asTold_73 rfl ?_
      refine r_aload_n dX12_asTold_74 rfl ?_
      refine r_bipush (v := 14) dX12_asTold_75 cb_14 ?_
      refine r_iload_n dX12_asTold_77 rfl ?_
      refine r_iadd dX12_asTold_78 ?_
      obtain ⟨q16, eq17, eb8⟩ := obind eb8
      refine r_callV (as := [_]) (rest := [_, _]) dX12_asTold_79 ml_X12_276 yV_X12_of (c_X12_of hS eq17) (by decide) rfl (lp_44 hS) (lq_44 hS) (Nat.le_of_ble_eq_true rfl) ?_
      obtain ⟨hg18, eb8⟩ := grd_some eb8
      refine r_iast dX12_asTold_82 (lp_58 hS) (lk_58 hS) hg18 ?_
      refine r_iinc (v := _ + (1 : Int32)) dX12_asTold_83 rfl (congrArg (_ + ·) ci_1) (by decide) rfl ?_
      refine r_goto (tgt := 36) dX12_asTold_86 rfl ?_
      cases eb8
      exact r_weak (L' := [some (vr (some 44)), some (vi (z3.1 + (1 : Int32)))]) ⟨rfl, rfl, trivial⟩ hx7
  exact r_weak (L' := [some (vr (some 44)), some (vi (0 : Int32))]) ⟨rfl, rfl, trivial⟩ J5w
def m_X12_hand (a1 : Int32) (mm : Mm) : Option (Int32 × Mm) := (m_X12_is (0 : Int32) a1 mm).bind (fun q1 => if q1 = 0 then (some ((0 : Int32), mm)) else ((m_X12_of (0 : Int32) (sI mm 44 23 a1)).bind (fun q4 => (m_X12_asTold (sI (sI mm 44 23 a1) 44 24 q4)).bind (fun q6 => some ((1 : Int32), q6)))))
set_option maxHeartbeats 4000000 in
set_option maxRecDepth 100000 in
theorem c_X12_hand {l : Launch} {G : Gt} {S : Sk} (hS : Lay S) {a1 : Int32} {mm : Mm} {q : Int32 × Mm} (e : m_X12_hand a1 mm = some q) : CallOK l G M_X12_hand yX12_hand 2 [vr (some 44), vi a1] S mm (some (vi q.1)) S q.2 := by
  refine call_of_run rfl rfl rfl (Nat.le_of_ble_eq_true rfl) ?_
  show Run l G M_X12_hand 2 0 [some (vr (some 44)), some (vi a1)] [] S mm (some (vi q.1)) S q.2
  unfold m_X12_hand at e
  refine r_aload_n dX12_hand_0 rfl ?_
  refine r_iconst (v := 0) dX12_hand_1 ci_0 ?_
  refine r_iload_n dX12_hand_2 rfl ?_
  obtain ⟨q1, eq2, e⟩ := obind e
  refine r_callV (as := [_, _]) (rest := []) dX12_hand_3 ml_X12_249 yV_X12_is (c_X12_is hS eq2) (by decide) rfl (lp_44 hS) (lq_44 hS) (Nat.le_of_ble_eq_true rfl) ?_
  refine r_if_ne (tgt := 11) dX12_hand_6 rfl (fun h3 => ?_) (fun h3 => ?_)
  · replace e := ite_f h3 e
    refine r_aload_n dX12_hand_11 rfl ?_
    refine r_iload_n dX12_hand_12 rfl ?_
    refine r_putI dX12_hand_13 fl_X12_258 ft_12_23 (Or.inl rfl) rfl rfl rfl (lp_44 hS) (lq_44 hS) ?_
    refine r_aload_n dX12_hand_16 rfl ?_
    refine r_aload_n dX12_hand_17 rfl ?_
    refine r_iconst (v := 0) dX12_hand_18 ci_0 ?_
    obtain ⟨q4, eq5, e⟩ := obind e
    refine r_callV (as := [_]) (rest := [_]) dX12_hand_19 ml_X12_276 yV_X12_of (c_X12_of hS eq5) (by decide) rfl (lp_44 hS) (lq_44 hS) (Nat.le_of_ble_eq_true rfl) ?_
    refine r_putI dX12_hand_22 fl_X12_283 ft_12_24 (Or.inl rfl) rfl rfl rfl (lp_44 hS) (lq_44 hS) ?_
    refine r_aload_n dX12_hand_25 rfl ?_
    obtain ⟨q6, eq7, e⟩ := obind e
    refine r_callV (as := []) (rest := []) dX12_hand_26 ml_X12_286 yV_X12_asTold (c_X12_asTold hS eq7) (by decide) rfl (lp_44 hS) (lq_44 hS) (Nat.le_of_ble_eq_true rfl) ?_
    refine r_iconst (v := 1) dX12_hand_29 ci_1 ?_
    cases e
    exact r_ireturn dX12_hand_30 rfl (nz_b (by first | exact Or.inl rfl | exact Or.inr rfl)).1
  · replace e := ite_t h3 e
    refine r_iconst (v := 0) dX12_hand_9 ci_0 ?_
    cases e
    exact r_ireturn dX12_hand_10 rfl (nz_b (by first | exact Or.inl rfl | exact Or.inr rfl)).1
def m_X12_isOne (a1 : Int32) (mm : Mm) : Option (Int32) := gbz (m_X12_in a1 (0 : Int32) ((mI mm 44 24) - (1 : Int32))) (some (m_X12_in a1 (0 : Int32) ((mI mm 44 24) - (1 : Int32))))
set_option maxHeartbeats 4000000 in
set_option maxRecDepth 100000 in
theorem c_X12_isOne {l : Launch} {G : Gt} {S : Sk} (hS : Lay S) {a1 : Int32} {mm : Mm} {q : Int32} (e : m_X12_isOne a1 mm = some q) : CallOK l G M_X12_isOne yX12_isOne 1 [vr (some 44), vi a1] S mm (some (vi q)) S mm := by
  refine call_of_run rfl rfl rfl (Nat.le_of_ble_eq_true rfl) ?_
  show Run l G M_X12_isOne 1 0 [some (vr (some 44)), some (vi a1)] [] S mm (some (vi q)) S mm
  unfold m_X12_isOne at e
  refine r_iload_n dX12_isOne_0 rfl ?_
  refine r_iconst (v := 0) dX12_isOne_1 ci_0 ?_
  refine r_aload_n dX12_isOne_2 rfl ?_
  refine r_getI dX12_isOne_3 fl_X12_283 rfl (lp_44 hS) (lq_44 hS) ?_
  refine r_iconst (v := 1) dX12_isOne_6 ci_1 ?_
  refine r_isub dX12_isOne_7 ?_
  refine r_callS (as := [_, _, _]) (rest := []) dX12_isOne_8 ml_X12_102 yS_X12_in (c_X12_in hS) (by decide) rfl (Nat.le_of_ble_eq_true rfl) ?_
  obtain ⟨hbz, e⟩ := gbz_some e
  cases e
  exact r_ireturn dX12_isOne_11 rfl (nz_b hbz).1
def m_X12_areTwo (a1 : Int32) (a2 : Int32) (mm : Mm) : Option (Int32) := (m_X12_isOne a1 mm).bind (fun q1 => if q1 = 0 then (some (0 : Int32)) else ((m_X12_isOne a2 mm).bind (fun q4 => if q4 = 0 then (some (0 : Int32)) else (if a1 = a2 then (some (0 : Int32)) else (some (1 : Int32))))))
set_option maxHeartbeats 4000000 in
set_option maxRecDepth 100000 in
theorem c_X12_areTwo {l : Launch} {G : Gt} {S : Sk} (hS : Lay S) {a1 : Int32} {a2 : Int32} {mm : Mm} {q : Int32} (e : m_X12_areTwo a1 a2 mm = some q) : CallOK l G M_X12_areTwo yX12_areTwo 2 [vr (some 44), vi a1, vi a2] S mm (some (vi q)) S mm := by
  refine call_of_run rfl rfl rfl (Nat.le_of_ble_eq_true rfl) ?_
  show Run l G M_X12_areTwo 2 0 [some (vr (some 44)), some (vi a1), some (vi a2)] [] S mm (some (vi q)) S mm
  unfold m_X12_areTwo at e
  refine r_aload_n dX12_areTwo_0 rfl ?_
  refine r_iload_n dX12_areTwo_1 rfl ?_
  obtain ⟨q1, eq2, e⟩ := obind e
  refine r_callV (as := [_]) (rest := []) dX12_areTwo_2 ml_X12_289 yV_X12_isOne (c_X12_isOne hS eq2) (by decide) rfl (lp_44 hS) (lq_44 hS) (Nat.le_of_ble_eq_true rfl) ?_
  refine r_if_eq (tgt := 25) dX12_areTwo_5 rfl (fun h3 => ?_) (fun h3 => ?_)
  · replace e := ite_t h3 e
    refine r_iconst (v := 0) dX12_areTwo_25 ci_0 ?_
    cases e
    exact r_ireturn dX12_areTwo_26 rfl (nz_b (by first | exact Or.inl rfl | exact Or.inr rfl)).1
  · replace e := ite_f h3 e
    refine r_aload_n dX12_areTwo_8 rfl ?_
    refine r_iload_n dX12_areTwo_9 rfl ?_
    obtain ⟨q4, eq5, e⟩ := obind e
    refine r_callV (as := [_]) (rest := []) dX12_areTwo_10 ml_X12_289 yV_X12_isOne (c_X12_isOne hS eq5) (by decide) rfl (lp_44 hS) (lq_44 hS) (Nat.le_of_ble_eq_true rfl) ?_
    refine r_if_eq (tgt := 25) dX12_areTwo_13 rfl (fun h6 => ?_) (fun h6 => ?_)
    · replace e := ite_t h6 e
      refine r_iconst (v := 0) dX12_areTwo_25 ci_0 ?_
      cases e
      exact r_ireturn dX12_areTwo_26 rfl (nz_b (by first | exact Or.inl rfl | exact Or.inr rfl)).1
    · replace e := ite_f h6 e
      refine r_iload_n dX12_areTwo_16 rfl ?_
      refine r_iload_n dX12_areTwo_17 rfl ?_
      refine r_icmp_eq (tgt := 25) dX12_areTwo_18 rfl (fun h7 => ?_) (fun h7 => ?_)
      · replace e := ite_t h7 e
        refine r_iconst (v := 0) dX12_areTwo_25 ci_0 ?_
        cases e
        exact r_ireturn dX12_areTwo_26 rfl (nz_b (by first | exact Or.inl rfl | exact Or.inr rfl)).1
      · replace e := ite_f h7 e
        refine r_iconst (v := 1) dX12_areTwo_21 ci_1 ?_
        refine r_goto (tgt := 26) dX12_areTwo_22 rfl ?_
        cases e
        exact r_ireturn dX12_areTwo_26 rfl (nz_b (by first | exact Or.inl rfl | exact Or.inr rfl)).1
def m_X12_heartOf (a1 : Int32) (a2 : Int32) (mm : Mm) : Option (Int32) := grd a2 6 (grd a2 6 (grd (((6 : Int32) * a1) + a2) 36 (some (((mI mm 56 (ix a2)) + (if (m_X12_has (mI mm 58 (ix a2)) a1) = 0 then (0 : Int32) else (2 : Int32))) + (mI mm 59 (ix (((6 : Int32) * a1) + a2)))))))
set_option maxHeartbeats 4000000 in
set_option maxRecDepth 100000 in
theorem c_X12_heartOf {l : Launch} {G : Gt} {S : Sk} (hS : Lay S) {a1 : Int32} {a2 : Int32} {mm : Mm} {q : Int32} (e : m_X12_heartOf a1 a2 mm = some q) : CallOK l G M_X12_heartOf yX12_heartOf 1 [vr (some 44), vi a1, vi a2] S mm (some (vi q)) S mm := by
  refine call_of_run rfl rfl rfl (Nat.le_of_ble_eq_true rfl) ?_
  show Run l G M_X12_heartOf 1 0 [some (vr (some 44)), some (vi a1), some (vi a2)] [] S mm (some (vi q)) S mm
  unfold m_X12_heartOf at e
  refine r_aload_n dX12_heartOf_0 rfl ?_
  refine r_getR dX12_heartOf_1 fl_X12_44 rfl (lp_44 hS) (lq_44 hS) (lr_44_31 hS) ?_
  refine r_iload_n dX12_heartOf_4 rfl ?_
  obtain ⟨hg1, e⟩ := grd_some e
  refine r_iald dX12_heartOf_5 (lp_56 hS) (lk_56 hS) hg1 ?_
  refine r_aload_n dX12_heartOf_6 rfl ?_
  refine r_getR dX12_heartOf_7 fl_X12_50 rfl (lp_44 hS) (lq_44 hS) (lr_44_33 hS) ?_
  refine r_iload_n dX12_heartOf_10 rfl ?_
  obtain ⟨hg2, e⟩ := grd_some e
  refine r_iald dX12_heartOf_11 (lp_58 hS) (lk_58 hS) hg2 ?_
  refine r_iload_n dX12_heartOf_12 rfl ?_
  refine r_callS (as := [_, _]) (rest := [_]) dX12_heartOf_13 ml_X12_94 yS_X12_has (c_X12_has hS) (by decide) rfl (Nat.le_of_ble_eq_true rfl) ?_
  have J5 : ∀ (w4 : Int32), w4 = (if (m_X12_has (mI mm 58 (ix a2)) a1) = 0 then (0 : Int32) else (2 : Int32)) → Run l G M_X12_heartOf 1 24 [some (vr (some 44)), some (vi a1), some (vi a2)] [vi w4, vi (mI mm 56 (ix a2))] S mm (some (vi q)) S mm := by
    intro w4 hw7
    subst hw7
    refine r_iadd dX12_heartOf_24 ?_
    refine r_aload_n dX12_heartOf_25 rfl ?_
    refine r_getR dX12_heartOf_26 fl_X12_53 rfl (lp_44 hS) (lq_44 hS) (lr_44_34 hS) ?_
    refine r_bipush (v := 6) dX12_heartOf_29 cb_6 ?_
    refine r_iload_n dX12_heartOf_31 rfl ?_
    refine r_imul dX12_heartOf_32 ?_
    refine r_iload_n dX12_heartOf_33 rfl ?_
    refine r_iadd dX12_heartOf_34 ?_
    obtain ⟨hg6, e⟩ := grd_some e
    refine r_iald dX12_heartOf_35 (lp_59 hS) (lk_59 hS) hg6 ?_
    refine r_iadd dX12_heartOf_36 ?_
    cases e
    exact r_ireturn dX12_heartOf_37 rfl rfl
  refine r_if_eq (tgt := 23) dX12_heartOf_16 rfl (fun h3 => ?_) (fun h3 => ?_)
  · refine r_iconst (v := 0) dX12_heartOf_23 ci_0 ?_
    exact r_weak (L' := [some (vr (some 44)), some (vi a1), some (vi a2)]) ⟨rfl, rfl, rfl, trivial⟩ (J5 _ (Eq.symm (if_pos h3)))
  · refine r_iconst (v := 2) dX12_heartOf_19 ci_2 ?_
    refine r_goto (tgt := 24) dX12_heartOf_20 rfl ?_
    exact r_weak (L' := [some (vr (some 44)), some (vi a1), some (vi a2)]) ⟨rfl, rfl, rfl, trivial⟩ (J5 _ (Eq.symm (if_neg h3)))
def m_X12_swornFor_b4 (a1 : Int32) (mm : Mm) (z1 : Int32 × Int32) : Option ((Int32 × Int32) ⊕ (Int32)) := if (mI mm 44 25) ≤ z1.2 then (some (.inr z1.1)) else (grd z1.2 16 ((if (mI mm 61 (ix z1.2)) = a1 then (if (m_X12_has (mI mm 44 26) z1.2) = 0 then (grd z1.2 16 (some (xshl (1 : Int32) (mI mm 62 (ix z1.2))))) else (some (0 : Int32))) else (some (0 : Int32)) : Option (Int32)).bind (fun p9 => some (.inl (z1.1 ||| p9, z1.2 + (1 : Int32))))))
def m_X12_swornFor (a1 : Int32) (mm : Mm) : Option (Int32) := (whileF FU (m_X12_swornFor_b4 a1 mm) ((0 : Int32), (0 : Int32))).bind (fun p2 => some p2)
set_option maxHeartbeats 4000000 in
set_option maxRecDepth 100000 in
theorem c_X12_swornFor {l : Launch} {G : Gt} {S : Sk} (hS : Lay S) {a1 : Int32} {mm : Mm} {q : Int32} (e : m_X12_swornFor a1 mm = some q) : CallOK l G M_X12_swornFor yX12_swornFor 1 [vr (some 44), vi a1] S mm (some (vi q)) S mm := by
  refine call_of_run rfl rfl rfl (Nat.le_of_ble_eq_true rfl) ?_
  show Run l G M_X12_swornFor 1 0 [some (vr (some 44)), some (vi a1), none, none] [] S mm (some (vi q)) S mm
  unfold m_X12_swornFor at e
  refine r_iconst (v := 0) dX12_swornFor_0 ci_0 ?_
  refine r_istore_n dX12_swornFor_1 (by decide) rfl ?_
  refine r_iconst (v := 0) dX12_swornFor_2 ci_0 ?_
  refine r_istore_n dX12_swornFor_3 (by decide) rfl ?_
  obtain ⟨p2, eb6w, e⟩ := obind e
  have J3a : Run l G M_X12_swornFor 1 54 [none, none, some (vi p2), none] [] S mm (some (vi q)) S mm := by
    refine r_iload_n dX12_swornFor_54 rfl ?_
    cases e
    exact r_ireturn dX12_swornFor_55 rfl rfl
  have J3 : ∀ pp : Int32, pp = p2 → Run l G M_X12_swornFor 1 54 [none, none, some (vi pp), none] [] S mm (some (vi q)) S mm := by
    intro pp hpp
    rw [hpp]
    exact J3a
  have J3w : Run l G M_X12_swornFor 1 4 [some (vr (some 44)), some (vi a1), some (vi (0 : Int32)), some (vi (0 : Int32))] [] S mm (some (vi q)) S mm := by
    refine while_run (s := ((0 : Int32), (0 : Int32))) (Gs := fun (z1 : Int32 × Int32) => Run l G M_X12_swornFor 1 4 [some (vr (some 44)), some (vi a1), some (vi z1.1), some (vi z1.2)] [] S mm (some (vi q)) S mm) eb6w ?_
    intro z1 x4y eb6 hx5
    unfold m_X12_swornFor_b4 at eb6
    refine r_iload_n dX12_swornFor_4 rfl ?_
    refine r_aload_n dX12_swornFor_5 rfl ?_
    refine r_getI dX12_swornFor_6 fl_X12_280 rfl (lp_44 hS) (lq_44 hS) ?_
    refine r_icmp_ge (tgt := 54) dX12_swornFor_9 rfl (fun h7 => ?_) (fun h7 => ?_)
    · replace eb6 := ite_t h7 eb6
      cases eb6
      exact r_weak (L' := [none, none, some (vi z1.1), none]) ⟨rfl, trivial⟩ (J3 _ hx5)
    · replace eb6 := ite_f h7 eb6
      refine r_iload_n dX12_swornFor_12 rfl ?_
      refine r_aload_n dX12_swornFor_13 rfl ?_
      refine r_getR dX12_swornFor_14 fl_X12_59 rfl (lp_44 hS) (lq_44 hS) (lr_44_36 hS) ?_
      refine r_iload_n dX12_swornFor_17 rfl ?_
      obtain ⟨hg8, eb6⟩ := grd_some eb6
      refine r_iald dX12_swornFor_18 (lp_61 hS) (lk_61 hS) hg8 ?_
      refine r_iload_n dX12_swornFor_19 rfl ?_
      obtain ⟨p9, ep11, eb6⟩ := obind eb6
      have J10a : Run l G M_X12_swornFor 1 46 [some (vr (some 44)), some (vi a1), none, some (vi z1.2)] [vi p9, vi z1.1] S mm (some (vi q)) S mm := by
        refine r_ior dX12_swornFor_46 ?_
        refine r_istore_n dX12_swornFor_47 (by decide) rfl ?_
        refine r_iinc (v := _ + (1 : Int32)) dX12_swornFor_48 rfl (congrArg (_ + ·) ci_1) (by decide) rfl ?_
        refine r_goto (tgt := 4) dX12_swornFor_51 rfl ?_
        cases eb6
        exact r_weak (L' := [some (vr (some 44)), some (vi a1), some (vi (z1.1 ||| p9)), some (vi (z1.2 + (1 : Int32)))]) ⟨rfl, rfl, rfl, rfl, trivial⟩ hx5
      have J10 : ∀ pp : Int32, pp = p9 → Run l G M_X12_swornFor 1 46 [some (vr (some 44)), some (vi a1), none, some (vi z1.2)] [vi pp, vi z1.1] S mm (some (vi q)) S mm := by
        intro pp hpp
        rw [hpp]
        exact J10a
      refine r_icmp_ne (tgt := 45) dX12_swornFor_20 rfl (fun h13 => ?_) (fun h13 => ?_)
      · replace ep11 := ite_f h13 ep11
        refine r_iconst (v := 0) dX12_swornFor_45 ci_0 ?_
        exact r_weak (L' := [some (vr (some 44)), some (vi a1), none, some (vi z1.2)]) ⟨rfl, rfl, rfl, trivial⟩ (J10 _ (Option.some.inj ep11))
      · replace ep11 := ite_t h13 ep11
        refine r_aload_n dX12_swornFor_23 rfl ?_
        refine r_getI dX12_swornFor_24 fl_X12_261 rfl (lp_44 hS) (lq_44 hS) ?_
        refine r_iload_n dX12_swornFor_27 rfl ?_
        refine r_callS (as := [_, _]) (rest := [_]) dX12_swornFor_28 ml_X12_94 yS_X12_has (c_X12_has hS) (by decide) rfl (Nat.le_of_ble_eq_true rfl) ?_
        refine r_if_ne (tgt := 45) dX12_swornFor_31 rfl (fun h14 => ?_) (fun h14 => ?_)
        · replace ep11 := ite_f h14 ep11
          refine r_iconst (v := 0) dX12_swornFor_45 ci_0 ?_
          exact r_weak (L' := [some (vr (some 44)), some (vi a1), none, some (vi z1.2)]) ⟨rfl, rfl, rfl, trivial⟩ (J10 _ (Option.some.inj ep11))
        · replace ep11 := ite_t h14 ep11
          refine r_iconst (v := 1) dX12_swornFor_34 ci_1 ?_
          refine r_aload_n dX12_swornFor_35 rfl ?_
          refine r_getR dX12_swornFor_36 fl_X12_62 rfl (lp_44 hS) (lq_44 hS) (lr_44_37 hS) ?_
          refine r_iload_n dX12_swornFor_39 rfl ?_
          obtain ⟨hg15, ep11⟩ := grd_some ep11
          refine r_iald dX12_swornFor_40 (lp_62 hS) (lk_62 hS) hg15 ?_
          refine r_ishl dX12_swornFor_41 ?_
          refine r_goto (tgt := 46) dX12_swornFor_42 rfl ?_
          exact r_weak (L' := [some (vr (some 44)), some (vi a1), none, some (vi z1.2)]) ⟨rfl, rfl, rfl, trivial⟩ (J10 _ (Option.some.inj ep11))
  exact r_weak (L' := [some (vr (some 44)), some (vi a1), some (vi (0 : Int32)), some (vi (0 : Int32))]) ⟨rfl, rfl, rfl, rfl, trivial⟩ J3w
def m_X12_openTo_b4 (a1 : Int32) (mm : Mm) (z1 : Int32 × Int32) : Option ((Int32 × Int32) ⊕ (Int32)) := if (mI mm 44 25) ≤ z1.2 then (some (.inr z1.1)) else (grd z1.2 16 ((if (mI mm 61 (ix z1.2)) = a1 then (if (m_X12_has (mI mm 44 26) z1.2) = 0 then (grd z1.2 16 ((m_X12_heartOf (mI mm 60 (ix z1.2)) a1 mm).bind (fun q16 => grd z1.2 16 ((m_X12_of ((20 : Int32) + (mI mm 62 (ix z1.2))) mm).bind (fun q19 => if q16 < q19 then (some (0 : Int32)) else (some (1 : Int32))))))) else (some (0 : Int32))) else (some (0 : Int32)) : Option (Int32)).bind (fun p9 => (if p9 = 0 then (some (0 : Int32)) else (grd z1.2 16 (some (xshl (1 : Int32) (mI mm 62 (ix z1.2))))) : Option (Int32)).bind (fun p22 => some (.inl (z1.1 ||| p22, z1.2 + (1 : Int32)))))))
def m_X12_openTo (a1 : Int32) (mm : Mm) : Option (Int32) := (whileF FU (m_X12_openTo_b4 a1 mm) ((0 : Int32), (0 : Int32))).bind (fun p2 => some p2)
set_option maxHeartbeats 4000000 in
set_option maxRecDepth 100000 in
theorem c_X12_openTo {l : Launch} {G : Gt} {S : Sk} (hS : Lay S) {a1 : Int32} {mm : Mm} {q : Int32} (e : m_X12_openTo a1 mm = some q) : CallOK l G M_X12_openTo yX12_openTo 2 [vr (some 44), vi a1] S mm (some (vi q)) S mm := by
  refine call_of_run rfl rfl rfl (Nat.le_of_ble_eq_true rfl) ?_
  show Run l G M_X12_openTo 2 0 [some (vr (some 44)), some (vi a1), none, none, none] [] S mm (some (vi q)) S mm
  unfold m_X12_openTo at e
  refine r_iconst (v := 0) dX12_openTo_0 ci_0 ?_
  refine r_istore_n dX12_openTo_1 (by decide) rfl ?_
  refine r_iconst (v := 0) dX12_openTo_2 ci_0 ?_
  refine r_istore_n dX12_openTo_3 (by decide) rfl ?_
  obtain ⟨p2, eb6w, e⟩ := obind e
  have J3a : Run l G M_X12_openTo 2 93 [none, none, some (vi p2), none, none] [] S mm (some (vi q)) S mm := by
    refine r_iload_n dX12_openTo_93 rfl ?_
    cases e
    exact r_ireturn dX12_openTo_94 rfl rfl
  have J3 : ∀ pp : Int32, pp = p2 → Run l G M_X12_openTo 2 93 [none, none, some (vi pp), none, none] [] S mm (some (vi q)) S mm := by
    intro pp hpp
    rw [hpp]
    exact J3a
  have J3w : Run l G M_X12_openTo 2 4 [some (vr (some 44)), some (vi a1), some (vi (0 : Int32)), some (vi (0 : Int32)), none] [] S mm (some (vi q)) S mm := by
    refine while_run (s := ((0 : Int32), (0 : Int32))) (Gs := fun (z1 : Int32 × Int32) => Run l G M_X12_openTo 2 4 [some (vr (some 44)), some (vi a1), some (vi z1.1), some (vi z1.2), none] [] S mm (some (vi q)) S mm) eb6w ?_
    intro z1 x4y eb6 hx5
    unfold m_X12_openTo_b4 at eb6
    refine r_iload_n dX12_openTo_4 rfl ?_
    refine r_aload_n dX12_openTo_5 rfl ?_
    refine r_getI dX12_openTo_6 fl_X12_280 rfl (lp_44 hS) (lq_44 hS) ?_
    refine r_icmp_ge (tgt := 93) dX12_openTo_9 rfl (fun h7 => ?_) (fun h7 => ?_)
    · replace eb6 := ite_t h7 eb6
      cases eb6
      exact r_weak (L' := [none, none, some (vi z1.1), none, none]) ⟨rfl, trivial⟩ (J3 _ hx5)
    · replace eb6 := ite_f h7 eb6
      refine r_aload_n dX12_openTo_12 rfl ?_
      refine r_getR dX12_openTo_13 fl_X12_59 rfl (lp_44 hS) (lq_44 hS) (lr_44_36 hS) ?_
      refine r_iload_n dX12_openTo_16 rfl ?_
      obtain ⟨hg8, eb6⟩ := grd_some eb6
      refine r_iald dX12_openTo_17 (lp_61 hS) (lk_61 hS) hg8 ?_
      refine r_iload_n dX12_openTo_18 rfl ?_
      obtain ⟨p9, ep11, eb6⟩ := obind eb6
      have J10a : Run l G M_X12_openTo 2 65 [some (vr (some 44)), some (vi a1), some (vi z1.1), some (vi z1.2), none] [vi p9] S mm (some (vi q)) S mm := by
        refine r_istore dX12_openTo_65 (by decide) rfl ?_
        refine r_iload_n dX12_openTo_67 rfl ?_
        refine r_iload dX12_openTo_68 rfl ?_
        obtain ⟨p22, ep24, eb6⟩ := obind eb6
        have J23a : Run l G M_X12_openTo 2 85 [some (vr (some 44)), some (vi a1), none, some (vi z1.2), none] [vi p22, vi z1.1] S mm (some (vi q)) S mm := by
          refine r_ior dX12_openTo_85 ?_
          refine r_istore_n dX12_openTo_86 (by decide) rfl ?_
          refine r_iinc (v := _ + (1 : Int32)) dX12_openTo_87 rfl (congrArg (_ + ·) ci_1) (by decide) rfl ?_
          refine r_goto (tgt := 4) dX12_openTo_90 rfl ?_
          cases eb6
          exact r_weak (L' := [some (vr (some 44)), some (vi a1), some (vi (z1.1 ||| p22)), some (vi (z1.2 + (1 : Int32))), none]) ⟨rfl, rfl, rfl, rfl, trivial⟩ hx5
        have J23 : ∀ pp : Int32, pp = p22 → Run l G M_X12_openTo 2 85 [some (vr (some 44)), some (vi a1), none, some (vi z1.2), none] [vi pp, vi z1.1] S mm (some (vi q)) S mm := by
          intro pp hpp
          rw [hpp]
          exact J23a
        refine r_if_eq (tgt := 84) dX12_openTo_70 rfl (fun h26 => ?_) (fun h26 => ?_)
        · replace ep24 := ite_t h26 ep24
          refine r_iconst (v := 0) dX12_openTo_84 ci_0 ?_
          exact r_weak (L' := [some (vr (some 44)), some (vi a1), none, some (vi z1.2), none]) ⟨rfl, rfl, rfl, trivial⟩ (J23 _ (Option.some.inj ep24))
        · replace ep24 := ite_f h26 ep24
          refine r_iconst (v := 1) dX12_openTo_73 ci_1 ?_
          refine r_aload_n dX12_openTo_74 rfl ?_
          refine r_getR dX12_openTo_75 fl_X12_62 rfl (lp_44 hS) (lq_44 hS) (lr_44_37 hS) ?_
          refine r_iload_n dX12_openTo_78 rfl ?_
          obtain ⟨hg27, ep24⟩ := grd_some ep24
          refine r_iald dX12_openTo_79 (lp_62 hS) (lk_62 hS) hg27 ?_
          refine r_ishl dX12_openTo_80 ?_
          refine r_goto (tgt := 85) dX12_openTo_81 rfl ?_
          exact r_weak (L' := [some (vr (some 44)), some (vi a1), none, some (vi z1.2), none]) ⟨rfl, rfl, rfl, trivial⟩ (J23 _ (Option.some.inj ep24))
      have J10 : ∀ pp : Int32, pp = p9 → Run l G M_X12_openTo 2 65 [some (vr (some 44)), some (vi a1), some (vi z1.1), some (vi z1.2), none] [vi pp] S mm (some (vi q)) S mm := by
        intro pp hpp
        rw [hpp]
        exact J10a
      refine r_icmp_ne (tgt := 64) dX12_openTo_19 rfl (fun h13 => ?_) (fun h13 => ?_)
      · replace ep11 := ite_f h13 ep11
        refine r_iconst (v := 0) dX12_openTo_64 ci_0 ?_
        exact r_weak (L' := [some (vr (some 44)), some (vi a1), some (vi z1.1), some (vi z1.2), none]) ⟨rfl, rfl, rfl, rfl, trivial⟩ (J10 _ (Option.some.inj ep11))
      · replace ep11 := ite_t h13 ep11
        refine r_aload_n dX12_openTo_22 rfl ?_
        refine r_getI dX12_openTo_23 fl_X12_261 rfl (lp_44 hS) (lq_44 hS) ?_
        refine r_iload_n dX12_openTo_26 rfl ?_
        refine r_callS (as := [_, _]) (rest := []) dX12_openTo_27 ml_X12_94 yS_X12_has (c_X12_has hS) (by decide) rfl (Nat.le_of_ble_eq_true rfl) ?_
        refine r_if_ne (tgt := 64) dX12_openTo_30 rfl (fun h14 => ?_) (fun h14 => ?_)
        · replace ep11 := ite_f h14 ep11
          refine r_iconst (v := 0) dX12_openTo_64 ci_0 ?_
          exact r_weak (L' := [some (vr (some 44)), some (vi a1), some (vi z1.1), some (vi z1.2), none]) ⟨rfl, rfl, rfl, rfl, trivial⟩ (J10 _ (Option.some.inj ep11))
        · replace ep11 := ite_t h14 ep11
          refine r_aload_n dX12_openTo_33 rfl ?_
          refine r_aload_n dX12_openTo_34 rfl ?_
          refine r_getR dX12_openTo_35 fl_X12_56 rfl (lp_44 hS) (lq_44 hS) (lr_44_35 hS) ?_
          refine r_iload_n dX12_openTo_38 rfl ?_
          obtain ⟨hg15, ep11⟩ := grd_some ep11
          refine r_iald dX12_openTo_39 (lp_60 hS) (lk_60 hS) hg15 ?_
          refine r_iload_n dX12_openTo_40 rfl ?_
          obtain ⟨q16, eq17, ep11⟩ := obind ep11
          refine r_callV (as := [_, _]) (rest := []) dX12_openTo_41 ml_X12_292 yV_X12_heartOf (c_X12_heartOf hS eq17) (by decide) rfl (lp_44 hS) (lq_44 hS) (Nat.le_of_ble_eq_true rfl) ?_
          refine r_aload_n dX12_openTo_44 rfl ?_
          refine r_bipush (v := 20) dX12_openTo_45 cb_20 ?_
          refine r_aload_n dX12_openTo_47 rfl ?_
          refine r_getR dX12_openTo_48 fl_X12_62 rfl (lp_44 hS) (lq_44 hS) (lr_44_37 hS) ?_
          refine r_iload_n dX12_openTo_51 rfl ?_
          obtain ⟨hg18, ep11⟩ := grd_some ep11
          refine r_iald dX12_openTo_52 (lp_62 hS) (lk_62 hS) hg18 ?_
          refine r_iadd dX12_openTo_53 ?_
          obtain ⟨q19, eq20, ep11⟩ := obind ep11
          refine r_callV (as := [_]) (rest := [_]) dX12_openTo_54 ml_X12_276 yV_X12_of (c_X12_of hS eq20) (by decide) rfl (lp_44 hS) (lq_44 hS) (Nat.le_of_ble_eq_true rfl) ?_
          refine r_icmp_lt (tgt := 64) dX12_openTo_57 rfl (fun h21 => ?_) (fun h21 => ?_)
          · replace ep11 := ite_t h21 ep11
            refine r_iconst (v := 0) dX12_openTo_64 ci_0 ?_
            exact r_weak (L' := [some (vr (some 44)), some (vi a1), some (vi z1.1), some (vi z1.2), none]) ⟨rfl, rfl, rfl, rfl, trivial⟩ (J10 _ (Option.some.inj ep11))
          · replace ep11 := ite_f h21 ep11
            refine r_iconst (v := 1) dX12_openTo_60 ci_1 ?_
            refine r_goto (tgt := 65) dX12_openTo_61 rfl ?_
            exact r_weak (L' := [some (vr (some 44)), some (vi a1), some (vi z1.1), some (vi z1.2), none]) ⟨rfl, rfl, rfl, rfl, trivial⟩ (J10 _ (Option.some.inj ep11))
  exact r_weak (L' := [some (vr (some 44)), some (vi a1), some (vi (0 : Int32)), some (vi (0 : Int32)), none]) ⟨rfl, rfl, rfl, rfl, trivial⟩ J3w
def m_X12_isPeace_b4 (a1 : Int32) (mm : Mm) (z1 : Int32 × Int32) : Option ((Int32 × Int32) ⊕ (Int32)) := if (8 : Int32) ≤ z1.2 then (some (.inr z1.1)) else ((if z1.1 = 0 then (some (0 : Int32)) else (if (m_X12_has a1 z1.2) = 0 then (some (1 : Int32)) else ((m_X12_of ((28 : Int32) + z1.2) mm).bind (fun q14 => if (q14 &&& a1) = 0 then (some (1 : Int32)) else (some (0 : Int32))))) : Option (Int32)).bind (fun p8 => some (.inl (p8, z1.2 + (1 : Int32)))))
def m_X12_isPeace (a1 : Int32) (mm : Mm) : Option (Int32) := (whileF FU (m_X12_isPeace_b4 a1 mm) ((1 : Int32), (0 : Int32))).bind (fun p2 => gbz p2 (some p2))
set_option maxHeartbeats 4000000 in
set_option maxRecDepth 100000 in
theorem c_X12_isPeace {l : Launch} {G : Gt} {S : Sk} (hS : Lay S) {a1 : Int32} {mm : Mm} {q : Int32} (e : m_X12_isPeace a1 mm = some q) : CallOK l G M_X12_isPeace yX12_isPeace 1 [vr (some 44), vi a1] S mm (some (vi q)) S mm := by
  refine call_of_run rfl rfl rfl (Nat.le_of_ble_eq_true rfl) ?_
  show Run l G M_X12_isPeace 1 0 [some (vr (some 44)), some (vi a1), none, none] [] S mm (some (vi q)) S mm
  unfold m_X12_isPeace at e
  refine r_iconst (v := 1) dX12_isPeace_0 ci_1 ?_
  refine r_istore_n dX12_isPeace_1 (by decide) rfl ?_
  refine r_iconst (v := 0) dX12_isPeace_2 ci_0 ?_
  refine r_istore_n dX12_isPeace_3 (by decide) rfl ?_
  obtain ⟨p2, eb6w, e⟩ := obind e
  have J3a : Run l G M_X12_isPeace 1 47 [none, none, some (vi p2), none] [] S mm (some (vi q)) S mm := by
    refine r_iload_n dX12_isPeace_47 rfl ?_
    obtain ⟨hbz, e⟩ := gbz_some e
    cases e
    exact r_ireturn dX12_isPeace_48 rfl (nz_b hbz).1
  have J3 : ∀ pp : Int32, pp = p2 → Run l G M_X12_isPeace 1 47 [none, none, some (vi pp), none] [] S mm (some (vi q)) S mm := by
    intro pp hpp
    rw [hpp]
    exact J3a
  have J3w : Run l G M_X12_isPeace 1 4 [some (vr (some 44)), some (vi a1), some (vi (1 : Int32)), some (vi (0 : Int32))] [] S mm (some (vi q)) S mm := by
    refine while_run (s := ((1 : Int32), (0 : Int32))) (Gs := fun (z1 : Int32 × Int32) => Run l G M_X12_isPeace 1 4 [some (vr (some 44)), some (vi a1), some (vi z1.1), some (vi z1.2)] [] S mm (some (vi q)) S mm) eb6w ?_
    intro z1 x4y eb6 hx5
    unfold m_X12_isPeace_b4 at eb6
    refine r_iload_n dX12_isPeace_4 rfl ?_
    refine r_bipush (v := 8) dX12_isPeace_5 cb_8 ?_
    refine r_icmp_ge (tgt := 47) dX12_isPeace_7 rfl (fun h7 => ?_) (fun h7 => ?_)
    · replace eb6 := ite_t h7 eb6
      cases eb6
      exact r_weak (L' := [none, none, some (vi z1.1), none]) ⟨rfl, trivial⟩ (J3 _ hx5)
    · replace eb6 := ite_f h7 eb6
      refine r_iload_n dX12_isPeace_10 rfl ?_
      obtain ⟨p8, ep10, eb6⟩ := obind eb6
      have J9a : Run l G M_X12_isPeace 1 40 [some (vr (some 44)), some (vi a1), none, some (vi z1.2)] [vi p8] S mm (some (vi q)) S mm := by
        refine r_istore_n dX12_isPeace_40 (by decide) rfl ?_
        refine r_iinc (v := _ + (1 : Int32)) dX12_isPeace_41 rfl (congrArg (_ + ·) ci_1) (by decide) rfl ?_
        refine r_goto (tgt := 4) dX12_isPeace_44 rfl ?_
        cases eb6
        exact r_weak (L' := [some (vr (some 44)), some (vi a1), some (vi p8), some (vi (z1.2 + (1 : Int32)))]) ⟨rfl, rfl, rfl, rfl, trivial⟩ hx5
      have J9 : ∀ pp : Int32, pp = p8 → Run l G M_X12_isPeace 1 40 [some (vr (some 44)), some (vi a1), none, some (vi z1.2)] [vi pp] S mm (some (vi q)) S mm := by
        intro pp hpp
        rw [hpp]
        exact J9a
      refine r_if_eq (tgt := 39) dX12_isPeace_11 rfl (fun h12 => ?_) (fun h12 => ?_)
      · replace ep10 := ite_t h12 ep10
        refine r_iconst (v := 0) dX12_isPeace_39 ci_0 ?_
        exact r_weak (L' := [some (vr (some 44)), some (vi a1), none, some (vi z1.2)]) ⟨rfl, rfl, rfl, trivial⟩ (J9 _ (Option.some.inj ep10))
      · replace ep10 := ite_f h12 ep10
        refine r_iload_n dX12_isPeace_14 rfl ?_
        refine r_iload_n dX12_isPeace_15 rfl ?_
        refine r_callS (as := [_, _]) (rest := []) dX12_isPeace_16 ml_X12_94 yS_X12_has (c_X12_has hS) (by decide) rfl (Nat.le_of_ble_eq_true rfl) ?_
        refine r_if_eq (tgt := 35) dX12_isPeace_19 rfl (fun h13 => ?_) (fun h13 => ?_)
        · replace ep10 := ite_t h13 ep10
          refine r_iconst (v := 1) dX12_isPeace_35 ci_1 ?_
          refine r_goto (tgt := 40) dX12_isPeace_36 rfl ?_
          exact r_weak (L' := [some (vr (some 44)), some (vi a1), none, some (vi z1.2)]) ⟨rfl, rfl, rfl, trivial⟩ (J9 _ (Option.some.inj ep10))
        · replace ep10 := ite_f h13 ep10
          refine r_aload_n dX12_isPeace_22 rfl ?_
          refine r_bipush (v := 28) dX12_isPeace_23 cb_28 ?_
          refine r_iload_n dX12_isPeace_25 rfl ?_
          refine r_iadd dX12_isPeace_26 ?_
          obtain ⟨q14, eq15, ep10⟩ := obind ep10
          refine r_callV (as := [_]) (rest := []) dX12_isPeace_27 ml_X12_276 yV_X12_of (c_X12_of hS eq15) (by decide) rfl (lp_44 hS) (lq_44 hS) (Nat.le_of_ble_eq_true rfl) ?_
          refine r_iload_n dX12_isPeace_30 rfl ?_
          refine r_iand dX12_isPeace_31 ?_
          refine r_if_ne (tgt := 39) dX12_isPeace_32 rfl (fun h16 => ?_) (fun h16 => ?_)
          · replace ep10 := ite_f h16 ep10
            refine r_iconst (v := 0) dX12_isPeace_39 ci_0 ?_
            exact r_weak (L' := [some (vr (some 44)), some (vi a1), none, some (vi z1.2)]) ⟨rfl, rfl, rfl, trivial⟩ (J9 _ (Option.some.inj ep10))
          · replace ep10 := ite_t h16 ep10
            refine r_iconst (v := 1) dX12_isPeace_35 ci_1 ?_
            refine r_goto (tgt := 40) dX12_isPeace_36 rfl ?_
            exact r_weak (L' := [some (vr (some 44)), some (vi a1), none, some (vi z1.2)]) ⟨rfl, rfl, rfl, trivial⟩ (J9 _ (Option.some.inj ep10))
  exact r_weak (L' := [some (vr (some 44)), some (vi a1), some (vi (1 : Int32)), some (vi (0 : Int32))]) ⟨rfl, rfl, rfl, rfl, trivial⟩ J3w
def m_X12_mostOf_b5 (a1 : Int32) (a2 : Int32) (mm : Mm) (z1 : Int32 × Int32) : Option ((Int32 × Int32) ⊕ (Int32)) := if z1.2 ≤ 0 then (some (.inr z1.1)) else ((m_X12_ones z1.2).bind (fun q8 => (m_X12_ones z1.1).bind (fun q10 => (if q8 < q10 then (some (0 : Int32)) else ((m_X12_ones z1.2).bind (fun q17 => if a2 < q17 then (some (0 : Int32)) else (some (1 : Int32)))) : Option (Int32)).bind (fun p12 => (if p12 = 0 then (some z1.1) else ((m_X12_isPeace z1.2 mm).bind (fun q25 => if q25 = 0 then (some z1.1) else (some z1.2))) : Option (Int32)).bind (fun p20 => some (.inl (p20, (z1.2 - (1 : Int32)) &&& a1)))))))
def m_X12_mostOf (a1 : Int32) (a2 : Int32) (mm : Mm) : Option (Int32) := (whileF FU (m_X12_mostOf_b5 a1 a2 mm) ((0 : Int32), a1)).bind (fun p2 => some p2)
set_option maxHeartbeats 4000000 in
set_option maxRecDepth 100000 in
theorem c_X12_mostOf {l : Launch} {G : Gt} {S : Sk} (hS : Lay S) {a1 : Int32} {a2 : Int32} {mm : Mm} {q : Int32} (e : m_X12_mostOf a1 a2 mm = some q) : CallOK l G M_X12_mostOf yX12_mostOf 2 [vr (some 44), vi a1, vi a2] S mm (some (vi q)) S mm := by
  refine call_of_run rfl rfl rfl (Nat.le_of_ble_eq_true rfl) ?_
  show Run l G M_X12_mostOf 2 0 [some (vr (some 44)), some (vi a1), some (vi a2), none, none, none] [] S mm (some (vi q)) S mm
  unfold m_X12_mostOf at e
  refine r_iconst (v := 0) dX12_mostOf_0 ci_0 ?_
  refine r_istore_n dX12_mostOf_1 (by decide) rfl ?_
  refine r_iload_n dX12_mostOf_2 rfl ?_
  refine r_istore dX12_mostOf_3 (by decide) rfl ?_
  obtain ⟨p2, eb6w, e⟩ := obind e
  have J3a : Run l G M_X12_mostOf 2 70 [none, none, none, some (vi p2), none, none] [] S mm (some (vi q)) S mm := by
    refine r_iload_n dX12_mostOf_70 rfl ?_
    cases e
    exact r_ireturn dX12_mostOf_71 rfl rfl
  have J3 : ∀ pp : Int32, pp = p2 → Run l G M_X12_mostOf 2 70 [none, none, none, some (vi pp), none, none] [] S mm (some (vi q)) S mm := by
    intro pp hpp
    rw [hpp]
    exact J3a
  have J3w : Run l G M_X12_mostOf 2 5 [some (vr (some 44)), some (vi a1), some (vi a2), some (vi (0 : Int32)), some (vi a1), none] [] S mm (some (vi q)) S mm := by
    refine while_run (s := ((0 : Int32), a1)) (Gs := fun (z1 : Int32 × Int32) => Run l G M_X12_mostOf 2 5 [some (vr (some 44)), some (vi a1), some (vi a2), some (vi z1.1), some (vi z1.2), none] [] S mm (some (vi q)) S mm) eb6w ?_
    intro z1 x4y eb6 hx5
    unfold m_X12_mostOf_b5 at eb6
    refine r_iload dX12_mostOf_5 rfl ?_
    refine r_if_le (tgt := 70) dX12_mostOf_7 rfl (fun h7 => ?_) (fun h7 => ?_)
    · replace eb6 := ite_t h7 eb6
      cases eb6
      exact r_weak (L' := [none, none, none, some (vi z1.1), none, none]) ⟨rfl, trivial⟩ (J3 _ hx5)
    · replace eb6 := ite_f h7 eb6
      refine r_iload dX12_mostOf_10 rfl ?_
      obtain ⟨q8, eq9, eb6⟩ := obind eb6
      refine r_callS (as := [_]) (rest := []) dX12_mostOf_12 ml_X12_295 yS_X12_ones (c_X12_ones hS eq9) (by decide) rfl (Nat.le_of_ble_eq_true rfl) ?_
      refine r_iload_n dX12_mostOf_15 rfl ?_
      obtain ⟨q10, eq11, eb6⟩ := obind eb6
      refine r_callS (as := [_]) (rest := [_]) dX12_mostOf_16 ml_X12_295 yS_X12_ones (c_X12_ones hS eq11) (by decide) rfl (Nat.le_of_ble_eq_true rfl) ?_
      obtain ⟨p12, ep14, eb6⟩ := obind eb6
      have J13a : Run l G M_X12_mostOf 2 36 [some (vr (some 44)), some (vi a1), some (vi a2), some (vi z1.1), some (vi z1.2), none] [vi p12] S mm (some (vi q)) S mm := by
        refine r_istore dX12_mostOf_36 (by decide) rfl ?_
        refine r_iload dX12_mostOf_38 rfl ?_
        obtain ⟨p20, ep22, eb6⟩ := obind eb6
        have J21a : Run l G M_X12_mostOf 2 58 [some (vr (some 44)), some (vi a1), some (vi a2), none, some (vi z1.2), none] [vi p20] S mm (some (vi q)) S mm := by
          refine r_istore_n dX12_mostOf_58 (by decide) rfl ?_
          refine r_iload dX12_mostOf_59 rfl ?_
          refine r_iconst (v := 1) dX12_mostOf_61 ci_1 ?_
          refine r_isub dX12_mostOf_62 ?_
          refine r_iload_n dX12_mostOf_63 rfl ?_
          refine r_iand dX12_mostOf_64 ?_
          refine r_istore dX12_mostOf_65 (by decide) rfl ?_
          refine r_goto (tgt := 5) dX12_mostOf_67 rfl ?_
          cases eb6
          exact r_weak (L' := [some (vr (some 44)), some (vi a1), some (vi a2), some (vi p20), some (vi ((z1.2 - (1 : Int32)) &&& a1)), none]) ⟨rfl, rfl, rfl, rfl, rfl, trivial⟩ hx5
        have J21 : ∀ pp : Int32, pp = p20 → Run l G M_X12_mostOf 2 58 [some (vr (some 44)), some (vi a1), some (vi a2), none, some (vi z1.2), none] [vi pp] S mm (some (vi q)) S mm := by
          intro pp hpp
          rw [hpp]
          exact J21a
        refine r_if_eq (tgt := 57) dX12_mostOf_40 rfl (fun h24 => ?_) (fun h24 => ?_)
        · replace ep22 := ite_t h24 ep22
          refine r_iload_n dX12_mostOf_57 rfl ?_
          exact r_weak (L' := [some (vr (some 44)), some (vi a1), some (vi a2), none, some (vi z1.2), none]) ⟨rfl, rfl, rfl, rfl, trivial⟩ (J21 _ (Option.some.inj ep22))
        · replace ep22 := ite_f h24 ep22
          refine r_aload_n dX12_mostOf_43 rfl ?_
          refine r_iload dX12_mostOf_44 rfl ?_
          obtain ⟨q25, eq26, ep22⟩ := obind ep22
          refine r_callV (as := [_]) (rest := []) dX12_mostOf_46 ml_X12_298 yV_X12_isPeace (c_X12_isPeace hS eq26) (by decide) rfl (lp_44 hS) (lq_44 hS) (Nat.le_of_ble_eq_true rfl) ?_
          refine r_if_eq (tgt := 57) dX12_mostOf_49 rfl (fun h27 => ?_) (fun h27 => ?_)
          · replace ep22 := ite_t h27 ep22
            refine r_iload_n dX12_mostOf_57 rfl ?_
            exact r_weak (L' := [some (vr (some 44)), some (vi a1), some (vi a2), none, some (vi z1.2), none]) ⟨rfl, rfl, rfl, rfl, trivial⟩ (J21 _ (Option.some.inj ep22))
          · replace ep22 := ite_f h27 ep22
            refine r_iload dX12_mostOf_52 rfl ?_
            refine r_goto (tgt := 58) dX12_mostOf_54 rfl ?_
            exact r_weak (L' := [some (vr (some 44)), some (vi a1), some (vi a2), none, some (vi z1.2), none]) ⟨rfl, rfl, rfl, rfl, trivial⟩ (J21 _ (Option.some.inj ep22))
      have J13 : ∀ pp : Int32, pp = p12 → Run l G M_X12_mostOf 2 36 [some (vr (some 44)), some (vi a1), some (vi a2), some (vi z1.1), some (vi z1.2), none] [vi pp] S mm (some (vi q)) S mm := by
        intro pp hpp
        rw [hpp]
        exact J13a
      refine r_icmp_lt (tgt := 35) dX12_mostOf_19 rfl (fun h16 => ?_) (fun h16 => ?_)
      · replace ep14 := ite_t h16 ep14
        refine r_iconst (v := 0) dX12_mostOf_35 ci_0 ?_
        exact r_weak (L' := [some (vr (some 44)), some (vi a1), some (vi a2), some (vi z1.1), some (vi z1.2), none]) ⟨rfl, rfl, rfl, rfl, rfl, trivial⟩ (J13 _ (Option.some.inj ep14))
      · replace ep14 := ite_f h16 ep14
        refine r_iload dX12_mostOf_22 rfl ?_
        obtain ⟨q17, eq18, ep14⟩ := obind ep14
        refine r_callS (as := [_]) (rest := []) dX12_mostOf_24 ml_X12_295 yS_X12_ones (c_X12_ones hS eq18) (by decide) rfl (Nat.le_of_ble_eq_true rfl) ?_
        refine r_iload_n dX12_mostOf_27 rfl ?_
        refine r_icmp_gt (tgt := 35) dX12_mostOf_28 rfl (fun h19 => ?_) (fun h19 => ?_)
        · replace ep14 := ite_t h19 ep14
          refine r_iconst (v := 0) dX12_mostOf_35 ci_0 ?_
          exact r_weak (L' := [some (vr (some 44)), some (vi a1), some (vi a2), some (vi z1.1), some (vi z1.2), none]) ⟨rfl, rfl, rfl, rfl, rfl, trivial⟩ (J13 _ (Option.some.inj ep14))
        · replace ep14 := ite_f h19 ep14
          refine r_iconst (v := 1) dX12_mostOf_31 ci_1 ?_
          refine r_goto (tgt := 36) dX12_mostOf_32 rfl ?_
          exact r_weak (L' := [some (vr (some 44)), some (vi a1), some (vi a2), some (vi z1.1), some (vi z1.2), none]) ⟨rfl, rfl, rfl, rfl, rfl, trivial⟩ (J13 _ (Option.some.inj ep14))
  exact r_weak (L' := [some (vr (some 44)), some (vi a1), some (vi a2), some (vi (0 : Int32)), some (vi a1), none]) ⟨rfl, rfl, rfl, rfl, rfl, trivial⟩ J3w
def m_X12_keptBy (a1 : Int32) (mm : Mm) : Option (Int32) := (m_X12_openTo a1 mm).bind (fun q1 => grd a1 6 ((m_X12_mostOf q1 (mI mm 57 (ix a1)) mm).bind (fun q4 => some q4)))
set_option maxHeartbeats 4000000 in
set_option maxRecDepth 100000 in
theorem c_X12_keptBy {l : Launch} {G : Gt} {S : Sk} (hS : Lay S) {a1 : Int32} {mm : Mm} {q : Int32} (e : m_X12_keptBy a1 mm = some q) : CallOK l G M_X12_keptBy yX12_keptBy 3 [vr (some 44), vi a1] S mm (some (vi q)) S mm := by
  refine call_of_run rfl rfl rfl (Nat.le_of_ble_eq_true rfl) ?_
  show Run l G M_X12_keptBy 3 0 [some (vr (some 44)), some (vi a1)] [] S mm (some (vi q)) S mm
  unfold m_X12_keptBy at e
  refine r_aload_n dX12_keptBy_0 rfl ?_
  refine r_aload_n dX12_keptBy_1 rfl ?_
  refine r_iload_n dX12_keptBy_2 rfl ?_
  obtain ⟨q1, eq2, e⟩ := obind e
  refine r_callV (as := [_]) (rest := [_]) dX12_keptBy_3 ml_X12_301 yV_X12_openTo (c_X12_openTo hS eq2) (by decide) rfl (lp_44 hS) (lq_44 hS) (Nat.le_of_ble_eq_true rfl) ?_
  refine r_aload_n dX12_keptBy_6 rfl ?_
  refine r_getR dX12_keptBy_7 fl_X12_47 rfl (lp_44 hS) (lq_44 hS) (lr_44_32 hS) ?_
  refine r_iload_n dX12_keptBy_10 rfl ?_
  obtain ⟨hg3, e⟩ := grd_some e
  refine r_iald dX12_keptBy_11 (lp_57 hS) (lk_57 hS) hg3 ?_
  obtain ⟨q4, eq5, e⟩ := obind e
  refine r_callV (as := [_, _]) (rest := []) dX12_keptBy_12 ml_X12_304 yV_X12_mostOf (c_X12_mostOf hS eq5) (by decide) rfl (lp_44 hS) (lq_44 hS) (Nat.le_of_ble_eq_true rfl) ?_
  cases e
  exact r_ireturn dX12_keptBy_15 rfl rfl
def m_X12_brokenOnes_b21 (mm : Mm) (z1 : Int32 × Int32) (q8 : Int32) (z10 : Int32 × Int32) : Option ((Int32 × Int32) ⊕ (Int32)) := if (mI mm 44 25) ≤ z10.2 then (some (.inr z10.1)) else (grd z10.2 16 ((if (mI mm 61 (ix z10.2)) = z1.2 then (if (m_X12_has (mI mm 44 26) z10.2) = 0 then (grd z10.2 16 (if (m_X12_has q8 (mI mm 62 (ix z10.2))) = 0 then (some (xshl (1 : Int32) z10.2)) else (some (0 : Int32)))) else (some (0 : Int32))) else (some (0 : Int32)) : Option (Int32)).bind (fun p18 => some (.inl (z10.1 ||| p18, z10.2 + (1 : Int32))))))
def m_X12_brokenOnes_b4 (mm : Mm) (z1 : Int32 × Int32) : Option ((Int32 × Int32) ⊕ (Int32)) := if (mI mm 44 24) ≤ z1.2 then (some (.inr z1.1)) else ((m_X12_keptBy z1.2 mm).bind (fun q8 => (whileF FU (m_X12_brokenOnes_b21 mm z1 q8) (z1.1, (0 : Int32))).bind (fun p11 => some (.inl (p11, z1.2 + (1 : Int32))))))
def m_X12_brokenOnes (mm : Mm) : Option (Int32) := (whileF FU (m_X12_brokenOnes_b4 mm) ((0 : Int32), (0 : Int32))).bind (fun p2 => some p2)
set_option maxHeartbeats 4000000 in
set_option maxRecDepth 100000 in
theorem c_X12_brokenOnes {l : Launch} {G : Gt} {S : Sk} (hS : Lay S) {mm : Mm} {q : Int32} (e : m_X12_brokenOnes mm = some q) : CallOK l G M_X12_brokenOnes yX12_brokenOnes 4 [vr (some 44)] S mm (some (vi q)) S mm := by
  refine call_of_run rfl rfl rfl (Nat.le_of_ble_eq_true rfl) ?_
  show Run l G M_X12_brokenOnes 4 0 [some (vr (some 44)), none, none, none, none] [] S mm (some (vi q)) S mm
  unfold m_X12_brokenOnes at e
  refine r_iconst (v := 0) dX12_brokenOnes_0 ci_0 ?_
  refine r_istore_n dX12_brokenOnes_1 (by decide) rfl ?_
  refine r_iconst (v := 0) dX12_brokenOnes_2 ci_0 ?_
  refine r_istore_n dX12_brokenOnes_3 (by decide) rfl ?_
  obtain ⟨p2, eb6w, e⟩ := obind e
  have J3a : Run l G M_X12_brokenOnes 4 90 [none, some (vi p2), none, none, none] [] S mm (some (vi q)) S mm := by
    refine r_iload_n dX12_brokenOnes_90 rfl ?_
    cases e
    exact r_ireturn dX12_brokenOnes_91 rfl rfl
  have J3 : ∀ pp : Int32, pp = p2 → Run l G M_X12_brokenOnes 4 90 [none, some (vi pp), none, none, none] [] S mm (some (vi q)) S mm := by
    intro pp hpp
    rw [hpp]
    exact J3a
  have J3w : Run l G M_X12_brokenOnes 4 4 [some (vr (some 44)), some (vi (0 : Int32)), some (vi (0 : Int32)), none, none] [] S mm (some (vi q)) S mm := by
    refine while_run (s := ((0 : Int32), (0 : Int32))) (Gs := fun (z1 : Int32 × Int32) => Run l G M_X12_brokenOnes 4 4 [some (vr (some 44)), some (vi z1.1), some (vi z1.2), none, none] [] S mm (some (vi q)) S mm) eb6w ?_
    intro z1 x4y eb6 hx5
    unfold m_X12_brokenOnes_b4 at eb6
    refine r_iload_n dX12_brokenOnes_4 rfl ?_
    refine r_aload_n dX12_brokenOnes_5 rfl ?_
    refine r_getI dX12_brokenOnes_6 fl_X12_283 rfl (lp_44 hS) (lq_44 hS) ?_
    refine r_icmp_ge (tgt := 90) dX12_brokenOnes_9 rfl (fun h7 => ?_) (fun h7 => ?_)
    · replace eb6 := ite_t h7 eb6
      cases eb6
      exact r_weak (L' := [none, some (vi z1.1), none, none, none]) ⟨rfl, trivial⟩ (J3 _ hx5)
    · replace eb6 := ite_f h7 eb6
      refine r_aload_n dX12_brokenOnes_12 rfl ?_
      refine r_iload_n dX12_brokenOnes_13 rfl ?_
      obtain ⟨q8, eq9, eb6⟩ := obind eb6
      refine r_callV (as := [_]) (rest := []) dX12_brokenOnes_14 ml_X12_307 yV_X12_keptBy (c_X12_keptBy hS eq9) (by decide) rfl (lp_44 hS) (lq_44 hS) (Nat.le_of_ble_eq_true rfl) ?_
      refine r_istore_n dX12_brokenOnes_17 (by decide) rfl ?_
      refine r_iconst (v := 0) dX12_brokenOnes_18 ci_0 ?_
      refine r_istore dX12_brokenOnes_19 (by decide) rfl ?_
      obtain ⟨p11, eb15w, eb6⟩ := obind eb6
      have J12a : Run l G M_X12_brokenOnes 4 84 [some (vr (some 44)), some (vi p11), some (vi z1.2), none, none] [] S mm (some (vi q)) S mm := by
        refine r_iinc (v := _ + (1 : Int32)) dX12_brokenOnes_84 rfl (congrArg (_ + ·) ci_1) (by decide) rfl ?_
        refine r_goto (tgt := 4) dX12_brokenOnes_87 rfl ?_
        cases eb6
        exact r_weak (L' := [some (vr (some 44)), some (vi p11), some (vi (z1.2 + (1 : Int32))), none, none]) ⟨rfl, rfl, rfl, trivial⟩ hx5
      have J12 : ∀ pp : Int32, pp = p11 → Run l G M_X12_brokenOnes 4 84 [some (vr (some 44)), some (vi pp), some (vi z1.2), none, none] [] S mm (some (vi q)) S mm := by
        intro pp hpp
        rw [hpp]
        exact J12a
      have J12w : Run l G M_X12_brokenOnes 4 21 [some (vr (some 44)), some (vi z1.1), some (vi z1.2), some (vi q8), some (vi (0 : Int32))] [] S mm (some (vi q)) S mm := by
        refine while_run (s := (z1.1, (0 : Int32))) (Gs := fun (z10 : Int32 × Int32) => Run l G M_X12_brokenOnes 4 21 [some (vr (some 44)), some (vi z10.1), some (vi z1.2), some (vi q8), some (vi z10.2)] [] S mm (some (vi q)) S mm) eb15w ?_
        intro z10 x13y eb15 hx14
        unfold m_X12_brokenOnes_b21 at eb15
        refine r_iload dX12_brokenOnes_21 rfl ?_
        refine r_aload_n dX12_brokenOnes_23 rfl ?_
        refine r_getI dX12_brokenOnes_24 fl_X12_280 rfl (lp_44 hS) (lq_44 hS) ?_
        refine r_icmp_ge (tgt := 84) dX12_brokenOnes_27 rfl (fun h16 => ?_) (fun h16 => ?_)
        · replace eb15 := ite_t h16 eb15
          cases eb15
          exact r_weak (L' := [some (vr (some 44)), some (vi z10.1), some (vi z1.2), none, none]) ⟨rfl, rfl, rfl, trivial⟩ (J12 _ hx14)
        · replace eb15 := ite_f h16 eb15
          refine r_iload_n dX12_brokenOnes_30 rfl ?_
          refine r_aload_n dX12_brokenOnes_31 rfl ?_
          refine r_getR dX12_brokenOnes_32 fl_X12_59 rfl (lp_44 hS) (lq_44 hS) (lr_44_36 hS) ?_
          refine r_iload dX12_brokenOnes_35 rfl ?_
          obtain ⟨hg17, eb15⟩ := grd_some eb15
          refine r_iald dX12_brokenOnes_37 (lp_61 hS) (lk_61 hS) hg17 ?_
          refine r_iload_n dX12_brokenOnes_38 rfl ?_
          obtain ⟨p18, ep20, eb15⟩ := obind eb15
          have J19a : Run l G M_X12_brokenOnes 4 76 [some (vr (some 44)), none, some (vi z1.2), some (vi q8), some (vi z10.2)] [vi p18, vi z10.1] S mm (some (vi q)) S mm := by
            refine r_ior dX12_brokenOnes_76 ?_
            refine r_istore_n dX12_brokenOnes_77 (by decide) rfl ?_
            refine r_iinc (v := _ + (1 : Int32)) dX12_brokenOnes_78 rfl (congrArg (_ + ·) ci_1) (by decide) rfl ?_
            refine r_goto (tgt := 21) dX12_brokenOnes_81 rfl ?_
            cases eb15
            exact r_weak (L' := [some (vr (some 44)), some (vi (z10.1 ||| p18)), some (vi z1.2), some (vi q8), some (vi (z10.2 + (1 : Int32)))]) ⟨rfl, rfl, rfl, rfl, rfl, trivial⟩ hx14
          have J19 : ∀ pp : Int32, pp = p18 → Run l G M_X12_brokenOnes 4 76 [some (vr (some 44)), none, some (vi z1.2), some (vi q8), some (vi z10.2)] [vi pp, vi z10.1] S mm (some (vi q)) S mm := by
            intro pp hpp
            rw [hpp]
            exact J19a
          refine r_icmp_ne (tgt := 75) dX12_brokenOnes_39 rfl (fun h22 => ?_) (fun h22 => ?_)
          · replace ep20 := ite_f h22 ep20
            refine r_iconst (v := 0) dX12_brokenOnes_75 ci_0 ?_
            exact r_weak (L' := [some (vr (some 44)), none, some (vi z1.2), some (vi q8), some (vi z10.2)]) ⟨rfl, rfl, rfl, rfl, trivial⟩ (J19 _ (Option.some.inj ep20))
          · replace ep20 := ite_t h22 ep20
            refine r_aload_n dX12_brokenOnes_42 rfl ?_
            refine r_getI dX12_brokenOnes_43 fl_X12_261 rfl (lp_44 hS) (lq_44 hS) ?_
            refine r_iload dX12_brokenOnes_46 rfl ?_
            refine r_callS (as := [_, _]) (rest := [_]) dX12_brokenOnes_48 ml_X12_94 yS_X12_has (c_X12_has hS) (by decide) rfl (Nat.le_of_ble_eq_true rfl) ?_
            refine r_if_ne (tgt := 75) dX12_brokenOnes_51 rfl (fun h23 => ?_) (fun h23 => ?_)
            · replace ep20 := ite_f h23 ep20
              refine r_iconst (v := 0) dX12_brokenOnes_75 ci_0 ?_
              exact r_weak (L' := [some (vr (some 44)), none, some (vi z1.2), some (vi q8), some (vi z10.2)]) ⟨rfl, rfl, rfl, rfl, trivial⟩ (J19 _ (Option.some.inj ep20))
            · replace ep20 := ite_t h23 ep20
              refine r_iload_n dX12_brokenOnes_54 rfl ?_
              refine r_aload_n dX12_brokenOnes_55 rfl ?_
              refine r_getR dX12_brokenOnes_56 fl_X12_62 rfl (lp_44 hS) (lq_44 hS) (lr_44_37 hS) ?_
              refine r_iload dX12_brokenOnes_59 rfl ?_
              obtain ⟨hg24, ep20⟩ := grd_some ep20
              refine r_iald dX12_brokenOnes_61 (lp_62 hS) (lk_62 hS) hg24 ?_
              refine r_callS (as := [_, _]) (rest := [_]) dX12_brokenOnes_62 ml_X12_94 yS_X12_has (c_X12_has hS) (by decide) rfl (Nat.le_of_ble_eq_true rfl) ?_
              refine r_if_ne (tgt := 75) dX12_brokenOnes_65 rfl (fun h25 => ?_) (fun h25 => ?_)
              · replace ep20 := ite_f h25 ep20
                refine r_iconst (v := 0) dX12_brokenOnes_75 ci_0 ?_
                exact r_weak (L' := [some (vr (some 44)), none, some (vi z1.2), some (vi q8), some (vi z10.2)]) ⟨rfl, rfl, rfl, rfl, trivial⟩ (J19 _ (Option.some.inj ep20))
              · replace ep20 := ite_t h25 ep20
                refine r_iconst (v := 1) dX12_brokenOnes_68 ci_1 ?_
                refine r_iload dX12_brokenOnes_69 rfl ?_
                refine r_ishl dX12_brokenOnes_71 ?_
                refine r_goto (tgt := 76) dX12_brokenOnes_72 rfl ?_
                exact r_weak (L' := [some (vr (some 44)), none, some (vi z1.2), some (vi q8), some (vi z10.2)]) ⟨rfl, rfl, rfl, rfl, trivial⟩ (J19 _ (Option.some.inj ep20))
      exact r_weak (L' := [some (vr (some 44)), some (vi z1.1), some (vi z1.2), some (vi q8), some (vi (0 : Int32))]) ⟨rfl, rfl, rfl, rfl, rfl, trivial⟩ J12w
  exact r_weak (L' := [some (vr (some 44)), some (vi (0 : Int32)), some (vi (0 : Int32)), none, none]) ⟨rfl, rfl, rfl, trivial⟩ J3w
def m_X12_ofOath (a1 : Int32) (a2 : Int32) (mm : Mm) : Option (Int32) := (m_X12_of (1 : Int32) mm).bind (fun q1 => if (m_X12_in a1 (0 : Int32) (q1 - (1 : Int32))) = 0 then (some (-1 : Int32)) else (if a2 = (1 : Int32) then (grd a1 16 (some (mI mm 60 (ix a1)))) else (if a2 = (2 : Int32) then (grd a1 16 (some (mI mm 61 (ix a1)))) else (grd a1 16 (some (mI mm 62 (ix a1)))))))
set_option maxHeartbeats 4000000 in
set_option maxRecDepth 100000 in
theorem c_X12_ofOath {l : Launch} {G : Gt} {S : Sk} (hS : Lay S) {a1 : Int32} {a2 : Int32} {mm : Mm} {q : Int32} (e : m_X12_ofOath a1 a2 mm = some q) : CallOK l G M_X12_ofOath yX12_ofOath 1 [vr (some 44), vi a1, vi a2] S mm (some (vi q)) S mm := by
  refine call_of_run rfl rfl rfl (Nat.le_of_ble_eq_true rfl) ?_
  show Run l G M_X12_ofOath 1 0 [some (vr (some 44)), some (vi a1), some (vi a2)] [] S mm (some (vi q)) S mm
  unfold m_X12_ofOath at e
  refine r_iload_n dX12_ofOath_0 rfl ?_
  refine r_iconst (v := 0) dX12_ofOath_1 ci_0 ?_
  refine r_aload_n dX12_ofOath_2 rfl ?_
  refine r_iconst (v := 1) dX12_ofOath_3 ci_1 ?_
  obtain ⟨q1, eq2, e⟩ := obind e
  refine r_callV (as := [_]) (rest := [_, _]) dX12_ofOath_4 ml_X12_276 yV_X12_of (c_X12_of hS eq2) (by decide) rfl (lp_44 hS) (lq_44 hS) (Nat.le_of_ble_eq_true rfl) ?_
  refine r_iconst (v := 1) dX12_ofOath_7 ci_1 ?_
  refine r_isub dX12_ofOath_8 ?_
  refine r_callS (as := [_, _, _]) (rest := []) dX12_ofOath_9 ml_X12_102 yS_X12_in (c_X12_in hS) (by decide) rfl (Nat.le_of_ble_eq_true rfl) ?_
  refine r_if_ne (tgt := 17) dX12_ofOath_12 rfl (fun h3 => ?_) (fun h3 => ?_)
  · replace e := ite_f h3 e
    refine r_iload_n dX12_ofOath_17 rfl ?_
    refine r_iconst (v := 1) dX12_ofOath_18 ci_1 ?_
    refine r_icmp_ne (tgt := 31) dX12_ofOath_19 rfl (fun h4 => ?_) (fun h4 => ?_)
    · replace e := ite_f h4 e
      refine r_iload_n dX12_ofOath_31 rfl ?_
      refine r_iconst (v := 2) dX12_ofOath_32 ci_2 ?_
      refine r_icmp_ne (tgt := 45) dX12_ofOath_33 rfl (fun h5 => ?_) (fun h5 => ?_)
      · replace e := ite_f h5 e
        refine r_aload_n dX12_ofOath_45 rfl ?_
        refine r_getR dX12_ofOath_46 fl_X12_62 rfl (lp_44 hS) (lq_44 hS) (lr_44_37 hS) ?_
        refine r_iload_n dX12_ofOath_49 rfl ?_
        obtain ⟨hg6, e⟩ := grd_some e
        refine r_iald dX12_ofOath_50 (lp_62 hS) (lk_62 hS) hg6 ?_
        cases e
        exact r_ireturn dX12_ofOath_51 rfl rfl
      · replace e := ite_t h5 e
        refine r_aload_n dX12_ofOath_36 rfl ?_
        refine r_getR dX12_ofOath_37 fl_X12_59 rfl (lp_44 hS) (lq_44 hS) (lr_44_36 hS) ?_
        refine r_iload_n dX12_ofOath_40 rfl ?_
        obtain ⟨hg7, e⟩ := grd_some e
        refine r_iald dX12_ofOath_41 (lp_61 hS) (lk_61 hS) hg7 ?_
        refine r_goto (tgt := 51) dX12_ofOath_42 rfl ?_
        cases e
        exact r_ireturn dX12_ofOath_51 rfl rfl
    · replace e := ite_t h4 e
      refine r_aload_n dX12_ofOath_22 rfl ?_
      refine r_getR dX12_ofOath_23 fl_X12_56 rfl (lp_44 hS) (lq_44 hS) (lr_44_35 hS) ?_
      refine r_iload_n dX12_ofOath_26 rfl ?_
      obtain ⟨hg8, e⟩ := grd_some e
      refine r_iald dX12_ofOath_27 (lp_60 hS) (lk_60 hS) hg8 ?_
      refine r_goto (tgt := 51) dX12_ofOath_28 rfl ?_
      cases e
      exact r_ireturn dX12_ofOath_51 rfl rfl
  · replace e := ite_t h3 e
    refine r_iconst (v := -1) dX12_ofOath_15 ci_m1 ?_
    cases e
    exact r_ireturn dX12_ofOath_16 rfl rfl
def m_X12_county (a1 : Int32) (a2 : Int32) (mm : Mm) : Option (Int32 × Mm) := (m_X12_hand a1 (sI mm 44 0 (0 : Int32))).bind (fun q1 => if q1.1 = 0 then (some ((-1 : Int32), q1.2)) else (if a2 < (100 : Int32) then (if (a2 / (10 : Int32)) = (0 : Int32) then (if (m_X12_in a2 (0 : Int32) (1 : Int32)) = 0 then (some ((-1 : Int32), q1.2)) else ((m_X12_of a2 q1.2).bind (fun q7 => some (q7, q1.2)))) else (if (a2 / (10 : Int32)) = (1 : Int32) then ((m_X12_isOne (xrem a2 (10 : Int32)) q1.2).bind (fun q10 => if q10 = 0 then (some ((-1 : Int32), q1.2)) else (grd (xrem a2 (10 : Int32)) 6 (some (mI q1.2 56 (ix (xrem a2 (10 : Int32))), q1.2))))) else (if (a2 / (10 : Int32)) = (2 : Int32) then ((m_X12_isOne (xrem a2 (10 : Int32)) q1.2).bind (fun q15 => if q15 = 0 then (some ((-1 : Int32), q1.2)) else (grd (xrem a2 (10 : Int32)) 6 (some (mI q1.2 57 (ix (xrem a2 (10 : Int32))), q1.2))))) else (if (a2 / (10 : Int32)) = (3 : Int32) then ((m_X12_isOne (xrem a2 (10 : Int32)) q1.2).bind (fun q20 => if q20 = 0 then (some ((-1 : Int32), q1.2)) else (grd (xrem a2 (10 : Int32)) 6 (some (mI q1.2 58 (ix (xrem a2 (10 : Int32))), q1.2))))) else (if (a2 / (10 : Int32)) = (4 : Int32) then (if (8 : Int32) ≤ (xrem a2 (10 : Int32)) then (some ((-1 : Int32), q1.2)) else ((m_X12_of ((if (50 : Int32) ≤ a2 then (28 : Int32) else (20 : Int32)) + (xrem a2 (10 : Int32))) q1.2).bind (fun q29 => some (q29, q1.2)))) else (if (a2 / (10 : Int32)) = (5 : Int32) then (if (8 : Int32) ≤ (xrem a2 (10 : Int32)) then (some ((-1 : Int32), q1.2)) else ((m_X12_of ((if (50 : Int32) ≤ a2 then (28 : Int32) else (20 : Int32)) + (xrem a2 (10 : Int32))) q1.2).bind (fun q37 => some (q37, q1.2)))) else (some ((-1 : Int32), q1.2)))))))) else (if (400 : Int32) ≤ a2 then (some ((-1 : Int32), q1.2)) else ((m_X12_ofOath (xrem a2 (100 : Int32)) (a2 / (100 : Int32)) q1.2).bind (fun q41 => some (q41, q1.2))))))
set_option maxHeartbeats 4000000 in
set_option maxRecDepth 100000 in
theorem c_X12_county {l : Launch} {G : Gt} {S : Sk} (hS : Lay S) {a1 : Int32} {a2 : Int32} {mm : Mm} {q : Int32 × Mm} (e : m_X12_county a1 a2 mm = some q) : CallOK l G M_X12_county yX12_county 3 [vr (some 44), vi a1, vi a2] S mm (some (vi q.1)) S q.2 := by
  refine call_of_run rfl rfl rfl (Nat.le_of_ble_eq_true rfl) ?_
  show Run l G M_X12_county 3 0 [some (vr (some 44)), some (vi a1), some (vi a2), none] [] S mm (some (vi q.1)) S q.2
  unfold m_X12_county at e
  refine r_aload_n dX12_county_0 rfl ?_
  refine r_iconst (v := 0) dX12_county_1 ci_0 ?_
  refine r_putI dX12_county_2 fl_X12_90 ft_12_0 (Or.inl rfl) rfl rfl rfl (lp_44 hS) (lq_44 hS) ?_
  refine r_aload_n dX12_county_5 rfl ?_
  refine r_iload_n dX12_county_6 rfl ?_
  obtain ⟨q1, eq2, e⟩ := obind e
  refine r_callV (as := [_]) (rest := []) dX12_county_7 ml_X12_310 yV_X12_hand (c_X12_hand hS eq2) (by decide) rfl (lp_44 hS) (lq_44 hS) (Nat.le_of_ble_eq_true rfl) ?_
  refine r_if_ne (tgt := 15) dX12_county_10 rfl (fun h3 => ?_) (fun h3 => ?_)
  · replace e := ite_f h3 e
    refine r_iload_n dX12_county_15 rfl ?_
    refine r_bipush (v := 100) dX12_county_16 cb_100 ?_
    refine r_icmp_lt (tgt := 45) dX12_county_18 rfl (fun h4 => ?_) (fun h4 => ?_)
    · replace e := ite_t h4 e
      refine r_iload_n dX12_county_45 rfl ?_
      refine r_bipush (v := 10) dX12_county_46 cb_10 ?_
      refine r_irem dX12_county_48 (by decide) ?_
      refine r_istore_n dX12_county_49 (by decide) rfl ?_
      refine r_iload_n dX12_county_50 rfl ?_
      refine r_bipush (v := 10) dX12_county_51 cb_10 ?_
      refine r_idiv dX12_county_53 (by decide) ?_
      by_cases h5 : (a2 / (10 : Int32)) = (0 : Int32)
      · replace e := ite_t h5 e
        refine r_table_in (tgt := 92) dX12_county_54 (by rw [h5]; decide) (by rw [h5]; decide) (by rw [h5]; rfl) rfl ?_
        refine r_iload_n dX12_county_92 rfl ?_
        refine r_iconst (v := 0) dX12_county_93 ci_0 ?_
        refine r_iconst (v := 1) dX12_county_94 ci_1 ?_
        refine r_callS (as := [_, _, _]) (rest := []) dX12_county_95 ml_X12_102 yS_X12_in (c_X12_in hS) (by decide) rfl (Nat.le_of_ble_eq_true rfl) ?_
        refine r_if_eq (tgt := 109) dX12_county_98 rfl (fun h6 => ?_) (fun h6 => ?_)
        · replace e := ite_t h6 e
          refine r_iconst (v := -1) dX12_county_109 ci_m1 ?_
          cases e
          exact r_ireturn dX12_county_110 rfl rfl
        · replace e := ite_f h6 e
          refine r_aload_n dX12_county_101 rfl ?_
          refine r_iload_n dX12_county_102 rfl ?_
          obtain ⟨q7, eq8, e⟩ := obind e
          refine r_callV (as := [_]) (rest := []) dX12_county_103 ml_X12_276 yV_X12_of (c_X12_of hS eq8) (by decide) rfl (lp_44 hS) (lq_44 hS) (Nat.le_of_ble_eq_true rfl) ?_
          refine r_goto (tgt := 110) dX12_county_106 rfl ?_
          cases e
          exact r_ireturn dX12_county_110 rfl rfl
      replace e := ite_f h5 e
      by_cases h9 : (a2 / (10 : Int32)) = (1 : Int32)
      · replace e := ite_t h9 e
        refine r_table_in (tgt := 111) dX12_county_54 (by rw [h9]; decide) (by rw [h9]; decide) (by rw [h9]; rfl) rfl ?_
        refine r_aload_n dX12_county_111 rfl ?_
        refine r_iload_n dX12_county_112 rfl ?_
        obtain ⟨q10, eq11, e⟩ := obind e
        refine r_callV (as := [_]) (rest := []) dX12_county_113 ml_X12_289 yV_X12_isOne (c_X12_isOne hS eq11) (by decide) rfl (lp_44 hS) (lq_44 hS) (Nat.le_of_ble_eq_true rfl) ?_
        refine r_if_eq (tgt := 128) dX12_county_116 rfl (fun h12 => ?_) (fun h12 => ?_)
        · replace e := ite_t h12 e
          refine r_iconst (v := -1) dX12_county_128 ci_m1 ?_
          cases e
          exact r_ireturn dX12_county_129 rfl rfl
        · replace e := ite_f h12 e
          refine r_aload_n dX12_county_119 rfl ?_
          refine r_getR dX12_county_120 fl_X12_44 rfl (lp_44 hS) (lq_44 hS) (lr_44_31 hS) ?_
          refine r_iload_n dX12_county_123 rfl ?_
          obtain ⟨hg13, e⟩ := grd_some e
          refine r_iald dX12_county_124 (lp_56 hS) (lk_56 hS) hg13 ?_
          refine r_goto (tgt := 129) dX12_county_125 rfl ?_
          cases e
          exact r_ireturn dX12_county_129 rfl rfl
      replace e := ite_f h9 e
      by_cases h14 : (a2 / (10 : Int32)) = (2 : Int32)
      · replace e := ite_t h14 e
        refine r_table_in (tgt := 130) dX12_county_54 (by rw [h14]; decide) (by rw [h14]; decide) (by rw [h14]; rfl) rfl ?_
        refine r_aload_n dX12_county_130 rfl ?_
        refine r_iload_n dX12_county_131 rfl ?_
        obtain ⟨q15, eq16, e⟩ := obind e
        refine r_callV (as := [_]) (rest := []) dX12_county_132 ml_X12_289 yV_X12_isOne (c_X12_isOne hS eq16) (by decide) rfl (lp_44 hS) (lq_44 hS) (Nat.le_of_ble_eq_true rfl) ?_
        refine r_if_eq (tgt := 147) dX12_county_135 rfl (fun h17 => ?_) (fun h17 => ?_)
        · replace e := ite_t h17 e
          refine r_iconst (v := -1) dX12_county_147 ci_m1 ?_
          cases e
          exact r_ireturn dX12_county_148 rfl rfl
        · replace e := ite_f h17 e
          refine r_aload_n dX12_county_138 rfl ?_
          refine r_getR dX12_county_139 fl_X12_47 rfl (lp_44 hS) (lq_44 hS) (lr_44_32 hS) ?_
          refine r_iload_n dX12_county_142 rfl ?_
          obtain ⟨hg18, e⟩ := grd_some e
          refine r_iald dX12_county_143 (lp_57 hS) (lk_57 hS) hg18 ?_
          refine r_goto (tgt := 148) dX12_county_144 rfl ?_
          cases e
          exact r_ireturn dX12_county_148 rfl rfl
      replace e := ite_f h14 e
      by_cases h19 : (a2 / (10 : Int32)) = (3 : Int32)
      · replace e := ite_t h19 e
        refine r_table_in (tgt := 149) dX12_county_54 (by rw [h19]; decide) (by rw [h19]; decide) (by rw [h19]; rfl) rfl ?_
        refine r_aload_n dX12_county_149 rfl ?_
        refine r_iload_n dX12_county_150 rfl ?_
        obtain ⟨q20, eq21, e⟩ := obind e
        refine r_callV (as := [_]) (rest := []) dX12_county_151 ml_X12_289 yV_X12_isOne (c_X12_isOne hS eq21) (by decide) rfl (lp_44 hS) (lq_44 hS) (Nat.le_of_ble_eq_true rfl) ?_
        refine r_if_eq (tgt := 166) dX12_county_154 rfl (fun h22 => ?_) (fun h22 => ?_)
        · replace e := ite_t h22 e
          refine r_iconst (v := -1) dX12_county_166 ci_m1 ?_
          cases e
          exact r_ireturn dX12_county_167 rfl rfl
        · replace e := ite_f h22 e
          refine r_aload_n dX12_county_157 rfl ?_
          refine r_getR dX12_county_158 fl_X12_50 rfl (lp_44 hS) (lq_44 hS) (lr_44_33 hS) ?_
          refine r_iload_n dX12_county_161 rfl ?_
          obtain ⟨hg23, e⟩ := grd_some e
          refine r_iald dX12_county_162 (lp_58 hS) (lk_58 hS) hg23 ?_
          refine r_goto (tgt := 167) dX12_county_163 rfl ?_
          cases e
          exact r_ireturn dX12_county_167 rfl rfl
      replace e := ite_f h19 e
      by_cases h24 : (a2 / (10 : Int32)) = (4 : Int32)
      · replace e := ite_t h24 e
        refine r_table_in (tgt := 168) dX12_county_54 (by rw [h24]; decide) (by rw [h24]; decide) (by rw [h24]; rfl) rfl ?_
        refine r_iload_n dX12_county_168 rfl ?_
        refine r_bipush (v := 8) dX12_county_169 cb_8 ?_
        refine r_icmp_ge (tgt := 196) dX12_county_171 rfl (fun h25 => ?_) (fun h25 => ?_)
        · replace e := ite_t h25 e
          refine r_iconst (v := -1) dX12_county_196 ci_m1 ?_
          cases e
          exact r_ireturn dX12_county_197 rfl rfl
        · replace e := ite_f h25 e
          refine r_aload_n dX12_county_174 rfl ?_
          refine r_iload_n dX12_county_175 rfl ?_
          refine r_bipush (v := 50) dX12_county_176 cb_50 ?_
          have J28 : ∀ (w27 : Int32), w27 = (if (50 : Int32) ≤ a2 then (28 : Int32) else (20 : Int32)) → Run l G M_X12_county 3 188 [none, none, none, some (vi (xrem a2 (10 : Int32)))] [vi w27, vr (some 44)] S q1.2 (some (vi q.1)) S q.2 := by
            intro w27 hw31
            subst hw31
            refine r_iload_n dX12_county_188 rfl ?_
            refine r_iadd dX12_county_189 ?_
            obtain ⟨q29, eq30, e⟩ := obind e
            refine r_callV (as := [_]) (rest := []) dX12_county_190 ml_X12_276 yV_X12_of (c_X12_of hS eq30) (by decide) rfl (lp_44 hS) (lq_44 hS) (Nat.le_of_ble_eq_true rfl) ?_
            refine r_goto (tgt := 197) dX12_county_193 rfl ?_
            cases e
            exact r_ireturn dX12_county_197 rfl rfl
          refine r_icmp_ge (tgt := 186) dX12_county_178 rfl (fun h26 => ?_) (fun h26 => ?_)
          · refine r_bipush (v := 28) dX12_county_186 cb_28 ?_
            exact r_weak (L' := [none, none, none, some (vi (xrem a2 (10 : Int32)))]) ⟨rfl, trivial⟩ (J28 _ (Eq.symm (if_pos h26)))
          · refine r_bipush (v := 20) dX12_county_181 cb_20 ?_
            refine r_goto (tgt := 188) dX12_county_183 rfl ?_
            exact r_weak (L' := [none, none, none, some (vi (xrem a2 (10 : Int32)))]) ⟨rfl, trivial⟩ (J28 _ (Eq.symm (if_neg h26)))
      replace e := ite_f h24 e
      by_cases h32 : (a2 / (10 : Int32)) = (5 : Int32)
      · replace e := ite_t h32 e
        refine r_table_in (tgt := 168) dX12_county_54 (by rw [h32]; decide) (by rw [h32]; decide) (by rw [h32]; rfl) rfl ?_
        refine r_iload_n dX12_county_168 rfl ?_
        refine r_bipush (v := 8) dX12_county_169 cb_8 ?_
        refine r_icmp_ge (tgt := 196) dX12_county_171 rfl (fun h33 => ?_) (fun h33 => ?_)
        · replace e := ite_t h33 e
          refine r_iconst (v := -1) dX12_county_196 ci_m1 ?_
          cases e
          exact r_ireturn dX12_county_197 rfl rfl
        · replace e := ite_f h33 e
          refine r_aload_n dX12_county_174 rfl ?_
          refine r_iload_n dX12_county_175 rfl ?_
          refine r_bipush (v := 50) dX12_county_176 cb_50 ?_
          have J36 : ∀ (w35 : Int32), w35 = (if (50 : Int32) ≤ a2 then (28 : Int32) else (20 : Int32)) → Run l G M_X12_county 3 188 [none, none, none, some (vi (xrem a2 (10 : Int32)))] [vi w35, vr (some 44)] S q1.2 (some (vi q.1)) S q.2 := by
            intro w35 hw39
            subst hw39
            refine r_iload_n dX12_county_188 rfl ?_
            refine r_iadd dX12_county_189 ?_
            obtain ⟨q37, eq38, e⟩ := obind e
            refine r_callV (as := [_]) (rest := []) dX12_county_190 ml_X12_276 yV_X12_of (c_X12_of hS eq38) (by decide) rfl (lp_44 hS) (lq_44 hS) (Nat.le_of_ble_eq_true rfl) ?_
            refine r_goto (tgt := 197) dX12_county_193 rfl ?_
            cases e
            exact r_ireturn dX12_county_197 rfl rfl
          refine r_icmp_ge (tgt := 186) dX12_county_178 rfl (fun h34 => ?_) (fun h34 => ?_)
          · refine r_bipush (v := 28) dX12_county_186 cb_28 ?_
            exact r_weak (L' := [none, none, none, some (vi (xrem a2 (10 : Int32)))]) ⟨rfl, trivial⟩ (J36 _ (Eq.symm (if_pos h34)))
          · refine r_bipush (v := 20) dX12_county_181 cb_20 ?_
            refine r_goto (tgt := 188) dX12_county_183 rfl ?_
            exact r_weak (L' := [none, none, none, some (vi (xrem a2 (10 : Int32)))]) ⟨rfl, trivial⟩ (J36 _ (Eq.symm (if_neg h34)))
      replace e := ite_f h32 e
      have ho54 : (a2 / (10 : Int32)).toInt < 0 ∨ 5 < (a2 / (10 : Int32)).toInt := by
        have nh5 := lv_neT (a := 0) h5 (by decide)
        have nh9 := lv_neT (a := 1) h9 (by decide)
        have nh14 := lv_neT (a := 2) h14 (by decide)
        have nh19 := lv_neT (a := 3) h19 (by decide)
        have nh24 := lv_neT (a := 4) h24 (by decide)
        have nh32 := lv_neT (a := 5) h32 (by decide)
        omega
      refine r_table_out (tgt := 198) dX12_county_54 ho54 rfl ?_
      refine r_iconst (v := -1) dX12_county_198 ci_m1 ?_
      cases e
      exact r_ireturn dX12_county_199 rfl rfl
    · replace e := ite_f h4 e
      refine r_iload_n dX12_county_21 rfl ?_
      refine r_sipush (v := 400) dX12_county_22 cs_400 ?_
      refine r_icmp_ge (tgt := 43) dX12_county_25 rfl (fun h40 => ?_) (fun h40 => ?_)
      · replace e := ite_t h40 e
        refine r_iconst (v := -1) dX12_county_43 ci_m1 ?_
        cases e
        exact r_ireturn dX12_county_44 rfl rfl
      · replace e := ite_f h40 e
        refine r_aload_n dX12_county_28 rfl ?_
        refine r_iload_n dX12_county_29 rfl ?_
        refine r_bipush (v := 100) dX12_county_30 cb_100 ?_
        refine r_irem dX12_county_32 (by decide) ?_
        refine r_iload_n dX12_county_33 rfl ?_
        refine r_bipush (v := 100) dX12_county_34 cb_100 ?_
        refine r_idiv dX12_county_36 (by decide) ?_
        obtain ⟨q41, eq42, e⟩ := obind e
        refine r_callV (as := [_, _]) (rest := []) dX12_county_37 ml_X12_313 yV_X12_ofOath (c_X12_ofOath hS eq42) (by decide) rfl (lp_44 hS) (lq_44 hS) (Nat.le_of_ble_eq_true rfl) ?_
        refine r_goto (tgt := 44) dX12_county_40 rfl ?_
        cases e
        exact r_ireturn dX12_county_44 rfl rfl
  · replace e := ite_t h3 e
    refine r_iconst (v := -1) dX12_county_13 ci_m1 ?_
    cases e
    exact r_ireturn dX12_county_14 rfl rfl
def m_X12_deeds (mm : Mm) : Option (Int32) := grd ((161 : Int32) * (mI mm 44 38)) 1288 (some (mI mm 51 (ix ((161 : Int32) * (mI mm 44 38)))))
set_option maxHeartbeats 4000000 in
set_option maxRecDepth 100000 in
theorem c_X12_deeds {l : Launch} {G : Gt} {S : Sk} (hS : Lay S) {mm : Mm} {q : Int32} (e : m_X12_deeds mm = some q) : CallOK l G M_X12_deeds yX12_deeds 0 [vr (some 44)] S mm (some (vi q)) S mm := by
  refine call_of_run rfl rfl rfl (Nat.le_of_ble_eq_true rfl) ?_
  show Run l G M_X12_deeds 0 0 [some (vr (some 44))] [] S mm (some (vi q)) S mm
  unfold m_X12_deeds at e
  refine r_aload_n dX12_deeds_0 rfl ?_
  refine r_getR dX12_deeds_1 fl_X12_29 rfl (lp_44 hS) (lq_44 hS) (lr_44_7 hS) ?_
  refine r_sipush (v := 161) dX12_deeds_4 cs_161 ?_
  refine r_aload_n dX12_deeds_7 rfl ?_
  refine r_getI dX12_deeds_8 fl_X12_316 rfl (lp_44 hS) (lq_44 hS) ?_
  refine r_imul dX12_deeds_11 ?_
  obtain ⟨hg1, e⟩ := grd_some e
  refine r_iald dX12_deeds_12 (lp_51 hS) (lk_51 hS) hg1 ?_
  cases e
  exact r_ireturn dX12_deeds_13 rfl rfl
def m_X12_deedOf (a1 : Int32) (a2 : Int32) (mm : Mm) : Option (Int32) := grd (((((161 : Int32) * (mI mm 44 38)) + (1 : Int32)) + ((4 : Int32) * a1)) + a2) 1288 (some (mI mm 51 (ix (((((161 : Int32) * (mI mm 44 38)) + (1 : Int32)) + ((4 : Int32) * a1)) + a2))))
set_option maxHeartbeats 4000000 in
set_option maxRecDepth 100000 in
theorem c_X12_deedOf {l : Launch} {G : Gt} {S : Sk} (hS : Lay S) {a1 : Int32} {a2 : Int32} {mm : Mm} {q : Int32} (e : m_X12_deedOf a1 a2 mm = some q) : CallOK l G M_X12_deedOf yX12_deedOf 0 [vr (some 44), vi a1, vi a2] S mm (some (vi q)) S mm := by
  refine call_of_run rfl rfl rfl (Nat.le_of_ble_eq_true rfl) ?_
  show Run l G M_X12_deedOf 0 0 [some (vr (some 44)), some (vi a1), some (vi a2)] [] S mm (some (vi q)) S mm
  unfold m_X12_deedOf at e
  refine r_aload_n dX12_deedOf_0 rfl ?_
  refine r_getR dX12_deedOf_1 fl_X12_29 rfl (lp_44 hS) (lq_44 hS) (lr_44_7 hS) ?_
  refine r_sipush (v := 161) dX12_deedOf_4 cs_161 ?_
  refine r_aload_n dX12_deedOf_7 rfl ?_
  refine r_getI dX12_deedOf_8 fl_X12_316 rfl (lp_44 hS) (lq_44 hS) ?_
  refine r_imul dX12_deedOf_11 ?_
  refine r_iconst (v := 1) dX12_deedOf_12 ci_1 ?_
  refine r_iadd dX12_deedOf_13 ?_
  refine r_iconst (v := 4) dX12_deedOf_14 ci_4 ?_
  refine r_iload_n dX12_deedOf_15 rfl ?_
  refine r_imul dX12_deedOf_16 ?_
  refine r_iadd dX12_deedOf_17 ?_
  refine r_iload_n dX12_deedOf_18 rfl ?_
  refine r_iadd dX12_deedOf_19 ?_
  obtain ⟨hg1, e⟩ := grd_some e
  refine r_iald dX12_deedOf_20 (lp_51 hS) (lk_51 hS) hg1 ?_
  cases e
  exact r_ireturn dX12_deedOf_21 rfl rfl
def m_X12_hasTerm (a1 : Int32) (mm : Mm) : Option (Int32 × Mm) := (m_X12_is (1 : Int32) a1 (sI mm 44 38 a1)).bind (fun q1 => gbz q1 (some (q1, (sI mm 44 38 a1))))
set_option maxHeartbeats 4000000 in
set_option maxRecDepth 100000 in
theorem c_X12_hasTerm {l : Launch} {G : Gt} {S : Sk} (hS : Lay S) {a1 : Int32} {mm : Mm} {q : Int32 × Mm} (e : m_X12_hasTerm a1 mm = some q) : CallOK l G M_X12_hasTerm yX12_hasTerm 2 [vr (some 44), vi a1] S mm (some (vi q.1)) S q.2 := by
  refine call_of_run rfl rfl rfl (Nat.le_of_ble_eq_true rfl) ?_
  show Run l G M_X12_hasTerm 2 0 [some (vr (some 44)), some (vi a1)] [] S mm (some (vi q.1)) S q.2
  unfold m_X12_hasTerm at e
  refine r_aload_n dX12_hasTerm_0 rfl ?_
  refine r_iload_n dX12_hasTerm_1 rfl ?_
  refine r_putI dX12_hasTerm_2 fl_X12_316 ft_12_38 (Or.inl rfl) rfl rfl rfl (lp_44 hS) (lq_44 hS) ?_
  refine r_aload_n dX12_hasTerm_5 rfl ?_
  refine r_iconst (v := 1) dX12_hasTerm_6 ci_1 ?_
  refine r_iload_n dX12_hasTerm_7 rfl ?_
  obtain ⟨q1, eq2, e⟩ := obind e
  refine r_callV (as := [_, _]) (rest := []) dX12_hasTerm_8 ml_X12_249 yV_X12_is (c_X12_is hS eq2) (by decide) rfl (lp_44 hS) (lq_44 hS) (Nat.le_of_ble_eq_true rfl) ?_
  obtain ⟨hbz, e⟩ := gbz_some e
  cases e
  exact r_ireturn dX12_hasTerm_11 rfl (nz_b hbz).1
def m_X12_deed (a1 : Int32) (a2 : Int32) (a3 : Int32) (mm : Mm) : Option (Int32 × Mm) := (m_X12_hasTerm a1 (sI mm 44 0 (0 : Int32))).bind (fun q1 => if q1.1 = 0 then (some ((-2 : Int32), q1.2)) else (if a2 = (-1 : Int32) then (if a3 = 0 then ((m_X12_deeds q1.2).bind (fun q12 => some (q12, q1.2))) else (some ((-2 : Int32), q1.2))) else ((m_X12_deeds q1.2).bind (fun q5 => if (m_X12_in a2 (0 : Int32) (q5 - (1 : Int32))) = 0 then (some ((-2 : Int32), q1.2)) else (if (m_X12_in a3 (0 : Int32) (3 : Int32)) = 0 then (some ((-2 : Int32), q1.2)) else ((m_X12_deedOf a2 a3 q1.2).bind (fun q9 => some (q9, q1.2))))))))
set_option maxHeartbeats 4000000 in
set_option maxRecDepth 100000 in
theorem c_X12_deed {l : Launch} {G : Gt} {S : Sk} (hS : Lay S) {a1 : Int32} {a2 : Int32} {a3 : Int32} {mm : Mm} {q : Int32 × Mm} (e : m_X12_deed a1 a2 a3 mm = some q) : CallOK l G M_X12_deed yX12_deed 3 [vr (some 44), vi a1, vi a2, vi a3] S mm (some (vi q.1)) S q.2 := by
  refine call_of_run rfl rfl rfl (Nat.le_of_ble_eq_true rfl) ?_
  show Run l G M_X12_deed 3 0 [some (vr (some 44)), some (vi a1), some (vi a2), some (vi a3)] [] S mm (some (vi q.1)) S q.2
  unfold m_X12_deed at e
  refine r_aload_n dX12_deed_0 rfl ?_
  refine r_iconst (v := 0) dX12_deed_1 ci_0 ?_
  refine r_putI dX12_deed_2 fl_X12_90 ft_12_0 (Or.inl rfl) rfl rfl rfl (lp_44 hS) (lq_44 hS) ?_
  refine r_aload_n dX12_deed_5 rfl ?_
  refine r_iload_n dX12_deed_6 rfl ?_
  obtain ⟨q1, eq2, e⟩ := obind e
  refine r_callV (as := [_]) (rest := []) dX12_deed_7 ml_X12_319 yV_X12_hasTerm (c_X12_hasTerm hS eq2) (by decide) rfl (lp_44 hS) (lq_44 hS) (Nat.le_of_ble_eq_true rfl) ?_
  refine r_if_ne (tgt := 16) dX12_deed_10 rfl (fun h3 => ?_) (fun h3 => ?_)
  · replace e := ite_f h3 e
    refine r_iload_n dX12_deed_16 rfl ?_
    refine r_iconst (v := -1) dX12_deed_17 ci_m1 ?_
    refine r_icmp_ne (tgt := 35) dX12_deed_18 rfl (fun h4 => ?_) (fun h4 => ?_)
    · replace e := ite_f h4 e
      refine r_iload_n dX12_deed_35 rfl ?_
      refine r_iconst (v := 0) dX12_deed_36 ci_0 ?_
      refine r_aload_n dX12_deed_37 rfl ?_
      obtain ⟨q5, eq6, e⟩ := obind e
      refine r_callV (as := []) (rest := [_, _]) dX12_deed_38 ml_X12_322 yV_X12_deeds (c_X12_deeds hS eq6) (by decide) rfl (lp_44 hS) (lq_44 hS) (Nat.le_of_ble_eq_true rfl) ?_
      refine r_iconst (v := 1) dX12_deed_41 ci_1 ?_
      refine r_isub dX12_deed_42 ?_
      refine r_callS (as := [_, _, _]) (rest := []) dX12_deed_43 ml_X12_102 yS_X12_in (c_X12_in hS) (by decide) rfl (Nat.le_of_ble_eq_true rfl) ?_
      refine r_if_eq (tgt := 67) dX12_deed_46 rfl (fun h7 => ?_) (fun h7 => ?_)
      · replace e := ite_t h7 e
        refine r_bipush (v := -2) dX12_deed_67 cb_m2 ?_
        cases e
        exact r_ireturn dX12_deed_69 rfl rfl
      · replace e := ite_f h7 e
        refine r_iload_n dX12_deed_49 rfl ?_
        refine r_iconst (v := 0) dX12_deed_50 ci_0 ?_
        refine r_iconst (v := 3) dX12_deed_51 ci_3 ?_
        refine r_callS (as := [_, _, _]) (rest := []) dX12_deed_52 ml_X12_102 yS_X12_in (c_X12_in hS) (by decide) rfl (Nat.le_of_ble_eq_true rfl) ?_
        refine r_if_eq (tgt := 67) dX12_deed_55 rfl (fun h8 => ?_) (fun h8 => ?_)
        · replace e := ite_t h8 e
          refine r_bipush (v := -2) dX12_deed_67 cb_m2 ?_
          cases e
          exact r_ireturn dX12_deed_69 rfl rfl
        · replace e := ite_f h8 e
          refine r_aload_n dX12_deed_58 rfl ?_
          refine r_iload_n dX12_deed_59 rfl ?_
          refine r_iload_n dX12_deed_60 rfl ?_
          obtain ⟨q9, eq10, e⟩ := obind e
          refine r_callV (as := [_, _]) (rest := []) dX12_deed_61 ml_X12_325 yV_X12_deedOf (c_X12_deedOf hS eq10) (by decide) rfl (lp_44 hS) (lq_44 hS) (Nat.le_of_ble_eq_true rfl) ?_
          refine r_goto (tgt := 69) dX12_deed_64 rfl ?_
          cases e
          exact r_ireturn dX12_deed_69 rfl rfl
    · replace e := ite_t h4 e
      refine r_iload_n dX12_deed_21 rfl ?_
      refine r_if_ne (tgt := 32) dX12_deed_22 rfl (fun h11 => ?_) (fun h11 => ?_)
      · replace e := ite_f h11 e
        refine r_bipush (v := -2) dX12_deed_32 cb_m2 ?_
        cases e
        exact r_ireturn dX12_deed_34 rfl rfl
      · replace e := ite_t h11 e
        refine r_aload_n dX12_deed_25 rfl ?_
        obtain ⟨q12, eq13, e⟩ := obind e
        refine r_callV (as := []) (rest := []) dX12_deed_26 ml_X12_322 yV_X12_deeds (c_X12_deeds hS eq13) (by decide) rfl (lp_44 hS) (lq_44 hS) (Nat.le_of_ble_eq_true rfl) ?_
        refine r_goto (tgt := 34) dX12_deed_29 rfl ?_
        cases e
        exact r_ireturn dX12_deed_34 rfl rfl
  · replace e := ite_t h3 e
    refine r_bipush (v := -2) dX12_deed_13 cb_m2 ?_
    cases e
    exact r_ireturn dX12_deed_15 rfl rfl
def m_X12_isThere_b3 (a1 : Int32) (a2 : Int32) (a3 : Int32) (mm : Mm) (z1 : Int32) : Option ((Int32) ⊕ ((Unit) ⊕ (Int32))) := if (mI mm 44 25) ≤ z1 then (some (.inr (.inl ()))) else (grd z1 16 (bS (if (mI mm 60 (ix z1)) = a1 then (grd z1 16 (if (mI mm 61 (ix z1)) = a2 then (grd z1 16 (if (mI mm 62 (ix z1)) = a3 then (some (.inr (.inr (.inr (1 : Int32))))) else (some (.inl ())))) else (some (.inl ())))) else (some (.inl ())) : Option ((Unit) ⊕ ((Int32) ⊕ ((Unit) ⊕ (Int32))))) (fun p9 => some (.inl (z1 + (1 : Int32))))))
def m_X12_isThere (a1 : Int32) (a2 : Int32) (a3 : Int32) (mm : Mm) : Option (Int32) := bS (whileF FU (m_X12_isThere_b3 a1 a2 a3 mm) (0 : Int32)) (fun p2 => some (0 : Int32))
set_option maxHeartbeats 4000000 in
set_option maxRecDepth 100000 in
theorem c_X12_isThere {l : Launch} {G : Gt} {S : Sk} (hS : Lay S) {a1 : Int32} {a2 : Int32} {a3 : Int32} {mm : Mm} {q : Int32} (e : m_X12_isThere a1 a2 a3 mm = some q) : CallOK l G M_X12_isThere yX12_isThere 0 [vr (some 44), vi a1, vi a2, vi a3] S mm (some (vi q)) S mm := by
  refine call_of_run rfl rfl rfl (Nat.le_of_ble_eq_true rfl) ?_
  show Run l G M_X12_isThere 0 0 [some (vr (some 44)), some (vi a1), some (vi a2), some (vi a3), none] [] S mm (some (vi q)) S mm
  unfold m_X12_isThere at e
  refine r_iconst (v := 0) dX12_isThere_0 ci_0 ?_
  refine r_istore dX12_isThere_1 (by decide) rfl ?_
  obtain ⟨x4, eb6w, elx4, erx4⟩ := bS_some e
  have J3 : ∀ p2 : Unit, x4 = .inl p2 → Run l G M_X12_isThere 0 53 [none, none, none, none, none] [] S mm (some (vi q)) S mm := by
    intro p2 hp2
    replace e := elx4 p2 hp2
    refine r_iconst (v := 0) dX12_isThere_53 ci_0 ?_
    cases e
    exact r_ireturn dX12_isThere_54 rfl (nz_b (by first | exact Or.inl rfl | exact Or.inr rfl)).1
  have J3w : Run l G M_X12_isThere 0 3 [some (vr (some 44)), some (vi a1), some (vi a2), some (vi a3), some (vi (0 : Int32))] [] S mm (some (vi q)) S mm := by
    refine while_run (s := (0 : Int32)) (Gs := fun (z1 : Int32) => Run l G M_X12_isThere 0 3 [some (vr (some 44)), some (vi a1), some (vi a2), some (vi a3), some (vi z1)] [] S mm (some (vi q)) S mm) eb6w ?_
    intro z1 x4y eb6 hx5
    unfold m_X12_isThere_b3 at eb6
    refine r_iload dX12_isThere_3 rfl ?_
    refine r_aload_n dX12_isThere_5 rfl ?_
    refine r_getI dX12_isThere_6 fl_X12_280 rfl (lp_44 hS) (lq_44 hS) ?_
    refine r_icmp_ge (tgt := 53) dX12_isThere_9 rfl (fun h7 => ?_) (fun h7 => ?_)
    · replace eb6 := ite_t h7 eb6
      cases eb6
      exact r_weak (L' := [none, none, none, none, none]) trivial (J3 _ (Eq.symm hx5))
    · replace eb6 := ite_f h7 eb6
      refine r_aload_n dX12_isThere_12 rfl ?_
      refine r_getR dX12_isThere_13 fl_X12_56 rfl (lp_44 hS) (lq_44 hS) (lr_44_35 hS) ?_
      refine r_iload dX12_isThere_16 rfl ?_
      obtain ⟨hg8, eb6⟩ := grd_some eb6
      refine r_iald dX12_isThere_18 (lp_60 hS) (lk_60 hS) hg8 ?_
      refine r_iload_n dX12_isThere_19 rfl ?_
      obtain ⟨x12, ep11, elx12, erx12⟩ := bS_some eb6
      have J10 : ∀ p9 : Unit, x12 = .inl p9 → Run l G M_X12_isThere 0 47 [some (vr (some 44)), some (vi a1), some (vi a2), some (vi a3), some (vi z1)] [] S mm (some (vi q)) S mm := by
        intro p9 hp9
        replace eb6 := elx12 p9 hp9
        refine r_iinc (v := _ + (1 : Int32)) dX12_isThere_47 rfl (congrArg (_ + ·) ci_1) (by decide) rfl ?_
        refine r_goto (tgt := 3) dX12_isThere_50 rfl ?_
        cases eb6
        exact r_weak (L' := [some (vr (some 44)), some (vi a1), some (vi a2), some (vi a3), some (vi (z1 + (1 : Int32)))]) ⟨rfl, rfl, rfl, rfl, rfl, trivial⟩ hx5
      refine r_icmp_ne (tgt := 47) dX12_isThere_20 rfl (fun h13 => ?_) (fun h13 => ?_)
      · replace ep11 := ite_f h13 ep11
        cases ep11
        exact r_weak (L' := [some (vr (some 44)), some (vi a1), some (vi a2), some (vi a3), some (vi z1)]) ⟨rfl, rfl, rfl, rfl, rfl, trivial⟩ (J10 _ rfl)
      · replace ep11 := ite_t h13 ep11
        refine r_aload_n dX12_isThere_23 rfl ?_
        refine r_getR dX12_isThere_24 fl_X12_59 rfl (lp_44 hS) (lq_44 hS) (lr_44_36 hS) ?_
        refine r_iload dX12_isThere_27 rfl ?_
        obtain ⟨hg14, ep11⟩ := grd_some ep11
        refine r_iald dX12_isThere_29 (lp_61 hS) (lk_61 hS) hg14 ?_
        refine r_iload_n dX12_isThere_30 rfl ?_
        refine r_icmp_ne (tgt := 47) dX12_isThere_31 rfl (fun h15 => ?_) (fun h15 => ?_)
        · replace ep11 := ite_f h15 ep11
          cases ep11
          exact r_weak (L' := [some (vr (some 44)), some (vi a1), some (vi a2), some (vi a3), some (vi z1)]) ⟨rfl, rfl, rfl, rfl, rfl, trivial⟩ (J10 _ rfl)
        · replace ep11 := ite_t h15 ep11
          refine r_aload_n dX12_isThere_34 rfl ?_
          refine r_getR dX12_isThere_35 fl_X12_62 rfl (lp_44 hS) (lq_44 hS) (lr_44_37 hS) ?_
          refine r_iload dX12_isThere_38 rfl ?_
          obtain ⟨hg16, ep11⟩ := grd_some ep11
          refine r_iald dX12_isThere_40 (lp_62 hS) (lk_62 hS) hg16 ?_
          refine r_iload_n dX12_isThere_41 rfl ?_
          refine r_icmp_ne (tgt := 47) dX12_isThere_42 rfl (fun h17 => ?_) (fun h17 => ?_)
          · replace ep11 := ite_f h17 ep11
            cases ep11
            exact r_weak (L' := [some (vr (some 44)), some (vi a1), some (vi a2), some (vi a3), some (vi z1)]) ⟨rfl, rfl, rfl, rfl, rfl, trivial⟩ (J10 _ rfl)
          · replace ep11 := ite_t h17 ep11
            refine r_iconst (v := 1) dX12_isThere_45 ci_1 ?_
            cases ep11
            have eb6 := congrArg some (erx12 _ rfl)
            cases eb6
            have e := congrArg some (erx4 _ (Eq.symm hx5))
            cases e
            exact r_ireturn dX12_isThere_46 rfl (nz_b (by first | exact Or.inl rfl | exact Or.inr rfl)).1
  exact r_weak (L' := [some (vr (some 44)), some (vi a1), some (vi a2), some (vi a3), some (vi (0 : Int32))]) ⟨rfl, rfl, rfl, rfl, rfl, trivial⟩ J3w
def m_X12_addOath (a1 : Int32) (a2 : Int32) (a3 : Int32) (mm : Mm) : Option (Mm) := grd (mI mm 44 25) 16 (grd (mI (sI mm 60 (ix (mI mm 44 25)) a1) 44 25) 16 (grd (mI (sI (sI mm 60 (ix (mI mm 44 25)) a1) 61 (ix (mI (sI mm 60 (ix (mI mm 44 25)) a1) 44 25)) a2) 44 25) 16 (some (sI (sI (sI (sI mm 60 (ix (mI mm 44 25)) a1) 61 (ix (mI (sI mm 60 (ix (mI mm 44 25)) a1) 44 25)) a2) 62 (ix (mI (sI (sI mm 60 (ix (mI mm 44 25)) a1) 61 (ix (mI (sI mm 60 (ix (mI mm 44 25)) a1) 44 25)) a2) 44 25)) a3) 44 25 ((mI (sI (sI (sI mm 60 (ix (mI mm 44 25)) a1) 61 (ix (mI (sI mm 60 (ix (mI mm 44 25)) a1) 44 25)) a2) 62 (ix (mI (sI (sI mm 60 (ix (mI mm 44 25)) a1) 61 (ix (mI (sI mm 60 (ix (mI mm 44 25)) a1) 44 25)) a2) 44 25)) a3) 44 25) + (1 : Int32))))))
set_option maxHeartbeats 4000000 in
set_option maxRecDepth 100000 in
theorem c_X12_addOath {l : Launch} {G : Gt} {S : Sk} (hS : Lay S) {a1 : Int32} {a2 : Int32} {a3 : Int32} {mm : Mm} {q : Mm} (e : m_X12_addOath a1 a2 a3 mm = some q) : CallOK l G M_X12_addOath yX12_addOath 0 [vr (some 44), vi a1, vi a2, vi a3] S mm (none) S q := by
  refine call_of_run rfl rfl rfl (Nat.le_of_ble_eq_true rfl) ?_
  show Run l G M_X12_addOath 0 0 [some (vr (some 44)), some (vi a1), some (vi a2), some (vi a3)] [] S mm (none) S q
  unfold m_X12_addOath at e
  refine r_aload_n dX12_addOath_0 rfl ?_
  refine r_getR dX12_addOath_1 fl_X12_56 rfl (lp_44 hS) (lq_44 hS) (lr_44_35 hS) ?_
  refine r_aload_n dX12_addOath_4 rfl ?_
  refine r_getI dX12_addOath_5 fl_X12_280 rfl (lp_44 hS) (lq_44 hS) ?_
  refine r_iload_n dX12_addOath_8 rfl ?_
  obtain ⟨hg1, e⟩ := grd_some e
  refine r_iast dX12_addOath_9 (lp_60 hS) (lk_60 hS) hg1 ?_
  refine r_aload_n dX12_addOath_10 rfl ?_
  refine r_getR dX12_addOath_11 fl_X12_59 rfl (lp_44 hS) (lq_44 hS) (lr_44_36 hS) ?_
  refine r_aload_n dX12_addOath_14 rfl ?_
  refine r_getI dX12_addOath_15 fl_X12_280 rfl (lp_44 hS) (lq_44 hS) ?_
  refine r_iload_n dX12_addOath_18 rfl ?_
  obtain ⟨hg2, e⟩ := grd_some e
  refine r_iast dX12_addOath_19 (lp_61 hS) (lk_61 hS) hg2 ?_
  refine r_aload_n dX12_addOath_20 rfl ?_
  refine r_getR dX12_addOath_21 fl_X12_62 rfl (lp_44 hS) (lq_44 hS) (lr_44_37 hS) ?_
  refine r_aload_n dX12_addOath_24 rfl ?_
  refine r_getI dX12_addOath_25 fl_X12_280 rfl (lp_44 hS) (lq_44 hS) ?_
  refine r_iload_n dX12_addOath_28 rfl ?_
  obtain ⟨hg3, e⟩ := grd_some e
  refine r_iast dX12_addOath_29 (lp_62 hS) (lk_62 hS) hg3 ?_
  refine r_aload_n dX12_addOath_30 rfl ?_
  refine r_dup dX12_addOath_31 rfl ?_
  refine r_getI dX12_addOath_32 fl_X12_280 rfl (lp_44 hS) (lq_44 hS) ?_
  refine r_iconst (v := 1) dX12_addOath_35 ci_1 ?_
  refine r_iadd dX12_addOath_36 ?_
  refine r_putI dX12_addOath_37 fl_X12_280 ft_12_25 (Or.inl rfl) rfl rfl rfl (lp_44 hS) (lq_44 hS) ?_
  cases e
  exact r_return dX12_addOath_40 rfl
def m_X12_swears (a1 : Int32) (a2 : Int32) (a3 : Int32) (mm : Mm) : Option (Int32 × Mm) := if (m_X12_has (mI mm 44 27) a1) = 0 then (if (mI mm 44 25) = (12 : Int32) then (some ((0 : Int32), mm)) else ((m_X12_isThere a1 a2 a3 mm).bind (fun q3 => if q3 = 0 then ((m_X12_addOath a1 a2 a3 mm).bind (fun q6 => some ((1 : Int32), q6))) else (some ((0 : Int32), mm))))) else (some ((0 : Int32), mm))
set_option maxHeartbeats 4000000 in
set_option maxRecDepth 100000 in
theorem c_X12_swears {l : Launch} {G : Gt} {S : Sk} (hS : Lay S) {a1 : Int32} {a2 : Int32} {a3 : Int32} {mm : Mm} {q : Int32 × Mm} (e : m_X12_swears a1 a2 a3 mm = some q) : CallOK l G M_X12_swears yX12_swears 1 [vr (some 44), vi a1, vi a2, vi a3] S mm (some (vi q.1)) S q.2 := by
  refine call_of_run rfl rfl rfl (Nat.le_of_ble_eq_true rfl) ?_
  show Run l G M_X12_swears 1 0 [some (vr (some 44)), some (vi a1), some (vi a2), some (vi a3)] [] S mm (some (vi q.1)) S q.2
  unfold m_X12_swears at e
  refine r_aload_n dX12_swears_0 rfl ?_
  refine r_getI dX12_swears_1 fl_X12_264 rfl (lp_44 hS) (lq_44 hS) ?_
  refine r_iload_n dX12_swears_4 rfl ?_
  refine r_callS (as := [_, _]) (rest := []) dX12_swears_5 ml_X12_94 yS_X12_has (c_X12_has hS) (by decide) rfl (Nat.le_of_ble_eq_true rfl) ?_
  refine r_if_ne (tgt := 30) dX12_swears_8 rfl (fun h1 => ?_) (fun h1 => ?_)
  · replace e := ite_f h1 e
    refine r_iconst (v := 0) dX12_swears_30 ci_0 ?_
    cases e
    exact r_ireturn dX12_swears_31 rfl (nz_b (by first | exact Or.inl rfl | exact Or.inr rfl)).1
  · replace e := ite_t h1 e
    refine r_aload_n dX12_swears_11 rfl ?_
    refine r_getI dX12_swears_12 fl_X12_280 rfl (lp_44 hS) (lq_44 hS) ?_
    refine r_bipush (v := 12) dX12_swears_15 cb_12 ?_
    refine r_icmp_eq (tgt := 30) dX12_swears_17 rfl (fun h2 => ?_) (fun h2 => ?_)
    · replace e := ite_t h2 e
      refine r_iconst (v := 0) dX12_swears_30 ci_0 ?_
      cases e
      exact r_ireturn dX12_swears_31 rfl (nz_b (by first | exact Or.inl rfl | exact Or.inr rfl)).1
    · replace e := ite_f h2 e
      refine r_aload_n dX12_swears_20 rfl ?_
      refine r_iload_n dX12_swears_21 rfl ?_
      refine r_iload_n dX12_swears_22 rfl ?_
      refine r_iload_n dX12_swears_23 rfl ?_
      obtain ⟨q3, eq4, e⟩ := obind e
      refine r_callV (as := [_, _, _]) (rest := []) dX12_swears_24 ml_X12_328 yV_X12_isThere (c_X12_isThere hS eq4) (by decide) rfl (lp_44 hS) (lq_44 hS) (Nat.le_of_ble_eq_true rfl) ?_
      refine r_if_eq (tgt := 32) dX12_swears_27 rfl (fun h5 => ?_) (fun h5 => ?_)
      · replace e := ite_t h5 e
        refine r_aload_n dX12_swears_32 rfl ?_
        refine r_iload_n dX12_swears_33 rfl ?_
        refine r_iload_n dX12_swears_34 rfl ?_
        refine r_iload_n dX12_swears_35 rfl ?_
        obtain ⟨q6, eq7, e⟩ := obind e
        refine r_callV (as := [_, _, _]) (rest := []) dX12_swears_36 ml_X12_331 yV_X12_addOath (c_X12_addOath hS eq7) (by decide) rfl (lp_44 hS) (lq_44 hS) (Nat.le_of_ble_eq_true rfl) ?_
        refine r_iconst (v := 1) dX12_swears_39 ci_1 ?_
        cases e
        exact r_ireturn dX12_swears_40 rfl (nz_b (by first | exact Or.inl rfl | exact Or.inr rfl)).1
      · replace e := ite_f h5 e
        refine r_iconst (v := 0) dX12_swears_30 ci_0 ?_
        cases e
        exact r_ireturn dX12_swears_31 rfl (nz_b (by first | exact Or.inl rfl | exact Or.inr rfl)).1
def m_X12_itIsMonday_b7 (q1 : Int32) (z3 : Int32 × Mm) : Option ((Int32 × Mm) ⊕ (Mm)) := if (mI z3.2 44 25) ≤ z3.1 then (some (.inr z3.2)) else ((if (m_X12_has q1 z3.1) = 0 then (some (0 : Int32)) else (grd z3.1 16 (some (xshl (1 : Int32) (mI z3.2 60 (ix z3.1))))) : Option (Int32)).bind (fun p10 => some (.inl (z3.1 + (1 : Int32), (sI z3.2 44 27 ((mI z3.2 44 27) ||| p10))))))
def m_X12_itIsMonday (mm : Mm) : Option (Int32 × Mm) := (m_X12_brokenOnes mm).bind (fun q1 => (whileF FU (m_X12_itIsMonday_b7 q1) ((0 : Int32), mm)).bind (fun p4 => (m_X12_ones q1).bind (fun q16 => (m_X12_ones q1).bind (fun q18 => some ((1 : Int32), (sI (sI (sI (sI p4 44 30 ((mI p4 44 30) + q16)) 44 29 ((mI (sI p4 44 30 ((mI p4 44 30) + q16)) 44 29) + ((mI (sI p4 44 30 ((mI p4 44 30) + q16)) 44 25) - q18))) 44 28 ((mI (sI (sI p4 44 30 ((mI p4 44 30) + q16)) 44 29 ((mI (sI p4 44 30 ((mI p4 44 30) + q16)) 44 29) + ((mI (sI p4 44 30 ((mI p4 44 30) + q16)) 44 25) - q18))) 44 28) + (1 : Int32))) 44 25 (0 : Int32)))))))
set_option maxHeartbeats 4000000 in
set_option maxRecDepth 100000 in
theorem c_X12_itIsMonday {l : Launch} {G : Gt} {S : Sk} (hS : Lay S) {mm : Mm} {q : Int32 × Mm} (e : m_X12_itIsMonday mm = some q) : CallOK l G M_X12_itIsMonday yX12_itIsMonday 5 [vr (some 44)] S mm (some (vi q.1)) S q.2 := by
  refine call_of_run rfl rfl rfl (Nat.le_of_ble_eq_true rfl) ?_
  show Run l G M_X12_itIsMonday 5 0 [some (vr (some 44)), none, none] [] S mm (some (vi q.1)) S q.2
  unfold m_X12_itIsMonday at e
  refine r_aload_n dX12_itIsMonday_0 rfl ?_
  obtain ⟨q1, eq2, e⟩ := obind e
  refine r_callV (as := []) (rest := []) dX12_itIsMonday_1 ml_X12_334 yV_X12_brokenOnes (c_X12_brokenOnes hS eq2) (by decide) rfl (lp_44 hS) (lq_44 hS) (Nat.le_of_ble_eq_true rfl) ?_
  refine r_istore_n dX12_itIsMonday_4 (by decide) rfl ?_
  refine r_iconst (v := 0) dX12_itIsMonday_5 ci_0 ?_
  refine r_istore_n dX12_itIsMonday_6 (by decide) rfl ?_
  obtain ⟨p4, eb8w, e⟩ := obind e
  have J5a : Run l G M_X12_itIsMonday 5 50 [some (vr (some 44)), some (vi q1), none] [] S p4 (some (vi q.1)) S q.2 := by
    refine r_aload_n dX12_itIsMonday_50 rfl ?_
    refine r_dup dX12_itIsMonday_51 rfl ?_
    refine r_getI dX12_itIsMonday_52 fl_X12_273 rfl (lp_44 hS) (lq_44 hS) ?_
    refine r_iload_n dX12_itIsMonday_55 rfl ?_
    obtain ⟨q16, eq17, e⟩ := obind e
    refine r_callS (as := [_]) (rest := [_, _]) dX12_itIsMonday_56 ml_X12_295 yS_X12_ones (c_X12_ones hS eq17) (by decide) rfl (Nat.le_of_ble_eq_true rfl) ?_
    refine r_iadd dX12_itIsMonday_59 ?_
    refine r_putI dX12_itIsMonday_60 fl_X12_273 ft_12_30 (Or.inl rfl) rfl rfl rfl (lp_44 hS) (lq_44 hS) ?_
    refine r_aload_n dX12_itIsMonday_63 rfl ?_
    refine r_dup dX12_itIsMonday_64 rfl ?_
    refine r_getI dX12_itIsMonday_65 fl_X12_270 rfl (lp_44 hS) (lq_44 hS) ?_
    refine r_aload_n dX12_itIsMonday_68 rfl ?_
    refine r_getI dX12_itIsMonday_69 fl_X12_280 rfl (lp_44 hS) (lq_44 hS) ?_
    refine r_iload_n dX12_itIsMonday_72 rfl ?_
    obtain ⟨q18, eq19, e⟩ := obind e
    refine r_callS (as := [_]) (rest := [_, _, _]) dX12_itIsMonday_73 ml_X12_295 yS_X12_ones (c_X12_ones hS eq19) (by decide) rfl (Nat.le_of_ble_eq_true rfl) ?_
    refine r_isub dX12_itIsMonday_76 ?_
    refine r_iadd dX12_itIsMonday_77 ?_
    refine r_putI dX12_itIsMonday_78 fl_X12_270 ft_12_29 (Or.inl rfl) rfl rfl rfl (lp_44 hS) (lq_44 hS) ?_
    refine r_aload_n dX12_itIsMonday_81 rfl ?_
    refine r_dup dX12_itIsMonday_82 rfl ?_
    refine r_getI dX12_itIsMonday_83 fl_X12_267 rfl (lp_44 hS) (lq_44 hS) ?_
    refine r_iconst (v := 1) dX12_itIsMonday_86 ci_1 ?_
    refine r_iadd dX12_itIsMonday_87 ?_
    refine r_putI dX12_itIsMonday_88 fl_X12_267 ft_12_28 (Or.inl rfl) rfl rfl rfl (lp_44 hS) (lq_44 hS) ?_
    refine r_aload_n dX12_itIsMonday_91 rfl ?_
    refine r_iconst (v := 0) dX12_itIsMonday_92 ci_0 ?_
    refine r_putI dX12_itIsMonday_93 fl_X12_280 ft_12_25 (Or.inl rfl) rfl rfl rfl (lp_44 hS) (lq_44 hS) ?_
    refine r_iconst (v := 1) dX12_itIsMonday_96 ci_1 ?_
    cases e
    exact r_ireturn dX12_itIsMonday_97 rfl (nz_b (by first | exact Or.inl rfl | exact Or.inr rfl)).1
  have J5 : ∀ pp : Mm, pp = p4 → Run l G M_X12_itIsMonday 5 50 [some (vr (some 44)), some (vi q1), none] [] S pp (some (vi q.1)) S q.2 := by
    intro pp hpp
    rw [hpp]
    exact J5a
  have J5w : Run l G M_X12_itIsMonday 5 7 [some (vr (some 44)), some (vi q1), some (vi (0 : Int32))] [] S mm (some (vi q.1)) S q.2 := by
    refine while_run (s := ((0 : Int32), mm)) (Gs := fun (z3 : Int32 × Mm) => Run l G M_X12_itIsMonday 5 7 [some (vr (some 44)), some (vi q1), some (vi z3.1)] [] S z3.2 (some (vi q.1)) S q.2) eb8w ?_
    intro z3 x6y eb8 hx7
    unfold m_X12_itIsMonday_b7 at eb8
    refine r_iload_n dX12_itIsMonday_7 rfl ?_
    refine r_aload_n dX12_itIsMonday_8 rfl ?_
    refine r_getI dX12_itIsMonday_9 fl_X12_280 rfl (lp_44 hS) (lq_44 hS) ?_
    refine r_icmp_ge (tgt := 50) dX12_itIsMonday_12 rfl (fun h9 => ?_) (fun h9 => ?_)
    · replace eb8 := ite_t h9 eb8
      cases eb8
      exact r_weak (L' := [some (vr (some 44)), some (vi q1), none]) ⟨rfl, rfl, trivial⟩ (J5 _ hx7)
    · replace eb8 := ite_f h9 eb8
      refine r_aload_n dX12_itIsMonday_15 rfl ?_
      refine r_dup dX12_itIsMonday_16 rfl ?_
      refine r_getI dX12_itIsMonday_17 fl_X12_264 rfl (lp_44 hS) (lq_44 hS) ?_
      refine r_iload_n dX12_itIsMonday_20 rfl ?_
      refine r_iload_n dX12_itIsMonday_21 rfl ?_
      refine r_callS (as := [_, _]) (rest := [_, _]) dX12_itIsMonday_22 ml_X12_94 yS_X12_has (c_X12_has hS) (by decide) rfl (Nat.le_of_ble_eq_true rfl) ?_
      obtain ⟨p10, ep12, eb8⟩ := obind eb8
      have J11a : Run l G M_X12_itIsMonday 5 40 [some (vr (some 44)), some (vi q1), some (vi z3.1)] [vi p10, vi (mI z3.2 44 27), vr (some 44)] S z3.2 (some (vi q.1)) S q.2 := by
        refine r_ior dX12_itIsMonday_40 ?_
        refine r_putI dX12_itIsMonday_41 fl_X12_264 ft_12_27 (Or.inl rfl) rfl rfl rfl (lp_44 hS) (lq_44 hS) ?_
        refine r_iinc (v := _ + (1 : Int32)) dX12_itIsMonday_44 rfl (congrArg (_ + ·) ci_1) (by decide) rfl ?_
        refine r_goto (tgt := 7) dX12_itIsMonday_47 rfl ?_
        cases eb8
        exact r_weak (L' := [some (vr (some 44)), some (vi q1), some (vi (z3.1 + (1 : Int32)))]) ⟨rfl, rfl, rfl, trivial⟩ hx7
      have J11 : ∀ pp : Int32, pp = p10 → Run l G M_X12_itIsMonday 5 40 [some (vr (some 44)), some (vi q1), some (vi z3.1)] [vi pp, vi (mI z3.2 44 27), vr (some 44)] S z3.2 (some (vi q.1)) S q.2 := by
        intro pp hpp
        rw [hpp]
        exact J11a
      refine r_if_eq (tgt := 39) dX12_itIsMonday_25 rfl (fun h14 => ?_) (fun h14 => ?_)
      · replace ep12 := ite_t h14 ep12
        refine r_iconst (v := 0) dX12_itIsMonday_39 ci_0 ?_
        exact r_weak (L' := [some (vr (some 44)), some (vi q1), some (vi z3.1)]) ⟨rfl, rfl, rfl, trivial⟩ (J11 _ (Option.some.inj ep12))
      · replace ep12 := ite_f h14 ep12
        refine r_iconst (v := 1) dX12_itIsMonday_28 ci_1 ?_
        refine r_aload_n dX12_itIsMonday_29 rfl ?_
        refine r_getR dX12_itIsMonday_30 fl_X12_56 rfl (lp_44 hS) (lq_44 hS) (lr_44_35 hS) ?_
        refine r_iload_n dX12_itIsMonday_33 rfl ?_
        obtain ⟨hg15, ep12⟩ := grd_some ep12
        refine r_iald dX12_itIsMonday_34 (lp_60 hS) (lk_60 hS) hg15 ?_
        refine r_ishl dX12_itIsMonday_35 ?_
        refine r_goto (tgt := 40) dX12_itIsMonday_36 rfl ?_
        exact r_weak (L' := [some (vr (some 44)), some (vi q1), some (vi z3.1)]) ⟨rfl, rfl, rfl, trivial⟩ (J11 _ (Option.some.inj ep12))
  exact r_weak (L' := [some (vr (some 44)), some (vi q1), some (vi (0 : Int32))]) ⟨rfl, rfl, rfl, trivial⟩ J5w
def m_X12_changesWill (a1 : Int32) (a2 : Int32) (mm : Mm) : Option (Int32 × Mm) := (m_X12_isOne a1 mm).bind (fun q1 => if q1 = 0 then (some ((0 : Int32), mm)) else (grd a1 6 (if (m_X12_in ((mI mm 56 (ix a1)) + a2) (0 : Int32) (9 : Int32)) = 0 then (some ((0 : Int32), mm)) else (grd a1 6 (grd a1 6 (some ((1 : Int32), (sI mm 56 (ix a1) ((mI mm 56 (ix a1)) + a2)))))))))
set_option maxHeartbeats 4000000 in
set_option maxRecDepth 100000 in
theorem c_X12_changesWill {l : Launch} {G : Gt} {S : Sk} (hS : Lay S) {a1 : Int32} {a2 : Int32} {mm : Mm} {q : Int32 × Mm} (e : m_X12_changesWill a1 a2 mm = some q) : CallOK l G M_X12_changesWill yX12_changesWill 2 [vr (some 44), vi a1, vi a2] S mm (some (vi q.1)) S q.2 := by
  refine call_of_run rfl rfl rfl (Nat.le_of_ble_eq_true rfl) ?_
  show Run l G M_X12_changesWill 2 0 [some (vr (some 44)), some (vi a1), some (vi a2)] [] S mm (some (vi q.1)) S q.2
  unfold m_X12_changesWill at e
  refine r_aload_n dX12_changesWill_0 rfl ?_
  refine r_iload_n dX12_changesWill_1 rfl ?_
  obtain ⟨q1, eq2, e⟩ := obind e
  refine r_callV (as := [_]) (rest := []) dX12_changesWill_2 ml_X12_289 yV_X12_isOne (c_X12_isOne hS eq2) (by decide) rfl (lp_44 hS) (lq_44 hS) (Nat.le_of_ble_eq_true rfl) ?_
  refine r_if_eq (tgt := 25) dX12_changesWill_5 rfl (fun h3 => ?_) (fun h3 => ?_)
  · replace e := ite_t h3 e
    refine r_iconst (v := 0) dX12_changesWill_25 ci_0 ?_
    cases e
    exact r_ireturn dX12_changesWill_26 rfl (nz_b (by first | exact Or.inl rfl | exact Or.inr rfl)).1
  · replace e := ite_f h3 e
    refine r_aload_n dX12_changesWill_8 rfl ?_
    refine r_getR dX12_changesWill_9 fl_X12_44 rfl (lp_44 hS) (lq_44 hS) (lr_44_31 hS) ?_
    refine r_iload_n dX12_changesWill_12 rfl ?_
    obtain ⟨hg4, e⟩ := grd_some e
    refine r_iald dX12_changesWill_13 (lp_56 hS) (lk_56 hS) hg4 ?_
    refine r_iload_n dX12_changesWill_14 rfl ?_
    refine r_iadd dX12_changesWill_15 ?_
    refine r_iconst (v := 0) dX12_changesWill_16 ci_0 ?_
    refine r_bipush (v := 9) dX12_changesWill_17 cb_9 ?_
    refine r_callS (as := [_, _, _]) (rest := []) dX12_changesWill_19 ml_X12_102 yS_X12_in (c_X12_in hS) (by decide) rfl (Nat.le_of_ble_eq_true rfl) ?_
    refine r_if_ne (tgt := 27) dX12_changesWill_22 rfl (fun h5 => ?_) (fun h5 => ?_)
    · replace e := ite_f h5 e
      refine r_aload_n dX12_changesWill_27 rfl ?_
      refine r_getR dX12_changesWill_28 fl_X12_44 rfl (lp_44 hS) (lq_44 hS) (lr_44_31 hS) ?_
      refine r_iload_n dX12_changesWill_31 rfl ?_
      refine r_dup2 dX12_changesWill_32 rfl rfl ?_
      obtain ⟨hg6, e⟩ := grd_some e
      refine r_iald dX12_changesWill_33 (lp_56 hS) (lk_56 hS) hg6 ?_
      refine r_iload_n dX12_changesWill_34 rfl ?_
      refine r_iadd dX12_changesWill_35 ?_
      obtain ⟨hg7, e⟩ := grd_some e
      refine r_iast dX12_changesWill_36 (lp_56 hS) (lk_56 hS) hg7 ?_
      refine r_iconst (v := 1) dX12_changesWill_37 ci_1 ?_
      cases e
      exact r_ireturn dX12_changesWill_38 rfl (nz_b (by first | exact Or.inl rfl | exact Or.inr rfl)).1
    · replace e := ite_t h5 e
      refine r_iconst (v := 0) dX12_changesWill_25 ci_0 ?_
      cases e
      exact r_ireturn dX12_changesWill_26 rfl (nz_b (by first | exact Or.inl rfl | exact Or.inr rfl)).1
def m_X12_visitsOne (a1 : Int32) (a2 : Int32) (mm : Mm) : Option (Int32 × Mm) := grd (((6 : Int32) * a1) + a2) 36 (if (mI mm 59 (ix (((6 : Int32) * a1) + a2))) = (9 : Int32) then (some ((0 : Int32), mm)) else (grd (((6 : Int32) * a1) + a2) 36 (grd (((6 : Int32) * a1) + a2) 36 (some ((1 : Int32), (sI mm 59 (ix (((6 : Int32) * a1) + a2)) ((mI mm 59 (ix (((6 : Int32) * a1) + a2))) + (1 : Int32))))))))
set_option maxHeartbeats 4000000 in
set_option maxRecDepth 100000 in
theorem c_X12_visitsOne {l : Launch} {G : Gt} {S : Sk} (hS : Lay S) {a1 : Int32} {a2 : Int32} {mm : Mm} {q : Int32 × Mm} (e : m_X12_visitsOne a1 a2 mm = some q) : CallOK l G M_X12_visitsOne yX12_visitsOne 0 [vr (some 44), vi a1, vi a2] S mm (some (vi q.1)) S q.2 := by
  refine call_of_run rfl rfl rfl (Nat.le_of_ble_eq_true rfl) ?_
  show Run l G M_X12_visitsOne 0 0 [some (vr (some 44)), some (vi a1), some (vi a2)] [] S mm (some (vi q.1)) S q.2
  unfold m_X12_visitsOne at e
  refine r_aload_n dX12_visitsOne_0 rfl ?_
  refine r_getR dX12_visitsOne_1 fl_X12_53 rfl (lp_44 hS) (lq_44 hS) (lr_44_34 hS) ?_
  refine r_bipush (v := 6) dX12_visitsOne_4 cb_6 ?_
  refine r_iload_n dX12_visitsOne_6 rfl ?_
  refine r_imul dX12_visitsOne_7 ?_
  refine r_iload_n dX12_visitsOne_8 rfl ?_
  refine r_iadd dX12_visitsOne_9 ?_
  obtain ⟨hg1, e⟩ := grd_some e
  refine r_iald dX12_visitsOne_10 (lp_59 hS) (lk_59 hS) hg1 ?_
  refine r_bipush (v := 9) dX12_visitsOne_11 cb_9 ?_
  refine r_icmp_ne (tgt := 18) dX12_visitsOne_13 rfl (fun h2 => ?_) (fun h2 => ?_)
  · replace e := ite_f h2 e
    refine r_aload_n dX12_visitsOne_18 rfl ?_
    refine r_getR dX12_visitsOne_19 fl_X12_53 rfl (lp_44 hS) (lq_44 hS) (lr_44_34 hS) ?_
    refine r_bipush (v := 6) dX12_visitsOne_22 cb_6 ?_
    refine r_iload_n dX12_visitsOne_24 rfl ?_
    refine r_imul dX12_visitsOne_25 ?_
    refine r_iload_n dX12_visitsOne_26 rfl ?_
    refine r_iadd dX12_visitsOne_27 ?_
    refine r_dup2 dX12_visitsOne_28 rfl rfl ?_
    obtain ⟨hg3, e⟩ := grd_some e
    refine r_iald dX12_visitsOne_29 (lp_59 hS) (lk_59 hS) hg3 ?_
    refine r_iconst (v := 1) dX12_visitsOne_30 ci_1 ?_
    refine r_iadd dX12_visitsOne_31 ?_
    obtain ⟨hg4, e⟩ := grd_some e
    refine r_iast dX12_visitsOne_32 (lp_59 hS) (lk_59 hS) hg4 ?_
    refine r_iconst (v := 1) dX12_visitsOne_33 ci_1 ?_
    cases e
    exact r_ireturn dX12_visitsOne_34 rfl (nz_b (by first | exact Or.inl rfl | exact Or.inr rfl)).1
  · replace e := ite_t h2 e
    refine r_iconst (v := 0) dX12_visitsOne_16 ci_0 ?_
    cases e
    exact r_ireturn dX12_visitsOne_17 rfl (nz_b (by first | exact Or.inl rfl | exact Or.inr rfl)).1
def m_X12_courts (a1 : Int32) (a2 : Int32) (a3 : Int32) (mm : Mm) : Option (Int32 × Mm) := grd a2 6 (if (m_X12_has (mI mm 58 (ix a2)) a1) = a3 then (some ((0 : Int32), mm)) else (if a3 = 0 then (grd a2 6 (grd a2 6 (some ((1 : Int32), (sI mm 58 (ix a2) ((mI mm 58 (ix a2)) &&& ((xshl (1 : Int32) a1) ^^^ (-1 : Int32)))))))) else (grd a2 6 (grd a2 6 (some ((1 : Int32), (sI mm 58 (ix a2) ((mI mm 58 (ix a2)) ||| (xshl (1 : Int32) a1)))))))))
set_option maxHeartbeats 4000000 in
set_option maxRecDepth 100000 in
theorem c_X12_courts {l : Launch} {G : Gt} {S : Sk} (hS : Lay S) {a1 : Int32} {a2 : Int32} {a3 : Int32} {mm : Mm} {q : Int32 × Mm} (e : m_X12_courts a1 a2 a3 mm = some q) : CallOK l G M_X12_courts yX12_courts 1 [vr (some 44), vi a1, vi a2, vi a3] S mm (some (vi q.1)) S q.2 := by
  refine call_of_run rfl rfl rfl (Nat.le_of_ble_eq_true rfl) ?_
  show Run l G M_X12_courts 1 0 [some (vr (some 44)), some (vi a1), some (vi a2), some (vi a3)] [] S mm (some (vi q.1)) S q.2
  unfold m_X12_courts at e
  refine r_aload_n dX12_courts_0 rfl ?_
  refine r_getR dX12_courts_1 fl_X12_50 rfl (lp_44 hS) (lq_44 hS) (lr_44_33 hS) ?_
  refine r_iload_n dX12_courts_4 rfl ?_
  obtain ⟨hg1, e⟩ := grd_some e
  refine r_iald dX12_courts_5 (lp_58 hS) (lk_58 hS) hg1 ?_
  refine r_iload_n dX12_courts_6 rfl ?_
  refine r_callS (as := [_, _]) (rest := []) dX12_courts_7 ml_X12_94 yS_X12_has (c_X12_has hS) (by decide) rfl (Nat.le_of_ble_eq_true rfl) ?_
  refine r_iload_n dX12_courts_10 rfl ?_
  refine r_icmp_ne (tgt := 16) dX12_courts_11 rfl (fun h2 => ?_) (fun h2 => ?_)
  · replace e := ite_f h2 e
    refine r_aload_n dX12_courts_16 rfl ?_
    refine r_getR dX12_courts_17 fl_X12_50 rfl (lp_44 hS) (lq_44 hS) (lr_44_33 hS) ?_
    refine r_iload_n dX12_courts_20 rfl ?_
    refine r_iload_n dX12_courts_21 rfl ?_
    refine r_if_eq (tgt := 38) dX12_courts_22 rfl (fun h3 => ?_) (fun h3 => ?_)
    · replace e := ite_t h3 e
      refine r_aload_n dX12_courts_38 rfl ?_
      refine r_getR dX12_courts_39 fl_X12_50 rfl (lp_44 hS) (lq_44 hS) (lr_44_33 hS) ?_
      refine r_iload_n dX12_courts_42 rfl ?_
      obtain ⟨hg4, e⟩ := grd_some e
      refine r_iald dX12_courts_43 (lp_58 hS) (lk_58 hS) hg4 ?_
      refine r_iconst (v := 1) dX12_courts_44 ci_1 ?_
      refine r_iload_n dX12_courts_45 rfl ?_
      refine r_ishl dX12_courts_46 ?_
      refine r_iconst (v := -1) dX12_courts_47 ci_m1 ?_
      refine r_ixor dX12_courts_48 ?_
      refine r_iand dX12_courts_49 ?_
      obtain ⟨hg5, e⟩ := grd_some e
      refine r_iast dX12_courts_50 (lp_58 hS) (lk_58 hS) hg5 ?_
      refine r_iconst (v := 1) dX12_courts_51 ci_1 ?_
      cases e
      exact r_ireturn dX12_courts_52 rfl (nz_b (by first | exact Or.inl rfl | exact Or.inr rfl)).1
    · replace e := ite_f h3 e
      refine r_aload_n dX12_courts_25 rfl ?_
      refine r_getR dX12_courts_26 fl_X12_50 rfl (lp_44 hS) (lq_44 hS) (lr_44_33 hS) ?_
      refine r_iload_n dX12_courts_29 rfl ?_
      obtain ⟨hg6, e⟩ := grd_some e
      refine r_iald dX12_courts_30 (lp_58 hS) (lk_58 hS) hg6 ?_
      refine r_iconst (v := 1) dX12_courts_31 ci_1 ?_
      refine r_iload_n dX12_courts_32 rfl ?_
      refine r_ishl dX12_courts_33 ?_
      refine r_ior dX12_courts_34 ?_
      refine r_goto (tgt := 50) dX12_courts_35 rfl ?_
      obtain ⟨hg7, e⟩ := grd_some e
      refine r_iast dX12_courts_50 (lp_58 hS) (lk_58 hS) hg7 ?_
      refine r_iconst (v := 1) dX12_courts_51 ci_1 ?_
      cases e
      exact r_ireturn dX12_courts_52 rfl (nz_b (by first | exact Or.inl rfl | exact Or.inr rfl)).1
  · replace e := ite_t h2 e
    refine r_iconst (v := 0) dX12_courts_14 ci_0 ?_
    cases e
    exact r_ireturn dX12_courts_15 rfl (nz_b (by first | exact Or.inl rfl | exact Or.inr rfl)).1
def m_X12_does (a1 : Int32) (a2 : Int32) (a3 : Int32) (a4 : Int32) (mm : Mm) : Option (Int32 × Mm) := if a1 = 0 then ((m_X12_itIsMonday mm).bind (fun q31 => gbz q31.1 (some (q31.1, q31.2)))) else (if (2 : Int32) < a1 then ((m_X12_areTwo a2 a3 mm).bind (fun q3 => if q3 = 0 then (some ((0 : Int32), mm)) else (if a1 = (3 : Int32) then ((m_X12_visitsOne a2 a3 mm).bind (fun q7 => gbz q7.1 (some (q7.1, q7.2)))) else (if a1 = (4 : Int32) then ((m_X12_courts a2 a3 (if a1 = (4 : Int32) then (1 : Int32) else (0 : Int32)) mm).bind (fun q13 => gbz q13.1 (some (q13.1, q13.2)))) else (if a1 = (5 : Int32) then ((m_X12_courts a2 a3 (if a1 = (4 : Int32) then (1 : Int32) else (0 : Int32)) mm).bind (fun q20 => gbz q20.1 (some (q20.1, q20.2)))) else ((m_X12_swears a2 a3 a4 mm).bind (fun q23 => gbz q23.1 (some (q23.1, q23.2))))))))) else ((m_X12_changesWill a2 (if a1 = (2 : Int32) then (1 : Int32) else (-1 : Int32)) mm).bind (fun q28 => gbz q28.1 (some (q28.1, q28.2)))))
set_option maxHeartbeats 4000000 in
set_option maxRecDepth 100000 in
theorem c_X12_does {l : Launch} {G : Gt} {S : Sk} (hS : Lay S) {a1 : Int32} {a2 : Int32} {a3 : Int32} {a4 : Int32} {mm : Mm} {q : Int32 × Mm} (e : m_X12_does a1 a2 a3 a4 mm = some q) : CallOK l G M_X12_does yX12_does 6 [vr (some 44), vi a1, vi a2, vi a3, vi a4] S mm (some (vi q.1)) S q.2 := by
  refine call_of_run rfl rfl rfl (Nat.le_of_ble_eq_true rfl) ?_
  show Run l G M_X12_does 6 0 [some (vr (some 44)), some (vi a1), some (vi a2), some (vi a3), some (vi a4)] [] S mm (some (vi q.1)) S q.2
  unfold m_X12_does at e
  refine r_iload_n dX12_does_0 rfl ?_
  refine r_if_ne (tgt := 9) dX12_does_1 rfl (fun h1 => ?_) (fun h1 => ?_)
  · replace e := ite_f h1 e
    refine r_iload_n dX12_does_9 rfl ?_
    refine r_iconst (v := 2) dX12_does_10 ci_2 ?_
    refine r_icmp_gt (tgt := 30) dX12_does_11 rfl (fun h2 => ?_) (fun h2 => ?_)
    · replace e := ite_t h2 e
      refine r_aload_n dX12_does_30 rfl ?_
      refine r_iload_n dX12_does_31 rfl ?_
      refine r_iload_n dX12_does_32 rfl ?_
      obtain ⟨q3, eq4, e⟩ := obind e
      refine r_callV (as := [_, _]) (rest := []) dX12_does_33 ml_X12_343 yV_X12_areTwo (c_X12_areTwo hS eq4) (by decide) rfl (lp_44 hS) (lq_44 hS) (Nat.le_of_ble_eq_true rfl) ?_
      refine r_if_ne (tgt := 41) dX12_does_36 rfl (fun h5 => ?_) (fun h5 => ?_)
      · replace e := ite_f h5 e
        refine r_iload_n dX12_does_41 rfl ?_
        by_cases h6 : a1 = (3 : Int32)
        · replace e := ite_t h6 e
          refine r_table_in (tgt := 68) dX12_does_42 (by rw [h6]; decide) (by rw [h6]; decide) (by rw [h6]; rfl) rfl ?_
          refine r_aload_n dX12_does_68 rfl ?_
          refine r_iload_n dX12_does_69 rfl ?_
          refine r_iload_n dX12_does_70 rfl ?_
          obtain ⟨q7, eq8, e⟩ := obind e
          refine r_callV (as := [_, _]) (rest := []) dX12_does_71 ml_X12_346 yV_X12_visitsOne (c_X12_visitsOne hS eq8) (by decide) rfl (lp_44 hS) (lq_44 hS) (Nat.le_of_ble_eq_true rfl) ?_
          obtain ⟨hbz, e⟩ := gbz_some e
          cases e
          exact r_ireturn dX12_does_74 rfl (nz_b hbz).1
        replace e := ite_f h6 e
        by_cases h9 : a1 = (4 : Int32)
        · replace e := ite_t h9 e
          refine r_table_in (tgt := 75) dX12_does_42 (by rw [h9]; decide) (by rw [h9]; decide) (by rw [h9]; rfl) rfl ?_
          refine r_aload_n dX12_does_75 rfl ?_
          refine r_iload_n dX12_does_76 rfl ?_
          refine r_iload_n dX12_does_77 rfl ?_
          refine r_iload_n dX12_does_78 rfl ?_
          refine r_iconst (v := 4) dX12_does_79 ci_4 ?_
          have J12 : ∀ (w11 : Int32), w11 = (if a1 = (4 : Int32) then (1 : Int32) else (0 : Int32)) → Run l G M_X12_does 6 88 [none, none, none, none, none] [vi w11, vi a3, vi a2, vr (some 44)] S mm (some (vi q.1)) S q.2 := by
            intro w11 hw15
            subst hw15
            obtain ⟨q13, eq14, e⟩ := obind e
            refine r_callV (as := [_, _, _]) (rest := []) dX12_does_88 ml_X12_349 yV_X12_courts (c_X12_courts hS eq14) (by decide) rfl (lp_44 hS) (lq_44 hS) (Nat.le_of_ble_eq_true rfl) ?_
            obtain ⟨hbz, e⟩ := gbz_some e
            cases e
            exact r_ireturn dX12_does_91 rfl (nz_b hbz).1
          refine r_icmp_ne (tgt := 87) dX12_does_80 rfl (fun h10 => ?_) (fun h10 => ?_)
          · refine r_iconst (v := 0) dX12_does_87 ci_0 ?_
            exact r_weak (L' := [none, none, none, none, none]) trivial (J12 _ (Eq.symm (if_neg h10)))
          · refine r_iconst (v := 1) dX12_does_83 ci_1 ?_
            refine r_goto (tgt := 88) dX12_does_84 rfl ?_
            exact r_weak (L' := [none, none, none, none, none]) trivial (J12 _ (Eq.symm (if_pos h10)))
        replace e := ite_f h9 e
        by_cases h16 : a1 = (5 : Int32)
        · replace e := ite_t h16 e
          refine r_table_in (tgt := 75) dX12_does_42 (by rw [h16]; decide) (by rw [h16]; decide) (by rw [h16]; rfl) rfl ?_
          refine r_aload_n dX12_does_75 rfl ?_
          refine r_iload_n dX12_does_76 rfl ?_
          refine r_iload_n dX12_does_77 rfl ?_
          refine r_iload_n dX12_does_78 rfl ?_
          refine r_iconst (v := 4) dX12_does_79 ci_4 ?_
          have J19 : ∀ (w18 : Int32), w18 = (if a1 = (4 : Int32) then (1 : Int32) else (0 : Int32)) → Run l G M_X12_does 6 88 [none, none, none, none, none] [vi w18, vi a3, vi a2, vr (some 44)] S mm (some (vi q.1)) S q.2 := by
            intro w18 hw22
            subst hw22
            obtain ⟨q20, eq21, e⟩ := obind e
            refine r_callV (as := [_, _, _]) (rest := []) dX12_does_88 ml_X12_349 yV_X12_courts (c_X12_courts hS eq21) (by decide) rfl (lp_44 hS) (lq_44 hS) (Nat.le_of_ble_eq_true rfl) ?_
            obtain ⟨hbz, e⟩ := gbz_some e
            cases e
            exact r_ireturn dX12_does_91 rfl (nz_b hbz).1
          refine r_icmp_ne (tgt := 87) dX12_does_80 rfl (fun h17 => ?_) (fun h17 => ?_)
          · refine r_iconst (v := 0) dX12_does_87 ci_0 ?_
            exact r_weak (L' := [none, none, none, none, none]) trivial (J19 _ (Eq.symm (if_neg h17)))
          · refine r_iconst (v := 1) dX12_does_83 ci_1 ?_
            refine r_goto (tgt := 88) dX12_does_84 rfl ?_
            exact r_weak (L' := [none, none, none, none, none]) trivial (J19 _ (Eq.symm (if_pos h17)))
        replace e := ite_f h16 e
        have ho42 : (a1).toInt < 3 ∨ 5 < (a1).toInt := by
          have nh6 := lv_neT (a := 3) h6 (by decide)
          have nh9 := lv_neT (a := 4) h9 (by decide)
          have nh16 := lv_neT (a := 5) h16 (by decide)
          omega
        refine r_table_out (tgt := 92) dX12_does_42 ho42 rfl ?_
        refine r_aload_n dX12_does_92 rfl ?_
        refine r_iload_n dX12_does_93 rfl ?_
        refine r_iload_n dX12_does_94 rfl ?_
        refine r_iload dX12_does_95 rfl ?_
        obtain ⟨q23, eq24, e⟩ := obind e
        refine r_callV (as := [_, _, _]) (rest := []) dX12_does_97 ml_X12_353 yV_X12_swears (c_X12_swears hS eq24) (by decide) rfl (lp_44 hS) (lq_44 hS) (Nat.le_of_ble_eq_true rfl) ?_
        obtain ⟨hbz, e⟩ := gbz_some e
        cases e
        exact r_ireturn dX12_does_100 rfl (nz_b hbz).1
      · replace e := ite_t h5 e
        refine r_iconst (v := 0) dX12_does_39 ci_0 ?_
        cases e
        exact r_ireturn dX12_does_40 rfl (nz_b (by first | exact Or.inl rfl | exact Or.inr rfl)).1
    · replace e := ite_f h2 e
      refine r_aload_n dX12_does_14 rfl ?_
      refine r_iload_n dX12_does_15 rfl ?_
      refine r_iload_n dX12_does_16 rfl ?_
      refine r_iconst (v := 2) dX12_does_17 ci_2 ?_
      have J27 : ∀ (w26 : Int32), w26 = (if a1 = (2 : Int32) then (1 : Int32) else (-1 : Int32)) → Run l G M_X12_does 6 26 [none, none, none, none, none] [vi w26, vi a2, vr (some 44)] S mm (some (vi q.1)) S q.2 := by
        intro w26 hw30
        subst hw30
        obtain ⟨q28, eq29, e⟩ := obind e
        refine r_callV (as := [_, _]) (rest := []) dX12_does_26 ml_X12_340 yV_X12_changesWill (c_X12_changesWill hS eq29) (by decide) rfl (lp_44 hS) (lq_44 hS) (Nat.le_of_ble_eq_true rfl) ?_
        obtain ⟨hbz, e⟩ := gbz_some e
        cases e
        exact r_ireturn dX12_does_29 rfl (nz_b hbz).1
      refine r_icmp_ne (tgt := 25) dX12_does_18 rfl (fun h25 => ?_) (fun h25 => ?_)
      · refine r_iconst (v := -1) dX12_does_25 ci_m1 ?_
        exact r_weak (L' := [none, none, none, none, none]) trivial (J27 _ (Eq.symm (if_neg h25)))
      · refine r_iconst (v := 1) dX12_does_21 ci_1 ?_
        refine r_goto (tgt := 26) dX12_does_22 rfl ?_
        exact r_weak (L' := [none, none, none, none, none]) trivial (J27 _ (Eq.symm (if_pos h25)))
  · replace e := ite_t h1 e
    refine r_aload_n dX12_does_4 rfl ?_
    obtain ⟨q31, eq32, e⟩ := obind e
    refine r_callV (as := []) (rest := []) dX12_does_5 ml_X12_337 yV_X12_itIsMonday (c_X12_itIsMonday hS eq32) (by decide) rfl (lp_44 hS) (lq_44 hS) (Nat.le_of_ble_eq_true rfl) ?_
    obtain ⟨hbz, e⟩ := gbz_some e
    cases e
    exact r_ireturn dX12_does_8 rfl (nz_b hbz).1
def m_X12_doesDeed (a1 : Int32) (mm : Mm) : Option (Int32 × Mm) := (m_X12_deedOf a1 (0 : Int32) mm).bind (fun q1 => (m_X12_deedOf a1 (1 : Int32) mm).bind (fun q3 => (m_X12_deedOf a1 (2 : Int32) mm).bind (fun q5 => (m_X12_deedOf a1 (3 : Int32) mm).bind (fun q7 => (m_X12_does q1 q3 q5 q7 mm).bind (fun q9 => gbz q9.1 (some (q9.1, q9.2)))))))
set_option maxHeartbeats 4000000 in
set_option maxRecDepth 100000 in
theorem c_X12_doesDeed {l : Launch} {G : Gt} {S : Sk} (hS : Lay S) {a1 : Int32} {mm : Mm} {q : Int32 × Mm} (e : m_X12_doesDeed a1 mm = some q) : CallOK l G M_X12_doesDeed yX12_doesDeed 7 [vr (some 44), vi a1] S mm (some (vi q.1)) S q.2 := by
  refine call_of_run rfl rfl rfl (Nat.le_of_ble_eq_true rfl) ?_
  show Run l G M_X12_doesDeed 7 0 [some (vr (some 44)), some (vi a1)] [] S mm (some (vi q.1)) S q.2
  unfold m_X12_doesDeed at e
  refine r_aload_n dX12_doesDeed_0 rfl ?_
  refine r_aload_n dX12_doesDeed_1 rfl ?_
  refine r_iload_n dX12_doesDeed_2 rfl ?_
  refine r_iconst (v := 0) dX12_doesDeed_3 ci_0 ?_
  obtain ⟨q1, eq2, e⟩ := obind e
  refine r_callV (as := [_, _]) (rest := [_]) dX12_doesDeed_4 ml_X12_325 yV_X12_deedOf (c_X12_deedOf hS eq2) (by decide) rfl (lp_44 hS) (lq_44 hS) (Nat.le_of_ble_eq_true rfl) ?_
  refine r_aload_n dX12_doesDeed_7 rfl ?_
  refine r_iload_n dX12_doesDeed_8 rfl ?_
  refine r_iconst (v := 1) dX12_doesDeed_9 ci_1 ?_
  obtain ⟨q3, eq4, e⟩ := obind e
  refine r_callV (as := [_, _]) (rest := [_, _]) dX12_doesDeed_10 ml_X12_325 yV_X12_deedOf (c_X12_deedOf hS eq4) (by decide) rfl (lp_44 hS) (lq_44 hS) (Nat.le_of_ble_eq_true rfl) ?_
  refine r_aload_n dX12_doesDeed_13 rfl ?_
  refine r_iload_n dX12_doesDeed_14 rfl ?_
  refine r_iconst (v := 2) dX12_doesDeed_15 ci_2 ?_
  obtain ⟨q5, eq6, e⟩ := obind e
  refine r_callV (as := [_, _]) (rest := [_, _, _]) dX12_doesDeed_16 ml_X12_325 yV_X12_deedOf (c_X12_deedOf hS eq6) (by decide) rfl (lp_44 hS) (lq_44 hS) (Nat.le_of_ble_eq_true rfl) ?_
  refine r_aload_n dX12_doesDeed_19 rfl ?_
  refine r_iload_n dX12_doesDeed_20 rfl ?_
  refine r_iconst (v := 3) dX12_doesDeed_21 ci_3 ?_
  obtain ⟨q7, eq8, e⟩ := obind e
  refine r_callV (as := [_, _]) (rest := [_, _, _, _]) dX12_doesDeed_22 ml_X12_325 yV_X12_deedOf (c_X12_deedOf hS eq8) (by decide) rfl (lp_44 hS) (lq_44 hS) (Nat.le_of_ble_eq_true rfl) ?_
  obtain ⟨q9, eq10, e⟩ := obind e
  refine r_callV (as := [_, _, _, _]) (rest := []) dX12_doesDeed_25 ml_X12_356 yV_X12_does (c_X12_does hS eq10) (by decide) rfl (lp_44 hS) (lq_44 hS) (Nat.le_of_ble_eq_true rfl) ?_
  obtain ⟨hbz, e⟩ := gbz_some e
  cases e
  exact r_ireturn dX12_doesDeed_28 rfl (nz_b hbz).1
def m_X12_play_b2 (a1 : Int32) (z1 : Int32 × Mm) : Option ((Int32 × Mm) ⊕ (Int32 × Mm)) := if a1 ≤ z1.1 then (some (.inr (z1.1, z1.2))) else ((m_X12_doesDeed z1.1 z1.2).bind (fun q8 => if q8.1 = 0 then (some (.inr (z1.1, q8.2))) else (some (.inl (z1.1 + (1 : Int32), q8.2)))))
def m_X12_play (a1 : Int32) (mm : Mm) : Option (Int32 × Mm) := (whileF FU (m_X12_play_b2 a1) ((0 : Int32), mm)).bind (fun p2 => some (p2.1, p2.2))
set_option maxHeartbeats 4000000 in
set_option maxRecDepth 100000 in
theorem c_X12_play {l : Launch} {G : Gt} {S : Sk} (hS : Lay S) {a1 : Int32} {mm : Mm} {q : Int32 × Mm} (e : m_X12_play a1 mm = some q) : CallOK l G M_X12_play yX12_play 8 [vr (some 44), vi a1] S mm (some (vi q.1)) S q.2 := by
  refine call_of_run rfl rfl rfl (Nat.le_of_ble_eq_true rfl) ?_
  show Run l G M_X12_play 8 0 [some (vr (some 44)), some (vi a1), none] [] S mm (some (vi q.1)) S q.2
  unfold m_X12_play at e
  refine r_iconst (v := 0) dX12_play_0 ci_0 ?_
  refine r_istore_n dX12_play_1 (by decide) rfl ?_
  obtain ⟨p2, eb6w, e⟩ := obind e
  have J3a : Run l G M_X12_play 8 21 [none, none, some (vi p2.1)] [] S p2.2 (some (vi q.1)) S q.2 := by
    refine r_iload_n dX12_play_21 rfl ?_
    cases e
    exact r_ireturn dX12_play_22 rfl rfl
  have J3 : ∀ pp : Int32 × Mm, pp = p2 → Run l G M_X12_play 8 21 [none, none, some (vi pp.1)] [] S pp.2 (some (vi q.1)) S q.2 := by
    intro pp hpp
    rw [hpp]
    exact J3a
  have J3w : Run l G M_X12_play 8 2 [some (vr (some 44)), some (vi a1), some (vi (0 : Int32))] [] S mm (some (vi q.1)) S q.2 := by
    refine while_run (s := ((0 : Int32), mm)) (Gs := fun (z1 : Int32 × Mm) => Run l G M_X12_play 8 2 [some (vr (some 44)), some (vi a1), some (vi z1.1)] [] S z1.2 (some (vi q.1)) S q.2) eb6w ?_
    intro z1 x4y eb6 hx5
    unfold m_X12_play_b2 at eb6
    refine r_iload_n dX12_play_2 rfl ?_
    refine r_iload_n dX12_play_3 rfl ?_
    refine r_icmp_ge (tgt := 21) dX12_play_4 rfl (fun h7 => ?_) (fun h7 => ?_)
    · replace eb6 := ite_t h7 eb6
      cases eb6
      exact r_weak (L' := [none, none, some (vi z1.1)]) ⟨rfl, trivial⟩ (J3 _ hx5)
    · replace eb6 := ite_f h7 eb6
      refine r_aload_n dX12_play_7 rfl ?_
      refine r_iload_n dX12_play_8 rfl ?_
      obtain ⟨q8, eq9, eb6⟩ := obind eb6
      refine r_callV (as := [_]) (rest := []) dX12_play_9 ml_X12_359 yV_X12_doesDeed (c_X12_doesDeed hS eq9) (by decide) rfl (lp_44 hS) (lq_44 hS) (Nat.le_of_ble_eq_true rfl) ?_
      refine r_if_eq (tgt := 21) dX12_play_12 rfl (fun h10 => ?_) (fun h10 => ?_)
      · replace eb6 := ite_t h10 eb6
        cases eb6
        exact r_weak (L' := [none, none, some (vi z1.1)]) ⟨rfl, trivial⟩ (J3 _ hx5)
      · replace eb6 := ite_f h10 eb6
        refine r_iinc (v := _ + (1 : Int32)) dX12_play_15 rfl (congrArg (_ + ·) ci_1) (by decide) rfl ?_
        refine r_goto (tgt := 2) dX12_play_18 rfl ?_
        cases eb6
        exact r_weak (L' := [some (vr (some 44)), some (vi a1), some (vi (z1.1 + (1 : Int32)))]) ⟨rfl, rfl, rfl, trivial⟩ hx5
  exact r_weak (L' := [some (vr (some 44)), some (vi a1), some (vi (0 : Int32))]) ⟨rfl, rfl, rfl, trivial⟩ J3w
def m_X12_layAll (a1 : Int32) (a2 : Int32) (mm : Mm) : Option (Int32 × Mm) := (m_X12_hasTerm a2 mm).bind (fun q1 => if q1.1 = 0 then (some ((0 : Int32), q1.2)) else ((m_X12_hand a1 q1.2).bind (fun q4 => if q4.1 = 0 then (some ((0 : Int32), q4.2)) else (some ((1 : Int32), q4.2)))))
set_option maxHeartbeats 4000000 in
set_option maxRecDepth 100000 in
theorem c_X12_layAll {l : Launch} {G : Gt} {S : Sk} (hS : Lay S) {a1 : Int32} {a2 : Int32} {mm : Mm} {q : Int32 × Mm} (e : m_X12_layAll a1 a2 mm = some q) : CallOK l G M_X12_layAll yX12_layAll 3 [vr (some 44), vi a1, vi a2] S mm (some (vi q.1)) S q.2 := by
  refine call_of_run rfl rfl rfl (Nat.le_of_ble_eq_true rfl) ?_
  show Run l G M_X12_layAll 3 0 [some (vr (some 44)), some (vi a1), some (vi a2)] [] S mm (some (vi q.1)) S q.2
  unfold m_X12_layAll at e
  refine r_aload_n dX12_layAll_0 rfl ?_
  refine r_iload_n dX12_layAll_1 rfl ?_
  obtain ⟨q1, eq2, e⟩ := obind e
  refine r_callV (as := [_]) (rest := []) dX12_layAll_2 ml_X12_319 yV_X12_hasTerm (c_X12_hasTerm hS eq2) (by decide) rfl (lp_44 hS) (lq_44 hS) (Nat.le_of_ble_eq_true rfl) ?_
  refine r_if_eq (tgt := 20) dX12_layAll_5 rfl (fun h3 => ?_) (fun h3 => ?_)
  · replace e := ite_t h3 e
    refine r_iconst (v := 0) dX12_layAll_20 ci_0 ?_
    cases e
    exact r_ireturn dX12_layAll_21 rfl (nz_b (by first | exact Or.inl rfl | exact Or.inr rfl)).1
  · replace e := ite_f h3 e
    refine r_aload_n dX12_layAll_8 rfl ?_
    refine r_iload_n dX12_layAll_9 rfl ?_
    obtain ⟨q4, eq5, e⟩ := obind e
    refine r_callV (as := [_]) (rest := []) dX12_layAll_10 ml_X12_310 yV_X12_hand (c_X12_hand hS eq5) (by decide) rfl (lp_44 hS) (lq_44 hS) (Nat.le_of_ble_eq_true rfl) ?_
    refine r_if_eq (tgt := 20) dX12_layAll_13 rfl (fun h6 => ?_) (fun h6 => ?_)
    · replace e := ite_t h6 e
      refine r_iconst (v := 0) dX12_layAll_20 ci_0 ?_
      cases e
      exact r_ireturn dX12_layAll_21 rfl (nz_b (by first | exact Or.inl rfl | exact Or.inr rfl)).1
    · replace e := ite_f h6 e
      refine r_iconst (v := 1) dX12_layAll_16 ci_1 ?_
      refine r_goto (tgt := 21) dX12_layAll_17 rfl ?_
      cases e
      exact r_ireturn dX12_layAll_21 rfl (nz_b (by first | exact Or.inl rfl | exact Or.inr rfl)).1
def m_X12_stop (a1 : Int32) (a2 : Int32) (mm : Mm) : Option (Int32 × Mm) := (m_X12_layAll a1 a2 (sI mm 44 0 (0 : Int32))).bind (fun q1 => if q1.1 = 0 then (some ((-1 : Int32), q1.2)) else ((m_X12_deeds q1.2).bind (fun q4 => (m_X12_play q4 q1.2).bind (fun q6 => some (q6.1, q6.2)))))
set_option maxHeartbeats 4000000 in
set_option maxRecDepth 100000 in
theorem c_X12_stop {l : Launch} {G : Gt} {S : Sk} (hS : Lay S) {a1 : Int32} {a2 : Int32} {mm : Mm} {q : Int32 × Mm} (e : m_X12_stop a1 a2 mm = some q) : CallOK l G M_X12_stop yX12_stop 9 [vr (some 44), vi a1, vi a2] S mm (some (vi q.1)) S q.2 := by
  refine call_of_run rfl rfl rfl (Nat.le_of_ble_eq_true rfl) ?_
  show Run l G M_X12_stop 9 0 [some (vr (some 44)), some (vi a1), some (vi a2)] [] S mm (some (vi q.1)) S q.2
  unfold m_X12_stop at e
  refine r_aload_n dX12_stop_0 rfl ?_
  refine r_iconst (v := 0) dX12_stop_1 ci_0 ?_
  refine r_putI dX12_stop_2 fl_X12_90 ft_12_0 (Or.inl rfl) rfl rfl rfl (lp_44 hS) (lq_44 hS) ?_
  refine r_aload_n dX12_stop_5 rfl ?_
  refine r_iload_n dX12_stop_6 rfl ?_
  refine r_iload_n dX12_stop_7 rfl ?_
  obtain ⟨q1, eq2, e⟩ := obind e
  refine r_callV (as := [_, _]) (rest := []) dX12_stop_8 ml_X12_362 yV_X12_layAll (c_X12_layAll hS eq2) (by decide) rfl (lp_44 hS) (lq_44 hS) (Nat.le_of_ble_eq_true rfl) ?_
  refine r_if_eq (tgt := 25) dX12_stop_11 rfl (fun h3 => ?_) (fun h3 => ?_)
  · replace e := ite_t h3 e
    refine r_iconst (v := -1) dX12_stop_25 ci_m1 ?_
    cases e
    exact r_ireturn dX12_stop_26 rfl rfl
  · replace e := ite_f h3 e
    refine r_aload_n dX12_stop_14 rfl ?_
    refine r_aload_n dX12_stop_15 rfl ?_
    obtain ⟨q4, eq5, e⟩ := obind e
    refine r_callV (as := []) (rest := [_]) dX12_stop_16 ml_X12_322 yV_X12_deeds (c_X12_deeds hS eq5) (by decide) rfl (lp_44 hS) (lq_44 hS) (Nat.le_of_ble_eq_true rfl) ?_
    obtain ⟨q6, eq7, e⟩ := obind e
    refine r_callV (as := [_]) (rest := []) dX12_stop_19 ml_X12_365 yV_X12_play (c_X12_play hS eq7) (by decide) rfl (lp_44 hS) (lq_44 hS) (Nat.le_of_ble_eq_true rfl) ?_
    refine r_goto (tgt := 26) dX12_stop_22 rfl ?_
    cases e
    exact r_ireturn dX12_stop_26 rfl rfl
def m_X12_visitsTo_b4 (a1 : Int32) (mm : Mm) (z1 : Int32 × Int32) : Option ((Int32 × Int32) ⊕ (Int32)) := if (mI mm 44 24) ≤ z1.2 then (some (.inr z1.1)) else (grd (((6 : Int32) * z1.2) + a1) 36 (some (.inl (z1.1 + (mI mm 59 (ix (((6 : Int32) * z1.2) + a1))), z1.2 + (1 : Int32)))))
def m_X12_visitsTo (a1 : Int32) (mm : Mm) : Option (Int32) := (whileF FU (m_X12_visitsTo_b4 a1 mm) ((0 : Int32), (0 : Int32))).bind (fun p2 => some p2)
set_option maxHeartbeats 4000000 in
set_option maxRecDepth 100000 in
theorem c_X12_visitsTo {l : Launch} {G : Gt} {S : Sk} (hS : Lay S) {a1 : Int32} {mm : Mm} {q : Int32} (e : m_X12_visitsTo a1 mm = some q) : CallOK l G M_X12_visitsTo yX12_visitsTo 0 [vr (some 44), vi a1] S mm (some (vi q)) S mm := by
  refine call_of_run rfl rfl rfl (Nat.le_of_ble_eq_true rfl) ?_
  show Run l G M_X12_visitsTo 0 0 [some (vr (some 44)), some (vi a1), none, none] [] S mm (some (vi q)) S mm
  unfold m_X12_visitsTo at e
  refine r_iconst (v := 0) dX12_visitsTo_0 ci_0 ?_
  refine r_istore_n dX12_visitsTo_1 (by decide) rfl ?_
  refine r_iconst (v := 0) dX12_visitsTo_2 ci_0 ?_
  refine r_istore_n dX12_visitsTo_3 (by decide) rfl ?_
  obtain ⟨p2, eb6w, e⟩ := obind e
  have J3a : Run l G M_X12_visitsTo 0 32 [none, none, some (vi p2), none] [] S mm (some (vi q)) S mm := by
    refine r_iload_n dX12_visitsTo_32 rfl ?_
    cases e
    exact r_ireturn dX12_visitsTo_33 rfl rfl
  have J3 : ∀ pp : Int32, pp = p2 → Run l G M_X12_visitsTo 0 32 [none, none, some (vi pp), none] [] S mm (some (vi q)) S mm := by
    intro pp hpp
    rw [hpp]
    exact J3a
  have J3w : Run l G M_X12_visitsTo 0 4 [some (vr (some 44)), some (vi a1), some (vi (0 : Int32)), some (vi (0 : Int32))] [] S mm (some (vi q)) S mm := by
    refine while_run (s := ((0 : Int32), (0 : Int32))) (Gs := fun (z1 : Int32 × Int32) => Run l G M_X12_visitsTo 0 4 [some (vr (some 44)), some (vi a1), some (vi z1.1), some (vi z1.2)] [] S mm (some (vi q)) S mm) eb6w ?_
    intro z1 x4y eb6 hx5
    unfold m_X12_visitsTo_b4 at eb6
    refine r_iload_n dX12_visitsTo_4 rfl ?_
    refine r_aload_n dX12_visitsTo_5 rfl ?_
    refine r_getI dX12_visitsTo_6 fl_X12_283 rfl (lp_44 hS) (lq_44 hS) ?_
    refine r_icmp_ge (tgt := 32) dX12_visitsTo_9 rfl (fun h7 => ?_) (fun h7 => ?_)
    · replace eb6 := ite_t h7 eb6
      cases eb6
      exact r_weak (L' := [none, none, some (vi z1.1), none]) ⟨rfl, trivial⟩ (J3 _ hx5)
    · replace eb6 := ite_f h7 eb6
      refine r_iload_n dX12_visitsTo_12 rfl ?_
      refine r_aload_n dX12_visitsTo_13 rfl ?_
      refine r_getR dX12_visitsTo_14 fl_X12_53 rfl (lp_44 hS) (lq_44 hS) (lr_44_34 hS) ?_
      refine r_bipush (v := 6) dX12_visitsTo_17 cb_6 ?_
      refine r_iload_n dX12_visitsTo_19 rfl ?_
      refine r_imul dX12_visitsTo_20 ?_
      refine r_iload_n dX12_visitsTo_21 rfl ?_
      refine r_iadd dX12_visitsTo_22 ?_
      obtain ⟨hg8, eb6⟩ := grd_some eb6
      refine r_iald dX12_visitsTo_23 (lp_59 hS) (lk_59 hS) hg8 ?_
      refine r_iadd dX12_visitsTo_24 ?_
      refine r_istore_n dX12_visitsTo_25 (by decide) rfl ?_
      refine r_iinc (v := _ + (1 : Int32)) dX12_visitsTo_26 rfl (congrArg (_ + ·) ci_1) (by decide) rfl ?_
      refine r_goto (tgt := 4) dX12_visitsTo_29 rfl ?_
      cases eb6
      exact r_weak (L' := [some (vr (some 44)), some (vi a1), some (vi (z1.1 + (mI mm 59 (ix (((6 : Int32) * z1.2) + a1))))), some (vi (z1.2 + (1 : Int32)))]) ⟨rfl, rfl, rfl, rfl, trivial⟩ hx5
  exact r_weak (L' := [some (vr (some 44)), some (vi a1), some (vi (0 : Int32)), some (vi (0 : Int32))]) ⟨rfl, rfl, rfl, rfl, trivial⟩ J3w
def m_X12_ofState (a1 : Int32) (mm : Mm) : Option (Int32) := if (10 : Int32) ≤ a1 then ((m_X12_isOne (xrem a1 (10 : Int32)) mm).bind (fun q2 => if q2 = 0 then (some (-1 : Int32)) else (if (a1 / (10 : Int32)) = (1 : Int32) then (grd (xrem a1 (10 : Int32)) 6 (some (mI mm 56 (ix (xrem a1 (10 : Int32)))))) else (if (a1 / (10 : Int32)) = (2 : Int32) then ((m_X12_swornFor (xrem a1 (10 : Int32)) mm).bind (fun q8 => some q8)) else (if (a1 / (10 : Int32)) = (3 : Int32) then ((m_X12_keptBy (xrem a1 (10 : Int32)) mm).bind (fun q11 => some q11)) else (if (a1 / (10 : Int32)) = (4 : Int32) then (grd (xrem a1 (10 : Int32)) 6 (some (mI mm 58 (ix (xrem a1 (10 : Int32)))))) else (if (a1 / (10 : Int32)) = (5 : Int32) then ((m_X12_visitsTo (xrem a1 (10 : Int32)) mm).bind (fun q16 => some q16)) else (some (-1 : Int32))))))))) else (if a1 = (0 : Int32) then (some (mI mm 44 28)) else (if a1 = (1 : Int32) then (some (mI mm 44 29)) else (if a1 = (2 : Int32) then (some (mI mm 44 30)) else (if a1 = (3 : Int32) then (some (mI mm 44 27)) else (if a1 = (4 : Int32) then (some (mI mm 44 25)) else (some (-1 : Int32)))))))
set_option maxHeartbeats 4000000 in
set_option maxRecDepth 100000 in
theorem c_X12_ofState {l : Launch} {G : Gt} {S : Sk} (hS : Lay S) {a1 : Int32} {mm : Mm} {q : Int32} (e : m_X12_ofState a1 mm = some q) : CallOK l G M_X12_ofState yX12_ofState 4 [vr (some 44), vi a1] S mm (some (vi q)) S mm := by
  refine call_of_run rfl rfl rfl (Nat.le_of_ble_eq_true rfl) ?_
  show Run l G M_X12_ofState 4 0 [some (vr (some 44)), some (vi a1), none] [] S mm (some (vi q)) S mm
  unfold m_X12_ofState at e
  refine r_iload_n dX12_ofState_0 rfl ?_
  refine r_bipush (v := 10) dX12_ofState_1 cb_10 ?_
  refine r_irem dX12_ofState_3 (by decide) ?_
  refine r_istore_n dX12_ofState_4 (by decide) rfl ?_
  refine r_iload_n dX12_ofState_5 rfl ?_
  refine r_bipush (v := 10) dX12_ofState_6 cb_10 ?_
  refine r_icmp_ge (tgt := 75) dX12_ofState_8 rfl (fun h1 => ?_) (fun h1 => ?_)
  · replace e := ite_t h1 e
    refine r_aload_n dX12_ofState_75 rfl ?_
    refine r_iload_n dX12_ofState_76 rfl ?_
    obtain ⟨q2, eq3, e⟩ := obind e
    refine r_callV (as := [_]) (rest := []) dX12_ofState_77 ml_X12_289 yV_X12_isOne (c_X12_isOne hS eq3) (by decide) rfl (lp_44 hS) (lq_44 hS) (Nat.le_of_ble_eq_true rfl) ?_
    refine r_if_ne (tgt := 85) dX12_ofState_80 rfl (fun h4 => ?_) (fun h4 => ?_)
    · replace e := ite_f h4 e
      refine r_iload_n dX12_ofState_85 rfl ?_
      refine r_bipush (v := 10) dX12_ofState_86 cb_10 ?_
      refine r_idiv dX12_ofState_88 (by decide) ?_
      by_cases h5 : (a1 / (10 : Int32)) = (1 : Int32)
      · replace e := ite_t h5 e
        refine r_table_in (tgt := 124) dX12_ofState_89 (by rw [h5]; decide) (by rw [h5]; decide) (by rw [h5]; rfl) rfl ?_
        refine r_aload_n dX12_ofState_124 rfl ?_
        refine r_getR dX12_ofState_125 fl_X12_44 rfl (lp_44 hS) (lq_44 hS) (lr_44_31 hS) ?_
        refine r_iload_n dX12_ofState_128 rfl ?_
        obtain ⟨hg6, e⟩ := grd_some e
        refine r_iald dX12_ofState_129 (lp_56 hS) (lk_56 hS) hg6 ?_
        cases e
        exact r_ireturn dX12_ofState_130 rfl rfl
      replace e := ite_f h5 e
      by_cases h7 : (a1 / (10 : Int32)) = (2 : Int32)
      · replace e := ite_t h7 e
        refine r_table_in (tgt := 131) dX12_ofState_89 (by rw [h7]; decide) (by rw [h7]; decide) (by rw [h7]; rfl) rfl ?_
        refine r_aload_n dX12_ofState_131 rfl ?_
        refine r_iload_n dX12_ofState_132 rfl ?_
        obtain ⟨q8, eq9, e⟩ := obind e
        refine r_callV (as := [_]) (rest := []) dX12_ofState_133 ml_X12_368 yV_X12_swornFor (c_X12_swornFor hS eq9) (by decide) rfl (lp_44 hS) (lq_44 hS) (Nat.le_of_ble_eq_true rfl) ?_
        cases e
        exact r_ireturn dX12_ofState_136 rfl rfl
      replace e := ite_f h7 e
      by_cases h10 : (a1 / (10 : Int32)) = (3 : Int32)
      · replace e := ite_t h10 e
        refine r_table_in (tgt := 137) dX12_ofState_89 (by rw [h10]; decide) (by rw [h10]; decide) (by rw [h10]; rfl) rfl ?_
        refine r_aload_n dX12_ofState_137 rfl ?_
        refine r_iload_n dX12_ofState_138 rfl ?_
        obtain ⟨q11, eq12, e⟩ := obind e
        refine r_callV (as := [_]) (rest := []) dX12_ofState_139 ml_X12_307 yV_X12_keptBy (c_X12_keptBy hS eq12) (by decide) rfl (lp_44 hS) (lq_44 hS) (Nat.le_of_ble_eq_true rfl) ?_
        cases e
        exact r_ireturn dX12_ofState_142 rfl rfl
      replace e := ite_f h10 e
      by_cases h13 : (a1 / (10 : Int32)) = (4 : Int32)
      · replace e := ite_t h13 e
        refine r_table_in (tgt := 143) dX12_ofState_89 (by rw [h13]; decide) (by rw [h13]; decide) (by rw [h13]; rfl) rfl ?_
        refine r_aload_n dX12_ofState_143 rfl ?_
        refine r_getR dX12_ofState_144 fl_X12_50 rfl (lp_44 hS) (lq_44 hS) (lr_44_33 hS) ?_
        refine r_iload_n dX12_ofState_147 rfl ?_
        obtain ⟨hg14, e⟩ := grd_some e
        refine r_iald dX12_ofState_148 (lp_58 hS) (lk_58 hS) hg14 ?_
        cases e
        exact r_ireturn dX12_ofState_149 rfl rfl
      replace e := ite_f h13 e
      by_cases h15 : (a1 / (10 : Int32)) = (5 : Int32)
      · replace e := ite_t h15 e
        refine r_table_in (tgt := 150) dX12_ofState_89 (by rw [h15]; decide) (by rw [h15]; decide) (by rw [h15]; rfl) rfl ?_
        refine r_aload_n dX12_ofState_150 rfl ?_
        refine r_iload_n dX12_ofState_151 rfl ?_
        obtain ⟨q16, eq17, e⟩ := obind e
        refine r_callV (as := [_]) (rest := []) dX12_ofState_152 ml_X12_371 yV_X12_visitsTo (c_X12_visitsTo hS eq17) (by decide) rfl (lp_44 hS) (lq_44 hS) (Nat.le_of_ble_eq_true rfl) ?_
        cases e
        exact r_ireturn dX12_ofState_155 rfl rfl
      replace e := ite_f h15 e
      have ho89 : (a1 / (10 : Int32)).toInt < 1 ∨ 5 < (a1 / (10 : Int32)).toInt := by
        have nh5 := lv_neT (a := 1) h5 (by decide)
        have nh7 := lv_neT (a := 2) h7 (by decide)
        have nh10 := lv_neT (a := 3) h10 (by decide)
        have nh13 := lv_neT (a := 4) h13 (by decide)
        have nh15 := lv_neT (a := 5) h15 (by decide)
        omega
      refine r_table_out (tgt := 156) dX12_ofState_89 ho89 rfl ?_
      refine r_iconst (v := -1) dX12_ofState_156 ci_m1 ?_
      cases e
      exact r_ireturn dX12_ofState_157 rfl rfl
    · replace e := ite_t h4 e
      refine r_iconst (v := -1) dX12_ofState_83 ci_m1 ?_
      cases e
      exact r_ireturn dX12_ofState_84 rfl rfl
  · replace e := ite_f h1 e
    refine r_iload_n dX12_ofState_11 rfl ?_
    by_cases h18 : a1 = (0 : Int32)
    · replace e := ite_t h18 e
      refine r_table_in (tgt := 48) dX12_ofState_12 (by rw [h18]; decide) (by rw [h18]; decide) (by rw [h18]; rfl) rfl ?_
      refine r_aload_n dX12_ofState_48 rfl ?_
      refine r_getI dX12_ofState_49 fl_X12_267 rfl (lp_44 hS) (lq_44 hS) ?_
      cases e
      exact r_ireturn dX12_ofState_52 rfl rfl
    replace e := ite_f h18 e
    by_cases h19 : a1 = (1 : Int32)
    · replace e := ite_t h19 e
      refine r_table_in (tgt := 53) dX12_ofState_12 (by rw [h19]; decide) (by rw [h19]; decide) (by rw [h19]; rfl) rfl ?_
      refine r_aload_n dX12_ofState_53 rfl ?_
      refine r_getI dX12_ofState_54 fl_X12_270 rfl (lp_44 hS) (lq_44 hS) ?_
      cases e
      exact r_ireturn dX12_ofState_57 rfl rfl
    replace e := ite_f h19 e
    by_cases h20 : a1 = (2 : Int32)
    · replace e := ite_t h20 e
      refine r_table_in (tgt := 58) dX12_ofState_12 (by rw [h20]; decide) (by rw [h20]; decide) (by rw [h20]; rfl) rfl ?_
      refine r_aload_n dX12_ofState_58 rfl ?_
      refine r_getI dX12_ofState_59 fl_X12_273 rfl (lp_44 hS) (lq_44 hS) ?_
      cases e
      exact r_ireturn dX12_ofState_62 rfl rfl
    replace e := ite_f h20 e
    by_cases h21 : a1 = (3 : Int32)
    · replace e := ite_t h21 e
      refine r_table_in (tgt := 63) dX12_ofState_12 (by rw [h21]; decide) (by rw [h21]; decide) (by rw [h21]; rfl) rfl ?_
      refine r_aload_n dX12_ofState_63 rfl ?_
      refine r_getI dX12_ofState_64 fl_X12_264 rfl (lp_44 hS) (lq_44 hS) ?_
      cases e
      exact r_ireturn dX12_ofState_67 rfl rfl
    replace e := ite_f h21 e
    by_cases h22 : a1 = (4 : Int32)
    · replace e := ite_t h22 e
      refine r_table_in (tgt := 68) dX12_ofState_12 (by rw [h22]; decide) (by rw [h22]; decide) (by rw [h22]; rfl) rfl ?_
      refine r_aload_n dX12_ofState_68 rfl ?_
      refine r_getI dX12_ofState_69 fl_X12_280 rfl (lp_44 hS) (lq_44 hS) ?_
      cases e
      exact r_ireturn dX12_ofState_72 rfl rfl
    replace e := ite_f h22 e
    have ho12 : (a1).toInt < 0 ∨ 4 < (a1).toInt := by
      have nh18 := lv_neT (a := 0) h18 (by decide)
      have nh19 := lv_neT (a := 1) h19 (by decide)
      have nh20 := lv_neT (a := 2) h20 (by decide)
      have nh21 := lv_neT (a := 3) h21 (by decide)
      have nh22 := lv_neT (a := 4) h22 (by decide)
      omega
    refine r_table_out (tgt := 73) dX12_ofState_12 ho12 rfl ?_
    refine r_iconst (v := -1) dX12_ofState_73 ci_m1 ?_
    cases e
    exact r_ireturn dX12_ofState_74 rfl rfl
