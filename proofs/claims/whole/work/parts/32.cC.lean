noncomputable def m_X4_add (a1 : Int32) (a2 : Int32) (a3 : Int32) (mm : Mm) : Option (Mm) := if (50 : Int32) ≤ (mI mm 40 0) then (some mm) else (grd (mI mm 40 0) 50 (grd (mI (sI mm 41 (ix (mI mm 40 0)) a1) 40 0) 50 (grd (mI (sI (sI mm 41 (ix (mI mm 40 0)) a1) 42 (ix (mI (sI mm 41 (ix (mI mm 40 0)) a1) 40 0)) a2) 40 0) 50 (some (sI (sI (sI (sI mm 41 (ix (mI mm 40 0)) a1) 42 (ix (mI (sI mm 41 (ix (mI mm 40 0)) a1) 40 0)) a2) 43 (ix (mI (sI (sI mm 41 (ix (mI mm 40 0)) a1) 42 (ix (mI (sI mm 41 (ix (mI mm 40 0)) a1) 40 0)) a2) 40 0)) a3) 40 0 ((mI (sI (sI (sI mm 41 (ix (mI mm 40 0)) a1) 42 (ix (mI (sI mm 41 (ix (mI mm 40 0)) a1) 40 0)) a2) 43 (ix (mI (sI (sI mm 41 (ix (mI mm 40 0)) a1) 42 (ix (mI (sI mm 41 (ix (mI mm 40 0)) a1) 40 0)) a2) 40 0)) a3) 40 0) + (1 : Int32)))))))
set_option maxHeartbeats 4000000 in
set_option maxRecDepth 100000 in
theorem c_X4_add {l : Launch} {G : Gt} {S : Sk} {a1 : Int32} {a2 : Int32} {a3 : Int32} {mm : Mm} (hS : Lay S) {q : Mm} (e : m_X4_add a1 a2 a3 mm = some q) : CallOK l G M_X4_add yX4_add 0 [vr (some 40), vi a1, vi a2, vi a3] S mm (none) S q := by
  refine call_of_run rfl rfl rfl (Nat.le_of_ble_eq_true rfl) ?_
  show Run l G M_X4_add 0 0 [some (vr (some 40)), some (vi a1), some (vi a2), some (vi a3)] [] S mm (none) S q
  unfold m_X4_add at e
  refine r_aload_n dX4_add_0 rfl ?_
  refine r_getI dX4_add_1 fl_X4_9 rfl (lp_40 hS) (lq_40 hS) ?_
  refine r_bipush (v := 50) dX4_add_4 cb_50 ?_
  refine r_icmp_ge (tgt := 49) dX4_add_6 rfl (fun h1 => ?_) (fun h1 => ?_)
  · replace e := ite_t h1 e
    cases e
    exact r_return dX4_add_49 rfl
  · replace e := ite_f h1 e
    refine r_aload_n dX4_add_9 rfl ?_
    refine r_getR dX4_add_10 fl_X4_15 rfl (lp_40 hS) (lq_40 hS) (lr_40_1 hS) ?_
    refine r_aload_n dX4_add_13 rfl ?_
    refine r_getI dX4_add_14 fl_X4_9 rfl (lp_40 hS) (lq_40 hS) ?_
    refine r_iload_n dX4_add_17 rfl ?_
    obtain ⟨hg2, e⟩ := grd_some e
    refine r_iast dX4_add_18 (lp_41 hS) (lk_41 hS) hg2 ?_
    refine r_aload_n dX4_add_19 rfl ?_
    refine r_getR dX4_add_20 fl_X4_19 rfl (lp_40 hS) (lq_40 hS) (lr_40_2 hS) ?_
    refine r_aload_n dX4_add_23 rfl ?_
    refine r_getI dX4_add_24 fl_X4_9 rfl (lp_40 hS) (lq_40 hS) ?_
    refine r_iload_n dX4_add_27 rfl ?_
    obtain ⟨hg3, e⟩ := grd_some e
    refine r_iast dX4_add_28 (lp_42 hS) (lk_42 hS) hg3 ?_
    refine r_aload_n dX4_add_29 rfl ?_
    refine r_getR dX4_add_30 fl_X4_22 rfl (lp_40 hS) (lq_40 hS) (lr_40_3 hS) ?_
    refine r_aload_n dX4_add_33 rfl ?_
    refine r_getI dX4_add_34 fl_X4_9 rfl (lp_40 hS) (lq_40 hS) ?_
    refine r_iload_n dX4_add_37 rfl ?_
    obtain ⟨hg4, e⟩ := grd_some e
    refine r_iast dX4_add_38 (lp_43 hS) (lk_43 hS) hg4 ?_
    refine r_aload_n dX4_add_39 rfl ?_
    refine r_dup dX4_add_40 rfl ?_
    refine r_getI dX4_add_41 fl_X4_9 rfl (lp_40 hS) (lq_40 hS) ?_
    refine r_iconst (v := 1) dX4_add_44 ci_1 ?_
    refine r_iadd dX4_add_45 ?_
    refine r_putI dX4_add_46 fl_X4_9 ft_4_0 (Or.inl rfl) rfl rfl rfl (lp_40 hS) (lq_40 hS) ?_
    cases e
    exact r_return dX4_add_49 rfl
noncomputable def m_X4_learn_b60 (q4 : Int32) (q6 : Int32) (z8 : Int32 × Mm) (q16 : Int32) (z18 : Int32 × Mm) : Option ((Int32 × Mm) ⊕ (Mm)) := if (4 : Int32) < z18.1 then (some (.inr z18.2)) else ((m_X7_keptOf q16 z18.1 z18.2).bind (fun q25 => (if (q4 &&& (q25 ^^^ (-1 : Int32))) = 0 then (if (q6 &&& q25) = 0 then ((m_X4_add z8.1 z18.1 q25 z18.2).bind (fun q33 => some q33)) else (some z18.2)) else (some z18.2) : Option (Mm)).bind (fun p27 => some (.inl (z18.1 + (1 : Int32), p27)))))
noncomputable def m_X4_learn_b34 (a3 : Int32) (q4 : Int32) (q6 : Int32) (z8 : Int32 × Mm) : Option ((Int32 × Mm) ⊕ (Mm)) := if (9 : Int32) < z8.1 then (some (.inr z8.2)) else (grd a3 6 ((m_X7_openTo a3 (0 : Int32) (sI z8.2 15 (ix a3) z8.1)).bind (fun q16 => (whileF FU (m_X4_learn_b60 q4 q6 z8 q16) ((0 : Int32), (sI z8.2 15 (ix a3) z8.1))).bind (fun p19 => some (.inl (z8.1 + (1 : Int32), p19))))))
noncomputable def m_X4_learn (S : Sk) (a2 : Nat) (a3 : Int32) (mm : Mm) : Option (Mm) := (m_X4_othersAreSo S a2 a3 (sI mm 40 0 (0 : Int32))).bind (fun q1 => if q1 = 0 then (some (sI mm 40 0 (0 : Int32))) else ((m_X4_thingsTold S a2 a3 (1 : Int32) (sI mm 40 0 (0 : Int32))).bind (fun q4 => (m_X4_thingsTold S a2 a3 (0 : Int32) (sI mm 40 0 (0 : Int32))).bind (fun q6 => (whileF FU (m_X4_learn_b34 a3 q4 q6) ((0 : Int32), (sI mm 40 0 (0 : Int32)))).bind (fun p9 => some p9)))))
set_option maxHeartbeats 4000000 in
set_option maxRecDepth 100000 in
theorem c_X4_learn {l : Launch} {G : Gt} {S : Sk} {a2 : Nat} {a3 : Int32} {mm : Mm} (hI : SI S) (ha2 : KD S a2 6) {q : Mm} (e : m_X4_learn S a2 a3 mm = some q) : CallOK l G M_X4_learn yX4_learn 4 [vr (some 40), vr (some 14), vr (some a2), vi a3] S mm (none) S q := by
  have hS := hI.1
  refine call_of_run rfl rfl rfl (Nat.le_of_ble_eq_true rfl) ?_
  show Run l G M_X4_learn 4 0 [some (vr (some 40)), some (vr (some 14)), some (vr (some a2)), some (vi a3), none, none, none, none, none, none] [] S mm (none) S q
  unfold m_X4_learn at e
  refine r_aload_n dX4_learn_0 rfl ?_
  refine r_iconst (v := 0) dX4_learn_1 ci_0 ?_
  refine r_putI dX4_learn_2 fl_X4_9 ft_4_0 (Or.inl rfl) rfl rfl rfl (lp_40 hS) (lq_40 hS) ?_
  refine r_aload_n dX4_learn_5 rfl ?_
  refine r_aload_n dX4_learn_6 rfl ?_
  refine r_iload_n dX4_learn_7 rfl ?_
  obtain ⟨q1, eq2, e⟩ := obind e
  refine r_callS (as := [_, _, _]) (rest := []) dX4_learn_8 ml_X4_25 yS_X4_othersAreSo (c_X4_othersAreSo hI ha2 eq2) (by decide) rfl (Nat.le_of_ble_eq_true rfl) ?_
  refine r_if_ne (tgt := 15) dX4_learn_11 rfl (fun h3 => ?_) (fun h3 => ?_)
  · replace e := ite_f h3 e
    refine r_aload_n dX4_learn_15 rfl ?_
    refine r_iload_n dX4_learn_16 rfl ?_
    refine r_iconst (v := 1) dX4_learn_17 ci_1 ?_
    obtain ⟨q4, eq5, e⟩ := obind e
    refine r_callS (as := [_, _, _]) (rest := []) dX4_learn_18 ml_X4_29 yS_X4_thingsTold (c_X4_thingsTold hI ha2 eq5) (by decide) rfl (Nat.le_of_ble_eq_true rfl) ?_
    refine r_istore dX4_learn_21 (by decide) rfl ?_
    refine r_aload_n dX4_learn_23 rfl ?_
    refine r_iload_n dX4_learn_24 rfl ?_
    refine r_iconst (v := 0) dX4_learn_25 ci_0 ?_
    obtain ⟨q6, eq7, e⟩ := obind e
    refine r_callS (as := [_, _, _]) (rest := []) dX4_learn_26 ml_X4_29 yS_X4_thingsTold (c_X4_thingsTold hI ha2 eq7) (by decide) rfl (Nat.le_of_ble_eq_true rfl) ?_
    refine r_istore dX4_learn_29 (by decide) rfl ?_
    refine r_iconst (v := 0) dX4_learn_31 ci_0 ?_
    refine r_istore dX4_learn_32 (by decide) rfl ?_
    obtain ⟨p9, eb13w, e⟩ := obind e
    have J10a : Run l G M_X4_learn 4 116 [none, none, none, none, none, none, none, none, none, none] [] S p9 (none) S q := by
      cases e
      exact r_return dX4_learn_116 rfl
    have J10 : ∀ pp : Mm, pp = p9 → Run l G M_X4_learn 4 116 [none, none, none, none, none, none, none, none, none, none] [] S pp (none) S q := by
      intro pp hpp
      rw [hpp]
      exact J10a
    have J10w : Run l G M_X4_learn 4 34 [some (vr (some 40)), some (vr (some 14)), none, some (vi a3), some (vi q4), some (vi q6), some (vi (0 : Int32)), none, none, none] [] S (sI mm 40 0 (0 : Int32)) (none) S q := by
      refine while_run (s := ((0 : Int32), (sI mm 40 0 (0 : Int32)))) (Gs := fun (z8 : Int32 × Mm) => Run l G M_X4_learn 4 34 [some (vr (some 40)), some (vr (some 14)), none, some (vi a3), some (vi q4), some (vi q6), some (vi z8.1), none, none, none] [] S z8.2 (none) S q) eb13w ?_
      intro z8 x11y eb13 hx12
      unfold m_X4_learn_b34 at eb13
      refine r_iload dX4_learn_34 rfl ?_
      refine r_bipush (v := 9) dX4_learn_36 cb_9 ?_
      refine r_icmp_gt (tgt := 116) dX4_learn_38 rfl (fun h14 => ?_) (fun h14 => ?_)
      · replace eb13 := ite_t h14 eb13
        cases eb13
        exact r_weak (L' := [none, none, none, none, none, none, none, none, none, none]) trivial (J10 _ hx12)
      · replace eb13 := ite_f h14 eb13
        refine r_aload_n dX4_learn_41 rfl ?_
        refine r_getR dX4_learn_42 fl_X4_33 rfl (lp_14 hS) (lq_14 hS) (lr_14_2 hS) ?_
        refine r_iload_n dX4_learn_45 rfl ?_
        refine r_iload dX4_learn_46 rfl ?_
        obtain ⟨hg15, eb13⟩ := grd_some eb13
        refine r_iast dX4_learn_48 (lp_15 hS) (lk_15 hS) hg15 ?_
        refine r_aload_n dX4_learn_49 rfl ?_
        refine r_iload_n dX4_learn_50 rfl ?_
        refine r_iconst (v := 0) dX4_learn_51 ci_0 ?_
        obtain ⟨q16, eq17, eb13⟩ := obind eb13
        refine r_callV (as := [_, _]) (rest := []) dX4_learn_52 ml_X4_36 yV_X7_openTo (c_X7_openTo hS eq17) (by decide) rfl (lp_14 hS) (lq_14 hS) (Nat.le_of_ble_eq_true rfl) ?_
        refine r_istore dX4_learn_55 (by decide) rfl ?_
        refine r_iconst (v := 0) dX4_learn_57 ci_0 ?_
        refine r_istore dX4_learn_58 (by decide) rfl ?_
        obtain ⟨p19, eb23w, eb13⟩ := obind eb13
        have J20a : Run l G M_X4_learn 4 110 [some (vr (some 40)), some (vr (some 14)), none, some (vi a3), some (vi q4), some (vi q6), some (vi z8.1), none, none, none] [] S p19 (none) S q := by
          refine r_iinc (v := _ + (1 : Int32)) dX4_learn_110 rfl (congrArg (_ + ·) ci_1) (by decide) rfl ?_
          refine r_goto (tgt := 34) dX4_learn_113 rfl ?_
          cases eb13
          exact r_weak (L' := [some (vr (some 40)), some (vr (some 14)), none, some (vi a3), some (vi q4), some (vi q6), some (vi (z8.1 + (1 : Int32))), none, none, none]) ⟨rfl, rfl, rfl, rfl, rfl, rfl, trivial⟩ hx12
        have J20 : ∀ pp : Mm, pp = p19 → Run l G M_X4_learn 4 110 [some (vr (some 40)), some (vr (some 14)), none, some (vi a3), some (vi q4), some (vi q6), some (vi z8.1), none, none, none] [] S pp (none) S q := by
          intro pp hpp
          rw [hpp]
          exact J20a
        have J20w : Run l G M_X4_learn 4 60 [some (vr (some 40)), some (vr (some 14)), none, some (vi a3), some (vi q4), some (vi q6), some (vi z8.1), some (vi q16), some (vi (0 : Int32)), none] [] S (sI z8.2 15 (ix a3) z8.1) (none) S q := by
          refine while_run (s := ((0 : Int32), (sI z8.2 15 (ix a3) z8.1))) (Gs := fun (z18 : Int32 × Mm) => Run l G M_X4_learn 4 60 [some (vr (some 40)), some (vr (some 14)), none, some (vi a3), some (vi q4), some (vi q6), some (vi z8.1), some (vi q16), some (vi z18.1), none] [] S z18.2 (none) S q) eb23w ?_
          intro z18 x21y eb23 hx22
          unfold m_X4_learn_b60 at eb23
          refine r_iload dX4_learn_60 rfl ?_
          refine r_iconst (v := 4) dX4_learn_62 ci_4 ?_
          refine r_icmp_gt (tgt := 110) dX4_learn_63 rfl (fun h24 => ?_) (fun h24 => ?_)
          · replace eb23 := ite_t h24 eb23
            cases eb23
            exact r_weak (L' := [some (vr (some 40)), some (vr (some 14)), none, some (vi a3), some (vi q4), some (vi q6), some (vi z8.1), none, none, none]) ⟨rfl, rfl, rfl, rfl, rfl, rfl, trivial⟩ (J20 _ hx22)
          · replace eb23 := ite_f h24 eb23
            refine r_aload_n dX4_learn_66 rfl ?_
            refine r_iload dX4_learn_67 rfl ?_
            refine r_iload dX4_learn_69 rfl ?_
            obtain ⟨q25, eq26, eb23⟩ := obind eb23
            refine r_callV (as := [_, _]) (rest := []) dX4_learn_71 ml_X4_40 yV_X7_keptOf (c_X7_keptOf hS eq26) (by decide) rfl (lp_14 hS) (lq_14 hS) (Nat.le_of_ble_eq_true rfl) ?_
            refine r_istore dX4_learn_74 (by decide) rfl ?_
            refine r_iload dX4_learn_76 rfl ?_
            refine r_iload dX4_learn_78 rfl ?_
            refine r_iconst (v := -1) dX4_learn_80 ci_m1 ?_
            refine r_ixor dX4_learn_81 ?_
            refine r_iand dX4_learn_82 ?_
            obtain ⟨p27, ep29, eb23⟩ := obind eb23
            have J28a : Run l G M_X4_learn 4 104 [some (vr (some 40)), some (vr (some 14)), none, some (vi a3), some (vi q4), some (vi q6), some (vi z8.1), some (vi q16), some (vi z18.1), none] [] S p27 (none) S q := by
              refine r_iinc (v := _ + (1 : Int32)) dX4_learn_104 rfl (congrArg (_ + ·) ci_1) (by decide) rfl ?_
              refine r_goto (tgt := 60) dX4_learn_107 rfl ?_
              cases eb23
              exact r_weak (L' := [some (vr (some 40)), some (vr (some 14)), none, some (vi a3), some (vi q4), some (vi q6), some (vi z8.1), some (vi q16), some (vi (z18.1 + (1 : Int32))), none]) ⟨rfl, rfl, rfl, rfl, rfl, rfl, rfl, rfl, trivial⟩ hx22
            have J28 : ∀ pp : Mm, pp = p27 → Run l G M_X4_learn 4 104 [some (vr (some 40)), some (vr (some 14)), none, some (vi a3), some (vi q4), some (vi q6), some (vi z8.1), some (vi q16), some (vi z18.1), none] [] S pp (none) S q := by
              intro pp hpp
              rw [hpp]
              exact J28a
            refine r_if_ne (tgt := 104) dX4_learn_83 rfl (fun h31 => ?_) (fun h31 => ?_)
            · replace ep29 := ite_f h31 ep29
              exact r_weak (L' := [some (vr (some 40)), some (vr (some 14)), none, some (vi a3), some (vi q4), some (vi q6), some (vi z8.1), some (vi q16), some (vi z18.1), none]) ⟨rfl, rfl, rfl, rfl, rfl, rfl, rfl, rfl, trivial⟩ (J28 _ (Option.some.inj ep29))
            · replace ep29 := ite_t h31 ep29
              refine r_iload dX4_learn_86 rfl ?_
              refine r_iload dX4_learn_88 rfl ?_
              refine r_iand dX4_learn_90 ?_
              refine r_if_ne (tgt := 104) dX4_learn_91 rfl (fun h32 => ?_) (fun h32 => ?_)
              · replace ep29 := ite_f h32 ep29
                exact r_weak (L' := [some (vr (some 40)), some (vr (some 14)), none, some (vi a3), some (vi q4), some (vi q6), some (vi z8.1), some (vi q16), some (vi z18.1), none]) ⟨rfl, rfl, rfl, rfl, rfl, rfl, rfl, rfl, trivial⟩ (J28 _ (Option.some.inj ep29))
              · replace ep29 := ite_t h32 ep29
                refine r_aload_n dX4_learn_94 rfl ?_
                refine r_iload dX4_learn_95 rfl ?_
                refine r_iload dX4_learn_97 rfl ?_
                refine r_iload dX4_learn_99 rfl ?_
                obtain ⟨q33, eq34, ep29⟩ := obind ep29
                refine r_callV (as := [_, _, _]) (rest := []) dX4_learn_101 ml_X4_43 yV_X4_add (c_X4_add hS eq34) (by decide) rfl (lp_40 hS) (lq_40 hS) (Nat.le_of_ble_eq_true rfl) ?_
                exact r_weak (L' := [some (vr (some 40)), some (vr (some 14)), none, some (vi a3), some (vi q4), some (vi q6), some (vi z8.1), some (vi q16), some (vi z18.1), none]) ⟨rfl, rfl, rfl, rfl, rfl, rfl, rfl, rfl, trivial⟩ (J28 _ (Option.some.inj ep29))
        exact r_weak (L' := [some (vr (some 40)), some (vr (some 14)), none, some (vi a3), some (vi q4), some (vi q6), some (vi z8.1), some (vi q16), some (vi (0 : Int32)), none]) ⟨rfl, rfl, rfl, rfl, rfl, rfl, rfl, rfl, trivial⟩ J20w
    exact r_weak (L' := [some (vr (some 40)), some (vr (some 14)), none, some (vi a3), some (vi q4), some (vi q6), some (vi (0 : Int32)), none, none, none]) ⟨rfl, rfl, rfl, rfl, rfl, rfl, trivial⟩ J10w
  · replace e := ite_t h3 e
    cases e
    exact r_return dX4_learn_14 rfl
noncomputable def m_X4_sure_b2 (a1 : Nat) (mm : Mm) (S : Sk) (z1 : Int32) : Option ((Int32) ⊕ ((Unit) ⊕ (Int32))) := if (mI mm 40 0) ≤ z1 then (some (.inr (.inl ()))) else (grd z1 ((sK S a1).2) (grd (0 : Int32) ((sK S a1).2) (if (mI mm a1 (ix z1)) = (mI mm a1 (ix (0 : Int32))) then (some (.inl (z1 + (1 : Int32)))) else (some (.inr (.inr (-1 : Int32)))))))
noncomputable def m_X4_sure (S : Sk) (a1 : Nat) (mm : Mm) : Option (Int32) := bS (whileF FU (m_X4_sure_b2 a1 mm S) (1 : Int32)) (fun p2 => if (mI mm 40 0) = 0 then (some (-1 : Int32)) else (grd (0 : Int32) ((sK S a1).2) (some (mI mm a1 (ix (0 : Int32))))))
set_option maxHeartbeats 4000000 in
set_option maxRecDepth 100000 in
theorem c_X4_sure {l : Launch} {G : Gt} {S : Sk} {a1 : Nat} {mm : Mm} (hS : Lay S) (ha1 : KD S a1 20) {q : Int32} (e : m_X4_sure S a1 mm = some q) : CallOK l G M_X4_sure yX4_sure 0 [vr (some 40), vr (some a1)] S mm (some (vi q)) S mm := by
  refine call_of_run rfl rfl rfl (Nat.le_of_ble_eq_true rfl) ?_
  show Run l G M_X4_sure 0 0 [some (vr (some 40)), some (vr (some a1)), none] [] S mm (some (vi q)) S mm
  unfold m_X4_sure at e
  refine r_iconst (v := 1) dX4_sure_0 ci_1 ?_
  refine r_istore_n dX4_sure_1 (by decide) rfl ?_
  obtain ⟨x4, eb6w, elx4, erx4⟩ := bS_some e
  have J3 : ∀ p2 : Unit, x4 = .inl p2 → Run l G M_X4_sure 0 27 [some (vr (some 40)), some (vr (some a1)), none] [] S mm (some (vi q)) S mm := by
    intro p2 hp2
    replace e := elx4 p2 hp2
    refine r_aload_n dX4_sure_27 rfl ?_
    refine r_getI dX4_sure_28 fl_X4_9 rfl (lp_40 hS) (lq_40 hS) ?_
    refine r_if_ne (tgt := 38) dX4_sure_31 rfl (fun h11 => ?_) (fun h11 => ?_)
    · replace e := ite_f h11 e
      refine r_aload_n dX4_sure_38 rfl ?_
      refine r_iconst (v := 0) dX4_sure_39 ci_0 ?_
      obtain ⟨hg12, e⟩ := grd_some e
      refine r_iald dX4_sure_40 ha1.1 (arr_k ha1) hg12 ?_
      cases e
      exact r_ireturn dX4_sure_41 rfl rfl
    · replace e := ite_t h11 e
      refine r_iconst (v := -1) dX4_sure_34 ci_m1 ?_
      refine r_goto (tgt := 41) dX4_sure_35 rfl ?_
      cases e
      exact r_ireturn dX4_sure_41 rfl rfl
  have J3w : Run l G M_X4_sure 0 2 [some (vr (some 40)), some (vr (some a1)), some (vi (1 : Int32))] [] S mm (some (vi q)) S mm := by
    refine while_run (s := (1 : Int32)) (Gs := fun (z1 : Int32) => Run l G M_X4_sure 0 2 [some (vr (some 40)), some (vr (some a1)), some (vi z1)] [] S mm (some (vi q)) S mm) eb6w ?_
    intro z1 x4y eb6 hx5
    unfold m_X4_sure_b2 at eb6
    refine r_iload_n dX4_sure_2 rfl ?_
    refine r_aload_n dX4_sure_3 rfl ?_
    refine r_getI dX4_sure_4 fl_X4_9 rfl (lp_40 hS) (lq_40 hS) ?_
    refine r_icmp_ge (tgt := 27) dX4_sure_7 rfl (fun h7 => ?_) (fun h7 => ?_)
    · replace eb6 := ite_t h7 eb6
      cases eb6
      exact r_weak (L' := [some (vr (some 40)), some (vr (some a1)), none]) ⟨rfl, rfl, trivial⟩ (J3 _ (Eq.symm hx5))
    · replace eb6 := ite_f h7 eb6
      refine r_aload_n dX4_sure_10 rfl ?_
      refine r_iload_n dX4_sure_11 rfl ?_
      obtain ⟨hg8, eb6⟩ := grd_some eb6
      refine r_iald dX4_sure_12 ha1.1 (arr_k ha1) hg8 ?_
      refine r_aload_n dX4_sure_13 rfl ?_
      refine r_iconst (v := 0) dX4_sure_14 ci_0 ?_
      obtain ⟨hg9, eb6⟩ := grd_some eb6
      refine r_iald dX4_sure_15 ha1.1 (arr_k ha1) hg9 ?_
      refine r_icmp_eq (tgt := 21) dX4_sure_16 rfl (fun h10 => ?_) (fun h10 => ?_)
      · replace eb6 := ite_t h10 eb6
        refine r_iinc (v := _ + (1 : Int32)) dX4_sure_21 rfl (congrArg (_ + ·) ci_1) (by decide) rfl ?_
        refine r_goto (tgt := 2) dX4_sure_24 rfl ?_
        cases eb6
        exact r_weak (L' := [some (vr (some 40)), some (vr (some a1)), some (vi (z1 + (1 : Int32)))]) ⟨rfl, rfl, rfl, trivial⟩ hx5
      · replace eb6 := ite_f h10 eb6
        refine r_iconst (v := -1) dX4_sure_19 ci_m1 ?_
        cases eb6
        have e := congrArg some (erx4 _ (Eq.symm hx5))
        cases e
        exact r_ireturn dX4_sure_20 rfl rfl
  exact r_weak (L' := [some (vr (some 40)), some (vr (some a1)), some (vi (1 : Int32))]) ⟨rfl, rfl, rfl, trivial⟩ J3w
noncomputable def m_X4_ask_b28 (mm : Mm) (z1 : Int32 × Int32 × Int32) (z9 : Int32 × Int32) : Option ((Int32 × Int32) ⊕ (Int32)) := if (mI mm 40 0) ≤ z9.2 then (some (.inr z9.1)) else (grd z9.2 50 (some (.inl (z9.1 + ((xshr (mI mm 43 (ix z9.2)) z1.2.2) &&& (1 : Int32)), z9.2 + (1 : Int32)))))
noncomputable def m_X4_ask_b9 (mm : Mm) (z1 : Int32 × Int32 × Int32) : Option ((Int32 × Int32 × Int32) ⊕ (Int32)) := if (8 : Int32) ≤ z1.2.2 then (some (.inr z1.1)) else (if (mI mm 40 0) ≤ 0 then (some (.inr z1.1)) else ((whileF FU (m_X4_ask_b28 mm z1) ((0 : Int32), (0 : Int32))).bind (fun p10 => some (.inl ((if z1.1 = (-1 : Int32) then z1.2.2 else (if z1.2.1 ≤ (xmax p10 ((mI mm 40 0) - p10)) then z1.1 else z1.2.2)), (if z1.1 = (-1 : Int32) then xmax p10 ((mI mm 40 0) - p10) else (if z1.2.1 ≤ (xmax p10 ((mI mm 40 0) - p10)) then z1.2.1 else xmax p10 ((mI mm 40 0) - p10))), z1.2.2 + (1 : Int32))))))
noncomputable def m_X4_ask (mm : Mm) : Option (Int32) := (whileF FU (m_X4_ask_b9 mm) ((-1 : Int32), mI mm 40 0, (0 : Int32))).bind (fun p2 => some p2)
set_option maxHeartbeats 4000000 in
set_option maxRecDepth 100000 in
theorem c_X4_ask {l : Launch} {G : Gt} {S : Sk} {mm : Mm} (hS : Lay S) {q : Int32} (e : m_X4_ask mm = some q) : CallOK l G M_X4_ask yX4_ask 1 [vr (some 40)] S mm (some (vi q)) S mm := by
  refine call_of_run rfl rfl rfl (Nat.le_of_ble_eq_true rfl) ?_
  show Run l G M_X4_ask 1 0 [some (vr (some 40)), none, none, none, none, none] [] S mm (some (vi q)) S mm
  unfold m_X4_ask at e
  refine r_iconst (v := -1) dX4_ask_0 ci_m1 ?_
  refine r_istore_n dX4_ask_1 (by decide) rfl ?_
  refine r_aload_n dX4_ask_2 rfl ?_
  refine r_getI dX4_ask_3 fl_X4_9 rfl (lp_40 hS) (lq_40 hS) ?_
  refine r_istore_n dX4_ask_6 (by decide) rfl ?_
  refine r_iconst (v := 0) dX4_ask_7 ci_0 ?_
  refine r_istore_n dX4_ask_8 (by decide) rfl ?_
  obtain ⟨p2, eb6w, e⟩ := obind e
  have J3a : Run l G M_X4_ask 1 95 [none, some (vi p2), none, none, none, none] [] S mm (some (vi q)) S mm := by
    refine r_iload_n dX4_ask_95 rfl ?_
    cases e
    exact r_ireturn dX4_ask_96 rfl rfl
  have J3 : ∀ pp : Int32, pp = p2 → Run l G M_X4_ask 1 95 [none, some (vi pp), none, none, none, none] [] S mm (some (vi q)) S mm := by
    intro pp hpp
    rw [hpp]
    exact J3a
  have J3w : Run l G M_X4_ask 1 9 [some (vr (some 40)), some (vi (-1 : Int32)), some (vi (mI mm 40 0)), some (vi (0 : Int32)), none, none] [] S mm (some (vi q)) S mm := by
    refine while_run (s := ((-1 : Int32), mI mm 40 0, (0 : Int32))) (Gs := fun (z1 : Int32 × Int32 × Int32) => Run l G M_X4_ask 1 9 [some (vr (some 40)), some (vi z1.1), some (vi z1.2.1), some (vi z1.2.2), none, none] [] S mm (some (vi q)) S mm) eb6w ?_
    intro z1 x4y eb6 hx5
    unfold m_X4_ask_b9 at eb6
    refine r_iload_n dX4_ask_9 rfl ?_
    refine r_bipush (v := 8) dX4_ask_10 cb_8 ?_
    refine r_icmp_ge (tgt := 95) dX4_ask_12 rfl (fun h7 => ?_) (fun h7 => ?_)
    · replace eb6 := ite_t h7 eb6
      cases eb6
      exact r_weak (L' := [none, some (vi z1.1), none, none, none, none]) ⟨rfl, trivial⟩ (J3 _ hx5)
    · replace eb6 := ite_f h7 eb6
      refine r_aload_n dX4_ask_15 rfl ?_
      refine r_getI dX4_ask_16 fl_X4_9 rfl (lp_40 hS) (lq_40 hS) ?_
      refine r_if_le (tgt := 95) dX4_ask_19 rfl (fun h8 => ?_) (fun h8 => ?_)
      · replace eb6 := ite_t h8 eb6
        cases eb6
        exact r_weak (L' := [none, some (vi z1.1), none, none, none, none]) ⟨rfl, trivial⟩ (J3 _ hx5)
      · replace eb6 := ite_f h8 eb6
        refine r_iconst (v := 0) dX4_ask_22 ci_0 ?_
        refine r_istore dX4_ask_23 (by decide) rfl ?_
        refine r_iconst (v := 0) dX4_ask_25 ci_0 ?_
        refine r_istore dX4_ask_26 (by decide) rfl ?_
        obtain ⟨p10, eb14w, eb6⟩ := obind eb6
        have J11a : Run l G M_X4_ask 1 59 [some (vr (some 40)), some (vi z1.1), some (vi z1.2.1), some (vi z1.2.2), some (vi p10), none] [] S mm (some (vi q)) S mm := by
          refine r_iload dX4_ask_59 rfl ?_
          refine r_aload_n dX4_ask_61 rfl ?_
          refine r_getI dX4_ask_62 fl_X4_9 rfl (lp_40 hS) (lq_40 hS) ?_
          refine r_iload dX4_ask_65 rfl ?_
          refine r_isub dX4_ask_67 ?_
          refine r_mmax (rest := []) dX4_ask_68 ml_X4_73 (by decide) (Nat.le_of_ble_eq_true rfl) ?_
          refine r_istore dX4_ask_71 (by decide) rfl ?_
          refine r_iload_n dX4_ask_73 rfl ?_
          refine r_iconst (v := -1) dX4_ask_74 ci_m1 ?_
          have J21 : ∀ (w19 : Int32) (w20 : Int32), w19 = (if z1.1 = (-1 : Int32) then z1.2.2 else (if z1.2.1 ≤ (xmax p10 ((mI mm 40 0) - p10)) then z1.1 else z1.2.2)) → w20 = (if z1.1 = (-1 : Int32) then xmax p10 ((mI mm 40 0) - p10) else (if z1.2.1 ≤ (xmax p10 ((mI mm 40 0) - p10)) then z1.2.1 else xmax p10 ((mI mm 40 0) - p10))) → Run l G M_X4_ask 1 89 [some (vr (some 40)), some (vi w19), some (vi w20), some (vi z1.2.2), none, none] [] S mm (some (vi q)) S mm := by
            intro w19 w20 hw22 hw23
            subst hw22
            subst hw23
            refine r_iinc (v := _ + (1 : Int32)) dX4_ask_89 rfl (congrArg (_ + ·) ci_1) (by decide) rfl ?_
            refine r_goto (tgt := 9) dX4_ask_92 rfl ?_
            cases eb6
            exact r_weak (L' := [some (vr (some 40)), some (vi (if z1.1 = (-1 : Int32) then z1.2.2 else (if z1.2.1 ≤ (xmax p10 ((mI mm 40 0) - p10)) then z1.1 else z1.2.2))), some (vi (if z1.1 = (-1 : Int32) then xmax p10 ((mI mm 40 0) - p10) else (if z1.2.1 ≤ (xmax p10 ((mI mm 40 0) - p10)) then z1.2.1 else xmax p10 ((mI mm 40 0) - p10)))), some (vi (z1.2.2 + (1 : Int32))), none, none]) ⟨rfl, rfl, rfl, rfl, trivial⟩ hx5
          refine r_icmp_eq (tgt := 84) dX4_ask_75 rfl (fun h17 => ?_) (fun h17 => ?_)
          · refine r_iload_n dX4_ask_84 rfl ?_
            refine r_istore_n dX4_ask_85 (by decide) rfl ?_
            refine r_iload dX4_ask_86 rfl ?_
            refine r_istore_n dX4_ask_88 (by decide) rfl ?_
            exact r_weak (L' := [some (vr (some 40)), some (vi z1.2.2), some (vi (xmax p10 ((mI mm 40 0) - p10))), some (vi z1.2.2), none, none]) ⟨rfl, rfl, rfl, rfl, trivial⟩ (J21 _ _ (Eq.symm (if_pos h17)) (Eq.symm (if_pos h17)))
          · refine r_iload dX4_ask_78 rfl ?_
            refine r_iload_n dX4_ask_80 rfl ?_
            refine r_icmp_ge (tgt := 89) dX4_ask_81 rfl (fun h18 => ?_) (fun h18 => ?_)
            · exact r_weak (L' := [some (vr (some 40)), some (vi z1.1), some (vi z1.2.1), some (vi z1.2.2), none, none]) ⟨rfl, rfl, rfl, rfl, trivial⟩ (J21 _ _ (Eq.symm ((if_neg h17).trans (if_pos h18))) (Eq.symm ((if_neg h17).trans (if_pos h18))))
            · refine r_iload_n dX4_ask_84 rfl ?_
              refine r_istore_n dX4_ask_85 (by decide) rfl ?_
              refine r_iload dX4_ask_86 rfl ?_
              refine r_istore_n dX4_ask_88 (by decide) rfl ?_
              exact r_weak (L' := [some (vr (some 40)), some (vi z1.2.2), some (vi (xmax p10 ((mI mm 40 0) - p10))), some (vi z1.2.2), none, none]) ⟨rfl, rfl, rfl, rfl, trivial⟩ (J21 _ _ (Eq.symm ((if_neg h17).trans (if_neg h18))) (Eq.symm ((if_neg h17).trans (if_neg h18))))
        have J11 : ∀ pp : Int32, pp = p10 → Run l G M_X4_ask 1 59 [some (vr (some 40)), some (vi z1.1), some (vi z1.2.1), some (vi z1.2.2), some (vi pp), none] [] S mm (some (vi q)) S mm := by
          intro pp hpp
          rw [hpp]
          exact J11a
        have J11w : Run l G M_X4_ask 1 28 [some (vr (some 40)), some (vi z1.1), some (vi z1.2.1), some (vi z1.2.2), some (vi (0 : Int32)), some (vi (0 : Int32))] [] S mm (some (vi q)) S mm := by
          refine while_run (s := ((0 : Int32), (0 : Int32))) (Gs := fun (z9 : Int32 × Int32) => Run l G M_X4_ask 1 28 [some (vr (some 40)), some (vi z1.1), some (vi z1.2.1), some (vi z1.2.2), some (vi z9.1), some (vi z9.2)] [] S mm (some (vi q)) S mm) eb14w ?_
          intro z9 x12y eb14 hx13
          unfold m_X4_ask_b28 at eb14
          refine r_iload dX4_ask_28 rfl ?_
          refine r_aload_n dX4_ask_30 rfl ?_
          refine r_getI dX4_ask_31 fl_X4_9 rfl (lp_40 hS) (lq_40 hS) ?_
          refine r_icmp_ge (tgt := 59) dX4_ask_34 rfl (fun h15 => ?_) (fun h15 => ?_)
          · replace eb14 := ite_t h15 eb14
            cases eb14
            exact r_weak (L' := [some (vr (some 40)), some (vi z1.1), some (vi z1.2.1), some (vi z1.2.2), some (vi z9.1), none]) ⟨rfl, rfl, rfl, rfl, rfl, trivial⟩ (J11 _ hx13)
          · replace eb14 := ite_f h15 eb14
            refine r_iload dX4_ask_37 rfl ?_
            refine r_aload_n dX4_ask_39 rfl ?_
            refine r_getR dX4_ask_40 fl_X4_22 rfl (lp_40 hS) (lq_40 hS) (lr_40_3 hS) ?_
            refine r_iload dX4_ask_43 rfl ?_
            obtain ⟨hg16, eb14⟩ := grd_some eb14
            refine r_iald dX4_ask_45 (lp_43 hS) (lk_43 hS) hg16 ?_
            refine r_iload_n dX4_ask_46 rfl ?_
            refine r_ishr dX4_ask_47 ?_
            refine r_iconst (v := 1) dX4_ask_48 ci_1 ?_
            refine r_iand dX4_ask_49 ?_
            refine r_iadd dX4_ask_50 ?_
            refine r_istore dX4_ask_51 (by decide) rfl ?_
            refine r_iinc (v := _ + (1 : Int32)) dX4_ask_53 rfl (congrArg (_ + ·) ci_1) (by decide) rfl ?_
            refine r_goto (tgt := 28) dX4_ask_56 rfl ?_
            cases eb14
            exact r_weak (L' := [some (vr (some 40)), some (vi z1.1), some (vi z1.2.1), some (vi z1.2.2), some (vi (z9.1 + ((xshr (mI mm 43 (ix z9.2)) z1.2.2) &&& (1 : Int32)))), some (vi (z9.2 + (1 : Int32)))]) ⟨rfl, rfl, rfl, rfl, rfl, rfl, trivial⟩ hx13
        exact r_weak (L' := [some (vr (some 40)), some (vi z1.1), some (vi z1.2.1), some (vi z1.2.2), some (vi (0 : Int32)), some (vi (0 : Int32))]) ⟨rfl, rfl, rfl, rfl, rfl, rfl, trivial⟩ J11w
  exact r_weak (L' := [some (vr (some 40)), some (vi (-1 : Int32)), some (vi (mI mm 40 0)), some (vi (0 : Int32)), none, none]) ⟨rfl, rfl, rfl, rfl, trivial⟩ J3w
noncomputable def m_X4_tell (S : Sk) (a1 : Int32) (mm : Mm) : Option (Int32) := if a1 = (0 : Int32) then (some (mI mm 40 0)) else (if a1 = (1 : Int32) then ((m_X4_sure S 41 mm).bind (fun q3 => some q3)) else (if a1 = (2 : Int32) then ((m_X4_sure S 42 mm).bind (fun q6 => some q6)) else (if a1 = (3 : Int32) then ((m_X4_ask mm).bind (fun q9 => some q9)) else (if a1 = (4 : Int32) then (if (mI mm 40 0) = 0 then (some (-1 : Int32)) else (some (mI mm 41 (ix (0 : Int32))))) else (if a1 = (5 : Int32) then (if (mI mm 40 0) = 0 then (some (-1 : Int32)) else (grd ((mI mm 40 0) - (1 : Int32)) 50 (some (mI mm 41 (ix ((mI mm 40 0) - (1 : Int32))))))) else (bS (if a1 < (10 : Int32) then (some (.inl ())) else (if (a1 - (10 : Int32)) < (mI mm 40 0) then (grd (a1 - (10 : Int32)) 50 (grd (a1 - (10 : Int32)) 50 (some (.inr (((10 : Int32) * (mI mm 41 (ix (a1 - (10 : Int32))))) + (mI mm 42 (ix (a1 - (10 : Int32))))))))) else (some (.inl ()))) : Option ((Unit) ⊕ (Int32))) (fun p16 => some (-2 : Int32))))))))
set_option maxHeartbeats 4000000 in
set_option maxRecDepth 100000 in
theorem c_X4_tell {l : Launch} {G : Gt} {S : Sk} {a1 : Int32} {mm : Mm} (hS : Lay S) {q : Int32} (e : m_X4_tell S a1 mm = some q) : CallOK l G M_X4_tell yX4_tell 2 [vr (some 40), vi a1] S mm (some (vi q)) S mm := by
  refine call_of_run rfl rfl rfl (Nat.le_of_ble_eq_true rfl) ?_
  show Run l G M_X4_tell 2 0 [some (vr (some 40)), some (vi a1)] [] S mm (some (vi q)) S mm
  unfold m_X4_tell at e
  refine r_iload_n dX4_tell_0 rfl ?_
  by_cases h1 : a1 = (0 : Int32)
  · replace e := ite_t h1 e
    refine r_table_in (tgt := 40) dX4_tell_1 (by rw [h1]; decide) (by rw [h1]; decide) (by rw [h1]; rfl) rfl ?_
    refine r_aload_n dX4_tell_40 rfl ?_
    refine r_getI dX4_tell_41 fl_X4_9 rfl (lp_40 hS) (lq_40 hS) ?_
    cases e
    exact r_ireturn dX4_tell_44 rfl rfl
  replace e := ite_f h1 e
  by_cases h2 : a1 = (1 : Int32)
  · replace e := ite_t h2 e
    refine r_table_in (tgt := 45) dX4_tell_1 (by rw [h2]; decide) (by rw [h2]; decide) (by rw [h2]; rfl) rfl ?_
    refine r_aload_n dX4_tell_45 rfl ?_
    refine r_aload_n dX4_tell_46 rfl ?_
    refine r_getR dX4_tell_47 fl_X4_15 rfl (lp_40 hS) (lq_40 hS) (lr_40_1 hS) ?_
    obtain ⟨q3, eq4, e⟩ := obind e
    refine r_callV (as := [_]) (rest := []) dX4_tell_50 ml_X4_65 yV_X4_sure (c_X4_sure hS ⟨lp_41 hS, lq_41 hS⟩ eq4) (by decide) rfl (lp_40 hS) (lq_40 hS) (Nat.le_of_ble_eq_true rfl) ?_
    cases e
    exact r_ireturn dX4_tell_53 rfl rfl
  replace e := ite_f h2 e
  by_cases h5 : a1 = (2 : Int32)
  · replace e := ite_t h5 e
    refine r_table_in (tgt := 54) dX4_tell_1 (by rw [h5]; decide) (by rw [h5]; decide) (by rw [h5]; rfl) rfl ?_
    refine r_aload_n dX4_tell_54 rfl ?_
    refine r_aload_n dX4_tell_55 rfl ?_
    refine r_getR dX4_tell_56 fl_X4_19 rfl (lp_40 hS) (lq_40 hS) (lr_40_2 hS) ?_
    obtain ⟨q6, eq7, e⟩ := obind e
    refine r_callV (as := [_]) (rest := []) dX4_tell_59 ml_X4_65 yV_X4_sure (c_X4_sure hS ⟨lp_42 hS, lq_42 hS⟩ eq7) (by decide) rfl (lp_40 hS) (lq_40 hS) (Nat.le_of_ble_eq_true rfl) ?_
    cases e
    exact r_ireturn dX4_tell_62 rfl rfl
  replace e := ite_f h5 e
  by_cases h8 : a1 = (3 : Int32)
  · replace e := ite_t h8 e
    refine r_table_in (tgt := 63) dX4_tell_1 (by rw [h8]; decide) (by rw [h8]; decide) (by rw [h8]; rfl) rfl ?_
    refine r_aload_n dX4_tell_63 rfl ?_
    obtain ⟨q9, eq10, e⟩ := obind e
    refine r_callV (as := []) (rest := []) dX4_tell_64 ml_X4_69 yV_X4_ask (c_X4_ask hS eq10) (by decide) rfl (lp_40 hS) (lq_40 hS) (Nat.le_of_ble_eq_true rfl) ?_
    cases e
    exact r_ireturn dX4_tell_67 rfl rfl
  replace e := ite_f h8 e
  by_cases h11 : a1 = (4 : Int32)
  · replace e := ite_t h11 e
    refine r_table_in (tgt := 68) dX4_tell_1 (by rw [h11]; decide) (by rw [h11]; decide) (by rw [h11]; rfl) rfl ?_
    refine r_aload_n dX4_tell_68 rfl ?_
    refine r_getI dX4_tell_69 fl_X4_9 rfl (lp_40 hS) (lq_40 hS) ?_
    refine r_if_ne (tgt := 79) dX4_tell_72 rfl (fun h12 => ?_) (fun h12 => ?_)
    · replace e := ite_f h12 e
      refine r_aload_n dX4_tell_79 rfl ?_
      refine r_getR dX4_tell_80 fl_X4_15 rfl (lp_40 hS) (lq_40 hS) (lr_40_1 hS) ?_
      refine r_iconst (v := 0) dX4_tell_83 ci_0 ?_
      refine r_iald dX4_tell_84 (lp_41 hS) (lk_41 hS) (vp_in_iff.mpr ⟨by decide, by decide⟩) ?_
      cases e
      exact r_ireturn dX4_tell_85 rfl rfl
    · replace e := ite_t h12 e
      refine r_iconst (v := -1) dX4_tell_75 ci_m1 ?_
      refine r_goto (tgt := 85) dX4_tell_76 rfl ?_
      cases e
      exact r_ireturn dX4_tell_85 rfl rfl
  replace e := ite_f h11 e
  by_cases h13 : a1 = (5 : Int32)
  · replace e := ite_t h13 e
    refine r_table_in (tgt := 86) dX4_tell_1 (by rw [h13]; decide) (by rw [h13]; decide) (by rw [h13]; rfl) rfl ?_
    refine r_aload_n dX4_tell_86 rfl ?_
    refine r_getI dX4_tell_87 fl_X4_9 rfl (lp_40 hS) (lq_40 hS) ?_
    refine r_if_ne (tgt := 97) dX4_tell_90 rfl (fun h14 => ?_) (fun h14 => ?_)
    · replace e := ite_f h14 e
      refine r_aload_n dX4_tell_97 rfl ?_
      refine r_getR dX4_tell_98 fl_X4_15 rfl (lp_40 hS) (lq_40 hS) (lr_40_1 hS) ?_
      refine r_aload_n dX4_tell_101 rfl ?_
      refine r_getI dX4_tell_102 fl_X4_9 rfl (lp_40 hS) (lq_40 hS) ?_
      refine r_iconst (v := 1) dX4_tell_105 ci_1 ?_
      refine r_isub dX4_tell_106 ?_
      obtain ⟨hg15, e⟩ := grd_some e
      refine r_iald dX4_tell_107 (lp_41 hS) (lk_41 hS) hg15 ?_
      cases e
      exact r_ireturn dX4_tell_108 rfl rfl
    · replace e := ite_t h14 e
      refine r_iconst (v := -1) dX4_tell_93 ci_m1 ?_
      refine r_goto (tgt := 108) dX4_tell_94 rfl ?_
      cases e
      exact r_ireturn dX4_tell_108 rfl rfl
  replace e := ite_f h13 e
  have ho1 : (a1).toInt < 0 ∨ 5 < (a1).toInt := by
    have nh1 := lv_neT (a := 0) h1 (by decide)
    have nh2 := lv_neT (a := 1) h2 (by decide)
    have nh5 := lv_neT (a := 2) h5 (by decide)
    have nh8 := lv_neT (a := 3) h8 (by decide)
    have nh11 := lv_neT (a := 4) h11 (by decide)
    have nh13 := lv_neT (a := 5) h13 (by decide)
    omega
  refine r_table_out (tgt := 109) dX4_tell_1 ho1 rfl ?_
  refine r_iload_n dX4_tell_109 rfl ?_
  refine r_bipush (v := 10) dX4_tell_110 cb_10 ?_
  obtain ⟨x19, ep18, elx19, erx19⟩ := bS_some e
  have J17 : ∀ p16 : Unit, x19 = .inl p16 → Run l G M_X4_tell 2 126 [none, none] [] S mm (some (vi q)) S mm := by
    intro p16 hp16
    replace e := elx19 p16 hp16
    refine r_bipush (v := -2) dX4_tell_126 cb_m2 ?_
    refine r_goto (tgt := 153) dX4_tell_128 rfl ?_
    cases e
    exact r_ireturn dX4_tell_153 rfl rfl
  refine r_icmp_lt (tgt := 126) dX4_tell_112 rfl (fun h20 => ?_) (fun h20 => ?_)
  · replace ep18 := ite_t h20 ep18
    cases ep18
    exact r_weak (L' := [none, none]) trivial (J17 _ rfl)
  · replace ep18 := ite_f h20 ep18
    refine r_iload_n dX4_tell_115 rfl ?_
    refine r_bipush (v := 10) dX4_tell_116 cb_10 ?_
    refine r_isub dX4_tell_118 ?_
    refine r_aload_n dX4_tell_119 rfl ?_
    refine r_getI dX4_tell_120 fl_X4_9 rfl (lp_40 hS) (lq_40 hS) ?_
    refine r_icmp_lt (tgt := 131) dX4_tell_123 rfl (fun h21 => ?_) (fun h21 => ?_)
    · replace ep18 := ite_t h21 ep18
      refine r_bipush (v := 10) dX4_tell_131 cb_10 ?_
      refine r_aload_n dX4_tell_133 rfl ?_
      refine r_getR dX4_tell_134 fl_X4_15 rfl (lp_40 hS) (lq_40 hS) (lr_40_1 hS) ?_
      refine r_iload_n dX4_tell_137 rfl ?_
      refine r_bipush (v := 10) dX4_tell_138 cb_10 ?_
      refine r_isub dX4_tell_140 ?_
      obtain ⟨hg22, ep18⟩ := grd_some ep18
      refine r_iald dX4_tell_141 (lp_41 hS) (lk_41 hS) hg22 ?_
      refine r_imul dX4_tell_142 ?_
      refine r_aload_n dX4_tell_143 rfl ?_
      refine r_getR dX4_tell_144 fl_X4_19 rfl (lp_40 hS) (lq_40 hS) (lr_40_2 hS) ?_
      refine r_iload_n dX4_tell_147 rfl ?_
      refine r_bipush (v := 10) dX4_tell_148 cb_10 ?_
      refine r_isub dX4_tell_150 ?_
      obtain ⟨hg23, ep18⟩ := grd_some ep18
      refine r_iald dX4_tell_151 (lp_42 hS) (lk_42 hS) hg23 ?_
      refine r_iadd dX4_tell_152 ?_
      cases ep18
      have e := congrArg some (erx19 _ rfl)
      cases e
      exact r_ireturn dX4_tell_153 rfl rfl
    · replace ep18 := ite_f h21 ep18
      cases ep18
      exact r_weak (L' := [none, none]) trivial (J17 _ rfl)
noncomputable def m_X6_init (S : Sk) (a0 : Nat) (a1 : Int32) (mm : Mm) : Option (Sk × Mm) := gla ((xmax a1 (0 : Int32)) * (4 : Int32)) (some ((sRs (nwS S 20 (((xmax a1 (0 : Int32)) * (4 : Int32)).toNatClampNeg) (((xmax a1 (0 : Int32)) * (4 : Int32)).toNatClampNeg)) a0 0 (some S.1)), (nwM S (sI mm a0 1 (0 : Int32)))))
set_option maxHeartbeats 4000000 in
set_option maxRecDepth 100000 in
theorem c_X6_init {l : Launch} {G : Gt} {S : Sk} {a0 : Nat} {a1 : Int32} {mm : Mm} (ha0 : KD S a0 6) {q : Sk × Mm} (e : m_X6_init S a0 a1 mm = some q) : CallOK l G M_X6_init yX6_init 1 [vr (some a0), vi a1] S mm (none) q.1 q.2 := by
  refine call_of_run rfl rfl rfl (Nat.le_of_ble_eq_true rfl) ?_
  show Run l G M_X6_init 1 0 [some (vr (some a0)), some (vi a1)] [] S mm (none) q.1 q.2
  unfold m_X6_init at e
  refine r_aload_n dX6_init_0 rfl ?_
  refine r_objInit (rest := []) dX6_init_1 oi_X6_3 oi_i oi_c (by decide) (Nat.le_of_ble_eq_true rfl) ?_
  refine r_aload_n dX6_init_4 rfl ?_
  refine r_iconst (v := 0) dX6_init_5 ci_0 ?_
  refine r_putI dX6_init_6 fl_X6_9 ft_6_1 (Or.inl rfl) rfl rfl rfl ha0.1 ha0.2 ?_
  refine r_aload_n dX6_init_9 rfl ?_
  refine r_iload_n dX6_init_10 rfl ?_
  refine r_iconst (v := 0) dX6_init_11 ci_0 ?_
  refine r_mmax (rest := [_]) dX6_init_12 ml_X6_15 (by decide) (Nat.le_of_ble_eq_true rfl) ?_
  refine r_iconst (v := 4) dX6_init_15 ci_4 ?_
  refine r_imul dX6_init_16 ?_
  obtain ⟨hl1, e⟩ := gla_some e
  refine r_newa (t := 20) dX6_init_17 rfl (by decide) (by decide) aw_20 hl1.1 rfl hl1.2 ?_
  have hn2 := kd_nw (k := 20) (len := (((xmax a1 (0 : Int32)) * (4 : Int32)).toNatClampNeg)) (z := (((xmax a1 (0 : Int32)) * (4 : Int32)).toNatClampNeg)) ha0
  have hn3 : AK (nwS S 20 (((xmax a1 (0 : Int32)) * (4 : Int32)).toNatClampNeg) (((xmax a1 (0 : Int32)) * (4 : Int32)).toNatClampNeg)) S.1 20 (((xmax a1 (0 : Int32)) * (4 : Int32)).toNatClampNeg) := ak_new
  refine r_putR dX6_init_19 fl_X6_21 ft_6_0 (Or.inr ⟨rfl, fun q hq => by cases hq; rfl⟩) rfl hn2.1 hn2.2 ?_
  cases e
  exact r_return dX6_init_22 rfl
noncomputable def m_X5_init (S : Sk) (a0 : Nat) (mm : Mm) : Option (Sk × Mm) := (m_X6_init (nwS S 6 0 2) S.1 (100 : Int32) (nwM S mm)).bind (fun q3 => gk q3.1 a0 5 (some ((sRs (nwS (sRs (nwS (sRs (nwS (sRs q3.1 a0 0 (some S.1)) 20 7 7) a0 3 (some q3.1.1)) 20 3 3) a0 4 (some (q3.1.1 + 1))) 21 0 0) a0 5 (some (q3.1.1 + 2))), (sI (sI (sI (sI (sI (sI (nwM (sRs (nwS (sRs (nwS (sRs q3.1 a0 0 (some S.1)) 20 7 7) a0 3 (some q3.1.1)) 20 3 3) a0 4 (some (q3.1.1 + 1))) (nwM (sRs (nwS (sRs q3.1 a0 0 (some S.1)) 20 7 7) a0 3 (some q3.1.1)) (nwM (sRs q3.1 a0 0 (some S.1)) (sI (sI q3.2 a0 1 (0 : Int32)) a0 2 (-1 : Int32))))) a0 6 (0 : Int32)) a0 7 (0 : Int32)) a0 8 (0 : Int32)) a0 9 (0 : Int32)) a0 10 (0 : Int32)) a0 11 (0 : Int32)))))
set_option maxHeartbeats 4000000 in
set_option maxRecDepth 100000 in
theorem c_X5_init {l : Launch} {G : Gt} {S : Sk} {a0 : Nat} {mm : Mm} (ha0 : KD S a0 5) {q : Sk × Mm} (e : m_X5_init S a0 mm = some q) : CallOK l G M_X5_init yX5_init 2 [vr (some a0)] S mm (none) q.1 q.2 := by
  refine call_of_run rfl rfl rfl (Nat.le_of_ble_eq_true rfl) ?_
  show Run l G M_X5_init 2 0 [some (vr (some a0))] [] S mm (none) q.1 q.2
  unfold m_X5_init at e
  refine r_aload_n dX5_init_0 rfl ?_
  refine r_objInit (rest := []) dX5_init_1 oi_X5_3 oi_i oi_c (by decide) (Nat.le_of_ble_eq_true rfl) ?_
  refine r_aload_n dX5_init_4 rfl ?_
  refine r_new dX5_init_5 nw_X5_9 ?_
  have hn1 := kd_nw (k := 6) (len := 0) (z := 2) ha0
  have hn2 : KD (nwS S 6 0 2) S.1 6 := kd_new
  refine r_dup dX5_init_8 rfl ?_
  refine r_bipush (v := 100) dX5_init_9 cb_100 ?_
  obtain ⟨q3, eq4, e⟩ := obind e
  refine r_callI (as := [_]) (rest := [_, _]) dX5_init_11 ml_X5_13 yI_X6_init (c_X6_init hn2 eq4) (by decide) rfl (Nat.le_of_ble_eq_true rfl) ?_
  obtain ⟨hn5, e⟩ := gk_some e
  refine r_putR dX5_init_14 fl_X5_16 ft_5_0 (Or.inr ⟨rfl, fun q hq => by cases hq; rfl⟩) rfl hn5.1 hn5.2 ?_
  refine r_aload_n dX5_init_17 rfl ?_
  refine r_iconst (v := 0) dX5_init_18 ci_0 ?_
  refine r_putI dX5_init_19 fl_X5_20 ft_5_1 (Or.inl rfl) rfl rfl rfl hn5.1 hn5.2 ?_
  refine r_aload_n dX5_init_22 rfl ?_
  refine r_iconst (v := -1) dX5_init_23 ci_m1 ?_
  refine r_putI dX5_init_24 fl_X5_24 ft_5_2 (Or.inl rfl) rfl rfl rfl hn5.1 hn5.2 ?_
  refine r_aload_n dX5_init_27 rfl ?_
  refine r_bipush (v := 7) dX5_init_28 cb_7 ?_
  refine r_newa (t := 20) dX5_init_30 rfl (by decide) (by decide) aw_20 (by decide) (N := 7) (by decide) (by decide) ?_
  have hn6 := kd_nw (k := 20) (len := 7) (z := 7) hn5
  have hn7 : AK (nwS (sRs q3.1 a0 0 (some S.1)) 20 7 7) q3.1.1 20 7 := ak_new
  refine r_putR dX5_init_32 fl_X5_27 ft_5_3 (Or.inr ⟨rfl, fun q hq => by cases hq; rfl⟩) rfl hn6.1 hn6.2 ?_
  refine r_aload_n dX5_init_35 rfl ?_
  refine r_iconst (v := 3) dX5_init_36 ci_3 ?_
  refine r_newa (t := 20) dX5_init_37 rfl (by decide) (by decide) aw_20 (by decide) (N := 3) (by decide) (by decide) ?_
  have hn8 := kd_nw (k := 20) (len := 3) (z := 3) hn6
  have hn9 := ak_nw (k := 20) (len := 3) (z := 3) hn7
  have hn10 : AK (nwS (sRs (nwS (sRs q3.1 a0 0 (some S.1)) 20 7 7) a0 3 (some q3.1.1)) 20 3 3) (q3.1.1 + 1) 20 3 := ak_new
  refine r_putR dX5_init_39 fl_X5_31 ft_5_4 (Or.inr ⟨rfl, fun q hq => by cases hq; rfl⟩) rfl hn8.1 hn8.2 ?_
  refine r_aload_n dX5_init_42 rfl ?_
  refine r_iconst (v := 0) dX5_init_43 ci_0 ?_
  refine r_newa (t := 21) dX5_init_44 rfl (by decide) (by decide) aw_21 (by decide) (N := 0) (by decide) (by decide) ?_
  have hn11 := kd_nw (k := 21) (len := 0) (z := 0) hn8
  have hn12 := ak_nw (k := 21) (len := 0) (z := 0) hn9
  have hn13 := ak_nw (k := 21) (len := 0) (z := 0) hn10
  have hn14 : AK (nwS (sRs (nwS (sRs (nwS (sRs q3.1 a0 0 (some S.1)) 20 7 7) a0 3 (some q3.1.1)) 20 3 3) a0 4 (some (q3.1.1 + 1))) 21 0 0) (q3.1.1 + 2) 21 0 := ak_new
  refine r_putR dX5_init_46 fl_X5_34 ft_5_5 (Or.inl rfl) rfl hn11.1 hn11.2 ?_
  refine r_aload_n dX5_init_49 rfl ?_
  refine r_iconst (v := 0) dX5_init_50 ci_0 ?_
  refine r_putI dX5_init_51 fl_X5_38 ft_5_6 (Or.inl rfl) rfl rfl rfl hn11.1 hn11.2 ?_
  refine r_aload_n dX5_init_54 rfl ?_
  refine r_iconst (v := 0) dX5_init_55 ci_0 ?_
  refine r_putI dX5_init_56 fl_X5_41 ft_5_7 (Or.inl rfl) rfl rfl rfl hn11.1 hn11.2 ?_
  refine r_aload_n dX5_init_59 rfl ?_
  refine r_iconst (v := 0) dX5_init_60 ci_0 ?_
  refine r_putI dX5_init_61 fl_X5_44 ft_5_8 (Or.inl rfl) rfl rfl rfl hn11.1 hn11.2 ?_
  refine r_aload_n dX5_init_64 rfl ?_
  refine r_iconst (v := 0) dX5_init_65 ci_0 ?_
  refine r_putI dX5_init_66 fl_X5_47 ft_5_9 (Or.inl rfl) rfl rfl rfl hn11.1 hn11.2 ?_
  refine r_aload_n dX5_init_69 rfl ?_
  refine r_iconst (v := 0) dX5_init_70 ci_0 ?_
  refine r_putI dX5_init_71 fl_X5_50 ft_5_10 (Or.inl rfl) rfl rfl rfl hn11.1 hn11.2 ?_
  refine r_aload_n dX5_init_74 rfl ?_
  refine r_iconst (v := 0) dX5_init_75 ci_0 ?_
  refine r_putI dX5_init_76 fl_X5_53 ft_5_11 (Or.inl rfl) rfl rfl rfl hn11.1 hn11.2 ?_
  cases e
  exact r_return dX5_init_79 rfl
noncomputable def m_X5_isLetter (S : Sk) (a1 : Int32) (mm : Mm) : Option (Int32) := gR (sR S 7 5) 2 (grd a1 600 (if (mI mm 2 (ix a1)) < (97 : Int32) then (some (0 : Int32)) else (grd a1 600 (if (122 : Int32) < (mI mm 2 (ix a1)) then (some (0 : Int32)) else (some (1 : Int32))))))
set_option maxHeartbeats 4000000 in
set_option maxRecDepth 100000 in
theorem c_X5_isLetter {l : Launch} {G : Gt} {S : Sk} {a1 : Int32} {mm : Mm} (hS : Lay S) {q : Int32} (e : m_X5_isLetter S a1 mm = some q) : CallOK l G M_X5_isLetter yX5_isLetter 0 [vr (some 7), vi a1] S mm (some (vi q)) S mm := by
  refine call_of_run rfl rfl rfl (Nat.le_of_ble_eq_true rfl) ?_
  show Run l G M_X5_isLetter 0 0 [some (vr (some 7)), some (vi a1)] [] S mm (some (vi q)) S mm
  unfold m_X5_isLetter at e
  refine r_aload_n dX5_isLetter_0 rfl ?_
  obtain ⟨hr1, e⟩ := gR_some e
  refine r_getR dX5_isLetter_1 fl_X5_34 rfl (lp_7 hS) (lq_7 hS) hr1 ?_
  refine r_iload_n dX5_isLetter_4 rfl ?_
  obtain ⟨hg2, e⟩ := grd_some e
  refine r_bald dX5_isLetter_5 (lp_2 hS) (lk_2 hS) hg2 ?_
  refine r_bipush (v := 97) dX5_isLetter_6 cb_97 ?_
  refine r_icmp_lt (tgt := 26) dX5_isLetter_8 rfl (fun h3 => ?_) (fun h3 => ?_)
  · replace e := ite_t h3 e
    refine r_iconst (v := 0) dX5_isLetter_26 ci_0 ?_
    cases e
    exact r_ireturn dX5_isLetter_27 rfl (nz_b (by first | exact Or.inl rfl | exact Or.inr rfl)).1
  · replace e := ite_f h3 e
    refine r_aload_n dX5_isLetter_11 rfl ?_
    refine r_getR dX5_isLetter_12 fl_X5_34 rfl (lp_7 hS) (lq_7 hS) hr1 ?_
    refine r_iload_n dX5_isLetter_15 rfl ?_
    obtain ⟨hg4, e⟩ := grd_some e
    refine r_bald dX5_isLetter_16 (lp_2 hS) (lk_2 hS) hg4 ?_
    refine r_bipush (v := 122) dX5_isLetter_17 cb_122 ?_
    refine r_icmp_gt (tgt := 26) dX5_isLetter_19 rfl (fun h5 => ?_) (fun h5 => ?_)
    · replace e := ite_t h5 e
      refine r_iconst (v := 0) dX5_isLetter_26 ci_0 ?_
      cases e
      exact r_ireturn dX5_isLetter_27 rfl (nz_b (by first | exact Or.inl rfl | exact Or.inr rfl)).1
    · replace e := ite_f h5 e
      refine r_iconst (v := 1) dX5_isLetter_22 ci_1 ?_
      refine r_goto (tgt := 27) dX5_isLetter_23 rfl ?_
      cases e
      exact r_ireturn dX5_isLetter_27 rfl (nz_b (by first | exact Or.inl rfl | exact Or.inr rfl)).1
noncomputable def m_X5_isDigit (S : Sk) (a1 : Int32) (mm : Mm) : Option (Int32) := gR (sR S 7 5) 2 (grd a1 600 (if (mI mm 2 (ix a1)) < (48 : Int32) then (some (0 : Int32)) else (grd a1 600 (if (57 : Int32) < (mI mm 2 (ix a1)) then (some (0 : Int32)) else (some (1 : Int32))))))
set_option maxHeartbeats 4000000 in
set_option maxRecDepth 100000 in
theorem c_X5_isDigit {l : Launch} {G : Gt} {S : Sk} {a1 : Int32} {mm : Mm} (hS : Lay S) {q : Int32} (e : m_X5_isDigit S a1 mm = some q) : CallOK l G M_X5_isDigit yX5_isDigit 0 [vr (some 7), vi a1] S mm (some (vi q)) S mm := by
  refine call_of_run rfl rfl rfl (Nat.le_of_ble_eq_true rfl) ?_
  show Run l G M_X5_isDigit 0 0 [some (vr (some 7)), some (vi a1)] [] S mm (some (vi q)) S mm
  unfold m_X5_isDigit at e
  refine r_aload_n dX5_isDigit_0 rfl ?_
  obtain ⟨hr1, e⟩ := gR_some e
  refine r_getR dX5_isDigit_1 fl_X5_34 rfl (lp_7 hS) (lq_7 hS) hr1 ?_
  refine r_iload_n dX5_isDigit_4 rfl ?_
  obtain ⟨hg2, e⟩ := grd_some e
  refine r_bald dX5_isDigit_5 (lp_2 hS) (lk_2 hS) hg2 ?_
  refine r_bipush (v := 48) dX5_isDigit_6 cb_48 ?_
  refine r_icmp_lt (tgt := 26) dX5_isDigit_8 rfl (fun h3 => ?_) (fun h3 => ?_)
  · replace e := ite_t h3 e
    refine r_iconst (v := 0) dX5_isDigit_26 ci_0 ?_
    cases e
    exact r_ireturn dX5_isDigit_27 rfl (nz_b (by first | exact Or.inl rfl | exact Or.inr rfl)).1
  · replace e := ite_f h3 e
    refine r_aload_n dX5_isDigit_11 rfl ?_
    refine r_getR dX5_isDigit_12 fl_X5_34 rfl (lp_7 hS) (lq_7 hS) hr1 ?_
    refine r_iload_n dX5_isDigit_15 rfl ?_
    obtain ⟨hg4, e⟩ := grd_some e
    refine r_bald dX5_isDigit_16 (lp_2 hS) (lk_2 hS) hg4 ?_
    refine r_bipush (v := 57) dX5_isDigit_17 cb_57 ?_
    refine r_icmp_gt (tgt := 26) dX5_isDigit_19 rfl (fun h5 => ?_) (fun h5 => ?_)
    · replace e := ite_t h5 e
      refine r_iconst (v := 0) dX5_isDigit_26 ci_0 ?_
      cases e
      exact r_ireturn dX5_isDigit_27 rfl (nz_b (by first | exact Or.inl rfl | exact Or.inr rfl)).1
    · replace e := ite_f h5 e
      refine r_iconst (v := 1) dX5_isDigit_22 ci_1 ?_
      refine r_goto (tgt := 27) dX5_isDigit_23 rfl ?_
      cases e
      exact r_ireturn dX5_isDigit_27 rfl (nz_b (by first | exact Or.inl rfl | exact Or.inr rfl)).1
noncomputable def m_X5_takeNumber_b5 (S : Sk) (z1 : Mm) : Option ((Mm) ⊕ (Mm)) := if (mI z1 7 6) ≤ (mI z1 7 10) then (some (.inr z1)) else ((m_X5_isDigit S (mI z1 7 10) z1).bind (fun q8 => if q8 = 0 then (some (.inr z1)) else ((if (2 : Int32) ≤ ((mI z1 7 10) - (mI z1 7 9)) then (some (mI z1 7 11)) else (gR (sR S 7 5) 2 (grd (mI z1 7 10) 600 (some ((((mI z1 7 11) * (10 : Int32)) + (mI z1 2 (ix (mI z1 7 10)))) - (48 : Int32))))) : Option (Int32)).bind (fun p11 => some (.inl (sI (sI z1 7 11 p11) 7 10 ((mI (sI z1 7 11 p11) 7 10) + (1 : Int32))))))))
noncomputable def m_X5_takeNumber (S : Sk) (mm : Mm) : Option (Mm) := (whileF FU (m_X5_takeNumber_b5 S) (sI mm 7 11 (0 : Int32))).bind (fun p2 => if ((mI p2 7 10) - (mI p2 7 9)) ≤ (2 : Int32) then (some (sI p2 7 8 (2 : Int32))) else (some (sI p2 7 8 (4 : Int32))))
set_option maxHeartbeats 4000000 in
set_option maxRecDepth 100000 in
theorem c_X5_takeNumber {l : Launch} {G : Gt} {S : Sk} {mm : Mm} (hS : Lay S) {q : Mm} (e : m_X5_takeNumber S mm = some q) : CallOK l G M_X5_takeNumber yX5_takeNumber 1 [vr (some 7)] S mm (none) S q := by
  refine call_of_run rfl rfl rfl (Nat.le_of_ble_eq_true rfl) ?_
  show Run l G M_X5_takeNumber 1 0 [some (vr (some 7))] [] S mm (none) S q
  unfold m_X5_takeNumber at e
  refine r_aload_n dX5_takeNumber_0 rfl ?_
  refine r_iconst (v := 0) dX5_takeNumber_1 ci_0 ?_
  refine r_putI dX5_takeNumber_2 fl_X5_53 ft_5_11 (Or.inl rfl) rfl rfl rfl (lp_7 hS) (lq_7 hS) ?_
  obtain ⟨p2, eb6w, e⟩ := obind e
  have J3a : Run l G M_X5_takeNumber 1 84 [some (vr (some 7))] [] S p2 (none) S q := by
    refine r_aload_n dX5_takeNumber_84 rfl ?_
    refine r_aload_n dX5_takeNumber_85 rfl ?_
    refine r_getI dX5_takeNumber_86 fl_X5_50 rfl (lp_7 hS) (lq_7 hS) ?_
    refine r_aload_n dX5_takeNumber_89 rfl ?_
    refine r_getI dX5_takeNumber_90 fl_X5_47 rfl (lp_7 hS) (lq_7 hS) ?_
    refine r_isub dX5_takeNumber_93 ?_
    refine r_iconst (v := 2) dX5_takeNumber_94 ci_2 ?_
    refine r_icmp_le (tgt := 102) dX5_takeNumber_95 rfl (fun h18 => ?_) (fun h18 => ?_)
    · replace e := ite_t h18 e
      refine r_iconst (v := 2) dX5_takeNumber_102 ci_2 ?_
      refine r_putI dX5_takeNumber_103 fl_X5_44 ft_5_8 (Or.inl rfl) rfl rfl rfl (lp_7 hS) (lq_7 hS) ?_
      cases e
      exact r_return dX5_takeNumber_106 rfl
    · replace e := ite_f h18 e
      refine r_iconst (v := 4) dX5_takeNumber_98 ci_4 ?_
      refine r_goto (tgt := 103) dX5_takeNumber_99 rfl ?_
      refine r_putI dX5_takeNumber_103 fl_X5_44 ft_5_8 (Or.inl rfl) rfl rfl rfl (lp_7 hS) (lq_7 hS) ?_
      cases e
      exact r_return dX5_takeNumber_106 rfl
  have J3 : ∀ pp : Mm, pp = p2 → Run l G M_X5_takeNumber 1 84 [some (vr (some 7))] [] S pp (none) S q := by
    intro pp hpp
    rw [hpp]
    exact J3a
  have J3w : Run l G M_X5_takeNumber 1 5 [some (vr (some 7))] [] S (sI mm 7 11 (0 : Int32)) (none) S q := by
    refine while_run (s := (sI mm 7 11 (0 : Int32))) (Gs := fun (z1 : Mm) => Run l G M_X5_takeNumber 1 5 [some (vr (some 7))] [] S z1 (none) S q) eb6w ?_
    intro z1 x4y eb6 hx5
    unfold m_X5_takeNumber_b5 at eb6
    refine r_aload_n dX5_takeNumber_5 rfl ?_
    refine r_getI dX5_takeNumber_6 fl_X5_50 rfl (lp_7 hS) (lq_7 hS) ?_
    refine r_aload_n dX5_takeNumber_9 rfl ?_
    refine r_getI dX5_takeNumber_10 fl_X5_38 rfl (lp_7 hS) (lq_7 hS) ?_
    refine r_icmp_ge (tgt := 84) dX5_takeNumber_13 rfl (fun h7 => ?_) (fun h7 => ?_)
    · replace eb6 := ite_t h7 eb6
      cases eb6
      exact r_weak (L' := [some (vr (some 7))]) ⟨rfl, trivial⟩ (J3 _ hx5)
    · replace eb6 := ite_f h7 eb6
      refine r_aload_n dX5_takeNumber_16 rfl ?_
      refine r_aload_n dX5_takeNumber_17 rfl ?_
      refine r_getI dX5_takeNumber_18 fl_X5_50 rfl (lp_7 hS) (lq_7 hS) ?_
      obtain ⟨q8, eq9, eb6⟩ := obind eb6
      refine r_callV (as := [_]) (rest := []) dX5_takeNumber_21 ml_X5_127 yV_X5_isDigit (c_X5_isDigit hS eq9) (by decide) rfl (lp_7 hS) (lq_7 hS) (Nat.le_of_ble_eq_true rfl) ?_
      refine r_if_eq (tgt := 84) dX5_takeNumber_24 rfl (fun h10 => ?_) (fun h10 => ?_)
      · replace eb6 := ite_t h10 eb6
        cases eb6
        exact r_weak (L' := [some (vr (some 7))]) ⟨rfl, trivial⟩ (J3 _ hx5)
      · replace eb6 := ite_f h10 eb6
        refine r_aload_n dX5_takeNumber_27 rfl ?_
        refine r_aload_n dX5_takeNumber_28 rfl ?_
        refine r_getI dX5_takeNumber_29 fl_X5_50 rfl (lp_7 hS) (lq_7 hS) ?_
        refine r_aload_n dX5_takeNumber_32 rfl ?_
        refine r_getI dX5_takeNumber_33 fl_X5_47 rfl (lp_7 hS) (lq_7 hS) ?_
        refine r_isub dX5_takeNumber_36 ?_
        refine r_iconst (v := 2) dX5_takeNumber_37 ci_2 ?_
        obtain ⟨p11, ep13, eb6⟩ := obind eb6
        have J12a : Run l G M_X5_takeNumber 1 68 [some (vr (some 7))] [vi p11, vr (some 7)] S z1 (none) S q := by
          refine r_putI dX5_takeNumber_68 fl_X5_53 ft_5_11 (Or.inl rfl) rfl rfl rfl (lp_7 hS) (lq_7 hS) ?_
          refine r_aload_n dX5_takeNumber_71 rfl ?_
          refine r_dup dX5_takeNumber_72 rfl ?_
          refine r_getI dX5_takeNumber_73 fl_X5_50 rfl (lp_7 hS) (lq_7 hS) ?_
          refine r_iconst (v := 1) dX5_takeNumber_76 ci_1 ?_
          refine r_iadd dX5_takeNumber_77 ?_
          refine r_putI dX5_takeNumber_78 fl_X5_50 ft_5_10 (Or.inl rfl) rfl rfl rfl (lp_7 hS) (lq_7 hS) ?_
          refine r_goto (tgt := 5) dX5_takeNumber_81 rfl ?_
          cases eb6
          exact r_weak (L' := [some (vr (some 7))]) ⟨rfl, trivial⟩ hx5
        have J12 : ∀ pp : Int32, pp = p11 → Run l G M_X5_takeNumber 1 68 [some (vr (some 7))] [vi pp, vr (some 7)] S z1 (none) S q := by
          intro pp hpp
          rw [hpp]
          exact J12a
        refine r_icmp_ge (tgt := 64) dX5_takeNumber_38 rfl (fun h15 => ?_) (fun h15 => ?_)
        · replace ep13 := ite_t h15 ep13
          refine r_aload_n dX5_takeNumber_64 rfl ?_
          refine r_getI dX5_takeNumber_65 fl_X5_53 rfl (lp_7 hS) (lq_7 hS) ?_
          exact r_weak (L' := [some (vr (some 7))]) ⟨rfl, trivial⟩ (J12 _ (Option.some.inj ep13))
        · replace ep13 := ite_f h15 ep13
          refine r_aload_n dX5_takeNumber_41 rfl ?_
          refine r_getI dX5_takeNumber_42 fl_X5_53 rfl (lp_7 hS) (lq_7 hS) ?_
          refine r_bipush (v := 10) dX5_takeNumber_45 cb_10 ?_
          refine r_imul dX5_takeNumber_47 ?_
          refine r_aload_n dX5_takeNumber_48 rfl ?_
          obtain ⟨hr16, ep13⟩ := gR_some ep13
          refine r_getR dX5_takeNumber_49 fl_X5_34 rfl (lp_7 hS) (lq_7 hS) hr16 ?_
          refine r_aload_n dX5_takeNumber_52 rfl ?_
          refine r_getI dX5_takeNumber_53 fl_X5_50 rfl (lp_7 hS) (lq_7 hS) ?_
          obtain ⟨hg17, ep13⟩ := grd_some ep13
          refine r_bald dX5_takeNumber_56 (lp_2 hS) (lk_2 hS) hg17 ?_
          refine r_iadd dX5_takeNumber_57 ?_
          refine r_bipush (v := 48) dX5_takeNumber_58 cb_48 ?_
          refine r_isub dX5_takeNumber_60 ?_
          refine r_goto (tgt := 68) dX5_takeNumber_61 rfl ?_
          exact r_weak (L' := [some (vr (some 7))]) ⟨rfl, trivial⟩ (J12 _ (Option.some.inj ep13))
  exact r_weak (L' := [some (vr (some 7))]) ⟨rfl, trivial⟩ J3w
noncomputable def m_X5_nextToken_b8 (S : Sk) (z1 : Mm) : Option ((Mm) ⊕ (Mm)) := if (mI z1 7 6) ≤ (mI z1 7 9) then (some (.inr z1)) else (gR (sR S 7 5) 2 (grd (mI z1 7 9) 600 (bS (if (mI z1 2 (ix (mI z1 7 9))) = (32 : Int32) then (some (.inl ())) else (grd (mI z1 7 9) 600 (if (mI z1 2 (ix (mI z1 7 9))) = (10 : Int32) then (some (.inl ())) else (some (.inr (.inr z1))))) : Option ((Unit) ⊕ ((Mm) ⊕ (Mm)))) (fun p10 => some (.inl (sI z1 7 9 ((mI z1 7 9) + (1 : Int32))))))))
noncomputable def m_X5_nextToken_b103 (S : Sk) (z32 : Mm) : Option ((Mm) ⊕ (Mm)) := if (mI z32 7 6) ≤ (mI z32 7 10) then (some (.inr z32)) else ((m_X5_isLetter S (mI z32 7 10) z32).bind (fun q39 => if q39 = 0 then (some (.inr z32)) else (some (.inl (sI z32 7 10 ((mI z32 7 10) + (1 : Int32)))))))
noncomputable def m_X5_nextToken (S : Sk) (mm : Mm) : Option (Mm) := (whileF FU (m_X5_nextToken_b8 S) (sI mm 7 9 (mI mm 7 10))).bind (fun p2 => if (mI (sI p2 7 10 (mI p2 7 9)) 7 9) < (mI (sI p2 7 10 (mI p2 7 9)) 7 6) then ((m_X5_isLetter S (mI (sI p2 7 10 (mI p2 7 9)) 7 9) (sI p2 7 10 (mI p2 7 9))).bind (fun q18 => if q18 = 0 then ((m_X5_isDigit S (mI (sI p2 7 10 (mI p2 7 9)) 7 9) (sI p2 7 10 (mI p2 7 9))).bind (fun q21 => if q21 = 0 then (gR (sR S 7 5) 2 (grd (mI (sI p2 7 10 (mI p2 7 9)) 7 9) 600 (some (sI (sI (sI p2 7 10 (mI p2 7 9)) 7 8 (if (mI (sI p2 7 10 (mI p2 7 9)) 2 (ix (mI (sI p2 7 10 (mI p2 7 9)) 7 9))) = (59 : Int32) then (3 : Int32) else (4 : Int32))) 7 10 ((mI (sI (sI p2 7 10 (mI p2 7 9)) 7 8 (if (mI (sI p2 7 10 (mI p2 7 9)) 2 (ix (mI (sI p2 7 10 (mI p2 7 9)) 7 9))) = (59 : Int32) then (3 : Int32) else (4 : Int32))) 7 10) + (1 : Int32)))))) else ((m_X5_takeNumber S (sI p2 7 10 (mI p2 7 9))).bind (fun q30 => some q30)))) else ((whileF FU (m_X5_nextToken_b103 S) (sI (sI p2 7 10 (mI p2 7 9)) 7 8 (1 : Int32))).bind (fun p33 => some p33)))) else (some (sI (sI p2 7 10 (mI p2 7 9)) 7 8 (0 : Int32))))
set_option maxHeartbeats 4000000 in
set_option maxRecDepth 100000 in
theorem c_X5_nextToken {l : Launch} {G : Gt} {S : Sk} {mm : Mm} (hS : Lay S) {q : Mm} (e : m_X5_nextToken S mm = some q) : CallOK l G M_X5_nextToken yX5_nextToken 2 [vr (some 7)] S mm (none) S q := by
  refine call_of_run rfl rfl rfl (Nat.le_of_ble_eq_true rfl) ?_
  show Run l G M_X5_nextToken 2 0 [some (vr (some 7))] [] S mm (none) S q
  unfold m_X5_nextToken at e
  refine r_aload_n dX5_nextToken_0 rfl ?_
  refine r_aload_n dX5_nextToken_1 rfl ?_
  refine r_getI dX5_nextToken_2 fl_X5_50 rfl (lp_7 hS) (lq_7 hS) ?_
  refine r_putI dX5_nextToken_5 fl_X5_47 ft_5_9 (Or.inl rfl) rfl rfl rfl (lp_7 hS) (lq_7 hS) ?_
  obtain ⟨p2, eb6w, e⟩ := obind e
  have J3a : Run l G M_X5_nextToken 2 60 [some (vr (some 7))] [] S p2 (none) S q := by
    refine r_aload_n dX5_nextToken_60 rfl ?_
    refine r_aload_n dX5_nextToken_61 rfl ?_
    refine r_getI dX5_nextToken_62 fl_X5_47 rfl (lp_7 hS) (lq_7 hS) ?_
    refine r_putI dX5_nextToken_65 fl_X5_50 ft_5_10 (Or.inl rfl) rfl rfl rfl (lp_7 hS) (lq_7 hS) ?_
    refine r_aload_n dX5_nextToken_68 rfl ?_
    refine r_getI dX5_nextToken_69 fl_X5_47 rfl (lp_7 hS) (lq_7 hS) ?_
    refine r_aload_n dX5_nextToken_72 rfl ?_
    refine r_getI dX5_nextToken_73 fl_X5_38 rfl (lp_7 hS) (lq_7 hS) ?_
    refine r_icmp_lt (tgt := 87) dX5_nextToken_76 rfl (fun h17 => ?_) (fun h17 => ?_)
    · replace e := ite_t h17 e
      refine r_aload_n dX5_nextToken_87 rfl ?_
      refine r_aload_n dX5_nextToken_88 rfl ?_
      refine r_getI dX5_nextToken_89 fl_X5_47 rfl (lp_7 hS) (lq_7 hS) ?_
      obtain ⟨q18, eq19, e⟩ := obind e
      refine r_callV (as := [_]) (rest := []) dX5_nextToken_92 ml_X5_124 yV_X5_isLetter (c_X5_isLetter hS eq19) (by decide) rfl (lp_7 hS) (lq_7 hS) (Nat.le_of_ble_eq_true rfl) ?_
      refine r_if_eq (tgt := 138) dX5_nextToken_95 rfl (fun h20 => ?_) (fun h20 => ?_)
      · replace e := ite_t h20 e
        refine r_aload_n dX5_nextToken_138 rfl ?_
        refine r_aload_n dX5_nextToken_139 rfl ?_
        refine r_getI dX5_nextToken_140 fl_X5_47 rfl (lp_7 hS) (lq_7 hS) ?_
        obtain ⟨q21, eq22, e⟩ := obind e
        refine r_callV (as := [_]) (rest := []) dX5_nextToken_143 ml_X5_127 yV_X5_isDigit (c_X5_isDigit hS eq22) (by decide) rfl (lp_7 hS) (lq_7 hS) (Nat.le_of_ble_eq_true rfl) ?_
        refine r_if_eq (tgt := 156) dX5_nextToken_146 rfl (fun h23 => ?_) (fun h23 => ?_)
        · replace e := ite_t h23 e
          refine r_aload_n dX5_nextToken_156 rfl ?_
          refine r_aload_n dX5_nextToken_157 rfl ?_
          obtain ⟨hr24, e⟩ := gR_some e
          refine r_getR dX5_nextToken_158 fl_X5_34 rfl (lp_7 hS) (lq_7 hS) hr24 ?_
          refine r_aload_n dX5_nextToken_161 rfl ?_
          refine r_getI dX5_nextToken_162 fl_X5_47 rfl (lp_7 hS) (lq_7 hS) ?_
          obtain ⟨hg25, e⟩ := grd_some e
          refine r_bald dX5_nextToken_165 (lp_2 hS) (lk_2 hS) hg25 ?_
          refine r_bipush (v := 59) dX5_nextToken_166 cb_59 ?_
          have J28 : ∀ (w27 : Int32), w27 = (if (mI (sI p2 7 10 (mI p2 7 9)) 2 (ix (mI (sI p2 7 10 (mI p2 7 9)) 7 9))) = (59 : Int32) then (3 : Int32) else (4 : Int32)) → Run l G M_X5_nextToken 2 176 [some (vr (some 7))] [vi w27, vr (some 7)] S (sI p2 7 10 (mI p2 7 9)) (none) S q := by
            intro w27 hw29
            subst hw29
            refine r_putI dX5_nextToken_176 fl_X5_44 ft_5_8 (Or.inl rfl) rfl rfl rfl (lp_7 hS) (lq_7 hS) ?_
            refine r_aload_n dX5_nextToken_179 rfl ?_
            refine r_dup dX5_nextToken_180 rfl ?_
            refine r_getI dX5_nextToken_181 fl_X5_50 rfl (lp_7 hS) (lq_7 hS) ?_
            refine r_iconst (v := 1) dX5_nextToken_184 ci_1 ?_
            refine r_iadd dX5_nextToken_185 ?_
            refine r_putI dX5_nextToken_186 fl_X5_50 ft_5_10 (Or.inl rfl) rfl rfl rfl (lp_7 hS) (lq_7 hS) ?_
            cases e
            exact r_return dX5_nextToken_189 rfl
          refine r_icmp_ne (tgt := 175) dX5_nextToken_168 rfl (fun h26 => ?_) (fun h26 => ?_)
          · refine r_iconst (v := 4) dX5_nextToken_175 ci_4 ?_
            exact r_weak (L' := [some (vr (some 7))]) ⟨rfl, trivial⟩ (J28 _ (Eq.symm (if_neg h26)))
          · refine r_iconst (v := 3) dX5_nextToken_171 ci_3 ?_
            refine r_goto (tgt := 176) dX5_nextToken_172 rfl ?_
            exact r_weak (L' := [some (vr (some 7))]) ⟨rfl, trivial⟩ (J28 _ (Eq.symm (if_pos h26)))
        · replace e := ite_f h23 e
          refine r_aload_n dX5_nextToken_149 rfl ?_
          obtain ⟨q30, eq31, e⟩ := obind e
          refine r_callV (as := []) (rest := []) dX5_nextToken_150 ml_X5_130 yV_X5_takeNumber (c_X5_takeNumber hS eq31) (by decide) rfl (lp_7 hS) (lq_7 hS) (Nat.le_of_ble_eq_true rfl) ?_
          refine r_goto (tgt := 189) dX5_nextToken_153 rfl ?_
          cases e
          exact r_return dX5_nextToken_189 rfl
      · replace e := ite_f h20 e
        refine r_aload_n dX5_nextToken_98 rfl ?_
        refine r_iconst (v := 1) dX5_nextToken_99 ci_1 ?_
        refine r_putI dX5_nextToken_100 fl_X5_44 ft_5_8 (Or.inl rfl) rfl rfl rfl (lp_7 hS) (lq_7 hS) ?_
        obtain ⟨p33, eb37w, e⟩ := obind e
        have J34a : Run l G M_X5_nextToken 2 189 [none] [] S p33 (none) S q := by
          cases e
          exact r_return dX5_nextToken_189 rfl
        have J34 : ∀ pp : Mm, pp = p33 → Run l G M_X5_nextToken 2 189 [none] [] S pp (none) S q := by
          intro pp hpp
          rw [hpp]
          exact J34a
        have J34w : Run l G M_X5_nextToken 2 103 [some (vr (some 7))] [] S (sI (sI p2 7 10 (mI p2 7 9)) 7 8 (1 : Int32)) (none) S q := by
          refine while_run (s := (sI (sI p2 7 10 (mI p2 7 9)) 7 8 (1 : Int32))) (Gs := fun (z32 : Mm) => Run l G M_X5_nextToken 2 103 [some (vr (some 7))] [] S z32 (none) S q) eb37w ?_
          intro z32 x35y eb37 hx36
          unfold m_X5_nextToken_b103 at eb37
          refine r_aload_n dX5_nextToken_103 rfl ?_
          refine r_getI dX5_nextToken_104 fl_X5_50 rfl (lp_7 hS) (lq_7 hS) ?_
          refine r_aload_n dX5_nextToken_107 rfl ?_
          refine r_getI dX5_nextToken_108 fl_X5_38 rfl (lp_7 hS) (lq_7 hS) ?_
          refine r_icmp_ge (tgt := 189) dX5_nextToken_111 rfl (fun h38 => ?_) (fun h38 => ?_)
          · replace eb37 := ite_t h38 eb37
            cases eb37
            exact r_weak (L' := [none]) trivial (J34 _ hx36)
          · replace eb37 := ite_f h38 eb37
            refine r_aload_n dX5_nextToken_114 rfl ?_
            refine r_aload_n dX5_nextToken_115 rfl ?_
            refine r_getI dX5_nextToken_116 fl_X5_50 rfl (lp_7 hS) (lq_7 hS) ?_
            obtain ⟨q39, eq40, eb37⟩ := obind eb37
            refine r_callV (as := [_]) (rest := []) dX5_nextToken_119 ml_X5_124 yV_X5_isLetter (c_X5_isLetter hS eq40) (by decide) rfl (lp_7 hS) (lq_7 hS) (Nat.le_of_ble_eq_true rfl) ?_
            refine r_if_eq (tgt := 189) dX5_nextToken_122 rfl (fun h41 => ?_) (fun h41 => ?_)
            · replace eb37 := ite_t h41 eb37
              cases eb37
              exact r_weak (L' := [none]) trivial (J34 _ hx36)
            · replace eb37 := ite_f h41 eb37
              refine r_aload_n dX5_nextToken_125 rfl ?_
              refine r_dup dX5_nextToken_126 rfl ?_
              refine r_getI dX5_nextToken_127 fl_X5_50 rfl (lp_7 hS) (lq_7 hS) ?_
              refine r_iconst (v := 1) dX5_nextToken_130 ci_1 ?_
              refine r_iadd dX5_nextToken_131 ?_
              refine r_putI dX5_nextToken_132 fl_X5_50 ft_5_10 (Or.inl rfl) rfl rfl rfl (lp_7 hS) (lq_7 hS) ?_
              refine r_goto (tgt := 103) dX5_nextToken_135 rfl ?_
              cases eb37
              exact r_weak (L' := [some (vr (some 7))]) ⟨rfl, trivial⟩ hx36
        exact r_weak (L' := [some (vr (some 7))]) ⟨rfl, trivial⟩ J34w
    · replace e := ite_f h17 e
      refine r_aload_n dX5_nextToken_79 rfl ?_
      refine r_iconst (v := 0) dX5_nextToken_80 ci_0 ?_
      refine r_putI dX5_nextToken_81 fl_X5_44 ft_5_8 (Or.inl rfl) rfl rfl rfl (lp_7 hS) (lq_7 hS) ?_
      refine r_goto (tgt := 189) dX5_nextToken_84 rfl ?_
      cases e
      exact r_return dX5_nextToken_189 rfl
  have J3 : ∀ pp : Mm, pp = p2 → Run l G M_X5_nextToken 2 60 [some (vr (some 7))] [] S pp (none) S q := by
    intro pp hpp
    rw [hpp]
    exact J3a
  have J3w : Run l G M_X5_nextToken 2 8 [some (vr (some 7))] [] S (sI mm 7 9 (mI mm 7 10)) (none) S q := by
    refine while_run (s := (sI mm 7 9 (mI mm 7 10))) (Gs := fun (z1 : Mm) => Run l G M_X5_nextToken 2 8 [some (vr (some 7))] [] S z1 (none) S q) eb6w ?_
    intro z1 x4y eb6 hx5
    unfold m_X5_nextToken_b8 at eb6
    refine r_aload_n dX5_nextToken_8 rfl ?_
    refine r_getI dX5_nextToken_9 fl_X5_47 rfl (lp_7 hS) (lq_7 hS) ?_
    refine r_aload_n dX5_nextToken_12 rfl ?_
    refine r_getI dX5_nextToken_13 fl_X5_38 rfl (lp_7 hS) (lq_7 hS) ?_
    refine r_icmp_ge (tgt := 60) dX5_nextToken_16 rfl (fun h7 => ?_) (fun h7 => ?_)
    · replace eb6 := ite_t h7 eb6
      cases eb6
      exact r_weak (L' := [some (vr (some 7))]) ⟨rfl, trivial⟩ (J3 _ hx5)
    · replace eb6 := ite_f h7 eb6
      refine r_aload_n dX5_nextToken_19 rfl ?_
      obtain ⟨hr8, eb6⟩ := gR_some eb6
      refine r_getR dX5_nextToken_20 fl_X5_34 rfl (lp_7 hS) (lq_7 hS) hr8 ?_
      refine r_aload_n dX5_nextToken_23 rfl ?_
      refine r_getI dX5_nextToken_24 fl_X5_47 rfl (lp_7 hS) (lq_7 hS) ?_
      obtain ⟨hg9, eb6⟩ := grd_some eb6
      refine r_bald dX5_nextToken_27 (lp_2 hS) (lk_2 hS) hg9 ?_
      refine r_bipush (v := 32) dX5_nextToken_28 cb_32 ?_
      obtain ⟨x13, ep12, elx13, erx13⟩ := bS_some eb6
      have J11 : ∀ p10 : Unit, x13 = .inl p10 → Run l G M_X5_nextToken 2 47 [some (vr (some 7))] [] S z1 (none) S q := by
        intro p10 hp10
        replace eb6 := elx13 p10 hp10
        refine r_aload_n dX5_nextToken_47 rfl ?_
        refine r_dup dX5_nextToken_48 rfl ?_
        refine r_getI dX5_nextToken_49 fl_X5_47 rfl (lp_7 hS) (lq_7 hS) ?_
        refine r_iconst (v := 1) dX5_nextToken_52 ci_1 ?_
        refine r_iadd dX5_nextToken_53 ?_
        refine r_putI dX5_nextToken_54 fl_X5_47 ft_5_9 (Or.inl rfl) rfl rfl rfl (lp_7 hS) (lq_7 hS) ?_
        refine r_goto (tgt := 8) dX5_nextToken_57 rfl ?_
        cases eb6
        exact r_weak (L' := [some (vr (some 7))]) ⟨rfl, trivial⟩ hx5
      refine r_icmp_eq (tgt := 47) dX5_nextToken_30 rfl (fun h14 => ?_) (fun h14 => ?_)
      · replace ep12 := ite_t h14 ep12
        cases ep12
        exact r_weak (L' := [some (vr (some 7))]) ⟨rfl, trivial⟩ (J11 _ rfl)
      · replace ep12 := ite_f h14 ep12
        refine r_aload_n dX5_nextToken_33 rfl ?_
        refine r_getR dX5_nextToken_34 fl_X5_34 rfl (lp_7 hS) (lq_7 hS) hr8 ?_
        refine r_aload_n dX5_nextToken_37 rfl ?_
        refine r_getI dX5_nextToken_38 fl_X5_47 rfl (lp_7 hS) (lq_7 hS) ?_
        obtain ⟨hg15, ep12⟩ := grd_some ep12
        refine r_bald dX5_nextToken_41 (lp_2 hS) (lk_2 hS) hg15 ?_
        refine r_bipush (v := 10) dX5_nextToken_42 cb_10 ?_
        refine r_icmp_ne (tgt := 60) dX5_nextToken_44 rfl (fun h16 => ?_) (fun h16 => ?_)
        · replace ep12 := ite_f h16 ep12
          cases ep12
          have eb6 := congrArg some (erx13 _ rfl)
          cases eb6
          exact r_weak (L' := [some (vr (some 7))]) ⟨rfl, trivial⟩ (J3 _ hx5)
        · replace ep12 := ite_t h16 ep12
          cases ep12
          exact r_weak (L' := [some (vr (some 7))]) ⟨rfl, trivial⟩ (J11 _ rfl)
  exact r_weak (L' := [some (vr (some 7))]) ⟨rfl, trivial⟩ J3w
noncomputable def m_X5_countyWord (a0 : Int32) : Option (Nat) := if a0 = (0 : Int32) then (some 1) else (if a0 = (1 : Int32) then (some 2) else (if a0 = (2 : Int32) then (some 3) else (if a0 = (3 : Int32) then (some 4) else (if a0 = (4 : Int32) then (some 5) else (some 6)))))
set_option maxHeartbeats 4000000 in
set_option maxRecDepth 100000 in
theorem c_X5_countyWord {l : Launch} {G : Gt} {S : Sk} {a0 : Int32} {mm : Mm} {q : Nat} (e : m_X5_countyWord a0 = some q) : CallOK l G M_X5_countyWord yX5_countyWord 0 [vi a0] S mm (some (vx q)) S mm := by
  refine call_of_run rfl rfl rfl (Nat.le_of_ble_eq_true rfl) ?_
  show Run l G M_X5_countyWord 0 0 [some (vi a0)] [] S mm (some (vx q)) S mm
  unfold m_X5_countyWord at e
  refine r_iload_n dX5_countyWord_0 rfl ?_
  by_cases h1 : a0 = (0 : Int32)
  · replace e := ite_t h1 e
    refine r_table_in (tgt := 36) dX5_countyWord_1 (by rw [h1]; decide) (by rw [h1]; decide) (by rw [h1]; rfl) rfl ?_
    refine r_ldcs (n := 0) dX5_countyWord_36 rfl (by decide) rfl ?_
    cases e
    exact r_areturn dX5_countyWord_38 rfl (Or.inl ⟨_, rfl⟩) (Or.inr ⟨_, rfl⟩)
  replace e := ite_f h1 e
  by_cases h2 : a0 = (1 : Int32)
  · replace e := ite_t h2 e
    refine r_table_in (tgt := 39) dX5_countyWord_1 (by rw [h2]; decide) (by rw [h2]; decide) (by rw [h2]; rfl) rfl ?_
    refine r_ldcs (n := 1) dX5_countyWord_39 rfl (by decide) rfl ?_
    cases e
    exact r_areturn dX5_countyWord_41 rfl (Or.inl ⟨_, rfl⟩) (Or.inr ⟨_, rfl⟩)
  replace e := ite_f h2 e
  by_cases h3 : a0 = (2 : Int32)
  · replace e := ite_t h3 e
    refine r_table_in (tgt := 42) dX5_countyWord_1 (by rw [h3]; decide) (by rw [h3]; decide) (by rw [h3]; rfl) rfl ?_
    refine r_ldcs (n := 2) dX5_countyWord_42 rfl (by decide) rfl ?_
    cases e
    exact r_areturn dX5_countyWord_44 rfl (Or.inl ⟨_, rfl⟩) (Or.inr ⟨_, rfl⟩)
  replace e := ite_f h3 e
  by_cases h4 : a0 = (3 : Int32)
  · replace e := ite_t h4 e
    refine r_table_in (tgt := 45) dX5_countyWord_1 (by rw [h4]; decide) (by rw [h4]; decide) (by rw [h4]; rfl) rfl ?_
    refine r_ldcs (n := 3) dX5_countyWord_45 rfl (by decide) rfl ?_
    cases e
    exact r_areturn dX5_countyWord_47 rfl (Or.inl ⟨_, rfl⟩) (Or.inr ⟨_, rfl⟩)
  replace e := ite_f h4 e
  by_cases h5 : a0 = (4 : Int32)
  · replace e := ite_t h5 e
    refine r_table_in (tgt := 48) dX5_countyWord_1 (by rw [h5]; decide) (by rw [h5]; decide) (by rw [h5]; rfl) rfl ?_
    refine r_ldcs (n := 4) dX5_countyWord_48 rfl (by decide) rfl ?_
    cases e
    exact r_areturn dX5_countyWord_50 rfl (Or.inl ⟨_, rfl⟩) (Or.inr ⟨_, rfl⟩)
  replace e := ite_f h5 e
  have ho1 : (a0).toInt < 0 ∨ 4 < (a0).toInt := by
    have nh1 := lv_neT (a := 0) h1 (by decide)
    have nh2 := lv_neT (a := 1) h2 (by decide)
    have nh3 := lv_neT (a := 2) h3 (by decide)
    have nh4 := lv_neT (a := 3) h4 (by decide)
    have nh5 := lv_neT (a := 4) h5 (by decide)
    omega
  refine r_table_out (tgt := 51) dX5_countyWord_1 ho1 rfl ?_
  refine r_ldcs (n := 5) dX5_countyWord_51 rfl (by decide) rfl ?_
  cases e
  exact r_areturn dX5_countyWord_53 rfl (Or.inl ⟨_, rfl⟩) (Or.inr ⟨_, rfl⟩)
noncomputable def m_X5_termWord (a0 : Int32) : Option (Nat) := if a0 = (0 : Int32) then (some 7) else (if a0 = (1 : Int32) then (some 8) else (if a0 = (2 : Int32) then (some 9) else (if a0 = (3 : Int32) then (some 10) else (if a0 = (4 : Int32) then (some 11) else (if a0 = (5 : Int32) then (some 12) else (if a0 = (6 : Int32) then (some 13) else (some 6)))))))
set_option maxHeartbeats 4000000 in
set_option maxRecDepth 100000 in
theorem c_X5_termWord {l : Launch} {G : Gt} {S : Sk} {a0 : Int32} {mm : Mm} {q : Nat} (e : m_X5_termWord a0 = some q) : CallOK l G M_X5_termWord yX5_termWord 0 [vi a0] S mm (some (vx q)) S mm := by
  refine call_of_run rfl rfl rfl (Nat.le_of_ble_eq_true rfl) ?_
  show Run l G M_X5_termWord 0 0 [some (vi a0)] [] S mm (some (vx q)) S mm
  unfold m_X5_termWord at e
  refine r_iload_n dX5_termWord_0 rfl ?_
  by_cases h1 : a0 = (0 : Int32)
  · replace e := ite_t h1 e
    refine r_table_in (tgt := 44) dX5_termWord_1 (by rw [h1]; decide) (by rw [h1]; decide) (by rw [h1]; rfl) rfl ?_
    refine r_ldcs (n := 6) dX5_termWord_44 rfl (by decide) rfl ?_
    cases e
    exact r_areturn dX5_termWord_46 rfl (Or.inl ⟨_, rfl⟩) (Or.inr ⟨_, rfl⟩)
  replace e := ite_f h1 e
  by_cases h2 : a0 = (1 : Int32)
  · replace e := ite_t h2 e
    refine r_table_in (tgt := 47) dX5_termWord_1 (by rw [h2]; decide) (by rw [h2]; decide) (by rw [h2]; rfl) rfl ?_
    refine r_ldcs (n := 7) dX5_termWord_47 rfl (by decide) rfl ?_
    cases e
    exact r_areturn dX5_termWord_49 rfl (Or.inl ⟨_, rfl⟩) (Or.inr ⟨_, rfl⟩)
  replace e := ite_f h2 e
  by_cases h3 : a0 = (2 : Int32)
  · replace e := ite_t h3 e
    refine r_table_in (tgt := 50) dX5_termWord_1 (by rw [h3]; decide) (by rw [h3]; decide) (by rw [h3]; rfl) rfl ?_
    refine r_ldcs (n := 8) dX5_termWord_50 rfl (by decide) rfl ?_
    cases e
    exact r_areturn dX5_termWord_52 rfl (Or.inl ⟨_, rfl⟩) (Or.inr ⟨_, rfl⟩)
  replace e := ite_f h3 e
  by_cases h4 : a0 = (3 : Int32)
  · replace e := ite_t h4 e
    refine r_table_in (tgt := 53) dX5_termWord_1 (by rw [h4]; decide) (by rw [h4]; decide) (by rw [h4]; rfl) rfl ?_
    refine r_ldcs (n := 9) dX5_termWord_53 rfl (by decide) rfl ?_
    cases e
    exact r_areturn dX5_termWord_55 rfl (Or.inl ⟨_, rfl⟩) (Or.inr ⟨_, rfl⟩)
  replace e := ite_f h4 e
  by_cases h5 : a0 = (4 : Int32)
  · replace e := ite_t h5 e
    refine r_table_in (tgt := 56) dX5_termWord_1 (by rw [h5]; decide) (by rw [h5]; decide) (by rw [h5]; rfl) rfl ?_
    refine r_ldcs (n := 10) dX5_termWord_56 rfl (by decide) rfl ?_
    cases e
    exact r_areturn dX5_termWord_58 rfl (Or.inl ⟨_, rfl⟩) (Or.inr ⟨_, rfl⟩)
  replace e := ite_f h5 e
  by_cases h6 : a0 = (5 : Int32)
  · replace e := ite_t h6 e
    refine r_table_in (tgt := 59) dX5_termWord_1 (by rw [h6]; decide) (by rw [h6]; decide) (by rw [h6]; rfl) rfl ?_
    refine r_ldcs (n := 11) dX5_termWord_59 rfl (by decide) rfl ?_
    cases e
    exact r_areturn dX5_termWord_61 rfl (Or.inl ⟨_, rfl⟩) (Or.inr ⟨_, rfl⟩)
  replace e := ite_f h6 e
  by_cases h7 : a0 = (6 : Int32)
  · replace e := ite_t h7 e
    refine r_table_in (tgt := 62) dX5_termWord_1 (by rw [h7]; decide) (by rw [h7]; decide) (by rw [h7]; rfl) rfl ?_
    refine r_ldcs (n := 12) dX5_termWord_62 rfl (by decide) rfl ?_
    cases e
    exact r_areturn dX5_termWord_64 rfl (Or.inl ⟨_, rfl⟩) (Or.inr ⟨_, rfl⟩)
  replace e := ite_f h7 e
  have ho1 : (a0).toInt < 0 ∨ 6 < (a0).toInt := by
    have nh1 := lv_neT (a := 0) h1 (by decide)
    have nh2 := lv_neT (a := 1) h2 (by decide)
    have nh3 := lv_neT (a := 2) h3 (by decide)
    have nh4 := lv_neT (a := 3) h4 (by decide)
    have nh5 := lv_neT (a := 4) h5 (by decide)
    have nh6 := lv_neT (a := 5) h6 (by decide)
    have nh7 := lv_neT (a := 6) h7 (by decide)
    omega
  refine r_table_out (tgt := 65) dX5_termWord_1 ho1 rfl ?_
  refine r_ldcs (n := 5) dX5_termWord_65 rfl (by decide) rfl ?_
  cases e
  exact r_areturn dX5_termWord_67 rfl (Or.inl ⟨_, rfl⟩) (Or.inr ⟨_, rfl⟩)
noncomputable def m_X5_wordOf (a0 : Int32) (a1 : Int32) : Option (Nat) := if a0 = (0 : Int32) then ((m_X5_countyWord a1).bind (fun q2 => some q2)) else (if a0 = (1 : Int32) then ((m_X5_termWord a1).bind (fun q5 => some q5)) else (if a0 = (2 : Int32) then (if a1 = 0 then (some 14) else (some 6)) else (if a1 = (1 : Int32) then (some 15) else (if a1 = 0 then (some 16) else (some 6)))))
set_option maxHeartbeats 4000000 in
set_option maxRecDepth 100000 in
theorem c_X5_wordOf {l : Launch} {G : Gt} {S : Sk} {a0 : Int32} {a1 : Int32} {mm : Mm} {q : Nat} (e : m_X5_wordOf a0 a1 = some q) : CallOK l G M_X5_wordOf yX5_wordOf 1 [vi a0, vi a1] S mm (some (vx q)) S mm := by
  refine call_of_run rfl rfl rfl (Nat.le_of_ble_eq_true rfl) ?_
  show Run l G M_X5_wordOf 1 0 [some (vi a0), some (vi a1)] [] S mm (some (vx q)) S mm
  unfold m_X5_wordOf at e
  refine r_iload_n dX5_wordOf_0 rfl ?_
  by_cases h1 : a0 = (0 : Int32)
  · replace e := ite_t h1 e
    refine r_table_in (tgt := 28) dX5_wordOf_1 (by rw [h1]; decide) (by rw [h1]; decide) (by rw [h1]; rfl) rfl ?_
    refine r_iload_n dX5_wordOf_28 rfl ?_
    obtain ⟨q2, eq3, e⟩ := obind e
    refine r_callS (as := [_]) (rest := []) dX5_wordOf_29 ml_X5_133 yS_X5_countyWord (c_X5_countyWord eq3) (by decide) rfl (Nat.le_of_ble_eq_true rfl) ?_
    cases e
    exact r_areturn dX5_wordOf_32 rfl (Or.inl ⟨_, rfl⟩) (Or.inr ⟨_, rfl⟩)
  replace e := ite_f h1 e
  by_cases h4 : a0 = (1 : Int32)
  · replace e := ite_t h4 e
    refine r_table_in (tgt := 33) dX5_wordOf_1 (by rw [h4]; decide) (by rw [h4]; decide) (by rw [h4]; rfl) rfl ?_
    refine r_iload_n dX5_wordOf_33 rfl ?_
    obtain ⟨q5, eq6, e⟩ := obind e
    refine r_callS (as := [_]) (rest := []) dX5_wordOf_34 ml_X5_137 yS_X5_termWord (c_X5_termWord eq6) (by decide) rfl (Nat.le_of_ble_eq_true rfl) ?_
    cases e
    exact r_areturn dX5_wordOf_37 rfl (Or.inl ⟨_, rfl⟩) (Or.inr ⟨_, rfl⟩)
  replace e := ite_f h4 e
  by_cases h7 : a0 = (2 : Int32)
  · replace e := ite_t h7 e
    refine r_table_in (tgt := 38) dX5_wordOf_1 (by rw [h7]; decide) (by rw [h7]; decide) (by rw [h7]; rfl) rfl ?_
    refine r_iload_n dX5_wordOf_38 rfl ?_
    refine r_if_ne (tgt := 47) dX5_wordOf_39 rfl (fun h8 => ?_) (fun h8 => ?_)
    · replace e := ite_f h8 e
      refine r_ldcs (n := 5) dX5_wordOf_47 rfl (by decide) rfl ?_
      cases e
      exact r_areturn dX5_wordOf_49 rfl (Or.inl ⟨_, rfl⟩) (Or.inr ⟨_, rfl⟩)
    · replace e := ite_t h8 e
      refine r_ldcs (n := 13) dX5_wordOf_42 rfl (by decide) rfl ?_
      refine r_goto (tgt := 49) dX5_wordOf_44 rfl ?_
      cases e
      exact r_areturn dX5_wordOf_49 rfl (Or.inl ⟨_, rfl⟩) (Or.inr ⟨_, rfl⟩)
  replace e := ite_f h7 e
  have ho1 : (a0).toInt < 0 ∨ 2 < (a0).toInt := by
    have nh1 := lv_neT (a := 0) h1 (by decide)
    have nh4 := lv_neT (a := 1) h4 (by decide)
    have nh7 := lv_neT (a := 2) h7 (by decide)
    omega
  refine r_table_out (tgt := 50) dX5_wordOf_1 ho1 rfl ?_
  refine r_iload_n dX5_wordOf_50 rfl ?_
  refine r_iconst (v := 1) dX5_wordOf_51 ci_1 ?_
  refine r_icmp_ne (tgt := 60) dX5_wordOf_52 rfl (fun h9 => ?_) (fun h9 => ?_)
  · replace e := ite_f h9 e
    refine r_iload_n dX5_wordOf_60 rfl ?_
    refine r_if_ne (tgt := 69) dX5_wordOf_61 rfl (fun h10 => ?_) (fun h10 => ?_)
    · replace e := ite_f h10 e
      refine r_ldcs (n := 5) dX5_wordOf_69 rfl (by decide) rfl ?_
      cases e
      exact r_areturn dX5_wordOf_71 rfl (Or.inl ⟨_, rfl⟩) (Or.inr ⟨_, rfl⟩)
    · replace e := ite_t h10 e
      refine r_ldcs (n := 15) dX5_wordOf_64 rfl (by decide) rfl ?_
      refine r_goto (tgt := 71) dX5_wordOf_66 rfl ?_
      cases e
      exact r_areturn dX5_wordOf_71 rfl (Or.inl ⟨_, rfl⟩) (Or.inr ⟨_, rfl⟩)
  · replace e := ite_t h9 e
    refine r_ldcs (n := 14) dX5_wordOf_55 rfl (by decide) rfl ?_
    refine r_goto (tgt := 71) dX5_wordOf_57 rfl ?_
    cases e
    exact r_areturn dX5_wordOf_71 rfl (Or.inl ⟨_, rfl⟩) (Or.inr ⟨_, rfl⟩)
noncomputable def m_X5_isWord_b20 (a1 : Nat) (mm : Mm) (S : Sk) (z4 : Int32) : Option ((Int32) ⊕ ((Unit) ⊕ (Int32))) := (m_slen a1).bind (fun q10 => if q10 ≤ z4 then (some (.inr (.inl ()))) else (gR (sR S 7 5) 2 (grd ((mI mm 7 9) + z4) 600 ((m_schar a1 z4).bind (fun q15 => if (mI mm 2 (ix ((mI mm 7 9) + z4))) = q15 then (some (.inl (z4 + (1 : Int32)))) else (some (.inr (.inr (0 : Int32)))))))))
noncomputable def m_X5_isWord (S : Sk) (a1 : Nat) (mm : Mm) : Option (Int32) := (m_slen a1).bind (fun q1 => if q1 = ((mI mm 7 10) - (mI mm 7 9)) then (bS (whileF FU (m_X5_isWord_b20 a1 mm S) (0 : Int32)) (fun p5 => some (1 : Int32))) else (some (0 : Int32)))
set_option maxHeartbeats 4000000 in
set_option maxRecDepth 100000 in
theorem c_X5_isWord {l : Launch} {G : Gt} {S : Sk} {a1 : Nat} {mm : Mm} (hS : Lay S) {q : Int32} (e : m_X5_isWord S a1 mm = some q) : CallOK l G M_X5_isWord yX5_isWord 4 [vr (some 7), vx a1] S mm (some (vi q)) S mm := by
  refine call_of_run rfl rfl rfl (Nat.le_of_ble_eq_true rfl) ?_
  show Run l G M_X5_isWord 4 0 [some (vr (some 7)), some (vx a1), none] [] S mm (some (vi q)) S mm
  unfold m_X5_isWord at e
  refine r_aload_nx dX5_isWord_0 rfl ?_
  obtain ⟨q1, eq2, e⟩ := obind e
  refine r_callVY (as := []) (rest := []) (slen_dom eq2) dX5_isWord_1 ml_X5_94 yX_length (c_slen eq2) (by decide) rfl (Nat.le_of_ble_eq_true rfl) ?_
  refine r_aload_n dX5_isWord_4 rfl ?_
  refine r_getI dX5_isWord_5 fl_X5_50 rfl (lp_7 hS) (lq_7 hS) ?_
  refine r_aload_n dX5_isWord_8 rfl ?_
  refine r_getI dX5_isWord_9 fl_X5_47 rfl (lp_7 hS) (lq_7 hS) ?_
  refine r_isub dX5_isWord_12 ?_
  refine r_icmp_eq (tgt := 18) dX5_isWord_13 rfl (fun h3 => ?_) (fun h3 => ?_)
  · replace e := ite_t h3 e
    refine r_iconst (v := 0) dX5_isWord_18 ci_0 ?_
    refine r_istore_n dX5_isWord_19 (by decide) rfl ?_
    obtain ⟨x7, eb9w, elx7, erx7⟩ := bS_some e
    have J6 : ∀ p5 : Unit, x7 = .inl p5 → Run l G M_X5_isWord 4 55 [none, none, none] [] S mm (some (vi q)) S mm := by
      intro p5 hp5
      replace e := elx7 p5 hp5
      refine r_iconst (v := 1) dX5_isWord_55 ci_1 ?_
      cases e
      exact r_ireturn dX5_isWord_56 rfl (nz_b (by first | exact Or.inl rfl | exact Or.inr rfl)).1
    have J6w : Run l G M_X5_isWord 4 20 [some (vr (some 7)), some (vx a1), some (vi (0 : Int32))] [] S mm (some (vi q)) S mm := by
      refine while_run (s := (0 : Int32)) (Gs := fun (z4 : Int32) => Run l G M_X5_isWord 4 20 [some (vr (some 7)), some (vx a1), some (vi z4)] [] S mm (some (vi q)) S mm) eb9w ?_
      intro z4 x7y eb9 hx8
      unfold m_X5_isWord_b20 at eb9
      refine r_iload_n dX5_isWord_20 rfl ?_
      refine r_aload_nx dX5_isWord_21 rfl ?_
      obtain ⟨q10, eq11, eb9⟩ := obind eb9
      refine r_callVY (as := []) (rest := [_]) (slen_dom eq11) dX5_isWord_22 ml_X5_94 yX_length (c_slen eq11) (by decide) rfl (Nat.le_of_ble_eq_true rfl) ?_
      refine r_icmp_ge (tgt := 55) dX5_isWord_25 rfl (fun h12 => ?_) (fun h12 => ?_)
      · replace eb9 := ite_t h12 eb9
        cases eb9
        exact r_weak (L' := [none, none, none]) trivial (J6 _ (Eq.symm hx8))
      · replace eb9 := ite_f h12 eb9
        refine r_aload_n dX5_isWord_28 rfl ?_
        obtain ⟨hr13, eb9⟩ := gR_some eb9
        refine r_getR dX5_isWord_29 fl_X5_34 rfl (lp_7 hS) (lq_7 hS) hr13 ?_
        refine r_aload_n dX5_isWord_32 rfl ?_
        refine r_getI dX5_isWord_33 fl_X5_47 rfl (lp_7 hS) (lq_7 hS) ?_
        refine r_iload_n dX5_isWord_36 rfl ?_
        refine r_iadd dX5_isWord_37 ?_
        obtain ⟨hg14, eb9⟩ := grd_some eb9
        refine r_bald dX5_isWord_38 (lp_2 hS) (lk_2 hS) hg14 ?_
        refine r_aload_nx dX5_isWord_39 rfl ?_
        refine r_iload_n dX5_isWord_40 rfl ?_
        obtain ⟨q15, eq16, eb9⟩ := obind eb9
        refine r_callVY (as := [_]) (rest := [_]) (schar_dom eq16) dX5_isWord_41 ml_X5_106 yX_charAt (c_schar eq16) (by decide) rfl (Nat.le_of_ble_eq_true rfl) ?_
        refine r_icmp_eq (tgt := 49) dX5_isWord_44 rfl (fun h17 => ?_) (fun h17 => ?_)
        · replace eb9 := ite_t h17 eb9
          refine r_iinc (v := _ + (1 : Int32)) dX5_isWord_49 rfl (congrArg (_ + ·) ci_1) (by decide) rfl ?_
          refine r_goto (tgt := 20) dX5_isWord_52 rfl ?_
          cases eb9
          exact r_weak (L' := [some (vr (some 7)), some (vx a1), some (vi (z4 + (1 : Int32)))]) ⟨rfl, rfl, rfl, trivial⟩ hx8
        · replace eb9 := ite_f h17 eb9
          refine r_iconst (v := 0) dX5_isWord_47 ci_0 ?_
          cases eb9
          have e := congrArg some (erx7 _ (Eq.symm hx8))
          cases e
          exact r_ireturn dX5_isWord_48 rfl (nz_b (by first | exact Or.inl rfl | exact Or.inr rfl)).1
    exact r_weak (L' := [some (vr (some 7)), some (vx a1), some (vi (0 : Int32))]) ⟨rfl, rfl, rfl, trivial⟩ J6w
  · replace e := ite_f h3 e
    refine r_iconst (v := 0) dX5_isWord_16 ci_0 ?_
    cases e
    exact r_ireturn dX5_isWord_17 rfl (nz_b (by first | exact Or.inl rfl | exact Or.inr rfl)).1
noncomputable def m_X5_kindOfWord_b12 (mm : Mm) (S : Sk) (z2 : Int32) : Option ((Int32) ⊕ ((Unit) ⊕ (Int32))) := if (7 : Int32) ≤ z2 then (some (.inr (.inl ()))) else ((m_X5_wordOf (mI mm 7 7) z2).bind (fun q9 => (m_X5_isWord S q9 mm).bind (fun q11 => if q11 = 0 then (some (.inl (z2 + (1 : Int32)))) else (some (.inr (.inr z2))))))
noncomputable def m_X5_kindOfWord (S : Sk) (mm : Mm) : Option (Int32) := if (mI mm 7 8) = (1 : Int32) then (bS (whileF FU (m_X5_kindOfWord_b12 mm S) (0 : Int32)) (fun p3 => some (-1 : Int32))) else (some (-1 : Int32))
set_option maxHeartbeats 4000000 in
set_option maxRecDepth 100000 in
theorem c_X5_kindOfWord {l : Launch} {G : Gt} {S : Sk} {mm : Mm} (hS : Lay S) {q : Int32} (e : m_X5_kindOfWord S mm = some q) : CallOK l G M_X5_kindOfWord yX5_kindOfWord 5 [vr (some 7)] S mm (some (vi q)) S mm := by
  refine call_of_run rfl rfl rfl (Nat.le_of_ble_eq_true rfl) ?_
  show Run l G M_X5_kindOfWord 5 0 [some (vr (some 7)), none] [] S mm (some (vi q)) S mm
  unfold m_X5_kindOfWord at e
  refine r_aload_n dX5_kindOfWord_0 rfl ?_
  refine r_getI dX5_kindOfWord_1 fl_X5_44 rfl (lp_7 hS) (lq_7 hS) ?_
  refine r_iconst (v := 1) dX5_kindOfWord_4 ci_1 ?_
  refine r_icmp_eq (tgt := 10) dX5_kindOfWord_5 rfl (fun h1 => ?_) (fun h1 => ?_)
  · replace e := ite_t h1 e
    refine r_iconst (v := 0) dX5_kindOfWord_10 ci_0 ?_
    refine r_istore_n dX5_kindOfWord_11 (by decide) rfl ?_
    obtain ⟨x5, eb7w, elx5, erx5⟩ := bS_some e
    have J4 : ∀ p3 : Unit, x5 = .inl p3 → Run l G M_X5_kindOfWord 5 41 [none, none] [] S mm (some (vi q)) S mm := by
      intro p3 hp3
      replace e := elx5 p3 hp3
      refine r_iconst (v := -1) dX5_kindOfWord_41 ci_m1 ?_
      cases e
      exact r_ireturn dX5_kindOfWord_42 rfl rfl
    have J4w : Run l G M_X5_kindOfWord 5 12 [some (vr (some 7)), some (vi (0 : Int32))] [] S mm (some (vi q)) S mm := by
      refine while_run (s := (0 : Int32)) (Gs := fun (z2 : Int32) => Run l G M_X5_kindOfWord 5 12 [some (vr (some 7)), some (vi z2)] [] S mm (some (vi q)) S mm) eb7w ?_
      intro z2 x5y eb7 hx6
      unfold m_X5_kindOfWord_b12 at eb7
      refine r_iload_n dX5_kindOfWord_12 rfl ?_
      refine r_bipush (v := 7) dX5_kindOfWord_13 cb_7 ?_
      refine r_icmp_ge (tgt := 41) dX5_kindOfWord_15 rfl (fun h8 => ?_) (fun h8 => ?_)
      · replace eb7 := ite_t h8 eb7
        cases eb7
        exact r_weak (L' := [none, none]) trivial (J4 _ (Eq.symm hx6))
      · replace eb7 := ite_f h8 eb7
        refine r_aload_n dX5_kindOfWord_18 rfl ?_
        refine r_aload_n dX5_kindOfWord_19 rfl ?_
        refine r_getI dX5_kindOfWord_20 fl_X5_41 rfl (lp_7 hS) (lq_7 hS) ?_
        refine r_iload_n dX5_kindOfWord_23 rfl ?_
        obtain ⟨q9, eq10, eb7⟩ := obind eb7
        refine r_callS (as := [_, _]) (rest := [_]) dX5_kindOfWord_24 ml_X5_117 yS_X5_wordOf (c_X5_wordOf eq10) (by decide) rfl (Nat.le_of_ble_eq_true rfl) ?_
        obtain ⟨q11, eq12, eb7⟩ := obind eb7
        refine r_callV (as := [_]) (rest := []) dX5_kindOfWord_27 ml_X5_120 yV_X5_isWord (c_X5_isWord hS eq12) (by decide) rfl (lp_7 hS) (lq_7 hS) (Nat.le_of_ble_eq_true rfl) ?_
        refine r_if_eq (tgt := 35) dX5_kindOfWord_30 rfl (fun h13 => ?_) (fun h13 => ?_)
        · replace eb7 := ite_t h13 eb7
          refine r_iinc (v := _ + (1 : Int32)) dX5_kindOfWord_35 rfl (congrArg (_ + ·) ci_1) (by decide) rfl ?_
          refine r_goto (tgt := 12) dX5_kindOfWord_38 rfl ?_
          cases eb7
          exact r_weak (L' := [some (vr (some 7)), some (vi (z2 + (1 : Int32)))]) ⟨rfl, rfl, trivial⟩ hx6
        · replace eb7 := ite_f h13 eb7
          refine r_iload_n dX5_kindOfWord_33 rfl ?_
          cases eb7
          have e := congrArg some (erx5 _ (Eq.symm hx6))
          cases e
          exact r_ireturn dX5_kindOfWord_34 rfl rfl
    exact r_weak (L' := [some (vr (some 7)), some (vi (0 : Int32))]) ⟨rfl, rfl, trivial⟩ J4w
  · replace e := ite_f h1 e
    refine r_iconst (v := -1) dX5_kindOfWord_8 ci_m1 ?_
    cases e
    exact r_ireturn dX5_kindOfWord_9 rfl rfl
noncomputable def m_X5_giveUp (mm : Mm) : Mm := (sI (sI mm 7 1 (1 : Int32)) 7 2 (mI (sI mm 7 1 (1 : Int32)) 7 9))
set_option maxHeartbeats 4000000 in
set_option maxRecDepth 100000 in
theorem c_X5_giveUp {l : Launch} {G : Gt} {S : Sk} {mm : Mm} (hS : Lay S) : CallOK l G M_X5_giveUp yX5_giveUp 0 [vr (some 7)] S mm (none) S (m_X5_giveUp mm) := by
  refine call_of_run rfl rfl rfl (Nat.le_of_ble_eq_true rfl) ?_
  show Run l G M_X5_giveUp 0 0 [some (vr (some 7))] [] S mm (none) S (m_X5_giveUp mm)
  generalize e : m_X5_giveUp mm = q
  unfold m_X5_giveUp at e
  refine r_aload_n dX5_giveUp_0 rfl ?_
  refine r_iconst (v := 1) dX5_giveUp_1 ci_1 ?_
  refine r_putI dX5_giveUp_2 fl_X5_20 ft_5_1 (Or.inl rfl) rfl rfl rfl (lp_7 hS) (lq_7 hS) ?_
  refine r_aload_n dX5_giveUp_5 rfl ?_
  refine r_aload_n dX5_giveUp_6 rfl ?_
  refine r_getI dX5_giveUp_7 fl_X5_47 rfl (lp_7 hS) (lq_7 hS) ?_
  refine r_putI dX5_giveUp_10 fl_X5_24 ft_5_2 (Or.inl rfl) rfl rfl rfl (lp_7 hS) (lq_7 hS) ?_
  cases e
  exact r_return dX5_giveUp_13 rfl
noncomputable def m_X5_isFull (a1 : Int32) (mm : Mm) : Option (Int32) := if (mI mm 7 7) = (0 : Int32) then (bS (if a1 = 0 then (grd a1 7 (if (6 : Int32) ≤ (mI mm 10 (ix a1)) then (some (.inl ())) else (if a1 = (4 : Int32) then (grd a1 7 (if (mI mm 10 (ix a1)) < (12 : Int32) then (some (.inr (0 : Int32))) else (some (.inl ())))) else (some (.inr (0 : Int32)))))) else (if a1 = (4 : Int32) then (grd a1 7 (if (mI mm 10 (ix a1)) < (12 : Int32) then (some (.inr (0 : Int32))) else (some (.inl ())))) else (some (.inr (0 : Int32)))) : Option ((Unit) ⊕ (Int32))) (fun p2 => some (1 : Int32))) else (if (mI mm 7 7) = (1 : Int32) then (if (mI mm 8 1) < (40 : Int32) then (some (0 : Int32)) else (some (1 : Int32))) else (if (mI mm 7 7) = (2 : Int32) then (if (mI mm 8 1) < (6 : Int32) then (some (0 : Int32)) else (some (1 : Int32))) else (if (mI mm 8 1) < (8 : Int32) then (some (0 : Int32)) else (some (1 : Int32)))))
set_option maxHeartbeats 4000000 in
set_option maxRecDepth 100000 in
theorem c_X5_isFull {l : Launch} {G : Gt} {S : Sk} {a1 : Int32} {mm : Mm} (hS : Lay S) {q : Int32} (e : m_X5_isFull a1 mm = some q) : CallOK l G M_X5_isFull yX5_isFull 0 [vr (some 7), vi a1] S mm (some (vi q)) S mm := by
  refine call_of_run rfl rfl rfl (Nat.le_of_ble_eq_true rfl) ?_
  show Run l G M_X5_isFull 0 0 [some (vr (some 7)), some (vi a1)] [] S mm (some (vi q)) S mm
  unfold m_X5_isFull at e
  refine r_aload_n dX5_isFull_0 rfl ?_
  refine r_getI dX5_isFull_1 fl_X5_41 rfl (lp_7 hS) (lq_7 hS) ?_
  by_cases h1 : (mI mm 7 7) = (0 : Int32)
  · replace e := ite_t h1 e
    refine r_table_in (tgt := 32) dX5_isFull_4 (by rw [h1]; decide) (by rw [h1]; decide) (by rw [h1]; rfl) rfl ?_
    refine r_iload_n dX5_isFull_32 rfl ?_
    obtain ⟨x5, ep4, elx5, erx5⟩ := bS_some e
    have J3 : ∀ p2 : Unit, x5 = .inl p2 → Run l G M_X5_isFull 0 63 [none, none] [] S mm (some (vi q)) S mm := by
      intro p2 hp2
      replace e := elx5 p2 hp2
      refine r_iconst (v := 1) dX5_isFull_63 ci_1 ?_
      refine r_goto (tgt := 68) dX5_isFull_64 rfl ?_
      cases e
      exact r_ireturn dX5_isFull_68 rfl (nz_b (by first | exact Or.inl rfl | exact Or.inr rfl)).1
    refine r_if_ne (tgt := 47) dX5_isFull_33 rfl (fun h6 => ?_) (fun h6 => ?_)
    · replace ep4 := ite_f h6 ep4
      refine r_iload_n dX5_isFull_47 rfl ?_
      refine r_iconst (v := 4) dX5_isFull_48 ci_4 ?_
      refine r_icmp_ne (tgt := 67) dX5_isFull_49 rfl (fun h7 => ?_) (fun h7 => ?_)
      · replace ep4 := ite_f h7 ep4
        refine r_iconst (v := 0) dX5_isFull_67 ci_0 ?_
        cases ep4
        have e := congrArg some (erx5 _ rfl)
        cases e
        exact r_ireturn dX5_isFull_68 rfl (nz_b (by first | exact Or.inl rfl | exact Or.inr rfl)).1
      · replace ep4 := ite_t h7 ep4
        refine r_aload_n dX5_isFull_52 rfl ?_
        refine r_getR dX5_isFull_53 fl_X5_27 rfl (lp_7 hS) (lq_7 hS) (lr_7_3 hS) ?_
        refine r_iload_n dX5_isFull_56 rfl ?_
        obtain ⟨hg8, ep4⟩ := grd_some ep4
        refine r_iald dX5_isFull_57 (lp_10 hS) (lk_10 hS) hg8 ?_
        refine r_bipush (v := 12) dX5_isFull_58 cb_12 ?_
        refine r_icmp_lt (tgt := 67) dX5_isFull_60 rfl (fun h9 => ?_) (fun h9 => ?_)
        · replace ep4 := ite_t h9 ep4
          refine r_iconst (v := 0) dX5_isFull_67 ci_0 ?_
          cases ep4
          have e := congrArg some (erx5 _ rfl)
          cases e
          exact r_ireturn dX5_isFull_68 rfl (nz_b (by first | exact Or.inl rfl | exact Or.inr rfl)).1
        · replace ep4 := ite_f h9 ep4
          cases ep4
          exact r_weak (L' := [none, none]) trivial (J3 _ rfl)
    · replace ep4 := ite_t h6 ep4
      refine r_aload_n dX5_isFull_36 rfl ?_
      refine r_getR dX5_isFull_37 fl_X5_27 rfl (lp_7 hS) (lq_7 hS) (lr_7_3 hS) ?_
      refine r_iload_n dX5_isFull_40 rfl ?_
      obtain ⟨hg10, ep4⟩ := grd_some ep4
      refine r_iald dX5_isFull_41 (lp_10 hS) (lk_10 hS) hg10 ?_
      refine r_bipush (v := 6) dX5_isFull_42 cb_6 ?_
      refine r_icmp_ge (tgt := 63) dX5_isFull_44 rfl (fun h11 => ?_) (fun h11 => ?_)
      · replace ep4 := ite_t h11 ep4
        cases ep4
        exact r_weak (L' := [none, none]) trivial (J3 _ rfl)
      · replace ep4 := ite_f h11 ep4
        refine r_iload_n dX5_isFull_47 rfl ?_
        refine r_iconst (v := 4) dX5_isFull_48 ci_4 ?_
        refine r_icmp_ne (tgt := 67) dX5_isFull_49 rfl (fun h12 => ?_) (fun h12 => ?_)
        · replace ep4 := ite_f h12 ep4
          refine r_iconst (v := 0) dX5_isFull_67 ci_0 ?_
          cases ep4
          have e := congrArg some (erx5 _ rfl)
          cases e
          exact r_ireturn dX5_isFull_68 rfl (nz_b (by first | exact Or.inl rfl | exact Or.inr rfl)).1
        · replace ep4 := ite_t h12 ep4
          refine r_aload_n dX5_isFull_52 rfl ?_
          refine r_getR dX5_isFull_53 fl_X5_27 rfl (lp_7 hS) (lq_7 hS) (lr_7_3 hS) ?_
          refine r_iload_n dX5_isFull_56 rfl ?_
          obtain ⟨hg13, ep4⟩ := grd_some ep4
          refine r_iald dX5_isFull_57 (lp_10 hS) (lk_10 hS) hg13 ?_
          refine r_bipush (v := 12) dX5_isFull_58 cb_12 ?_
          refine r_icmp_lt (tgt := 67) dX5_isFull_60 rfl (fun h14 => ?_) (fun h14 => ?_)
          · replace ep4 := ite_t h14 ep4
            refine r_iconst (v := 0) dX5_isFull_67 ci_0 ?_
            cases ep4
            have e := congrArg some (erx5 _ rfl)
            cases e
            exact r_ireturn dX5_isFull_68 rfl (nz_b (by first | exact Or.inl rfl | exact Or.inr rfl)).1
          · replace ep4 := ite_f h14 ep4
            cases ep4
            exact r_weak (L' := [none, none]) trivial (J3 _ rfl)
  replace e := ite_f h1 e
  by_cases h15 : (mI mm 7 7) = (1 : Int32)
  · replace e := ite_t h15 e
    refine r_table_in (tgt := 69) dX5_isFull_4 (by rw [h15]; decide) (by rw [h15]; decide) (by rw [h15]; rfl) rfl ?_
    refine r_aload_n dX5_isFull_69 rfl ?_
    refine r_getR dX5_isFull_70 fl_X5_16 rfl (lp_7 hS) (lq_7 hS) (lr_7_0 hS) ?_
    refine r_getI dX5_isFull_73 fl_X5_62 rfl (lp_8 hS) (lq_8 hS) ?_
    refine r_bipush (v := 40) dX5_isFull_76 cb_40 ?_
    refine r_icmp_lt (tgt := 85) dX5_isFull_78 rfl (fun h16 => ?_) (fun h16 => ?_)
    · replace e := ite_t h16 e
      refine r_iconst (v := 0) dX5_isFull_85 ci_0 ?_
      cases e
      exact r_ireturn dX5_isFull_86 rfl (nz_b (by first | exact Or.inl rfl | exact Or.inr rfl)).1
    · replace e := ite_f h16 e
      refine r_iconst (v := 1) dX5_isFull_81 ci_1 ?_
      refine r_goto (tgt := 86) dX5_isFull_82 rfl ?_
      cases e
      exact r_ireturn dX5_isFull_86 rfl (nz_b (by first | exact Or.inl rfl | exact Or.inr rfl)).1
  replace e := ite_f h15 e
  by_cases h17 : (mI mm 7 7) = (2 : Int32)
  · replace e := ite_t h17 e
    refine r_table_in (tgt := 87) dX5_isFull_4 (by rw [h17]; decide) (by rw [h17]; decide) (by rw [h17]; rfl) rfl ?_
    refine r_aload_n dX5_isFull_87 rfl ?_
    refine r_getR dX5_isFull_88 fl_X5_16 rfl (lp_7 hS) (lq_7 hS) (lr_7_0 hS) ?_
    refine r_getI dX5_isFull_91 fl_X5_62 rfl (lp_8 hS) (lq_8 hS) ?_
    refine r_bipush (v := 6) dX5_isFull_94 cb_6 ?_
    refine r_icmp_lt (tgt := 103) dX5_isFull_96 rfl (fun h18 => ?_) (fun h18 => ?_)
    · replace e := ite_t h18 e
      refine r_iconst (v := 0) dX5_isFull_103 ci_0 ?_
      cases e
      exact r_ireturn dX5_isFull_104 rfl (nz_b (by first | exact Or.inl rfl | exact Or.inr rfl)).1
    · replace e := ite_f h18 e
      refine r_iconst (v := 1) dX5_isFull_99 ci_1 ?_
      refine r_goto (tgt := 104) dX5_isFull_100 rfl ?_
      cases e
      exact r_ireturn dX5_isFull_104 rfl (nz_b (by first | exact Or.inl rfl | exact Or.inr rfl)).1
  replace e := ite_f h17 e
  have ho4 : (mI mm 7 7).toInt < 0 ∨ 2 < (mI mm 7 7).toInt := by
    have nh1 := lv_neT (a := 0) h1 (by decide)
    have nh15 := lv_neT (a := 1) h15 (by decide)
    have nh17 := lv_neT (a := 2) h17 (by decide)
    omega
  refine r_table_out (tgt := 105) dX5_isFull_4 ho4 rfl ?_
  refine r_aload_n dX5_isFull_105 rfl ?_
  refine r_getR dX5_isFull_106 fl_X5_16 rfl (lp_7 hS) (lq_7 hS) (lr_7_0 hS) ?_
  refine r_getI dX5_isFull_109 fl_X5_62 rfl (lp_8 hS) (lq_8 hS) ?_
  refine r_bipush (v := 8) dX5_isFull_112 cb_8 ?_
  refine r_icmp_lt (tgt := 121) dX5_isFull_114 rfl (fun h19 => ?_) (fun h19 => ?_)
  · replace e := ite_t h19 e
    refine r_iconst (v := 0) dX5_isFull_121 ci_0 ?_
    cases e
    exact r_ireturn dX5_isFull_122 rfl (nz_b (by first | exact Or.inl rfl | exact Or.inr rfl)).1
  · replace e := ite_f h19 e
    refine r_iconst (v := 1) dX5_isFull_117 ci_1 ?_
    refine r_goto (tgt := 122) dX5_isFull_118 rfl ?_
    cases e
    exact r_ireturn dX5_isFull_122 rfl (nz_b (by first | exact Or.inl rfl | exact Or.inr rfl)).1
noncomputable def m_X5_note (a1 : Int32) (a2 : Int32) (mm : Mm) : Mm := if (mI mm 7 1) = 0 then ((sI (sI mm 7 1 a1) 7 2 a2)) else (mm)
set_option maxHeartbeats 4000000 in
set_option maxRecDepth 100000 in
theorem c_X5_note {l : Launch} {G : Gt} {S : Sk} {a1 : Int32} {a2 : Int32} {mm : Mm} (hS : Lay S) : CallOK l G M_X5_note yX5_note 0 [vr (some 7), vi a1, vi a2] S mm (none) S (m_X5_note a1 a2 mm) := by
  refine call_of_run rfl rfl rfl (Nat.le_of_ble_eq_true rfl) ?_
  show Run l G M_X5_note 0 0 [some (vr (some 7)), some (vi a1), some (vi a2)] [] S mm (none) S (m_X5_note a1 a2 mm)
  generalize e : m_X5_note a1 a2 mm = q
  unfold m_X5_note at e
  refine r_aload_n dX5_note_0 rfl ?_
  refine r_getI dX5_note_1 fl_X5_20 rfl (lp_7 hS) (lq_7 hS) ?_
  refine r_if_ne (tgt := 17) dX5_note_4 rfl (fun h1 => ?_) (fun h1 => ?_)
  · replace e := ite_f h1 e
    cases e
    exact r_return dX5_note_17 rfl
  · replace e := ite_t h1 e
    refine r_aload_n dX5_note_7 rfl ?_
    refine r_iload_n dX5_note_8 rfl ?_
    refine r_putI dX5_note_9 fl_X5_20 ft_5_1 (Or.inl rfl) rfl rfl rfl (lp_7 hS) (lq_7 hS) ?_
    refine r_aload_n dX5_note_12 rfl ?_
    refine r_iload_n dX5_note_13 rfl ?_
    refine r_putI dX5_note_14 fl_X5_24 ft_5_2 (Or.inl rfl) rfl rfl rfl (lp_7 hS) (lq_7 hS) ?_
    cases e
    exact r_return dX5_note_17 rfl
noncomputable def m_X5_signsOf (a0 : Int32) (a1 : Int32) : Option (Nat) := if a0 = (0 : Int32) then (if a1 = 0 then (some 17) else (if a1 = (1 : Int32) then (some 18) else (if a1 = (2 : Int32) then (some 19) else (if a1 = (3 : Int32) then (some 20) else (some 21))))) else (if a0 = (1 : Int32) then (if a1 = 0 then (some 6) else (if (2 : Int32) < a1 then (if (5 : Int32) < a1 then (some 21) else (some 20)) else (some 22))) else (some 23))
set_option maxHeartbeats 4000000 in
set_option maxRecDepth 100000 in
theorem c_X5_signsOf {l : Launch} {G : Gt} {S : Sk} {a0 : Int32} {a1 : Int32} {mm : Mm} {q : Nat} (e : m_X5_signsOf a0 a1 = some q) : CallOK l G M_X5_signsOf yX5_signsOf 0 [vi a0, vi a1] S mm (some (vx q)) S mm := by
  refine call_of_run rfl rfl rfl (Nat.le_of_ble_eq_true rfl) ?_
  show Run l G M_X5_signsOf 0 0 [some (vi a0), some (vi a1)] [] S mm (some (vx q)) S mm
  unfold m_X5_signsOf at e
  refine r_iload_n dX5_signsOf_0 rfl ?_
  by_cases h1 : a0 = (0 : Int32)
  · replace e := ite_t h1 e
    refine r_lookup (tgt := 28) (off := 27) dX5_signsOf_1 (by decide) (by rw [h1]; decide) rfl ?_
    refine r_iload_n dX5_signsOf_28 rfl ?_
    refine r_if_ne (tgt := 37) dX5_signsOf_29 rfl (fun h2 => ?_) (fun h2 => ?_)
    · replace e := ite_f h2 e
      refine r_iload_n dX5_signsOf_37 rfl ?_
      refine r_iconst (v := 1) dX5_signsOf_38 ci_1 ?_
      refine r_icmp_ne (tgt := 47) dX5_signsOf_39 rfl (fun h3 => ?_) (fun h3 => ?_)
      · replace e := ite_f h3 e
        refine r_iload_n dX5_signsOf_47 rfl ?_
        refine r_iconst (v := 2) dX5_signsOf_48 ci_2 ?_
        refine r_icmp_ne (tgt := 57) dX5_signsOf_49 rfl (fun h4 => ?_) (fun h4 => ?_)
        · replace e := ite_f h4 e
          refine r_iload_n dX5_signsOf_57 rfl ?_
          refine r_iconst (v := 3) dX5_signsOf_58 ci_3 ?_
          refine r_icmp_ne (tgt := 67) dX5_signsOf_59 rfl (fun h5 => ?_) (fun h5 => ?_)
          · replace e := ite_f h5 e
            refine r_ldcs (n := 20) dX5_signsOf_67 rfl (by decide) rfl ?_
            cases e
            exact r_areturn dX5_signsOf_69 rfl (Or.inl ⟨_, rfl⟩) (Or.inr ⟨_, rfl⟩)
          · replace e := ite_t h5 e
            refine r_ldcs (n := 19) dX5_signsOf_62 rfl (by decide) rfl ?_
            refine r_goto (tgt := 69) dX5_signsOf_64 rfl ?_
            cases e
            exact r_areturn dX5_signsOf_69 rfl (Or.inl ⟨_, rfl⟩) (Or.inr ⟨_, rfl⟩)
        · replace e := ite_t h4 e
          refine r_ldcs (n := 18) dX5_signsOf_52 rfl (by decide) rfl ?_
          refine r_goto (tgt := 69) dX5_signsOf_54 rfl ?_
          cases e
          exact r_areturn dX5_signsOf_69 rfl (Or.inl ⟨_, rfl⟩) (Or.inr ⟨_, rfl⟩)
      · replace e := ite_t h3 e
        refine r_ldcs (n := 17) dX5_signsOf_42 rfl (by decide) rfl ?_
        refine r_goto (tgt := 69) dX5_signsOf_44 rfl ?_
        cases e
        exact r_areturn dX5_signsOf_69 rfl (Or.inl ⟨_, rfl⟩) (Or.inr ⟨_, rfl⟩)
    · replace e := ite_t h2 e
      refine r_ldcs (n := 16) dX5_signsOf_32 rfl (by decide) rfl ?_
      refine r_goto (tgt := 69) dX5_signsOf_34 rfl ?_
      cases e
      exact r_areturn dX5_signsOf_69 rfl (Or.inl ⟨_, rfl⟩) (Or.inr ⟨_, rfl⟩)
  replace e := ite_f h1 e
  by_cases h6 : a0 = (1 : Int32)
  · replace e := ite_t h6 e
    refine r_lookup (tgt := 70) (off := 69) dX5_signsOf_1 (by decide) (by rw [h6]; decide) rfl ?_
    refine r_iload_n dX5_signsOf_70 rfl ?_
    refine r_if_ne (tgt := 79) dX5_signsOf_71 rfl (fun h7 => ?_) (fun h7 => ?_)
    · replace e := ite_f h7 e
      refine r_iload_n dX5_signsOf_79 rfl ?_
      refine r_iconst (v := 2) dX5_signsOf_80 ci_2 ?_
      refine r_icmp_gt (tgt := 89) dX5_signsOf_81 rfl (fun h8 => ?_) (fun h8 => ?_)
      · replace e := ite_t h8 e
        refine r_iload_n dX5_signsOf_89 rfl ?_
        refine r_iconst (v := 5) dX5_signsOf_90 ci_5 ?_
        refine r_icmp_gt (tgt := 99) dX5_signsOf_91 rfl (fun h9 => ?_) (fun h9 => ?_)
        · replace e := ite_t h9 e
          refine r_ldcs (n := 20) dX5_signsOf_99 rfl (by decide) rfl ?_
          cases e
          exact r_areturn dX5_signsOf_101 rfl (Or.inl ⟨_, rfl⟩) (Or.inr ⟨_, rfl⟩)
        · replace e := ite_f h9 e
          refine r_ldcs (n := 19) dX5_signsOf_94 rfl (by decide) rfl ?_
          refine r_goto (tgt := 101) dX5_signsOf_96 rfl ?_
          cases e
          exact r_areturn dX5_signsOf_101 rfl (Or.inl ⟨_, rfl⟩) (Or.inr ⟨_, rfl⟩)
      · replace e := ite_f h8 e
        refine r_ldcs (n := 21) dX5_signsOf_84 rfl (by decide) rfl ?_
        refine r_goto (tgt := 101) dX5_signsOf_86 rfl ?_
        cases e
        exact r_areturn dX5_signsOf_101 rfl (Or.inl ⟨_, rfl⟩) (Or.inr ⟨_, rfl⟩)
    · replace e := ite_t h7 e
      refine r_ldcs (n := 5) dX5_signsOf_74 rfl (by decide) rfl ?_
      refine r_goto (tgt := 101) dX5_signsOf_76 rfl ?_
      cases e
      exact r_areturn dX5_signsOf_101 rfl (Or.inl ⟨_, rfl⟩) (Or.inr ⟨_, rfl⟩)
  replace e := ite_f h6 e
  refine r_lookup (tgt := 102) (off := 101) dX5_signsOf_1 (by decide) (by show Op.lookupswitch.offset [(0, 27), (1, 69)] _ _ = _; rw [lv_osw h1 (by decide), lv_osw h6 (by decide)]; rfl) rfl ?_
  refine r_ldcs (n := 22) dX5_signsOf_102 rfl (by decide) rfl ?_
  cases e
  exact r_areturn dX5_signsOf_104 rfl (Or.inl ⟨_, rfl⟩) (Or.inr ⟨_, rfl⟩)
noncomputable def m_X5_mostOf (a0 : Int32) : Int32 := if a0 = (119 : Int32) then ((9 : Int32)) else (if a0 = (114 : Int32) then ((4 : Int32)) else (if a0 = (104 : Int32) then ((9 : Int32)) else (if a0 = (116 : Int32) then ((7 : Int32)) else ((5 : Int32)))))
set_option maxHeartbeats 4000000 in
set_option maxRecDepth 100000 in
theorem c_X5_mostOf {l : Launch} {G : Gt} {S : Sk} {a0 : Int32} {mm : Mm} : CallOK l G M_X5_mostOf yX5_mostOf 0 [vi a0] S mm (some (vi (m_X5_mostOf a0))) S mm := by
  refine call_of_run rfl rfl rfl (Nat.le_of_ble_eq_true rfl) ?_
  show Run l G M_X5_mostOf 0 0 [some (vi a0)] [] S mm (some (vi (m_X5_mostOf a0))) S mm
  generalize e : m_X5_mostOf a0 = q
  unfold m_X5_mostOf at e
  refine r_iload_n dX5_mostOf_0 rfl ?_
  refine r_bipush (v := 119) dX5_mostOf_1 cb_119 ?_
  refine r_icmp_ne (tgt := 9) dX5_mostOf_3 rfl (fun h1 => ?_) (fun h1 => ?_)
  · replace e := ite_f h1 e
    refine r_iload_n dX5_mostOf_9 rfl ?_
    refine r_bipush (v := 114) dX5_mostOf_10 cb_114 ?_
    refine r_icmp_ne (tgt := 17) dX5_mostOf_12 rfl (fun h2 => ?_) (fun h2 => ?_)
    · replace e := ite_f h2 e
      refine r_iload_n dX5_mostOf_17 rfl ?_
      refine r_bipush (v := 104) dX5_mostOf_18 cb_104 ?_
      refine r_icmp_ne (tgt := 26) dX5_mostOf_20 rfl (fun h3 => ?_) (fun h3 => ?_)
      · replace e := ite_f h3 e
        refine r_iload_n dX5_mostOf_26 rfl ?_
        refine r_bipush (v := 116) dX5_mostOf_27 cb_116 ?_
        refine r_icmp_ne (tgt := 37) dX5_mostOf_29 rfl (fun h4 => ?_) (fun h4 => ?_)
        · replace e := ite_f h4 e
          refine r_iconst (v := 5) dX5_mostOf_37 ci_5 ?_
          cases e
          exact r_ireturn dX5_mostOf_38 rfl rfl
        · replace e := ite_t h4 e
          refine r_bipush (v := 7) dX5_mostOf_32 cb_7 ?_
          refine r_goto (tgt := 38) dX5_mostOf_34 rfl ?_
          cases e
          exact r_ireturn dX5_mostOf_38 rfl rfl
      · replace e := ite_t h3 e
        refine r_bipush (v := 9) dX5_mostOf_23 cb_9 ?_
        cases e
        exact r_ireturn dX5_mostOf_25 rfl rfl
    · replace e := ite_t h2 e
      refine r_iconst (v := 4) dX5_mostOf_15 ci_4 ?_
      cases e
      exact r_ireturn dX5_mostOf_16 rfl rfl
  · replace e := ite_t h1 e
    refine r_bipush (v := 9) dX5_mostOf_6 cb_9 ?_
    cases e
    exact r_ireturn dX5_mostOf_8 rfl rfl
noncomputable def m_X5_readNumber (S : Sk) (a1 : Nat) (a2 : Int32) (mm : Mm) : Option (Mm) := if (mI mm 7 1) = (1 : Int32) then (some mm) else (if (mI mm 7 8) = (2 : Int32) then ((if a2 = (1 : Int32) then ((m_schar a1 (0 : Int32)).bind (fun q8 => (m_schar a1 (1 : Int32)).bind (fun q10 => if q8 = q10 then (if (mI mm 7 11) = (mI mm 11 (ix (0 : Int32))) then (some (1 : Int32)) else (some (0 : Int32))) else (some (0 : Int32))))) else (some (0 : Int32)) : Option (Int32)).bind (fun p3 => (if p3 = 0 then ((m_schar a1 a2).bind (fun q19 => if (mI mm 7 11) ≤ (m_X5_mostOf q19) then (some mm) else (some (m_X5_note (2 : Int32) (mI mm 7 9) mm)))) else (some (m_X5_note (2 : Int32) (mI mm 7 9) mm)) : Option (Mm)).bind (fun p14 => grd a2 3 ((m_X5_nextToken S (sI p14 11 (ix a2) (mI p14 7 11))).bind (fun q23 => some q23))))) else (some (m_X5_giveUp mm)))
set_option maxHeartbeats 4000000 in
set_option maxRecDepth 100000 in
theorem c_X5_readNumber {l : Launch} {G : Gt} {S : Sk} {a1 : Nat} {a2 : Int32} {mm : Mm} (hS : Lay S) {q : Mm} (e : m_X5_readNumber S a1 a2 mm = some q) : CallOK l G M_X5_readNumber yX5_readNumber 4 [vr (some 7), vx a1, vi a2] S mm (none) S q := by
  refine call_of_run rfl rfl rfl (Nat.le_of_ble_eq_true rfl) ?_
  show Run l G M_X5_readNumber 4 0 [some (vr (some 7)), some (vx a1), some (vi a2), none] [] S mm (none) S q
  unfold m_X5_readNumber at e
  refine r_aload_n dX5_readNumber_0 rfl ?_
  refine r_getI dX5_readNumber_1 fl_X5_20 rfl (lp_7 hS) (lq_7 hS) ?_
  refine r_iconst (v := 1) dX5_readNumber_4 ci_1 ?_
  refine r_icmp_ne (tgt := 9) dX5_readNumber_5 rfl (fun h1 => ?_) (fun h1 => ?_)
  · replace e := ite_f h1 e
    refine r_aload_n dX5_readNumber_9 rfl ?_
    refine r_getI dX5_readNumber_10 fl_X5_44 rfl (lp_7 hS) (lq_7 hS) ?_
    refine r_iconst (v := 2) dX5_readNumber_13 ci_2 ?_
    refine r_icmp_eq (tgt := 22) dX5_readNumber_14 rfl (fun h2 => ?_) (fun h2 => ?_)
    · replace e := ite_t h2 e
      refine r_iload_n dX5_readNumber_22 rfl ?_
      refine r_iconst (v := 1) dX5_readNumber_23 ci_1 ?_
      obtain ⟨p3, ep5, e⟩ := obind e
      have J4a : Run l G M_X5_readNumber 4 58 [some (vr (some 7)), some (vx a1), some (vi a2), none] [vi p3] S mm (none) S q := by
        refine r_istore_n dX5_readNumber_58 (by decide) rfl ?_
        refine r_iload_n dX5_readNumber_59 rfl ?_
        obtain ⟨p14, ep16, e⟩ := obind e
        have J15a : Run l G M_X5_readNumber 4 87 [some (vr (some 7)), none, some (vi a2), none] [] S p14 (none) S q := by
          refine r_aload_n dX5_readNumber_87 rfl ?_
          refine r_getR dX5_readNumber_88 fl_X5_31 rfl (lp_7 hS) (lq_7 hS) (lr_7_4 hS) ?_
          refine r_iload_n dX5_readNumber_91 rfl ?_
          refine r_aload_n dX5_readNumber_92 rfl ?_
          refine r_getI dX5_readNumber_93 fl_X5_53 rfl (lp_7 hS) (lq_7 hS) ?_
          obtain ⟨hg22, e⟩ := grd_some e
          refine r_iast dX5_readNumber_96 (lp_11 hS) (lk_11 hS) hg22 ?_
          refine r_aload_n dX5_readNumber_97 rfl ?_
          obtain ⟨q23, eq24, e⟩ := obind e
          refine r_callV (as := []) (rest := []) dX5_readNumber_98 ml_X5_65 yV_X5_nextToken (c_X5_nextToken hS eq24) (by decide) rfl (lp_7 hS) (lq_7 hS) (Nat.le_of_ble_eq_true rfl) ?_
          cases e
          exact r_return dX5_readNumber_101 rfl
        have J15 : ∀ pp : Mm, pp = p14 → Run l G M_X5_readNumber 4 87 [some (vr (some 7)), none, some (vi a2), none] [] S pp (none) S q := by
          intro pp hpp
          rw [hpp]
          exact J15a
        refine r_if_ne (tgt := 78) dX5_readNumber_60 rfl (fun h18 => ?_) (fun h18 => ?_)
        · replace ep16 := ite_f h18 ep16
          refine r_aload_n dX5_readNumber_78 rfl ?_
          refine r_iconst (v := 2) dX5_readNumber_79 ci_2 ?_
          refine r_aload_n dX5_readNumber_80 rfl ?_
          refine r_getI dX5_readNumber_81 fl_X5_47 rfl (lp_7 hS) (lq_7 hS) ?_
          refine r_callV (as := [_, _]) (rest := []) dX5_readNumber_84 ml_X5_75 yV_X5_note (c_X5_note hS) (by decide) rfl (lp_7 hS) (lq_7 hS) (Nat.le_of_ble_eq_true rfl) ?_
          exact r_weak (L' := [some (vr (some 7)), none, some (vi a2), none]) ⟨rfl, rfl, trivial⟩ (J15 _ (Option.some.inj ep16))
        · replace ep16 := ite_t h18 ep16
          refine r_aload_n dX5_readNumber_63 rfl ?_
          refine r_getI dX5_readNumber_64 fl_X5_53 rfl (lp_7 hS) (lq_7 hS) ?_
          refine r_aload_nx dX5_readNumber_67 rfl ?_
          refine r_iload_n dX5_readNumber_68 rfl ?_
          obtain ⟨q19, eq20, ep16⟩ := obind ep16
          refine r_callVY (as := [_]) (rest := [_]) (schar_dom eq20) dX5_readNumber_69 ml_X5_106 yX_charAt (c_schar eq20) (by decide) rfl (Nat.le_of_ble_eq_true rfl) ?_
          refine r_callS (as := [_]) (rest := [_]) dX5_readNumber_72 ml_X5_110 yS_X5_mostOf (c_X5_mostOf) (by decide) rfl (Nat.le_of_ble_eq_true rfl) ?_
          refine r_icmp_le (tgt := 87) dX5_readNumber_75 rfl (fun h21 => ?_) (fun h21 => ?_)
          · replace ep16 := ite_t h21 ep16
            exact r_weak (L' := [some (vr (some 7)), none, some (vi a2), none]) ⟨rfl, rfl, trivial⟩ (J15 _ (Option.some.inj ep16))
          · replace ep16 := ite_f h21 ep16
            refine r_aload_n dX5_readNumber_78 rfl ?_
            refine r_iconst (v := 2) dX5_readNumber_79 ci_2 ?_
            refine r_aload_n dX5_readNumber_80 rfl ?_
            refine r_getI dX5_readNumber_81 fl_X5_47 rfl (lp_7 hS) (lq_7 hS) ?_
            refine r_callV (as := [_, _]) (rest := []) dX5_readNumber_84 ml_X5_75 yV_X5_note (c_X5_note hS) (by decide) rfl (lp_7 hS) (lq_7 hS) (Nat.le_of_ble_eq_true rfl) ?_
            exact r_weak (L' := [some (vr (some 7)), none, some (vi a2), none]) ⟨rfl, rfl, trivial⟩ (J15 _ (Option.some.inj ep16))
      have J4 : ∀ pp : Int32, pp = p3 → Run l G M_X5_readNumber 4 58 [some (vr (some 7)), some (vx a1), some (vi a2), none] [vi pp] S mm (none) S q := by
        intro pp hpp
        rw [hpp]
        exact J4a
      refine r_icmp_ne (tgt := 57) dX5_readNumber_24 rfl (fun h7 => ?_) (fun h7 => ?_)
      · replace ep5 := ite_f h7 ep5
        refine r_iconst (v := 0) dX5_readNumber_57 ci_0 ?_
        exact r_weak (L' := [some (vr (some 7)), some (vx a1), some (vi a2), none]) ⟨rfl, rfl, rfl, trivial⟩ (J4 _ (Option.some.inj ep5))
      · replace ep5 := ite_t h7 ep5
        refine r_aload_nx dX5_readNumber_27 rfl ?_
        refine r_iconst (v := 0) dX5_readNumber_28 ci_0 ?_
        obtain ⟨q8, eq9, ep5⟩ := obind ep5
        refine r_callVY (as := [_]) (rest := []) (schar_dom eq9) dX5_readNumber_29 ml_X5_106 yX_charAt (c_schar eq9) (by decide) rfl (Nat.le_of_ble_eq_true rfl) ?_
        refine r_aload_nx dX5_readNumber_32 rfl ?_
        refine r_iconst (v := 1) dX5_readNumber_33 ci_1 ?_
        obtain ⟨q10, eq11, ep5⟩ := obind ep5
        refine r_callVY (as := [_]) (rest := [_]) (schar_dom eq11) dX5_readNumber_34 ml_X5_106 yX_charAt (c_schar eq11) (by decide) rfl (Nat.le_of_ble_eq_true rfl) ?_
        refine r_icmp_ne (tgt := 57) dX5_readNumber_37 rfl (fun h12 => ?_) (fun h12 => ?_)
        · replace ep5 := ite_f h12 ep5
          refine r_iconst (v := 0) dX5_readNumber_57 ci_0 ?_
          exact r_weak (L' := [some (vr (some 7)), some (vx a1), some (vi a2), none]) ⟨rfl, rfl, rfl, trivial⟩ (J4 _ (Option.some.inj ep5))
        · replace ep5 := ite_t h12 ep5
          refine r_aload_n dX5_readNumber_40 rfl ?_
          refine r_getI dX5_readNumber_41 fl_X5_53 rfl (lp_7 hS) (lq_7 hS) ?_
          refine r_aload_n dX5_readNumber_44 rfl ?_
          refine r_getR dX5_readNumber_45 fl_X5_31 rfl (lp_7 hS) (lq_7 hS) (lr_7_4 hS) ?_
          refine r_iconst (v := 0) dX5_readNumber_48 ci_0 ?_
          refine r_iald dX5_readNumber_49 (lp_11 hS) (lk_11 hS) (vp_in_iff.mpr ⟨by decide, by decide⟩) ?_
          refine r_icmp_ne (tgt := 57) dX5_readNumber_50 rfl (fun h13 => ?_) (fun h13 => ?_)
          · replace ep5 := ite_f h13 ep5
            refine r_iconst (v := 0) dX5_readNumber_57 ci_0 ?_
            exact r_weak (L' := [some (vr (some 7)), some (vx a1), some (vi a2), none]) ⟨rfl, rfl, rfl, trivial⟩ (J4 _ (Option.some.inj ep5))
          · replace ep5 := ite_t h13 ep5
            refine r_iconst (v := 1) dX5_readNumber_53 ci_1 ?_
            refine r_goto (tgt := 58) dX5_readNumber_54 rfl ?_
            exact r_weak (L' := [some (vr (some 7)), some (vx a1), some (vi a2), none]) ⟨rfl, rfl, rfl, trivial⟩ (J4 _ (Option.some.inj ep5))
    · replace e := ite_f h2 e
      refine r_aload_n dX5_readNumber_17 rfl ?_
      refine r_callV (as := []) (rest := []) dX5_readNumber_18 ml_X5_83 yV_X5_giveUp (c_X5_giveUp hS) (by decide) rfl (lp_7 hS) (lq_7 hS) (Nat.le_of_ble_eq_true rfl) ?_
      cases e
      exact r_return dX5_readNumber_21 rfl
  · replace e := ite_t h1 e
    cases e
    exact r_return dX5_readNumber_8 rfl
noncomputable def m_X6_add (a1 : Int32) (a2 : Int32) (a3 : Int32) (a4 : Int32) (mm : Mm) : Option (Mm) := if (((mI mm 8 1) * (4 : Int32)) + (4 : Int32)) ≤ (400 : Int32) then (grd ((mI mm 8 1) * (4 : Int32)) 400 (grd (((mI mm 8 1) * (4 : Int32)) + (1 : Int32)) 400 (grd (((mI mm 8 1) * (4 : Int32)) + (2 : Int32)) 400 (grd (((mI mm 8 1) * (4 : Int32)) + (3 : Int32)) 400 (some (sI (sI (sI (sI (sI mm 9 (ix ((mI mm 8 1) * (4 : Int32))) a1) 9 (ix (((mI mm 8 1) * (4 : Int32)) + (1 : Int32))) a2) 9 (ix (((mI mm 8 1) * (4 : Int32)) + (2 : Int32))) a3) 9 (ix (((mI mm 8 1) * (4 : Int32)) + (3 : Int32))) a4) 8 1 ((mI (sI (sI (sI (sI mm 9 (ix ((mI mm 8 1) * (4 : Int32))) a1) 9 (ix (((mI mm 8 1) * (4 : Int32)) + (1 : Int32))) a2) 9 (ix (((mI mm 8 1) * (4 : Int32)) + (2 : Int32))) a3) 9 (ix (((mI mm 8 1) * (4 : Int32)) + (3 : Int32))) a4) 8 1) + (1 : Int32)))))))) else (some mm)
set_option maxHeartbeats 4000000 in
set_option maxRecDepth 100000 in
theorem c_X6_add {l : Launch} {G : Gt} {S : Sk} {a1 : Int32} {a2 : Int32} {a3 : Int32} {a4 : Int32} {mm : Mm} (hS : Lay S) {q : Mm} (e : m_X6_add a1 a2 a3 a4 mm = some q) : CallOK l G M_X6_add yX6_add 0 [vr (some 8), vi a1, vi a2, vi a3, vi a4] S mm (none) S q := by
  refine call_of_run rfl rfl rfl (Nat.le_of_ble_eq_true rfl) ?_
  show Run l G M_X6_add 0 0 [some (vr (some 8)), some (vi a1), some (vi a2), some (vi a3), some (vi a4), none] [] S mm (none) S q
  unfold m_X6_add at e
  refine r_aload_n dX6_add_0 rfl ?_
  refine r_getI dX6_add_1 fl_X6_9 rfl (lp_8 hS) (lq_8 hS) ?_
  refine r_iconst (v := 4) dX6_add_4 ci_4 ?_
  refine r_imul dX6_add_5 ?_
  refine r_istore dX6_add_6 (by decide) rfl ?_
  refine r_iload dX6_add_8 rfl ?_
  refine r_iconst (v := 4) dX6_add_10 ci_4 ?_
  refine r_iadd dX6_add_11 ?_
  refine r_aload_n dX6_add_12 rfl ?_
  refine r_getR dX6_add_13 fl_X6_21 rfl (lp_8 hS) (lq_8 hS) (lr_8_0 hS) ?_
  refine r_alen (v := 400) dX6_add_16 (lp_9 hS) (lk_9 hS) (by decide) (by decide) (by decide) ?_
  refine r_icmp_le (tgt := 21) dX6_add_17 rfl (fun h1 => ?_) (fun h1 => ?_)
  · replace e := ite_t h1 e
    refine r_aload_n dX6_add_21 rfl ?_
    refine r_getR dX6_add_22 fl_X6_21 rfl (lp_8 hS) (lq_8 hS) (lr_8_0 hS) ?_
    refine r_iload dX6_add_25 rfl ?_
    refine r_iload_n dX6_add_27 rfl ?_
    obtain ⟨hg2, e⟩ := grd_some e
    refine r_iast dX6_add_28 (lp_9 hS) (lk_9 hS) hg2 ?_
    refine r_aload_n dX6_add_29 rfl ?_
    refine r_getR dX6_add_30 fl_X6_21 rfl (lp_8 hS) (lq_8 hS) (lr_8_0 hS) ?_
    refine r_iload dX6_add_33 rfl ?_
    refine r_iconst (v := 1) dX6_add_35 ci_1 ?_
    refine r_iadd dX6_add_36 ?_
    refine r_iload_n dX6_add_37 rfl ?_
    obtain ⟨hg3, e⟩ := grd_some e
    refine r_iast dX6_add_38 (lp_9 hS) (lk_9 hS) hg3 ?_
    refine r_aload_n dX6_add_39 rfl ?_
    refine r_getR dX6_add_40 fl_X6_21 rfl (lp_8 hS) (lq_8 hS) (lr_8_0 hS) ?_
    refine r_iload dX6_add_43 rfl ?_
    refine r_iconst (v := 2) dX6_add_45 ci_2 ?_
    refine r_iadd dX6_add_46 ?_
    refine r_iload_n dX6_add_47 rfl ?_
    obtain ⟨hg4, e⟩ := grd_some e
    refine r_iast dX6_add_48 (lp_9 hS) (lk_9 hS) hg4 ?_
    refine r_aload_n dX6_add_49 rfl ?_
    refine r_getR dX6_add_50 fl_X6_21 rfl (lp_8 hS) (lq_8 hS) (lr_8_0 hS) ?_
    refine r_iload dX6_add_53 rfl ?_
    refine r_iconst (v := 3) dX6_add_55 ci_3 ?_
    refine r_iadd dX6_add_56 ?_
    refine r_iload dX6_add_57 rfl ?_
    obtain ⟨hg5, e⟩ := grd_some e
    refine r_iast dX6_add_59 (lp_9 hS) (lk_9 hS) hg5 ?_
    refine r_aload_n dX6_add_60 rfl ?_
    refine r_dup dX6_add_61 rfl ?_
    refine r_getI dX6_add_62 fl_X6_9 rfl (lp_8 hS) (lq_8 hS) ?_
    refine r_iconst (v := 1) dX6_add_65 ci_1 ?_
    refine r_iadd dX6_add_66 ?_
    refine r_putI dX6_add_67 fl_X6_9 ft_6_1 (Or.inl rfl) rfl rfl rfl (lp_8 hS) (lq_8 hS) ?_
    cases e
    exact r_return dX6_add_70 rfl
  · replace e := ite_f h1 e
    cases e
    exact r_return dX6_add_20 rfl
noncomputable def m_X5_readLine_b47 (S : Sk) (q11 : Nat) (z13 : Int32 × Mm) : Option ((Int32 × Mm) ⊕ (Mm)) := if (3 : Int32) ≤ z13.1 then (some (.inr z13.2)) else (grd z13.1 3 ((m_slen q11).bind (fun q21 => (if q21 ≤ z13.1 then (some (sI z13.2 11 (ix z13.1) (-1 : Int32))) else ((m_X5_readNumber S q11 z13.1 (sI z13.2 11 (ix z13.1) (-1 : Int32))).bind (fun q28 => some q28)) : Option (Mm)).bind (fun p23 => some (.inl (z13.1 + (1 : Int32), p23))))))
noncomputable def m_X5_readLine (S : Sk) (mm : Mm) : Option (Mm) := (m_X5_kindOfWord S mm).bind (fun q1 => if q1 = (-1 : Int32) then (some (m_X5_giveUp mm)) else ((m_X5_isFull q1 mm).bind (fun q4 => (m_X5_nextToken S (if q4 = 0 then mm else (m_X5_note (3 : Int32) (mI mm 7 9) mm))).bind (fun q9 => (m_X5_signsOf (mI q9 7 7) q1).bind (fun q11 => (whileF FU (m_X5_readLine_b47 S q11) ((0 : Int32), q9)).bind (fun p14 => if (mI p14 7 1) = (1 : Int32) then (some p14) else (if (mI p14 7 8) = (3 : Int32) then ((m_X5_nextToken S p14).bind (fun q32 => (m_X6_add q1 (mI q32 11 (ix (0 : Int32))) (mI q32 11 (ix (1 : Int32))) (mI q32 11 (ix (2 : Int32))) q32).bind (fun q34 => grd q1 7 (grd q1 7 (some (sI q34 10 (ix q1) ((mI q34 10 (ix q1)) + (1 : Int32)))))))) else (some (m_X5_giveUp p14)))))))))
set_option maxHeartbeats 4000000 in
set_option maxRecDepth 100000 in
theorem c_X5_readLine {l : Launch} {G : Gt} {S : Sk} {mm : Mm} (hS : Lay S) {q : Mm} (e : m_X5_readLine S mm = some q) : CallOK l G M_X5_readLine yX5_readLine 6 [vr (some 7)] S mm (none) S q := by
  refine call_of_run rfl rfl rfl (Nat.le_of_ble_eq_true rfl) ?_
  show Run l G M_X5_readLine 6 0 [some (vr (some 7)), none, none, none] [] S mm (none) S q
  unfold m_X5_readLine at e
  refine r_aload_n dX5_readLine_0 rfl ?_
  obtain ⟨q1, eq2, e⟩ := obind e
  refine r_callV (as := []) (rest := []) dX5_readLine_1 ml_X5_79 yV_X5_kindOfWord (c_X5_kindOfWord hS eq2) (by decide) rfl (lp_7 hS) (lq_7 hS) (Nat.le_of_ble_eq_true rfl) ?_
  refine r_istore_n dX5_readLine_4 (by decide) rfl ?_
  refine r_iload_n dX5_readLine_5 rfl ?_
  refine r_iconst (v := -1) dX5_readLine_6 ci_m1 ?_
  refine r_icmp_ne (tgt := 15) dX5_readLine_7 rfl (fun h3 => ?_) (fun h3 => ?_)
  · replace e := ite_f h3 e
    refine r_aload_n dX5_readLine_15 rfl ?_
    refine r_iload_n dX5_readLine_16 rfl ?_
    obtain ⟨q4, eq5, e⟩ := obind e
    refine r_callV (as := [_]) (rest := []) dX5_readLine_17 ml_X5_86 yV_X5_isFull (c_X5_isFull hS eq5) (by decide) rfl (lp_7 hS) (lq_7 hS) (Nat.le_of_ble_eq_true rfl) ?_
    have J8 : ∀ (w7 : Mm), w7 = (if q4 = 0 then mm else (m_X5_note (3 : Int32) (mI mm 7 9) mm)) → Run l G M_X5_readLine 6 32 [some (vr (some 7)), some (vi q1), none, none] [] S w7 (none) S q := by
      intro w7 hw38
      subst hw38
      refine r_aload_n dX5_readLine_32 rfl ?_
      obtain ⟨q9, eq10, e⟩ := obind e
      refine r_callV (as := []) (rest := []) dX5_readLine_33 ml_X5_65 yV_X5_nextToken (c_X5_nextToken hS eq10) (by decide) rfl (lp_7 hS) (lq_7 hS) (Nat.le_of_ble_eq_true rfl) ?_
      refine r_aload_n dX5_readLine_36 rfl ?_
      refine r_getI dX5_readLine_37 fl_X5_41 rfl (lp_7 hS) (lq_7 hS) ?_
      refine r_iload_n dX5_readLine_40 rfl ?_
      obtain ⟨q11, eq12, e⟩ := obind e
      refine r_callS (as := [_, _]) (rest := []) dX5_readLine_41 ml_X5_90 yS_X5_signsOf (c_X5_signsOf eq12) (by decide) rfl (Nat.le_of_ble_eq_true rfl) ?_
      refine r_astore_nx dX5_readLine_44 (by decide) rfl ?_
      refine r_iconst (v := 0) dX5_readLine_45 ci_0 ?_
      refine r_istore_n dX5_readLine_46 (by decide) rfl ?_
      obtain ⟨p14, eb18w, e⟩ := obind e
      have J15a : Run l G M_X5_readLine 6 83 [some (vr (some 7)), some (vi q1), none, none] [] S p14 (none) S q := by
        refine r_aload_n dX5_readLine_83 rfl ?_
        refine r_getI dX5_readLine_84 fl_X5_20 rfl (lp_7 hS) (lq_7 hS) ?_
        refine r_iconst (v := 1) dX5_readLine_87 ci_1 ?_
        refine r_icmp_ne (tgt := 92) dX5_readLine_88 rfl (fun h30 => ?_) (fun h30 => ?_)
        · replace e := ite_f h30 e
          refine r_aload_n dX5_readLine_92 rfl ?_
          refine r_getI dX5_readLine_93 fl_X5_44 rfl (lp_7 hS) (lq_7 hS) ?_
          refine r_iconst (v := 3) dX5_readLine_96 ci_3 ?_
          refine r_icmp_eq (tgt := 105) dX5_readLine_97 rfl (fun h31 => ?_) (fun h31 => ?_)
          · replace e := ite_t h31 e
            refine r_aload_n dX5_readLine_105 rfl ?_
            obtain ⟨q32, eq33, e⟩ := obind e
            refine r_callV (as := []) (rest := []) dX5_readLine_106 ml_X5_65 yV_X5_nextToken (c_X5_nextToken hS eq33) (by decide) rfl (lp_7 hS) (lq_7 hS) (Nat.le_of_ble_eq_true rfl) ?_
            refine r_aload_n dX5_readLine_109 rfl ?_
            refine r_getR dX5_readLine_110 fl_X5_16 rfl (lp_7 hS) (lq_7 hS) (lr_7_0 hS) ?_
            refine r_iload_n dX5_readLine_113 rfl ?_
            refine r_aload_n dX5_readLine_114 rfl ?_
            refine r_getR dX5_readLine_115 fl_X5_31 rfl (lp_7 hS) (lq_7 hS) (lr_7_4 hS) ?_
            refine r_iconst (v := 0) dX5_readLine_118 ci_0 ?_
            refine r_iald dX5_readLine_119 (lp_11 hS) (lk_11 hS) (vp_in_iff.mpr ⟨by decide, by decide⟩) ?_
            refine r_aload_n dX5_readLine_120 rfl ?_
            refine r_getR dX5_readLine_121 fl_X5_31 rfl (lp_7 hS) (lq_7 hS) (lr_7_4 hS) ?_
            refine r_iconst (v := 1) dX5_readLine_124 ci_1 ?_
            refine r_iald dX5_readLine_125 (lp_11 hS) (lk_11 hS) (vp_in_iff.mpr ⟨by decide, by decide⟩) ?_
            refine r_aload_n dX5_readLine_126 rfl ?_
            refine r_getR dX5_readLine_127 fl_X5_31 rfl (lp_7 hS) (lq_7 hS) (lr_7_4 hS) ?_
            refine r_iconst (v := 2) dX5_readLine_130 ci_2 ?_
            refine r_iald dX5_readLine_131 (lp_11 hS) (lk_11 hS) (vp_in_iff.mpr ⟨by decide, by decide⟩) ?_
            obtain ⟨q34, eq35, e⟩ := obind e
            refine r_callV (as := [_, _, _, _]) (rest := []) dX5_readLine_132 ml_X5_102 yV_X6_add (c_X6_add hS eq35) (by decide) rfl (lp_8 hS) (lq_8 hS) (Nat.le_of_ble_eq_true rfl) ?_
            refine r_aload_n dX5_readLine_135 rfl ?_
            refine r_getR dX5_readLine_136 fl_X5_27 rfl (lp_7 hS) (lq_7 hS) (lr_7_3 hS) ?_
            refine r_iload_n dX5_readLine_139 rfl ?_
            refine r_dup2 dX5_readLine_140 rfl rfl ?_
            obtain ⟨hg36, e⟩ := grd_some e
            refine r_iald dX5_readLine_141 (lp_10 hS) (lk_10 hS) hg36 ?_
            refine r_iconst (v := 1) dX5_readLine_142 ci_1 ?_
            refine r_iadd dX5_readLine_143 ?_
            obtain ⟨hg37, e⟩ := grd_some e
            refine r_iast dX5_readLine_144 (lp_10 hS) (lk_10 hS) hg37 ?_
            cases e
            exact r_return dX5_readLine_145 rfl
          · replace e := ite_f h31 e
            refine r_aload_n dX5_readLine_100 rfl ?_
            refine r_callV (as := []) (rest := []) dX5_readLine_101 ml_X5_83 yV_X5_giveUp (c_X5_giveUp hS) (by decide) rfl (lp_7 hS) (lq_7 hS) (Nat.le_of_ble_eq_true rfl) ?_
            cases e
            exact r_return dX5_readLine_104 rfl
        · replace e := ite_t h30 e
          cases e
          exact r_return dX5_readLine_91 rfl
      have J15 : ∀ pp : Mm, pp = p14 → Run l G M_X5_readLine 6 83 [some (vr (some 7)), some (vi q1), none, none] [] S pp (none) S q := by
        intro pp hpp
        rw [hpp]
        exact J15a
      have J15w : Run l G M_X5_readLine 6 47 [some (vr (some 7)), some (vi q1), some (vx q11), some (vi (0 : Int32))] [] S q9 (none) S q := by
        refine while_run (s := ((0 : Int32), q9)) (Gs := fun (z13 : Int32 × Mm) => Run l G M_X5_readLine 6 47 [some (vr (some 7)), some (vi q1), some (vx q11), some (vi z13.1)] [] S z13.2 (none) S q) eb18w ?_
        intro z13 x16y eb18 hx17
        unfold m_X5_readLine_b47 at eb18
        refine r_iload_n dX5_readLine_47 rfl ?_
        refine r_aload_n dX5_readLine_48 rfl ?_
        refine r_getR dX5_readLine_49 fl_X5_31 rfl (lp_7 hS) (lq_7 hS) (lr_7_4 hS) ?_
        refine r_alen (v := 3) dX5_readLine_52 (lp_11 hS) (lk_11 hS) (by decide) (by decide) (by decide) ?_
        refine r_icmp_ge (tgt := 83) dX5_readLine_53 rfl (fun h19 => ?_) (fun h19 => ?_)
        · replace eb18 := ite_t h19 eb18
          cases eb18
          exact r_weak (L' := [some (vr (some 7)), some (vi q1), none, none]) ⟨rfl, rfl, trivial⟩ (J15 _ hx17)
        · replace eb18 := ite_f h19 eb18
          refine r_aload_n dX5_readLine_56 rfl ?_
          refine r_getR dX5_readLine_57 fl_X5_31 rfl (lp_7 hS) (lq_7 hS) (lr_7_4 hS) ?_
          refine r_iload_n dX5_readLine_60 rfl ?_
          refine r_iconst (v := -1) dX5_readLine_61 ci_m1 ?_
          obtain ⟨hg20, eb18⟩ := grd_some eb18
          refine r_iast dX5_readLine_62 (lp_11 hS) (lk_11 hS) hg20 ?_
          refine r_iload_n dX5_readLine_63 rfl ?_
          refine r_aload_nx dX5_readLine_64 rfl ?_
          obtain ⟨q21, eq22, eb18⟩ := obind eb18
          refine r_callVY (as := []) (rest := [_]) (slen_dom eq22) dX5_readLine_65 ml_X5_94 yX_length (c_slen eq22) (by decide) rfl (Nat.le_of_ble_eq_true rfl) ?_
          obtain ⟨p23, ep25, eb18⟩ := obind eb18
          have J24a : Run l G M_X5_readLine 6 77 [some (vr (some 7)), some (vi q1), some (vx q11), some (vi z13.1)] [] S p23 (none) S q := by
            refine r_iinc (v := _ + (1 : Int32)) dX5_readLine_77 rfl (congrArg (_ + ·) ci_1) (by decide) rfl ?_
            refine r_goto (tgt := 47) dX5_readLine_80 rfl ?_
            cases eb18
            exact r_weak (L' := [some (vr (some 7)), some (vi q1), some (vx q11), some (vi (z13.1 + (1 : Int32)))]) ⟨rfl, rfl, rfl, rfl, trivial⟩ hx17
          have J24 : ∀ pp : Mm, pp = p23 → Run l G M_X5_readLine 6 77 [some (vr (some 7)), some (vi q1), some (vx q11), some (vi z13.1)] [] S pp (none) S q := by
            intro pp hpp
            rw [hpp]
            exact J24a
          refine r_icmp_ge (tgt := 77) dX5_readLine_68 rfl (fun h27 => ?_) (fun h27 => ?_)
          · replace ep25 := ite_t h27 ep25
            exact r_weak (L' := [some (vr (some 7)), some (vi q1), some (vx q11), some (vi z13.1)]) ⟨rfl, rfl, rfl, rfl, trivial⟩ (J24 _ (Option.some.inj ep25))
          · replace ep25 := ite_f h27 ep25
            refine r_aload_n dX5_readLine_71 rfl ?_
            refine r_aload_nx dX5_readLine_72 rfl ?_
            refine r_iload_n dX5_readLine_73 rfl ?_
            obtain ⟨q28, eq29, ep25⟩ := obind ep25
            refine r_callV (as := [_, _]) (rest := []) dX5_readLine_74 ml_X5_98 yV_X5_readNumber (c_X5_readNumber hS eq29) (by decide) rfl (lp_7 hS) (lq_7 hS) (Nat.le_of_ble_eq_true rfl) ?_
            exact r_weak (L' := [some (vr (some 7)), some (vi q1), some (vx q11), some (vi z13.1)]) ⟨rfl, rfl, rfl, rfl, trivial⟩ (J24 _ (Option.some.inj ep25))
      exact r_weak (L' := [some (vr (some 7)), some (vi q1), some (vx q11), some (vi (0 : Int32))]) ⟨rfl, rfl, rfl, rfl, trivial⟩ J15w
    refine r_if_eq (tgt := 32) dX5_readLine_20 rfl (fun h6 => ?_) (fun h6 => ?_)
    · exact r_weak (L' := [some (vr (some 7)), some (vi q1), none, none]) ⟨rfl, rfl, trivial⟩ (J8 _ (Eq.symm (if_pos h6)))
    · refine r_aload_n dX5_readLine_23 rfl ?_
      refine r_iconst (v := 3) dX5_readLine_24 ci_3 ?_
      refine r_aload_n dX5_readLine_25 rfl ?_
      refine r_getI dX5_readLine_26 fl_X5_47 rfl (lp_7 hS) (lq_7 hS) ?_
      refine r_callV (as := [_, _]) (rest := []) dX5_readLine_29 ml_X5_75 yV_X5_note (c_X5_note hS) (by decide) rfl (lp_7 hS) (lq_7 hS) (Nat.le_of_ble_eq_true rfl) ?_
      exact r_weak (L' := [some (vr (some 7)), some (vi q1), none, none]) ⟨rfl, rfl, trivial⟩ (J8 _ (Eq.symm (if_neg h6)))
  · replace e := ite_t h3 e
    refine r_aload_n dX5_readLine_10 rfl ?_
    refine r_callV (as := []) (rest := []) dX5_readLine_11 ml_X5_83 yV_X5_giveUp (c_X5_giveUp hS) (by decide) rfl (lp_7 hS) (lq_7 hS) (Nat.le_of_ble_eq_true rfl) ?_
    cases e
    exact r_return dX5_readLine_14 rfl
noncomputable def m_X5_someoneIsMissing_b9 (mm : Mm) (S : Sk) (z1 : Int32) : Option ((Int32) ⊕ ((Unit) ⊕ (Int32))) := if (mI mm 8 1) ≤ z1 then (some (.inr (.inl ()))) else ((m_X6_cell S 8 z1 (0 : Int32) mm).bind (fun q8 => bS (if (if q8 = (3 : Int32) then (1 : Int32) else (if q8 = (4 : Int32) then (1 : Int32) else (0 : Int32))) = 0 then (some (.inl ())) else ((m_X6_cell S 8 z1 (1 : Int32) mm).bind (fun q19 => if (mI mm 10 (ix (0 : Int32))) ≤ q19 then (some (.inr (.inr (.inr (1 : Int32))))) else ((m_X6_cell S 8 z1 (2 : Int32) mm).bind (fun q22 => if q22 < (mI mm 10 (ix (0 : Int32))) then (some (.inl ())) else (some (.inr (.inr (.inr (1 : Int32))))))))) : Option ((Unit) ⊕ ((Int32) ⊕ ((Unit) ⊕ (Int32))))) (fun p14 => some (.inl (z1 + (1 : Int32))))))
noncomputable def m_X5_someoneIsMissing (S : Sk) (mm : Mm) : Option (Int32) := bS (whileF FU (m_X5_someoneIsMissing_b9 mm S) (0 : Int32)) (fun p2 => some (0 : Int32))
set_option maxHeartbeats 4000000 in
set_option maxRecDepth 100000 in
theorem c_X5_someoneIsMissing {l : Launch} {G : Gt} {S : Sk} {mm : Mm} (hI : SI S) {q : Int32} (e : m_X5_someoneIsMissing S mm = some q) : CallOK l G M_X5_someoneIsMissing yX5_someoneIsMissing 1 [vr (some 7)] S mm (some (vi q)) S mm := by
  have hS := hI.1
  refine call_of_run rfl rfl rfl (Nat.le_of_ble_eq_true rfl) ?_
  show Run l G M_X5_someoneIsMissing 1 0 [some (vr (some 7)), none, none, none, none] [] S mm (some (vi q)) S mm
  unfold m_X5_someoneIsMissing at e
  refine r_aload_n dX5_someoneIsMissing_0 rfl ?_
  refine r_getR dX5_someoneIsMissing_1 fl_X5_27 rfl (lp_7 hS) (lq_7 hS) (lr_7_3 hS) ?_
  refine r_iconst (v := 0) dX5_someoneIsMissing_4 ci_0 ?_
  refine r_iald dX5_someoneIsMissing_5 (lp_10 hS) (lk_10 hS) (vp_in_iff.mpr ⟨by decide, by decide⟩) ?_
  refine r_istore_n dX5_someoneIsMissing_6 (by decide) rfl ?_
  refine r_iconst (v := 0) dX5_someoneIsMissing_7 ci_0 ?_
  refine r_istore_n dX5_someoneIsMissing_8 (by decide) rfl ?_
  obtain ⟨x4, eb6w, elx4, erx4⟩ := bS_some e
  have J3 : ∀ p2 : Unit, x4 = .inl p2 → Run l G M_X5_someoneIsMissing 1 86 [none, none, none, none, none] [] S mm (some (vi q)) S mm := by
    intro p2 hp2
    replace e := elx4 p2 hp2
    refine r_iconst (v := 0) dX5_someoneIsMissing_86 ci_0 ?_
    cases e
    exact r_ireturn dX5_someoneIsMissing_87 rfl (nz_b (by first | exact Or.inl rfl | exact Or.inr rfl)).1
  have J3w : Run l G M_X5_someoneIsMissing 1 9 [some (vr (some 7)), some (vi (mI mm 10 (ix (0 : Int32)))), some (vi (0 : Int32)), none, none] [] S mm (some (vi q)) S mm := by
    refine while_run (s := (0 : Int32)) (Gs := fun (z1 : Int32) => Run l G M_X5_someoneIsMissing 1 9 [some (vr (some 7)), some (vi (mI mm 10 (ix (0 : Int32)))), some (vi z1), none, none] [] S mm (some (vi q)) S mm) eb6w ?_
    intro z1 x4y eb6 hx5
    unfold m_X5_someoneIsMissing_b9 at eb6
    refine r_iload_n dX5_someoneIsMissing_9 rfl ?_
    refine r_aload_n dX5_someoneIsMissing_10 rfl ?_
    refine r_getR dX5_someoneIsMissing_11 fl_X5_16 rfl (lp_7 hS) (lq_7 hS) (lr_7_0 hS) ?_
    refine r_getI dX5_someoneIsMissing_14 fl_X5_62 rfl (lp_8 hS) (lq_8 hS) ?_
    refine r_icmp_ge (tgt := 86) dX5_someoneIsMissing_17 rfl (fun h7 => ?_) (fun h7 => ?_)
    · replace eb6 := ite_t h7 eb6
      cases eb6
      exact r_weak (L' := [none, none, none, none, none]) trivial (J3 _ (Eq.symm hx5))
    · replace eb6 := ite_f h7 eb6
      refine r_aload_n dX5_someoneIsMissing_20 rfl ?_
      refine r_getR dX5_someoneIsMissing_21 fl_X5_16 rfl (lp_7 hS) (lq_7 hS) (lr_7_0 hS) ?_
      refine r_iload_n dX5_someoneIsMissing_24 rfl ?_
      refine r_iconst (v := 0) dX5_someoneIsMissing_25 ci_0 ?_
      obtain ⟨q8, eq9, eb6⟩ := obind eb6
      refine r_callV (as := [_, _]) (rest := []) dX5_someoneIsMissing_26 ml_X5_114 yV_X6_cell (c_X6_cell hI ⟨lp_8 hS, lq_8 hS⟩ eq9) (by decide) rfl (lp_8 hS) (lq_8 hS) (Nat.le_of_ble_eq_true rfl) ?_
      refine r_istore_n dX5_someoneIsMissing_29 (by decide) rfl ?_
      refine r_iload_n dX5_someoneIsMissing_30 rfl ?_
      refine r_iconst (v := 3) dX5_someoneIsMissing_31 ci_3 ?_
      have J13 : ∀ (w12 : Int32), w12 = (if q8 = (3 : Int32) then (1 : Int32) else (if q8 = (4 : Int32) then (1 : Int32) else (0 : Int32))) → Run l G M_X5_someoneIsMissing 1 45 [some (vr (some 7)), some (vi (mI mm 10 (ix (0 : Int32)))), some (vi z1), none, none] [vi w12] S mm (some (vi q)) S mm := by
        intro w12 hw25
        subst hw25
        refine r_istore dX5_someoneIsMissing_45 (by decide) rfl ?_
        refine r_iload dX5_someoneIsMissing_47 rfl ?_
        obtain ⟨x17, ep16, elx17, erx17⟩ := bS_some eb6
        have J15 : ∀ p14 : Unit, x17 = .inl p14 → Run l G M_X5_someoneIsMissing 1 80 [some (vr (some 7)), some (vi (mI mm 10 (ix (0 : Int32)))), some (vi z1), none, none] [] S mm (some (vi q)) S mm := by
          intro p14 hp14
          replace eb6 := elx17 p14 hp14
          refine r_iinc (v := _ + (1 : Int32)) dX5_someoneIsMissing_80 rfl (congrArg (_ + ·) ci_1) (by decide) rfl ?_
          refine r_goto (tgt := 9) dX5_someoneIsMissing_83 rfl ?_
          cases eb6
          exact r_weak (L' := [some (vr (some 7)), some (vi (mI mm 10 (ix (0 : Int32)))), some (vi (z1 + (1 : Int32))), none, none]) ⟨rfl, rfl, rfl, trivial⟩ hx5
        refine r_if_eq (tgt := 80) dX5_someoneIsMissing_49 rfl (fun h18 => ?_) (fun h18 => ?_)
        · replace ep16 := ite_t h18 ep16
          cases ep16
          exact r_weak (L' := [some (vr (some 7)), some (vi (mI mm 10 (ix (0 : Int32)))), some (vi z1), none, none]) ⟨rfl, rfl, rfl, trivial⟩ (J15 _ rfl)
        · replace ep16 := ite_f h18 ep16
          refine r_aload_n dX5_someoneIsMissing_52 rfl ?_
          refine r_getR dX5_someoneIsMissing_53 fl_X5_16 rfl (lp_7 hS) (lq_7 hS) (lr_7_0 hS) ?_
          refine r_iload_n dX5_someoneIsMissing_56 rfl ?_
          refine r_iconst (v := 1) dX5_someoneIsMissing_57 ci_1 ?_
          obtain ⟨q19, eq20, ep16⟩ := obind ep16
          refine r_callV (as := [_, _]) (rest := []) dX5_someoneIsMissing_58 ml_X5_114 yV_X6_cell (c_X6_cell hI ⟨lp_8 hS, lq_8 hS⟩ eq20) (by decide) rfl (lp_8 hS) (lq_8 hS) (Nat.le_of_ble_eq_true rfl) ?_
          refine r_iload_n dX5_someoneIsMissing_61 rfl ?_
          refine r_icmp_ge (tgt := 78) dX5_someoneIsMissing_62 rfl (fun h21 => ?_) (fun h21 => ?_)
          · replace ep16 := ite_t h21 ep16
            refine r_iconst (v := 1) dX5_someoneIsMissing_78 ci_1 ?_
            cases ep16
            have eb6 := congrArg some (erx17 _ rfl)
            cases eb6
            have e := congrArg some (erx4 _ (Eq.symm hx5))
            cases e
            exact r_ireturn dX5_someoneIsMissing_79 rfl (nz_b (by first | exact Or.inl rfl | exact Or.inr rfl)).1
          · replace ep16 := ite_f h21 ep16
            refine r_aload_n dX5_someoneIsMissing_65 rfl ?_
            refine r_getR dX5_someoneIsMissing_66 fl_X5_16 rfl (lp_7 hS) (lq_7 hS) (lr_7_0 hS) ?_
            refine r_iload_n dX5_someoneIsMissing_69 rfl ?_
            refine r_iconst (v := 2) dX5_someoneIsMissing_70 ci_2 ?_
            obtain ⟨q22, eq23, ep16⟩ := obind ep16
            refine r_callV (as := [_, _]) (rest := []) dX5_someoneIsMissing_71 ml_X5_114 yV_X6_cell (c_X6_cell hI ⟨lp_8 hS, lq_8 hS⟩ eq23) (by decide) rfl (lp_8 hS) (lq_8 hS) (Nat.le_of_ble_eq_true rfl) ?_
            refine r_iload_n dX5_someoneIsMissing_74 rfl ?_
            refine r_icmp_lt (tgt := 80) dX5_someoneIsMissing_75 rfl (fun h24 => ?_) (fun h24 => ?_)
            · replace ep16 := ite_t h24 ep16
              cases ep16
              exact r_weak (L' := [some (vr (some 7)), some (vi (mI mm 10 (ix (0 : Int32)))), some (vi z1), none, none]) ⟨rfl, rfl, rfl, trivial⟩ (J15 _ rfl)
            · replace ep16 := ite_f h24 ep16
              refine r_iconst (v := 1) dX5_someoneIsMissing_78 ci_1 ?_
              cases ep16
              have eb6 := congrArg some (erx17 _ rfl)
              cases eb6
              have e := congrArg some (erx4 _ (Eq.symm hx5))
              cases e
              exact r_ireturn dX5_someoneIsMissing_79 rfl (nz_b (by first | exact Or.inl rfl | exact Or.inr rfl)).1
      refine r_icmp_eq (tgt := 40) dX5_someoneIsMissing_32 rfl (fun h10 => ?_) (fun h10 => ?_)
      · refine r_iconst (v := 1) dX5_someoneIsMissing_40 ci_1 ?_
        refine r_goto (tgt := 45) dX5_someoneIsMissing_41 rfl ?_
        exact r_weak (L' := [some (vr (some 7)), some (vi (mI mm 10 (ix (0 : Int32)))), some (vi z1), none, none]) ⟨rfl, rfl, rfl, trivial⟩ (J13 _ (Eq.symm (if_pos h10)))
      · refine r_iload_n dX5_someoneIsMissing_35 rfl ?_
        refine r_iconst (v := 4) dX5_someoneIsMissing_36 ci_4 ?_
        refine r_icmp_ne (tgt := 44) dX5_someoneIsMissing_37 rfl (fun h11 => ?_) (fun h11 => ?_)
        · refine r_iconst (v := 0) dX5_someoneIsMissing_44 ci_0 ?_
          exact r_weak (L' := [some (vr (some 7)), some (vi (mI mm 10 (ix (0 : Int32)))), some (vi z1), none, none]) ⟨rfl, rfl, rfl, trivial⟩ (J13 _ (Eq.symm ((if_neg h10).trans (if_neg h11))))
        · refine r_iconst (v := 1) dX5_someoneIsMissing_40 ci_1 ?_
          refine r_goto (tgt := 45) dX5_someoneIsMissing_41 rfl ?_
          exact r_weak (L' := [some (vr (some 7)), some (vi (mI mm 10 (ix (0 : Int32)))), some (vi z1), none, none]) ⟨rfl, rfl, rfl, trivial⟩ (J13 _ (Eq.symm ((if_neg h10).trans (if_pos h11))))
  exact r_weak (L' := [some (vr (some 7)), some (vi (mI mm 10 (ix (0 : Int32)))), some (vi (0 : Int32)), none, none]) ⟨rfl, rfl, rfl, trivial⟩ J3w
noncomputable def m_X5_read_b41 (z2 : Int32 × Mm) : Option ((Int32 × Mm) ⊕ (Mm)) := if (7 : Int32) ≤ z2.1 then (some (.inr z2.2)) else (grd z2.1 7 (some (.inl (z2.1 + (1 : Int32), (sI z2.2 10 (ix z2.1) (0 : Int32))))))
noncomputable def m_X5_read_b77 (S : Sk) (z12 : Int32 × Mm) : Option ((Int32 × Mm) ⊕ (Mm)) := if (mI z12.2 7 6) ≤ z12.1 then (some (.inr z12.2)) else (if (mI z12.2 7 8) = 0 then (some (.inr z12.2)) else (if (mI z12.2 7 1) = (1 : Int32) then (some (.inr z12.2)) else ((m_X5_readLine (sRs S 7 5 (some 2)) z12.2).bind (fun q21 => some (.inl (z12.1 + (1 : Int32), q21))))))
noncomputable def m_X5_read (S : Sk) (a2 : Int32) (a3 : Int32) (mm : Mm) : Option (Sk × Mm) := gP (Lay (sRs S 7 5 (some 2))) ((whileF FU (m_X5_read_b41) ((0 : Int32), (sI (sI (sI (sI (sI mm 7 6 (xmin a2 (600 : Int32))) 7 7 a3) 7 1 (0 : Int32)) 7 2 (-1 : Int32)) 8 1 (0 : Int32)))).bind (fun p3 => (m_X5_nextToken (sRs S 7 5 (some 2)) (sI p3 7 10 (0 : Int32))).bind (fun q10 => (whileF FU (m_X5_read_b77 S) ((0 : Int32), q10)).bind (fun p13 => if (mI p13 7 1) = 0 then (if (mI p13 7 7) = 0 then (gP (SI (sRs S 7 5 (some 2))) ((m_X5_someoneIsMissing (sRs S 7 5 (some 2)) p13).bind (fun q26 => if q26 = 0 then (some ((sRs S 7 5 (some 2)), p13)) else (some ((sRs S 7 5 (some 2)), (m_X5_note (4 : Int32) (mI p13 7 6) p13)))))) else (some ((sRs S 7 5 (some 2)), p13))) else (some ((sRs S 7 5 (some 2)), p13))))))
set_option maxHeartbeats 4000000 in
set_option maxRecDepth 100000 in
theorem c_X5_read {l : Launch} {G : Gt} {S : Sk} {a2 : Int32} {a3 : Int32} {mm : Mm} (hS : Lay S) {q : Sk × Mm} (e : m_X5_read S a2 a3 mm = some q) : CallOK l G M_X5_read yX5_read 7 [vr (some 7), vr (some 2), vi a2, vi a3] S mm (none) q.1 q.2 := by
  refine call_of_run rfl rfl rfl (Nat.le_of_ble_eq_true rfl) ?_
  show Run l G M_X5_read 7 0 [some (vr (some 7)), some (vr (some 2)), some (vi a2), some (vi a3), none] [] S mm (none) q.1 q.2
  unfold m_X5_read at e
  refine r_aload_n dX5_read_0 rfl ?_
  refine r_aload_n dX5_read_1 rfl ?_
  refine r_putR dX5_read_2 fl_X5_34 ft_5_5 (Or.inl rfl) rfl (lp_7 hS) (lq_7 hS) ?_
  refine r_aload_n dX5_read_5 rfl ?_
  refine r_iload_n dX5_read_6 rfl ?_
  refine r_aload_n dX5_read_7 rfl ?_
  obtain ⟨hn1, e⟩ := gP_some e
  refine r_alen (v := 600) dX5_read_8 (lp_2 hn1) (lk_2 hn1) (by decide) (by decide) (by decide) ?_
  refine r_mmin (rest := [_]) dX5_read_9 ml_X5_56 (by decide) (Nat.le_of_ble_eq_true rfl) ?_
  refine r_putI dX5_read_12 fl_X5_38 ft_5_6 (Or.inl rfl) rfl rfl rfl (lp_7 hn1) (lq_7 hn1) ?_
  refine r_aload_n dX5_read_15 rfl ?_
  refine r_iload_n dX5_read_16 rfl ?_
  refine r_putI dX5_read_17 fl_X5_41 ft_5_7 (Or.inl rfl) rfl rfl rfl (lp_7 hn1) (lq_7 hn1) ?_
  refine r_aload_n dX5_read_20 rfl ?_
  refine r_iconst (v := 0) dX5_read_21 ci_0 ?_
  refine r_putI dX5_read_22 fl_X5_20 ft_5_1 (Or.inl rfl) rfl rfl rfl (lp_7 hn1) (lq_7 hn1) ?_
  refine r_aload_n dX5_read_25 rfl ?_
  refine r_iconst (v := -1) dX5_read_26 ci_m1 ?_
  refine r_putI dX5_read_27 fl_X5_24 ft_5_2 (Or.inl rfl) rfl rfl rfl (lp_7 hn1) (lq_7 hn1) ?_
  refine r_aload_n dX5_read_30 rfl ?_
  refine r_getR dX5_read_31 fl_X5_16 rfl (lp_7 hn1) (lq_7 hn1) (lr_7_0 hn1) ?_
  refine r_iconst (v := 0) dX5_read_34 ci_0 ?_
  refine r_putI dX5_read_35 fl_X5_62 ft_6_1 (Or.inl rfl) rfl rfl rfl (lp_8 hn1) (lq_8 hn1) ?_
  refine r_iconst (v := 0) dX5_read_38 ci_0 ?_
  refine r_istore dX5_read_39 (by decide) rfl ?_
  obtain ⟨p3, eb7w, e⟩ := obind e
  have J4a : Run l G M_X5_read 7 65 [some (vr (some 7)), none, none, none, none] [] (sRs S 7 5 (some 2)) p3 (none) q.1 q.2 := by
    refine r_aload_n dX5_read_65 rfl ?_
    refine r_iconst (v := 0) dX5_read_66 ci_0 ?_
    refine r_putI dX5_read_67 fl_X5_50 ft_5_10 (Or.inl rfl) rfl rfl rfl (lp_7 hn1) (lq_7 hn1) ?_
    refine r_aload_n dX5_read_70 rfl ?_
    obtain ⟨q10, eq11, e⟩ := obind e
    refine r_callV (as := []) (rest := []) dX5_read_71 ml_X5_65 yV_X5_nextToken (c_X5_nextToken hn1 eq11) (by decide) rfl (lp_7 hn1) (lq_7 hn1) (Nat.le_of_ble_eq_true rfl) ?_
    refine r_iconst (v := 0) dX5_read_74 ci_0 ?_
    refine r_istore dX5_read_75 (by decide) rfl ?_
    obtain ⟨p13, eb17w, e⟩ := obind e
    have J14a : Run l G M_X5_read 7 111 [some (vr (some 7)), none, none, none, none] [] (sRs S 7 5 (some 2)) p13 (none) q.1 q.2 := by
      refine r_aload_n dX5_read_111 rfl ?_
      refine r_getI dX5_read_112 fl_X5_20 rfl (lp_7 hn1) (lq_7 hn1) ?_
      refine r_if_ne (tgt := 141) dX5_read_115 rfl (fun h23 => ?_) (fun h23 => ?_)
      · replace e := ite_f h23 e
        cases e
        exact r_return dX5_read_141 rfl
      · replace e := ite_t h23 e
        refine r_aload_n dX5_read_118 rfl ?_
        refine r_getI dX5_read_119 fl_X5_41 rfl (lp_7 hn1) (lq_7 hn1) ?_
        refine r_if_ne (tgt := 141) dX5_read_122 rfl (fun h24 => ?_) (fun h24 => ?_)
        · replace e := ite_f h24 e
          cases e
          exact r_return dX5_read_141 rfl
        · replace e := ite_t h24 e
          refine r_aload_n dX5_read_125 rfl ?_
          obtain ⟨hn25, e⟩ := gP_some e
          obtain ⟨q26, eq27, e⟩ := obind e
          refine r_callV (as := []) (rest := []) dX5_read_126 ml_X5_71 yV_X5_someoneIsMissing (c_X5_someoneIsMissing hn25 eq27) (by decide) rfl (lp_7 hn1) (lq_7 hn1) (Nat.le_of_ble_eq_true rfl) ?_
          refine r_if_eq (tgt := 141) dX5_read_129 rfl (fun h28 => ?_) (fun h28 => ?_)
          · replace e := ite_t h28 e
            cases e
            exact r_return dX5_read_141 rfl
          · replace e := ite_f h28 e
            refine r_aload_n dX5_read_132 rfl ?_
            refine r_iconst (v := 4) dX5_read_133 ci_4 ?_
            refine r_aload_n dX5_read_134 rfl ?_
            refine r_getI dX5_read_135 fl_X5_38 rfl (lp_7 hn25.1) (lq_7 hn25.1) ?_
            refine r_callV (as := [_, _]) (rest := []) dX5_read_138 ml_X5_75 yV_X5_note (c_X5_note hn25.1) (by decide) rfl (lp_7 hn25.1) (lq_7 hn25.1) (Nat.le_of_ble_eq_true rfl) ?_
            cases e
            exact r_return dX5_read_141 rfl
    have J14 : ∀ pp : Mm, pp = p13 → Run l G M_X5_read 7 111 [some (vr (some 7)), none, none, none, none] [] (sRs S 7 5 (some 2)) pp (none) q.1 q.2 := by
      intro pp hpp
      rw [hpp]
      exact J14a
    have J14w : Run l G M_X5_read 7 77 [some (vr (some 7)), none, none, none, some (vi (0 : Int32))] [] (sRs S 7 5 (some 2)) q10 (none) q.1 q.2 := by
      refine while_run (s := ((0 : Int32), q10)) (Gs := fun (z12 : Int32 × Mm) => Run l G M_X5_read 7 77 [some (vr (some 7)), none, none, none, some (vi z12.1)] [] (sRs S 7 5 (some 2)) z12.2 (none) q.1 q.2) eb17w ?_
      intro z12 x15y eb17 hx16
      unfold m_X5_read_b77 at eb17
      refine r_iload dX5_read_77 rfl ?_
      refine r_aload_n dX5_read_79 rfl ?_
      refine r_getI dX5_read_80 fl_X5_38 rfl (lp_7 hn1) (lq_7 hn1) ?_
      refine r_icmp_ge (tgt := 111) dX5_read_83 rfl (fun h18 => ?_) (fun h18 => ?_)
      · replace eb17 := ite_t h18 eb17
        cases eb17
        exact r_weak (L' := [some (vr (some 7)), none, none, none, none]) ⟨rfl, trivial⟩ (J14 _ hx16)
      · replace eb17 := ite_f h18 eb17
        refine r_aload_n dX5_read_86 rfl ?_
        refine r_getI dX5_read_87 fl_X5_44 rfl (lp_7 hn1) (lq_7 hn1) ?_
        refine r_if_eq (tgt := 111) dX5_read_90 rfl (fun h19 => ?_) (fun h19 => ?_)
        · replace eb17 := ite_t h19 eb17
          cases eb17
          exact r_weak (L' := [some (vr (some 7)), none, none, none, none]) ⟨rfl, trivial⟩ (J14 _ hx16)
        · replace eb17 := ite_f h19 eb17
          refine r_aload_n dX5_read_93 rfl ?_
          refine r_getI dX5_read_94 fl_X5_20 rfl (lp_7 hn1) (lq_7 hn1) ?_
          refine r_iconst (v := 1) dX5_read_97 ci_1 ?_
          refine r_icmp_eq (tgt := 111) dX5_read_98 rfl (fun h20 => ?_) (fun h20 => ?_)
          · replace eb17 := ite_t h20 eb17
            cases eb17
            exact r_weak (L' := [some (vr (some 7)), none, none, none, none]) ⟨rfl, trivial⟩ (J14 _ hx16)
          · replace eb17 := ite_f h20 eb17
            refine r_aload_n dX5_read_101 rfl ?_
            obtain ⟨q21, eq22, eb17⟩ := obind eb17
            refine r_callV (as := []) (rest := []) dX5_read_102 ml_X5_68 yV_X5_readLine (c_X5_readLine hn1 eq22) (by decide) rfl (lp_7 hn1) (lq_7 hn1) (Nat.le_of_ble_eq_true rfl) ?_
            refine r_iinc (v := _ + (1 : Int32)) dX5_read_105 rfl (congrArg (_ + ·) ci_1) (by decide) rfl ?_
            refine r_goto (tgt := 77) dX5_read_108 rfl ?_
            cases eb17
            exact r_weak (L' := [some (vr (some 7)), none, none, none, some (vi (z12.1 + (1 : Int32)))]) ⟨rfl, rfl, trivial⟩ hx16
    exact r_weak (L' := [some (vr (some 7)), none, none, none, some (vi (0 : Int32))]) ⟨rfl, rfl, trivial⟩ J14w
  have J4 : ∀ pp : Mm, pp = p3 → Run l G M_X5_read 7 65 [some (vr (some 7)), none, none, none, none] [] (sRs S 7 5 (some 2)) pp (none) q.1 q.2 := by
    intro pp hpp
    rw [hpp]
    exact J4a
  have J4w : Run l G M_X5_read 7 41 [some (vr (some 7)), none, none, none, some (vi (0 : Int32))] [] (sRs S 7 5 (some 2)) (sI (sI (sI (sI (sI mm 7 6 (xmin a2 (600 : Int32))) 7 7 a3) 7 1 (0 : Int32)) 7 2 (-1 : Int32)) 8 1 (0 : Int32)) (none) q.1 q.2 := by
    refine while_run (s := ((0 : Int32), (sI (sI (sI (sI (sI mm 7 6 (xmin a2 (600 : Int32))) 7 7 a3) 7 1 (0 : Int32)) 7 2 (-1 : Int32)) 8 1 (0 : Int32)))) (Gs := fun (z2 : Int32 × Mm) => Run l G M_X5_read 7 41 [some (vr (some 7)), none, none, none, some (vi z2.1)] [] (sRs S 7 5 (some 2)) z2.2 (none) q.1 q.2) eb7w ?_
    intro z2 x5y eb7 hx6
    unfold m_X5_read_b41 at eb7
    refine r_iload dX5_read_41 rfl ?_
    refine r_aload_n dX5_read_43 rfl ?_
    refine r_getR dX5_read_44 fl_X5_27 rfl (lp_7 hn1) (lq_7 hn1) (lr_7_3 hn1) ?_
    refine r_alen (v := 7) dX5_read_47 (lp_10 hn1) (lk_10 hn1) (by decide) (by decide) (by decide) ?_
    refine r_icmp_ge (tgt := 65) dX5_read_48 rfl (fun h8 => ?_) (fun h8 => ?_)
    · replace eb7 := ite_t h8 eb7
      cases eb7
      exact r_weak (L' := [some (vr (some 7)), none, none, none, none]) ⟨rfl, trivial⟩ (J4 _ hx6)
    · replace eb7 := ite_f h8 eb7
      refine r_aload_n dX5_read_51 rfl ?_
      refine r_getR dX5_read_52 fl_X5_27 rfl (lp_7 hn1) (lq_7 hn1) (lr_7_3 hn1) ?_
      refine r_iload dX5_read_55 rfl ?_
      refine r_iconst (v := 0) dX5_read_57 ci_0 ?_
      obtain ⟨hg9, eb7⟩ := grd_some eb7
      refine r_iast dX5_read_58 (lp_10 hn1) (lk_10 hn1) hg9 ?_
      refine r_iinc (v := _ + (1 : Int32)) dX5_read_59 rfl (congrArg (_ + ·) ci_1) (by decide) rfl ?_
      refine r_goto (tgt := 41) dX5_read_62 rfl ?_
      cases eb7
      exact r_weak (L' := [some (vr (some 7)), none, none, none, some (vi (z2.1 + (1 : Int32)))]) ⟨rfl, rfl, trivial⟩ hx6
  exact r_weak (L' := [some (vr (some 7)), none, none, none, some (vi (0 : Int32))]) ⟨rfl, rfl, trivial⟩ J4w
noncomputable def m_X6_copy (S : Sk) (mm : Mm) : Option (Option Nat × Sk × Mm) := gP (Lay (nwS S 6 0 2)) ((m_X6_init (nwS S 6 0 2) S.1 (mI (nwM S mm) 8 1) (nwM S mm)).bind (fun q3 => gP (Lay q3.1) (gk q3.1 S.1 6 (gP (SI q3.1) (gP (cpOK 20 400 ((sK q3.1 (S.1 + 1)).2) (0 : Int32) (0 : Int32) ((mI q3.2 8 1) * (4 : Int32)) (fun i => mI q3.2 9 i)) (some ((some S.1), q3.1, (sI (cpM q3.2 9 (ix (0 : Int32)) (S.1 + 1) (ix (0 : Int32)) (ix ((mI q3.2 8 1) * (4 : Int32)))) S.1 1 (mI (cpM q3.2 9 (ix (0 : Int32)) (S.1 + 1) (ix (0 : Int32)) (ix ((mI q3.2 8 1) * (4 : Int32)))) 8 1)))))))))
set_option maxHeartbeats 4000000 in
set_option maxRecDepth 100000 in
theorem c_X6_copy {l : Launch} {G : Gt} {S : Sk} {mm : Mm} {q : Option Nat × Sk × Mm} (e : m_X6_copy S mm = some q) : CallOK l G M_X6_copy yX6_copy 2 [vr (some 8)] S mm (some (vr q.1)) q.2.1 q.2.2 := by
  refine call_of_run rfl rfl rfl (Nat.le_of_ble_eq_true rfl) ?_
  show Run l G M_X6_copy 2 0 [some (vr (some 8)), none] [] S mm (some (vr q.1)) q.2.1 q.2.2
  unfold m_X6_copy at e
  refine r_new dX6_copy_0 nw_X6_10 ?_
  have hn1 : KD (nwS S 6 0 2) S.1 6 := kd_new
  refine r_dup dX6_copy_3 rfl ?_
  refine r_aload_n dX6_copy_4 rfl ?_
  obtain ⟨hn2, e⟩ := gP_some e
  refine r_getI dX6_copy_5 fl_X6_9 rfl (lp_8 hn2) (lq_8 hn2) ?_
  obtain ⟨q3, eq4, e⟩ := obind e
  refine r_callI (as := [_]) (rest := [_]) dX6_copy_8 ml_X6_25 yI_X6_init (c_X6_init hn1 eq4) (by decide) rfl (Nat.le_of_ble_eq_true rfl) ?_
  refine r_astore_n dX6_copy_11 (by decide) rfl ?_
  refine r_aload_n dX6_copy_12 rfl ?_
  obtain ⟨hn5, e⟩ := gP_some e
  refine r_getR dX6_copy_13 fl_X6_21 rfl (lp_8 hn5) (lq_8 hn5) (lr_8_0 hn5) ?_
  refine r_iconst (v := 0) dX6_copy_16 ci_0 ?_
  refine r_aload_n dX6_copy_17 rfl ?_
  obtain ⟨hn6, e⟩ := gk_some e
  obtain ⟨hn7, e⟩ := gP_some e
  refine r_getR dX6_copy_18 fl_X6_21 rfl hn6.1 hn6.2 (hn7.2.2.1 S.1 hn6).1 ?_
  refine r_iconst (v := 0) dX6_copy_21 ci_0 ?_
  refine r_aload_n dX6_copy_22 rfl ?_
  refine r_getI dX6_copy_23 fl_X6_9 rfl (lp_8 hn7.1) (lq_8 hn7.1) ?_
  refine r_iconst (v := 4) dX6_copy_26 ci_4 ?_
  refine r_imul dX6_copy_27 ?_
  obtain ⟨hc8, e⟩ := gP_some e
  refine r_copy (rest := []) dX6_copy_28 cp_X6_28 (lp_9 hn7.1) (lk_9 hn7.1) (hn7.2.2.1 S.1 hn6).2.1 (arr_k (hn7.2.2.1 S.1 hn6).2) (by decide) (by decide) hc8 (by decide) (Nat.le_of_ble_eq_true rfl) ?_
  refine r_aload_n dX6_copy_31 rfl ?_
  refine r_aload_n dX6_copy_32 rfl ?_
  refine r_getI dX6_copy_33 fl_X6_9 rfl (lp_8 hn7.1) (lq_8 hn7.1) ?_
  refine r_putI dX6_copy_36 fl_X6_9 ft_6_1 (Or.inl rfl) rfl rfl rfl hn6.1 hn6.2 ?_
  refine r_aload_n dX6_copy_39 rfl ?_
  cases e
  exact r_areturn dX6_copy_40 rfl (Or.inl ⟨_, rfl⟩) (Or.inl ⟨_, rfl⟩)
noncomputable def m_X8_init (S : Sk) (a0 : Nat) (mm : Mm) : Option (Sk × Mm) := some ((sRs (nwS (sRs (nwS (sRs (nwS (sRs S a0 1 none) 20 6 6) a0 3 (some S.1)) 20 6 6) a0 4 (some (S.1 + 1))) 20 64 64) a0 5 (some (S.1 + 2))), (nwM (sRs (nwS (sRs (nwS (sRs S a0 1 none) 20 6 6) a0 3 (some S.1)) 20 6 6) a0 4 (some (S.1 + 1))) (nwM (sRs (nwS (sRs S a0 1 none) 20 6 6) a0 3 (some S.1)) (nwM (sRs S a0 1 none) (sI (sI mm a0 0 (0 : Int32)) a0 2 (0 : Int32))))))
set_option maxHeartbeats 4000000 in
set_option maxRecDepth 100000 in
theorem c_X8_init {l : Launch} {G : Gt} {S : Sk} {a0 : Nat} {mm : Mm} (ha0 : KD S a0 8) {q : Sk × Mm} (e : m_X8_init S a0 mm = some q) : CallOK l G M_X8_init yX8_init 1 [vr (some a0)] S mm (none) q.1 q.2 := by
  refine call_of_run rfl rfl rfl (Nat.le_of_ble_eq_true rfl) ?_
  show Run l G M_X8_init 1 0 [some (vr (some a0))] [] S mm (none) q.1 q.2
  unfold m_X8_init at e
  refine r_aload_n dX8_init_0 rfl ?_
  refine r_objInit (rest := []) dX8_init_1 oi_X8_3 oi_i oi_c (by decide) (Nat.le_of_ble_eq_true rfl) ?_
  refine r_aload_n dX8_init_4 rfl ?_
  refine r_iconst (v := 0) dX8_init_5 ci_0 ?_
  refine r_putI dX8_init_6 fl_X8_9 ft_8_0 (Or.inl rfl) rfl rfl rfl ha0.1 ha0.2 ?_
  refine r_aload_n dX8_init_9 rfl ?_
  refine r_null dX8_init_10 ?_
  refine r_putR dX8_init_11 fl_X8_15 ft_8_1 (Or.inl rfl) rfl ha0.1 ha0.2 ?_
  refine r_aload_n dX8_init_14 rfl ?_
  refine r_iconst (v := 0) dX8_init_15 ci_0 ?_
  refine r_putI dX8_init_16 fl_X8_19 ft_8_2 (Or.inl rfl) rfl rfl rfl ha0.1 ha0.2 ?_
  refine r_aload_n dX8_init_19 rfl ?_
  refine r_bipush (v := 6) dX8_init_20 cb_6 ?_
  refine r_newa (t := 20) dX8_init_22 rfl (by decide) (by decide) aw_20 (by decide) (N := 6) (by decide) (by decide) ?_
  have hn1 := kd_nw (k := 20) (len := 6) (z := 6) ha0
  have hn2 : AK (nwS (sRs S a0 1 none) 20 6 6) S.1 20 6 := ak_new
  refine r_putR dX8_init_24 fl_X8_22 ft_8_3 (Or.inr ⟨rfl, fun q hq => by cases hq; rfl⟩) rfl hn1.1 hn1.2 ?_
  refine r_aload_n dX8_init_27 rfl ?_
  refine r_bipush (v := 6) dX8_init_28 cb_6 ?_
  refine r_newa (t := 20) dX8_init_30 rfl (by decide) (by decide) aw_20 (by decide) (N := 6) (by decide) (by decide) ?_
  have hn3 := kd_nw (k := 20) (len := 6) (z := 6) hn1
  have hn4 := ak_nw (k := 20) (len := 6) (z := 6) hn2
  have hn5 : AK (nwS (sRs (nwS (sRs S a0 1 none) 20 6 6) a0 3 (some S.1)) 20 6 6) (S.1 + 1) 20 6 := ak_new
  refine r_putR dX8_init_32 fl_X8_26 ft_8_4 (Or.inr ⟨rfl, fun q hq => by cases hq; rfl⟩) rfl hn3.1 hn3.2 ?_
  refine r_aload_n dX8_init_35 rfl ?_
  refine r_bipush (v := 64) dX8_init_36 cb_64 ?_
  refine r_newa (t := 20) dX8_init_38 rfl (by decide) (by decide) aw_20 (by decide) (N := 64) (by decide) (by decide) ?_
  have hn6 := kd_nw (k := 20) (len := 64) (z := 64) hn3
  have hn7 := ak_nw (k := 20) (len := 64) (z := 64) hn4
  have hn8 := ak_nw (k := 20) (len := 64) (z := 64) hn5
  have hn9 : AK (nwS (sRs (nwS (sRs (nwS (sRs S a0 1 none) 20 6 6) a0 3 (some S.1)) 20 6 6) a0 4 (some (S.1 + 1))) 20 64 64) (S.1 + 2) 20 64 := ak_new
  refine r_putR dX8_init_40 fl_X8_29 ft_8_5 (Or.inr ⟨rfl, fun q hq => by cases hq; rfl⟩) rfl hn6.1 hn6.2 ?_
  cases e
  exact r_return dX8_init_43 rfl
noncomputable def m_X8_whoOf (S : Sk) (a1 : Int32) (mm : Mm) : Option (Int32) := oM (sR S 34 1) (some (-1 : Int32)) (fun c2 => gk S c2 6 ((m_X6_cell S c2 a1 (1 : Int32) mm).bind (fun q4 => some q4)))
set_option maxHeartbeats 4000000 in
set_option maxRecDepth 100000 in
theorem c_X8_whoOf {l : Launch} {G : Gt} {S : Sk} {a1 : Int32} {mm : Mm} (hI : SI S) {q : Int32} (e : m_X8_whoOf S a1 mm = some q) : CallOK l G M_X8_whoOf yX8_whoOf 1 [vr (some 34), vi a1] S mm (some (vi q)) S mm := by
  have hS := hI.1
  refine call_of_run rfl rfl rfl (Nat.le_of_ble_eq_true rfl) ?_
  show Run l G M_X8_whoOf 1 0 [some (vr (some 34)), some (vi a1)] [] S mm (some (vi q)) S mm
  unfold m_X8_whoOf at e
  refine r_aload_n dX8_whoOf_0 rfl ?_
  refine r_getR dX8_whoOf_1 fl_X8_15 rfl (lp_34 hS) (lq_34 hS) rfl ?_
  refine r_ifnonnull (tgt := 11) dX8_whoOf_4 rfl (fun c2 h1 => ?_) (fun h1 => ?_)
  · replace e := oM_some h1 e
    refine r_aload_n dX8_whoOf_11 rfl ?_
    refine r_getR dX8_whoOf_12 fl_X8_15 rfl (lp_34 hS) (lq_34 hS) h1 ?_
    refine r_iload_n dX8_whoOf_15 rfl ?_
    refine r_iconst (v := 1) dX8_whoOf_16 ci_1 ?_
    obtain ⟨hn3, e⟩ := gk_some e
    obtain ⟨q4, eq5, e⟩ := obind e
    refine r_callV (as := [_, _]) (rest := []) dX8_whoOf_17 ml_X8_66 yV_X6_cell (c_X6_cell hI hn3 eq5) (by decide) rfl hn3.1 hn3.2 (Nat.le_of_ble_eq_true rfl) ?_
    cases e
    exact r_ireturn dX8_whoOf_20 rfl rfl
  · replace e := oM_none h1 e
    refine r_iconst (v := -1) dX8_whoOf_7 ci_m1 ?_
    refine r_goto (tgt := 20) dX8_whoOf_8 rfl ?_
    cases e
    exact r_ireturn dX8_whoOf_20 rfl rfl
noncomputable def m_X8_thingOf (S : Sk) (a1 : Int32) (mm : Mm) : Option (Int32) := oM (sR S 34 1) (some (-1 : Int32)) (fun c2 => gk S c2 6 ((m_X6_cell S c2 a1 (2 : Int32) mm).bind (fun q4 => some q4)))
set_option maxHeartbeats 4000000 in
set_option maxRecDepth 100000 in
theorem c_X8_thingOf {l : Launch} {G : Gt} {S : Sk} {a1 : Int32} {mm : Mm} (hI : SI S) {q : Int32} (e : m_X8_thingOf S a1 mm = some q) : CallOK l G M_X8_thingOf yX8_thingOf 1 [vr (some 34), vi a1] S mm (some (vi q)) S mm := by
  have hS := hI.1
  refine call_of_run rfl rfl rfl (Nat.le_of_ble_eq_true rfl) ?_
  show Run l G M_X8_thingOf 1 0 [some (vr (some 34)), some (vi a1)] [] S mm (some (vi q)) S mm
  unfold m_X8_thingOf at e
  refine r_aload_n dX8_thingOf_0 rfl ?_
  refine r_getR dX8_thingOf_1 fl_X8_15 rfl (lp_34 hS) (lq_34 hS) rfl ?_
  refine r_ifnonnull (tgt := 11) dX8_thingOf_4 rfl (fun c2 h1 => ?_) (fun h1 => ?_)
  · replace e := oM_some h1 e
    refine r_aload_n dX8_thingOf_11 rfl ?_
    refine r_getR dX8_thingOf_12 fl_X8_15 rfl (lp_34 hS) (lq_34 hS) h1 ?_
    refine r_iload_n dX8_thingOf_15 rfl ?_
    refine r_iconst (v := 2) dX8_thingOf_16 ci_2 ?_
    obtain ⟨hn3, e⟩ := gk_some e
    obtain ⟨q4, eq5, e⟩ := obind e
    refine r_callV (as := [_, _]) (rest := []) dX8_thingOf_17 ml_X8_66 yV_X6_cell (c_X6_cell hI hn3 eq5) (by decide) rfl hn3.1 hn3.2 (Nat.le_of_ble_eq_true rfl) ?_
    cases e
    exact r_ireturn dX8_thingOf_20 rfl rfl
  · replace e := oM_none h1 e
    refine r_iconst (v := -1) dX8_thingOf_7 ci_m1 ?_
    refine r_goto (tgt := 20) dX8_thingOf_8 rfl ?_
    cases e
    exact r_ireturn dX8_thingOf_20 rfl rfl
noncomputable def m_X8_openersOf_b5 (a1 : Int32) (a2 : Int32) (mm : Mm) (z1 : Int32 × Int32) : Option ((Int32 × Int32) ⊕ (Int32)) := if (mI mm 14 0) ≤ z1.2 then (some (.inr z1.1)) else ((if z1.2 = a1 then (some z1.1) else ((m_X7_reachOf z1.2 a1 mm).bind (fun q13 => if (m_X11_has q13 a2) = 0 then (some z1.1) else (some (z1.1 ||| (xshl (1 : Int32) z1.2))))) : Option (Int32)).bind (fun p8 => some (.inl (p8, z1.2 + (1 : Int32)))))
noncomputable def m_X8_openersOf (a1 : Int32) (a2 : Int32) (mm : Mm) : Option (Int32) := (whileF FU (m_X8_openersOf_b5 a1 a2 mm) ((0 : Int32), (0 : Int32))).bind (fun p2 => some p2)
set_option maxHeartbeats 4000000 in
set_option maxRecDepth 100000 in
theorem c_X8_openersOf {l : Launch} {G : Gt} {S : Sk} {a1 : Int32} {a2 : Int32} {mm : Mm} (hS : Lay S) {q : Int32} (e : m_X8_openersOf a1 a2 mm = some q) : CallOK l G M_X8_openersOf yX8_openersOf 2 [vr (some 14), vi a1, vi a2] S mm (some (vi q)) S mm := by
  refine call_of_run rfl rfl rfl (Nat.le_of_ble_eq_true rfl) ?_
  show Run l G M_X8_openersOf 2 0 [some (vr (some 14)), some (vi a1), some (vi a2), none, none] [] S mm (some (vi q)) S mm
  unfold m_X8_openersOf at e
  refine r_iconst (v := 0) dX8_openersOf_0 ci_0 ?_
  refine r_istore_n dX8_openersOf_1 (by decide) rfl ?_
  refine r_iconst (v := 0) dX8_openersOf_2 ci_0 ?_
  refine r_istore dX8_openersOf_3 (by decide) rfl ?_
  obtain ⟨p2, eb6w, e⟩ := obind e
  have J3a : Run l G M_X8_openersOf 2 47 [none, none, none, some (vi p2), none] [] S mm (some (vi q)) S mm := by
    refine r_iload_n dX8_openersOf_47 rfl ?_
    cases e
    exact r_ireturn dX8_openersOf_48 rfl rfl
  have J3 : ∀ pp : Int32, pp = p2 → Run l G M_X8_openersOf 2 47 [none, none, none, some (vi pp), none] [] S mm (some (vi q)) S mm := by
    intro pp hpp
    rw [hpp]
    exact J3a
  have J3w : Run l G M_X8_openersOf 2 5 [some (vr (some 14)), some (vi a1), some (vi a2), some (vi (0 : Int32)), some (vi (0 : Int32))] [] S mm (some (vi q)) S mm := by
    refine while_run (s := ((0 : Int32), (0 : Int32))) (Gs := fun (z1 : Int32 × Int32) => Run l G M_X8_openersOf 2 5 [some (vr (some 14)), some (vi a1), some (vi a2), some (vi z1.1), some (vi z1.2)] [] S mm (some (vi q)) S mm) eb6w ?_
    intro z1 x4y eb6 hx5
    unfold m_X8_openersOf_b5 at eb6
    refine r_iload dX8_openersOf_5 rfl ?_
    refine r_aload_n dX8_openersOf_7 rfl ?_
    refine r_getI dX8_openersOf_8 fl_X8_69 rfl (lp_14 hS) (lq_14 hS) ?_
    refine r_icmp_ge (tgt := 47) dX8_openersOf_11 rfl (fun h7 => ?_) (fun h7 => ?_)
    · replace eb6 := ite_t h7 eb6
      cases eb6
      exact r_weak (L' := [none, none, none, some (vi z1.1), none]) ⟨rfl, trivial⟩ (J3 _ hx5)
    · replace eb6 := ite_f h7 eb6
      refine r_iload dX8_openersOf_14 rfl ?_
      refine r_iload_n dX8_openersOf_16 rfl ?_
      obtain ⟨p8, ep10, eb6⟩ := obind eb6
      have J9a : Run l G M_X8_openersOf 2 41 [some (vr (some 14)), some (vi a1), some (vi a2), some (vi p8), some (vi z1.2)] [] S mm (some (vi q)) S mm := by
        refine r_iinc (v := _ + (1 : Int32)) dX8_openersOf_41 rfl (congrArg (_ + ·) ci_1) (by decide) rfl ?_
        refine r_goto (tgt := 5) dX8_openersOf_44 rfl ?_
        cases eb6
        exact r_weak (L' := [some (vr (some 14)), some (vi a1), some (vi a2), some (vi p8), some (vi (z1.2 + (1 : Int32)))]) ⟨rfl, rfl, rfl, rfl, rfl, trivial⟩ hx5
      have J9 : ∀ pp : Int32, pp = p8 → Run l G M_X8_openersOf 2 41 [some (vr (some 14)), some (vi a1), some (vi a2), some (vi pp), some (vi z1.2)] [] S mm (some (vi q)) S mm := by
        intro pp hpp
        rw [hpp]
        exact J9a
      refine r_icmp_eq (tgt := 41) dX8_openersOf_17 rfl (fun h12 => ?_) (fun h12 => ?_)
      · replace ep10 := ite_t h12 ep10
        exact r_weak (L' := [some (vr (some 14)), some (vi a1), some (vi a2), some (vi z1.1), some (vi z1.2)]) ⟨rfl, rfl, rfl, rfl, rfl, trivial⟩ (J9 _ (Option.some.inj ep10))
      · replace ep10 := ite_f h12 ep10
        refine r_aload_n dX8_openersOf_20 rfl ?_
        refine r_iload dX8_openersOf_21 rfl ?_
        refine r_iload_n dX8_openersOf_23 rfl ?_
        obtain ⟨q13, eq14, ep10⟩ := obind ep10
        refine r_callV (as := [_, _]) (rest := []) dX8_openersOf_24 ml_X8_72 yV_X7_reachOf (c_X7_reachOf hS eq14) (by decide) rfl (lp_14 hS) (lq_14 hS) (Nat.le_of_ble_eq_true rfl) ?_
        refine r_iload_n dX8_openersOf_27 rfl ?_
        refine r_callSN (as := [_, _]) (rest := []) dX8_openersOf_28 nl_X8_75 yS_X11_has (c_X11_has) (by decide) rfl (Nat.le_of_ble_eq_true rfl) ?_
        refine r_if_eq (tgt := 41) dX8_openersOf_31 rfl (fun h15 => ?_) (fun h15 => ?_)
        · replace ep10 := ite_t h15 ep10
          exact r_weak (L' := [some (vr (some 14)), some (vi a1), some (vi a2), some (vi z1.1), some (vi z1.2)]) ⟨rfl, rfl, rfl, rfl, rfl, trivial⟩ (J9 _ (Option.some.inj ep10))
        · replace ep10 := ite_f h15 ep10
          refine r_iload_n dX8_openersOf_34 rfl ?_
          refine r_iconst (v := 1) dX8_openersOf_35 ci_1 ?_
          refine r_iload dX8_openersOf_36 rfl ?_
          refine r_ishl dX8_openersOf_38 ?_
          refine r_ior dX8_openersOf_39 ?_
          refine r_istore_n dX8_openersOf_40 (by decide) rfl ?_
          exact r_weak (L' := [some (vr (some 14)), some (vi a1), some (vi a2), some (vi (z1.1 ||| (xshl (1 : Int32) z1.2))), some (vi z1.2)]) ⟨rfl, rfl, rfl, rfl, rfl, trivial⟩ (J9 _ (Option.some.inj ep10))
  exact r_weak (L' := [some (vr (some 14)), some (vi a1), some (vi a2), some (vi (0 : Int32)), some (vi (0 : Int32))]) ⟨rfl, rfl, rfl, rfl, rfl, trivial⟩ J3w
noncomputable def m_X8_countKept_b2 (z1 : Int32 × Mm) : Option ((Int32 × Mm) ⊕ (Mm)) := if (6 : Int32) ≤ z1.1 then (some (.inr z1.2)) else (grd z1.1 6 (some (.inl (z1.1 + (1 : Int32), (sI z1.2 36 (ix z1.1) (0 : Int32))))))
noncomputable def m_X8_countKept_b23 (a2 : Int32) (S : Sk) (z9 : Int32 × Mm) : Option ((Int32 × Mm) ⊕ (Mm)) := if (mI z9.2 34 2) ≤ z9.1 then (some (.inr z9.2)) else ((if (m_X11_has a2 z9.1) = 0 then (some z9.2) else ((m_X8_whoOf S z9.1 z9.2).bind (fun q21 => grd q21 6 ((m_X8_thingOf S z9.1 z9.2).bind (fun q24 => grd q21 6 (some (sI z9.2 36 (ix q21) ((mI z9.2 36 (ix q21)) ||| (xshl (1 : Int32) q24)))))))) : Option (Mm)).bind (fun p16 => some (.inl (z9.1 + (1 : Int32), p16))))
noncomputable def m_X8_countKept_b70 (S : Sk) (p10 : Mm) (z27 : Int32 × Int32) : Option ((Int32 × Int32) ⊕ (Int32)) := if (mI p10 34 2) ≤ z27.2 then (some (.inr z27.1)) else ((m_X8_whoOf S z27.2 p10).bind (fun q34 => grd q34 6 (grd q34 6 ((m_X7_keptOf (mI p10 36 (ix q34)) (mI p10 16 (ix q34)) p10).bind (fun q38 => (m_X8_thingOf S z27.2 p10).bind (fun q40 => some (.inl ((if (m_X11_has q38 q40) = 0 then z27.1 else z27.1 + (1 : Int32)), z27.2 + (1 : Int32)))))))))
noncomputable def m_X8_countKept (S : Sk) (a2 : Int32) (mm : Mm) : Option (Int32 × Mm) := (whileF FU (m_X8_countKept_b2) ((0 : Int32), mm)).bind (fun p2 => (whileF FU (m_X8_countKept_b23 a2 S) ((0 : Int32), p2)).bind (fun p10 => (whileF FU (m_X8_countKept_b70 S p10) ((0 : Int32), (0 : Int32))).bind (fun p28 => some (p28, p10))))
set_option maxHeartbeats 4000000 in
set_option maxRecDepth 100000 in
theorem c_X8_countKept {l : Launch} {G : Gt} {S : Sk} {a2 : Int32} {mm : Mm} (hI : SI S) {q : Int32 × Mm} (e : m_X8_countKept S a2 mm = some q) : CallOK l G M_X8_countKept yX8_countKept 2 [vr (some 34), vr (some 14), vi a2] S mm (some (vi q.1)) S q.2 := by
  have hS := hI.1
  refine call_of_run rfl rfl rfl (Nat.le_of_ble_eq_true rfl) ?_
  show Run l G M_X8_countKept 2 0 [some (vr (some 34)), some (vr (some 14)), some (vi a2), none, none, none] [] S mm (some (vi q.1)) S q.2
  unfold m_X8_countKept at e
  refine r_iconst (v := 0) dX8_countKept_0 ci_0 ?_
  refine r_istore_n dX8_countKept_1 (by decide) rfl ?_
  obtain ⟨p2, eb6w, e⟩ := obind e
  have J3a : Run l G M_X8_countKept 2 21 [some (vr (some 34)), some (vr (some 14)), some (vi a2), none, none, none] [] S p2 (some (vi q.1)) S q.2 := by
    refine r_iconst (v := 0) dX8_countKept_21 ci_0 ?_
    refine r_istore_n dX8_countKept_22 (by decide) rfl ?_
    obtain ⟨p10, eb14w, e⟩ := obind e
    have J11a : Run l G M_X8_countKept 2 65 [some (vr (some 34)), some (vr (some 14)), none, none, none, none] [] S p10 (some (vi q.1)) S q.2 := by
      refine r_iconst (v := 0) dX8_countKept_65 ci_0 ?_
      refine r_istore_n dX8_countKept_66 (by decide) rfl ?_
      refine r_iconst (v := 0) dX8_countKept_67 ci_0 ?_
      refine r_istore dX8_countKept_68 (by decide) rfl ?_
      obtain ⟨p28, eb32w, e⟩ := obind e
      have J29a : Run l G M_X8_countKept 2 126 [none, none, none, some (vi p28), none, none] [] S p10 (some (vi q.1)) S q.2 := by
        refine r_iload_n dX8_countKept_126 rfl ?_
        cases e
        exact r_ireturn dX8_countKept_127 rfl rfl
      have J29 : ∀ pp : Int32, pp = p28 → Run l G M_X8_countKept 2 126 [none, none, none, some (vi pp), none, none] [] S p10 (some (vi q.1)) S q.2 := by
        intro pp hpp
        rw [hpp]
        exact J29a
      have J29w : Run l G M_X8_countKept 2 70 [some (vr (some 34)), some (vr (some 14)), none, some (vi (0 : Int32)), some (vi (0 : Int32)), none] [] S p10 (some (vi q.1)) S q.2 := by
        refine while_run (s := ((0 : Int32), (0 : Int32))) (Gs := fun (z27 : Int32 × Int32) => Run l G M_X8_countKept 2 70 [some (vr (some 34)), some (vr (some 14)), none, some (vi z27.1), some (vi z27.2), none] [] S p10 (some (vi q.1)) S q.2) eb32w ?_
        intro z27 x30y eb32 hx31
        unfold m_X8_countKept_b70 at eb32
        refine r_iload dX8_countKept_70 rfl ?_
        refine r_aload_n dX8_countKept_72 rfl ?_
        refine r_getI dX8_countKept_73 fl_X8_19 rfl (lp_34 hS) (lq_34 hS) ?_
        refine r_icmp_ge (tgt := 126) dX8_countKept_76 rfl (fun h33 => ?_) (fun h33 => ?_)
        · replace eb32 := ite_t h33 eb32
          cases eb32
          exact r_weak (L' := [none, none, none, some (vi z27.1), none, none]) ⟨rfl, trivial⟩ (J29 _ hx31)
        · replace eb32 := ite_f h33 eb32
          refine r_aload_n dX8_countKept_79 rfl ?_
          refine r_iload dX8_countKept_80 rfl ?_
          obtain ⟨q34, eq35, eb32⟩ := obind eb32
          refine r_callV (as := [_]) (rest := []) dX8_countKept_82 ml_X8_41 yV_X8_whoOf (c_X8_whoOf hI eq35) (by decide) rfl (lp_34 hS) (lq_34 hS) (Nat.le_of_ble_eq_true rfl) ?_
          refine r_istore dX8_countKept_85 (by decide) rfl ?_
          refine r_aload_n dX8_countKept_87 rfl ?_
          refine r_aload_n dX8_countKept_88 rfl ?_
          refine r_getR dX8_countKept_89 fl_X8_26 rfl (lp_34 hS) (lq_34 hS) (lr_34_4 hS) ?_
          refine r_iload dX8_countKept_92 rfl ?_
          obtain ⟨hg36, eb32⟩ := grd_some eb32
          refine r_iald dX8_countKept_94 (lp_36 hS) (lk_36 hS) hg36 ?_
          refine r_aload_n dX8_countKept_95 rfl ?_
          refine r_getR dX8_countKept_96 fl_X8_79 rfl (lp_14 hS) (lq_14 hS) (lr_14_3 hS) ?_
          refine r_iload dX8_countKept_99 rfl ?_
          obtain ⟨hg37, eb32⟩ := grd_some eb32
          refine r_iald dX8_countKept_101 (lp_16 hS) (lk_16 hS) hg37 ?_
          obtain ⟨q38, eq39, eb32⟩ := obind eb32
          refine r_callV (as := [_, _]) (rest := []) dX8_countKept_102 ml_X8_82 yV_X7_keptOf (c_X7_keptOf hS eq39) (by decide) rfl (lp_14 hS) (lq_14 hS) (Nat.le_of_ble_eq_true rfl) ?_
          refine r_aload_n dX8_countKept_105 rfl ?_
          refine r_iload dX8_countKept_106 rfl ?_
          obtain ⟨q40, eq41, eb32⟩ := obind eb32
          refine r_callV (as := [_]) (rest := [_]) dX8_countKept_108 ml_X8_51 yV_X8_thingOf (c_X8_thingOf hI eq41) (by decide) rfl (lp_34 hS) (lq_34 hS) (Nat.le_of_ble_eq_true rfl) ?_
          refine r_callSN (as := [_, _]) (rest := []) dX8_countKept_111 nl_X8_75 yS_X11_has (c_X11_has) (by decide) rfl (Nat.le_of_ble_eq_true rfl) ?_
          have J44 : ∀ (w43 : Int32), w43 = (if (m_X11_has q38 q40) = 0 then z27.1 else z27.1 + (1 : Int32)) → Run l G M_X8_countKept 2 120 [some (vr (some 34)), some (vr (some 14)), none, some (vi w43), some (vi z27.2), none] [] S p10 (some (vi q.1)) S q.2 := by
            intro w43 hw45
            subst hw45
            refine r_iinc (v := _ + (1 : Int32)) dX8_countKept_120 rfl (congrArg (_ + ·) ci_1) (by decide) rfl ?_
            refine r_goto (tgt := 70) dX8_countKept_123 rfl ?_
            cases eb32
            exact r_weak (L' := [some (vr (some 34)), some (vr (some 14)), none, some (vi (if (m_X11_has q38 q40) = 0 then z27.1 else z27.1 + (1 : Int32))), some (vi (z27.2 + (1 : Int32))), none]) ⟨rfl, rfl, rfl, rfl, trivial⟩ hx31
          refine r_if_eq (tgt := 120) dX8_countKept_114 rfl (fun h42 => ?_) (fun h42 => ?_)
          · exact r_weak (L' := [some (vr (some 34)), some (vr (some 14)), none, some (vi z27.1), some (vi z27.2), none]) ⟨rfl, rfl, rfl, rfl, trivial⟩ (J44 _ (Eq.symm (if_pos h42)))
          · refine r_iinc (v := _ + (1 : Int32)) dX8_countKept_117 rfl (congrArg (_ + ·) ci_1) (by decide) rfl ?_
            exact r_weak (L' := [some (vr (some 34)), some (vr (some 14)), none, some (vi (z27.1 + (1 : Int32))), some (vi z27.2), none]) ⟨rfl, rfl, rfl, rfl, trivial⟩ (J44 _ (Eq.symm (if_neg h42)))
      exact r_weak (L' := [some (vr (some 34)), some (vr (some 14)), none, some (vi (0 : Int32)), some (vi (0 : Int32)), none]) ⟨rfl, rfl, rfl, rfl, trivial⟩ J29w
    have J11 : ∀ pp : Mm, pp = p10 → Run l G M_X8_countKept 2 65 [some (vr (some 34)), some (vr (some 14)), none, none, none, none] [] S pp (some (vi q.1)) S q.2 := by
      intro pp hpp
      rw [hpp]
      exact J11a
    have J11w : Run l G M_X8_countKept 2 23 [some (vr (some 34)), some (vr (some 14)), some (vi a2), some (vi (0 : Int32)), none, none] [] S p2 (some (vi q.1)) S q.2 := by
      refine while_run (s := ((0 : Int32), p2)) (Gs := fun (z9 : Int32 × Mm) => Run l G M_X8_countKept 2 23 [some (vr (some 34)), some (vr (some 14)), some (vi a2), some (vi z9.1), none, none] [] S z9.2 (some (vi q.1)) S q.2) eb14w ?_
      intro z9 x12y eb14 hx13
      unfold m_X8_countKept_b23 at eb14
      refine r_iload_n dX8_countKept_23 rfl ?_
      refine r_aload_n dX8_countKept_24 rfl ?_
      refine r_getI dX8_countKept_25 fl_X8_19 rfl (lp_34 hS) (lq_34 hS) ?_
      refine r_icmp_ge (tgt := 65) dX8_countKept_28 rfl (fun h15 => ?_) (fun h15 => ?_)
      · replace eb14 := ite_t h15 eb14
        cases eb14
        exact r_weak (L' := [some (vr (some 34)), some (vr (some 14)), none, none, none, none]) ⟨rfl, rfl, trivial⟩ (J11 _ hx13)
      · replace eb14 := ite_f h15 eb14
        refine r_iload_n dX8_countKept_31 rfl ?_
        refine r_iload_n dX8_countKept_32 rfl ?_
        refine r_callSN (as := [_, _]) (rest := []) dX8_countKept_33 nl_X8_75 yS_X11_has (c_X11_has) (by decide) rfl (Nat.le_of_ble_eq_true rfl) ?_
        obtain ⟨p16, ep18, eb14⟩ := obind eb14
        have J17a : Run l G M_X8_countKept 2 59 [some (vr (some 34)), some (vr (some 14)), some (vi a2), some (vi z9.1), none, none] [] S p16 (some (vi q.1)) S q.2 := by
          refine r_iinc (v := _ + (1 : Int32)) dX8_countKept_59 rfl (congrArg (_ + ·) ci_1) (by decide) rfl ?_
          refine r_goto (tgt := 23) dX8_countKept_62 rfl ?_
          cases eb14
          exact r_weak (L' := [some (vr (some 34)), some (vr (some 14)), some (vi a2), some (vi (z9.1 + (1 : Int32))), none, none]) ⟨rfl, rfl, rfl, rfl, trivial⟩ hx13
        have J17 : ∀ pp : Mm, pp = p16 → Run l G M_X8_countKept 2 59 [some (vr (some 34)), some (vr (some 14)), some (vi a2), some (vi z9.1), none, none] [] S pp (some (vi q.1)) S q.2 := by
          intro pp hpp
          rw [hpp]
          exact J17a
        refine r_if_eq (tgt := 59) dX8_countKept_36 rfl (fun h20 => ?_) (fun h20 => ?_)
        · replace ep18 := ite_t h20 ep18
          exact r_weak (L' := [some (vr (some 34)), some (vr (some 14)), some (vi a2), some (vi z9.1), none, none]) ⟨rfl, rfl, rfl, rfl, trivial⟩ (J17 _ (Option.some.inj ep18))
        · replace ep18 := ite_f h20 ep18
          refine r_aload_n dX8_countKept_39 rfl ?_
          refine r_getR dX8_countKept_40 fl_X8_26 rfl (lp_34 hS) (lq_34 hS) (lr_34_4 hS) ?_
          refine r_aload_n dX8_countKept_43 rfl ?_
          refine r_iload_n dX8_countKept_44 rfl ?_
          obtain ⟨q21, eq22, ep18⟩ := obind ep18
          refine r_callV (as := [_]) (rest := [_]) dX8_countKept_45 ml_X8_41 yV_X8_whoOf (c_X8_whoOf hI eq22) (by decide) rfl (lp_34 hS) (lq_34 hS) (Nat.le_of_ble_eq_true rfl) ?_
          refine r_dup2 dX8_countKept_48 rfl rfl ?_
          obtain ⟨hg23, ep18⟩ := grd_some ep18
          refine r_iald dX8_countKept_49 (lp_36 hS) (lk_36 hS) hg23 ?_
          refine r_iconst (v := 1) dX8_countKept_50 ci_1 ?_
          refine r_aload_n dX8_countKept_51 rfl ?_
          refine r_iload_n dX8_countKept_52 rfl ?_
          obtain ⟨q24, eq25, ep18⟩ := obind ep18
          refine r_callV (as := [_]) (rest := [_, _, _, _]) dX8_countKept_53 ml_X8_51 yV_X8_thingOf (c_X8_thingOf hI eq25) (by decide) rfl (lp_34 hS) (lq_34 hS) (Nat.le_of_ble_eq_true rfl) ?_
          refine r_ishl dX8_countKept_56 ?_
          refine r_ior dX8_countKept_57 ?_
          obtain ⟨hg26, ep18⟩ := grd_some ep18
          refine r_iast dX8_countKept_58 (lp_36 hS) (lk_36 hS) hg26 ?_
          exact r_weak (L' := [some (vr (some 34)), some (vr (some 14)), some (vi a2), some (vi z9.1), none, none]) ⟨rfl, rfl, rfl, rfl, trivial⟩ (J17 _ (Option.some.inj ep18))
    exact r_weak (L' := [some (vr (some 34)), some (vr (some 14)), some (vi a2), some (vi (0 : Int32)), none, none]) ⟨rfl, rfl, rfl, rfl, trivial⟩ J11w
  have J3 : ∀ pp : Mm, pp = p2 → Run l G M_X8_countKept 2 21 [some (vr (some 34)), some (vr (some 14)), some (vi a2), none, none, none] [] S pp (some (vi q.1)) S q.2 := by
    intro pp hpp
    rw [hpp]
    exact J3a
  have J3w : Run l G M_X8_countKept 2 2 [some (vr (some 34)), some (vr (some 14)), some (vi a2), some (vi (0 : Int32)), none, none] [] S mm (some (vi q.1)) S q.2 := by
    refine while_run (s := ((0 : Int32), mm)) (Gs := fun (z1 : Int32 × Mm) => Run l G M_X8_countKept 2 2 [some (vr (some 34)), some (vr (some 14)), some (vi a2), some (vi z1.1), none, none] [] S z1.2 (some (vi q.1)) S q.2) eb6w ?_
    intro z1 x4y eb6 hx5
    unfold m_X8_countKept_b2 at eb6
    refine r_iload_n dX8_countKept_2 rfl ?_
    refine r_bipush (v := 6) dX8_countKept_3 cb_6 ?_
    refine r_icmp_ge (tgt := 21) dX8_countKept_5 rfl (fun h7 => ?_) (fun h7 => ?_)
    · replace eb6 := ite_t h7 eb6
      cases eb6
      exact r_weak (L' := [some (vr (some 34)), some (vr (some 14)), some (vi a2), none, none, none]) ⟨rfl, rfl, rfl, trivial⟩ (J3 _ hx5)
    · replace eb6 := ite_f h7 eb6
      refine r_aload_n dX8_countKept_8 rfl ?_
      refine r_getR dX8_countKept_9 fl_X8_26 rfl (lp_34 hS) (lq_34 hS) (lr_34_4 hS) ?_
      refine r_iload_n dX8_countKept_12 rfl ?_
      refine r_iconst (v := 0) dX8_countKept_13 ci_0 ?_
      obtain ⟨hg8, eb6⟩ := grd_some eb6
      refine r_iast dX8_countKept_14 (lp_36 hS) (lk_36 hS) hg8 ?_
      refine r_iinc (v := _ + (1 : Int32)) dX8_countKept_15 rfl (congrArg (_ + ·) ci_1) (by decide) rfl ?_
      refine r_goto (tgt := 2) dX8_countKept_18 rfl ?_
      cases eb6
      exact r_weak (L' := [some (vr (some 34)), some (vr (some 14)), some (vi a2), some (vi (z1.1 + (1 : Int32))), none, none]) ⟨rfl, rfl, rfl, rfl, trivial⟩ hx5
  exact r_weak (L' := [some (vr (some 34)), some (vr (some 14)), some (vi a2), some (vi (0 : Int32)), none, none]) ⟨rfl, rfl, rfl, rfl, trivial⟩ J3w
noncomputable def m_X8_canSwear_b31 (a1 : Int32) (a2 : Int32) (a3 : Int32) (mm : Mm) (rc_X8_canSwear : Int32 → Int32 → Int32 → Mm → Option (Int32)) (z3 : Int32) : Option ((Int32) ⊕ ((Unit) ⊕ (Int32))) := if (6 : Int32) ≤ z3 then (some (.inr (.inl ()))) else (grd a1 6 (bS (if (m_X11_has ((mI mm 35 (ix a1)) &&& a3) z3) = 0 then (some (.inl ())) else ((rc_X8_canSwear (a1 + (1 : Int32)) a2 (a3 &&& ((xshl (1 : Int32) z3) ^^^ (-1 : Int32))) mm).bind (fun q16 => if q16 = 0 then (some (.inl ())) else (some (.inr (.inr (.inr (1 : Int32))))))) : Option ((Unit) ⊕ ((Int32) ⊕ ((Unit) ⊕ (Int32))))) (fun p11 => some (.inl (z3 + (1 : Int32))))))
noncomputable def m_X8_canSwear_s (rc_X8_canSwear : Int32 → Int32 → Int32 → Mm → Option (Int32)) (a1 : Int32) (a2 : Int32) (a3 : Int32) (mm : Mm) : Option (Int32) := if a1 < (mI mm 34 2) then (if (m_X11_has a2 a1) = 0 then ((rc_X8_canSwear (a1 + (1 : Int32)) a2 a3 mm).bind (fun q19 => gbz q19 (some q19))) else (bS (whileF FU (m_X8_canSwear_b31 a1 a2 a3 mm rc_X8_canSwear) (0 : Int32)) (fun p4 => some (0 : Int32)))) else (some (1 : Int32))
set_option maxHeartbeats 4000000 in
set_option maxRecDepth 100000 in
theorem c_X8_canSwear_s {l : Launch} {G : Gt} {S : Sk} {dd : Nat} {rc_X8_canSwear : Int32 → Int32 → Int32 → Mm → Option (Int32)} (hS : Lay S) (ih_X8_canSwear : ∀ (b1 b2 b3 : Int32) (nn : Mm) (qq : Int32), rc_X8_canSwear b1 b2 b3 nn = some qq → CallOK l G M_X8_canSwear yX8_canSwear dd [vr (some 34), vi b1, vi b2, vi b3] S nn (some (vi qq)) S nn) (hdd : 1 ≤ dd + 1) {a1 : Int32} {a2 : Int32} {a3 : Int32} {mm : Mm} {q : Int32} (e : m_X8_canSwear_s rc_X8_canSwear a1 a2 a3 mm = some q) : CallOK l G M_X8_canSwear yX8_canSwear (dd + 1) [vr (some 34), vi a1, vi a2, vi a3] S mm (some (vi q)) S mm := by
  refine call_of_run rfl rfl rfl (Nat.le_of_ble_eq_true rfl) ?_
  show Run l G M_X8_canSwear (dd + 1) 0 [some (vr (some 34)), some (vi a1), some (vi a2), some (vi a3), none] [] S mm (some (vi q)) S mm
  unfold m_X8_canSwear_s at e
  refine r_iload_n dX8_canSwear_0 rfl ?_
  refine r_aload_n dX8_canSwear_1 rfl ?_
  refine r_getI dX8_canSwear_2 fl_X8_19 rfl (lp_34 hS) (lq_34 hS) ?_
  refine r_icmp_lt (tgt := 10) dX8_canSwear_5 rfl (fun h1 => ?_) (fun h1 => ?_)
  · replace e := ite_t h1 e
    refine r_iload_n dX8_canSwear_10 rfl ?_
    refine r_iload_n dX8_canSwear_11 rfl ?_
    refine r_callSN (as := [_, _]) (rest := []) dX8_canSwear_12 nl_X8_75 yS_X11_has (c_X11_has) (by omega) rfl (Nat.le_of_ble_eq_true rfl) ?_
    refine r_if_ne (tgt := 28) dX8_canSwear_15 rfl (fun h2 => ?_) (fun h2 => ?_)
    · replace e := ite_f h2 e
      refine r_iconst (v := 0) dX8_canSwear_28 ci_0 ?_
      refine r_istore dX8_canSwear_29 (by decide) rfl ?_
      obtain ⟨x6, eb8w, elx6, erx6⟩ := bS_some e
      have J5 : ∀ p4 : Unit, x6 = .inl p4 → Run l G M_X8_canSwear (dd + 1) 81 [none, none, none, none, none] [] S mm (some (vi q)) S mm := by
        intro p4 hp4
        replace e := elx6 p4 hp4
        refine r_iconst (v := 0) dX8_canSwear_81 ci_0 ?_
        cases e
        exact r_ireturn dX8_canSwear_82 rfl (nz_b (by first | exact Or.inl rfl | exact Or.inr rfl)).1
      have J5w : Run l G M_X8_canSwear (dd + 1) 31 [some (vr (some 34)), some (vi a1), some (vi a2), some (vi a3), some (vi (0 : Int32))] [] S mm (some (vi q)) S mm := by
        refine while_run (s := (0 : Int32)) (Gs := fun (z3 : Int32) => Run l G M_X8_canSwear (dd + 1) 31 [some (vr (some 34)), some (vi a1), some (vi a2), some (vi a3), some (vi z3)] [] S mm (some (vi q)) S mm) eb8w ?_
        intro z3 x6y eb8 hx7
        unfold m_X8_canSwear_b31 at eb8
        refine r_iload dX8_canSwear_31 rfl ?_
        refine r_bipush (v := 6) dX8_canSwear_33 cb_6 ?_
        refine r_icmp_ge (tgt := 81) dX8_canSwear_35 rfl (fun h9 => ?_) (fun h9 => ?_)
        · replace eb8 := ite_t h9 eb8
          cases eb8
          exact r_weak (L' := [none, none, none, none, none]) trivial (J5 _ (Eq.symm hx7))
        · replace eb8 := ite_f h9 eb8
          refine r_aload_n dX8_canSwear_38 rfl ?_
          refine r_getR dX8_canSwear_39 fl_X8_22 rfl (lp_34 hS) (lq_34 hS) (lr_34_3 hS) ?_
          refine r_iload_n dX8_canSwear_42 rfl ?_
          obtain ⟨hg10, eb8⟩ := grd_some eb8
          refine r_iald dX8_canSwear_43 (lp_35 hS) (lk_35 hS) hg10 ?_
          refine r_iload_n dX8_canSwear_44 rfl ?_
          refine r_iand dX8_canSwear_45 ?_
          refine r_iload dX8_canSwear_46 rfl ?_
          refine r_callSN (as := [_, _]) (rest := []) dX8_canSwear_48 nl_X8_75 yS_X11_has (c_X11_has) (by omega) rfl (Nat.le_of_ble_eq_true rfl) ?_
          obtain ⟨x14, ep13, elx14, erx14⟩ := bS_some eb8
          have J12 : ∀ p11 : Unit, x14 = .inl p11 → Run l G M_X8_canSwear (dd + 1) 75 [some (vr (some 34)), some (vi a1), some (vi a2), some (vi a3), some (vi z3)] [] S mm (some (vi q)) S mm := by
            intro p11 hp11
            replace eb8 := elx14 p11 hp11
            refine r_iinc (v := _ + (1 : Int32)) dX8_canSwear_75 rfl (congrArg (_ + ·) ci_1) (by decide) rfl ?_
            refine r_goto (tgt := 31) dX8_canSwear_78 rfl ?_
            cases eb8
            exact r_weak (L' := [some (vr (some 34)), some (vi a1), some (vi a2), some (vi a3), some (vi (z3 + (1 : Int32)))]) ⟨rfl, rfl, rfl, rfl, rfl, trivial⟩ hx7
          refine r_if_eq (tgt := 75) dX8_canSwear_51 rfl (fun h15 => ?_) (fun h15 => ?_)
          · replace ep13 := ite_t h15 ep13
            cases ep13
            exact r_weak (L' := [some (vr (some 34)), some (vi a1), some (vi a2), some (vi a3), some (vi z3)]) ⟨rfl, rfl, rfl, rfl, rfl, trivial⟩ (J12 _ rfl)
          · replace ep13 := ite_f h15 ep13
            refine r_aload_n dX8_canSwear_54 rfl ?_
            refine r_iload_n dX8_canSwear_55 rfl ?_
            refine r_iconst (v := 1) dX8_canSwear_56 ci_1 ?_
            refine r_iadd dX8_canSwear_57 ?_
            refine r_iload_n dX8_canSwear_58 rfl ?_
            refine r_iload_n dX8_canSwear_59 rfl ?_
            refine r_iconst (v := 1) dX8_canSwear_60 ci_1 ?_
            refine r_iload dX8_canSwear_61 rfl ?_
            refine r_ishl dX8_canSwear_63 ?_
            refine r_iconst (v := -1) dX8_canSwear_64 ci_m1 ?_
            refine r_ixor dX8_canSwear_65 ?_
            refine r_iand dX8_canSwear_66 ?_
            obtain ⟨q16, eq17, ep13⟩ := obind ep13
            refine r_callV (as := [_, _, _]) (rest := []) dX8_canSwear_67 ml_X8_62 yV_X8_canSwear (ih_X8_canSwear _ _ _ _ _ eq17) (by omega) rfl (lp_34 hS) (lq_34 hS) (Nat.le_of_ble_eq_true rfl) ?_
            refine r_if_eq (tgt := 75) dX8_canSwear_70 rfl (fun h18 => ?_) (fun h18 => ?_)
            · replace ep13 := ite_t h18 ep13
              cases ep13
              exact r_weak (L' := [some (vr (some 34)), some (vi a1), some (vi a2), some (vi a3), some (vi z3)]) ⟨rfl, rfl, rfl, rfl, rfl, trivial⟩ (J12 _ rfl)
            · replace ep13 := ite_f h18 ep13
              refine r_iconst (v := 1) dX8_canSwear_73 ci_1 ?_
              cases ep13
              have eb8 := congrArg some (erx14 _ rfl)
              cases eb8
              have e := congrArg some (erx6 _ (Eq.symm hx7))
              cases e
              exact r_ireturn dX8_canSwear_74 rfl (nz_b (by first | exact Or.inl rfl | exact Or.inr rfl)).1
      exact r_weak (L' := [some (vr (some 34)), some (vi a1), some (vi a2), some (vi a3), some (vi (0 : Int32))]) ⟨rfl, rfl, rfl, rfl, rfl, trivial⟩ J5w
    · replace e := ite_t h2 e
      refine r_aload_n dX8_canSwear_18 rfl ?_
      refine r_iload_n dX8_canSwear_19 rfl ?_
      refine r_iconst (v := 1) dX8_canSwear_20 ci_1 ?_
      refine r_iadd dX8_canSwear_21 ?_
      refine r_iload_n dX8_canSwear_22 rfl ?_
      refine r_iload_n dX8_canSwear_23 rfl ?_
      obtain ⟨q19, eq20, e⟩ := obind e
      refine r_callV (as := [_, _, _]) (rest := []) dX8_canSwear_24 ml_X8_62 yV_X8_canSwear (ih_X8_canSwear _ _ _ _ _ eq20) (by omega) rfl (lp_34 hS) (lq_34 hS) (Nat.le_of_ble_eq_true rfl) ?_
      obtain ⟨hbz, e⟩ := gbz_some e
      cases e
      exact r_ireturn dX8_canSwear_27 rfl (nz_b hbz).1
  · replace e := ite_f h1 e
    refine r_iconst (v := 1) dX8_canSwear_8 ci_1 ?_
    cases e
    exact r_ireturn dX8_canSwear_9 rfl (nz_b (by first | exact Or.inl rfl | exact Or.inr rfl)).1
noncomputable def m_X8_canSwear : Nat → Int32 → Int32 → Int32 → Mm → Option (Int32)
  | 0 => fun _ _ _ _ => none
  | n + 1 => m_X8_canSwear_s (m_X8_canSwear n)
theorem c_X8_canSwear {l : Launch} {G : Gt} {S : Sk} (hS : Lay S) : ∀ (n : Nat) (b1 b2 b3 : Int32) (nn : Mm) (qq : Int32), m_X8_canSwear n b1 b2 b3 nn = some qq → CallOK l G M_X8_canSwear yX8_canSwear (1 + n) [vr (some 34), vi b1, vi b2, vi b3] S nn (some (vi qq)) S nn
  | 0, _, _, _, _, _, h => by cases h
  | n + 1, b1, b2, b3, nn, qq, h => c_X8_canSwear_s (dd := 1 + n) hS (c_X8_canSwear hS n) (by omega) h
noncomputable def m_X8_learn_b20 (a2 : Nat) (S : Sk) (z2 : Int32 × Mm) : Option ((Int32 × Mm) ⊕ ((Mm) ⊕ (Int32 × Sk × Mm))) := if (mI z2.2 34 2) ≤ z2.1 then (some (.inr (.inl z2.2))) else (gP (SI (sRs S 34 1 (some a2))) ((m_X8_whoOf (sRs S 34 1 (some a2)) z2.1 z2.2).bind (fun q10 => if (m_X7_isThere q10 z2.2) = 0 then (some (.inr (.inr ((0 : Int32), (sRs S 34 1 (some a2)), z2.2)))) else ((m_X8_whoOf (sRs S 34 1 (some a2)) z2.1 z2.2).bind (fun q13 => (m_X8_thingOf (sRs S 34 1 (some a2)) z2.1 z2.2).bind (fun q15 => (m_X8_openersOf q13 q15 z2.2).bind (fun q17 => grd z2.1 6 (some (.inl (z2.1 + (1 : Int32), (sI z2.2 35 (ix z2.1) q17)))))))))))
noncomputable def m_X8_learn_b75 (a2 : Nat) (S : Sk) (z20 : Int32 × Mm) : Option ((Int32 × Mm) ⊕ (Mm)) := if (xshl (1 : Int32) (mI z20.2 34 2)) ≤ z20.1 then (some (.inr z20.2)) else (gP (SI (sRs S 34 1 (some a2))) ((m_X8_countKept (sRs S 34 1 (some a2)) z20.1 z20.2).bind (fun q28 => grd z20.1 64 (grd z20.1 64 ((if (mI (sI q28.2 37 (ix z20.1) q28.1) 37 (ix z20.1)) ≤ (mI (sI q28.2 37 (ix z20.1) q28.1) 34 0) then (some (sI q28.2 37 (ix z20.1) q28.1)) else ((m_X8_canSwear 12 (0 : Int32) z20.1 (63 : Int32) (sI q28.2 37 (ix z20.1) q28.1)).bind (fun q37 => if q37 = 0 then (some (sI q28.2 37 (ix z20.1) q28.1)) else (grd z20.1 64 (some (sI (sI q28.2 37 (ix z20.1) q28.1) 34 0 (mI (sI q28.2 37 (ix z20.1) q28.1) 37 (ix z20.1))))))) : Option (Mm)).bind (fun p32 => some (.inl (z20.1 + (1 : Int32), p32))))))))
noncomputable def m_X8_learn (S : Sk) (a2 : Nat) (mm : Mm) : Option (Int32 × Sk × Mm) := gP (Lay (sRs S 34 1 (some a2))) (bS (whileF FU (m_X8_learn_b20 a2 S) ((0 : Int32), (sI mm 34 2 (xmin (mI mm a2 1) (6 : Int32))))) (fun p3 => (whileF FU (m_X8_learn_b75 a2 S) ((0 : Int32), (sI p3 34 0 (0 : Int32)))).bind (fun p21 => some ((1 : Int32), (sRs S 34 1 (some a2)), p21))))
set_option maxHeartbeats 4000000 in
set_option maxRecDepth 100000 in
theorem c_X8_learn {l : Launch} {G : Gt} {S : Sk} {a2 : Nat} {mm : Mm} (hS : Lay S) (ha2 : KD S a2 6) {q : Int32 × Sk × Mm} (e : m_X8_learn S a2 mm = some q) : CallOK l G M_X8_learn yX8_learn 14 [vr (some 34), vr (some 14), vr (some a2)] S mm (some (vi q.1)) q.2.1 q.2.2 := by
  refine call_of_run rfl rfl rfl (Nat.le_of_ble_eq_true rfl) ?_
  show Run l G M_X8_learn 14 0 [some (vr (some 34)), some (vr (some 14)), some (vr (some a2)), none] [] S mm (some (vi q.1)) q.2.1 q.2.2
  unfold m_X8_learn at e
  refine r_aload_n dX8_learn_0 rfl ?_
  refine r_aload_n dX8_learn_1 rfl ?_
  refine r_putR dX8_learn_2 fl_X8_15 ft_8_1 (Or.inl rfl) rfl (lp_34 hS) (lq_34 hS) ?_
  refine r_aload_n dX8_learn_5 rfl ?_
  refine r_aload_n dX8_learn_6 rfl ?_
  refine r_getI dX8_learn_7 fl_X8_32 rfl ha2.1 ha2.2 ?_
  refine r_bipush (v := 6) dX8_learn_10 cb_6 ?_
  refine r_mmin (rest := [_]) dX8_learn_12 ml_X8_35 (by decide) (Nat.le_of_ble_eq_true rfl) ?_
  obtain ⟨hn1, e⟩ := gP_some e
  refine r_putI dX8_learn_15 fl_X8_19 ft_8_2 (Or.inl rfl) rfl rfl rfl (lp_34 hn1) (lq_34 hn1) ?_
  refine r_iconst (v := 0) dX8_learn_18 ci_0 ?_
  refine r_istore_n dX8_learn_19 (by decide) rfl ?_
  obtain ⟨x5, eb7w, elx5, erx5⟩ := bS_some e
  have J4 : ∀ p3 : Mm, x5 = .inl p3 → Run l G M_X8_learn 14 68 [some (vr (some 34)), some (vr (some 14)), none, none] [] (sRs S 34 1 (some a2)) p3 (some (vi q.1)) q.2.1 q.2.2 := by
    intro p3 hp3
    replace e := elx5 p3 hp3
    refine r_aload_n dX8_learn_68 rfl ?_
    refine r_iconst (v := 0) dX8_learn_69 ci_0 ?_
    refine r_putI dX8_learn_70 fl_X8_9 ft_8_0 (Or.inl rfl) rfl rfl rfl (lp_34 hn1) (lq_34 hn1) ?_
    refine r_iconst (v := 0) dX8_learn_73 ci_0 ?_
    refine r_istore_n dX8_learn_74 (by decide) rfl ?_
    obtain ⟨p21, eb25w, e⟩ := obind e
    have J22a : Run l G M_X8_learn 14 137 [none, none, none, none] [] (sRs S 34 1 (some a2)) p21 (some (vi q.1)) q.2.1 q.2.2 := by
      refine r_iconst (v := 1) dX8_learn_137 ci_1 ?_
      cases e
      exact r_ireturn dX8_learn_138 rfl (nz_b (by first | exact Or.inl rfl | exact Or.inr rfl)).1
    have J22 : ∀ pp : Mm, pp = p21 → Run l G M_X8_learn 14 137 [none, none, none, none] [] (sRs S 34 1 (some a2)) pp (some (vi q.1)) q.2.1 q.2.2 := by
      intro pp hpp
      rw [hpp]
      exact J22a
    have J22w : Run l G M_X8_learn 14 75 [some (vr (some 34)), some (vr (some 14)), none, some (vi (0 : Int32))] [] (sRs S 34 1 (some a2)) (sI p3 34 0 (0 : Int32)) (some (vi q.1)) q.2.1 q.2.2 := by
      refine while_run (s := ((0 : Int32), (sI p3 34 0 (0 : Int32)))) (Gs := fun (z20 : Int32 × Mm) => Run l G M_X8_learn 14 75 [some (vr (some 34)), some (vr (some 14)), none, some (vi z20.1)] [] (sRs S 34 1 (some a2)) z20.2 (some (vi q.1)) q.2.1 q.2.2) eb25w ?_
      intro z20 x23y eb25 hx24
      unfold m_X8_learn_b75 at eb25
      refine r_iload_n dX8_learn_75 rfl ?_
      refine r_iconst (v := 1) dX8_learn_76 ci_1 ?_
      refine r_aload_n dX8_learn_77 rfl ?_
      refine r_getI dX8_learn_78 fl_X8_19 rfl (lp_34 hn1) (lq_34 hn1) ?_
      refine r_ishl dX8_learn_81 ?_
      refine r_icmp_ge (tgt := 137) dX8_learn_82 rfl (fun h26 => ?_) (fun h26 => ?_)
      · replace eb25 := ite_t h26 eb25
        cases eb25
        exact r_weak (L' := [none, none, none, none]) trivial (J22 _ hx24)
      · replace eb25 := ite_f h26 eb25
        refine r_aload_n dX8_learn_85 rfl ?_
        refine r_getR dX8_learn_86 fl_X8_29 rfl (lp_34 hn1) (lq_34 hn1) (lr_34_5 hn1) ?_
        refine r_iload_n dX8_learn_89 rfl ?_
        refine r_aload_n dX8_learn_90 rfl ?_
        refine r_aload_n dX8_learn_91 rfl ?_
        refine r_iload_n dX8_learn_92 rfl ?_
        obtain ⟨hn27, eb25⟩ := gP_some eb25
        obtain ⟨q28, eq29, eb25⟩ := obind eb25
        refine r_callV (as := [_, _]) (rest := [_, _]) dX8_learn_93 ml_X8_58 yV_X8_countKept (c_X8_countKept hn27 eq29) (by decide) rfl (lp_34 hn1) (lq_34 hn1) (Nat.le_of_ble_eq_true rfl) ?_
        obtain ⟨hg30, eb25⟩ := grd_some eb25
        refine r_iast dX8_learn_96 (lp_37 hn27.1) (lk_37 hn27.1) hg30 ?_
        refine r_aload_n dX8_learn_97 rfl ?_
        refine r_getR dX8_learn_98 fl_X8_29 rfl (lp_34 hn27.1) (lq_34 hn27.1) (lr_34_5 hn27.1) ?_
        refine r_iload_n dX8_learn_101 rfl ?_
        obtain ⟨hg31, eb25⟩ := grd_some eb25
        refine r_iald dX8_learn_102 (lp_37 hn27.1) (lk_37 hn27.1) hg31 ?_
        refine r_aload_n dX8_learn_103 rfl ?_
        refine r_getI dX8_learn_104 fl_X8_9 rfl (lp_34 hn27.1) (lq_34 hn27.1) ?_
        obtain ⟨p32, ep34, eb25⟩ := obind eb25
        have J33a : Run l G M_X8_learn 14 131 [some (vr (some 34)), some (vr (some 14)), none, some (vi z20.1)] [] (sRs S 34 1 (some a2)) p32 (some (vi q.1)) q.2.1 q.2.2 := by
          refine r_iinc (v := _ + (1 : Int32)) dX8_learn_131 rfl (congrArg (_ + ·) ci_1) (by decide) rfl ?_
          refine r_goto (tgt := 75) dX8_learn_134 rfl ?_
          cases eb25
          exact r_weak (L' := [some (vr (some 34)), some (vr (some 14)), none, some (vi (z20.1 + (1 : Int32)))]) ⟨rfl, rfl, rfl, trivial⟩ hx24
        have J33 : ∀ pp : Mm, pp = p32 → Run l G M_X8_learn 14 131 [some (vr (some 34)), some (vr (some 14)), none, some (vi z20.1)] [] (sRs S 34 1 (some a2)) pp (some (vi q.1)) q.2.1 q.2.2 := by
          intro pp hpp
          rw [hpp]
          exact J33a
        refine r_icmp_le (tgt := 131) dX8_learn_107 rfl (fun h36 => ?_) (fun h36 => ?_)
        · replace ep34 := ite_t h36 ep34
          exact r_weak (L' := [some (vr (some 34)), some (vr (some 14)), none, some (vi z20.1)]) ⟨rfl, rfl, rfl, trivial⟩ (J33 _ (Option.some.inj ep34))
        · replace ep34 := ite_f h36 ep34
          refine r_aload_n dX8_learn_110 rfl ?_
          refine r_iconst (v := 0) dX8_learn_111 ci_0 ?_
          refine r_iload_n dX8_learn_112 rfl ?_
          refine r_bipush (v := 63) dX8_learn_113 cb_63 ?_
          obtain ⟨q37, eq38, ep34⟩ := obind ep34
          refine r_callV (as := [_, _, _]) (rest := []) dX8_learn_115 ml_X8_62 yV_X8_canSwear (c_X8_canSwear hn27.1 12 _ _ _ _ _ eq38) (by decide) rfl (lp_34 hn27.1) (lq_34 hn27.1) (Nat.le_of_ble_eq_true rfl) ?_
          refine r_if_eq (tgt := 131) dX8_learn_118 rfl (fun h39 => ?_) (fun h39 => ?_)
          · replace ep34 := ite_t h39 ep34
            exact r_weak (L' := [some (vr (some 34)), some (vr (some 14)), none, some (vi z20.1)]) ⟨rfl, rfl, rfl, trivial⟩ (J33 _ (Option.some.inj ep34))
          · replace ep34 := ite_f h39 ep34
            refine r_aload_n dX8_learn_121 rfl ?_
            refine r_aload_n dX8_learn_122 rfl ?_
            refine r_getR dX8_learn_123 fl_X8_29 rfl (lp_34 hn27.1) (lq_34 hn27.1) (lr_34_5 hn27.1) ?_
            refine r_iload_n dX8_learn_126 rfl ?_
            obtain ⟨hg40, ep34⟩ := grd_some ep34
            refine r_iald dX8_learn_127 (lp_37 hn27.1) (lk_37 hn27.1) hg40 ?_
            refine r_putI dX8_learn_128 fl_X8_9 ft_8_0 (Or.inl rfl) rfl rfl rfl (lp_34 hn27.1) (lq_34 hn27.1) ?_
            exact r_weak (L' := [some (vr (some 34)), some (vr (some 14)), none, some (vi z20.1)]) ⟨rfl, rfl, rfl, trivial⟩ (J33 _ (Option.some.inj ep34))
    exact r_weak (L' := [some (vr (some 34)), some (vr (some 14)), none, some (vi (0 : Int32))]) ⟨rfl, rfl, rfl, trivial⟩ J22w
  have J4w : Run l G M_X8_learn 14 20 [some (vr (some 34)), some (vr (some 14)), none, some (vi (0 : Int32))] [] (sRs S 34 1 (some a2)) (sI mm 34 2 (xmin (mI mm a2 1) (6 : Int32))) (some (vi q.1)) q.2.1 q.2.2 := by
    refine while_run (s := ((0 : Int32), (sI mm 34 2 (xmin (mI mm a2 1) (6 : Int32))))) (Gs := fun (z2 : Int32 × Mm) => Run l G M_X8_learn 14 20 [some (vr (some 34)), some (vr (some 14)), none, some (vi z2.1)] [] (sRs S 34 1 (some a2)) z2.2 (some (vi q.1)) q.2.1 q.2.2) eb7w ?_
    intro z2 x5y eb7 hx6
    unfold m_X8_learn_b20 at eb7
    refine r_iload_n dX8_learn_20 rfl ?_
    refine r_aload_n dX8_learn_21 rfl ?_
    refine r_getI dX8_learn_22 fl_X8_19 rfl (lp_34 hn1) (lq_34 hn1) ?_
    refine r_icmp_ge (tgt := 68) dX8_learn_25 rfl (fun h8 => ?_) (fun h8 => ?_)
    · replace eb7 := ite_t h8 eb7
      cases eb7
      exact r_weak (L' := [some (vr (some 34)), some (vr (some 14)), none, none]) ⟨rfl, rfl, trivial⟩ (J4 _ (Eq.symm hx6))
    · replace eb7 := ite_f h8 eb7
      refine r_aload_n dX8_learn_28 rfl ?_
      refine r_aload_n dX8_learn_29 rfl ?_
      refine r_iload_n dX8_learn_30 rfl ?_
      obtain ⟨hn9, eb7⟩ := gP_some eb7
      obtain ⟨q10, eq11, eb7⟩ := obind eb7
      refine r_callV (as := [_]) (rest := [_]) dX8_learn_31 ml_X8_41 yV_X8_whoOf (c_X8_whoOf hn9 eq11) (by decide) rfl (lp_34 hn1) (lq_34 hn1) (Nat.le_of_ble_eq_true rfl) ?_
      refine r_callV (as := [_]) (rest := []) dX8_learn_34 ml_X8_45 yV_X7_isThere (c_X7_isThere hn9.1) (by decide) rfl (lp_14 hn9.1) (lq_14 hn9.1) (Nat.le_of_ble_eq_true rfl) ?_
      refine r_if_ne (tgt := 42) dX8_learn_37 rfl (fun h12 => ?_) (fun h12 => ?_)
      · replace eb7 := ite_f h12 eb7
        refine r_aload_n dX8_learn_42 rfl ?_
        refine r_getR dX8_learn_43 fl_X8_22 rfl (lp_34 hn9.1) (lq_34 hn9.1) (lr_34_3 hn9.1) ?_
        refine r_iload_n dX8_learn_46 rfl ?_
        refine r_aload_n dX8_learn_47 rfl ?_
        refine r_aload_n dX8_learn_48 rfl ?_
        refine r_iload_n dX8_learn_49 rfl ?_
        obtain ⟨q13, eq14, eb7⟩ := obind eb7
        refine r_callV (as := [_]) (rest := [_, _, _]) dX8_learn_50 ml_X8_41 yV_X8_whoOf (c_X8_whoOf hn9 eq14) (by decide) rfl (lp_34 hn9.1) (lq_34 hn9.1) (Nat.le_of_ble_eq_true rfl) ?_
        refine r_aload_n dX8_learn_53 rfl ?_
        refine r_iload_n dX8_learn_54 rfl ?_
        obtain ⟨q15, eq16, eb7⟩ := obind eb7
        refine r_callV (as := [_]) (rest := [_, _, _, _]) dX8_learn_55 ml_X8_51 yV_X8_thingOf (c_X8_thingOf hn9 eq16) (by decide) rfl (lp_34 hn9.1) (lq_34 hn9.1) (Nat.le_of_ble_eq_true rfl) ?_
        obtain ⟨q17, eq18, eb7⟩ := obind eb7
        refine r_callS (as := [_, _, _]) (rest := [_, _]) dX8_learn_58 ml_X8_54 yS_X8_openersOf (c_X8_openersOf hn9.1 eq18) (by decide) rfl (Nat.le_of_ble_eq_true rfl) ?_
        obtain ⟨hg19, eb7⟩ := grd_some eb7
        refine r_iast dX8_learn_61 (lp_35 hn9.1) (lk_35 hn9.1) hg19 ?_
        refine r_iinc (v := _ + (1 : Int32)) dX8_learn_62 rfl (congrArg (_ + ·) ci_1) (by decide) rfl ?_
        refine r_goto (tgt := 20) dX8_learn_65 rfl ?_
        cases eb7
        exact r_weak (L' := [some (vr (some 34)), some (vr (some 14)), none, some (vi (z2.1 + (1 : Int32)))]) ⟨rfl, rfl, rfl, trivial⟩ hx6
      · replace eb7 := ite_t h12 eb7
        refine r_iconst (v := 0) dX8_learn_40 ci_0 ?_
        cases eb7
        have e := congrArg some (erx5 _ (Eq.symm hx6))
        cases e
        exact r_ireturn dX8_learn_41 rfl (nz_b (by first | exact Or.inl rfl | exact Or.inr rfl)).1
  exact r_weak (L' := [some (vr (some 34)), some (vr (some 14)), none, some (vi (0 : Int32))]) ⟨rfl, rfl, rfl, trivial⟩ J4w
noncomputable def m_X8_reachesMost_b3 (a1 : Int32) (a2 : Int32) (a3 : Int32) (mm : Mm) (z1 : Int32) : Option ((Int32) ⊕ ((Unit) ⊕ (Int32))) := if (xshl (1 : Int32) ((mI mm 34 2) - a1)) ≤ z1 then (some (.inr (.inl ()))) else (grd (a2 ||| (xshl z1 a1)) 64 (bS (if (mI mm 37 (ix (a2 ||| (xshl z1 a1)))) = (mI mm 34 0) then ((m_X8_canSwear 12 a1 (a2 ||| (xshl z1 a1)) a3 mm).bind (fun q14 => if q14 = 0 then (some (.inl ())) else (some (.inr (.inr (.inr (1 : Int32))))))) else (some (.inl ())) : Option ((Unit) ⊕ ((Int32) ⊕ ((Unit) ⊕ (Int32))))) (fun p9 => some (.inl (z1 + (1 : Int32))))))
noncomputable def m_X8_reachesMost (a1 : Int32) (a2 : Int32) (a3 : Int32) (mm : Mm) : Option (Int32) := bS (whileF FU (m_X8_reachesMost_b3 a1 a2 a3 mm) (0 : Int32)) (fun p2 => some (0 : Int32))
set_option maxHeartbeats 4000000 in
set_option maxRecDepth 100000 in
theorem c_X8_reachesMost {l : Launch} {G : Gt} {S : Sk} {a1 : Int32} {a2 : Int32} {a3 : Int32} {mm : Mm} (hS : Lay S) {q : Int32} (e : m_X8_reachesMost a1 a2 a3 mm = some q) : CallOK l G M_X8_reachesMost yX8_reachesMost 14 [vr (some 34), vi a1, vi a2, vi a3] S mm (some (vi q)) S mm := by
  refine call_of_run rfl rfl rfl (Nat.le_of_ble_eq_true rfl) ?_
  show Run l G M_X8_reachesMost 14 0 [some (vr (some 34)), some (vi a1), some (vi a2), some (vi a3), none, none] [] S mm (some (vi q)) S mm
  unfold m_X8_reachesMost at e
  refine r_iconst (v := 0) dX8_reachesMost_0 ci_0 ?_
  refine r_istore dX8_reachesMost_1 (by decide) rfl ?_
  obtain ⟨x4, eb6w, elx4, erx4⟩ := bS_some e
  have J3 : ∀ p2 : Unit, x4 = .inl p2 → Run l G M_X8_reachesMost 14 57 [none, none, none, none, none, none] [] S mm (some (vi q)) S mm := by
    intro p2 hp2
    replace e := elx4 p2 hp2
    refine r_iconst (v := 0) dX8_reachesMost_57 ci_0 ?_
    cases e
    exact r_ireturn dX8_reachesMost_58 rfl (nz_b (by first | exact Or.inl rfl | exact Or.inr rfl)).1
  have J3w : Run l G M_X8_reachesMost 14 3 [some (vr (some 34)), some (vi a1), some (vi a2), some (vi a3), some (vi (0 : Int32)), none] [] S mm (some (vi q)) S mm := by
    refine while_run (s := (0 : Int32)) (Gs := fun (z1 : Int32) => Run l G M_X8_reachesMost 14 3 [some (vr (some 34)), some (vi a1), some (vi a2), some (vi a3), some (vi z1), none] [] S mm (some (vi q)) S mm) eb6w ?_
    intro z1 x4y eb6 hx5
    unfold m_X8_reachesMost_b3 at eb6
    refine r_iload dX8_reachesMost_3 rfl ?_
    refine r_iconst (v := 1) dX8_reachesMost_5 ci_1 ?_
    refine r_aload_n dX8_reachesMost_6 rfl ?_
    refine r_getI dX8_reachesMost_7 fl_X8_19 rfl (lp_34 hS) (lq_34 hS) ?_
    refine r_iload_n dX8_reachesMost_10 rfl ?_
    refine r_isub dX8_reachesMost_11 ?_
    refine r_ishl dX8_reachesMost_12 ?_
    refine r_icmp_ge (tgt := 57) dX8_reachesMost_13 rfl (fun h7 => ?_) (fun h7 => ?_)
    · replace eb6 := ite_t h7 eb6
      cases eb6
      exact r_weak (L' := [none, none, none, none, none, none]) trivial (J3 _ (Eq.symm hx5))
    · replace eb6 := ite_f h7 eb6
      refine r_iload_n dX8_reachesMost_16 rfl ?_
      refine r_iload dX8_reachesMost_17 rfl ?_
      refine r_iload_n dX8_reachesMost_19 rfl ?_
      refine r_ishl dX8_reachesMost_20 ?_
      refine r_ior dX8_reachesMost_21 ?_
      refine r_istore dX8_reachesMost_22 (by decide) rfl ?_
      refine r_aload_n dX8_reachesMost_24 rfl ?_
      refine r_getR dX8_reachesMost_25 fl_X8_29 rfl (lp_34 hS) (lq_34 hS) (lr_34_5 hS) ?_
      refine r_iload dX8_reachesMost_28 rfl ?_
      obtain ⟨hg8, eb6⟩ := grd_some eb6
      refine r_iald dX8_reachesMost_30 (lp_37 hS) (lk_37 hS) hg8 ?_
      refine r_aload_n dX8_reachesMost_31 rfl ?_
      refine r_getI dX8_reachesMost_32 fl_X8_9 rfl (lp_34 hS) (lq_34 hS) ?_
      obtain ⟨x12, ep11, elx12, erx12⟩ := bS_some eb6
      have J10 : ∀ p9 : Unit, x12 = .inl p9 → Run l G M_X8_reachesMost 14 51 [some (vr (some 34)), some (vi a1), some (vi a2), some (vi a3), some (vi z1), none] [] S mm (some (vi q)) S mm := by
        intro p9 hp9
        replace eb6 := elx12 p9 hp9
        refine r_iinc (v := _ + (1 : Int32)) dX8_reachesMost_51 rfl (congrArg (_ + ·) ci_1) (by decide) rfl ?_
        refine r_goto (tgt := 3) dX8_reachesMost_54 rfl ?_
        cases eb6
        exact r_weak (L' := [some (vr (some 34)), some (vi a1), some (vi a2), some (vi a3), some (vi (z1 + (1 : Int32))), none]) ⟨rfl, rfl, rfl, rfl, rfl, trivial⟩ hx5
      refine r_icmp_ne (tgt := 51) dX8_reachesMost_35 rfl (fun h13 => ?_) (fun h13 => ?_)
      · replace ep11 := ite_f h13 ep11
        cases ep11
        exact r_weak (L' := [some (vr (some 34)), some (vi a1), some (vi a2), some (vi a3), some (vi z1), none]) ⟨rfl, rfl, rfl, rfl, rfl, trivial⟩ (J10 _ rfl)
      · replace ep11 := ite_t h13 ep11
        refine r_aload_n dX8_reachesMost_38 rfl ?_
        refine r_iload_n dX8_reachesMost_39 rfl ?_
        refine r_iload dX8_reachesMost_40 rfl ?_
        refine r_iload_n dX8_reachesMost_42 rfl ?_
        obtain ⟨q14, eq15, ep11⟩ := obind ep11
        refine r_callV (as := [_, _, _]) (rest := []) dX8_reachesMost_43 ml_X8_62 yV_X8_canSwear (c_X8_canSwear hS 12 _ _ _ _ _ eq15) (by decide) rfl (lp_34 hS) (lq_34 hS) (Nat.le_of_ble_eq_true rfl) ?_
        refine r_if_eq (tgt := 51) dX8_reachesMost_46 rfl (fun h16 => ?_) (fun h16 => ?_)
        · replace ep11 := ite_t h16 ep11
          cases ep11
          exact r_weak (L' := [some (vr (some 34)), some (vi a1), some (vi a2), some (vi a3), some (vi z1), none]) ⟨rfl, rfl, rfl, rfl, rfl, trivial⟩ (J10 _ rfl)
        · replace ep11 := ite_f h16 ep11
          refine r_iconst (v := 1) dX8_reachesMost_49 ci_1 ?_
          cases ep11
          have eb6 := congrArg some (erx12 _ rfl)
          cases eb6
          have e := congrArg some (erx4 _ (Eq.symm hx5))
          cases e
          exact r_ireturn dX8_reachesMost_50 rfl (nz_b (by first | exact Or.inl rfl | exact Or.inr rfl)).1
  exact r_weak (L' := [some (vr (some 34)), some (vi a1), some (vi a2), some (vi a3), some (vi (0 : Int32)), none]) ⟨rfl, rfl, rfl, rfl, rfl, trivial⟩ J3w
noncomputable def m_X8_firstFor_b3 (a1 : Int32) (a2 : Int32) (a3 : Int32) (mm : Mm) (S : Sk) (z1 : Int32) : Option ((Int32) ⊕ ((Unit) ⊕ (Int32))) := if (6 : Int32) ≤ z1 then (some (.inr (.inl ()))) else (bS (if (m_X11_has a3 z1) = 0 then (some (.inl ())) else ((m_X8_whoOf S a1 mm).bind (fun q13 => if z1 = q13 then (some (.inl ())) else (grd a1 6 ((m_X8_reachesMost (a1 + (1 : Int32)) (if (m_X11_has (mI mm 35 (ix a1)) z1) = 0 then a2 else a2 ||| (xshl (1 : Int32) a1)) (a3 &&& ((xshl (1 : Int32) z1) ^^^ (-1 : Int32))) mm).bind (fun q20 => if q20 = 0 then (some (.inl ())) else (some (.inr (.inr (.inr z1))))))))) : Option ((Unit) ⊕ ((Int32) ⊕ ((Unit) ⊕ (Int32))))) (fun p8 => some (.inl (z1 + (1 : Int32)))))
noncomputable def m_X8_firstFor (S : Sk) (a1 : Int32) (a2 : Int32) (a3 : Int32) (mm : Mm) : Option (Int32) := bS (whileF FU (m_X8_firstFor_b3 a1 a2 a3 mm S) (0 : Int32)) (fun p2 => some (6 : Int32))
set_option maxHeartbeats 4000000 in
set_option maxRecDepth 100000 in
theorem c_X8_firstFor {l : Launch} {G : Gt} {S : Sk} {a1 : Int32} {a2 : Int32} {a3 : Int32} {mm : Mm} (hI : SI S) {q : Int32} (e : m_X8_firstFor S a1 a2 a3 mm = some q) : CallOK l G M_X8_firstFor yX8_firstFor 15 [vr (some 34), vi a1, vi a2, vi a3] S mm (some (vi q)) S mm := by
  have hS := hI.1
  refine call_of_run rfl rfl rfl (Nat.le_of_ble_eq_true rfl) ?_
  show Run l G M_X8_firstFor 15 0 [some (vr (some 34)), some (vi a1), some (vi a2), some (vi a3), none, none] [] S mm (some (vi q)) S mm
  unfold m_X8_firstFor at e
  refine r_iconst (v := 0) dX8_firstFor_0 ci_0 ?_
  refine r_istore dX8_firstFor_1 (by decide) rfl ?_
  obtain ⟨x4, eb6w, elx4, erx4⟩ := bS_some e
  have J3 : ∀ p2 : Unit, x4 = .inl p2 → Run l G M_X8_firstFor 15 83 [none, none, none, none, none, none] [] S mm (some (vi q)) S mm := by
    intro p2 hp2
    replace e := elx4 p2 hp2
    refine r_bipush (v := 6) dX8_firstFor_83 cb_6 ?_
    cases e
    exact r_ireturn dX8_firstFor_85 rfl rfl
  have J3w : Run l G M_X8_firstFor 15 3 [some (vr (some 34)), some (vi a1), some (vi a2), some (vi a3), some (vi (0 : Int32)), none] [] S mm (some (vi q)) S mm := by
    refine while_run (s := (0 : Int32)) (Gs := fun (z1 : Int32) => Run l G M_X8_firstFor 15 3 [some (vr (some 34)), some (vi a1), some (vi a2), some (vi a3), some (vi z1), none] [] S mm (some (vi q)) S mm) eb6w ?_
    intro z1 x4y eb6 hx5
    unfold m_X8_firstFor_b3 at eb6
    refine r_iload dX8_firstFor_3 rfl ?_
    refine r_bipush (v := 6) dX8_firstFor_5 cb_6 ?_
    refine r_icmp_ge (tgt := 83) dX8_firstFor_7 rfl (fun h7 => ?_) (fun h7 => ?_)
    · replace eb6 := ite_t h7 eb6
      cases eb6
      exact r_weak (L' := [none, none, none, none, none, none]) trivial (J3 _ (Eq.symm hx5))
    · replace eb6 := ite_f h7 eb6
      refine r_iload_n dX8_firstFor_10 rfl ?_
      refine r_iload dX8_firstFor_11 rfl ?_
      refine r_callSN (as := [_, _]) (rest := []) dX8_firstFor_13 nl_X8_75 yS_X11_has (c_X11_has) (by decide) rfl (Nat.le_of_ble_eq_true rfl) ?_
      obtain ⟨x11, ep10, elx11, erx11⟩ := bS_some eb6
      have J9 : ∀ p8 : Unit, x11 = .inl p8 → Run l G M_X8_firstFor 15 77 [some (vr (some 34)), some (vi a1), some (vi a2), some (vi a3), some (vi z1), none] [] S mm (some (vi q)) S mm := by
        intro p8 hp8
        replace eb6 := elx11 p8 hp8
        refine r_iinc (v := _ + (1 : Int32)) dX8_firstFor_77 rfl (congrArg (_ + ·) ci_1) (by decide) rfl ?_
        refine r_goto (tgt := 3) dX8_firstFor_80 rfl ?_
        cases eb6
        exact r_weak (L' := [some (vr (some 34)), some (vi a1), some (vi a2), some (vi a3), some (vi (z1 + (1 : Int32))), none]) ⟨rfl, rfl, rfl, rfl, rfl, trivial⟩ hx5
      refine r_if_eq (tgt := 77) dX8_firstFor_16 rfl (fun h12 => ?_) (fun h12 => ?_)
      · replace ep10 := ite_t h12 ep10
        cases ep10
        exact r_weak (L' := [some (vr (some 34)), some (vi a1), some (vi a2), some (vi a3), some (vi z1), none]) ⟨rfl, rfl, rfl, rfl, rfl, trivial⟩ (J9 _ rfl)
      · replace ep10 := ite_f h12 ep10
        refine r_iload dX8_firstFor_19 rfl ?_
        refine r_aload_n dX8_firstFor_21 rfl ?_
        refine r_iload_n dX8_firstFor_22 rfl ?_
        obtain ⟨q13, eq14, ep10⟩ := obind ep10
        refine r_callV (as := [_]) (rest := [_]) dX8_firstFor_23 ml_X8_41 yV_X8_whoOf (c_X8_whoOf hI eq14) (by decide) rfl (lp_34 hS) (lq_34 hS) (Nat.le_of_ble_eq_true rfl) ?_
        refine r_icmp_eq (tgt := 77) dX8_firstFor_26 rfl (fun h15 => ?_) (fun h15 => ?_)
        · replace ep10 := ite_t h15 ep10
          cases ep10
          exact r_weak (L' := [some (vr (some 34)), some (vi a1), some (vi a2), some (vi a3), some (vi z1), none]) ⟨rfl, rfl, rfl, rfl, rfl, trivial⟩ (J9 _ rfl)
        · replace ep10 := ite_f h15 ep10
          refine r_aload_n dX8_firstFor_29 rfl ?_
          refine r_getR dX8_firstFor_30 fl_X8_22 rfl (lp_34 hS) (lq_34 hS) (lr_34_3 hS) ?_
          refine r_iload_n dX8_firstFor_33 rfl ?_
          obtain ⟨hg16, ep10⟩ := grd_some ep10
          refine r_iald dX8_firstFor_34 (lp_35 hS) (lk_35 hS) hg16 ?_
          refine r_iload dX8_firstFor_35 rfl ?_
          refine r_callSN (as := [_, _]) (rest := []) dX8_firstFor_37 nl_X8_75 yS_X11_has (c_X11_has) (by decide) rfl (Nat.le_of_ble_eq_true rfl) ?_
          have J19 : ∀ (w18 : Int32), w18 = (if (m_X11_has (mI mm 35 (ix a1)) z1) = 0 then a2 else a2 ||| (xshl (1 : Int32) a1)) → Run l G M_X8_firstFor 15 52 [some (vr (some 34)), some (vi a1), some (vi a2), some (vi a3), some (vi z1), none] [vi w18] S mm (some (vi q)) S mm := by
            intro w18 hw23
            subst hw23
            refine r_istore dX8_firstFor_52 (by decide) rfl ?_
            refine r_aload_n dX8_firstFor_54 rfl ?_
            refine r_iload_n dX8_firstFor_55 rfl ?_
            refine r_iconst (v := 1) dX8_firstFor_56 ci_1 ?_
            refine r_iadd dX8_firstFor_57 ?_
            refine r_iload dX8_firstFor_58 rfl ?_
            refine r_iload_n dX8_firstFor_60 rfl ?_
            refine r_iconst (v := 1) dX8_firstFor_61 ci_1 ?_
            refine r_iload dX8_firstFor_62 rfl ?_
            refine r_ishl dX8_firstFor_64 ?_
            refine r_iconst (v := -1) dX8_firstFor_65 ci_m1 ?_
            refine r_ixor dX8_firstFor_66 ?_
            refine r_iand dX8_firstFor_67 ?_
            obtain ⟨q20, eq21, ep10⟩ := obind ep10
            refine r_callV (as := [_, _, _]) (rest := []) dX8_firstFor_68 ml_X8_89 yV_X8_reachesMost (c_X8_reachesMost hS eq21) (by decide) rfl (lp_34 hS) (lq_34 hS) (Nat.le_of_ble_eq_true rfl) ?_
            refine r_if_eq (tgt := 77) dX8_firstFor_71 rfl (fun h22 => ?_) (fun h22 => ?_)
            · replace ep10 := ite_t h22 ep10
              cases ep10
              exact r_weak (L' := [some (vr (some 34)), some (vi a1), some (vi a2), some (vi a3), some (vi z1), none]) ⟨rfl, rfl, rfl, rfl, rfl, trivial⟩ (J9 _ rfl)
            · replace ep10 := ite_f h22 ep10
              refine r_iload dX8_firstFor_74 rfl ?_
              cases ep10
              have eb6 := congrArg some (erx11 _ rfl)
              cases eb6
              have e := congrArg some (erx4 _ (Eq.symm hx5))
              cases e
              exact r_ireturn dX8_firstFor_76 rfl rfl
          refine r_if_eq (tgt := 51) dX8_firstFor_40 rfl (fun h17 => ?_) (fun h17 => ?_)
          · refine r_iload_n dX8_firstFor_51 rfl ?_
            exact r_weak (L' := [some (vr (some 34)), some (vi a1), some (vi a2), some (vi a3), some (vi z1), none]) ⟨rfl, rfl, rfl, rfl, rfl, trivial⟩ (J19 _ (Eq.symm (if_pos h17)))
          · refine r_iload_n dX8_firstFor_43 rfl ?_
            refine r_iconst (v := 1) dX8_firstFor_44 ci_1 ?_
            refine r_iload_n dX8_firstFor_45 rfl ?_
            refine r_ishl dX8_firstFor_46 ?_
            refine r_ior dX8_firstFor_47 ?_
            refine r_goto (tgt := 52) dX8_firstFor_48 rfl ?_
            exact r_weak (L' := [some (vr (some 34)), some (vi a1), some (vi a2), some (vi a3), some (vi z1), none]) ⟨rfl, rfl, rfl, rfl, rfl, trivial⟩ (J19 _ (Eq.symm (if_neg h17)))
  exact r_weak (L' := [some (vr (some 34)), some (vi a1), some (vi a2), some (vi a3), some (vi (0 : Int32)), none]) ⟨rfl, rfl, rfl, rfl, rfl, trivial⟩ J3w
noncomputable def m_X8_swearerOf_b33 (a2 : Int32) (mm : Mm) (S : Sk) (z3 : Int32 × Int32 × Int32 × Int32) : Option ((Int32 × Int32 × Int32 × Int32) ⊕ (Int32)) := if a2 < z3.2.2.2 then (some (.inr z3.2.2.1)) else ((m_X8_firstFor S z3.2.2.2 z3.2.1 z3.1 mm).bind (fun q10 => (if q10 = (6 : Int32) then (some (z3.1, z3.2.1)) else (grd z3.2.2.2 6 (some (z3.1 &&& ((xshl (1 : Int32) q10) ^^^ (-1 : Int32)), z3.2.1 ||| (if (m_X11_has (mI mm 35 (ix z3.2.2.2)) q10) = 0 then (0 : Int32) else xshl (1 : Int32) z3.2.2.2)))) : Option (Int32 × Int32)).bind (fun p12 => some (.inl (p12.1, p12.2, q10, z3.2.2.2 + (1 : Int32))))))
noncomputable def m_X8_swearerOf (S : Sk) (a2 : Int32) (mm : Mm) : Option (Int32) := if a2 < 0 then (some (-1 : Int32)) else (if a2 < (mI mm 34 2) then ((whileF FU (m_X8_swearerOf_b33 a2 mm S) ((xshl (1 : Int32) (mI mm 14 0)) - (1 : Int32), (0 : Int32), (6 : Int32), (0 : Int32))).bind (fun p4 => some p4)) else (some (-1 : Int32)))
set_option maxHeartbeats 4000000 in
set_option maxRecDepth 100000 in
theorem c_X8_swearerOf {l : Launch} {G : Gt} {S : Sk} {a2 : Int32} {mm : Mm} (hI : SI S) {q : Int32} (e : m_X8_swearerOf S a2 mm = some q) : CallOK l G M_X8_swearerOf yX8_swearerOf 16 [vr (some 34), vr (some 14), vi a2] S mm (some (vi q)) S mm := by
  have hS := hI.1
  refine call_of_run rfl rfl rfl (Nat.le_of_ble_eq_true rfl) ?_
  show Run l G M_X8_swearerOf 16 0 [some (vr (some 34)), some (vr (some 14)), some (vi a2), none, none, none, none] [] S mm (some (vi q)) S mm
  unfold m_X8_swearerOf at e
  refine r_iload_n dX8_swearerOf_0 rfl ?_
  refine r_if_lt (tgt := 12) dX8_swearerOf_1 rfl (fun h1 => ?_) (fun h1 => ?_)
  · replace e := ite_t h1 e
    refine r_iconst (v := -1) dX8_swearerOf_12 ci_m1 ?_
    cases e
    exact r_ireturn dX8_swearerOf_13 rfl rfl
  · replace e := ite_f h1 e
    refine r_iload_n dX8_swearerOf_4 rfl ?_
    refine r_aload_n dX8_swearerOf_5 rfl ?_
    refine r_getI dX8_swearerOf_6 fl_X8_19 rfl (lp_34 hS) (lq_34 hS) ?_
    refine r_icmp_lt (tgt := 14) dX8_swearerOf_9 rfl (fun h2 => ?_) (fun h2 => ?_)
    · replace e := ite_t h2 e
      refine r_iconst (v := 1) dX8_swearerOf_14 ci_1 ?_
      refine r_aload_n dX8_swearerOf_15 rfl ?_
      refine r_getI dX8_swearerOf_16 fl_X8_69 rfl (lp_14 hS) (lq_14 hS) ?_
      refine r_ishl dX8_swearerOf_19 ?_
      refine r_iconst (v := 1) dX8_swearerOf_20 ci_1 ?_
      refine r_isub dX8_swearerOf_21 ?_
      refine r_istore_n dX8_swearerOf_22 (by decide) rfl ?_
      refine r_iconst (v := 0) dX8_swearerOf_23 ci_0 ?_
      refine r_istore dX8_swearerOf_24 (by decide) rfl ?_
      refine r_bipush (v := 6) dX8_swearerOf_26 cb_6 ?_
      refine r_istore dX8_swearerOf_28 (by decide) rfl ?_
      refine r_iconst (v := 0) dX8_swearerOf_30 ci_0 ?_
      refine r_istore dX8_swearerOf_31 (by decide) rfl ?_
      obtain ⟨p4, eb8w, e⟩ := obind e
      have J5a : Run l G M_X8_swearerOf 16 100 [none, none, none, none, none, some (vi p4), none] [] S mm (some (vi q)) S mm := by
        refine r_iload dX8_swearerOf_100 rfl ?_
        cases e
        exact r_ireturn dX8_swearerOf_102 rfl rfl
      have J5 : ∀ pp : Int32, pp = p4 → Run l G M_X8_swearerOf 16 100 [none, none, none, none, none, some (vi pp), none] [] S mm (some (vi q)) S mm := by
        intro pp hpp
        rw [hpp]
        exact J5a
      have J5w : Run l G M_X8_swearerOf 16 33 [some (vr (some 34)), none, some (vi a2), some (vi ((xshl (1 : Int32) (mI mm 14 0)) - (1 : Int32))), some (vi (0 : Int32)), some (vi (6 : Int32)), some (vi (0 : Int32))] [] S mm (some (vi q)) S mm := by
        refine while_run (s := ((xshl (1 : Int32) (mI mm 14 0)) - (1 : Int32), (0 : Int32), (6 : Int32), (0 : Int32))) (Gs := fun (z3 : Int32 × Int32 × Int32 × Int32) => Run l G M_X8_swearerOf 16 33 [some (vr (some 34)), none, some (vi a2), some (vi z3.1), some (vi z3.2.1), some (vi z3.2.2.1), some (vi z3.2.2.2)] [] S mm (some (vi q)) S mm) eb8w ?_
        intro z3 x6y eb8 hx7
        unfold m_X8_swearerOf_b33 at eb8
        refine r_iload dX8_swearerOf_33 rfl ?_
        refine r_iload_n dX8_swearerOf_35 rfl ?_
        refine r_icmp_gt (tgt := 100) dX8_swearerOf_36 rfl (fun h9 => ?_) (fun h9 => ?_)
        · replace eb8 := ite_t h9 eb8
          cases eb8
          exact r_weak (L' := [none, none, none, none, none, some (vi z3.2.2.1), none]) ⟨rfl, trivial⟩ (J5 _ hx7)
        · replace eb8 := ite_f h9 eb8
          refine r_aload_n dX8_swearerOf_39 rfl ?_
          refine r_iload dX8_swearerOf_40 rfl ?_
          refine r_iload dX8_swearerOf_42 rfl ?_
          refine r_iload_n dX8_swearerOf_44 rfl ?_
          obtain ⟨q10, eq11, eb8⟩ := obind eb8
          refine r_callV (as := [_, _, _]) (rest := []) dX8_swearerOf_45 ml_X8_85 yV_X8_firstFor (c_X8_firstFor hI eq11) (by decide) rfl (lp_34 hS) (lq_34 hS) (Nat.le_of_ble_eq_true rfl) ?_
          refine r_istore dX8_swearerOf_48 (by decide) rfl ?_
          refine r_iload dX8_swearerOf_50 rfl ?_
          refine r_bipush (v := 6) dX8_swearerOf_52 cb_6 ?_
          obtain ⟨p12, ep14, eb8⟩ := obind eb8
          have J13a : Run l G M_X8_swearerOf 16 94 [some (vr (some 34)), none, some (vi a2), some (vi p12.1), some (vi p12.2), some (vi q10), some (vi z3.2.2.2)] [] S mm (some (vi q)) S mm := by
            refine r_iinc (v := _ + (1 : Int32)) dX8_swearerOf_94 rfl (congrArg (_ + ·) ci_1) (by decide) rfl ?_
            refine r_goto (tgt := 33) dX8_swearerOf_97 rfl ?_
            cases eb8
            exact r_weak (L' := [some (vr (some 34)), none, some (vi a2), some (vi p12.1), some (vi p12.2), some (vi q10), some (vi (z3.2.2.2 + (1 : Int32)))]) ⟨rfl, rfl, rfl, rfl, rfl, rfl, trivial⟩ hx7
          have J13 : ∀ pp : Int32 × Int32, pp = p12 → Run l G M_X8_swearerOf 16 94 [some (vr (some 34)), none, some (vi a2), some (vi pp.1), some (vi pp.2), some (vi q10), some (vi z3.2.2.2)] [] S mm (some (vi q)) S mm := by
            intro pp hpp
            rw [hpp]
            exact J13a
          refine r_icmp_eq (tgt := 94) dX8_swearerOf_54 rfl (fun h16 => ?_) (fun h16 => ?_)
          · replace ep14 := ite_t h16 ep14
            exact r_weak (L' := [some (vr (some 34)), none, some (vi a2), some (vi z3.1), some (vi z3.2.1), some (vi q10), some (vi z3.2.2.2)]) ⟨rfl, rfl, rfl, rfl, rfl, rfl, trivial⟩ (J13 _ (Option.some.inj ep14))
          · replace ep14 := ite_f h16 ep14
            refine r_iload_n dX8_swearerOf_57 rfl ?_
            refine r_iconst (v := 1) dX8_swearerOf_58 ci_1 ?_
            refine r_iload dX8_swearerOf_59 rfl ?_
            refine r_ishl dX8_swearerOf_61 ?_
            refine r_iconst (v := -1) dX8_swearerOf_62 ci_m1 ?_
            refine r_ixor dX8_swearerOf_63 ?_
            refine r_iand dX8_swearerOf_64 ?_
            refine r_istore_n dX8_swearerOf_65 (by decide) rfl ?_
            refine r_iload dX8_swearerOf_66 rfl ?_
            refine r_aload_n dX8_swearerOf_68 rfl ?_
            refine r_getR dX8_swearerOf_69 fl_X8_22 rfl (lp_34 hS) (lq_34 hS) (lr_34_3 hS) ?_
            refine r_iload dX8_swearerOf_72 rfl ?_
            obtain ⟨hg17, ep14⟩ := grd_some ep14
            refine r_iald dX8_swearerOf_74 (lp_35 hS) (lk_35 hS) hg17 ?_
            refine r_iload dX8_swearerOf_75 rfl ?_
            refine r_callSN (as := [_, _]) (rest := [_]) dX8_swearerOf_77 nl_X8_75 yS_X11_has (c_X11_has) (by decide) rfl (Nat.le_of_ble_eq_true rfl) ?_
            have J20 : ∀ (w19 : Int32), w19 = (if (m_X11_has (mI mm 35 (ix z3.2.2.2)) q10) = 0 then (0 : Int32) else xshl (1 : Int32) z3.2.2.2) → Run l G M_X8_swearerOf 16 91 [some (vr (some 34)), none, some (vi a2), some (vi (z3.1 &&& ((xshl (1 : Int32) q10) ^^^ (-1 : Int32)))), none, some (vi q10), some (vi z3.2.2.2)] [vi w19, vi z3.2.1] S mm (some (vi q)) S mm := by
              intro w19 hw21
              subst hw21
              refine r_ior dX8_swearerOf_91 ?_
              refine r_istore dX8_swearerOf_92 (by decide) rfl ?_
              exact r_weak (L' := [some (vr (some 34)), none, some (vi a2), some (vi (z3.1 &&& ((xshl (1 : Int32) q10) ^^^ (-1 : Int32)))), some (vi (z3.2.1 ||| (if (m_X11_has (mI mm 35 (ix z3.2.2.2)) q10) = 0 then (0 : Int32) else xshl (1 : Int32) z3.2.2.2))), some (vi q10), some (vi z3.2.2.2)]) ⟨rfl, rfl, rfl, rfl, rfl, rfl, trivial⟩ (J13 _ (Option.some.inj ep14))
            refine r_if_eq (tgt := 90) dX8_swearerOf_80 rfl (fun h18 => ?_) (fun h18 => ?_)
            · refine r_iconst (v := 0) dX8_swearerOf_90 ci_0 ?_
              exact r_weak (L' := [some (vr (some 34)), none, some (vi a2), some (vi (z3.1 &&& ((xshl (1 : Int32) q10) ^^^ (-1 : Int32)))), none, some (vi q10), some (vi z3.2.2.2)]) ⟨rfl, rfl, rfl, rfl, rfl, trivial⟩ (J20 _ (Eq.symm (if_pos h18)))
            · refine r_iconst (v := 1) dX8_swearerOf_83 ci_1 ?_
              refine r_iload dX8_swearerOf_84 rfl ?_
              refine r_ishl dX8_swearerOf_86 ?_
              refine r_goto (tgt := 91) dX8_swearerOf_87 rfl ?_
              exact r_weak (L' := [some (vr (some 34)), none, some (vi a2), some (vi (z3.1 &&& ((xshl (1 : Int32) q10) ^^^ (-1 : Int32)))), none, some (vi q10), some (vi z3.2.2.2)]) ⟨rfl, rfl, rfl, rfl, rfl, trivial⟩ (J20 _ (Eq.symm (if_neg h18)))
      exact r_weak (L' := [some (vr (some 34)), none, some (vi a2), some (vi ((xshl (1 : Int32) (mI mm 14 0)) - (1 : Int32))), some (vi (0 : Int32)), some (vi (6 : Int32)), some (vi (0 : Int32))]) ⟨rfl, rfl, rfl, rfl, rfl, rfl, trivial⟩ J5w
    · replace e := ite_f h2 e
      refine r_iconst (v := -1) dX8_swearerOf_12 ci_m1 ?_
      cases e
      exact r_ireturn dX8_swearerOf_13 rfl rfl
noncomputable def m_X9_init (S : Sk) (a0 : Nat) (mm : Mm) : Option (Sk × Mm) := some ((sRs (nwS (sRs (nwS (sRs (nwS (sRs (nwS S 21 600 600) a0 0 (some S.1)) 20 4 4) a0 4 (some (S.1 + 1))) 23 2 2) a0 5 (some (S.1 + 2))) 24 8 8) a0 6 (some (S.1 + 3))), (nwM (sRs (nwS (sRs (nwS (sRs (nwS S 21 600 600) a0 0 (some S.1)) 20 4 4) a0 4 (some (S.1 + 1))) 23 2 2) a0 5 (some (S.1 + 2))) (nwM (sRs (nwS (sRs (nwS S 21 600 600) a0 0 (some S.1)) 20 4 4) a0 4 (some (S.1 + 1))) (nwM (sRs (nwS S 21 600 600) a0 0 (some S.1)) (sI (sI (sI (nwM S mm) a0 1 (0 : Int32)) a0 2 (0 : Int32)) a0 3 (-1 : Int32))))))
set_option maxHeartbeats 4000000 in
set_option maxRecDepth 100000 in
theorem c_X9_init {l : Launch} {G : Gt} {S : Sk} {a0 : Nat} {mm : Mm} (ha0 : KD S a0 9) {q : Sk × Mm} (e : m_X9_init S a0 mm = some q) : CallOK l G M_X9_init yX9_init 1 [vr (some a0)] S mm (none) q.1 q.2 := by
  refine call_of_run rfl rfl rfl (Nat.le_of_ble_eq_true rfl) ?_
  show Run l G M_X9_init 1 0 [some (vr (some a0))] [] S mm (none) q.1 q.2
  unfold m_X9_init at e
  refine r_aload_n dX9_init_0 rfl ?_
  refine r_objInit (rest := []) dX9_init_1 oi_X9_3 oi_i oi_c (by decide) (Nat.le_of_ble_eq_true rfl) ?_
  refine r_aload_n dX9_init_4 rfl ?_
  refine r_sipush (v := 600) dX9_init_5 cs_600 ?_
  refine r_newa (t := 21) dX9_init_8 rfl (by decide) (by decide) aw_21 (by decide) (N := 600) (by decide) (by decide) ?_
  have hn1 := kd_nw (k := 21) (len := 600) (z := 600) ha0
  have hn2 : AK (nwS S 21 600 600) S.1 21 600 := ak_new
  refine r_putR dX9_init_10 fl_X9_9 ft_9_0 (Or.inr ⟨rfl, fun q hq => by cases hq; rfl⟩) rfl hn1.1 hn1.2 ?_
  refine r_aload_n dX9_init_13 rfl ?_
  refine r_iconst (v := 0) dX9_init_14 ci_0 ?_
  refine r_putI dX9_init_15 fl_X9_15 ft_9_1 (Or.inl rfl) rfl rfl rfl hn1.1 hn1.2 ?_
  refine r_aload_n dX9_init_18 rfl ?_
  refine r_iconst (v := 0) dX9_init_19 ci_0 ?_
  refine r_putI dX9_init_20 fl_X9_19 ft_9_2 (Or.inl rfl) rfl rfl rfl hn1.1 hn1.2 ?_
  refine r_aload_n dX9_init_23 rfl ?_
  refine r_iconst (v := -1) dX9_init_24 ci_m1 ?_
  refine r_putI dX9_init_25 fl_X9_22 ft_9_3 (Or.inl rfl) rfl rfl rfl hn1.1 hn1.2 ?_
  refine r_aload_n dX9_init_28 rfl ?_
  refine r_iconst (v := 4) dX9_init_29 ci_4 ?_
  refine r_newa (t := 20) dX9_init_30 rfl (by decide) (by decide) aw_20 (by decide) (N := 4) (by decide) (by decide) ?_
  have hn3 := kd_nw (k := 20) (len := 4) (z := 4) hn1
  have hn4 := ak_nw (k := 20) (len := 4) (z := 4) hn2
  have hn5 : AK (nwS (sRs (nwS S 21 600 600) a0 0 (some S.1)) 20 4 4) (S.1 + 1) 20 4 := ak_new
  refine r_putR dX9_init_32 fl_X9_25 ft_9_4 (Or.inr ⟨rfl, fun q hq => by cases hq; rfl⟩) rfl hn3.1 hn3.2 ?_
  refine r_aload_n dX9_init_35 rfl ?_
  refine r_iconst (v := 2) dX9_init_36 ci_2 ?_
  refine r_anew (t := 23) dX9_init_37 rfl (by decide) (by decide) cl_X9_29 (by decide) (N := 2) (by decide) (by decide) ?_
  have hn6 := kd_nw (k := 23) (len := 2) (z := 2) hn3
  have hn7 := ak_nw (k := 23) (len := 2) (z := 2) hn4
  have hn8 := ak_nw (k := 23) (len := 2) (z := 2) hn5
  have hn9 : AK (nwS (sRs (nwS (sRs (nwS S 21 600 600) a0 0 (some S.1)) 20 4 4) a0 4 (some (S.1 + 1))) 23 2 2) (S.1 + 2) 23 2 := ak_new
  refine r_putR dX9_init_40 fl_X9_31 ft_9_5 (Or.inr ⟨rfl, fun q hq => by cases hq; rfl⟩) rfl hn6.1 hn6.2 ?_
  refine r_aload_n dX9_init_43 rfl ?_
  refine r_bipush (v := 8) dX9_init_44 cb_8 ?_
  refine r_anew (t := 24) dX9_init_46 rfl (by decide) (by decide) cl_X9_35 (by decide) (N := 8) (by decide) (by decide) ?_
  have hn10 := kd_nw (k := 24) (len := 8) (z := 8) hn6
  have hn11 := ak_nw (k := 24) (len := 8) (z := 8) hn7
  have hn12 := ak_nw (k := 24) (len := 8) (z := 8) hn8
  have hn13 := ak_nw (k := 24) (len := 8) (z := 8) hn9
  have hn14 : AK (nwS (sRs (nwS (sRs (nwS (sRs (nwS S 21 600 600) a0 0 (some S.1)) 20 4 4) a0 4 (some (S.1 + 1))) 23 2 2) a0 5 (some (S.1 + 2))) 24 8 8) (S.1 + 3) 24 8 := ak_new
  refine r_putR dX9_init_49 fl_X9_37 ft_9_6 (Or.inr ⟨rfl, fun q hq => by cases hq; rfl⟩) rfl hn10.1 hn10.2 ?_
  cases e
  exact r_return dX9_init_52 rfl
noncomputable def m_X9_append_b3 (a1 : Int32) (z1 : Int32 × Mm) : Option ((Int32 × Mm) ⊕ (Mm)) := if z1.1 < 0 then (some (.inr z1.2)) else ((if (600 : Int32) ≤ (mI z1.2 1 1) then (some z1.2) else (grd (mI z1.2 1 1) 600 (some (sI (sI z1.2 2 (ix (mI z1.2 1 1)) (vp_nar .byte ((xushr a1 z1.1).toInt8.toInt32))) 1 1 ((mI (sI z1.2 2 (ix (mI z1.2 1 1)) (vp_nar .byte ((xushr a1 z1.1).toInt8.toInt32))) 1 1) + (1 : Int32))))) : Option (Mm)).bind (fun p8 => some (.inl (z1.1 + (-8 : Int32), p8))))
noncomputable def m_X9_append (a1 : Int32) (mm : Mm) : Option (Mm) := (whileF FU (m_X9_append_b3 a1) ((24 : Int32), mm)).bind (fun p2 => some p2)
set_option maxHeartbeats 4000000 in
set_option maxRecDepth 100000 in
theorem c_X9_append {l : Launch} {G : Gt} {S : Sk} {a1 : Int32} {mm : Mm} (hS : Lay S) {q : Mm} (e : m_X9_append a1 mm = some q) : CallOK l G M_X9_append yX9_append 0 [vr (some 1), vi a1] S mm (none) S q := by
  refine call_of_run rfl rfl rfl (Nat.le_of_ble_eq_true rfl) ?_
  show Run l G M_X9_append 0 0 [some (vr (some 1)), some (vi a1), none] [] S mm (none) S q
  unfold m_X9_append at e
  refine r_bipush (v := 24) dX9_append_0 cb_24 ?_
  refine r_istore_n dX9_append_2 (by decide) rfl ?_
  obtain ⟨p2, eb6w, e⟩ := obind e
  have J3a : Run l G M_X9_append 0 48 [none, none, none] [] S p2 (none) S q := by
    cases e
    exact r_return dX9_append_48 rfl
  have J3 : ∀ pp : Mm, pp = p2 → Run l G M_X9_append 0 48 [none, none, none] [] S pp (none) S q := by
    intro pp hpp
    rw [hpp]
    exact J3a
  have J3w : Run l G M_X9_append 0 3 [some (vr (some 1)), some (vi a1), some (vi (24 : Int32))] [] S mm (none) S q := by
    refine while_run (s := ((24 : Int32), mm)) (Gs := fun (z1 : Int32 × Mm) => Run l G M_X9_append 0 3 [some (vr (some 1)), some (vi a1), some (vi z1.1)] [] S z1.2 (none) S q) eb6w ?_
    intro z1 x4y eb6 hx5
    unfold m_X9_append_b3 at eb6
    refine r_iload_n dX9_append_3 rfl ?_
    refine r_if_lt (tgt := 48) dX9_append_4 rfl (fun h7 => ?_) (fun h7 => ?_)
    · replace eb6 := ite_t h7 eb6
      cases eb6
      exact r_weak (L' := [none, none, none]) trivial (J3 _ hx5)
    · replace eb6 := ite_f h7 eb6
      refine r_aload_n dX9_append_7 rfl ?_
      refine r_getI dX9_append_8 fl_X9_15 rfl (lp_1 hS) (lq_1 hS) ?_
      refine r_aload_n dX9_append_11 rfl ?_
      refine r_getR dX9_append_12 fl_X9_9 rfl (lp_1 hS) (lq_1 hS) (lr_1_0 hS) ?_
      refine r_alen (v := 600) dX9_append_15 (lp_2 hS) (lk_2 hS) (by decide) (by decide) (by decide) ?_
      obtain ⟨p8, ep10, eb6⟩ := obind eb6
      have J9a : Run l G M_X9_append 0 42 [some (vr (some 1)), some (vi a1), some (vi z1.1)] [] S p8 (none) S q := by
        refine r_iinc (v := _ + (-8 : Int32)) dX9_append_42 rfl (congrArg (_ + ·) ci_m8) (by decide) rfl ?_
        refine r_goto (tgt := 3) dX9_append_45 rfl ?_
        cases eb6
        exact r_weak (L' := [some (vr (some 1)), some (vi a1), some (vi (z1.1 + (-8 : Int32)))]) ⟨rfl, rfl, rfl, trivial⟩ hx5
      have J9 : ∀ pp : Mm, pp = p8 → Run l G M_X9_append 0 42 [some (vr (some 1)), some (vi a1), some (vi z1.1)] [] S pp (none) S q := by
        intro pp hpp
        rw [hpp]
        exact J9a
      refine r_icmp_ge (tgt := 42) dX9_append_16 rfl (fun h12 => ?_) (fun h12 => ?_)
      · replace ep10 := ite_t h12 ep10
        exact r_weak (L' := [some (vr (some 1)), some (vi a1), some (vi z1.1)]) ⟨rfl, rfl, rfl, trivial⟩ (J9 _ (Option.some.inj ep10))
      · replace ep10 := ite_f h12 ep10
        refine r_aload_n dX9_append_19 rfl ?_
        refine r_getR dX9_append_20 fl_X9_9 rfl (lp_1 hS) (lq_1 hS) (lr_1_0 hS) ?_
        refine r_aload_n dX9_append_23 rfl ?_
        refine r_getI dX9_append_24 fl_X9_15 rfl (lp_1 hS) (lq_1 hS) ?_
        refine r_iload_n dX9_append_27 rfl ?_
        refine r_iload_n dX9_append_28 rfl ?_
        refine r_iushr dX9_append_29 ?_
        refine r_i2b dX9_append_30 ?_
        obtain ⟨hg13, ep10⟩ := grd_some ep10
        refine r_bast dX9_append_31 (lp_2 hS) (lk_2 hS) hg13 ?_
        refine r_aload_n dX9_append_32 rfl ?_
        refine r_dup dX9_append_33 rfl ?_
        refine r_getI dX9_append_34 fl_X9_15 rfl (lp_1 hS) (lq_1 hS) ?_
        refine r_iconst (v := 1) dX9_append_37 ci_1 ?_
        refine r_iadd dX9_append_38 ?_
        refine r_putI dX9_append_39 fl_X9_15 ft_9_1 (Or.inl rfl) rfl rfl rfl (lp_1 hS) (lq_1 hS) ?_
        exact r_weak (L' := [some (vr (some 1)), some (vi a1), some (vi z1.1)]) ⟨rfl, rfl, rfl, trivial⟩ (J9 _ (Option.some.inj ep10))
  exact r_weak (L' := [some (vr (some 1)), some (vi a1), some (vi (24 : Int32))]) ⟨rfl, rfl, rfl, trivial⟩ J3w
