noncomputable def m_X0_init (S : Sk) (a0 : Nat) (mm : Mm) : Option (Sk × Mm) := some ((sRs (nwS (sRs (nwS (sRs (nwS (sRs (nwS (sRs (nwS (sRs (nwS S 20 6 6) a0 2 (some S.1)) 20 6 6) a0 3 (some (S.1 + 1))) 20 6 6) a0 4 (some (S.1 + 2))) 20 6 6) a0 5 (some (S.1 + 3))) 20 6 6) a0 6 (some (S.1 + 4))) 20 6 6) a0 7 (some (S.1 + 5))), (nwM (sRs (nwS (sRs (nwS (sRs (nwS (sRs (nwS (sRs (nwS S 20 6 6) a0 2 (some S.1)) 20 6 6) a0 3 (some (S.1 + 1))) 20 6 6) a0 4 (some (S.1 + 2))) 20 6 6) a0 5 (some (S.1 + 3))) 20 6 6) a0 6 (some (S.1 + 4))) (nwM (sRs (nwS (sRs (nwS (sRs (nwS (sRs (nwS S 20 6 6) a0 2 (some S.1)) 20 6 6) a0 3 (some (S.1 + 1))) 20 6 6) a0 4 (some (S.1 + 2))) 20 6 6) a0 5 (some (S.1 + 3))) (nwM (sRs (nwS (sRs (nwS (sRs (nwS S 20 6 6) a0 2 (some S.1)) 20 6 6) a0 3 (some (S.1 + 1))) 20 6 6) a0 4 (some (S.1 + 2))) (nwM (sRs (nwS (sRs (nwS S 20 6 6) a0 2 (some S.1)) 20 6 6) a0 3 (some (S.1 + 1))) (nwM (sRs (nwS S 20 6 6) a0 2 (some S.1)) (nwM S (sI (sI mm a0 0 (0 : Int32)) a0 1 (0 : Int32)))))))))
set_option maxHeartbeats 4000000 in
set_option maxRecDepth 100000 in
theorem c_X0_init {l : Launch} {G : Gt} {S : Sk} {a0 : Nat} {mm : Mm} (ha0 : KD S a0 0) {q : Sk × Mm} (e : m_X0_init S a0 mm = some q) : CallOK l G M_X0_init yX0_init 1 [vr (some a0)] S mm (none) q.1 q.2 := by
  refine call_of_run rfl rfl rfl (Nat.le_of_ble_eq_true rfl) ?_
  show Run l G M_X0_init 1 0 [some (vr (some a0))] [] S mm (none) q.1 q.2
  unfold m_X0_init at e
  refine r_aload_n dX0_init_0 rfl ?_
  refine r_objInit (rest := []) dX0_init_1 oi_X0_3 oi_i oi_c (by decide) (Nat.le_of_ble_eq_true rfl) ?_
  refine r_aload_n dX0_init_4 rfl ?_
  refine r_iconst (v := 0) dX0_init_5 ci_0 ?_
  refine r_putI dX0_init_6 fl_X0_9 ft_0_0 (Or.inl rfl) rfl rfl rfl ha0.1 ha0.2 ?_
  refine r_aload_n dX0_init_9 rfl ?_
  refine r_iconst (v := 0) dX0_init_10 ci_0 ?_
  refine r_putI dX0_init_11 fl_X0_15 ft_0_1 (Or.inl rfl) rfl rfl rfl ha0.1 ha0.2 ?_
  refine r_aload_n dX0_init_14 rfl ?_
  refine r_bipush (v := 6) dX0_init_15 cb_6 ?_
  refine r_newa (t := 20) dX0_init_17 rfl (by decide) (by decide) aw_20 (by decide) (N := 6) (by decide) (by decide) ?_
  have hn1 := kd_nw (k := 20) (len := 6) (z := 6) ha0
  have hn2 : AK (nwS S 20 6 6) S.1 20 6 := ak_new
  refine r_putR dX0_init_19 fl_X0_18 ft_0_2 (Or.inr ⟨rfl, fun q hq => by cases hq; rfl⟩) rfl hn1.1 hn1.2 ?_
  refine r_aload_n dX0_init_22 rfl ?_
  refine r_bipush (v := 6) dX0_init_23 cb_6 ?_
  refine r_newa (t := 20) dX0_init_25 rfl (by decide) (by decide) aw_20 (by decide) (N := 6) (by decide) (by decide) ?_
  have hn3 := kd_nw (k := 20) (len := 6) (z := 6) hn1
  have hn4 := ak_nw (k := 20) (len := 6) (z := 6) hn2
  have hn5 : AK (nwS (sRs (nwS S 20 6 6) a0 2 (some S.1)) 20 6 6) (S.1 + 1) 20 6 := ak_new
  refine r_putR dX0_init_27 fl_X0_22 ft_0_3 (Or.inr ⟨rfl, fun q hq => by cases hq; rfl⟩) rfl hn3.1 hn3.2 ?_
  refine r_aload_n dX0_init_30 rfl ?_
  refine r_bipush (v := 6) dX0_init_31 cb_6 ?_
  refine r_newa (t := 20) dX0_init_33 rfl (by decide) (by decide) aw_20 (by decide) (N := 6) (by decide) (by decide) ?_
  have hn6 := kd_nw (k := 20) (len := 6) (z := 6) hn3
  have hn7 := ak_nw (k := 20) (len := 6) (z := 6) hn4
  have hn8 := ak_nw (k := 20) (len := 6) (z := 6) hn5
  have hn9 : AK (nwS (sRs (nwS (sRs (nwS S 20 6 6) a0 2 (some S.1)) 20 6 6) a0 3 (some (S.1 + 1))) 20 6 6) (S.1 + 2) 20 6 := ak_new
  refine r_putR dX0_init_35 fl_X0_25 ft_0_4 (Or.inr ⟨rfl, fun q hq => by cases hq; rfl⟩) rfl hn6.1 hn6.2 ?_
  refine r_aload_n dX0_init_38 rfl ?_
  refine r_bipush (v := 6) dX0_init_39 cb_6 ?_
  refine r_newa (t := 20) dX0_init_41 rfl (by decide) (by decide) aw_20 (by decide) (N := 6) (by decide) (by decide) ?_
  have hn10 := kd_nw (k := 20) (len := 6) (z := 6) hn6
  have hn11 := ak_nw (k := 20) (len := 6) (z := 6) hn7
  have hn12 := ak_nw (k := 20) (len := 6) (z := 6) hn8
  have hn13 := ak_nw (k := 20) (len := 6) (z := 6) hn9
  have hn14 : AK (nwS (sRs (nwS (sRs (nwS (sRs (nwS S 20 6 6) a0 2 (some S.1)) 20 6 6) a0 3 (some (S.1 + 1))) 20 6 6) a0 4 (some (S.1 + 2))) 20 6 6) (S.1 + 3) 20 6 := ak_new
  refine r_putR dX0_init_43 fl_X0_28 ft_0_5 (Or.inr ⟨rfl, fun q hq => by cases hq; rfl⟩) rfl hn10.1 hn10.2 ?_
  refine r_aload_n dX0_init_46 rfl ?_
  refine r_bipush (v := 6) dX0_init_47 cb_6 ?_
  refine r_newa (t := 20) dX0_init_49 rfl (by decide) (by decide) aw_20 (by decide) (N := 6) (by decide) (by decide) ?_
  have hn15 := kd_nw (k := 20) (len := 6) (z := 6) hn10
  have hn16 := ak_nw (k := 20) (len := 6) (z := 6) hn11
  have hn17 := ak_nw (k := 20) (len := 6) (z := 6) hn12
  have hn18 := ak_nw (k := 20) (len := 6) (z := 6) hn13
  have hn19 := ak_nw (k := 20) (len := 6) (z := 6) hn14
  have hn20 : AK (nwS (sRs (nwS (sRs (nwS (sRs (nwS (sRs (nwS S 20 6 6) a0 2 (some S.1)) 20 6 6) a0 3 (some (S.1 + 1))) 20 6 6) a0 4 (some (S.1 + 2))) 20 6 6) a0 5 (some (S.1 + 3))) 20 6 6) (S.1 + 4) 20 6 := ak_new
  refine r_putR dX0_init_51 fl_X0_31 ft_0_6 (Or.inr ⟨rfl, fun q hq => by cases hq; rfl⟩) rfl hn15.1 hn15.2 ?_
  refine r_aload_n dX0_init_54 rfl ?_
  refine r_bipush (v := 6) dX0_init_55 cb_6 ?_
  refine r_newa (t := 20) dX0_init_57 rfl (by decide) (by decide) aw_20 (by decide) (N := 6) (by decide) (by decide) ?_
  have hn21 := kd_nw (k := 20) (len := 6) (z := 6) hn15
  have hn22 := ak_nw (k := 20) (len := 6) (z := 6) hn16
  have hn23 := ak_nw (k := 20) (len := 6) (z := 6) hn17
  have hn24 := ak_nw (k := 20) (len := 6) (z := 6) hn18
  have hn25 := ak_nw (k := 20) (len := 6) (z := 6) hn19
  have hn26 := ak_nw (k := 20) (len := 6) (z := 6) hn20
  have hn27 : AK (nwS (sRs (nwS (sRs (nwS (sRs (nwS (sRs (nwS (sRs (nwS S 20 6 6) a0 2 (some S.1)) 20 6 6) a0 3 (some (S.1 + 1))) 20 6 6) a0 4 (some (S.1 + 2))) 20 6 6) a0 5 (some (S.1 + 3))) 20 6 6) a0 6 (some (S.1 + 4))) 20 6 6) (S.1 + 5) 20 6 := ak_new
  refine r_putR dX0_init_59 fl_X0_34 ft_0_7 (Or.inr ⟨rfl, fun q hq => by cases hq; rfl⟩) rfl hn21.1 hn21.2 ?_
  cases e
  exact r_return dX0_init_62 rfl
noncomputable def m_X0_learn_b10 (z1 : Int32 × Mm) : Option ((Int32 × Mm) ⊕ (Mm)) := if (6 : Int32) ≤ z1.1 then (some (.inr z1.2)) else (grd z1.1 6 (grd z1.1 6 (grd z1.1 6 (grd z1.1 6 (some (.inl (z1.1 + (1 : Int32), (sI (sI (sI (sI z1.2 26 (ix z1.1) (0 : Int32)) 27 (ix z1.1) (0 : Int32)) 28 (ix z1.1) (0 : Int32)) 29 (ix z1.1) (0 : Int32)))))))))
noncomputable def m_X0_learn_b52 (z12 : Int32 × Mm) : Option ((Int32 × Mm) ⊕ (Mm)) := if (mI z12.2 14 1) ≤ z12.1 then (some (.inr z12.2)) else (grd z12.1 12 (grd (mI z12.2 20 (ix z12.1)) 6 (grd z12.1 12 (grd (mI z12.2 20 (ix z12.1)) 6 (grd z12.1 12 (grd (mI (sI z12.2 26 (ix (mI z12.2 20 (ix z12.1))) ((mI z12.2 26 (ix (mI z12.2 20 (ix z12.1)))) ||| (xshl (1 : Int32) (mI z12.2 21 (ix z12.1))))) 20 (ix z12.1)) 6 (grd (mI (sI z12.2 26 (ix (mI z12.2 20 (ix z12.1))) ((mI z12.2 26 (ix (mI z12.2 20 (ix z12.1)))) ||| (xshl (1 : Int32) (mI z12.2 21 (ix z12.1))))) 20 (ix z12.1)) 6 (grd z12.1 12 (grd (mI (sI (sI z12.2 26 (ix (mI z12.2 20 (ix z12.1))) ((mI z12.2 26 (ix (mI z12.2 20 (ix z12.1)))) ||| (xshl (1 : Int32) (mI z12.2 21 (ix z12.1))))) 27 (ix (mI (sI z12.2 26 (ix (mI z12.2 20 (ix z12.1))) ((mI z12.2 26 (ix (mI z12.2 20 (ix z12.1)))) ||| (xshl (1 : Int32) (mI z12.2 21 (ix z12.1))))) 20 (ix z12.1))) ((mI (sI z12.2 26 (ix (mI z12.2 20 (ix z12.1))) ((mI z12.2 26 (ix (mI z12.2 20 (ix z12.1)))) ||| (xshl (1 : Int32) (mI z12.2 21 (ix z12.1))))) 27 (ix (mI (sI z12.2 26 (ix (mI z12.2 20 (ix z12.1))) ((mI z12.2 26 (ix (mI z12.2 20 (ix z12.1)))) ||| (xshl (1 : Int32) (mI z12.2 21 (ix z12.1))))) 20 (ix z12.1)))) + (1 : Int32))) 21 (ix z12.1)) 6 (grd (mI (sI (sI z12.2 26 (ix (mI z12.2 20 (ix z12.1))) ((mI z12.2 26 (ix (mI z12.2 20 (ix z12.1)))) ||| (xshl (1 : Int32) (mI z12.2 21 (ix z12.1))))) 27 (ix (mI (sI z12.2 26 (ix (mI z12.2 20 (ix z12.1))) ((mI z12.2 26 (ix (mI z12.2 20 (ix z12.1)))) ||| (xshl (1 : Int32) (mI z12.2 21 (ix z12.1))))) 20 (ix z12.1))) ((mI (sI z12.2 26 (ix (mI z12.2 20 (ix z12.1))) ((mI z12.2 26 (ix (mI z12.2 20 (ix z12.1)))) ||| (xshl (1 : Int32) (mI z12.2 21 (ix z12.1))))) 27 (ix (mI (sI z12.2 26 (ix (mI z12.2 20 (ix z12.1))) ((mI z12.2 26 (ix (mI z12.2 20 (ix z12.1)))) ||| (xshl (1 : Int32) (mI z12.2 21 (ix z12.1))))) 20 (ix z12.1)))) + (1 : Int32))) 21 (ix z12.1)) 6 (some (.inl (z12.1 + (1 : Int32), (sI (sI (sI z12.2 26 (ix (mI z12.2 20 (ix z12.1))) ((mI z12.2 26 (ix (mI z12.2 20 (ix z12.1)))) ||| (xshl (1 : Int32) (mI z12.2 21 (ix z12.1))))) 27 (ix (mI (sI z12.2 26 (ix (mI z12.2 20 (ix z12.1))) ((mI z12.2 26 (ix (mI z12.2 20 (ix z12.1)))) ||| (xshl (1 : Int32) (mI z12.2 21 (ix z12.1))))) 20 (ix z12.1))) ((mI (sI z12.2 26 (ix (mI z12.2 20 (ix z12.1))) ((mI z12.2 26 (ix (mI z12.2 20 (ix z12.1)))) ||| (xshl (1 : Int32) (mI z12.2 21 (ix z12.1))))) 27 (ix (mI (sI z12.2 26 (ix (mI z12.2 20 (ix z12.1))) ((mI z12.2 26 (ix (mI z12.2 20 (ix z12.1)))) ||| (xshl (1 : Int32) (mI z12.2 21 (ix z12.1))))) 20 (ix z12.1)))) + (1 : Int32))) 28 (ix (mI (sI (sI z12.2 26 (ix (mI z12.2 20 (ix z12.1))) ((mI z12.2 26 (ix (mI z12.2 20 (ix z12.1)))) ||| (xshl (1 : Int32) (mI z12.2 21 (ix z12.1))))) 27 (ix (mI (sI z12.2 26 (ix (mI z12.2 20 (ix z12.1))) ((mI z12.2 26 (ix (mI z12.2 20 (ix z12.1)))) ||| (xshl (1 : Int32) (mI z12.2 21 (ix z12.1))))) 20 (ix z12.1))) ((mI (sI z12.2 26 (ix (mI z12.2 20 (ix z12.1))) ((mI z12.2 26 (ix (mI z12.2 20 (ix z12.1)))) ||| (xshl (1 : Int32) (mI z12.2 21 (ix z12.1))))) 27 (ix (mI (sI z12.2 26 (ix (mI z12.2 20 (ix z12.1))) ((mI z12.2 26 (ix (mI z12.2 20 (ix z12.1)))) ||| (xshl (1 : Int32) (mI z12.2 21 (ix z12.1))))) 20 (ix z12.1)))) + (1 : Int32))) 21 (ix z12.1))) ((mI (sI (sI z12.2 26 (ix (mI z12.2 20 (ix z12.1))) ((mI z12.2 26 (ix (mI z12.2 20 (ix z12.1)))) ||| (xshl (1 : Int32) (mI z12.2 21 (ix z12.1))))) 27 (ix (mI (sI z12.2 26 (ix (mI z12.2 20 (ix z12.1))) ((mI z12.2 26 (ix (mI z12.2 20 (ix z12.1)))) ||| (xshl (1 : Int32) (mI z12.2 21 (ix z12.1))))) 20 (ix z12.1))) ((mI (sI z12.2 26 (ix (mI z12.2 20 (ix z12.1))) ((mI z12.2 26 (ix (mI z12.2 20 (ix z12.1)))) ||| (xshl (1 : Int32) (mI z12.2 21 (ix z12.1))))) 27 (ix (mI (sI z12.2 26 (ix (mI z12.2 20 (ix z12.1))) ((mI z12.2 26 (ix (mI z12.2 20 (ix z12.1)))) ||| (xshl (1 : Int32) (mI z12.2 21 (ix z12.1))))) 20 (ix z12.1)))) + (1 : Int32))) 28 (ix (mI (sI (sI z12.2 26 (ix (mI z12.2 20 (ix z12.1))) ((mI z12.2 26 (ix (mI z12.2 20 (ix z12.1)))) ||| (xshl (1 : Int32) (mI z12.2 21 (ix z12.1))))) 27 (ix (mI (sI z12.2 26 (ix (mI z12.2 20 (ix z12.1))) ((mI z12.2 26 (ix (mI z12.2 20 (ix z12.1)))) ||| (xshl (1 : Int32) (mI z12.2 21 (ix z12.1))))) 20 (ix z12.1))) ((mI (sI z12.2 26 (ix (mI z12.2 20 (ix z12.1))) ((mI z12.2 26 (ix (mI z12.2 20 (ix z12.1)))) ||| (xshl (1 : Int32) (mI z12.2 21 (ix z12.1))))) 27 (ix (mI (sI z12.2 26 (ix (mI z12.2 20 (ix z12.1))) ((mI z12.2 26 (ix (mI z12.2 20 (ix z12.1)))) ||| (xshl (1 : Int32) (mI z12.2 21 (ix z12.1))))) 20 (ix z12.1)))) + (1 : Int32))) 21 (ix z12.1)))) + (1 : Int32))))))))))))))))
noncomputable def m_X0_learn_b130 (z29 : Int32 × Mm) (z36 : Int32 × Mm) : Option ((Int32 × Mm) ⊕ (Mm)) := if (mI z36.2 25 1) ≤ z36.1 then (some (.inr z36.2)) else (grd z36.1 6 (grd z29.1 6 (grd z36.1 6 (some (.inl (z36.1 + (1 : Int32), (sI z36.2 29 (ix z36.1) ((mI z36.2 29 (ix z36.1)) + ((xshr (mI z36.2 17 (ix z29.1)) z36.1) &&& (1 : Int32))))))))))
noncomputable def m_X0_learn_b120 (z29 : Int32 × Mm) : Option ((Int32 × Mm) ⊕ (Mm)) := if (mI z29.2 25 1) ≤ z29.1 then (some (.inr z29.2)) else ((whileF FU (m_X0_learn_b130 z29) ((0 : Int32), z29.2)).bind (fun p37 => some (.inl (z29.1 + (1 : Int32), p37))))
noncomputable def m_X0_learn (mm : Mm) : Option (Mm) := (whileF FU (m_X0_learn_b10) ((0 : Int32), (sI mm 25 1 (mI mm 14 0)))).bind (fun p2 => (whileF FU (m_X0_learn_b52) ((0 : Int32), p2)).bind (fun p13 => (whileF FU (m_X0_learn_b120) ((0 : Int32), p13)).bind (fun p30 => some p30)))
set_option maxHeartbeats 4000000 in
set_option maxRecDepth 100000 in
theorem c_X0_learn {l : Launch} {G : Gt} {S : Sk} {mm : Mm} (hS : Lay S) {q : Mm} (e : m_X0_learn mm = some q) : CallOK l G M_X0_learn yX0_learn 0 [vr (some 25), vr (some 14)] S mm (none) S q := by
  refine call_of_run rfl rfl rfl (Nat.le_of_ble_eq_true rfl) ?_
  show Run l G M_X0_learn 0 0 [some (vr (some 25)), some (vr (some 14)), none, none] [] S mm (none) S q
  unfold m_X0_learn at e
  refine r_aload_n dX0_learn_0 rfl ?_
  refine r_aload_n dX0_learn_1 rfl ?_
  refine r_getI dX0_learn_2 fl_X0_37 rfl (lp_14 hS) (lq_14 hS) ?_
  refine r_putI dX0_learn_5 fl_X0_15 ft_0_1 (Or.inl rfl) rfl rfl rfl (lp_25 hS) (lq_25 hS) ?_
  refine r_iconst (v := 0) dX0_learn_8 ci_0 ?_
  refine r_istore_n dX0_learn_9 (by decide) rfl ?_
  obtain ⟨p2, eb6w, e⟩ := obind e
  have J3a : Run l G M_X0_learn 0 50 [some (vr (some 25)), some (vr (some 14)), none, none] [] S p2 (none) S q := by
    refine r_iconst (v := 0) dX0_learn_50 ci_0 ?_
    refine r_istore_n dX0_learn_51 (by decide) rfl ?_
    obtain ⟨p13, eb17w, e⟩ := obind e
    have J14a : Run l G M_X0_learn 0 118 [some (vr (some 25)), some (vr (some 14)), none, none] [] S p13 (none) S q := by
      refine r_iconst (v := 0) dX0_learn_118 ci_0 ?_
      refine r_istore_n dX0_learn_119 (by decide) rfl ?_
      obtain ⟨p30, eb34w, e⟩ := obind e
      have J31a : Run l G M_X0_learn 0 169 [none, none, none, none] [] S p30 (none) S q := by
        cases e
        exact r_return dX0_learn_169 rfl
      have J31 : ∀ pp : Mm, pp = p30 → Run l G M_X0_learn 0 169 [none, none, none, none] [] S pp (none) S q := by
        intro pp hpp
        rw [hpp]
        exact J31a
      have J31w : Run l G M_X0_learn 0 120 [some (vr (some 25)), some (vr (some 14)), some (vi (0 : Int32)), none] [] S p13 (none) S q := by
        refine while_run (s := ((0 : Int32), p13)) (Gs := fun (z29 : Int32 × Mm) => Run l G M_X0_learn 0 120 [some (vr (some 25)), some (vr (some 14)), some (vi z29.1), none] [] S z29.2 (none) S q) eb34w ?_
        intro z29 x32y eb34 hx33
        unfold m_X0_learn_b120 at eb34
        refine r_iload_n dX0_learn_120 rfl ?_
        refine r_aload_n dX0_learn_121 rfl ?_
        refine r_getI dX0_learn_122 fl_X0_15 rfl (lp_25 hS) (lq_25 hS) ?_
        refine r_icmp_ge (tgt := 169) dX0_learn_125 rfl (fun h35 => ?_) (fun h35 => ?_)
        · replace eb34 := ite_t h35 eb34
          cases eb34
          exact r_weak (L' := [none, none, none, none]) trivial (J31 _ hx33)
        · replace eb34 := ite_f h35 eb34
          refine r_iconst (v := 0) dX0_learn_128 ci_0 ?_
          refine r_istore_n dX0_learn_129 (by decide) rfl ?_
          obtain ⟨p37, eb41w, eb34⟩ := obind eb34
          have J38a : Run l G M_X0_learn 0 163 [some (vr (some 25)), some (vr (some 14)), some (vi z29.1), none] [] S p37 (none) S q := by
            refine r_iinc (v := _ + (1 : Int32)) dX0_learn_163 rfl (congrArg (_ + ·) ci_1) (by decide) rfl ?_
            refine r_goto (tgt := 120) dX0_learn_166 rfl ?_
            cases eb34
            exact r_weak (L' := [some (vr (some 25)), some (vr (some 14)), some (vi (z29.1 + (1 : Int32))), none]) ⟨rfl, rfl, rfl, trivial⟩ hx33
          have J38 : ∀ pp : Mm, pp = p37 → Run l G M_X0_learn 0 163 [some (vr (some 25)), some (vr (some 14)), some (vi z29.1), none] [] S pp (none) S q := by
            intro pp hpp
            rw [hpp]
            exact J38a
          have J38w : Run l G M_X0_learn 0 130 [some (vr (some 25)), some (vr (some 14)), some (vi z29.1), some (vi (0 : Int32))] [] S z29.2 (none) S q := by
            refine while_run (s := ((0 : Int32), z29.2)) (Gs := fun (z36 : Int32 × Mm) => Run l G M_X0_learn 0 130 [some (vr (some 25)), some (vr (some 14)), some (vi z29.1), some (vi z36.1)] [] S z36.2 (none) S q) eb41w ?_
            intro z36 x39y eb41 hx40
            unfold m_X0_learn_b130 at eb41
            refine r_iload_n dX0_learn_130 rfl ?_
            refine r_aload_n dX0_learn_131 rfl ?_
            refine r_getI dX0_learn_132 fl_X0_15 rfl (lp_25 hS) (lq_25 hS) ?_
            refine r_icmp_ge (tgt := 163) dX0_learn_135 rfl (fun h42 => ?_) (fun h42 => ?_)
            · replace eb41 := ite_t h42 eb41
              cases eb41
              exact r_weak (L' := [some (vr (some 25)), some (vr (some 14)), some (vi z29.1), none]) ⟨rfl, rfl, rfl, trivial⟩ (J38 _ hx40)
            · replace eb41 := ite_f h42 eb41
              refine r_aload_n dX0_learn_138 rfl ?_
              refine r_getR dX0_learn_139 fl_X0_28 rfl (lp_25 hS) (lq_25 hS) (lr_25_5 hS) ?_
              refine r_iload_n dX0_learn_142 rfl ?_
              refine r_dup2 dX0_learn_143 rfl rfl ?_
              obtain ⟨hg43, eb41⟩ := grd_some eb41
              refine r_iald dX0_learn_144 (lp_29 hS) (lk_29 hS) hg43 ?_
              refine r_aload_n dX0_learn_145 rfl ?_
              refine r_getR dX0_learn_146 fl_X0_49 rfl (lp_14 hS) (lq_14 hS) (lr_14_4 hS) ?_
              refine r_iload_n dX0_learn_149 rfl ?_
              obtain ⟨hg44, eb41⟩ := grd_some eb41
              refine r_iald dX0_learn_150 (lp_17 hS) (lk_17 hS) hg44 ?_
              refine r_iload_n dX0_learn_151 rfl ?_
              refine r_ishr dX0_learn_152 ?_
              refine r_iconst (v := 1) dX0_learn_153 ci_1 ?_
              refine r_iand dX0_learn_154 ?_
              refine r_iadd dX0_learn_155 ?_
              obtain ⟨hg45, eb41⟩ := grd_some eb41
              refine r_iast dX0_learn_156 (lp_29 hS) (lk_29 hS) hg45 ?_
              refine r_iinc (v := _ + (1 : Int32)) dX0_learn_157 rfl (congrArg (_ + ·) ci_1) (by decide) rfl ?_
              refine r_goto (tgt := 130) dX0_learn_160 rfl ?_
              cases eb41
              exact r_weak (L' := [some (vr (some 25)), some (vr (some 14)), some (vi z29.1), some (vi (z36.1 + (1 : Int32)))]) ⟨rfl, rfl, rfl, rfl, trivial⟩ hx40
          exact r_weak (L' := [some (vr (some 25)), some (vr (some 14)), some (vi z29.1), some (vi (0 : Int32))]) ⟨rfl, rfl, rfl, rfl, trivial⟩ J38w
      exact r_weak (L' := [some (vr (some 25)), some (vr (some 14)), some (vi (0 : Int32)), none]) ⟨rfl, rfl, rfl, trivial⟩ J31w
    have J14 : ∀ pp : Mm, pp = p13 → Run l G M_X0_learn 0 118 [some (vr (some 25)), some (vr (some 14)), none, none] [] S pp (none) S q := by
      intro pp hpp
      rw [hpp]
      exact J14a
    have J14w : Run l G M_X0_learn 0 52 [some (vr (some 25)), some (vr (some 14)), some (vi (0 : Int32)), none] [] S p2 (none) S q := by
      refine while_run (s := ((0 : Int32), p2)) (Gs := fun (z12 : Int32 × Mm) => Run l G M_X0_learn 0 52 [some (vr (some 25)), some (vr (some 14)), some (vi z12.1), none] [] S z12.2 (none) S q) eb17w ?_
      intro z12 x15y eb17 hx16
      unfold m_X0_learn_b52 at eb17
      refine r_iload_n dX0_learn_52 rfl ?_
      refine r_aload_n dX0_learn_53 rfl ?_
      refine r_getI dX0_learn_54 fl_X0_40 rfl (lp_14 hS) (lq_14 hS) ?_
      refine r_icmp_ge (tgt := 118) dX0_learn_57 rfl (fun h18 => ?_) (fun h18 => ?_)
      · replace eb17 := ite_t h18 eb17
        cases eb17
        exact r_weak (L' := [some (vr (some 25)), some (vr (some 14)), none, none]) ⟨rfl, rfl, trivial⟩ (J14 _ hx16)
      · replace eb17 := ite_f h18 eb17
        refine r_aload_n dX0_learn_60 rfl ?_
        refine r_getR dX0_learn_61 fl_X0_18 rfl (lp_25 hS) (lq_25 hS) (lr_25_2 hS) ?_
        refine r_aload_n dX0_learn_64 rfl ?_
        refine r_getR dX0_learn_65 fl_X0_43 rfl (lp_14 hS) (lq_14 hS) (lr_14_7 hS) ?_
        refine r_iload_n dX0_learn_68 rfl ?_
        obtain ⟨hg19, eb17⟩ := grd_some eb17
        refine r_iald dX0_learn_69 (lp_20 hS) (lk_20 hS) hg19 ?_
        refine r_dup2 dX0_learn_70 rfl rfl ?_
        obtain ⟨hg20, eb17⟩ := grd_some eb17
        refine r_iald dX0_learn_71 (lp_26 hS) (lk_26 hS) hg20 ?_
        refine r_iconst (v := 1) dX0_learn_72 ci_1 ?_
        refine r_aload_n dX0_learn_73 rfl ?_
        refine r_getR dX0_learn_74 fl_X0_46 rfl (lp_14 hS) (lq_14 hS) (lr_14_8 hS) ?_
        refine r_iload_n dX0_learn_77 rfl ?_
        obtain ⟨hg21, eb17⟩ := grd_some eb17
        refine r_iald dX0_learn_78 (lp_21 hS) (lk_21 hS) hg21 ?_
        refine r_ishl dX0_learn_79 ?_
        refine r_ior dX0_learn_80 ?_
        obtain ⟨hg22, eb17⟩ := grd_some eb17
        refine r_iast dX0_learn_81 (lp_26 hS) (lk_26 hS) hg22 ?_
        refine r_aload_n dX0_learn_82 rfl ?_
        refine r_getR dX0_learn_83 fl_X0_22 rfl (lp_25 hS) (lq_25 hS) (lr_25_3 hS) ?_
        refine r_aload_n dX0_learn_86 rfl ?_
        refine r_getR dX0_learn_87 fl_X0_43 rfl (lp_14 hS) (lq_14 hS) (lr_14_7 hS) ?_
        refine r_iload_n dX0_learn_90 rfl ?_
        obtain ⟨hg23, eb17⟩ := grd_some eb17
        refine r_iald dX0_learn_91 (lp_20 hS) (lk_20 hS) hg23 ?_
        refine r_dup2 dX0_learn_92 rfl rfl ?_
        obtain ⟨hg24, eb17⟩ := grd_some eb17
        refine r_iald dX0_learn_93 (lp_27 hS) (lk_27 hS) hg24 ?_
        refine r_iconst (v := 1) dX0_learn_94 ci_1 ?_
        refine r_iadd dX0_learn_95 ?_
        obtain ⟨hg25, eb17⟩ := grd_some eb17
        refine r_iast dX0_learn_96 (lp_27 hS) (lk_27 hS) hg25 ?_
        refine r_aload_n dX0_learn_97 rfl ?_
        refine r_getR dX0_learn_98 fl_X0_25 rfl (lp_25 hS) (lq_25 hS) (lr_25_4 hS) ?_
        refine r_aload_n dX0_learn_101 rfl ?_
        refine r_getR dX0_learn_102 fl_X0_46 rfl (lp_14 hS) (lq_14 hS) (lr_14_8 hS) ?_
        refine r_iload_n dX0_learn_105 rfl ?_
        obtain ⟨hg26, eb17⟩ := grd_some eb17
        refine r_iald dX0_learn_106 (lp_21 hS) (lk_21 hS) hg26 ?_
        refine r_dup2 dX0_learn_107 rfl rfl ?_
        obtain ⟨hg27, eb17⟩ := grd_some eb17
        refine r_iald dX0_learn_108 (lp_28 hS) (lk_28 hS) hg27 ?_
        refine r_iconst (v := 1) dX0_learn_109 ci_1 ?_
        refine r_iadd dX0_learn_110 ?_
        obtain ⟨hg28, eb17⟩ := grd_some eb17
        refine r_iast dX0_learn_111 (lp_28 hS) (lk_28 hS) hg28 ?_
        refine r_iinc (v := _ + (1 : Int32)) dX0_learn_112 rfl (congrArg (_ + ·) ci_1) (by decide) rfl ?_
        refine r_goto (tgt := 52) dX0_learn_115 rfl ?_
        cases eb17
        exact r_weak (L' := [some (vr (some 25)), some (vr (some 14)), some (vi (z12.1 + (1 : Int32))), none]) ⟨rfl, rfl, rfl, trivial⟩ hx16
    exact r_weak (L' := [some (vr (some 25)), some (vr (some 14)), some (vi (0 : Int32)), none]) ⟨rfl, rfl, rfl, trivial⟩ J14w
  have J3 : ∀ pp : Mm, pp = p2 → Run l G M_X0_learn 0 50 [some (vr (some 25)), some (vr (some 14)), none, none] [] S pp (none) S q := by
    intro pp hpp
    rw [hpp]
    exact J3a
  have J3w : Run l G M_X0_learn 0 10 [some (vr (some 25)), some (vr (some 14)), some (vi (0 : Int32)), none] [] S (sI mm 25 1 (mI mm 14 0)) (none) S q := by
    refine while_run (s := ((0 : Int32), (sI mm 25 1 (mI mm 14 0)))) (Gs := fun (z1 : Int32 × Mm) => Run l G M_X0_learn 0 10 [some (vr (some 25)), some (vr (some 14)), some (vi z1.1), none] [] S z1.2 (none) S q) eb6w ?_
    intro z1 x4y eb6 hx5
    unfold m_X0_learn_b10 at eb6
    refine r_iload_n dX0_learn_10 rfl ?_
    refine r_bipush (v := 6) dX0_learn_11 cb_6 ?_
    refine r_icmp_ge (tgt := 50) dX0_learn_13 rfl (fun h7 => ?_) (fun h7 => ?_)
    · replace eb6 := ite_t h7 eb6
      cases eb6
      exact r_weak (L' := [some (vr (some 25)), some (vr (some 14)), none, none]) ⟨rfl, rfl, trivial⟩ (J3 _ hx5)
    · replace eb6 := ite_f h7 eb6
      refine r_aload_n dX0_learn_16 rfl ?_
      refine r_getR dX0_learn_17 fl_X0_18 rfl (lp_25 hS) (lq_25 hS) (lr_25_2 hS) ?_
      refine r_iload_n dX0_learn_20 rfl ?_
      refine r_iconst (v := 0) dX0_learn_21 ci_0 ?_
      obtain ⟨hg8, eb6⟩ := grd_some eb6
      refine r_iast dX0_learn_22 (lp_26 hS) (lk_26 hS) hg8 ?_
      refine r_aload_n dX0_learn_23 rfl ?_
      refine r_getR dX0_learn_24 fl_X0_22 rfl (lp_25 hS) (lq_25 hS) (lr_25_3 hS) ?_
      refine r_iload_n dX0_learn_27 rfl ?_
      refine r_iconst (v := 0) dX0_learn_28 ci_0 ?_
      obtain ⟨hg9, eb6⟩ := grd_some eb6
      refine r_iast dX0_learn_29 (lp_27 hS) (lk_27 hS) hg9 ?_
      refine r_aload_n dX0_learn_30 rfl ?_
      refine r_getR dX0_learn_31 fl_X0_25 rfl (lp_25 hS) (lq_25 hS) (lr_25_4 hS) ?_
      refine r_iload_n dX0_learn_34 rfl ?_
      refine r_iconst (v := 0) dX0_learn_35 ci_0 ?_
      obtain ⟨hg10, eb6⟩ := grd_some eb6
      refine r_iast dX0_learn_36 (lp_28 hS) (lk_28 hS) hg10 ?_
      refine r_aload_n dX0_learn_37 rfl ?_
      refine r_getR dX0_learn_38 fl_X0_28 rfl (lp_25 hS) (lq_25 hS) (lr_25_5 hS) ?_
      refine r_iload_n dX0_learn_41 rfl ?_
      refine r_iconst (v := 0) dX0_learn_42 ci_0 ?_
      obtain ⟨hg11, eb6⟩ := grd_some eb6
      refine r_iast dX0_learn_43 (lp_29 hS) (lk_29 hS) hg11 ?_
      refine r_iinc (v := _ + (1 : Int32)) dX0_learn_44 rfl (congrArg (_ + ·) ci_1) (by decide) rfl ?_
      refine r_goto (tgt := 10) dX0_learn_47 rfl ?_
      cases eb6
      exact r_weak (L' := [some (vr (some 25)), some (vr (some 14)), some (vi (z1.1 + (1 : Int32))), none]) ⟨rfl, rfl, rfl, trivial⟩ hx5
  exact r_weak (L' := [some (vr (some 25)), some (vr (some 14)), some (vi (0 : Int32)), none]) ⟨rfl, rfl, rfl, trivial⟩ J3w
noncomputable def m_X0_without_b4 (a1 : Nat) (mm : Mm) (S : Sk) (z1 : Int32 × Int32) : Option ((Int32 × Int32) ⊕ (Int32)) := if (mI mm 25 1) ≤ z1.2 then (some (.inr z1.1)) else (grd z1.2 ((sK S a1).2) (some (.inl ((if (mI mm a1 (ix z1.2)) = 0 then z1.1 ||| (xshl (1 : Int32) z1.2) else z1.1), z1.2 + (1 : Int32)))))
noncomputable def m_X0_without (S : Sk) (a1 : Nat) (mm : Mm) : Option (Int32) := (whileF FU (m_X0_without_b4 a1 mm S) ((0 : Int32), (0 : Int32))).bind (fun p2 => some p2)
set_option maxHeartbeats 4000000 in
set_option maxRecDepth 100000 in
theorem c_X0_without {l : Launch} {G : Gt} {S : Sk} {a1 : Nat} {mm : Mm} (hS : Lay S) (ha1 : KD S a1 20) {q : Int32} (e : m_X0_without S a1 mm = some q) : CallOK l G M_X0_without yX0_without 0 [vr (some 25), vr (some a1)] S mm (some (vi q)) S mm := by
  refine call_of_run rfl rfl rfl (Nat.le_of_ble_eq_true rfl) ?_
  show Run l G M_X0_without 0 0 [some (vr (some 25)), some (vr (some a1)), none, none] [] S mm (some (vi q)) S mm
  unfold m_X0_without at e
  refine r_iconst (v := 0) dX0_without_0 ci_0 ?_
  refine r_istore_n dX0_without_1 (by decide) rfl ?_
  refine r_iconst (v := 0) dX0_without_2 ci_0 ?_
  refine r_istore_n dX0_without_3 (by decide) rfl ?_
  obtain ⟨p2, eb6w, e⟩ := obind e
  have J3a : Run l G M_X0_without 0 30 [none, none, some (vi p2), none] [] S mm (some (vi q)) S mm := by
    refine r_iload_n dX0_without_30 rfl ?_
    cases e
    exact r_ireturn dX0_without_31 rfl rfl
  have J3 : ∀ pp : Int32, pp = p2 → Run l G M_X0_without 0 30 [none, none, some (vi pp), none] [] S mm (some (vi q)) S mm := by
    intro pp hpp
    rw [hpp]
    exact J3a
  have J3w : Run l G M_X0_without 0 4 [some (vr (some 25)), some (vr (some a1)), some (vi (0 : Int32)), some (vi (0 : Int32))] [] S mm (some (vi q)) S mm := by
    refine while_run (s := ((0 : Int32), (0 : Int32))) (Gs := fun (z1 : Int32 × Int32) => Run l G M_X0_without 0 4 [some (vr (some 25)), some (vr (some a1)), some (vi z1.1), some (vi z1.2)] [] S mm (some (vi q)) S mm) eb6w ?_
    intro z1 x4y eb6 hx5
    unfold m_X0_without_b4 at eb6
    refine r_iload_n dX0_without_4 rfl ?_
    refine r_aload_n dX0_without_5 rfl ?_
    refine r_getI dX0_without_6 fl_X0_15 rfl (lp_25 hS) (lq_25 hS) ?_
    refine r_icmp_ge (tgt := 30) dX0_without_9 rfl (fun h7 => ?_) (fun h7 => ?_)
    · replace eb6 := ite_t h7 eb6
      cases eb6
      exact r_weak (L' := [none, none, some (vi z1.1), none]) ⟨rfl, trivial⟩ (J3 _ hx5)
    · replace eb6 := ite_f h7 eb6
      refine r_aload_n dX0_without_12 rfl ?_
      refine r_iload_n dX0_without_13 rfl ?_
      obtain ⟨hg8, eb6⟩ := grd_some eb6
      refine r_iald dX0_without_14 ha1.1 (arr_k ha1) hg8 ?_
      have J11 : ∀ (w10 : Int32), w10 = (if (mI mm a1 (ix z1.2)) = 0 then z1.1 ||| (xshl (1 : Int32) z1.2) else z1.1) → Run l G M_X0_without 0 24 [some (vr (some 25)), some (vr (some a1)), some (vi w10), some (vi z1.2)] [] S mm (some (vi q)) S mm := by
        intro w10 hw12
        subst hw12
        refine r_iinc (v := _ + (1 : Int32)) dX0_without_24 rfl (congrArg (_ + ·) ci_1) (by decide) rfl ?_
        refine r_goto (tgt := 4) dX0_without_27 rfl ?_
        cases eb6
        exact r_weak (L' := [some (vr (some 25)), some (vr (some a1)), some (vi (if (mI mm a1 (ix z1.2)) = 0 then z1.1 ||| (xshl (1 : Int32) z1.2) else z1.1)), some (vi (z1.2 + (1 : Int32)))]) ⟨rfl, rfl, rfl, rfl, trivial⟩ hx5
      refine r_if_ne (tgt := 24) dX0_without_15 rfl (fun h9 => ?_) (fun h9 => ?_)
      · exact r_weak (L' := [some (vr (some 25)), some (vr (some a1)), some (vi z1.1), some (vi z1.2)]) ⟨rfl, rfl, rfl, rfl, trivial⟩ (J11 _ (Eq.symm (if_neg h9)))
      · refine r_iload_n dX0_without_18 rfl ?_
        refine r_iconst (v := 1) dX0_without_19 ci_1 ?_
        refine r_iload_n dX0_without_20 rfl ?_
        refine r_ishl dX0_without_21 ?_
        refine r_ior dX0_without_22 ?_
        refine r_istore_n dX0_without_23 (by decide) rfl ?_
        exact r_weak (L' := [some (vr (some 25)), some (vr (some a1)), some (vi (z1.1 ||| (xshl (1 : Int32) z1.2))), some (vi z1.2)]) ⟨rfl, rfl, rfl, rfl, trivial⟩ (J11 _ (Eq.symm (if_pos h9)))
  exact r_weak (L' := [some (vr (some 25)), some (vr (some a1)), some (vi (0 : Int32)), some (vi (0 : Int32))]) ⟨rfl, rfl, rfl, rfl, trivial⟩ J3w
noncomputable def m_X11_greatest_b7 (a0 : Nat) (a1 : Int32) (mm : Mm) (S : Sk) (z1 : Int32 × Int32 × Int32) : Option ((Int32 × Int32 × Int32) ⊕ (Int32)) := if a1 ≤ z1.2.2 then (some (.inr z1.1)) else (if (Int32.ofNat ((sK S a0).2)) ≤ z1.2.2 then (some (.inr z1.1)) else (grd z1.2.2 ((sK S a0).2) ((if (mI mm a0 (ix z1.2.2)) ≤ z1.2.1 then (some (z1.1, z1.2.1)) else (grd z1.2.2 ((sK S a0).2) (some (z1.2.2, mI mm a0 (ix z1.2.2)))) : Option (Int32 × Int32)).bind (fun p10 => some (.inl (p10.1, p10.2, z1.2.2 + (1 : Int32)))))))
noncomputable def m_X11_greatest (S : Sk) (a0 : Nat) (a1 : Int32) (mm : Mm) : Option (Int32) := (whileF FU (m_X11_greatest_b7 a0 a1 mm S) ((-1 : Int32), (0 : Int32), (0 : Int32))).bind (fun p2 => some p2)
set_option maxHeartbeats 4000000 in
set_option maxRecDepth 100000 in
theorem c_X11_greatest {l : Launch} {G : Gt} {S : Sk} {a0 : Nat} {a1 : Int32} {mm : Mm} (ha0 : KD S a0 20) {q : Int32} (e : m_X11_greatest S a0 a1 mm = some q) : CallOK l G M_X11_greatest yX11_greatest 0 [vr (some a0), vi a1] S mm (some (vi q)) S mm := by
  refine call_of_run rfl rfl rfl (Nat.le_of_ble_eq_true rfl) ?_
  show Run l G M_X11_greatest 0 0 [some (vr (some a0)), some (vi a1), none, none, none] [] S mm (some (vi q)) S mm
  unfold m_X11_greatest at e
  refine r_iconst (v := -1) dX11_greatest_0 ci_m1 ?_
  refine r_istore_n dX11_greatest_1 (by decide) rfl ?_
  refine r_iconst (v := 0) dX11_greatest_2 ci_0 ?_
  refine r_istore_n dX11_greatest_3 (by decide) rfl ?_
  refine r_iconst (v := 0) dX11_greatest_4 ci_0 ?_
  refine r_istore dX11_greatest_5 (by decide) rfl ?_
  obtain ⟨p2, eb6w, e⟩ := obind e
  have J3a : Run l G M_X11_greatest 0 42 [none, none, some (vi p2), none, none] [] S mm (some (vi q)) S mm := by
    refine r_iload_n dX11_greatest_42 rfl ?_
    cases e
    exact r_ireturn dX11_greatest_43 rfl rfl
  have J3 : ∀ pp : Int32, pp = p2 → Run l G M_X11_greatest 0 42 [none, none, some (vi pp), none, none] [] S mm (some (vi q)) S mm := by
    intro pp hpp
    rw [hpp]
    exact J3a
  have J3w : Run l G M_X11_greatest 0 7 [some (vr (some a0)), some (vi a1), some (vi (-1 : Int32)), some (vi (0 : Int32)), some (vi (0 : Int32))] [] S mm (some (vi q)) S mm := by
    refine while_run (s := ((-1 : Int32), (0 : Int32), (0 : Int32))) (Gs := fun (z1 : Int32 × Int32 × Int32) => Run l G M_X11_greatest 0 7 [some (vr (some a0)), some (vi a1), some (vi z1.1), some (vi z1.2.1), some (vi z1.2.2)] [] S mm (some (vi q)) S mm) eb6w ?_
    intro z1 x4y eb6 hx5
    unfold m_X11_greatest_b7 at eb6
    refine r_iload dX11_greatest_7 rfl ?_
    refine r_iload_n dX11_greatest_9 rfl ?_
    refine r_icmp_ge (tgt := 42) dX11_greatest_10 rfl (fun h7 => ?_) (fun h7 => ?_)
    · replace eb6 := ite_t h7 eb6
      cases eb6
      exact r_weak (L' := [none, none, some (vi z1.1), none, none]) ⟨rfl, trivial⟩ (J3 _ hx5)
    · replace eb6 := ite_f h7 eb6
      refine r_iload dX11_greatest_13 rfl ?_
      refine r_aload_n dX11_greatest_15 rfl ?_
      refine r_alen dX11_greatest_16 ha0.1 (arr_k ha0) (by decide) (by decide) rfl ?_
      refine r_icmp_ge (tgt := 42) dX11_greatest_17 rfl (fun h8 => ?_) (fun h8 => ?_)
      · replace eb6 := ite_t h8 eb6
        cases eb6
        exact r_weak (L' := [none, none, some (vi z1.1), none, none]) ⟨rfl, trivial⟩ (J3 _ hx5)
      · replace eb6 := ite_f h8 eb6
        refine r_aload_n dX11_greatest_20 rfl ?_
        refine r_iload dX11_greatest_21 rfl ?_
        obtain ⟨hg9, eb6⟩ := grd_some eb6
        refine r_iald dX11_greatest_23 ha0.1 (arr_k ha0) hg9 ?_
        refine r_iload_n dX11_greatest_24 rfl ?_
        obtain ⟨p10, ep12, eb6⟩ := obind eb6
        have J11a : Run l G M_X11_greatest 0 36 [some (vr (some a0)), some (vi a1), some (vi p10.1), some (vi p10.2), some (vi z1.2.2)] [] S mm (some (vi q)) S mm := by
          refine r_iinc (v := _ + (1 : Int32)) dX11_greatest_36 rfl (congrArg (_ + ·) ci_1) (by decide) rfl ?_
          refine r_goto (tgt := 7) dX11_greatest_39 rfl ?_
          cases eb6
          exact r_weak (L' := [some (vr (some a0)), some (vi a1), some (vi p10.1), some (vi p10.2), some (vi (z1.2.2 + (1 : Int32)))]) ⟨rfl, rfl, rfl, rfl, rfl, trivial⟩ hx5
        have J11 : ∀ pp : Int32 × Int32, pp = p10 → Run l G M_X11_greatest 0 36 [some (vr (some a0)), some (vi a1), some (vi pp.1), some (vi pp.2), some (vi z1.2.2)] [] S mm (some (vi q)) S mm := by
          intro pp hpp
          rw [hpp]
          exact J11a
        refine r_icmp_le (tgt := 36) dX11_greatest_25 rfl (fun h14 => ?_) (fun h14 => ?_)
        · replace ep12 := ite_t h14 ep12
          exact r_weak (L' := [some (vr (some a0)), some (vi a1), some (vi z1.1), some (vi z1.2.1), some (vi z1.2.2)]) ⟨rfl, rfl, rfl, rfl, rfl, trivial⟩ (J11 _ (Option.some.inj ep12))
        · replace ep12 := ite_f h14 ep12
          refine r_aload_n dX11_greatest_28 rfl ?_
          refine r_iload dX11_greatest_29 rfl ?_
          obtain ⟨hg15, ep12⟩ := grd_some ep12
          refine r_iald dX11_greatest_31 ha0.1 (arr_k ha0) hg15 ?_
          refine r_istore_n dX11_greatest_32 (by decide) rfl ?_
          refine r_iload dX11_greatest_33 rfl ?_
          refine r_istore_n dX11_greatest_35 (by decide) rfl ?_
          exact r_weak (L' := [some (vr (some a0)), some (vi a1), some (vi z1.2.2), some (vi (mI mm a0 (ix z1.2.2))), some (vi z1.2.2)]) ⟨rfl, rfl, rfl, rfl, rfl, trivial⟩ (J11 _ (Option.some.inj ep12))
  exact r_weak (L' := [some (vr (some a0)), some (vi a1), some (vi (-1 : Int32)), some (vi (0 : Int32)), some (vi (0 : Int32))]) ⟨rfl, rfl, rfl, rfl, rfl, trivial⟩ J3w
noncomputable def m_X11_has (a0 : Int32) (a1 : Int32) : Int32 := if ((xshr a0 a1) &&& (1 : Int32)) = 0 then ((0 : Int32)) else ((1 : Int32))
set_option maxHeartbeats 4000000 in
set_option maxRecDepth 100000 in
theorem c_X11_has {l : Launch} {G : Gt} {S : Sk} {a0 : Int32} {a1 : Int32} {mm : Mm} : CallOK l G M_X11_has yX11_has 0 [vi a0, vi a1] S mm (some (vi (m_X11_has a0 a1))) S mm := by
  refine call_of_run rfl rfl rfl (Nat.le_of_ble_eq_true rfl) ?_
  show Run l G M_X11_has 0 0 [some (vi a0), some (vi a1)] [] S mm (some (vi (m_X11_has a0 a1))) S mm
  generalize e : m_X11_has a0 a1 = q
  unfold m_X11_has at e
  refine r_iload_n dX11_has_0 rfl ?_
  refine r_iload_n dX11_has_1 rfl ?_
  refine r_ishr dX11_has_2 ?_
  refine r_iconst (v := 1) dX11_has_3 ci_1 ?_
  refine r_iand dX11_has_4 ?_
  refine r_if_eq (tgt := 12) dX11_has_5 rfl (fun h1 => ?_) (fun h1 => ?_)
  · replace e := ite_t h1 e
    refine r_iconst (v := 0) dX11_has_12 ci_0 ?_
    cases e
    exact r_ireturn dX11_has_13 rfl (nz_b (by first | exact Or.inl rfl | exact Or.inr rfl)).1
  · replace e := ite_f h1 e
    refine r_iconst (v := 1) dX11_has_8 ci_1 ?_
    refine r_goto (tgt := 13) dX11_has_9 rfl ?_
    cases e
    exact r_ireturn dX11_has_13 rfl (nz_b (by first | exact Or.inl rfl | exact Or.inr rfl)).1
noncomputable def m_X0_mutual_b16 (mm : Mm) (z1 : Int32 × Int32) (z8 : Int32 × Int32) : Option ((Int32 × Int32) ⊕ (Int32)) := if (mI mm 25 1) ≤ z8.2 then (some (.inr z8.1)) else (grd z1.2 6 ((if (m_X11_has (mI mm 26 (ix z1.2)) z8.2) = 0 then (some z8.1) else (grd z8.2 6 (if (m_X11_has (mI mm 26 (ix z8.2)) z1.2) = 0 then (some z8.1) else (some (z8.1 + (1 : Int32))))) : Option (Int32)).bind (fun p16 => some (.inl (p16, z8.2 + (1 : Int32))))))
noncomputable def m_X0_mutual_b4 (mm : Mm) (z1 : Int32 × Int32) : Option ((Int32 × Int32) ⊕ (Int32)) := if (mI mm 25 1) ≤ z1.2 then (some (.inr z1.1)) else ((whileF FU (m_X0_mutual_b16 mm z1) (z1.1, z1.2 + (1 : Int32))).bind (fun p9 => some (.inl (p9, z1.2 + (1 : Int32)))))
noncomputable def m_X0_mutual (mm : Mm) : Option (Int32) := (whileF FU (m_X0_mutual_b4 mm) ((0 : Int32), (0 : Int32))).bind (fun p2 => some p2)
set_option maxHeartbeats 4000000 in
set_option maxRecDepth 100000 in
theorem c_X0_mutual {l : Launch} {G : Gt} {S : Sk} {mm : Mm} (hS : Lay S) {q : Int32} (e : m_X0_mutual mm = some q) : CallOK l G M_X0_mutual yX0_mutual 1 [vr (some 25)] S mm (some (vi q)) S mm := by
  refine call_of_run rfl rfl rfl (Nat.le_of_ble_eq_true rfl) ?_
  show Run l G M_X0_mutual 1 0 [some (vr (some 25)), none, none, none] [] S mm (some (vi q)) S mm
  unfold m_X0_mutual at e
  refine r_iconst (v := 0) dX0_mutual_0 ci_0 ?_
  refine r_istore_n dX0_mutual_1 (by decide) rfl ?_
  refine r_iconst (v := 0) dX0_mutual_2 ci_0 ?_
  refine r_istore_n dX0_mutual_3 (by decide) rfl ?_
  obtain ⟨p2, eb6w, e⟩ := obind e
  have J3a : Run l G M_X0_mutual 1 65 [none, some (vi p2), none, none] [] S mm (some (vi q)) S mm := by
    refine r_iload_n dX0_mutual_65 rfl ?_
    cases e
    exact r_ireturn dX0_mutual_66 rfl rfl
  have J3 : ∀ pp : Int32, pp = p2 → Run l G M_X0_mutual 1 65 [none, some (vi pp), none, none] [] S mm (some (vi q)) S mm := by
    intro pp hpp
    rw [hpp]
    exact J3a
  have J3w : Run l G M_X0_mutual 1 4 [some (vr (some 25)), some (vi (0 : Int32)), some (vi (0 : Int32)), none] [] S mm (some (vi q)) S mm := by
    refine while_run (s := ((0 : Int32), (0 : Int32))) (Gs := fun (z1 : Int32 × Int32) => Run l G M_X0_mutual 1 4 [some (vr (some 25)), some (vi z1.1), some (vi z1.2), none] [] S mm (some (vi q)) S mm) eb6w ?_
    intro z1 x4y eb6 hx5
    unfold m_X0_mutual_b4 at eb6
    refine r_iload_n dX0_mutual_4 rfl ?_
    refine r_aload_n dX0_mutual_5 rfl ?_
    refine r_getI dX0_mutual_6 fl_X0_15 rfl (lp_25 hS) (lq_25 hS) ?_
    refine r_icmp_ge (tgt := 65) dX0_mutual_9 rfl (fun h7 => ?_) (fun h7 => ?_)
    · replace eb6 := ite_t h7 eb6
      cases eb6
      exact r_weak (L' := [none, some (vi z1.1), none, none]) ⟨rfl, trivial⟩ (J3 _ hx5)
    · replace eb6 := ite_f h7 eb6
      refine r_iload_n dX0_mutual_12 rfl ?_
      refine r_iconst (v := 1) dX0_mutual_13 ci_1 ?_
      refine r_iadd dX0_mutual_14 ?_
      refine r_istore_n dX0_mutual_15 (by decide) rfl ?_
      obtain ⟨p9, eb13w, eb6⟩ := obind eb6
      have J10a : Run l G M_X0_mutual 1 59 [some (vr (some 25)), some (vi p9), some (vi z1.2), none] [] S mm (some (vi q)) S mm := by
        refine r_iinc (v := _ + (1 : Int32)) dX0_mutual_59 rfl (congrArg (_ + ·) ci_1) (by decide) rfl ?_
        refine r_goto (tgt := 4) dX0_mutual_62 rfl ?_
        cases eb6
        exact r_weak (L' := [some (vr (some 25)), some (vi p9), some (vi (z1.2 + (1 : Int32))), none]) ⟨rfl, rfl, rfl, trivial⟩ hx5
      have J10 : ∀ pp : Int32, pp = p9 → Run l G M_X0_mutual 1 59 [some (vr (some 25)), some (vi pp), some (vi z1.2), none] [] S mm (some (vi q)) S mm := by
        intro pp hpp
        rw [hpp]
        exact J10a
      have J10w : Run l G M_X0_mutual 1 16 [some (vr (some 25)), some (vi z1.1), some (vi z1.2), some (vi (z1.2 + (1 : Int32)))] [] S mm (some (vi q)) S mm := by
        refine while_run (s := (z1.1, z1.2 + (1 : Int32))) (Gs := fun (z8 : Int32 × Int32) => Run l G M_X0_mutual 1 16 [some (vr (some 25)), some (vi z8.1), some (vi z1.2), some (vi z8.2)] [] S mm (some (vi q)) S mm) eb13w ?_
        intro z8 x11y eb13 hx12
        unfold m_X0_mutual_b16 at eb13
        refine r_iload_n dX0_mutual_16 rfl ?_
        refine r_aload_n dX0_mutual_17 rfl ?_
        refine r_getI dX0_mutual_18 fl_X0_15 rfl (lp_25 hS) (lq_25 hS) ?_
        refine r_icmp_ge (tgt := 59) dX0_mutual_21 rfl (fun h14 => ?_) (fun h14 => ?_)
        · replace eb13 := ite_t h14 eb13
          cases eb13
          exact r_weak (L' := [some (vr (some 25)), some (vi z8.1), some (vi z1.2), none]) ⟨rfl, rfl, rfl, trivial⟩ (J10 _ hx12)
        · replace eb13 := ite_f h14 eb13
          refine r_aload_n dX0_mutual_24 rfl ?_
          refine r_getR dX0_mutual_25 fl_X0_18 rfl (lp_25 hS) (lq_25 hS) (lr_25_2 hS) ?_
          refine r_iload_n dX0_mutual_28 rfl ?_
          obtain ⟨hg15, eb13⟩ := grd_some eb13
          refine r_iald dX0_mutual_29 (lp_26 hS) (lk_26 hS) hg15 ?_
          refine r_iload_n dX0_mutual_30 rfl ?_
          refine r_callSN (as := [_, _]) (rest := []) dX0_mutual_31 nl_X0_64 yS_X11_has (c_X11_has) (by decide) rfl (Nat.le_of_ble_eq_true rfl) ?_
          obtain ⟨p16, ep18, eb13⟩ := obind eb13
          have J17a : Run l G M_X0_mutual 1 53 [some (vr (some 25)), some (vi p16), some (vi z1.2), some (vi z8.2)] [] S mm (some (vi q)) S mm := by
            refine r_iinc (v := _ + (1 : Int32)) dX0_mutual_53 rfl (congrArg (_ + ·) ci_1) (by decide) rfl ?_
            refine r_goto (tgt := 16) dX0_mutual_56 rfl ?_
            cases eb13
            exact r_weak (L' := [some (vr (some 25)), some (vi p16), some (vi z1.2), some (vi (z8.2 + (1 : Int32)))]) ⟨rfl, rfl, rfl, rfl, trivial⟩ hx12
          have J17 : ∀ pp : Int32, pp = p16 → Run l G M_X0_mutual 1 53 [some (vr (some 25)), some (vi pp), some (vi z1.2), some (vi z8.2)] [] S mm (some (vi q)) S mm := by
            intro pp hpp
            rw [hpp]
            exact J17a
          refine r_if_eq (tgt := 53) dX0_mutual_34 rfl (fun h20 => ?_) (fun h20 => ?_)
          · replace ep18 := ite_t h20 ep18
            exact r_weak (L' := [some (vr (some 25)), some (vi z8.1), some (vi z1.2), some (vi z8.2)]) ⟨rfl, rfl, rfl, rfl, trivial⟩ (J17 _ (Option.some.inj ep18))
          · replace ep18 := ite_f h20 ep18
            refine r_aload_n dX0_mutual_37 rfl ?_
            refine r_getR dX0_mutual_38 fl_X0_18 rfl (lp_25 hS) (lq_25 hS) (lr_25_2 hS) ?_
            refine r_iload_n dX0_mutual_41 rfl ?_
            obtain ⟨hg21, ep18⟩ := grd_some ep18
            refine r_iald dX0_mutual_42 (lp_26 hS) (lk_26 hS) hg21 ?_
            refine r_iload_n dX0_mutual_43 rfl ?_
            refine r_callSN (as := [_, _]) (rest := []) dX0_mutual_44 nl_X0_64 yS_X11_has (c_X11_has) (by decide) rfl (Nat.le_of_ble_eq_true rfl) ?_
            refine r_if_eq (tgt := 53) dX0_mutual_47 rfl (fun h22 => ?_) (fun h22 => ?_)
            · replace ep18 := ite_t h22 ep18
              exact r_weak (L' := [some (vr (some 25)), some (vi z8.1), some (vi z1.2), some (vi z8.2)]) ⟨rfl, rfl, rfl, rfl, trivial⟩ (J17 _ (Option.some.inj ep18))
            · replace ep18 := ite_f h22 ep18
              refine r_iinc (v := _ + (1 : Int32)) dX0_mutual_50 rfl (congrArg (_ + ·) ci_1) (by decide) rfl ?_
              exact r_weak (L' := [some (vr (some 25)), some (vi (z8.1 + (1 : Int32))), some (vi z1.2), some (vi z8.2)]) ⟨rfl, rfl, rfl, rfl, trivial⟩ (J17 _ (Option.some.inj ep18))
      exact r_weak (L' := [some (vr (some 25)), some (vi z1.1), some (vi z1.2), some (vi (z1.2 + (1 : Int32)))]) ⟨rfl, rfl, rfl, rfl, trivial⟩ J10w
  exact r_weak (L' := [some (vr (some 25)), some (vi (0 : Int32)), some (vi (0 : Int32)), none]) ⟨rfl, rfl, rfl, trivial⟩ J3w
noncomputable def m_X0_tell (S : Sk) (a1 : Int32) (mm : Mm) : Option (Int32) := if a1 = (0 : Int32) then ((m_X0_without S 28 mm).bind (fun q2 => some q2)) else (if a1 = (1 : Int32) then ((m_X0_without S 27 mm).bind (fun q5 => some q5)) else (if a1 = (2 : Int32) then ((m_X11_greatest S 27 (mI mm 25 1) mm).bind (fun q8 => some q8)) else (if a1 = (3 : Int32) then ((m_X11_greatest S 28 (mI mm 25 1) mm).bind (fun q11 => some q11)) else (if a1 = (4 : Int32) then ((m_X0_mutual mm).bind (fun q14 => some q14)) else (if a1 = (5 : Int32) then ((m_X11_greatest S 29 (mI mm 25 1) mm).bind (fun q17 => some q17)) else (some (-2 : Int32)))))))
set_option maxHeartbeats 4000000 in
set_option maxRecDepth 100000 in
theorem c_X0_tell {l : Launch} {G : Gt} {S : Sk} {a1 : Int32} {mm : Mm} (hS : Lay S) {q : Int32} (e : m_X0_tell S a1 mm = some q) : CallOK l G M_X0_tell yX0_tell 2 [vr (some 25), vi a1] S mm (some (vi q)) S mm := by
  refine call_of_run rfl rfl rfl (Nat.le_of_ble_eq_true rfl) ?_
  show Run l G M_X0_tell 2 0 [some (vr (some 25)), some (vi a1)] [] S mm (some (vi q)) S mm
  unfold m_X0_tell at e
  refine r_iload_n dX0_tell_0 rfl ?_
  by_cases h1 : a1 = (0 : Int32)
  · replace e := ite_t h1 e
    refine r_table_in (tgt := 40) dX0_tell_1 (by rw [h1]; decide) (by rw [h1]; decide) (by rw [h1]; rfl) rfl ?_
    refine r_aload_n dX0_tell_40 rfl ?_
    refine r_aload_n dX0_tell_41 rfl ?_
    refine r_getR dX0_tell_42 fl_X0_25 rfl (lp_25 hS) (lq_25 hS) (lr_25_4 hS) ?_
    obtain ⟨q2, eq3, e⟩ := obind e
    refine r_callV (as := [_]) (rest := []) dX0_tell_45 ml_X0_52 yV_X0_without (c_X0_without hS ⟨lp_28 hS, lq_28 hS⟩ eq3) (by decide) rfl (lp_25 hS) (lq_25 hS) (Nat.le_of_ble_eq_true rfl) ?_
    cases e
    exact r_ireturn dX0_tell_48 rfl rfl
  replace e := ite_f h1 e
  by_cases h4 : a1 = (1 : Int32)
  · replace e := ite_t h4 e
    refine r_table_in (tgt := 49) dX0_tell_1 (by rw [h4]; decide) (by rw [h4]; decide) (by rw [h4]; rfl) rfl ?_
    refine r_aload_n dX0_tell_49 rfl ?_
    refine r_aload_n dX0_tell_50 rfl ?_
    refine r_getR dX0_tell_51 fl_X0_22 rfl (lp_25 hS) (lq_25 hS) (lr_25_3 hS) ?_
    obtain ⟨q5, eq6, e⟩ := obind e
    refine r_callV (as := [_]) (rest := []) dX0_tell_54 ml_X0_52 yV_X0_without (c_X0_without hS ⟨lp_27 hS, lq_27 hS⟩ eq6) (by decide) rfl (lp_25 hS) (lq_25 hS) (Nat.le_of_ble_eq_true rfl) ?_
    cases e
    exact r_ireturn dX0_tell_57 rfl rfl
  replace e := ite_f h4 e
  by_cases h7 : a1 = (2 : Int32)
  · replace e := ite_t h7 e
    refine r_table_in (tgt := 58) dX0_tell_1 (by rw [h7]; decide) (by rw [h7]; decide) (by rw [h7]; rfl) rfl ?_
    refine r_aload_n dX0_tell_58 rfl ?_
    refine r_getR dX0_tell_59 fl_X0_22 rfl (lp_25 hS) (lq_25 hS) (lr_25_3 hS) ?_
    refine r_aload_n dX0_tell_62 rfl ?_
    refine r_getI dX0_tell_63 fl_X0_15 rfl (lp_25 hS) (lq_25 hS) ?_
    obtain ⟨q8, eq9, e⟩ := obind e
    refine r_callSN (as := [_, _]) (rest := []) dX0_tell_66 nl_X0_56 yS_X11_greatest (c_X11_greatest ⟨lp_27 hS, lq_27 hS⟩ eq9) (by decide) rfl (Nat.le_of_ble_eq_true rfl) ?_
    cases e
    exact r_ireturn dX0_tell_69 rfl rfl
  replace e := ite_f h7 e
  by_cases h10 : a1 = (3 : Int32)
  · replace e := ite_t h10 e
    refine r_table_in (tgt := 70) dX0_tell_1 (by rw [h10]; decide) (by rw [h10]; decide) (by rw [h10]; rfl) rfl ?_
    refine r_aload_n dX0_tell_70 rfl ?_
    refine r_getR dX0_tell_71 fl_X0_25 rfl (lp_25 hS) (lq_25 hS) (lr_25_4 hS) ?_
    refine r_aload_n dX0_tell_74 rfl ?_
    refine r_getI dX0_tell_75 fl_X0_15 rfl (lp_25 hS) (lq_25 hS) ?_
    obtain ⟨q11, eq12, e⟩ := obind e
    refine r_callSN (as := [_, _]) (rest := []) dX0_tell_78 nl_X0_56 yS_X11_greatest (c_X11_greatest ⟨lp_28 hS, lq_28 hS⟩ eq12) (by decide) rfl (Nat.le_of_ble_eq_true rfl) ?_
    cases e
    exact r_ireturn dX0_tell_81 rfl rfl
  replace e := ite_f h10 e
  by_cases h13 : a1 = (4 : Int32)
  · replace e := ite_t h13 e
    refine r_table_in (tgt := 82) dX0_tell_1 (by rw [h13]; decide) (by rw [h13]; decide) (by rw [h13]; rfl) rfl ?_
    refine r_aload_n dX0_tell_82 rfl ?_
    obtain ⟨q14, eq15, e⟩ := obind e
    refine r_callV (as := []) (rest := []) dX0_tell_83 ml_X0_60 yV_X0_mutual (c_X0_mutual hS eq15) (by decide) rfl (lp_25 hS) (lq_25 hS) (Nat.le_of_ble_eq_true rfl) ?_
    cases e
    exact r_ireturn dX0_tell_86 rfl rfl
  replace e := ite_f h13 e
  by_cases h16 : a1 = (5 : Int32)
  · replace e := ite_t h16 e
    refine r_table_in (tgt := 87) dX0_tell_1 (by rw [h16]; decide) (by rw [h16]; decide) (by rw [h16]; rfl) rfl ?_
    refine r_aload_n dX0_tell_87 rfl ?_
    refine r_getR dX0_tell_88 fl_X0_28 rfl (lp_25 hS) (lq_25 hS) (lr_25_5 hS) ?_
    refine r_aload_n dX0_tell_91 rfl ?_
    refine r_getI dX0_tell_92 fl_X0_15 rfl (lp_25 hS) (lq_25 hS) ?_
    obtain ⟨q17, eq18, e⟩ := obind e
    refine r_callSN (as := [_, _]) (rest := []) dX0_tell_95 nl_X0_56 yS_X11_greatest (c_X11_greatest ⟨lp_29 hS, lq_29 hS⟩ eq18) (by decide) rfl (Nat.le_of_ble_eq_true rfl) ?_
    cases e
    exact r_ireturn dX0_tell_98 rfl rfl
  replace e := ite_f h16 e
  have ho1 : (a1).toInt < 0 ∨ 5 < (a1).toInt := by
    have nh1 := lv_neT (a := 0) h1 (by decide)
    have nh4 := lv_neT (a := 1) h4 (by decide)
    have nh7 := lv_neT (a := 2) h7 (by decide)
    have nh10 := lv_neT (a := 3) h10 (by decide)
    have nh13 := lv_neT (a := 4) h13 (by decide)
    have nh16 := lv_neT (a := 5) h16 (by decide)
    omega
  refine r_table_out (tgt := 99) dX0_tell_1 ho1 rfl ?_
  refine r_bipush (v := -2) dX0_tell_99 cb_m2 ?_
  cases e
  exact r_ireturn dX0_tell_101 rfl rfl
noncomputable def m_X0_nextOf_b4 (a1 : Int32) (mm : Mm) (z1 : Int32 × Int32) : Option ((Int32 × Int32) ⊕ (Int32)) := if (mI mm 25 1) ≤ z1.2 then (some (.inr z1.1)) else ((if (m_X11_has a1 z1.2) = 0 then (some z1.1) else (grd z1.2 6 (some (z1.1 ||| (mI mm 26 (ix z1.2))))) : Option (Int32)).bind (fun p8 => some (.inl (p8, z1.2 + (1 : Int32)))))
noncomputable def m_X0_nextOf (a1 : Int32) (mm : Mm) : Option (Int32) := (whileF FU (m_X0_nextOf_b4 a1 mm) ((0 : Int32), (0 : Int32))).bind (fun p2 => some p2)
set_option maxHeartbeats 4000000 in
set_option maxRecDepth 100000 in
theorem c_X0_nextOf {l : Launch} {G : Gt} {S : Sk} {a1 : Int32} {mm : Mm} (hS : Lay S) {q : Int32} (e : m_X0_nextOf a1 mm = some q) : CallOK l G M_X0_nextOf yX0_nextOf 1 [vr (some 25), vi a1] S mm (some (vi q)) S mm := by
  refine call_of_run rfl rfl rfl (Nat.le_of_ble_eq_true rfl) ?_
  show Run l G M_X0_nextOf 1 0 [some (vr (some 25)), some (vi a1), none, none] [] S mm (some (vi q)) S mm
  unfold m_X0_nextOf at e
  refine r_iconst (v := 0) dX0_nextOf_0 ci_0 ?_
  refine r_istore_n dX0_nextOf_1 (by decide) rfl ?_
  refine r_iconst (v := 0) dX0_nextOf_2 ci_0 ?_
  refine r_istore_n dX0_nextOf_3 (by decide) rfl ?_
  obtain ⟨p2, eb6w, e⟩ := obind e
  have J3a : Run l G M_X0_nextOf 1 35 [none, none, some (vi p2), none] [] S mm (some (vi q)) S mm := by
    refine r_iload_n dX0_nextOf_35 rfl ?_
    cases e
    exact r_ireturn dX0_nextOf_36 rfl rfl
  have J3 : ∀ pp : Int32, pp = p2 → Run l G M_X0_nextOf 1 35 [none, none, some (vi pp), none] [] S mm (some (vi q)) S mm := by
    intro pp hpp
    rw [hpp]
    exact J3a
  have J3w : Run l G M_X0_nextOf 1 4 [some (vr (some 25)), some (vi a1), some (vi (0 : Int32)), some (vi (0 : Int32))] [] S mm (some (vi q)) S mm := by
    refine while_run (s := ((0 : Int32), (0 : Int32))) (Gs := fun (z1 : Int32 × Int32) => Run l G M_X0_nextOf 1 4 [some (vr (some 25)), some (vi a1), some (vi z1.1), some (vi z1.2)] [] S mm (some (vi q)) S mm) eb6w ?_
    intro z1 x4y eb6 hx5
    unfold m_X0_nextOf_b4 at eb6
    refine r_iload_n dX0_nextOf_4 rfl ?_
    refine r_aload_n dX0_nextOf_5 rfl ?_
    refine r_getI dX0_nextOf_6 fl_X0_15 rfl (lp_25 hS) (lq_25 hS) ?_
    refine r_icmp_ge (tgt := 35) dX0_nextOf_9 rfl (fun h7 => ?_) (fun h7 => ?_)
    · replace eb6 := ite_t h7 eb6
      cases eb6
      exact r_weak (L' := [none, none, some (vi z1.1), none]) ⟨rfl, trivial⟩ (J3 _ hx5)
    · replace eb6 := ite_f h7 eb6
      refine r_iload_n dX0_nextOf_12 rfl ?_
      refine r_iload_n dX0_nextOf_13 rfl ?_
      refine r_callSN (as := [_, _]) (rest := []) dX0_nextOf_14 nl_X0_64 yS_X11_has (c_X11_has) (by decide) rfl (Nat.le_of_ble_eq_true rfl) ?_
      obtain ⟨p8, ep10, eb6⟩ := obind eb6
      have J9a : Run l G M_X0_nextOf 1 29 [some (vr (some 25)), some (vi a1), some (vi p8), some (vi z1.2)] [] S mm (some (vi q)) S mm := by
        refine r_iinc (v := _ + (1 : Int32)) dX0_nextOf_29 rfl (congrArg (_ + ·) ci_1) (by decide) rfl ?_
        refine r_goto (tgt := 4) dX0_nextOf_32 rfl ?_
        cases eb6
        exact r_weak (L' := [some (vr (some 25)), some (vi a1), some (vi p8), some (vi (z1.2 + (1 : Int32)))]) ⟨rfl, rfl, rfl, rfl, trivial⟩ hx5
      have J9 : ∀ pp : Int32, pp = p8 → Run l G M_X0_nextOf 1 29 [some (vr (some 25)), some (vi a1), some (vi pp), some (vi z1.2)] [] S mm (some (vi q)) S mm := by
        intro pp hpp
        rw [hpp]
        exact J9a
      refine r_if_eq (tgt := 29) dX0_nextOf_17 rfl (fun h12 => ?_) (fun h12 => ?_)
      · replace ep10 := ite_t h12 ep10
        exact r_weak (L' := [some (vr (some 25)), some (vi a1), some (vi z1.1), some (vi z1.2)]) ⟨rfl, rfl, rfl, rfl, trivial⟩ (J9 _ (Option.some.inj ep10))
      · replace ep10 := ite_f h12 ep10
        refine r_iload_n dX0_nextOf_20 rfl ?_
        refine r_aload_n dX0_nextOf_21 rfl ?_
        refine r_getR dX0_nextOf_22 fl_X0_18 rfl (lp_25 hS) (lq_25 hS) (lr_25_2 hS) ?_
        refine r_iload_n dX0_nextOf_25 rfl ?_
        obtain ⟨hg13, ep10⟩ := grd_some ep10
        refine r_iald dX0_nextOf_26 (lp_26 hS) (lk_26 hS) hg13 ?_
        refine r_ior dX0_nextOf_27 ?_
        refine r_istore_n dX0_nextOf_28 (by decide) rfl ?_
        exact r_weak (L' := [some (vr (some 25)), some (vi a1), some (vi (z1.1 ||| (mI mm 26 (ix z1.2)))), some (vi z1.2)]) ⟨rfl, rfl, rfl, rfl, trivial⟩ (J9 _ (Option.some.inj ep10))
  exact r_weak (L' := [some (vr (some 25)), some (vi a1), some (vi (0 : Int32)), some (vi (0 : Int32))]) ⟨rfl, rfl, rfl, rfl, trivial⟩ J3w
noncomputable def m_X0_ringOf_b9 (a1 : Int32) (mm : Mm) (z2 : Int32 × Int32) : Option ((Int32 × Int32) ⊕ ((Unit) ⊕ (Int32))) := if (mI mm 25 1) < z2.2 then (some (.inr (.inl ()))) else (if (m_X11_has z2.1 a1) = 0 then ((m_X0_nextOf z2.1 mm).bind (fun q10 => some (.inl (q10, z2.2 + (1 : Int32))))) else (some (.inr (.inr z2.2))))
noncomputable def m_X0_ringOf (a1 : Int32) (mm : Mm) : Option (Int32) := grd a1 6 (bS (whileF FU (m_X0_ringOf_b9 a1 mm) (mI mm 26 (ix a1), (1 : Int32))) (fun p3 => some (0 : Int32)))
set_option maxHeartbeats 4000000 in
set_option maxRecDepth 100000 in
theorem c_X0_ringOf {l : Launch} {G : Gt} {S : Sk} {a1 : Int32} {mm : Mm} (hS : Lay S) {q : Int32} (e : m_X0_ringOf a1 mm = some q) : CallOK l G M_X0_ringOf yX0_ringOf 2 [vr (some 25), vi a1] S mm (some (vi q)) S mm := by
  refine call_of_run rfl rfl rfl (Nat.le_of_ble_eq_true rfl) ?_
  show Run l G M_X0_ringOf 2 0 [some (vr (some 25)), some (vi a1), none, none] [] S mm (some (vi q)) S mm
  unfold m_X0_ringOf at e
  refine r_aload_n dX0_ringOf_0 rfl ?_
  refine r_getR dX0_ringOf_1 fl_X0_18 rfl (lp_25 hS) (lq_25 hS) (lr_25_2 hS) ?_
  refine r_iload_n dX0_ringOf_4 rfl ?_
  obtain ⟨hg1, e⟩ := grd_some e
  refine r_iald dX0_ringOf_5 (lp_26 hS) (lk_26 hS) hg1 ?_
  refine r_istore_n dX0_ringOf_6 (by decide) rfl ?_
  refine r_iconst (v := 1) dX0_ringOf_7 ci_1 ?_
  refine r_istore_n dX0_ringOf_8 (by decide) rfl ?_
  obtain ⟨x5, eb7w, elx5, erx5⟩ := bS_some e
  have J4 : ∀ p3 : Unit, x5 = .inl p3 → Run l G M_X0_ringOf 2 39 [none, none, none, none] [] S mm (some (vi q)) S mm := by
    intro p3 hp3
    replace e := elx5 p3 hp3
    refine r_iconst (v := 0) dX0_ringOf_39 ci_0 ?_
    cases e
    exact r_ireturn dX0_ringOf_40 rfl rfl
  have J4w : Run l G M_X0_ringOf 2 9 [some (vr (some 25)), some (vi a1), some (vi (mI mm 26 (ix a1))), some (vi (1 : Int32))] [] S mm (some (vi q)) S mm := by
    refine while_run (s := (mI mm 26 (ix a1), (1 : Int32))) (Gs := fun (z2 : Int32 × Int32) => Run l G M_X0_ringOf 2 9 [some (vr (some 25)), some (vi a1), some (vi z2.1), some (vi z2.2)] [] S mm (some (vi q)) S mm) eb7w ?_
    intro z2 x5y eb7 hx6
    unfold m_X0_ringOf_b9 at eb7
    refine r_iload_n dX0_ringOf_9 rfl ?_
    refine r_aload_n dX0_ringOf_10 rfl ?_
    refine r_getI dX0_ringOf_11 fl_X0_15 rfl (lp_25 hS) (lq_25 hS) ?_
    refine r_icmp_gt (tgt := 39) dX0_ringOf_14 rfl (fun h8 => ?_) (fun h8 => ?_)
    · replace eb7 := ite_t h8 eb7
      cases eb7
      exact r_weak (L' := [none, none, none, none]) trivial (J4 _ (Eq.symm hx6))
    · replace eb7 := ite_f h8 eb7
      refine r_iload_n dX0_ringOf_17 rfl ?_
      refine r_iload_n dX0_ringOf_18 rfl ?_
      refine r_callSN (as := [_, _]) (rest := []) dX0_ringOf_19 nl_X0_64 yS_X11_has (c_X11_has) (by decide) rfl (Nat.le_of_ble_eq_true rfl) ?_
      refine r_if_eq (tgt := 27) dX0_ringOf_22 rfl (fun h9 => ?_) (fun h9 => ?_)
      · replace eb7 := ite_t h9 eb7
        refine r_aload_n dX0_ringOf_27 rfl ?_
        refine r_iload_n dX0_ringOf_28 rfl ?_
        obtain ⟨q10, eq11, eb7⟩ := obind eb7
        refine r_callV (as := [_]) (rest := []) dX0_ringOf_29 ml_X0_68 yV_X0_nextOf (c_X0_nextOf hS eq11) (by decide) rfl (lp_25 hS) (lq_25 hS) (Nat.le_of_ble_eq_true rfl) ?_
        refine r_istore_n dX0_ringOf_32 (by decide) rfl ?_
        refine r_iinc (v := _ + (1 : Int32)) dX0_ringOf_33 rfl (congrArg (_ + ·) ci_1) (by decide) rfl ?_
        refine r_goto (tgt := 9) dX0_ringOf_36 rfl ?_
        cases eb7
        exact r_weak (L' := [some (vr (some 25)), some (vi a1), some (vi q10), some (vi (z2.2 + (1 : Int32)))]) ⟨rfl, rfl, rfl, rfl, trivial⟩ hx6
      · replace eb7 := ite_f h9 eb7
        refine r_iload_n dX0_ringOf_25 rfl ?_
        cases eb7
        have e := congrArg some (erx5 _ (Eq.symm hx6))
        cases e
        exact r_ireturn dX0_ringOf_26 rfl rfl
  exact r_weak (L' := [some (vr (some 25)), some (vi a1), some (vi (mI mm 26 (ix a1))), some (vi (1 : Int32))]) ⟨rfl, rfl, rfl, rfl, trivial⟩ J4w
noncomputable def m_X0_leastRing_b4 (mm : Mm) (z1 : Int32 × Int32) : Option ((Int32 × Int32) ⊕ (Int32)) := if (mI mm 25 1) ≤ z1.2 then (some (.inr z1.1)) else ((m_X0_ringOf z1.2 mm).bind (fun q8 => some (.inl ((if q8 ≤ 0 then z1.1 else (if z1.1 = (-1 : Int32) then q8 else (if z1.1 ≤ q8 then z1.1 else q8))), z1.2 + (1 : Int32)))))
noncomputable def m_X0_leastRing (mm : Mm) : Option (Int32) := (whileF FU (m_X0_leastRing_b4 mm) ((-1 : Int32), (0 : Int32))).bind (fun p2 => some p2)
set_option maxHeartbeats 4000000 in
set_option maxRecDepth 100000 in
theorem c_X0_leastRing {l : Launch} {G : Gt} {S : Sk} {mm : Mm} (hS : Lay S) {q : Int32} (e : m_X0_leastRing mm = some q) : CallOK l G M_X0_leastRing yX0_leastRing 3 [vr (some 25)] S mm (some (vi q)) S mm := by
  refine call_of_run rfl rfl rfl (Nat.le_of_ble_eq_true rfl) ?_
  show Run l G M_X0_leastRing 3 0 [some (vr (some 25)), none, none, none] [] S mm (some (vi q)) S mm
  unfold m_X0_leastRing at e
  refine r_iconst (v := -1) dX0_leastRing_0 ci_m1 ?_
  refine r_istore_n dX0_leastRing_1 (by decide) rfl ?_
  refine r_iconst (v := 0) dX0_leastRing_2 ci_0 ?_
  refine r_istore_n dX0_leastRing_3 (by decide) rfl ?_
  obtain ⟨p2, eb6w, e⟩ := obind e
  have J3a : Run l G M_X0_leastRing 3 40 [none, some (vi p2), none, none] [] S mm (some (vi q)) S mm := by
    refine r_iload_n dX0_leastRing_40 rfl ?_
    cases e
    exact r_ireturn dX0_leastRing_41 rfl rfl
  have J3 : ∀ pp : Int32, pp = p2 → Run l G M_X0_leastRing 3 40 [none, some (vi pp), none, none] [] S mm (some (vi q)) S mm := by
    intro pp hpp
    rw [hpp]
    exact J3a
  have J3w : Run l G M_X0_leastRing 3 4 [some (vr (some 25)), some (vi (-1 : Int32)), some (vi (0 : Int32)), none] [] S mm (some (vi q)) S mm := by
    refine while_run (s := ((-1 : Int32), (0 : Int32))) (Gs := fun (z1 : Int32 × Int32) => Run l G M_X0_leastRing 3 4 [some (vr (some 25)), some (vi z1.1), some (vi z1.2), none] [] S mm (some (vi q)) S mm) eb6w ?_
    intro z1 x4y eb6 hx5
    unfold m_X0_leastRing_b4 at eb6
    refine r_iload_n dX0_leastRing_4 rfl ?_
    refine r_aload_n dX0_leastRing_5 rfl ?_
    refine r_getI dX0_leastRing_6 fl_X0_15 rfl (lp_25 hS) (lq_25 hS) ?_
    refine r_icmp_ge (tgt := 40) dX0_leastRing_9 rfl (fun h7 => ?_) (fun h7 => ?_)
    · replace eb6 := ite_t h7 eb6
      cases eb6
      exact r_weak (L' := [none, some (vi z1.1), none, none]) ⟨rfl, trivial⟩ (J3 _ hx5)
    · replace eb6 := ite_f h7 eb6
      refine r_aload_n dX0_leastRing_12 rfl ?_
      refine r_iload_n dX0_leastRing_13 rfl ?_
      obtain ⟨q8, eq9, eb6⟩ := obind eb6
      refine r_callV (as := [_]) (rest := []) dX0_leastRing_14 ml_X0_72 yV_X0_ringOf (c_X0_ringOf hS eq9) (by decide) rfl (lp_25 hS) (lq_25 hS) (Nat.le_of_ble_eq_true rfl) ?_
      refine r_istore_n dX0_leastRing_17 (by decide) rfl ?_
      refine r_iload_n dX0_leastRing_18 rfl ?_
      have J14 : ∀ (w13 : Int32), w13 = (if q8 ≤ 0 then z1.1 else (if z1.1 = (-1 : Int32) then q8 else (if z1.1 ≤ q8 then z1.1 else q8))) → Run l G M_X0_leastRing 3 34 [some (vr (some 25)), some (vi w13), some (vi z1.2), none] [] S mm (some (vi q)) S mm := by
        intro w13 hw15
        subst hw15
        refine r_iinc (v := _ + (1 : Int32)) dX0_leastRing_34 rfl (congrArg (_ + ·) ci_1) (by decide) rfl ?_
        refine r_goto (tgt := 4) dX0_leastRing_37 rfl ?_
        cases eb6
        exact r_weak (L' := [some (vr (some 25)), some (vi (if q8 ≤ 0 then z1.1 else (if z1.1 = (-1 : Int32) then q8 else (if z1.1 ≤ q8 then z1.1 else q8)))), some (vi (z1.2 + (1 : Int32))), none]) ⟨rfl, rfl, rfl, trivial⟩ hx5
      refine r_if_le (tgt := 34) dX0_leastRing_19 rfl (fun h10 => ?_) (fun h10 => ?_)
      · exact r_weak (L' := [some (vr (some 25)), some (vi z1.1), some (vi z1.2), none]) ⟨rfl, rfl, rfl, trivial⟩ (J14 _ (Eq.symm (if_pos h10)))
      · refine r_iload_n dX0_leastRing_22 rfl ?_
        refine r_iconst (v := -1) dX0_leastRing_23 ci_m1 ?_
        refine r_icmp_eq (tgt := 32) dX0_leastRing_24 rfl (fun h11 => ?_) (fun h11 => ?_)
        · refine r_iload_n dX0_leastRing_32 rfl ?_
          refine r_istore_n dX0_leastRing_33 (by decide) rfl ?_
          exact r_weak (L' := [some (vr (some 25)), some (vi q8), some (vi z1.2), none]) ⟨rfl, rfl, rfl, trivial⟩ (J14 _ (Eq.symm ((if_neg h10).trans (if_pos h11))))
        · refine r_iload_n dX0_leastRing_27 rfl ?_
          refine r_iload_n dX0_leastRing_28 rfl ?_
          refine r_icmp_ge (tgt := 34) dX0_leastRing_29 rfl (fun h12 => ?_) (fun h12 => ?_)
          · exact r_weak (L' := [some (vr (some 25)), some (vi z1.1), some (vi z1.2), none]) ⟨rfl, rfl, rfl, trivial⟩ (J14 _ (Eq.symm ((if_neg h10).trans ((if_neg h11).trans (if_pos h12)))))
          · refine r_iload_n dX0_leastRing_32 rfl ?_
            refine r_istore_n dX0_leastRing_33 (by decide) rfl ?_
            exact r_weak (L' := [some (vr (some 25)), some (vi q8), some (vi z1.2), none]) ⟨rfl, rfl, rfl, trivial⟩ (J14 _ (Eq.symm ((if_neg h10).trans ((if_neg h11).trans (if_neg h12)))))
  exact r_weak (L' := [some (vr (some 25)), some (vi (-1 : Int32)), some (vi (0 : Int32)), none]) ⟨rfl, rfl, rfl, trivial⟩ J3w
noncomputable def m_X0_ringed_b4 (mm : Mm) (z1 : Int32 × Int32) : Option ((Int32 × Int32) ⊕ (Int32)) := if (mI mm 25 1) ≤ z1.2 then (some (.inr z1.1)) else ((m_X0_ringOf z1.2 mm).bind (fun q8 => some (.inl ((if q8 ≤ 0 then z1.1 else z1.1 ||| (xshl (1 : Int32) z1.2)), z1.2 + (1 : Int32)))))
noncomputable def m_X0_ringed (mm : Mm) : Option (Int32) := (whileF FU (m_X0_ringed_b4 mm) ((0 : Int32), (0 : Int32))).bind (fun p2 => some p2)
set_option maxHeartbeats 4000000 in
set_option maxRecDepth 100000 in
theorem c_X0_ringed {l : Launch} {G : Gt} {S : Sk} {mm : Mm} (hS : Lay S) {q : Int32} (e : m_X0_ringed mm = some q) : CallOK l G M_X0_ringed yX0_ringed 3 [vr (some 25)] S mm (some (vi q)) S mm := by
  refine call_of_run rfl rfl rfl (Nat.le_of_ble_eq_true rfl) ?_
  show Run l G M_X0_ringed 3 0 [some (vr (some 25)), none, none] [] S mm (some (vi q)) S mm
  unfold m_X0_ringed at e
  refine r_iconst (v := 0) dX0_ringed_0 ci_0 ?_
  refine r_istore_n dX0_ringed_1 (by decide) rfl ?_
  refine r_iconst (v := 0) dX0_ringed_2 ci_0 ?_
  refine r_istore_n dX0_ringed_3 (by decide) rfl ?_
  obtain ⟨p2, eb6w, e⟩ := obind e
  have J3a : Run l G M_X0_ringed 3 32 [none, some (vi p2), none] [] S mm (some (vi q)) S mm := by
    refine r_iload_n dX0_ringed_32 rfl ?_
    cases e
    exact r_ireturn dX0_ringed_33 rfl rfl
  have J3 : ∀ pp : Int32, pp = p2 → Run l G M_X0_ringed 3 32 [none, some (vi pp), none] [] S mm (some (vi q)) S mm := by
    intro pp hpp
    rw [hpp]
    exact J3a
  have J3w : Run l G M_X0_ringed 3 4 [some (vr (some 25)), some (vi (0 : Int32)), some (vi (0 : Int32))] [] S mm (some (vi q)) S mm := by
    refine while_run (s := ((0 : Int32), (0 : Int32))) (Gs := fun (z1 : Int32 × Int32) => Run l G M_X0_ringed 3 4 [some (vr (some 25)), some (vi z1.1), some (vi z1.2)] [] S mm (some (vi q)) S mm) eb6w ?_
    intro z1 x4y eb6 hx5
    unfold m_X0_ringed_b4 at eb6
    refine r_iload_n dX0_ringed_4 rfl ?_
    refine r_aload_n dX0_ringed_5 rfl ?_
    refine r_getI dX0_ringed_6 fl_X0_15 rfl (lp_25 hS) (lq_25 hS) ?_
    refine r_icmp_ge (tgt := 32) dX0_ringed_9 rfl (fun h7 => ?_) (fun h7 => ?_)
    · replace eb6 := ite_t h7 eb6
      cases eb6
      exact r_weak (L' := [none, some (vi z1.1), none]) ⟨rfl, trivial⟩ (J3 _ hx5)
    · replace eb6 := ite_f h7 eb6
      refine r_aload_n dX0_ringed_12 rfl ?_
      refine r_iload_n dX0_ringed_13 rfl ?_
      obtain ⟨q8, eq9, eb6⟩ := obind eb6
      refine r_callV (as := [_]) (rest := []) dX0_ringed_14 ml_X0_72 yV_X0_ringOf (c_X0_ringOf hS eq9) (by decide) rfl (lp_25 hS) (lq_25 hS) (Nat.le_of_ble_eq_true rfl) ?_
      have J12 : ∀ (w11 : Int32), w11 = (if q8 ≤ 0 then z1.1 else z1.1 ||| (xshl (1 : Int32) z1.2)) → Run l G M_X0_ringed 3 26 [some (vr (some 25)), some (vi w11), some (vi z1.2)] [] S mm (some (vi q)) S mm := by
        intro w11 hw13
        subst hw13
        refine r_iinc (v := _ + (1 : Int32)) dX0_ringed_26 rfl (congrArg (_ + ·) ci_1) (by decide) rfl ?_
        refine r_goto (tgt := 4) dX0_ringed_29 rfl ?_
        cases eb6
        exact r_weak (L' := [some (vr (some 25)), some (vi (if q8 ≤ 0 then z1.1 else z1.1 ||| (xshl (1 : Int32) z1.2))), some (vi (z1.2 + (1 : Int32)))]) ⟨rfl, rfl, rfl, trivial⟩ hx5
      refine r_if_le (tgt := 26) dX0_ringed_17 rfl (fun h10 => ?_) (fun h10 => ?_)
      · exact r_weak (L' := [some (vr (some 25)), some (vi z1.1), some (vi z1.2)]) ⟨rfl, rfl, rfl, trivial⟩ (J12 _ (Eq.symm (if_pos h10)))
      · refine r_iload_n dX0_ringed_20 rfl ?_
        refine r_iconst (v := 1) dX0_ringed_21 ci_1 ?_
        refine r_iload_n dX0_ringed_22 rfl ?_
        refine r_ishl dX0_ringed_23 ?_
        refine r_ior dX0_ringed_24 ?_
        refine r_istore_n dX0_ringed_25 (by decide) rfl ?_
        exact r_weak (L' := [some (vr (some 25)), some (vi (z1.1 ||| (xshl (1 : Int32) z1.2))), some (vi z1.2)]) ⟨rfl, rfl, rfl, trivial⟩ (J12 _ (Eq.symm (if_neg h10)))
  exact r_weak (L' := [some (vr (some 25)), some (vi (0 : Int32)), some (vi (0 : Int32))]) ⟨rfl, rfl, rfl, trivial⟩ J3w
noncomputable def m_X0_extend_b37 (a1 : Int32) (a2 : Int32) (a3 : Int32) (rc_X0_extend : Int32 → Int32 → Int32 → Mm → Option (Mm)) (z8 : Int32 × Mm) : Option ((Int32 × Mm) ⊕ (Mm)) := if (mI z8.2 25 1) ≤ z8.1 then (some (.inr z8.2)) else ((if (m_X11_has (a2 &&& (a3 ^^^ (-1 : Int32))) z8.1) = 0 then (some z8.2) else (grd a1 6 (grd z8.1 6 ((rc_X0_extend (a1 + (1 : Int32)) (mI (sI z8.2 30 (ix a1) z8.1) 26 (ix z8.1)) (a3 ||| (xshl (1 : Int32) z8.1)) (sI z8.2 30 (ix a1) z8.1)).bind (fun q22 => some q22)))) : Option (Mm)).bind (fun p15 => some (.inl (z8.1 + (1 : Int32), p15))))
noncomputable def m_X0_extend_s (rc_X0_extend : Int32 → Int32 → Int32 → Mm → Option (Mm)) (a1 : Int32) (a2 : Int32) (a3 : Int32) (mm : Mm) : Option (Mm) := (if a1 ≤ (mI mm 25 0) then (some mm) else (gP (cpOK 20 6 6 (0 : Int32) (0 : Int32) a1 (fun i => mI (sI mm 25 0 a1) 30 i)) (some (cpM (sI mm 25 0 a1) 30 (ix (0 : Int32)) 31 (ix (0 : Int32)) (ix a1)))) : Option (Mm)).bind (fun p1 => if a1 < (6 : Int32) then ((whileF FU (m_X0_extend_b37 a1 a2 a3 rc_X0_extend) ((0 : Int32), p1)).bind (fun p9 => some p9)) else (some p1))
set_option maxHeartbeats 4000000 in
set_option maxRecDepth 100000 in
theorem c_X0_extend_s {l : Launch} {G : Gt} {S : Sk} {dd : Nat} {rc_X0_extend : Int32 → Int32 → Int32 → Mm → Option (Mm)} (hS : Lay S) (ih_X0_extend : ∀ (b1 b2 b3 : Int32) (nn : Mm) (qq : Mm), rc_X0_extend b1 b2 b3 nn = some qq → CallOK l G M_X0_extend yX0_extend dd [vr (some 25), vi b1, vi b2, vi b3] S nn (none) S qq) (hdd : 1 ≤ dd + 1) {a1 : Int32} {a2 : Int32} {a3 : Int32} {mm : Mm} {q : Mm} (e : m_X0_extend_s rc_X0_extend a1 a2 a3 mm = some q) : CallOK l G M_X0_extend yX0_extend (dd + 1) [vr (some 25), vi a1, vi a2, vi a3] S mm (none) S q := by
  refine call_of_run rfl rfl rfl (Nat.le_of_ble_eq_true rfl) ?_
  show Run l G M_X0_extend (dd + 1) 0 [some (vr (some 25)), some (vi a1), some (vi a2), some (vi a3), none] [] S mm (none) S q
  unfold m_X0_extend_s at e
  refine r_iload_n dX0_extend_0 rfl ?_
  refine r_aload_n dX0_extend_1 rfl ?_
  refine r_getI dX0_extend_2 fl_X0_9 rfl (lp_25 hS) (lq_25 hS) ?_
  obtain ⟨p1, ep3, e⟩ := obind e
  have J2a : Run l G M_X0_extend (dd + 1) 27 [some (vr (some 25)), some (vi a1), some (vi a2), some (vi a3), none] [] S p1 (none) S q := by
    refine r_iload_n dX0_extend_27 rfl ?_
    refine r_bipush (v := 6) dX0_extend_28 cb_6 ?_
    refine r_icmp_lt (tgt := 34) dX0_extend_30 rfl (fun h7 => ?_) (fun h7 => ?_)
    · replace e := ite_t h7 e
      refine r_iconst (v := 0) dX0_extend_34 ci_0 ?_
      refine r_istore dX0_extend_35 (by decide) rfl ?_
      obtain ⟨p9, eb13w, e⟩ := obind e
      have J10a : Run l G M_X0_extend (dd + 1) 93 [none, none, none, none, none] [] S p9 (none) S q := by
        cases e
        exact r_return dX0_extend_93 rfl
      have J10 : ∀ pp : Mm, pp = p9 → Run l G M_X0_extend (dd + 1) 93 [none, none, none, none, none] [] S pp (none) S q := by
        intro pp hpp
        rw [hpp]
        exact J10a
      have J10w : Run l G M_X0_extend (dd + 1) 37 [some (vr (some 25)), some (vi a1), some (vi a2), some (vi a3), some (vi (0 : Int32))] [] S p1 (none) S q := by
        refine while_run (s := ((0 : Int32), p1)) (Gs := fun (z8 : Int32 × Mm) => Run l G M_X0_extend (dd + 1) 37 [some (vr (some 25)), some (vi a1), some (vi a2), some (vi a3), some (vi z8.1)] [] S z8.2 (none) S q) eb13w ?_
        intro z8 x11y eb13 hx12
        unfold m_X0_extend_b37 at eb13
        refine r_iload dX0_extend_37 rfl ?_
        refine r_aload_n dX0_extend_39 rfl ?_
        refine r_getI dX0_extend_40 fl_X0_15 rfl (lp_25 hS) (lq_25 hS) ?_
        refine r_icmp_ge (tgt := 93) dX0_extend_43 rfl (fun h14 => ?_) (fun h14 => ?_)
        · replace eb13 := ite_t h14 eb13
          cases eb13
          exact r_weak (L' := [none, none, none, none, none]) trivial (J10 _ hx12)
        · replace eb13 := ite_f h14 eb13
          refine r_iload_n dX0_extend_46 rfl ?_
          refine r_iload_n dX0_extend_47 rfl ?_
          refine r_iconst (v := -1) dX0_extend_48 ci_m1 ?_
          refine r_ixor dX0_extend_49 ?_
          refine r_iand dX0_extend_50 ?_
          refine r_iload dX0_extend_51 rfl ?_
          refine r_callSN (as := [_, _]) (rest := []) dX0_extend_53 nl_X0_64 yS_X11_has (c_X11_has) (by omega) rfl (Nat.le_of_ble_eq_true rfl) ?_
          obtain ⟨p15, ep17, eb13⟩ := obind eb13
          have J16a : Run l G M_X0_extend (dd + 1) 87 [some (vr (some 25)), some (vi a1), some (vi a2), some (vi a3), some (vi z8.1)] [] S p15 (none) S q := by
            refine r_iinc (v := _ + (1 : Int32)) dX0_extend_87 rfl (congrArg (_ + ·) ci_1) (by decide) rfl ?_
            refine r_goto (tgt := 37) dX0_extend_90 rfl ?_
            cases eb13
            exact r_weak (L' := [some (vr (some 25)), some (vi a1), some (vi a2), some (vi a3), some (vi (z8.1 + (1 : Int32)))]) ⟨rfl, rfl, rfl, rfl, rfl, trivial⟩ hx12
          have J16 : ∀ pp : Mm, pp = p15 → Run l G M_X0_extend (dd + 1) 87 [some (vr (some 25)), some (vi a1), some (vi a2), some (vi a3), some (vi z8.1)] [] S pp (none) S q := by
            intro pp hpp
            rw [hpp]
            exact J16a
          refine r_if_eq (tgt := 87) dX0_extend_56 rfl (fun h19 => ?_) (fun h19 => ?_)
          · replace ep17 := ite_t h19 ep17
            exact r_weak (L' := [some (vr (some 25)), some (vi a1), some (vi a2), some (vi a3), some (vi z8.1)]) ⟨rfl, rfl, rfl, rfl, rfl, trivial⟩ (J16 _ (Option.some.inj ep17))
          · replace ep17 := ite_f h19 ep17
            refine r_aload_n dX0_extend_59 rfl ?_
            refine r_getR dX0_extend_60 fl_X0_31 rfl (lp_25 hS) (lq_25 hS) (lr_25_6 hS) ?_
            refine r_iload_n dX0_extend_63 rfl ?_
            refine r_iload dX0_extend_64 rfl ?_
            obtain ⟨hg20, ep17⟩ := grd_some ep17
            refine r_iast dX0_extend_66 (lp_30 hS) (lk_30 hS) hg20 ?_
            refine r_aload_n dX0_extend_67 rfl ?_
            refine r_iload_n dX0_extend_68 rfl ?_
            refine r_iconst (v := 1) dX0_extend_69 ci_1 ?_
            refine r_iadd dX0_extend_70 ?_
            refine r_aload_n dX0_extend_71 rfl ?_
            refine r_getR dX0_extend_72 fl_X0_18 rfl (lp_25 hS) (lq_25 hS) (lr_25_2 hS) ?_
            refine r_iload dX0_extend_75 rfl ?_
            obtain ⟨hg21, ep17⟩ := grd_some ep17
            refine r_iald dX0_extend_77 (lp_26 hS) (lk_26 hS) hg21 ?_
            refine r_iload_n dX0_extend_78 rfl ?_
            refine r_iconst (v := 1) dX0_extend_79 ci_1 ?_
            refine r_iload dX0_extend_80 rfl ?_
            refine r_ishl dX0_extend_82 ?_
            refine r_ior dX0_extend_83 ?_
            obtain ⟨q22, eq23, ep17⟩ := obind ep17
            refine r_callV (as := [_, _, _]) (rest := []) dX0_extend_84 ml_X0_75 yV_X0_extend (ih_X0_extend _ _ _ _ _ eq23) (by omega) rfl (lp_25 hS) (lq_25 hS) (Nat.le_of_ble_eq_true rfl) ?_
            exact r_weak (L' := [some (vr (some 25)), some (vi a1), some (vi a2), some (vi a3), some (vi z8.1)]) ⟨rfl, rfl, rfl, rfl, rfl, trivial⟩ (J16 _ (Option.some.inj ep17))
      exact r_weak (L' := [some (vr (some 25)), some (vi a1), some (vi a2), some (vi a3), some (vi (0 : Int32))]) ⟨rfl, rfl, rfl, rfl, rfl, trivial⟩ J10w
    · replace e := ite_f h7 e
      cases e
      exact r_return dX0_extend_33 rfl
  have J2 : ∀ pp : Mm, pp = p1 → Run l G M_X0_extend (dd + 1) 27 [some (vr (some 25)), some (vi a1), some (vi a2), some (vi a3), none] [] S pp (none) S q := by
    intro pp hpp
    rw [hpp]
    exact J2a
  refine r_icmp_le (tgt := 27) dX0_extend_5 rfl (fun h5 => ?_) (fun h5 => ?_)
  · replace ep3 := ite_t h5 ep3
    exact r_weak (L' := [some (vr (some 25)), some (vi a1), some (vi a2), some (vi a3), none]) ⟨rfl, rfl, rfl, rfl, trivial⟩ (J2 _ (Option.some.inj ep3))
  · replace ep3 := ite_f h5 ep3
    refine r_aload_n dX0_extend_8 rfl ?_
    refine r_iload_n dX0_extend_9 rfl ?_
    refine r_putI dX0_extend_10 fl_X0_9 ft_0_0 (Or.inl rfl) rfl rfl rfl (lp_25 hS) (lq_25 hS) ?_
    refine r_aload_n dX0_extend_13 rfl ?_
    refine r_getR dX0_extend_14 fl_X0_31 rfl (lp_25 hS) (lq_25 hS) (lr_25_6 hS) ?_
    refine r_iconst (v := 0) dX0_extend_17 ci_0 ?_
    refine r_aload_n dX0_extend_18 rfl ?_
    refine r_getR dX0_extend_19 fl_X0_34 rfl (lp_25 hS) (lq_25 hS) (lr_25_7 hS) ?_
    refine r_iconst (v := 0) dX0_extend_22 ci_0 ?_
    refine r_iload_n dX0_extend_23 rfl ?_
    obtain ⟨hc6, ep3⟩ := gP_some ep3
    refine r_copy (rest := []) dX0_extend_24 cp_X0_79 (lp_30 hS) (lk_30 hS) (lp_31 hS) (lk_31 hS) (by decide) (by decide) hc6 (by omega) (Nat.le_of_ble_eq_true rfl) ?_
    exact r_weak (L' := [some (vr (some 25)), some (vi a1), some (vi a2), some (vi a3), none]) ⟨rfl, rfl, rfl, rfl, trivial⟩ (J2 _ (Option.some.inj ep3))
noncomputable def m_X0_extend : Nat → Int32 → Int32 → Int32 → Mm → Option (Mm)
  | 0 => fun _ _ _ _ => none
  | n + 1 => m_X0_extend_s (m_X0_extend n)
theorem c_X0_extend {l : Launch} {G : Gt} {S : Sk} (hS : Lay S) : ∀ (n : Nat) (b1 b2 b3 : Int32) (nn : Mm) (qq : Mm), m_X0_extend n b1 b2 b3 nn = some qq → CallOK l G M_X0_extend yX0_extend (1 + n) [vr (some 25), vi b1, vi b2, vi b3] S nn (none) S qq
  | 0, _, _, _, _, _, h => by cases h
  | n + 1, b1, b2, b3, nn, qq, h => c_X0_extend_s (dd := 1 + n) hS (c_X0_extend hS n) (by omega) h
noncomputable def m_X0_findChain (mm : Mm) : Option (Mm) := (m_X0_extend 12 (0 : Int32) ((xshl (1 : Int32) (mI (sI mm 25 0 (0 : Int32)) 25 1)) - (1 : Int32)) (0 : Int32) (sI mm 25 0 (0 : Int32))).bind (fun q1 => some q1)
set_option maxHeartbeats 4000000 in
set_option maxRecDepth 100000 in
theorem c_X0_findChain {l : Launch} {G : Gt} {S : Sk} {mm : Mm} (hS : Lay S) {q : Mm} (e : m_X0_findChain mm = some q) : CallOK l G M_X0_findChain yX0_findChain 14 [vr (some 25)] S mm (none) S q := by
  refine call_of_run rfl rfl rfl (Nat.le_of_ble_eq_true rfl) ?_
  show Run l G M_X0_findChain 14 0 [some (vr (some 25))] [] S mm (none) S q
  unfold m_X0_findChain at e
  refine r_aload_n dX0_findChain_0 rfl ?_
  refine r_iconst (v := 0) dX0_findChain_1 ci_0 ?_
  refine r_putI dX0_findChain_2 fl_X0_9 ft_0_0 (Or.inl rfl) rfl rfl rfl (lp_25 hS) (lq_25 hS) ?_
  refine r_aload_n dX0_findChain_5 rfl ?_
  refine r_iconst (v := 0) dX0_findChain_6 ci_0 ?_
  refine r_iconst (v := 1) dX0_findChain_7 ci_1 ?_
  refine r_aload_n dX0_findChain_8 rfl ?_
  refine r_getI dX0_findChain_9 fl_X0_15 rfl (lp_25 hS) (lq_25 hS) ?_
  refine r_ishl dX0_findChain_12 ?_
  refine r_iconst (v := 1) dX0_findChain_13 ci_1 ?_
  refine r_isub dX0_findChain_14 ?_
  refine r_iconst (v := 0) dX0_findChain_15 ci_0 ?_
  obtain ⟨q1, eq2, e⟩ := obind e
  refine r_callV (as := [_, _, _]) (rest := []) dX0_findChain_16 ml_X0_75 yV_X0_extend (c_X0_extend hS 12 _ _ _ _ _ eq2) (by decide) rfl (lp_25 hS) (lq_25 hS) (Nat.le_of_ble_eq_true rfl) ?_
  cases e
  exact r_return dX0_findChain_19 rfl
noncomputable def m_X0_chained (a1 : Int32) (mm : Mm) : Option (Int32) := bS (if a1 < 0 then (some (.inl ())) else (if a1 < (mI mm 25 0) then (grd a1 6 (some (.inr (mI mm 31 (ix a1))))) else (some (.inl ()))) : Option ((Unit) ⊕ (Int32))) (fun p1 => some (-1 : Int32))
set_option maxHeartbeats 4000000 in
set_option maxRecDepth 100000 in
theorem c_X0_chained {l : Launch} {G : Gt} {S : Sk} {a1 : Int32} {mm : Mm} (hS : Lay S) {q : Int32} (e : m_X0_chained a1 mm = some q) : CallOK l G M_X0_chained yX0_chained 0 [vr (some 25), vi a1] S mm (some (vi q)) S mm := by
  refine call_of_run rfl rfl rfl (Nat.le_of_ble_eq_true rfl) ?_
  show Run l G M_X0_chained 0 0 [some (vr (some 25)), some (vi a1)] [] S mm (some (vi q)) S mm
  unfold m_X0_chained at e
  refine r_iload_n dX0_chained_0 rfl ?_
  obtain ⟨x4, ep3, elx4, erx4⟩ := bS_some e
  have J2 : ∀ p1 : Unit, x4 = .inl p1 → Run l G M_X0_chained 0 12 [none, none] [] S mm (some (vi q)) S mm := by
    intro p1 hp1
    replace e := elx4 p1 hp1
    refine r_iconst (v := -1) dX0_chained_12 ci_m1 ?_
    refine r_goto (tgt := 22) dX0_chained_13 rfl ?_
    cases e
    exact r_ireturn dX0_chained_22 rfl rfl
  refine r_if_lt (tgt := 12) dX0_chained_1 rfl (fun h5 => ?_) (fun h5 => ?_)
  · replace ep3 := ite_t h5 ep3
    cases ep3
    exact r_weak (L' := [none, none]) trivial (J2 _ rfl)
  · replace ep3 := ite_f h5 ep3
    refine r_iload_n dX0_chained_4 rfl ?_
    refine r_aload_n dX0_chained_5 rfl ?_
    refine r_getI dX0_chained_6 fl_X0_9 rfl (lp_25 hS) (lq_25 hS) ?_
    refine r_icmp_lt (tgt := 16) dX0_chained_9 rfl (fun h6 => ?_) (fun h6 => ?_)
    · replace ep3 := ite_t h6 ep3
      refine r_aload_n dX0_chained_16 rfl ?_
      refine r_getR dX0_chained_17 fl_X0_34 rfl (lp_25 hS) (lq_25 hS) (lr_25_7 hS) ?_
      refine r_iload_n dX0_chained_20 rfl ?_
      obtain ⟨hg7, ep3⟩ := grd_some ep3
      refine r_iald dX0_chained_21 (lp_31 hS) (lk_31 hS) hg7 ?_
      cases ep3
      have e := congrArg some (erx4 _ rfl)
      cases e
      exact r_ireturn dX0_chained_22 rfl rfl
    · replace ep3 := ite_f h6 ep3
      cases ep3
      exact r_weak (L' := [none, none]) trivial (J2 _ rfl)
noncomputable def m_X0_likingsBetween_b31 (mm : Mm) (z1 : Int32 × Int32) (z9 : Int32 × Int32) : Option ((Int32 × Int32) ⊕ (Int32)) := if (mI mm 14 0) ≤ z9.2 then (some (.inr z9.1)) else ((if (m_X11_has z1.1 z9.2) = 0 then (some z9.1) else (grd z9.2 6 (some (z9.1 ||| (mI mm 17 (ix z9.2))))) : Option (Int32)).bind (fun p16 => some (.inl (p16, z9.2 + (1 : Int32)))))
noncomputable def m_X0_likingsBetween_b7 (a2 : Int32) (mm : Mm) (z1 : Int32 × Int32) : Option ((Int32 × Int32) ⊕ ((Unit) ⊕ (Int32))) := if (6 : Int32) ≤ z1.2 then (some (.inr (.inl ()))) else (if (m_X11_has z1.1 a2) = 0 then ((whileF FU (m_X0_likingsBetween_b31 mm z1) (z1.1, (0 : Int32))).bind (fun p10 => some (.inl (p10, z1.2 + (1 : Int32))))) else (some (.inr (.inr z1.2))))
noncomputable def m_X0_likingsBetween (a1 : Int32) (a2 : Int32) (mm : Mm) : Option (Int32) := bS (whileF FU (m_X0_likingsBetween_b7 a2 mm) (xshl (1 : Int32) a1, (0 : Int32))) (fun p2 => some (-1 : Int32))
set_option maxHeartbeats 4000000 in
set_option maxRecDepth 100000 in
theorem c_X0_likingsBetween {l : Launch} {G : Gt} {S : Sk} {a1 : Int32} {a2 : Int32} {mm : Mm} (hS : Lay S) {q : Int32} (e : m_X0_likingsBetween a1 a2 mm = some q) : CallOK l G M_X0_likingsBetween yX0_likingsBetween 1 [vr (some 14), vi a1, vi a2] S mm (some (vi q)) S mm := by
  refine call_of_run rfl rfl rfl (Nat.le_of_ble_eq_true rfl) ?_
  show Run l G M_X0_likingsBetween 1 0 [some (vr (some 14)), some (vi a1), some (vi a2), none, none, none, none] [] S mm (some (vi q)) S mm
  unfold m_X0_likingsBetween at e
  refine r_iconst (v := 1) dX0_likingsBetween_0 ci_1 ?_
  refine r_iload_n dX0_likingsBetween_1 rfl ?_
  refine r_ishl dX0_likingsBetween_2 ?_
  refine r_istore_n dX0_likingsBetween_3 (by decide) rfl ?_
  refine r_iconst (v := 0) dX0_likingsBetween_4 ci_0 ?_
  refine r_istore dX0_likingsBetween_5 (by decide) rfl ?_
  obtain ⟨x4, eb6w, elx4, erx4⟩ := bS_some e
  have J3 : ∀ p2 : Unit, x4 = .inl p2 → Run l G M_X0_likingsBetween 1 76 [none, none, none, none, none, none, none] [] S mm (some (vi q)) S mm := by
    intro p2 hp2
    replace e := elx4 p2 hp2
    refine r_iconst (v := -1) dX0_likingsBetween_76 ci_m1 ?_
    cases e
    exact r_ireturn dX0_likingsBetween_77 rfl rfl
  have J3w : Run l G M_X0_likingsBetween 1 7 [some (vr (some 14)), none, some (vi a2), some (vi (xshl (1 : Int32) a1)), some (vi (0 : Int32)), none, none] [] S mm (some (vi q)) S mm := by
    refine while_run (s := (xshl (1 : Int32) a1, (0 : Int32))) (Gs := fun (z1 : Int32 × Int32) => Run l G M_X0_likingsBetween 1 7 [some (vr (some 14)), none, some (vi a2), some (vi z1.1), some (vi z1.2), none, none] [] S mm (some (vi q)) S mm) eb6w ?_
    intro z1 x4y eb6 hx5
    unfold m_X0_likingsBetween_b7 at eb6
    refine r_iload dX0_likingsBetween_7 rfl ?_
    refine r_bipush (v := 6) dX0_likingsBetween_9 cb_6 ?_
    refine r_icmp_ge (tgt := 76) dX0_likingsBetween_11 rfl (fun h7 => ?_) (fun h7 => ?_)
    · replace eb6 := ite_t h7 eb6
      cases eb6
      exact r_weak (L' := [none, none, none, none, none, none, none]) trivial (J3 _ (Eq.symm hx5))
    · replace eb6 := ite_f h7 eb6
      refine r_iload_n dX0_likingsBetween_14 rfl ?_
      refine r_iload_n dX0_likingsBetween_15 rfl ?_
      refine r_callSN (as := [_, _]) (rest := []) dX0_likingsBetween_16 nl_X0_64 yS_X11_has (c_X11_has) (by decide) rfl (Nat.le_of_ble_eq_true rfl) ?_
      refine r_if_eq (tgt := 25) dX0_likingsBetween_19 rfl (fun h8 => ?_) (fun h8 => ?_)
      · replace eb6 := ite_t h8 eb6
        refine r_iload_n dX0_likingsBetween_25 rfl ?_
        refine r_istore dX0_likingsBetween_26 (by decide) rfl ?_
        refine r_iconst (v := 0) dX0_likingsBetween_28 ci_0 ?_
        refine r_istore dX0_likingsBetween_29 (by decide) rfl ?_
        obtain ⟨p10, eb14w, eb6⟩ := obind eb6
        have J11a : Run l G M_X0_likingsBetween 1 67 [some (vr (some 14)), none, some (vi a2), none, some (vi z1.2), some (vi p10), none] [] S mm (some (vi q)) S mm := by
          refine r_iload dX0_likingsBetween_67 rfl ?_
          refine r_istore_n dX0_likingsBetween_69 (by decide) rfl ?_
          refine r_iinc (v := _ + (1 : Int32)) dX0_likingsBetween_70 rfl (congrArg (_ + ·) ci_1) (by decide) rfl ?_
          refine r_goto (tgt := 7) dX0_likingsBetween_73 rfl ?_
          cases eb6
          exact r_weak (L' := [some (vr (some 14)), none, some (vi a2), some (vi p10), some (vi (z1.2 + (1 : Int32))), none, none]) ⟨rfl, rfl, rfl, rfl, trivial⟩ hx5
        have J11 : ∀ pp : Int32, pp = p10 → Run l G M_X0_likingsBetween 1 67 [some (vr (some 14)), none, some (vi a2), none, some (vi z1.2), some (vi pp), none] [] S mm (some (vi q)) S mm := by
          intro pp hpp
          rw [hpp]
          exact J11a
        have J11w : Run l G M_X0_likingsBetween 1 31 [some (vr (some 14)), none, some (vi a2), some (vi z1.1), some (vi z1.2), some (vi z1.1), some (vi (0 : Int32))] [] S mm (some (vi q)) S mm := by
          refine while_run (s := (z1.1, (0 : Int32))) (Gs := fun (z9 : Int32 × Int32) => Run l G M_X0_likingsBetween 1 31 [some (vr (some 14)), none, some (vi a2), some (vi z1.1), some (vi z1.2), some (vi z9.1), some (vi z9.2)] [] S mm (some (vi q)) S mm) eb14w ?_
          intro z9 x12y eb14 hx13
          unfold m_X0_likingsBetween_b31 at eb14
          refine r_iload dX0_likingsBetween_31 rfl ?_
          refine r_aload_n dX0_likingsBetween_33 rfl ?_
          refine r_getI dX0_likingsBetween_34 fl_X0_37 rfl (lp_14 hS) (lq_14 hS) ?_
          refine r_icmp_ge (tgt := 67) dX0_likingsBetween_37 rfl (fun h15 => ?_) (fun h15 => ?_)
          · replace eb14 := ite_t h15 eb14
            cases eb14
            exact r_weak (L' := [some (vr (some 14)), none, some (vi a2), none, some (vi z1.2), some (vi z9.1), none]) ⟨rfl, rfl, rfl, rfl, trivial⟩ (J11 _ hx13)
          · replace eb14 := ite_f h15 eb14
            refine r_iload_n dX0_likingsBetween_40 rfl ?_
            refine r_iload dX0_likingsBetween_41 rfl ?_
            refine r_callSN (as := [_, _]) (rest := []) dX0_likingsBetween_43 nl_X0_64 yS_X11_has (c_X11_has) (by decide) rfl (Nat.le_of_ble_eq_true rfl) ?_
            obtain ⟨p16, ep18, eb14⟩ := obind eb14
            have J17a : Run l G M_X0_likingsBetween 1 61 [some (vr (some 14)), none, some (vi a2), some (vi z1.1), some (vi z1.2), some (vi p16), some (vi z9.2)] [] S mm (some (vi q)) S mm := by
              refine r_iinc (v := _ + (1 : Int32)) dX0_likingsBetween_61 rfl (congrArg (_ + ·) ci_1) (by decide) rfl ?_
              refine r_goto (tgt := 31) dX0_likingsBetween_64 rfl ?_
              cases eb14
              exact r_weak (L' := [some (vr (some 14)), none, some (vi a2), some (vi z1.1), some (vi z1.2), some (vi p16), some (vi (z9.2 + (1 : Int32)))]) ⟨rfl, rfl, rfl, rfl, rfl, rfl, trivial⟩ hx13
            have J17 : ∀ pp : Int32, pp = p16 → Run l G M_X0_likingsBetween 1 61 [some (vr (some 14)), none, some (vi a2), some (vi z1.1), some (vi z1.2), some (vi pp), some (vi z9.2)] [] S mm (some (vi q)) S mm := by
              intro pp hpp
              rw [hpp]
              exact J17a
            refine r_if_eq (tgt := 61) dX0_likingsBetween_46 rfl (fun h20 => ?_) (fun h20 => ?_)
            · replace ep18 := ite_t h20 ep18
              exact r_weak (L' := [some (vr (some 14)), none, some (vi a2), some (vi z1.1), some (vi z1.2), some (vi z9.1), some (vi z9.2)]) ⟨rfl, rfl, rfl, rfl, rfl, rfl, trivial⟩ (J17 _ (Option.some.inj ep18))
            · replace ep18 := ite_f h20 ep18
              refine r_iload dX0_likingsBetween_49 rfl ?_
              refine r_aload_n dX0_likingsBetween_51 rfl ?_
              refine r_getR dX0_likingsBetween_52 fl_X0_49 rfl (lp_14 hS) (lq_14 hS) (lr_14_4 hS) ?_
              refine r_iload dX0_likingsBetween_55 rfl ?_
              obtain ⟨hg21, ep18⟩ := grd_some ep18
              refine r_iald dX0_likingsBetween_57 (lp_17 hS) (lk_17 hS) hg21 ?_
              refine r_ior dX0_likingsBetween_58 ?_
              refine r_istore dX0_likingsBetween_59 (by decide) rfl ?_
              exact r_weak (L' := [some (vr (some 14)), none, some (vi a2), some (vi z1.1), some (vi z1.2), some (vi (z9.1 ||| (mI mm 17 (ix z9.2)))), some (vi z9.2)]) ⟨rfl, rfl, rfl, rfl, rfl, rfl, trivial⟩ (J17 _ (Option.some.inj ep18))
        exact r_weak (L' := [some (vr (some 14)), none, some (vi a2), some (vi z1.1), some (vi z1.2), some (vi z1.1), some (vi (0 : Int32))]) ⟨rfl, rfl, rfl, rfl, rfl, rfl, trivial⟩ J11w
      · replace eb6 := ite_f h8 eb6
        refine r_iload dX0_likingsBetween_22 rfl ?_
        cases eb6
        have e := congrArg some (erx4 _ (Eq.symm hx5))
        cases e
        exact r_ireturn dX0_likingsBetween_24 rfl rfl
  exact r_weak (L' := [some (vr (some 14)), none, some (vi a2), some (vi (xshl (1 : Int32) a1)), some (vi (0 : Int32)), none, none]) ⟨rfl, rfl, rfl, rfl, trivial⟩ J3w
noncomputable def m_X1_init (S : Sk) (a0 : Nat) (mm : Mm) : Option (Sk × Mm) := some ((sRs (nwS S 20 6 6) a0 0 (some S.1)), (sI (sI (sI (nwM S mm) a0 1 (0 : Int32)) a0 2 (0 : Int32)) a0 3 (-1 : Int32)))
set_option maxHeartbeats 4000000 in
set_option maxRecDepth 100000 in
theorem c_X1_init {l : Launch} {G : Gt} {S : Sk} {a0 : Nat} {mm : Mm} (ha0 : KD S a0 1) {q : Sk × Mm} (e : m_X1_init S a0 mm = some q) : CallOK l G M_X1_init yX1_init 1 [vr (some a0)] S mm (none) q.1 q.2 := by
  refine call_of_run rfl rfl rfl (Nat.le_of_ble_eq_true rfl) ?_
  show Run l G M_X1_init 1 0 [some (vr (some a0))] [] S mm (none) q.1 q.2
  unfold m_X1_init at e
  refine r_aload_n dX1_init_0 rfl ?_
  refine r_objInit (rest := []) dX1_init_1 oi_X1_3 oi_i oi_c (by decide) (Nat.le_of_ble_eq_true rfl) ?_
  refine r_aload_n dX1_init_4 rfl ?_
  refine r_bipush (v := 6) dX1_init_5 cb_6 ?_
  refine r_newa (t := 20) dX1_init_7 rfl (by decide) (by decide) aw_20 (by decide) (N := 6) (by decide) (by decide) ?_
  have hn1 := kd_nw (k := 20) (len := 6) (z := 6) ha0
  have hn2 : AK (nwS S 20 6 6) S.1 20 6 := ak_new
  refine r_putR dX1_init_9 fl_X1_9 ft_1_0 (Or.inr ⟨rfl, fun q hq => by cases hq; rfl⟩) rfl hn1.1 hn1.2 ?_
  refine r_aload_n dX1_init_12 rfl ?_
  refine r_iconst (v := 0) dX1_init_13 ci_0 ?_
  refine r_putI dX1_init_14 fl_X1_15 ft_1_1 (Or.inl rfl) rfl rfl rfl hn1.1 hn1.2 ?_
  refine r_aload_n dX1_init_17 rfl ?_
  refine r_iconst (v := 0) dX1_init_18 ci_0 ?_
  refine r_putI dX1_init_19 fl_X1_19 ft_1_2 (Or.inl rfl) rfl rfl rfl hn1.1 hn1.2 ?_
  refine r_aload_n dX1_init_22 rfl ?_
  refine r_iconst (v := -1) dX1_init_23 ci_m1 ?_
  refine r_putI dX1_init_24 fl_X1_22 ft_1_3 (Or.inl rfl) rfl rfl rfl hn1.1 hn1.2 ?_
  cases e
  exact r_return dX1_init_27 rfl
noncomputable def m_X1_hardest_b4 (mm : Mm) (z1 : Int32 × Int32) : Option ((Int32 × Int32) ⊕ (Int32)) := if (8 : Int32) ≤ z1.2 then (some (.inr z1.1)) else (grd z1.2 8 (grd z1.1 8 (some (.inl ((if (mI mm 19 (ix z1.2)) ≤ (mI mm 19 (ix z1.1)) then z1.1 else z1.2), z1.2 + (1 : Int32))))))
noncomputable def m_X1_hardest (mm : Mm) : Option (Int32) := (whileF FU (m_X1_hardest_b4 mm) ((0 : Int32), (1 : Int32))).bind (fun p2 => some p2)
set_option maxHeartbeats 4000000 in
set_option maxRecDepth 100000 in
theorem c_X1_hardest {l : Launch} {G : Gt} {S : Sk} {mm : Mm} (hS : Lay S) {q : Int32} (e : m_X1_hardest mm = some q) : CallOK l G M_X1_hardest yX1_hardest 0 [vr (some 14)] S mm (some (vi q)) S mm := by
  refine call_of_run rfl rfl rfl (Nat.le_of_ble_eq_true rfl) ?_
  show Run l G M_X1_hardest 0 0 [some (vr (some 14)), none, none] [] S mm (some (vi q)) S mm
  unfold m_X1_hardest at e
  refine r_iconst (v := 0) dX1_hardest_0 ci_0 ?_
  refine r_istore_n dX1_hardest_1 (by decide) rfl ?_
  refine r_iconst (v := 1) dX1_hardest_2 ci_1 ?_
  refine r_istore_n dX1_hardest_3 (by decide) rfl ?_
  obtain ⟨p2, eb6w, e⟩ := obind e
  have J3a : Run l G M_X1_hardest 0 33 [none, some (vi p2), none] [] S mm (some (vi q)) S mm := by
    refine r_iload_n dX1_hardest_33 rfl ?_
    cases e
    exact r_ireturn dX1_hardest_34 rfl rfl
  have J3 : ∀ pp : Int32, pp = p2 → Run l G M_X1_hardest 0 33 [none, some (vi pp), none] [] S mm (some (vi q)) S mm := by
    intro pp hpp
    rw [hpp]
    exact J3a
  have J3w : Run l G M_X1_hardest 0 4 [some (vr (some 14)), some (vi (0 : Int32)), some (vi (1 : Int32))] [] S mm (some (vi q)) S mm := by
    refine while_run (s := ((0 : Int32), (1 : Int32))) (Gs := fun (z1 : Int32 × Int32) => Run l G M_X1_hardest 0 4 [some (vr (some 14)), some (vi z1.1), some (vi z1.2)] [] S mm (some (vi q)) S mm) eb6w ?_
    intro z1 x4y eb6 hx5
    unfold m_X1_hardest_b4 at eb6
    refine r_iload_n dX1_hardest_4 rfl ?_
    refine r_bipush (v := 8) dX1_hardest_5 cb_8 ?_
    refine r_icmp_ge (tgt := 33) dX1_hardest_7 rfl (fun h7 => ?_) (fun h7 => ?_)
    · replace eb6 := ite_t h7 eb6
      cases eb6
      exact r_weak (L' := [none, some (vi z1.1), none]) ⟨rfl, trivial⟩ (J3 _ hx5)
    · replace eb6 := ite_f h7 eb6
      refine r_aload_n dX1_hardest_10 rfl ?_
      refine r_getR dX1_hardest_11 fl_X1_52 rfl (lp_14 hS) (lq_14 hS) (lr_14_6 hS) ?_
      refine r_iload_n dX1_hardest_14 rfl ?_
      obtain ⟨hg8, eb6⟩ := grd_some eb6
      refine r_iald dX1_hardest_15 (lp_19 hS) (lk_19 hS) hg8 ?_
      refine r_aload_n dX1_hardest_16 rfl ?_
      refine r_getR dX1_hardest_17 fl_X1_52 rfl (lp_14 hS) (lq_14 hS) (lr_14_6 hS) ?_
      refine r_iload_n dX1_hardest_20 rfl ?_
      obtain ⟨hg9, eb6⟩ := grd_some eb6
      refine r_iald dX1_hardest_21 (lp_19 hS) (lk_19 hS) hg9 ?_
      have J12 : ∀ (w11 : Int32), w11 = (if (mI mm 19 (ix z1.2)) ≤ (mI mm 19 (ix z1.1)) then z1.1 else z1.2) → Run l G M_X1_hardest 0 27 [some (vr (some 14)), some (vi w11), some (vi z1.2)] [] S mm (some (vi q)) S mm := by
        intro w11 hw13
        subst hw13
        refine r_iinc (v := _ + (1 : Int32)) dX1_hardest_27 rfl (congrArg (_ + ·) ci_1) (by decide) rfl ?_
        refine r_goto (tgt := 4) dX1_hardest_30 rfl ?_
        cases eb6
        exact r_weak (L' := [some (vr (some 14)), some (vi (if (mI mm 19 (ix z1.2)) ≤ (mI mm 19 (ix z1.1)) then z1.1 else z1.2)), some (vi (z1.2 + (1 : Int32)))]) ⟨rfl, rfl, rfl, trivial⟩ hx5
      refine r_icmp_le (tgt := 27) dX1_hardest_22 rfl (fun h10 => ?_) (fun h10 => ?_)
      · exact r_weak (L' := [some (vr (some 14)), some (vi z1.1), some (vi z1.2)]) ⟨rfl, rfl, rfl, trivial⟩ (J12 _ (Eq.symm (if_pos h10)))
      · refine r_iload_n dX1_hardest_25 rfl ?_
        refine r_istore_n dX1_hardest_26 (by decide) rfl ?_
        exact r_weak (L' := [some (vr (some 14)), some (vi z1.2), some (vi z1.2)]) ⟨rfl, rfl, rfl, trivial⟩ (J12 _ (Eq.symm (if_neg h10)))
  exact r_weak (L' := [some (vr (some 14)), some (vi (0 : Int32)), some (vi (1 : Int32))]) ⟨rfl, rfl, rfl, trivial⟩ J3w
noncomputable def m_X7_heartOf (a1 : Int32) (a2 : Int32) (mm : Mm) : Option (Int32) := grd a2 6 (grd a2 6 (grd ((a1 * (6 : Int32)) + a2) 36 (some (((mI mm 15 (ix a2)) + (((xshr (mI mm 17 (ix a2)) a1) &&& (1 : Int32)) * (2 : Int32))) + (mI mm 18 (ix ((a1 * (6 : Int32)) + a2)))))))
set_option maxHeartbeats 4000000 in
set_option maxRecDepth 100000 in
theorem c_X7_heartOf {l : Launch} {G : Gt} {S : Sk} {a1 : Int32} {a2 : Int32} {mm : Mm} (hS : Lay S) {q : Int32} (e : m_X7_heartOf a1 a2 mm = some q) : CallOK l G M_X7_heartOf yX7_heartOf 0 [vr (some 14), vi a1, vi a2] S mm (some (vi q)) S mm := by
  refine call_of_run rfl rfl rfl (Nat.le_of_ble_eq_true rfl) ?_
  show Run l G M_X7_heartOf 0 0 [some (vr (some 14)), some (vi a1), some (vi a2), none] [] S mm (some (vi q)) S mm
  unfold m_X7_heartOf at e
  refine r_aload_n dX7_heartOf_0 rfl ?_
  refine r_getR dX7_heartOf_1 fl_X7_25 rfl (lp_14 hS) (lq_14 hS) (lr_14_4 hS) ?_
  refine r_iload_n dX7_heartOf_4 rfl ?_
  obtain ⟨hg1, e⟩ := grd_some e
  refine r_iald dX7_heartOf_5 (lp_17 hS) (lk_17 hS) hg1 ?_
  refine r_iload_n dX7_heartOf_6 rfl ?_
  refine r_ishr dX7_heartOf_7 ?_
  refine r_iconst (v := 1) dX7_heartOf_8 ci_1 ?_
  refine r_iand dX7_heartOf_9 ?_
  refine r_iconst (v := 2) dX7_heartOf_10 ci_2 ?_
  refine r_imul dX7_heartOf_11 ?_
  refine r_istore_n dX7_heartOf_12 (by decide) rfl ?_
  refine r_aload_n dX7_heartOf_13 rfl ?_
  refine r_getR dX7_heartOf_14 fl_X7_18 rfl (lp_14 hS) (lq_14 hS) (lr_14_2 hS) ?_
  refine r_iload_n dX7_heartOf_17 rfl ?_
  obtain ⟨hg2, e⟩ := grd_some e
  refine r_iald dX7_heartOf_18 (lp_15 hS) (lk_15 hS) hg2 ?_
  refine r_iload_n dX7_heartOf_19 rfl ?_
  refine r_iadd dX7_heartOf_20 ?_
  refine r_aload_n dX7_heartOf_21 rfl ?_
  refine r_getR dX7_heartOf_22 fl_X7_28 rfl (lp_14 hS) (lq_14 hS) (lr_14_5 hS) ?_
  refine r_iload_n dX7_heartOf_25 rfl ?_
  refine r_bipush (v := 6) dX7_heartOf_26 cb_6 ?_
  refine r_imul dX7_heartOf_28 ?_
  refine r_iload_n dX7_heartOf_29 rfl ?_
  refine r_iadd dX7_heartOf_30 ?_
  obtain ⟨hg3, e⟩ := grd_some e
  refine r_iald dX7_heartOf_31 (lp_18 hS) (lk_18 hS) hg3 ?_
  refine r_iadd dX7_heartOf_32 ?_
  cases e
  exact r_ireturn dX7_heartOf_33 rfl rfl
noncomputable def m_X7_openTo_b5 (a1 : Int32) (a2 : Int32) (mm : Mm) (z1 : Int32 × Int32) : Option ((Int32 × Int32) ⊕ (Int32)) := if (mI mm 14 1) ≤ z1.2 then (some (.inr z1.1)) else (grd z1.2 12 ((if (mI mm 21 (ix z1.2)) = a1 then (if (m_X11_has a2 z1.2) = 0 then (grd z1.2 12 (if (m_X11_has z1.1 (mI mm 22 (ix z1.2))) = 0 then (some (1 : Int32)) else (some (0 : Int32)))) else (some (0 : Int32))) else (some (0 : Int32)) : Option (Int32)).bind (fun p9 => (if p9 = 0 then (some z1.1) else (grd z1.2 12 ((m_X7_heartOf (mI mm 20 (ix z1.2)) a1 mm).bind (fun q23 => grd z1.2 12 (grd (mI mm 22 (ix z1.2)) 8 (if q23 < (mI mm 19 (ix (mI mm 22 (ix z1.2)))) then (some z1.1) else (grd z1.2 12 (some (z1.1 ||| (xshl (1 : Int32) (mI mm 22 (ix z1.2))))))))))) : Option (Int32)).bind (fun p17 => some (.inl (p17, z1.2 + (1 : Int32)))))))
noncomputable def m_X7_openTo (a1 : Int32) (a2 : Int32) (mm : Mm) : Option (Int32) := (whileF FU (m_X7_openTo_b5 a1 a2 mm) ((0 : Int32), (0 : Int32))).bind (fun p2 => some p2)
set_option maxHeartbeats 4000000 in
set_option maxRecDepth 100000 in
theorem c_X7_openTo {l : Launch} {G : Gt} {S : Sk} {a1 : Int32} {a2 : Int32} {mm : Mm} (hS : Lay S) {q : Int32} (e : m_X7_openTo a1 a2 mm = some q) : CallOK l G M_X7_openTo yX7_openTo 1 [vr (some 14), vi a1, vi a2] S mm (some (vi q)) S mm := by
  refine call_of_run rfl rfl rfl (Nat.le_of_ble_eq_true rfl) ?_
  show Run l G M_X7_openTo 1 0 [some (vr (some 14)), some (vi a1), some (vi a2), none, none, none] [] S mm (some (vi q)) S mm
  unfold m_X7_openTo at e
  refine r_iconst (v := 0) dX7_openTo_0 ci_0 ?_
  refine r_istore_n dX7_openTo_1 (by decide) rfl ?_
  refine r_iconst (v := 0) dX7_openTo_2 ci_0 ?_
  refine r_istore dX7_openTo_3 (by decide) rfl ?_
  obtain ⟨p2, eb6w, e⟩ := obind e
  have J3a : Run l G M_X7_openTo 1 105 [none, none, none, some (vi p2), none, none] [] S mm (some (vi q)) S mm := by
    refine r_iload_n dX7_openTo_105 rfl ?_
    cases e
    exact r_ireturn dX7_openTo_106 rfl rfl
  have J3 : ∀ pp : Int32, pp = p2 → Run l G M_X7_openTo 1 105 [none, none, none, some (vi pp), none, none] [] S mm (some (vi q)) S mm := by
    intro pp hpp
    rw [hpp]
    exact J3a
  have J3w : Run l G M_X7_openTo 1 5 [some (vr (some 14)), some (vi a1), some (vi a2), some (vi (0 : Int32)), some (vi (0 : Int32)), none] [] S mm (some (vi q)) S mm := by
    refine while_run (s := ((0 : Int32), (0 : Int32))) (Gs := fun (z1 : Int32 × Int32) => Run l G M_X7_openTo 1 5 [some (vr (some 14)), some (vi a1), some (vi a2), some (vi z1.1), some (vi z1.2), none] [] S mm (some (vi q)) S mm) eb6w ?_
    intro z1 x4y eb6 hx5
    unfold m_X7_openTo_b5 at eb6
    refine r_iload dX7_openTo_5 rfl ?_
    refine r_aload_n dX7_openTo_7 rfl ?_
    refine r_getI dX7_openTo_8 fl_X7_15 rfl (lp_14 hS) (lq_14 hS) ?_
    refine r_icmp_ge (tgt := 105) dX7_openTo_11 rfl (fun h7 => ?_) (fun h7 => ?_)
    · replace eb6 := ite_t h7 eb6
      cases eb6
      exact r_weak (L' := [none, none, none, some (vi z1.1), none, none]) ⟨rfl, trivial⟩ (J3 _ hx5)
    · replace eb6 := ite_f h7 eb6
      refine r_aload_n dX7_openTo_14 rfl ?_
      refine r_getR dX7_openTo_15 fl_X7_37 rfl (lp_14 hS) (lq_14 hS) (lr_14_8 hS) ?_
      refine r_iload dX7_openTo_18 rfl ?_
      obtain ⟨hg8, eb6⟩ := grd_some eb6
      refine r_iald dX7_openTo_20 (lp_21 hS) (lk_21 hS) hg8 ?_
      refine r_iload_n dX7_openTo_21 rfl ?_
      obtain ⟨p9, ep11, eb6⟩ := obind eb6
      have J10a : Run l G M_X7_openTo 1 53 [some (vr (some 14)), some (vi a1), some (vi a2), some (vi z1.1), some (vi z1.2), none] [vi p9] S mm (some (vi q)) S mm := by
        refine r_istore dX7_openTo_53 (by decide) rfl ?_
        refine r_iload dX7_openTo_55 rfl ?_
        obtain ⟨p17, ep19, eb6⟩ := obind eb6
        have J18a : Run l G M_X7_openTo 1 99 [some (vr (some 14)), some (vi a1), some (vi a2), some (vi p17), some (vi z1.2), none] [] S mm (some (vi q)) S mm := by
          refine r_iinc (v := _ + (1 : Int32)) dX7_openTo_99 rfl (congrArg (_ + ·) ci_1) (by decide) rfl ?_
          refine r_goto (tgt := 5) dX7_openTo_102 rfl ?_
          cases eb6
          exact r_weak (L' := [some (vr (some 14)), some (vi a1), some (vi a2), some (vi p17), some (vi (z1.2 + (1 : Int32))), none]) ⟨rfl, rfl, rfl, rfl, rfl, trivial⟩ hx5
        have J18 : ∀ pp : Int32, pp = p17 → Run l G M_X7_openTo 1 99 [some (vr (some 14)), some (vi a1), some (vi a2), some (vi pp), some (vi z1.2), none] [] S mm (some (vi q)) S mm := by
          intro pp hpp
          rw [hpp]
          exact J18a
        refine r_if_eq (tgt := 99) dX7_openTo_57 rfl (fun h21 => ?_) (fun h21 => ?_)
        · replace ep19 := ite_t h21 ep19
          exact r_weak (L' := [some (vr (some 14)), some (vi a1), some (vi a2), some (vi z1.1), some (vi z1.2), none]) ⟨rfl, rfl, rfl, rfl, rfl, trivial⟩ (J18 _ (Option.some.inj ep19))
        · replace ep19 := ite_f h21 ep19
          refine r_aload_n dX7_openTo_60 rfl ?_
          refine r_aload_n dX7_openTo_61 rfl ?_
          refine r_getR dX7_openTo_62 fl_X7_34 rfl (lp_14 hS) (lq_14 hS) (lr_14_7 hS) ?_
          refine r_iload dX7_openTo_65 rfl ?_
          obtain ⟨hg22, ep19⟩ := grd_some ep19
          refine r_iald dX7_openTo_67 (lp_20 hS) (lk_20 hS) hg22 ?_
          refine r_iload_n dX7_openTo_68 rfl ?_
          obtain ⟨q23, eq24, ep19⟩ := obind ep19
          refine r_callV (as := [_, _]) (rest := []) dX7_openTo_69 ml_X7_75 yV_X7_heartOf (c_X7_heartOf hS eq24) (by decide) rfl (lp_14 hS) (lq_14 hS) (Nat.le_of_ble_eq_true rfl) ?_
          refine r_aload_n dX7_openTo_72 rfl ?_
          refine r_getR dX7_openTo_73 fl_X7_31 rfl (lp_14 hS) (lq_14 hS) (lr_14_6 hS) ?_
          refine r_aload_n dX7_openTo_76 rfl ?_
          refine r_getR dX7_openTo_77 fl_X7_40 rfl (lp_14 hS) (lq_14 hS) (lr_14_9 hS) ?_
          refine r_iload dX7_openTo_80 rfl ?_
          obtain ⟨hg25, ep19⟩ := grd_some ep19
          refine r_iald dX7_openTo_82 (lp_22 hS) (lk_22 hS) hg25 ?_
          obtain ⟨hg26, ep19⟩ := grd_some ep19
          refine r_iald dX7_openTo_83 (lp_19 hS) (lk_19 hS) hg26 ?_
          refine r_icmp_lt (tgt := 99) dX7_openTo_84 rfl (fun h27 => ?_) (fun h27 => ?_)
          · replace ep19 := ite_t h27 ep19
            exact r_weak (L' := [some (vr (some 14)), some (vi a1), some (vi a2), some (vi z1.1), some (vi z1.2), none]) ⟨rfl, rfl, rfl, rfl, rfl, trivial⟩ (J18 _ (Option.some.inj ep19))
          · replace ep19 := ite_f h27 ep19
            refine r_iload_n dX7_openTo_87 rfl ?_
            refine r_iconst (v := 1) dX7_openTo_88 ci_1 ?_
            refine r_aload_n dX7_openTo_89 rfl ?_
            refine r_getR dX7_openTo_90 fl_X7_40 rfl (lp_14 hS) (lq_14 hS) (lr_14_9 hS) ?_
            refine r_iload dX7_openTo_93 rfl ?_
            obtain ⟨hg28, ep19⟩ := grd_some ep19
            refine r_iald dX7_openTo_95 (lp_22 hS) (lk_22 hS) hg28 ?_
            refine r_ishl dX7_openTo_96 ?_
            refine r_ior dX7_openTo_97 ?_
            refine r_istore_n dX7_openTo_98 (by decide) rfl ?_
            exact r_weak (L' := [some (vr (some 14)), some (vi a1), some (vi a2), some (vi (z1.1 ||| (xshl (1 : Int32) (mI mm 22 (ix z1.2))))), some (vi z1.2), none]) ⟨rfl, rfl, rfl, rfl, rfl, trivial⟩ (J18 _ (Option.some.inj ep19))
      have J10 : ∀ pp : Int32, pp = p9 → Run l G M_X7_openTo 1 53 [some (vr (some 14)), some (vi a1), some (vi a2), some (vi z1.1), some (vi z1.2), none] [vi pp] S mm (some (vi q)) S mm := by
        intro pp hpp
        rw [hpp]
        exact J10a
      refine r_icmp_ne (tgt := 52) dX7_openTo_22 rfl (fun h13 => ?_) (fun h13 => ?_)
      · replace ep11 := ite_f h13 ep11
        refine r_iconst (v := 0) dX7_openTo_52 ci_0 ?_
        exact r_weak (L' := [some (vr (some 14)), some (vi a1), some (vi a2), some (vi z1.1), some (vi z1.2), none]) ⟨rfl, rfl, rfl, rfl, rfl, trivial⟩ (J10 _ (Option.some.inj ep11))
      · replace ep11 := ite_t h13 ep11
        refine r_iload_n dX7_openTo_25 rfl ?_
        refine r_iload dX7_openTo_26 rfl ?_
        refine r_callSN (as := [_, _]) (rest := []) dX7_openTo_28 nl_X7_79 yS_X11_has (c_X11_has) (by decide) rfl (Nat.le_of_ble_eq_true rfl) ?_
        refine r_if_ne (tgt := 52) dX7_openTo_31 rfl (fun h14 => ?_) (fun h14 => ?_)
        · replace ep11 := ite_f h14 ep11
          refine r_iconst (v := 0) dX7_openTo_52 ci_0 ?_
          exact r_weak (L' := [some (vr (some 14)), some (vi a1), some (vi a2), some (vi z1.1), some (vi z1.2), none]) ⟨rfl, rfl, rfl, rfl, rfl, trivial⟩ (J10 _ (Option.some.inj ep11))
        · replace ep11 := ite_t h14 ep11
          refine r_iload_n dX7_openTo_34 rfl ?_
          refine r_aload_n dX7_openTo_35 rfl ?_
          refine r_getR dX7_openTo_36 fl_X7_40 rfl (lp_14 hS) (lq_14 hS) (lr_14_9 hS) ?_
          refine r_iload dX7_openTo_39 rfl ?_
          obtain ⟨hg15, ep11⟩ := grd_some ep11
          refine r_iald dX7_openTo_41 (lp_22 hS) (lk_22 hS) hg15 ?_
          refine r_callSN (as := [_, _]) (rest := []) dX7_openTo_42 nl_X7_79 yS_X11_has (c_X11_has) (by decide) rfl (Nat.le_of_ble_eq_true rfl) ?_
          refine r_if_ne (tgt := 52) dX7_openTo_45 rfl (fun h16 => ?_) (fun h16 => ?_)
          · replace ep11 := ite_f h16 ep11
            refine r_iconst (v := 0) dX7_openTo_52 ci_0 ?_
            exact r_weak (L' := [some (vr (some 14)), some (vi a1), some (vi a2), some (vi z1.1), some (vi z1.2), none]) ⟨rfl, rfl, rfl, rfl, rfl, trivial⟩ (J10 _ (Option.some.inj ep11))
          · replace ep11 := ite_t h16 ep11
            refine r_iconst (v := 1) dX7_openTo_48 ci_1 ?_
            refine r_goto (tgt := 53) dX7_openTo_49 rfl ?_
            exact r_weak (L' := [some (vr (some 14)), some (vi a1), some (vi a2), some (vi z1.1), some (vi z1.2), none]) ⟨rfl, rfl, rfl, rfl, rfl, trivial⟩ (J10 _ (Option.some.inj ep11))
  exact r_weak (L' := [some (vr (some 14)), some (vi a1), some (vi a2), some (vi (0 : Int32)), some (vi (0 : Int32)), none]) ⟨rfl, rfl, rfl, rfl, rfl, trivial⟩ J3w
noncomputable def m_X7_keptOf (a1 : Int32) (a2 : Int32) (mm : Mm) : Option (Int32) := if a2 < 0 then (some (0 : Int32)) else (if (4 : Int32) < a2 then (some (0 : Int32)) else (if a1 < 0 then (some (0 : Int32)) else (if a1 ≤ (255 : Int32) then (if (1280 : Int32) ≤ ((a2 * (256 : Int32)) + a1) then (some (0 : Int32)) else (grd ((a2 * (256 : Int32)) + a1) 1280 (some (mI mm 23 (ix ((a2 * (256 : Int32)) + a1)))))) else (some (0 : Int32)))))
set_option maxHeartbeats 4000000 in
set_option maxRecDepth 100000 in
theorem c_X7_keptOf {l : Launch} {G : Gt} {S : Sk} {a1 : Int32} {a2 : Int32} {mm : Mm} (hS : Lay S) {q : Int32} (e : m_X7_keptOf a1 a2 mm = some q) : CallOK l G M_X7_keptOf yX7_keptOf 0 [vr (some 14), vi a1, vi a2] S mm (some (vi q)) S mm := by
  refine call_of_run rfl rfl rfl (Nat.le_of_ble_eq_true rfl) ?_
  show Run l G M_X7_keptOf 0 0 [some (vr (some 14)), some (vi a1), some (vi a2), none] [] S mm (some (vi q)) S mm
  unfold m_X7_keptOf at e
  refine r_iload_n dX7_keptOf_0 rfl ?_
  refine r_if_lt (tgt := 20) dX7_keptOf_1 rfl (fun h1 => ?_) (fun h1 => ?_)
  · replace e := ite_t h1 e
    refine r_iconst (v := 0) dX7_keptOf_20 ci_0 ?_
    cases e
    exact r_ireturn dX7_keptOf_21 rfl rfl
  · replace e := ite_f h1 e
    refine r_iload_n dX7_keptOf_4 rfl ?_
    refine r_iconst (v := 4) dX7_keptOf_5 ci_4 ?_
    refine r_icmp_gt (tgt := 20) dX7_keptOf_6 rfl (fun h2 => ?_) (fun h2 => ?_)
    · replace e := ite_t h2 e
      refine r_iconst (v := 0) dX7_keptOf_20 ci_0 ?_
      cases e
      exact r_ireturn dX7_keptOf_21 rfl rfl
    · replace e := ite_f h2 e
      refine r_iload_n dX7_keptOf_9 rfl ?_
      refine r_if_lt (tgt := 20) dX7_keptOf_10 rfl (fun h3 => ?_) (fun h3 => ?_)
      · replace e := ite_t h3 e
        refine r_iconst (v := 0) dX7_keptOf_20 ci_0 ?_
        cases e
        exact r_ireturn dX7_keptOf_21 rfl rfl
      · replace e := ite_f h3 e
        refine r_iload_n dX7_keptOf_13 rfl ?_
        refine r_sipush (v := 255) dX7_keptOf_14 cs_255 ?_
        refine r_icmp_le (tgt := 22) dX7_keptOf_17 rfl (fun h4 => ?_) (fun h4 => ?_)
        · replace e := ite_t h4 e
          refine r_iload_n dX7_keptOf_22 rfl ?_
          refine r_sipush (v := 256) dX7_keptOf_23 cs_256 ?_
          refine r_imul dX7_keptOf_26 ?_
          refine r_iload_n dX7_keptOf_27 rfl ?_
          refine r_iadd dX7_keptOf_28 ?_
          refine r_istore_n dX7_keptOf_29 (by decide) rfl ?_
          refine r_iload_n dX7_keptOf_30 rfl ?_
          refine r_aload_n dX7_keptOf_31 rfl ?_
          refine r_getR dX7_keptOf_32 fl_X7_43 rfl (lp_14 hS) (lq_14 hS) (lr_14_10 hS) ?_
          refine r_alen (v := 1280) dX7_keptOf_35 (lp_23 hS) (lk_23 hS) (by decide) (by decide) (by decide) ?_
          refine r_icmp_ge (tgt := 48) dX7_keptOf_36 rfl (fun h5 => ?_) (fun h5 => ?_)
          · replace e := ite_t h5 e
            refine r_iconst (v := 0) dX7_keptOf_48 ci_0 ?_
            cases e
            exact r_ireturn dX7_keptOf_49 rfl rfl
          · replace e := ite_f h5 e
            refine r_aload_n dX7_keptOf_39 rfl ?_
            refine r_getR dX7_keptOf_40 fl_X7_43 rfl (lp_14 hS) (lq_14 hS) (lr_14_10 hS) ?_
            refine r_iload_n dX7_keptOf_43 rfl ?_
            obtain ⟨hg6, e⟩ := grd_some e
            refine r_iald dX7_keptOf_44 (lp_23 hS) (lk_23 hS) hg6 ?_
            refine r_goto (tgt := 49) dX7_keptOf_45 rfl ?_
            cases e
            exact r_ireturn dX7_keptOf_49 rfl rfl
        · replace e := ite_f h4 e
          refine r_iconst (v := 0) dX7_keptOf_20 ci_0 ?_
          cases e
          exact r_ireturn dX7_keptOf_21 rfl rfl
noncomputable def m_X7_brokenOaths_b33 (mm : Mm) (z1 : Int32 × Int32) (q11 : Int32) (z13 : Int32 × Int32) : Option ((Int32 × Int32) ⊕ (Int32)) := if (mI mm 14 1) ≤ z13.2 then (some (.inr z13.1)) else (grd z13.2 12 ((if (mI mm 21 (ix z13.2)) = z1.2 then (grd z13.2 12 (if (m_X11_has q11 (mI mm 22 (ix z13.2))) = 0 then (some (z13.1 ||| (xshl (1 : Int32) z13.2))) else (some z13.1))) else (some z13.1) : Option (Int32)).bind (fun p21 => some (.inl (p21, z13.2 + (1 : Int32))))))
noncomputable def m_X7_brokenOaths_b4 (a1 : Int32) (mm : Mm) (z1 : Int32 × Int32) : Option ((Int32 × Int32) ⊕ (Int32)) := if (mI mm 14 0) ≤ z1.2 then (some (.inr z1.1)) else ((m_X7_openTo z1.2 a1 mm).bind (fun q8 => grd z1.2 6 ((m_X7_keptOf q8 (mI mm 16 (ix z1.2)) mm).bind (fun q11 => (whileF FU (m_X7_brokenOaths_b33 mm z1 q11) (z1.1, (0 : Int32))).bind (fun p14 => some (.inl (p14, z1.2 + (1 : Int32))))))))
noncomputable def m_X7_brokenOaths (a1 : Int32) (mm : Mm) : Option (Int32) := (whileF FU (m_X7_brokenOaths_b4 a1 mm) ((0 : Int32), (0 : Int32))).bind (fun p2 => some (p2 &&& (a1 ^^^ (-1 : Int32))))
set_option maxHeartbeats 4000000 in
set_option maxRecDepth 100000 in
theorem c_X7_brokenOaths {l : Launch} {G : Gt} {S : Sk} {a1 : Int32} {mm : Mm} (hS : Lay S) {q : Int32} (e : m_X7_brokenOaths a1 mm = some q) : CallOK l G M_X7_brokenOaths yX7_brokenOaths 2 [vr (some 14), vi a1] S mm (some (vi q)) S mm := by
  refine call_of_run rfl rfl rfl (Nat.le_of_ble_eq_true rfl) ?_
  show Run l G M_X7_brokenOaths 2 0 [some (vr (some 14)), some (vi a1), none, none, none, none] [] S mm (some (vi q)) S mm
  unfold m_X7_brokenOaths at e
  refine r_iconst (v := 0) dX7_brokenOaths_0 ci_0 ?_
  refine r_istore_n dX7_brokenOaths_1 (by decide) rfl ?_
  refine r_iconst (v := 0) dX7_brokenOaths_2 ci_0 ?_
  refine r_istore_n dX7_brokenOaths_3 (by decide) rfl ?_
  obtain ⟨p2, eb6w, e⟩ := obind e
  have J3a : Run l G M_X7_brokenOaths 2 87 [none, some (vi a1), some (vi p2), none, none, none] [] S mm (some (vi q)) S mm := by
    refine r_iload_n dX7_brokenOaths_87 rfl ?_
    refine r_iload_n dX7_brokenOaths_88 rfl ?_
    refine r_iconst (v := -1) dX7_brokenOaths_89 ci_m1 ?_
    refine r_ixor dX7_brokenOaths_90 ?_
    refine r_iand dX7_brokenOaths_91 ?_
    cases e
    exact r_ireturn dX7_brokenOaths_92 rfl rfl
  have J3 : ∀ pp : Int32, pp = p2 → Run l G M_X7_brokenOaths 2 87 [none, some (vi a1), some (vi pp), none, none, none] [] S mm (some (vi q)) S mm := by
    intro pp hpp
    rw [hpp]
    exact J3a
  have J3w : Run l G M_X7_brokenOaths 2 4 [some (vr (some 14)), some (vi a1), some (vi (0 : Int32)), some (vi (0 : Int32)), none, none] [] S mm (some (vi q)) S mm := by
    refine while_run (s := ((0 : Int32), (0 : Int32))) (Gs := fun (z1 : Int32 × Int32) => Run l G M_X7_brokenOaths 2 4 [some (vr (some 14)), some (vi a1), some (vi z1.1), some (vi z1.2), none, none] [] S mm (some (vi q)) S mm) eb6w ?_
    intro z1 x4y eb6 hx5
    unfold m_X7_brokenOaths_b4 at eb6
    refine r_iload_n dX7_brokenOaths_4 rfl ?_
    refine r_aload_n dX7_brokenOaths_5 rfl ?_
    refine r_getI dX7_brokenOaths_6 fl_X7_9 rfl (lp_14 hS) (lq_14 hS) ?_
    refine r_icmp_ge (tgt := 87) dX7_brokenOaths_9 rfl (fun h7 => ?_) (fun h7 => ?_)
    · replace eb6 := ite_t h7 eb6
      cases eb6
      exact r_weak (L' := [none, some (vi a1), some (vi z1.1), none, none, none]) ⟨rfl, rfl, trivial⟩ (J3 _ hx5)
    · replace eb6 := ite_f h7 eb6
      refine r_aload_n dX7_brokenOaths_12 rfl ?_
      refine r_aload_n dX7_brokenOaths_13 rfl ?_
      refine r_iload_n dX7_brokenOaths_14 rfl ?_
      refine r_iload_n dX7_brokenOaths_15 rfl ?_
      obtain ⟨q8, eq9, eb6⟩ := obind eb6
      refine r_callV (as := [_, _]) (rest := [_]) dX7_brokenOaths_16 ml_X7_83 yV_X7_openTo (c_X7_openTo hS eq9) (by decide) rfl (lp_14 hS) (lq_14 hS) (Nat.le_of_ble_eq_true rfl) ?_
      refine r_aload_n dX7_brokenOaths_19 rfl ?_
      refine r_getR dX7_brokenOaths_20 fl_X7_22 rfl (lp_14 hS) (lq_14 hS) (lr_14_3 hS) ?_
      refine r_iload_n dX7_brokenOaths_23 rfl ?_
      obtain ⟨hg10, eb6⟩ := grd_some eb6
      refine r_iald dX7_brokenOaths_24 (lp_16 hS) (lk_16 hS) hg10 ?_
      obtain ⟨q11, eq12, eb6⟩ := obind eb6
      refine r_callV (as := [_, _]) (rest := []) dX7_brokenOaths_25 ml_X7_86 yV_X7_keptOf (c_X7_keptOf hS eq12) (by decide) rfl (lp_14 hS) (lq_14 hS) (Nat.le_of_ble_eq_true rfl) ?_
      refine r_istore dX7_brokenOaths_28 (by decide) rfl ?_
      refine r_iconst (v := 0) dX7_brokenOaths_30 ci_0 ?_
      refine r_istore dX7_brokenOaths_31 (by decide) rfl ?_
      obtain ⟨p14, eb18w, eb6⟩ := obind eb6
      have J15a : Run l G M_X7_brokenOaths 2 81 [some (vr (some 14)), some (vi a1), some (vi p14), some (vi z1.2), none, none] [] S mm (some (vi q)) S mm := by
        refine r_iinc (v := _ + (1 : Int32)) dX7_brokenOaths_81 rfl (congrArg (_ + ·) ci_1) (by decide) rfl ?_
        refine r_goto (tgt := 4) dX7_brokenOaths_84 rfl ?_
        cases eb6
        exact r_weak (L' := [some (vr (some 14)), some (vi a1), some (vi p14), some (vi (z1.2 + (1 : Int32))), none, none]) ⟨rfl, rfl, rfl, rfl, trivial⟩ hx5
      have J15 : ∀ pp : Int32, pp = p14 → Run l G M_X7_brokenOaths 2 81 [some (vr (some 14)), some (vi a1), some (vi pp), some (vi z1.2), none, none] [] S mm (some (vi q)) S mm := by
        intro pp hpp
        rw [hpp]
        exact J15a
      have J15w : Run l G M_X7_brokenOaths 2 33 [some (vr (some 14)), some (vi a1), some (vi z1.1), some (vi z1.2), some (vi q11), some (vi (0 : Int32))] [] S mm (some (vi q)) S mm := by
        refine while_run (s := (z1.1, (0 : Int32))) (Gs := fun (z13 : Int32 × Int32) => Run l G M_X7_brokenOaths 2 33 [some (vr (some 14)), some (vi a1), some (vi z13.1), some (vi z1.2), some (vi q11), some (vi z13.2)] [] S mm (some (vi q)) S mm) eb18w ?_
        intro z13 x16y eb18 hx17
        unfold m_X7_brokenOaths_b33 at eb18
        refine r_iload dX7_brokenOaths_33 rfl ?_
        refine r_aload_n dX7_brokenOaths_35 rfl ?_
        refine r_getI dX7_brokenOaths_36 fl_X7_15 rfl (lp_14 hS) (lq_14 hS) ?_
        refine r_icmp_ge (tgt := 81) dX7_brokenOaths_39 rfl (fun h19 => ?_) (fun h19 => ?_)
        · replace eb18 := ite_t h19 eb18
          cases eb18
          exact r_weak (L' := [some (vr (some 14)), some (vi a1), some (vi z13.1), some (vi z1.2), none, none]) ⟨rfl, rfl, rfl, rfl, trivial⟩ (J15 _ hx17)
        · replace eb18 := ite_f h19 eb18
          refine r_aload_n dX7_brokenOaths_42 rfl ?_
          refine r_getR dX7_brokenOaths_43 fl_X7_37 rfl (lp_14 hS) (lq_14 hS) (lr_14_8 hS) ?_
          refine r_iload dX7_brokenOaths_46 rfl ?_
          obtain ⟨hg20, eb18⟩ := grd_some eb18
          refine r_iald dX7_brokenOaths_48 (lp_21 hS) (lk_21 hS) hg20 ?_
          refine r_iload_n dX7_brokenOaths_49 rfl ?_
          obtain ⟨p21, ep23, eb18⟩ := obind eb18
          have J22a : Run l G M_X7_brokenOaths 2 75 [some (vr (some 14)), some (vi a1), some (vi p21), some (vi z1.2), some (vi q11), some (vi z13.2)] [] S mm (some (vi q)) S mm := by
            refine r_iinc (v := _ + (1 : Int32)) dX7_brokenOaths_75 rfl (congrArg (_ + ·) ci_1) (by decide) rfl ?_
            refine r_goto (tgt := 33) dX7_brokenOaths_78 rfl ?_
            cases eb18
            exact r_weak (L' := [some (vr (some 14)), some (vi a1), some (vi p21), some (vi z1.2), some (vi q11), some (vi (z13.2 + (1 : Int32)))]) ⟨rfl, rfl, rfl, rfl, rfl, rfl, trivial⟩ hx17
          have J22 : ∀ pp : Int32, pp = p21 → Run l G M_X7_brokenOaths 2 75 [some (vr (some 14)), some (vi a1), some (vi pp), some (vi z1.2), some (vi q11), some (vi z13.2)] [] S mm (some (vi q)) S mm := by
            intro pp hpp
            rw [hpp]
            exact J22a
          refine r_icmp_ne (tgt := 75) dX7_brokenOaths_50 rfl (fun h25 => ?_) (fun h25 => ?_)
          · replace ep23 := ite_f h25 ep23
            exact r_weak (L' := [some (vr (some 14)), some (vi a1), some (vi z13.1), some (vi z1.2), some (vi q11), some (vi z13.2)]) ⟨rfl, rfl, rfl, rfl, rfl, rfl, trivial⟩ (J22 _ (Option.some.inj ep23))
          · replace ep23 := ite_t h25 ep23
            refine r_iload dX7_brokenOaths_53 rfl ?_
            refine r_aload_n dX7_brokenOaths_55 rfl ?_
            refine r_getR dX7_brokenOaths_56 fl_X7_40 rfl (lp_14 hS) (lq_14 hS) (lr_14_9 hS) ?_
            refine r_iload dX7_brokenOaths_59 rfl ?_
            obtain ⟨hg26, ep23⟩ := grd_some ep23
            refine r_iald dX7_brokenOaths_61 (lp_22 hS) (lk_22 hS) hg26 ?_
            refine r_callSN (as := [_, _]) (rest := []) dX7_brokenOaths_62 nl_X7_79 yS_X11_has (c_X11_has) (by decide) rfl (Nat.le_of_ble_eq_true rfl) ?_
            refine r_if_ne (tgt := 75) dX7_brokenOaths_65 rfl (fun h27 => ?_) (fun h27 => ?_)
            · replace ep23 := ite_f h27 ep23
              exact r_weak (L' := [some (vr (some 14)), some (vi a1), some (vi z13.1), some (vi z1.2), some (vi q11), some (vi z13.2)]) ⟨rfl, rfl, rfl, rfl, rfl, rfl, trivial⟩ (J22 _ (Option.some.inj ep23))
            · replace ep23 := ite_t h27 ep23
              refine r_iload_n dX7_brokenOaths_68 rfl ?_
              refine r_iconst (v := 1) dX7_brokenOaths_69 ci_1 ?_
              refine r_iload dX7_brokenOaths_70 rfl ?_
              refine r_ishl dX7_brokenOaths_72 ?_
              refine r_ior dX7_brokenOaths_73 ?_
              refine r_istore_n dX7_brokenOaths_74 (by decide) rfl ?_
              exact r_weak (L' := [some (vr (some 14)), some (vi a1), some (vi (z13.1 ||| (xshl (1 : Int32) z13.2))), some (vi z1.2), some (vi q11), some (vi z13.2)]) ⟨rfl, rfl, rfl, rfl, rfl, rfl, trivial⟩ (J22 _ (Option.some.inj ep23))
      exact r_weak (L' := [some (vr (some 14)), some (vi a1), some (vi z1.1), some (vi z1.2), some (vi q11), some (vi (0 : Int32))]) ⟨rfl, rfl, rfl, rfl, rfl, rfl, trivial⟩ J15w
  exact r_weak (L' := [some (vr (some 14)), some (vi a1), some (vi (0 : Int32)), some (vi (0 : Int32)), none, none]) ⟨rfl, rfl, rfl, rfl, trivial⟩ J3w
noncomputable def m_J6_bitCount_0f7a4 (a0 : Int32) : Int32 := (((((((a0 - ((xushr a0 (1 : Int32)) &&& (1431655765 : Int32))) &&& (858993459 : Int32)) + ((xushr (a0 - ((xushr a0 (1 : Int32)) &&& (1431655765 : Int32))) (2 : Int32)) &&& (858993459 : Int32))) + (xushr (((a0 - ((xushr a0 (1 : Int32)) &&& (1431655765 : Int32))) &&& (858993459 : Int32)) + ((xushr (a0 - ((xushr a0 (1 : Int32)) &&& (1431655765 : Int32))) (2 : Int32)) &&& (858993459 : Int32))) (4 : Int32))) &&& (252645135 : Int32)) + (xushr (((((a0 - ((xushr a0 (1 : Int32)) &&& (1431655765 : Int32))) &&& (858993459 : Int32)) + ((xushr (a0 - ((xushr a0 (1 : Int32)) &&& (1431655765 : Int32))) (2 : Int32)) &&& (858993459 : Int32))) + (xushr (((a0 - ((xushr a0 (1 : Int32)) &&& (1431655765 : Int32))) &&& (858993459 : Int32)) + ((xushr (a0 - ((xushr a0 (1 : Int32)) &&& (1431655765 : Int32))) (2 : Int32)) &&& (858993459 : Int32))) (4 : Int32))) &&& (252645135 : Int32)) (8 : Int32))) + (xushr ((((((a0 - ((xushr a0 (1 : Int32)) &&& (1431655765 : Int32))) &&& (858993459 : Int32)) + ((xushr (a0 - ((xushr a0 (1 : Int32)) &&& (1431655765 : Int32))) (2 : Int32)) &&& (858993459 : Int32))) + (xushr (((a0 - ((xushr a0 (1 : Int32)) &&& (1431655765 : Int32))) &&& (858993459 : Int32)) + ((xushr (a0 - ((xushr a0 (1 : Int32)) &&& (1431655765 : Int32))) (2 : Int32)) &&& (858993459 : Int32))) (4 : Int32))) &&& (252645135 : Int32)) + (xushr (((((a0 - ((xushr a0 (1 : Int32)) &&& (1431655765 : Int32))) &&& (858993459 : Int32)) + ((xushr (a0 - ((xushr a0 (1 : Int32)) &&& (1431655765 : Int32))) (2 : Int32)) &&& (858993459 : Int32))) + (xushr (((a0 - ((xushr a0 (1 : Int32)) &&& (1431655765 : Int32))) &&& (858993459 : Int32)) + ((xushr (a0 - ((xushr a0 (1 : Int32)) &&& (1431655765 : Int32))) (2 : Int32)) &&& (858993459 : Int32))) (4 : Int32))) &&& (252645135 : Int32)) (8 : Int32))) (16 : Int32))) &&& (63 : Int32)
set_option maxHeartbeats 4000000 in
set_option maxRecDepth 100000 in
theorem c_J6_bitCount_0f7a4 {l : Launch} {G : Gt} {S : Sk} {a0 : Int32} {mm : Mm} : CallOK l G M_J6_bitCount_0f7a4 yJ6_bitCount_0f7a4 0 [vi a0] S mm (some (vi (m_J6_bitCount_0f7a4 a0))) S mm := by
  refine call_of_run rfl rfl rfl (Nat.le_of_ble_eq_true rfl) ?_
  show Run l G M_J6_bitCount_0f7a4 0 0 [some (vi a0)] [] S mm (some (vi (m_J6_bitCount_0f7a4 a0))) S mm
  generalize e : m_J6_bitCount_0f7a4 a0 = q
  unfold m_J6_bitCount_0f7a4 at e
  refine r_iload_n dJ6_bitCount_0f7a4_0 rfl ?_
  refine r_iload_n dJ6_bitCount_0f7a4_1 rfl ?_
  refine r_iconst (v := 1) dJ6_bitCount_0f7a4_2 ci_1 ?_
  refine r_iushr dJ6_bitCount_0f7a4_3 ?_
  refine r_ldcw dJ6_bitCount_0f7a4_4 ct_J6_265 ?_
  refine r_iand dJ6_bitCount_0f7a4_7 ?_
  refine r_isub dJ6_bitCount_0f7a4_8 ?_
  refine r_istore_n dJ6_bitCount_0f7a4_9 (by decide) rfl ?_
  refine r_iload_n dJ6_bitCount_0f7a4_10 rfl ?_
  refine r_ldcw dJ6_bitCount_0f7a4_11 ct_J6_266 ?_
  refine r_iand dJ6_bitCount_0f7a4_14 ?_
  refine r_iload_n dJ6_bitCount_0f7a4_15 rfl ?_
  refine r_iconst (v := 2) dJ6_bitCount_0f7a4_16 ci_2 ?_
  refine r_iushr dJ6_bitCount_0f7a4_17 ?_
  refine r_ldcw dJ6_bitCount_0f7a4_18 ct_J6_266 ?_
  refine r_iand dJ6_bitCount_0f7a4_21 ?_
  refine r_iadd dJ6_bitCount_0f7a4_22 ?_
  refine r_istore_n dJ6_bitCount_0f7a4_23 (by decide) rfl ?_
  refine r_iload_n dJ6_bitCount_0f7a4_24 rfl ?_
  refine r_iload_n dJ6_bitCount_0f7a4_25 rfl ?_
  refine r_iconst (v := 4) dJ6_bitCount_0f7a4_26 ci_4 ?_
  refine r_iushr dJ6_bitCount_0f7a4_27 ?_
  refine r_iadd dJ6_bitCount_0f7a4_28 ?_
  refine r_ldcw dJ6_bitCount_0f7a4_29 ct_J6_267 ?_
  refine r_iand dJ6_bitCount_0f7a4_32 ?_
  refine r_istore_n dJ6_bitCount_0f7a4_33 (by decide) rfl ?_
  refine r_iload_n dJ6_bitCount_0f7a4_34 rfl ?_
  refine r_iload_n dJ6_bitCount_0f7a4_35 rfl ?_
  refine r_bipush (v := 8) dJ6_bitCount_0f7a4_36 cb_8 ?_
  refine r_iushr dJ6_bitCount_0f7a4_38 ?_
  refine r_iadd dJ6_bitCount_0f7a4_39 ?_
  refine r_istore_n dJ6_bitCount_0f7a4_40 (by decide) rfl ?_
  refine r_iload_n dJ6_bitCount_0f7a4_41 rfl ?_
  refine r_iload_n dJ6_bitCount_0f7a4_42 rfl ?_
  refine r_bipush (v := 16) dJ6_bitCount_0f7a4_43 cb_16 ?_
  refine r_iushr dJ6_bitCount_0f7a4_45 ?_
  refine r_iadd dJ6_bitCount_0f7a4_46 ?_
  refine r_istore_n dJ6_bitCount_0f7a4_47 (by decide) rfl ?_
  refine r_iload_n dJ6_bitCount_0f7a4_48 rfl ?_
  refine r_bipush (v := 63) dJ6_bitCount_0f7a4_49 cb_63 ?_
  refine r_iand dJ6_bitCount_0f7a4_51 ?_
  cases e
  exact r_ireturn dJ6_bitCount_0f7a4_52 rfl rfl
noncomputable def m_X1_spoilers_b10 (mm : Mm) (q1 : Int32) (z3 : Int32 × Int32) : Option ((Int32 × Int32) ⊕ (Int32)) := if (mI mm 14 1) ≤ z3.2 then (some (.inr z3.1)) else ((m_X7_brokenOaths (xshl (1 : Int32) z3.2) mm).bind (fun q10 => some (.inl ((if (m_J6_bitCount_0f7a4 (q1 &&& ((xshl (1 : Int32) z3.2) ^^^ (-1 : Int32)))) ≤ (m_J6_bitCount_0f7a4 q10) then z3.1 else z3.1 ||| (xshl (1 : Int32) z3.2)), z3.2 + (1 : Int32)))))
noncomputable def m_X1_spoilers (mm : Mm) : Option (Int32) := (m_X7_brokenOaths (0 : Int32) mm).bind (fun q1 => (whileF FU (m_X1_spoilers_b10 mm q1) ((0 : Int32), (0 : Int32))).bind (fun p4 => some p4))
set_option maxHeartbeats 4000000 in
set_option maxRecDepth 100000 in
theorem c_X1_spoilers {l : Launch} {G : Gt} {S : Sk} {mm : Mm} (hS : Lay S) {q : Int32} (e : m_X1_spoilers mm = some q) : CallOK l G M_X1_spoilers yX1_spoilers 3 [vr (some 14)] S mm (some (vi q)) S mm := by
  refine call_of_run rfl rfl rfl (Nat.le_of_ble_eq_true rfl) ?_
  show Run l G M_X1_spoilers 3 0 [some (vr (some 14)), none, none, none, none] [] S mm (some (vi q)) S mm
  unfold m_X1_spoilers at e
  refine r_aload_n dX1_spoilers_0 rfl ?_
  refine r_iconst (v := 0) dX1_spoilers_1 ci_0 ?_
  obtain ⟨q1, eq2, e⟩ := obind e
  refine r_callV (as := [_]) (rest := []) dX1_spoilers_2 ml_X1_34 yV_X7_brokenOaths (c_X7_brokenOaths hS eq2) (by decide) rfl (lp_14 hS) (lq_14 hS) (Nat.le_of_ble_eq_true rfl) ?_
  refine r_istore_n dX1_spoilers_5 (by decide) rfl ?_
  refine r_iconst (v := 0) dX1_spoilers_6 ci_0 ?_
  refine r_istore_n dX1_spoilers_7 (by decide) rfl ?_
  refine r_iconst (v := 0) dX1_spoilers_8 ci_0 ?_
  refine r_istore_n dX1_spoilers_9 (by decide) rfl ?_
  obtain ⟨p4, eb8w, e⟩ := obind e
  have J5a : Run l G M_X1_spoilers 3 57 [none, none, some (vi p4), none, none] [] S mm (some (vi q)) S mm := by
    refine r_iload_n dX1_spoilers_57 rfl ?_
    cases e
    exact r_ireturn dX1_spoilers_58 rfl rfl
  have J5 : ∀ pp : Int32, pp = p4 → Run l G M_X1_spoilers 3 57 [none, none, some (vi pp), none, none] [] S mm (some (vi q)) S mm := by
    intro pp hpp
    rw [hpp]
    exact J5a
  have J5w : Run l G M_X1_spoilers 3 10 [some (vr (some 14)), some (vi q1), some (vi (0 : Int32)), some (vi (0 : Int32)), none] [] S mm (some (vi q)) S mm := by
    refine while_run (s := ((0 : Int32), (0 : Int32))) (Gs := fun (z3 : Int32 × Int32) => Run l G M_X1_spoilers 3 10 [some (vr (some 14)), some (vi q1), some (vi z3.1), some (vi z3.2), none] [] S mm (some (vi q)) S mm) eb8w ?_
    intro z3 x6y eb8 hx7
    unfold m_X1_spoilers_b10 at eb8
    refine r_iload_n dX1_spoilers_10 rfl ?_
    refine r_aload_n dX1_spoilers_11 rfl ?_
    refine r_getI dX1_spoilers_12 fl_X1_29 rfl (lp_14 hS) (lq_14 hS) ?_
    refine r_icmp_ge (tgt := 57) dX1_spoilers_15 rfl (fun h9 => ?_) (fun h9 => ?_)
    · replace eb8 := ite_t h9 eb8
      cases eb8
      exact r_weak (L' := [none, none, some (vi z3.1), none, none]) ⟨rfl, trivial⟩ (J5 _ hx7)
    · replace eb8 := ite_f h9 eb8
      refine r_iload_n dX1_spoilers_18 rfl ?_
      refine r_iconst (v := 1) dX1_spoilers_19 ci_1 ?_
      refine r_iload_n dX1_spoilers_20 rfl ?_
      refine r_ishl dX1_spoilers_21 ?_
      refine r_iconst (v := -1) dX1_spoilers_22 ci_m1 ?_
      refine r_ixor dX1_spoilers_23 ?_
      refine r_iand dX1_spoilers_24 ?_
      refine r_callS (as := [_]) (rest := []) dX1_spoilers_25 ml_X1_55 yS_J6_bitCount_0f7a4 (c_J6_bitCount_0f7a4) (by decide) rfl (Nat.le_of_ble_eq_true rfl) ?_
      refine r_istore dX1_spoilers_28 (by decide) rfl ?_
      refine r_aload_n dX1_spoilers_30 rfl ?_
      refine r_iconst (v := 1) dX1_spoilers_31 ci_1 ?_
      refine r_iload_n dX1_spoilers_32 rfl ?_
      refine r_ishl dX1_spoilers_33 ?_
      obtain ⟨q10, eq11, eb8⟩ := obind eb8
      refine r_callV (as := [_]) (rest := []) dX1_spoilers_34 ml_X1_34 yV_X7_brokenOaths (c_X7_brokenOaths hS eq11) (by decide) rfl (lp_14 hS) (lq_14 hS) (Nat.le_of_ble_eq_true rfl) ?_
      refine r_callS (as := [_]) (rest := []) dX1_spoilers_37 ml_X1_55 yS_J6_bitCount_0f7a4 (c_J6_bitCount_0f7a4) (by decide) rfl (Nat.le_of_ble_eq_true rfl) ?_
      refine r_iload dX1_spoilers_40 rfl ?_
      have J14 : ∀ (w13 : Int32), w13 = (if (m_J6_bitCount_0f7a4 (q1 &&& ((xshl (1 : Int32) z3.2) ^^^ (-1 : Int32)))) ≤ (m_J6_bitCount_0f7a4 q10) then z3.1 else z3.1 ||| (xshl (1 : Int32) z3.2)) → Run l G M_X1_spoilers 3 51 [some (vr (some 14)), some (vi q1), some (vi w13), some (vi z3.2), none] [] S mm (some (vi q)) S mm := by
        intro w13 hw15
        subst hw15
        refine r_iinc (v := _ + (1 : Int32)) dX1_spoilers_51 rfl (congrArg (_ + ·) ci_1) (by decide) rfl ?_
        refine r_goto (tgt := 10) dX1_spoilers_54 rfl ?_
        cases eb8
        exact r_weak (L' := [some (vr (some 14)), some (vi q1), some (vi (if (m_J6_bitCount_0f7a4 (q1 &&& ((xshl (1 : Int32) z3.2) ^^^ (-1 : Int32)))) ≤ (m_J6_bitCount_0f7a4 q10) then z3.1 else z3.1 ||| (xshl (1 : Int32) z3.2))), some (vi (z3.2 + (1 : Int32))), none]) ⟨rfl, rfl, rfl, rfl, trivial⟩ hx7
      refine r_icmp_ge (tgt := 51) dX1_spoilers_42 rfl (fun h12 => ?_) (fun h12 => ?_)
      · exact r_weak (L' := [some (vr (some 14)), some (vi q1), some (vi z3.1), some (vi z3.2), none]) ⟨rfl, rfl, rfl, rfl, trivial⟩ (J14 _ (Eq.symm (if_pos h12)))
      · refine r_iload_n dX1_spoilers_45 rfl ?_
        refine r_iconst (v := 1) dX1_spoilers_46 ci_1 ?_
        refine r_iload_n dX1_spoilers_47 rfl ?_
        refine r_ishl dX1_spoilers_48 ?_
        refine r_ior dX1_spoilers_49 ?_
        refine r_istore_n dX1_spoilers_50 (by decide) rfl ?_
        exact r_weak (L' := [some (vr (some 14)), some (vi q1), some (vi (z3.1 ||| (xshl (1 : Int32) z3.2))), some (vi z3.2), none]) ⟨rfl, rfl, rfl, rfl, trivial⟩ (J14 _ (Eq.symm (if_neg h12)))
  exact r_weak (L' := [some (vr (some 14)), some (vi q1), some (vi (0 : Int32)), some (vi (0 : Int32)), none]) ⟨rfl, rfl, rfl, rfl, trivial⟩ J5w
noncomputable def m_X7_keptBy (a1 : Int32) (mm : Mm) : Option (Int32) := (m_X7_openTo a1 (0 : Int32) mm).bind (fun q1 => grd a1 6 ((m_X7_keptOf q1 (mI mm 16 (ix a1)) mm).bind (fun q4 => some q4)))
set_option maxHeartbeats 4000000 in
set_option maxRecDepth 100000 in
theorem c_X7_keptBy {l : Launch} {G : Gt} {S : Sk} {a1 : Int32} {mm : Mm} (hS : Lay S) {q : Int32} (e : m_X7_keptBy a1 mm = some q) : CallOK l G M_X7_keptBy yX7_keptBy 2 [vr (some 14), vi a1] S mm (some (vi q)) S mm := by
  refine call_of_run rfl rfl rfl (Nat.le_of_ble_eq_true rfl) ?_
  show Run l G M_X7_keptBy 2 0 [some (vr (some 14)), some (vi a1)] [] S mm (some (vi q)) S mm
  unfold m_X7_keptBy at e
  refine r_aload_n dX7_keptBy_0 rfl ?_
  refine r_aload_n dX7_keptBy_1 rfl ?_
  refine r_iload_n dX7_keptBy_2 rfl ?_
  refine r_iconst (v := 0) dX7_keptBy_3 ci_0 ?_
  obtain ⟨q1, eq2, e⟩ := obind e
  refine r_callV (as := [_, _]) (rest := [_]) dX7_keptBy_4 ml_X7_83 yV_X7_openTo (c_X7_openTo hS eq2) (by decide) rfl (lp_14 hS) (lq_14 hS) (Nat.le_of_ble_eq_true rfl) ?_
  refine r_aload_n dX7_keptBy_7 rfl ?_
  refine r_getR dX7_keptBy_8 fl_X7_22 rfl (lp_14 hS) (lq_14 hS) (lr_14_3 hS) ?_
  refine r_iload_n dX7_keptBy_11 rfl ?_
  obtain ⟨hg3, e⟩ := grd_some e
  refine r_iald dX7_keptBy_12 (lp_16 hS) (lk_16 hS) hg3 ?_
  obtain ⟨q4, eq5, e⟩ := obind e
  refine r_callV (as := [_, _]) (rest := []) dX7_keptBy_13 ml_X7_86 yV_X7_keptOf (c_X7_keptOf hS eq5) (by decide) rfl (lp_14 hS) (lq_14 hS) (Nat.le_of_ble_eq_true rfl) ?_
  cases e
  exact r_ireturn dX7_keptBy_16 rfl rfl
noncomputable def m_X7_reachOf_b13 (mm : Mm) (q1 : Int32) (z3 : Int32 × Int32) : Option ((Int32 × Int32) ⊕ (Int32)) := if (8 : Int32) ≤ z3.2 then (some (.inr z3.1)) else (grd z3.2 8 (some (.inl ((if q1 < (mI mm 19 (ix z3.2)) then z3.1 else z3.1 ||| (xshl (1 : Int32) z3.2)), z3.2 + (1 : Int32)))))
noncomputable def m_X7_reachOf (a1 : Int32) (a2 : Int32) (mm : Mm) : Option (Int32) := (m_X7_heartOf a1 a2 mm).bind (fun q1 => (whileF FU (m_X7_reachOf_b13 mm q1) ((0 : Int32), (0 : Int32))).bind (fun p4 => some p4))
set_option maxHeartbeats 4000000 in
set_option maxRecDepth 100000 in
theorem c_X7_reachOf {l : Launch} {G : Gt} {S : Sk} {a1 : Int32} {a2 : Int32} {mm : Mm} (hS : Lay S) {q : Int32} (e : m_X7_reachOf a1 a2 mm = some q) : CallOK l G M_X7_reachOf yX7_reachOf 1 [vr (some 14), vi a1, vi a2] S mm (some (vi q)) S mm := by
  refine call_of_run rfl rfl rfl (Nat.le_of_ble_eq_true rfl) ?_
  show Run l G M_X7_reachOf 1 0 [some (vr (some 14)), some (vi a1), some (vi a2), none, none, none] [] S mm (some (vi q)) S mm
  unfold m_X7_reachOf at e
  refine r_aload_n dX7_reachOf_0 rfl ?_
  refine r_iload_n dX7_reachOf_1 rfl ?_
  refine r_iload_n dX7_reachOf_2 rfl ?_
  obtain ⟨q1, eq2, e⟩ := obind e
  refine r_callV (as := [_, _]) (rest := []) dX7_reachOf_3 ml_X7_75 yV_X7_heartOf (c_X7_heartOf hS eq2) (by decide) rfl (lp_14 hS) (lq_14 hS) (Nat.le_of_ble_eq_true rfl) ?_
  refine r_istore_n dX7_reachOf_6 (by decide) rfl ?_
  refine r_iconst (v := 0) dX7_reachOf_7 ci_0 ?_
  refine r_istore dX7_reachOf_8 (by decide) rfl ?_
  refine r_iconst (v := 0) dX7_reachOf_10 ci_0 ?_
  refine r_istore dX7_reachOf_11 (by decide) rfl ?_
  obtain ⟨p4, eb8w, e⟩ := obind e
  have J5a : Run l G M_X7_reachOf 1 46 [none, none, none, none, some (vi p4), none] [] S mm (some (vi q)) S mm := by
    refine r_iload dX7_reachOf_46 rfl ?_
    cases e
    exact r_ireturn dX7_reachOf_48 rfl rfl
  have J5 : ∀ pp : Int32, pp = p4 → Run l G M_X7_reachOf 1 46 [none, none, none, none, some (vi pp), none] [] S mm (some (vi q)) S mm := by
    intro pp hpp
    rw [hpp]
    exact J5a
  have J5w : Run l G M_X7_reachOf 1 13 [some (vr (some 14)), none, none, some (vi q1), some (vi (0 : Int32)), some (vi (0 : Int32))] [] S mm (some (vi q)) S mm := by
    refine while_run (s := ((0 : Int32), (0 : Int32))) (Gs := fun (z3 : Int32 × Int32) => Run l G M_X7_reachOf 1 13 [some (vr (some 14)), none, none, some (vi q1), some (vi z3.1), some (vi z3.2)] [] S mm (some (vi q)) S mm) eb8w ?_
    intro z3 x6y eb8 hx7
    unfold m_X7_reachOf_b13 at eb8
    refine r_iload dX7_reachOf_13 rfl ?_
    refine r_bipush (v := 8) dX7_reachOf_15 cb_8 ?_
    refine r_icmp_ge (tgt := 46) dX7_reachOf_17 rfl (fun h9 => ?_) (fun h9 => ?_)
    · replace eb8 := ite_t h9 eb8
      cases eb8
      exact r_weak (L' := [none, none, none, none, some (vi z3.1), none]) ⟨rfl, trivial⟩ (J5 _ hx7)
    · replace eb8 := ite_f h9 eb8
      refine r_iload_n dX7_reachOf_20 rfl ?_
      refine r_aload_n dX7_reachOf_21 rfl ?_
      refine r_getR dX7_reachOf_22 fl_X7_31 rfl (lp_14 hS) (lq_14 hS) (lr_14_6 hS) ?_
      refine r_iload dX7_reachOf_25 rfl ?_
      obtain ⟨hg10, eb8⟩ := grd_some eb8
      refine r_iald dX7_reachOf_27 (lp_19 hS) (lk_19 hS) hg10 ?_
      have J13 : ∀ (w12 : Int32), w12 = (if q1 < (mI mm 19 (ix z3.2)) then z3.1 else z3.1 ||| (xshl (1 : Int32) z3.2)) → Run l G M_X7_reachOf 1 40 [some (vr (some 14)), none, none, some (vi q1), some (vi w12), some (vi z3.2)] [] S mm (some (vi q)) S mm := by
        intro w12 hw14
        subst hw14
        refine r_iinc (v := _ + (1 : Int32)) dX7_reachOf_40 rfl (congrArg (_ + ·) ci_1) (by decide) rfl ?_
        refine r_goto (tgt := 13) dX7_reachOf_43 rfl ?_
        cases eb8
        exact r_weak (L' := [some (vr (some 14)), none, none, some (vi q1), some (vi (if q1 < (mI mm 19 (ix z3.2)) then z3.1 else z3.1 ||| (xshl (1 : Int32) z3.2))), some (vi (z3.2 + (1 : Int32)))]) ⟨rfl, rfl, rfl, rfl, trivial⟩ hx7
      refine r_icmp_lt (tgt := 40) dX7_reachOf_28 rfl (fun h11 => ?_) (fun h11 => ?_)
      · exact r_weak (L' := [some (vr (some 14)), none, none, some (vi q1), some (vi z3.1), some (vi z3.2)]) ⟨rfl, rfl, rfl, rfl, trivial⟩ (J13 _ (Eq.symm (if_pos h11)))
      · refine r_iload dX7_reachOf_31 rfl ?_
        refine r_iconst (v := 1) dX7_reachOf_33 ci_1 ?_
        refine r_iload dX7_reachOf_34 rfl ?_
        refine r_ishl dX7_reachOf_36 ?_
        refine r_ior dX7_reachOf_37 ?_
        refine r_istore dX7_reachOf_38 (by decide) rfl ?_
        exact r_weak (L' := [some (vr (some 14)), none, none, some (vi q1), some (vi (z3.1 ||| (xshl (1 : Int32) z3.2))), some (vi z3.2)]) ⟨rfl, rfl, rfl, rfl, trivial⟩ (J13 _ (Eq.symm (if_neg h11)))
  exact r_weak (L' := [some (vr (some 14)), none, none, some (vi q1), some (vi (0 : Int32)), some (vi (0 : Int32))]) ⟨rfl, rfl, rfl, rfl, trivial⟩ J5w
noncomputable def m_X7_hasOath_b3 (a1 : Int32) (a2 : Int32) (a3 : Int32) (mm : Mm) (z1 : Int32) : Option ((Int32) ⊕ ((Unit) ⊕ (Int32))) := if (mI mm 14 1) ≤ z1 then (some (.inr (.inl ()))) else (grd z1 12 (bS (if (mI mm 20 (ix z1)) = a1 then (grd z1 12 (if (mI mm 21 (ix z1)) = a2 then (grd z1 12 (if (mI mm 22 (ix z1)) = a3 then (some (.inr (.inr (.inr (1 : Int32))))) else (some (.inl ())))) else (some (.inl ())))) else (some (.inl ())) : Option ((Unit) ⊕ ((Int32) ⊕ ((Unit) ⊕ (Int32))))) (fun p9 => some (.inl (z1 + (1 : Int32))))))
noncomputable def m_X7_hasOath (a1 : Int32) (a2 : Int32) (a3 : Int32) (mm : Mm) : Option (Int32) := bS (whileF FU (m_X7_hasOath_b3 a1 a2 a3 mm) (0 : Int32)) (fun p2 => some (0 : Int32))
set_option maxHeartbeats 4000000 in
set_option maxRecDepth 100000 in
theorem c_X7_hasOath {l : Launch} {G : Gt} {S : Sk} {a1 : Int32} {a2 : Int32} {a3 : Int32} {mm : Mm} (hS : Lay S) {q : Int32} (e : m_X7_hasOath a1 a2 a3 mm = some q) : CallOK l G M_X7_hasOath yX7_hasOath 0 [vr (some 14), vi a1, vi a2, vi a3] S mm (some (vi q)) S mm := by
  refine call_of_run rfl rfl rfl (Nat.le_of_ble_eq_true rfl) ?_
  show Run l G M_X7_hasOath 0 0 [some (vr (some 14)), some (vi a1), some (vi a2), some (vi a3), none] [] S mm (some (vi q)) S mm
  unfold m_X7_hasOath at e
  refine r_iconst (v := 0) dX7_hasOath_0 ci_0 ?_
  refine r_istore dX7_hasOath_1 (by decide) rfl ?_
  obtain ⟨x4, eb6w, elx4, erx4⟩ := bS_some e
  have J3 : ∀ p2 : Unit, x4 = .inl p2 → Run l G M_X7_hasOath 0 53 [none, none, none, none, none] [] S mm (some (vi q)) S mm := by
    intro p2 hp2
    replace e := elx4 p2 hp2
    refine r_iconst (v := 0) dX7_hasOath_53 ci_0 ?_
    cases e
    exact r_ireturn dX7_hasOath_54 rfl (nz_b (by first | exact Or.inl rfl | exact Or.inr rfl)).1
  have J3w : Run l G M_X7_hasOath 0 3 [some (vr (some 14)), some (vi a1), some (vi a2), some (vi a3), some (vi (0 : Int32))] [] S mm (some (vi q)) S mm := by
    refine while_run (s := (0 : Int32)) (Gs := fun (z1 : Int32) => Run l G M_X7_hasOath 0 3 [some (vr (some 14)), some (vi a1), some (vi a2), some (vi a3), some (vi z1)] [] S mm (some (vi q)) S mm) eb6w ?_
    intro z1 x4y eb6 hx5
    unfold m_X7_hasOath_b3 at eb6
    refine r_iload dX7_hasOath_3 rfl ?_
    refine r_aload_n dX7_hasOath_5 rfl ?_
    refine r_getI dX7_hasOath_6 fl_X7_15 rfl (lp_14 hS) (lq_14 hS) ?_
    refine r_icmp_ge (tgt := 53) dX7_hasOath_9 rfl (fun h7 => ?_) (fun h7 => ?_)
    · replace eb6 := ite_t h7 eb6
      cases eb6
      exact r_weak (L' := [none, none, none, none, none]) trivial (J3 _ (Eq.symm hx5))
    · replace eb6 := ite_f h7 eb6
      refine r_aload_n dX7_hasOath_12 rfl ?_
      refine r_getR dX7_hasOath_13 fl_X7_34 rfl (lp_14 hS) (lq_14 hS) (lr_14_7 hS) ?_
      refine r_iload dX7_hasOath_16 rfl ?_
      obtain ⟨hg8, eb6⟩ := grd_some eb6
      refine r_iald dX7_hasOath_18 (lp_20 hS) (lk_20 hS) hg8 ?_
      refine r_iload_n dX7_hasOath_19 rfl ?_
      obtain ⟨x12, ep11, elx12, erx12⟩ := bS_some eb6
      have J10 : ∀ p9 : Unit, x12 = .inl p9 → Run l G M_X7_hasOath 0 47 [some (vr (some 14)), some (vi a1), some (vi a2), some (vi a3), some (vi z1)] [] S mm (some (vi q)) S mm := by
        intro p9 hp9
        replace eb6 := elx12 p9 hp9
        refine r_iinc (v := _ + (1 : Int32)) dX7_hasOath_47 rfl (congrArg (_ + ·) ci_1) (by decide) rfl ?_
        refine r_goto (tgt := 3) dX7_hasOath_50 rfl ?_
        cases eb6
        exact r_weak (L' := [some (vr (some 14)), some (vi a1), some (vi a2), some (vi a3), some (vi (z1 + (1 : Int32)))]) ⟨rfl, rfl, rfl, rfl, rfl, trivial⟩ hx5
      refine r_icmp_ne (tgt := 47) dX7_hasOath_20 rfl (fun h13 => ?_) (fun h13 => ?_)
      · replace ep11 := ite_f h13 ep11
        cases ep11
        exact r_weak (L' := [some (vr (some 14)), some (vi a1), some (vi a2), some (vi a3), some (vi z1)]) ⟨rfl, rfl, rfl, rfl, rfl, trivial⟩ (J10 _ rfl)
      · replace ep11 := ite_t h13 ep11
        refine r_aload_n dX7_hasOath_23 rfl ?_
        refine r_getR dX7_hasOath_24 fl_X7_37 rfl (lp_14 hS) (lq_14 hS) (lr_14_8 hS) ?_
        refine r_iload dX7_hasOath_27 rfl ?_
        obtain ⟨hg14, ep11⟩ := grd_some ep11
        refine r_iald dX7_hasOath_29 (lp_21 hS) (lk_21 hS) hg14 ?_
        refine r_iload_n dX7_hasOath_30 rfl ?_
        refine r_icmp_ne (tgt := 47) dX7_hasOath_31 rfl (fun h15 => ?_) (fun h15 => ?_)
        · replace ep11 := ite_f h15 ep11
          cases ep11
          exact r_weak (L' := [some (vr (some 14)), some (vi a1), some (vi a2), some (vi a3), some (vi z1)]) ⟨rfl, rfl, rfl, rfl, rfl, trivial⟩ (J10 _ rfl)
        · replace ep11 := ite_t h15 ep11
          refine r_aload_n dX7_hasOath_34 rfl ?_
          refine r_getR dX7_hasOath_35 fl_X7_40 rfl (lp_14 hS) (lq_14 hS) (lr_14_9 hS) ?_
          refine r_iload dX7_hasOath_38 rfl ?_
          obtain ⟨hg16, ep11⟩ := grd_some ep11
          refine r_iald dX7_hasOath_40 (lp_22 hS) (lk_22 hS) hg16 ?_
          refine r_iload_n dX7_hasOath_41 rfl ?_
          refine r_icmp_ne (tgt := 47) dX7_hasOath_42 rfl (fun h17 => ?_) (fun h17 => ?_)
          · replace ep11 := ite_f h17 ep11
            cases ep11
            exact r_weak (L' := [some (vr (some 14)), some (vi a1), some (vi a2), some (vi a3), some (vi z1)]) ⟨rfl, rfl, rfl, rfl, rfl, trivial⟩ (J10 _ rfl)
          · replace ep11 := ite_t h17 ep11
            refine r_iconst (v := 1) dX7_hasOath_45 ci_1 ?_
            cases ep11
            have eb6 := congrArg some (erx12 _ rfl)
            cases eb6
            have e := congrArg some (erx4 _ (Eq.symm hx5))
            cases e
            exact r_ireturn dX7_hasOath_46 rfl (nz_b (by first | exact Or.inl rfl | exact Or.inr rfl)).1
  exact r_weak (L' := [some (vr (some 14)), some (vi a1), some (vi a2), some (vi a3), some (vi (0 : Int32))]) ⟨rfl, rfl, rfl, rfl, rfl, trivial⟩ J3w
noncomputable def m_X1_findMoreOf_b26 (a2 : Int32) (a3 : Int32) (q1 : Int32) (q3 : Int32) (q5 : Int32) (z7 : Int32 × Mm) : Option ((Int32 × Mm) ⊕ (Mm)) := if (8 : Int32) ≤ z7.1 then (some (.inr z7.2)) else (grd a3 6 ((m_X7_keptOf (q1 ||| (q5 &&& (xshl (1 : Int32) z7.1))) (mI z7.2 16 (ix a3)) z7.2).bind (fun q15 => (if (if (m_X11_has q15 z7.1) = 0 then (0 : Int32) else (if (q3 &&& (q15 ^^^ (-1 : Int32))) = 0 then (1 : Int32) else (0 : Int32))) = 0 then (some z7.2) else ((m_X7_hasOath a2 a3 z7.1 z7.2).bind (fun q26 => if q26 = 0 then (some (sI (sI z7.2 32 2 ((mI z7.2 32 2) + (1 : Int32))) 32 3 (if (mI (sI z7.2 32 2 ((mI z7.2 32 2) + (1 : Int32))) 32 3) = (-1 : Int32) then (((100 : Int32) * a2) + ((10 : Int32) * a3)) + z7.1 else mI (sI z7.2 32 2 ((mI z7.2 32 2) + (1 : Int32))) 32 3))) else (some z7.2))) : Option (Mm)).bind (fun p21 => some (.inl (z7.1 + (1 : Int32), p21))))))
noncomputable def m_X1_findMoreOf (a2 : Int32) (a3 : Int32) (mm : Mm) : Option (Mm) := (m_X7_openTo a3 (0 : Int32) mm).bind (fun q1 => (m_X7_keptBy a3 mm).bind (fun q3 => (m_X7_reachOf a2 a3 mm).bind (fun q5 => (whileF FU (m_X1_findMoreOf_b26 a2 a3 q1 q3 q5) ((0 : Int32), mm)).bind (fun p8 => some p8))))
set_option maxHeartbeats 4000000 in
set_option maxRecDepth 100000 in
theorem c_X1_findMoreOf {l : Launch} {G : Gt} {S : Sk} {a2 : Int32} {a3 : Int32} {mm : Mm} (hS : Lay S) {q : Mm} (e : m_X1_findMoreOf a2 a3 mm = some q) : CallOK l G M_X1_findMoreOf yX1_findMoreOf 3 [vr (some 32), vr (some 14), vi a2, vi a3] S mm (none) S q := by
  refine call_of_run rfl rfl rfl (Nat.le_of_ble_eq_true rfl) ?_
  show Run l G M_X1_findMoreOf 3 0 [some (vr (some 32)), some (vr (some 14)), some (vi a2), some (vi a3), none, none, none, none, none, none] [] S mm (none) S q
  unfold m_X1_findMoreOf at e
  refine r_aload_n dX1_findMoreOf_0 rfl ?_
  refine r_iload_n dX1_findMoreOf_1 rfl ?_
  refine r_iconst (v := 0) dX1_findMoreOf_2 ci_0 ?_
  obtain ⟨q1, eq2, e⟩ := obind e
  refine r_callV (as := [_, _]) (rest := []) dX1_findMoreOf_3 ml_X1_67 yV_X7_openTo (c_X7_openTo hS eq2) (by decide) rfl (lp_14 hS) (lq_14 hS) (Nat.le_of_ble_eq_true rfl) ?_
  refine r_istore dX1_findMoreOf_6 (by decide) rfl ?_
  refine r_aload_n dX1_findMoreOf_8 rfl ?_
  refine r_iload_n dX1_findMoreOf_9 rfl ?_
  obtain ⟨q3, eq4, e⟩ := obind e
  refine r_callV (as := [_]) (rest := []) dX1_findMoreOf_10 ml_X1_71 yV_X7_keptBy (c_X7_keptBy hS eq4) (by decide) rfl (lp_14 hS) (lq_14 hS) (Nat.le_of_ble_eq_true rfl) ?_
  refine r_istore dX1_findMoreOf_13 (by decide) rfl ?_
  refine r_aload_n dX1_findMoreOf_15 rfl ?_
  refine r_iload_n dX1_findMoreOf_16 rfl ?_
  refine r_iload_n dX1_findMoreOf_17 rfl ?_
  obtain ⟨q5, eq6, e⟩ := obind e
  refine r_callV (as := [_, _]) (rest := []) dX1_findMoreOf_18 ml_X1_74 yV_X7_reachOf (c_X7_reachOf hS eq6) (by decide) rfl (lp_14 hS) (lq_14 hS) (Nat.le_of_ble_eq_true rfl) ?_
  refine r_istore dX1_findMoreOf_21 (by decide) rfl ?_
  refine r_iconst (v := 0) dX1_findMoreOf_23 ci_0 ?_
  refine r_istore dX1_findMoreOf_24 (by decide) rfl ?_
  obtain ⟨p8, eb12w, e⟩ := obind e
  have J9a : Run l G M_X1_findMoreOf 3 145 [none, none, none, none, none, none, none, none, none, none] [] S p8 (none) S q := by
    cases e
    exact r_return dX1_findMoreOf_145 rfl
  have J9 : ∀ pp : Mm, pp = p8 → Run l G M_X1_findMoreOf 3 145 [none, none, none, none, none, none, none, none, none, none] [] S pp (none) S q := by
    intro pp hpp
    rw [hpp]
    exact J9a
  have J9w : Run l G M_X1_findMoreOf 3 26 [some (vr (some 32)), some (vr (some 14)), some (vi a2), some (vi a3), some (vi q1), some (vi q3), some (vi q5), some (vi (0 : Int32)), none, none] [] S mm (none) S q := by
    refine while_run (s := ((0 : Int32), mm)) (Gs := fun (z7 : Int32 × Mm) => Run l G M_X1_findMoreOf 3 26 [some (vr (some 32)), some (vr (some 14)), some (vi a2), some (vi a3), some (vi q1), some (vi q3), some (vi q5), some (vi z7.1), none, none] [] S z7.2 (none) S q) eb12w ?_
    intro z7 x10y eb12 hx11
    unfold m_X1_findMoreOf_b26 at eb12
    refine r_iload dX1_findMoreOf_26 rfl ?_
    refine r_bipush (v := 8) dX1_findMoreOf_28 cb_8 ?_
    refine r_icmp_ge (tgt := 145) dX1_findMoreOf_30 rfl (fun h13 => ?_) (fun h13 => ?_)
    · replace eb12 := ite_t h13 eb12
      cases eb12
      exact r_weak (L' := [none, none, none, none, none, none, none, none, none, none]) trivial (J9 _ hx11)
    · replace eb12 := ite_f h13 eb12
      refine r_aload_n dX1_findMoreOf_33 rfl ?_
      refine r_iload dX1_findMoreOf_34 rfl ?_
      refine r_iload dX1_findMoreOf_36 rfl ?_
      refine r_iconst (v := 1) dX1_findMoreOf_38 ci_1 ?_
      refine r_iload dX1_findMoreOf_39 rfl ?_
      refine r_ishl dX1_findMoreOf_41 ?_
      refine r_iand dX1_findMoreOf_42 ?_
      refine r_ior dX1_findMoreOf_43 ?_
      refine r_aload_n dX1_findMoreOf_44 rfl ?_
      refine r_getR dX1_findMoreOf_45 fl_X1_77 rfl (lp_14 hS) (lq_14 hS) (lr_14_3 hS) ?_
      refine r_iload_n dX1_findMoreOf_48 rfl ?_
      obtain ⟨hg14, eb12⟩ := grd_some eb12
      refine r_iald dX1_findMoreOf_49 (lp_16 hS) (lk_16 hS) hg14 ?_
      obtain ⟨q15, eq16, eb12⟩ := obind eb12
      refine r_callV (as := [_, _]) (rest := []) dX1_findMoreOf_50 ml_X1_80 yV_X7_keptOf (c_X7_keptOf hS eq16) (by decide) rfl (lp_14 hS) (lq_14 hS) (Nat.le_of_ble_eq_true rfl) ?_
      refine r_istore dX1_findMoreOf_53 (by decide) rfl ?_
      refine r_iload dX1_findMoreOf_55 rfl ?_
      refine r_iload dX1_findMoreOf_57 rfl ?_
      refine r_callSN (as := [_, _]) (rest := []) dX1_findMoreOf_59 nl_X1_83 yS_X11_has (c_X11_has) (by decide) rfl (Nat.le_of_ble_eq_true rfl) ?_
      have J20 : ∀ (w19 : Int32), w19 = (if (m_X11_has q15 z7.1) = 0 then (0 : Int32) else (if (q3 &&& (q15 ^^^ (-1 : Int32))) = 0 then (1 : Int32) else (0 : Int32))) → Run l G M_X1_findMoreOf 3 80 [some (vr (some 32)), some (vr (some 14)), some (vi a2), some (vi a3), some (vi q1), some (vi q3), some (vi q5), some (vi z7.1), none, none] [vi w19] S z7.2 (none) S q := by
        intro w19 hw33
        subst hw33
        refine r_istore dX1_findMoreOf_80 (by decide) rfl ?_
        refine r_iload dX1_findMoreOf_82 rfl ?_
        obtain ⟨p21, ep23, eb12⟩ := obind eb12
        have J22a : Run l G M_X1_findMoreOf 3 139 [some (vr (some 32)), some (vr (some 14)), some (vi a2), some (vi a3), some (vi q1), some (vi q3), some (vi q5), some (vi z7.1), none, none] [] S p21 (none) S q := by
          refine r_iinc (v := _ + (1 : Int32)) dX1_findMoreOf_139 rfl (congrArg (_ + ·) ci_1) (by decide) rfl ?_
          refine r_goto (tgt := 26) dX1_findMoreOf_142 rfl ?_
          cases eb12
          exact r_weak (L' := [some (vr (some 32)), some (vr (some 14)), some (vi a2), some (vi a3), some (vi q1), some (vi q3), some (vi q5), some (vi (z7.1 + (1 : Int32))), none, none]) ⟨rfl, rfl, rfl, rfl, rfl, rfl, rfl, rfl, trivial⟩ hx11
        have J22 : ∀ pp : Mm, pp = p21 → Run l G M_X1_findMoreOf 3 139 [some (vr (some 32)), some (vr (some 14)), some (vi a2), some (vi a3), some (vi q1), some (vi q3), some (vi q5), some (vi z7.1), none, none] [] S pp (none) S q := by
          intro pp hpp
          rw [hpp]
          exact J22a
        refine r_if_eq (tgt := 139) dX1_findMoreOf_84 rfl (fun h25 => ?_) (fun h25 => ?_)
        · replace ep23 := ite_t h25 ep23
          exact r_weak (L' := [some (vr (some 32)), some (vr (some 14)), some (vi a2), some (vi a3), some (vi q1), some (vi q3), some (vi q5), some (vi z7.1), none, none]) ⟨rfl, rfl, rfl, rfl, rfl, rfl, rfl, rfl, trivial⟩ (J22 _ (Option.some.inj ep23))
        · replace ep23 := ite_f h25 ep23
          refine r_aload_n dX1_findMoreOf_87 rfl ?_
          refine r_iload_n dX1_findMoreOf_88 rfl ?_
          refine r_iload_n dX1_findMoreOf_89 rfl ?_
          refine r_iload dX1_findMoreOf_90 rfl ?_
          obtain ⟨q26, eq27, ep23⟩ := obind ep23
          refine r_callV (as := [_, _, _]) (rest := []) dX1_findMoreOf_92 ml_X1_87 yV_X7_hasOath (c_X7_hasOath hS eq27) (by decide) rfl (lp_14 hS) (lq_14 hS) (Nat.le_of_ble_eq_true rfl) ?_
          refine r_if_ne (tgt := 139) dX1_findMoreOf_95 rfl (fun h28 => ?_) (fun h28 => ?_)
          · replace ep23 := ite_f h28 ep23
            exact r_weak (L' := [some (vr (some 32)), some (vr (some 14)), some (vi a2), some (vi a3), some (vi q1), some (vi q3), some (vi q5), some (vi z7.1), none, none]) ⟨rfl, rfl, rfl, rfl, rfl, rfl, rfl, rfl, trivial⟩ (J22 _ (Option.some.inj ep23))
          · replace ep23 := ite_t h28 ep23
            refine r_aload_n dX1_findMoreOf_98 rfl ?_
            refine r_dup dX1_findMoreOf_99 rfl ?_
            refine r_getI dX1_findMoreOf_100 fl_X1_19 rfl (lp_32 hS) (lq_32 hS) ?_
            refine r_iconst (v := 1) dX1_findMoreOf_103 ci_1 ?_
            refine r_iadd dX1_findMoreOf_104 ?_
            refine r_putI dX1_findMoreOf_105 fl_X1_19 ft_1_2 (Or.inl rfl) rfl rfl rfl (lp_32 hS) (lq_32 hS) ?_
            refine r_aload_n dX1_findMoreOf_108 rfl ?_
            refine r_aload_n dX1_findMoreOf_109 rfl ?_
            refine r_getI dX1_findMoreOf_110 fl_X1_22 rfl (lp_32 hS) (lq_32 hS) ?_
            refine r_iconst (v := -1) dX1_findMoreOf_113 ci_m1 ?_
            have J31 : ∀ (w30 : Int32), w30 = (if (mI (sI z7.2 32 2 ((mI z7.2 32 2) + (1 : Int32))) 32 3) = (-1 : Int32) then (((100 : Int32) * a2) + ((10 : Int32) * a3)) + z7.1 else mI (sI z7.2 32 2 ((mI z7.2 32 2) + (1 : Int32))) 32 3) → Run l G M_X1_findMoreOf 3 136 [some (vr (some 32)), some (vr (some 14)), some (vi a2), some (vi a3), some (vi q1), some (vi q3), some (vi q5), some (vi z7.1), none, none] [vi w30, vr (some 32)] S (sI z7.2 32 2 ((mI z7.2 32 2) + (1 : Int32))) (none) S q := by
              intro w30 hw32
              subst hw32
              refine r_putI dX1_findMoreOf_136 fl_X1_22 ft_1_3 (Or.inl rfl) rfl rfl rfl (lp_32 hS) (lq_32 hS) ?_
              exact r_weak (L' := [some (vr (some 32)), some (vr (some 14)), some (vi a2), some (vi a3), some (vi q1), some (vi q3), some (vi q5), some (vi z7.1), none, none]) ⟨rfl, rfl, rfl, rfl, rfl, rfl, rfl, rfl, trivial⟩ (J22 _ (Option.some.inj ep23))
            refine r_icmp_ne (tgt := 132) dX1_findMoreOf_114 rfl (fun h29 => ?_) (fun h29 => ?_)
            · refine r_aload_n dX1_findMoreOf_132 rfl ?_
              refine r_getI dX1_findMoreOf_133 fl_X1_22 rfl (lp_32 hS) (lq_32 hS) ?_
              exact r_weak (L' := [some (vr (some 32)), some (vr (some 14)), some (vi a2), some (vi a3), some (vi q1), some (vi q3), some (vi q5), some (vi z7.1), none, none]) ⟨rfl, rfl, rfl, rfl, rfl, rfl, rfl, rfl, trivial⟩ (J31 _ (Eq.symm (if_neg h29)))
            · refine r_bipush (v := 100) dX1_findMoreOf_117 cb_100 ?_
              refine r_iload_n dX1_findMoreOf_119 rfl ?_
              refine r_imul dX1_findMoreOf_120 ?_
              refine r_bipush (v := 10) dX1_findMoreOf_121 cb_10 ?_
              refine r_iload_n dX1_findMoreOf_123 rfl ?_
              refine r_imul dX1_findMoreOf_124 ?_
              refine r_iadd dX1_findMoreOf_125 ?_
              refine r_iload dX1_findMoreOf_126 rfl ?_
              refine r_iadd dX1_findMoreOf_128 ?_
              refine r_goto (tgt := 136) dX1_findMoreOf_129 rfl ?_
              exact r_weak (L' := [some (vr (some 32)), some (vr (some 14)), some (vi a2), some (vi a3), some (vi q1), some (vi q3), some (vi q5), some (vi z7.1), none, none]) ⟨rfl, rfl, rfl, rfl, rfl, rfl, rfl, rfl, trivial⟩ (J31 _ (Eq.symm (if_pos h29)))
      refine r_if_eq (tgt := 79) dX1_findMoreOf_62 rfl (fun h17 => ?_) (fun h17 => ?_)
      · refine r_iconst (v := 0) dX1_findMoreOf_79 ci_0 ?_
        exact r_weak (L' := [some (vr (some 32)), some (vr (some 14)), some (vi a2), some (vi a3), some (vi q1), some (vi q3), some (vi q5), some (vi z7.1), none, none]) ⟨rfl, rfl, rfl, rfl, rfl, rfl, rfl, rfl, trivial⟩ (J20 _ (Eq.symm (if_pos h17)))
      · refine r_iload dX1_findMoreOf_65 rfl ?_
        refine r_iload dX1_findMoreOf_67 rfl ?_
        refine r_iconst (v := -1) dX1_findMoreOf_69 ci_m1 ?_
        refine r_ixor dX1_findMoreOf_70 ?_
        refine r_iand dX1_findMoreOf_71 ?_
        refine r_if_ne (tgt := 79) dX1_findMoreOf_72 rfl (fun h18 => ?_) (fun h18 => ?_)
        · refine r_iconst (v := 0) dX1_findMoreOf_79 ci_0 ?_
          exact r_weak (L' := [some (vr (some 32)), some (vr (some 14)), some (vi a2), some (vi a3), some (vi q1), some (vi q3), some (vi q5), some (vi z7.1), none, none]) ⟨rfl, rfl, rfl, rfl, rfl, rfl, rfl, rfl, trivial⟩ (J20 _ (Eq.symm ((if_neg h17).trans (if_neg h18))))
        · refine r_iconst (v := 1) dX1_findMoreOf_75 ci_1 ?_
          refine r_goto (tgt := 80) dX1_findMoreOf_76 rfl ?_
          exact r_weak (L' := [some (vr (some 32)), some (vr (some 14)), some (vi a2), some (vi a3), some (vi q1), some (vi q3), some (vi q5), some (vi z7.1), none, none]) ⟨rfl, rfl, rfl, rfl, rfl, rfl, rfl, rfl, trivial⟩ (J20 _ (Eq.symm ((if_neg h17).trans (if_pos h18))))
  exact r_weak (L' := [some (vr (some 32)), some (vr (some 14)), some (vi a2), some (vi a3), some (vi q1), some (vi q3), some (vi q5), some (vi (0 : Int32)), none, none]) ⟨rfl, rfl, rfl, rfl, rfl, rfl, rfl, rfl, trivial⟩ J9w
noncomputable def m_X1_findMore_b22 (z1 : Int32 × Mm) (z8 : Int32 × Mm) : Option ((Int32 × Mm) ⊕ (Mm)) := if (mI z8.2 14 0) ≤ z8.1 then (some (.inr z8.2)) else ((if z1.1 = z8.1 then (some z8.2) else ((m_X1_findMoreOf z1.1 z8.1 z8.2).bind (fun q20 => some q20)) : Option (Mm)).bind (fun p15 => some (.inl (z8.1 + (1 : Int32), p15))))
noncomputable def m_X1_findMore_b12 (z1 : Int32 × Mm) : Option ((Int32 × Mm) ⊕ (Mm)) := if (mI z1.2 14 0) ≤ z1.1 then (some (.inr z1.2)) else ((whileF FU (m_X1_findMore_b22 z1) ((0 : Int32), z1.2)).bind (fun p9 => some (.inl (z1.1 + (1 : Int32), p9))))
noncomputable def m_X1_findMore (mm : Mm) : Option (Mm) := (whileF FU (m_X1_findMore_b12) ((0 : Int32), (sI (sI mm 32 2 (0 : Int32)) 32 3 (-1 : Int32)))).bind (fun p2 => some p2)
set_option maxHeartbeats 4000000 in
set_option maxRecDepth 100000 in
theorem c_X1_findMore {l : Launch} {G : Gt} {S : Sk} {mm : Mm} (hS : Lay S) {q : Mm} (e : m_X1_findMore mm = some q) : CallOK l G M_X1_findMore yX1_findMore 4 [vr (some 32), vr (some 14)] S mm (none) S q := by
  refine call_of_run rfl rfl rfl (Nat.le_of_ble_eq_true rfl) ?_
  show Run l G M_X1_findMore 4 0 [some (vr (some 32)), some (vr (some 14)), none, none] [] S mm (none) S q
  unfold m_X1_findMore at e
  refine r_aload_n dX1_findMore_0 rfl ?_
  refine r_iconst (v := 0) dX1_findMore_1 ci_0 ?_
  refine r_putI dX1_findMore_2 fl_X1_19 ft_1_2 (Or.inl rfl) rfl rfl rfl (lp_32 hS) (lq_32 hS) ?_
  refine r_aload_n dX1_findMore_5 rfl ?_
  refine r_iconst (v := -1) dX1_findMore_6 ci_m1 ?_
  refine r_putI dX1_findMore_7 fl_X1_22 ft_1_3 (Or.inl rfl) rfl rfl rfl (lp_32 hS) (lq_32 hS) ?_
  refine r_iconst (v := 0) dX1_findMore_10 ci_0 ?_
  refine r_istore_n dX1_findMore_11 (by decide) rfl ?_
  obtain ⟨p2, eb6w, e⟩ := obind e
  have J3a : Run l G M_X1_findMore 4 54 [none, none, none, none] [] S p2 (none) S q := by
    cases e
    exact r_return dX1_findMore_54 rfl
  have J3 : ∀ pp : Mm, pp = p2 → Run l G M_X1_findMore 4 54 [none, none, none, none] [] S pp (none) S q := by
    intro pp hpp
    rw [hpp]
    exact J3a
  have J3w : Run l G M_X1_findMore 4 12 [some (vr (some 32)), some (vr (some 14)), some (vi (0 : Int32)), none] [] S (sI (sI mm 32 2 (0 : Int32)) 32 3 (-1 : Int32)) (none) S q := by
    refine while_run (s := ((0 : Int32), (sI (sI mm 32 2 (0 : Int32)) 32 3 (-1 : Int32)))) (Gs := fun (z1 : Int32 × Mm) => Run l G M_X1_findMore 4 12 [some (vr (some 32)), some (vr (some 14)), some (vi z1.1), none] [] S z1.2 (none) S q) eb6w ?_
    intro z1 x4y eb6 hx5
    unfold m_X1_findMore_b12 at eb6
    refine r_iload_n dX1_findMore_12 rfl ?_
    refine r_aload_n dX1_findMore_13 rfl ?_
    refine r_getI dX1_findMore_14 fl_X1_60 rfl (lp_14 hS) (lq_14 hS) ?_
    refine r_icmp_ge (tgt := 54) dX1_findMore_17 rfl (fun h7 => ?_) (fun h7 => ?_)
    · replace eb6 := ite_t h7 eb6
      cases eb6
      exact r_weak (L' := [none, none, none, none]) trivial (J3 _ hx5)
    · replace eb6 := ite_f h7 eb6
      refine r_iconst (v := 0) dX1_findMore_20 ci_0 ?_
      refine r_istore_n dX1_findMore_21 (by decide) rfl ?_
      obtain ⟨p9, eb13w, eb6⟩ := obind eb6
      have J10a : Run l G M_X1_findMore 4 48 [some (vr (some 32)), some (vr (some 14)), some (vi z1.1), none] [] S p9 (none) S q := by
        refine r_iinc (v := _ + (1 : Int32)) dX1_findMore_48 rfl (congrArg (_ + ·) ci_1) (by decide) rfl ?_
        refine r_goto (tgt := 12) dX1_findMore_51 rfl ?_
        cases eb6
        exact r_weak (L' := [some (vr (some 32)), some (vr (some 14)), some (vi (z1.1 + (1 : Int32))), none]) ⟨rfl, rfl, rfl, trivial⟩ hx5
      have J10 : ∀ pp : Mm, pp = p9 → Run l G M_X1_findMore 4 48 [some (vr (some 32)), some (vr (some 14)), some (vi z1.1), none] [] S pp (none) S q := by
        intro pp hpp
        rw [hpp]
        exact J10a
      have J10w : Run l G M_X1_findMore 4 22 [some (vr (some 32)), some (vr (some 14)), some (vi z1.1), some (vi (0 : Int32))] [] S z1.2 (none) S q := by
        refine while_run (s := ((0 : Int32), z1.2)) (Gs := fun (z8 : Int32 × Mm) => Run l G M_X1_findMore 4 22 [some (vr (some 32)), some (vr (some 14)), some (vi z1.1), some (vi z8.1)] [] S z8.2 (none) S q) eb13w ?_
        intro z8 x11y eb13 hx12
        unfold m_X1_findMore_b22 at eb13
        refine r_iload_n dX1_findMore_22 rfl ?_
        refine r_aload_n dX1_findMore_23 rfl ?_
        refine r_getI dX1_findMore_24 fl_X1_60 rfl (lp_14 hS) (lq_14 hS) ?_
        refine r_icmp_ge (tgt := 48) dX1_findMore_27 rfl (fun h14 => ?_) (fun h14 => ?_)
        · replace eb13 := ite_t h14 eb13
          cases eb13
          exact r_weak (L' := [some (vr (some 32)), some (vr (some 14)), some (vi z1.1), none]) ⟨rfl, rfl, rfl, trivial⟩ (J10 _ hx12)
        · replace eb13 := ite_f h14 eb13
          refine r_iload_n dX1_findMore_30 rfl ?_
          refine r_iload_n dX1_findMore_31 rfl ?_
          obtain ⟨p15, ep17, eb13⟩ := obind eb13
          have J16a : Run l G M_X1_findMore 4 42 [some (vr (some 32)), some (vr (some 14)), some (vi z1.1), some (vi z8.1)] [] S p15 (none) S q := by
            refine r_iinc (v := _ + (1 : Int32)) dX1_findMore_42 rfl (congrArg (_ + ·) ci_1) (by decide) rfl ?_
            refine r_goto (tgt := 22) dX1_findMore_45 rfl ?_
            cases eb13
            exact r_weak (L' := [some (vr (some 32)), some (vr (some 14)), some (vi z1.1), some (vi (z8.1 + (1 : Int32)))]) ⟨rfl, rfl, rfl, rfl, trivial⟩ hx12
          have J16 : ∀ pp : Mm, pp = p15 → Run l G M_X1_findMore 4 42 [some (vr (some 32)), some (vr (some 14)), some (vi z1.1), some (vi z8.1)] [] S pp (none) S q := by
            intro pp hpp
            rw [hpp]
            exact J16a
          refine r_icmp_eq (tgt := 42) dX1_findMore_32 rfl (fun h19 => ?_) (fun h19 => ?_)
          · replace ep17 := ite_t h19 ep17
            exact r_weak (L' := [some (vr (some 32)), some (vr (some 14)), some (vi z1.1), some (vi z8.1)]) ⟨rfl, rfl, rfl, rfl, trivial⟩ (J16 _ (Option.some.inj ep17))
          · replace ep17 := ite_f h19 ep17
            refine r_aload_n dX1_findMore_35 rfl ?_
            refine r_aload_n dX1_findMore_36 rfl ?_
            refine r_iload_n dX1_findMore_37 rfl ?_
            refine r_iload_n dX1_findMore_38 rfl ?_
            obtain ⟨q20, eq21, ep17⟩ := obind ep17
            refine r_callV (as := [_, _, _]) (rest := []) dX1_findMore_39 ml_X1_63 yV_X1_findMoreOf (c_X1_findMoreOf hS eq21) (by decide) rfl (lp_32 hS) (lq_32 hS) (Nat.le_of_ble_eq_true rfl) ?_
            exact r_weak (L' := [some (vr (some 32)), some (vr (some 14)), some (vi z1.1), some (vi z8.1)]) ⟨rfl, rfl, rfl, rfl, trivial⟩ (J16 _ (Option.some.inj ep17))
      exact r_weak (L' := [some (vr (some 32)), some (vr (some 14)), some (vi z1.1), some (vi (0 : Int32))]) ⟨rfl, rfl, rfl, rfl, trivial⟩ J10w
  exact r_weak (L' := [some (vr (some 32)), some (vr (some 14)), some (vi (0 : Int32)), none]) ⟨rfl, rfl, rfl, trivial⟩ J3w
noncomputable def m_X7_swornFor_b4 (a1 : Int32) (mm : Mm) (z1 : Int32 × Int32) : Option ((Int32 × Int32) ⊕ (Int32)) := if (mI mm 14 1) ≤ z1.2 then (some (.inr z1.1)) else (grd z1.2 12 ((if (mI mm 21 (ix z1.2)) = a1 then (grd z1.2 12 (some (z1.1 ||| (xshl (1 : Int32) (mI mm 22 (ix z1.2)))))) else (some z1.1) : Option (Int32)).bind (fun p9 => some (.inl (p9, z1.2 + (1 : Int32))))))
noncomputable def m_X7_swornFor (a1 : Int32) (mm : Mm) : Option (Int32) := (whileF FU (m_X7_swornFor_b4 a1 mm) ((0 : Int32), (0 : Int32))).bind (fun p2 => some p2)
set_option maxHeartbeats 4000000 in
set_option maxRecDepth 100000 in
theorem c_X7_swornFor {l : Launch} {G : Gt} {S : Sk} {a1 : Int32} {mm : Mm} (hS : Lay S) {q : Int32} (e : m_X7_swornFor a1 mm = some q) : CallOK l G M_X7_swornFor yX7_swornFor 0 [vr (some 14), vi a1] S mm (some (vi q)) S mm := by
  refine call_of_run rfl rfl rfl (Nat.le_of_ble_eq_true rfl) ?_
  show Run l G M_X7_swornFor 0 0 [some (vr (some 14)), some (vi a1), none, none] [] S mm (some (vi q)) S mm
  unfold m_X7_swornFor at e
  refine r_iconst (v := 0) dX7_swornFor_0 ci_0 ?_
  refine r_istore_n dX7_swornFor_1 (by decide) rfl ?_
  refine r_iconst (v := 0) dX7_swornFor_2 ci_0 ?_
  refine r_istore_n dX7_swornFor_3 (by decide) rfl ?_
  obtain ⟨p2, eb6w, e⟩ := obind e
  have J3a : Run l G M_X7_swornFor 0 39 [none, none, some (vi p2), none] [] S mm (some (vi q)) S mm := by
    refine r_iload_n dX7_swornFor_39 rfl ?_
    cases e
    exact r_ireturn dX7_swornFor_40 rfl rfl
  have J3 : ∀ pp : Int32, pp = p2 → Run l G M_X7_swornFor 0 39 [none, none, some (vi pp), none] [] S mm (some (vi q)) S mm := by
    intro pp hpp
    rw [hpp]
    exact J3a
  have J3w : Run l G M_X7_swornFor 0 4 [some (vr (some 14)), some (vi a1), some (vi (0 : Int32)), some (vi (0 : Int32))] [] S mm (some (vi q)) S mm := by
    refine while_run (s := ((0 : Int32), (0 : Int32))) (Gs := fun (z1 : Int32 × Int32) => Run l G M_X7_swornFor 0 4 [some (vr (some 14)), some (vi a1), some (vi z1.1), some (vi z1.2)] [] S mm (some (vi q)) S mm) eb6w ?_
    intro z1 x4y eb6 hx5
    unfold m_X7_swornFor_b4 at eb6
    refine r_iload_n dX7_swornFor_4 rfl ?_
    refine r_aload_n dX7_swornFor_5 rfl ?_
    refine r_getI dX7_swornFor_6 fl_X7_15 rfl (lp_14 hS) (lq_14 hS) ?_
    refine r_icmp_ge (tgt := 39) dX7_swornFor_9 rfl (fun h7 => ?_) (fun h7 => ?_)
    · replace eb6 := ite_t h7 eb6
      cases eb6
      exact r_weak (L' := [none, none, some (vi z1.1), none]) ⟨rfl, trivial⟩ (J3 _ hx5)
    · replace eb6 := ite_f h7 eb6
      refine r_aload_n dX7_swornFor_12 rfl ?_
      refine r_getR dX7_swornFor_13 fl_X7_37 rfl (lp_14 hS) (lq_14 hS) (lr_14_8 hS) ?_
      refine r_iload_n dX7_swornFor_16 rfl ?_
      obtain ⟨hg8, eb6⟩ := grd_some eb6
      refine r_iald dX7_swornFor_17 (lp_21 hS) (lk_21 hS) hg8 ?_
      refine r_iload_n dX7_swornFor_18 rfl ?_
      obtain ⟨p9, ep11, eb6⟩ := obind eb6
      have J10a : Run l G M_X7_swornFor 0 33 [some (vr (some 14)), some (vi a1), some (vi p9), some (vi z1.2)] [] S mm (some (vi q)) S mm := by
        refine r_iinc (v := _ + (1 : Int32)) dX7_swornFor_33 rfl (congrArg (_ + ·) ci_1) (by decide) rfl ?_
        refine r_goto (tgt := 4) dX7_swornFor_36 rfl ?_
        cases eb6
        exact r_weak (L' := [some (vr (some 14)), some (vi a1), some (vi p9), some (vi (z1.2 + (1 : Int32)))]) ⟨rfl, rfl, rfl, rfl, trivial⟩ hx5
      have J10 : ∀ pp : Int32, pp = p9 → Run l G M_X7_swornFor 0 33 [some (vr (some 14)), some (vi a1), some (vi pp), some (vi z1.2)] [] S mm (some (vi q)) S mm := by
        intro pp hpp
        rw [hpp]
        exact J10a
      refine r_icmp_ne (tgt := 33) dX7_swornFor_19 rfl (fun h13 => ?_) (fun h13 => ?_)
      · replace ep11 := ite_f h13 ep11
        exact r_weak (L' := [some (vr (some 14)), some (vi a1), some (vi z1.1), some (vi z1.2)]) ⟨rfl, rfl, rfl, rfl, trivial⟩ (J10 _ (Option.some.inj ep11))
      · replace ep11 := ite_t h13 ep11
        refine r_iload_n dX7_swornFor_22 rfl ?_
        refine r_iconst (v := 1) dX7_swornFor_23 ci_1 ?_
        refine r_aload_n dX7_swornFor_24 rfl ?_
        refine r_getR dX7_swornFor_25 fl_X7_40 rfl (lp_14 hS) (lq_14 hS) (lr_14_9 hS) ?_
        refine r_iload_n dX7_swornFor_28 rfl ?_
        obtain ⟨hg14, ep11⟩ := grd_some ep11
        refine r_iald dX7_swornFor_29 (lp_22 hS) (lk_22 hS) hg14 ?_
        refine r_ishl dX7_swornFor_30 ?_
        refine r_ior dX7_swornFor_31 ?_
        refine r_istore_n dX7_swornFor_32 (by decide) rfl ?_
        exact r_weak (L' := [some (vr (some 14)), some (vi a1), some (vi (z1.1 ||| (xshl (1 : Int32) (mI mm 22 (ix z1.2))))), some (vi z1.2)]) ⟨rfl, rfl, rfl, rfl, trivial⟩ (J10 _ (Option.some.inj ep11))
  exact r_weak (L' := [some (vr (some 14)), some (vi a1), some (vi (0 : Int32)), some (vi (0 : Int32))]) ⟨rfl, rfl, rfl, rfl, trivial⟩ J3w
noncomputable def m_X1_weak_b9 (mm : Mm) (z1 : Int32 × Int32 × Int32 × Int32) : Option ((Int32 × Int32 × Int32 × Int32) ⊕ (Int32)) := if (mI mm 14 0) ≤ z1.2.2.2 then (some (.inr z1.1)) else ((m_X7_keptBy z1.2.2.2 mm).bind (fun q8 => (m_X7_swornFor z1.2.2.2 mm).bind (fun q10 => some (.inl ((if (m_J6_bitCount_0f7a4 q10) ≤ 0 then z1.1 else (if z1.1 = (-1 : Int32) then z1.2.2.2 else (if (z1.2.1 * (m_J6_bitCount_0f7a4 q10)) ≤ ((m_J6_bitCount_0f7a4 q8) * z1.2.2.1) then z1.1 else z1.2.2.2))), (if (m_J6_bitCount_0f7a4 q10) ≤ 0 then z1.2.1 else (if z1.1 = (-1 : Int32) then (m_J6_bitCount_0f7a4 q8) else (if (z1.2.1 * (m_J6_bitCount_0f7a4 q10)) ≤ ((m_J6_bitCount_0f7a4 q8) * z1.2.2.1) then z1.2.1 else (m_J6_bitCount_0f7a4 q8)))), (if (m_J6_bitCount_0f7a4 q10) ≤ 0 then z1.2.2.1 else (if z1.1 = (-1 : Int32) then (m_J6_bitCount_0f7a4 q10) else (if (z1.2.1 * (m_J6_bitCount_0f7a4 q10)) ≤ ((m_J6_bitCount_0f7a4 q8) * z1.2.2.1) then z1.2.2.1 else (m_J6_bitCount_0f7a4 q10)))), z1.2.2.2 + (1 : Int32))))))
noncomputable def m_X1_weak (mm : Mm) : Option (Int32) := (whileF FU (m_X1_weak_b9 mm) ((-1 : Int32), (0 : Int32), (1 : Int32), (0 : Int32))).bind (fun p2 => some p2)
set_option maxHeartbeats 4000000 in
set_option maxRecDepth 100000 in
theorem c_X1_weak {l : Launch} {G : Gt} {S : Sk} {mm : Mm} (hS : Lay S) {q : Int32} (e : m_X1_weak mm = some q) : CallOK l G M_X1_weak yX1_weak 3 [vr (some 14)] S mm (some (vi q)) S mm := by
  refine call_of_run rfl rfl rfl (Nat.le_of_ble_eq_true rfl) ?_
  show Run l G M_X1_weak 3 0 [some (vr (some 14)), none, none, none, none, none, none] [] S mm (some (vi q)) S mm
  unfold m_X1_weak at e
  refine r_iconst (v := -1) dX1_weak_0 ci_m1 ?_
  refine r_istore_n dX1_weak_1 (by decide) rfl ?_
  refine r_iconst (v := 0) dX1_weak_2 ci_0 ?_
  refine r_istore_n dX1_weak_3 (by decide) rfl ?_
  refine r_iconst (v := 1) dX1_weak_4 ci_1 ?_
  refine r_istore_n dX1_weak_5 (by decide) rfl ?_
  refine r_iconst (v := 0) dX1_weak_6 ci_0 ?_
  refine r_istore dX1_weak_7 (by decide) rfl ?_
  obtain ⟨p2, eb6w, e⟩ := obind e
  have J3a : Run l G M_X1_weak 3 76 [none, some (vi p2), none, none, none, none, none] [] S mm (some (vi q)) S mm := by
    refine r_iload_n dX1_weak_76 rfl ?_
    cases e
    exact r_ireturn dX1_weak_77 rfl rfl
  have J3 : ∀ pp : Int32, pp = p2 → Run l G M_X1_weak 3 76 [none, some (vi pp), none, none, none, none, none] [] S mm (some (vi q)) S mm := by
    intro pp hpp
    rw [hpp]
    exact J3a
  have J3w : Run l G M_X1_weak 3 9 [some (vr (some 14)), some (vi (-1 : Int32)), some (vi (0 : Int32)), some (vi (1 : Int32)), some (vi (0 : Int32)), none, none] [] S mm (some (vi q)) S mm := by
    refine while_run (s := ((-1 : Int32), (0 : Int32), (1 : Int32), (0 : Int32))) (Gs := fun (z1 : Int32 × Int32 × Int32 × Int32) => Run l G M_X1_weak 3 9 [some (vr (some 14)), some (vi z1.1), some (vi z1.2.1), some (vi z1.2.2.1), some (vi z1.2.2.2), none, none] [] S mm (some (vi q)) S mm) eb6w ?_
    intro z1 x4y eb6 hx5
    unfold m_X1_weak_b9 at eb6
    refine r_iload dX1_weak_9 rfl ?_
    refine r_aload_n dX1_weak_11 rfl ?_
    refine r_getI dX1_weak_12 fl_X1_60 rfl (lp_14 hS) (lq_14 hS) ?_
    refine r_icmp_ge (tgt := 76) dX1_weak_15 rfl (fun h7 => ?_) (fun h7 => ?_)
    · replace eb6 := ite_t h7 eb6
      cases eb6
      exact r_weak (L' := [none, some (vi z1.1), none, none, none, none, none]) ⟨rfl, trivial⟩ (J3 _ hx5)
    · replace eb6 := ite_f h7 eb6
      refine r_aload_n dX1_weak_18 rfl ?_
      refine r_iload dX1_weak_19 rfl ?_
      obtain ⟨q8, eq9, eb6⟩ := obind eb6
      refine r_callV (as := [_]) (rest := []) dX1_weak_21 ml_X1_71 yV_X7_keptBy (c_X7_keptBy hS eq9) (by decide) rfl (lp_14 hS) (lq_14 hS) (Nat.le_of_ble_eq_true rfl) ?_
      refine r_callS (as := [_]) (rest := []) dX1_weak_24 ml_X1_55 yS_J6_bitCount_0f7a4 (c_J6_bitCount_0f7a4) (by decide) rfl (Nat.le_of_ble_eq_true rfl) ?_
      refine r_istore dX1_weak_27 (by decide) rfl ?_
      refine r_aload_n dX1_weak_29 rfl ?_
      refine r_iload dX1_weak_30 rfl ?_
      obtain ⟨q10, eq11, eb6⟩ := obind eb6
      refine r_callV (as := [_]) (rest := []) dX1_weak_32 ml_X1_91 yV_X7_swornFor (c_X7_swornFor hS eq11) (by decide) rfl (lp_14 hS) (lq_14 hS) (Nat.le_of_ble_eq_true rfl) ?_
      refine r_callS (as := [_]) (rest := []) dX1_weak_35 ml_X1_55 yS_J6_bitCount_0f7a4 (c_J6_bitCount_0f7a4) (by decide) rfl (Nat.le_of_ble_eq_true rfl) ?_
      refine r_istore dX1_weak_38 (by decide) rfl ?_
      refine r_iload dX1_weak_40 rfl ?_
      have J18 : ∀ (w15 : Int32) (w16 : Int32) (w17 : Int32), w15 = (if (m_J6_bitCount_0f7a4 q10) ≤ 0 then z1.1 else (if z1.1 = (-1 : Int32) then z1.2.2.2 else (if (z1.2.1 * (m_J6_bitCount_0f7a4 q10)) ≤ ((m_J6_bitCount_0f7a4 q8) * z1.2.2.1) then z1.1 else z1.2.2.2))) → w16 = (if (m_J6_bitCount_0f7a4 q10) ≤ 0 then z1.2.1 else (if z1.1 = (-1 : Int32) then (m_J6_bitCount_0f7a4 q8) else (if (z1.2.1 * (m_J6_bitCount_0f7a4 q10)) ≤ ((m_J6_bitCount_0f7a4 q8) * z1.2.2.1) then z1.2.1 else (m_J6_bitCount_0f7a4 q8)))) → w17 = (if (m_J6_bitCount_0f7a4 q10) ≤ 0 then z1.2.2.1 else (if z1.1 = (-1 : Int32) then (m_J6_bitCount_0f7a4 q10) else (if (z1.2.1 * (m_J6_bitCount_0f7a4 q10)) ≤ ((m_J6_bitCount_0f7a4 q8) * z1.2.2.1) then z1.2.2.1 else (m_J6_bitCount_0f7a4 q10)))) → Run l G M_X1_weak 3 70 [some (vr (some 14)), some (vi w15), some (vi w16), some (vi w17), some (vi z1.2.2.2), none, none] [] S mm (some (vi q)) S mm := by
        intro w15 w16 w17 hw19 hw20 hw21
        subst hw19
        subst hw20
        subst hw21
        refine r_iinc (v := _ + (1 : Int32)) dX1_weak_70 rfl (congrArg (_ + ·) ci_1) (by decide) rfl ?_
        refine r_goto (tgt := 9) dX1_weak_73 rfl ?_
        cases eb6
        exact r_weak (L' := [some (vr (some 14)), some (vi (if (m_J6_bitCount_0f7a4 q10) ≤ 0 then z1.1 else (if z1.1 = (-1 : Int32) then z1.2.2.2 else (if (z1.2.1 * (m_J6_bitCount_0f7a4 q10)) ≤ ((m_J6_bitCount_0f7a4 q8) * z1.2.2.1) then z1.1 else z1.2.2.2)))), some (vi (if (m_J6_bitCount_0f7a4 q10) ≤ 0 then z1.2.1 else (if z1.1 = (-1 : Int32) then (m_J6_bitCount_0f7a4 q8) else (if (z1.2.1 * (m_J6_bitCount_0f7a4 q10)) ≤ ((m_J6_bitCount_0f7a4 q8) * z1.2.2.1) then z1.2.1 else (m_J6_bitCount_0f7a4 q8))))), some (vi (if (m_J6_bitCount_0f7a4 q10) ≤ 0 then z1.2.2.1 else (if z1.1 = (-1 : Int32) then (m_J6_bitCount_0f7a4 q10) else (if (z1.2.1 * (m_J6_bitCount_0f7a4 q10)) ≤ ((m_J6_bitCount_0f7a4 q8) * z1.2.2.1) then z1.2.2.1 else (m_J6_bitCount_0f7a4 q10))))), some (vi (z1.2.2.2 + (1 : Int32))), none, none]) ⟨rfl, rfl, rfl, rfl, rfl, trivial⟩ hx5
      refine r_if_le (tgt := 70) dX1_weak_42 rfl (fun h12 => ?_) (fun h12 => ?_)
      · exact r_weak (L' := [some (vr (some 14)), some (vi z1.1), some (vi z1.2.1), some (vi z1.2.2.1), some (vi z1.2.2.2), none, none]) ⟨rfl, rfl, rfl, rfl, rfl, trivial⟩ (J18 _ _ _ (Eq.symm (if_pos h12)) (Eq.symm (if_pos h12)) (Eq.symm (if_pos h12)))
      · refine r_iload_n dX1_weak_45 rfl ?_
        refine r_iconst (v := -1) dX1_weak_46 ci_m1 ?_
        refine r_icmp_eq (tgt := 61) dX1_weak_47 rfl (fun h13 => ?_) (fun h13 => ?_)
        · refine r_iload dX1_weak_61 rfl ?_
          refine r_istore_n dX1_weak_63 (by decide) rfl ?_
          refine r_iload dX1_weak_64 rfl ?_
          refine r_istore_n dX1_weak_66 (by decide) rfl ?_
          refine r_iload dX1_weak_67 rfl ?_
          refine r_istore_n dX1_weak_69 (by decide) rfl ?_
          exact r_weak (L' := [some (vr (some 14)), some (vi z1.2.2.2), some (vi (m_J6_bitCount_0f7a4 q8)), some (vi (m_J6_bitCount_0f7a4 q10)), some (vi z1.2.2.2), none, none]) ⟨rfl, rfl, rfl, rfl, rfl, trivial⟩ (J18 _ _ _ (Eq.symm ((if_neg h12).trans (if_pos h13))) (Eq.symm ((if_neg h12).trans (if_pos h13))) (Eq.symm ((if_neg h12).trans (if_pos h13))))
        · refine r_iload dX1_weak_50 rfl ?_
          refine r_iload_n dX1_weak_52 rfl ?_
          refine r_imul dX1_weak_53 ?_
          refine r_iload_n dX1_weak_54 rfl ?_
          refine r_iload dX1_weak_55 rfl ?_
          refine r_imul dX1_weak_57 ?_
          refine r_icmp_ge (tgt := 70) dX1_weak_58 rfl (fun h14 => ?_) (fun h14 => ?_)
          · exact r_weak (L' := [some (vr (some 14)), some (vi z1.1), some (vi z1.2.1), some (vi z1.2.2.1), some (vi z1.2.2.2), none, none]) ⟨rfl, rfl, rfl, rfl, rfl, trivial⟩ (J18 _ _ _ (Eq.symm ((if_neg h12).trans ((if_neg h13).trans (if_pos h14)))) (Eq.symm ((if_neg h12).trans ((if_neg h13).trans (if_pos h14)))) (Eq.symm ((if_neg h12).trans ((if_neg h13).trans (if_pos h14)))))
          · refine r_iload dX1_weak_61 rfl ?_
            refine r_istore_n dX1_weak_63 (by decide) rfl ?_
            refine r_iload dX1_weak_64 rfl ?_
            refine r_istore_n dX1_weak_66 (by decide) rfl ?_
            refine r_iload dX1_weak_67 rfl ?_
            refine r_istore_n dX1_weak_69 (by decide) rfl ?_
            exact r_weak (L' := [some (vr (some 14)), some (vi z1.2.2.2), some (vi (m_J6_bitCount_0f7a4 q8)), some (vi (m_J6_bitCount_0f7a4 q10)), some (vi z1.2.2.2), none, none]) ⟨rfl, rfl, rfl, rfl, rfl, trivial⟩ (J18 _ _ _ (Eq.symm ((if_neg h12).trans ((if_neg h13).trans (if_neg h14)))) (Eq.symm ((if_neg h12).trans ((if_neg h13).trans (if_neg h14)))) (Eq.symm ((if_neg h12).trans ((if_neg h13).trans (if_neg h14)))))
  exact r_weak (L' := [some (vr (some 14)), some (vi (-1 : Int32)), some (vi (0 : Int32)), some (vi (1 : Int32)), some (vi (0 : Int32)), none, none]) ⟨rfl, rfl, rfl, rfl, rfl, trivial⟩ J3w
noncomputable def m_X11_commonDivisor_b7 (z1 : Int32 × Int32 × Int32) : Option ((Int32 × Int32 × Int32) ⊕ (Int32)) := if (64 : Int32) ≤ z1.2.2 then (some (.inr z1.1)) else (if z1.2.1 ≤ 0 then (some (.inr z1.1)) else (gdz z1.2.1 (some (.inl (z1.2.1, xrem z1.1 z1.2.1, z1.2.2 + (1 : Int32))))))
noncomputable def m_X11_commonDivisor (a0 : Int32) (a1 : Int32) : Option (Int32) := (whileF FU (m_X11_commonDivisor_b7) (a0, a1, (0 : Int32))).bind (fun p2 => some (xmax p2 (1 : Int32)))
set_option maxHeartbeats 4000000 in
set_option maxRecDepth 100000 in
theorem c_X11_commonDivisor {l : Launch} {G : Gt} {S : Sk} {a0 : Int32} {a1 : Int32} {mm : Mm} {q : Int32} (e : m_X11_commonDivisor a0 a1 = some q) : CallOK l G M_X11_commonDivisor yX11_commonDivisor 1 [vi a0, vi a1] S mm (some (vi q)) S mm := by
  refine call_of_run rfl rfl rfl (Nat.le_of_ble_eq_true rfl) ?_
  show Run l G M_X11_commonDivisor 1 0 [some (vi a0), some (vi a1), none, none, none, none] [] S mm (some (vi q)) S mm
  unfold m_X11_commonDivisor at e
  refine r_iload_n dX11_commonDivisor_0 rfl ?_
  refine r_istore_n dX11_commonDivisor_1 (by decide) rfl ?_
  refine r_iload_n dX11_commonDivisor_2 rfl ?_
  refine r_istore_n dX11_commonDivisor_3 (by decide) rfl ?_
  refine r_iconst (v := 0) dX11_commonDivisor_4 ci_0 ?_
  refine r_istore dX11_commonDivisor_5 (by decide) rfl ?_
  obtain ⟨p2, eb6w, e⟩ := obind e
  have J3a : Run l G M_X11_commonDivisor 1 34 [none, none, some (vi p2), none, none, none] [] S mm (some (vi q)) S mm := by
    refine r_iload_n dX11_commonDivisor_34 rfl ?_
    refine r_iconst (v := 1) dX11_commonDivisor_35 ci_1 ?_
    refine r_mmax (rest := []) dX11_commonDivisor_36 ml_X11_274 (by decide) (Nat.le_of_ble_eq_true rfl) ?_
    cases e
    exact r_ireturn dX11_commonDivisor_39 rfl rfl
  have J3 : ∀ pp : Int32, pp = p2 → Run l G M_X11_commonDivisor 1 34 [none, none, some (vi pp), none, none, none] [] S mm (some (vi q)) S mm := by
    intro pp hpp
    rw [hpp]
    exact J3a
  have J3w : Run l G M_X11_commonDivisor 1 7 [none, none, some (vi a0), some (vi a1), some (vi (0 : Int32)), none] [] S mm (some (vi q)) S mm := by
    refine while_run (s := (a0, a1, (0 : Int32))) (Gs := fun (z1 : Int32 × Int32 × Int32) => Run l G M_X11_commonDivisor 1 7 [none, none, some (vi z1.1), some (vi z1.2.1), some (vi z1.2.2), none] [] S mm (some (vi q)) S mm) eb6w ?_
    intro z1 x4y eb6 hx5
    unfold m_X11_commonDivisor_b7 at eb6
    refine r_iload dX11_commonDivisor_7 rfl ?_
    refine r_bipush (v := 64) dX11_commonDivisor_9 cb_64 ?_
    refine r_icmp_ge (tgt := 34) dX11_commonDivisor_11 rfl (fun h7 => ?_) (fun h7 => ?_)
    · replace eb6 := ite_t h7 eb6
      cases eb6
      exact r_weak (L' := [none, none, some (vi z1.1), none, none, none]) ⟨rfl, trivial⟩ (J3 _ hx5)
    · replace eb6 := ite_f h7 eb6
      refine r_iload_n dX11_commonDivisor_14 rfl ?_
      refine r_if_le (tgt := 34) dX11_commonDivisor_15 rfl (fun h8 => ?_) (fun h8 => ?_)
      · replace eb6 := ite_t h8 eb6
        cases eb6
        exact r_weak (L' := [none, none, some (vi z1.1), none, none, none]) ⟨rfl, trivial⟩ (J3 _ hx5)
      · replace eb6 := ite_f h8 eb6
        refine r_iload_n dX11_commonDivisor_18 rfl ?_
        refine r_iload_n dX11_commonDivisor_19 rfl ?_
        obtain ⟨hz9, eb6⟩ := gdz_some eb6
        refine r_irem dX11_commonDivisor_20 hz9 ?_
        refine r_istore dX11_commonDivisor_21 (by decide) rfl ?_
        refine r_iload_n dX11_commonDivisor_23 rfl ?_
        refine r_istore_n dX11_commonDivisor_24 (by decide) rfl ?_
        refine r_iload dX11_commonDivisor_25 rfl ?_
        refine r_istore_n dX11_commonDivisor_27 (by decide) rfl ?_
        refine r_iinc (v := _ + (1 : Int32)) dX11_commonDivisor_28 rfl (congrArg (_ + ·) ci_1) (by decide) rfl ?_
        refine r_goto (tgt := 7) dX11_commonDivisor_31 rfl ?_
        cases eb6
        exact r_weak (L' := [none, none, some (vi z1.2.1), some (vi (xrem z1.1 z1.2.1)), some (vi (z1.2.2 + (1 : Int32))), none]) ⟨rfl, rfl, rfl, trivial⟩ hx5
  exact r_weak (L' := [none, none, some (vi a0), some (vi a1), some (vi (0 : Int32)), none]) ⟨rfl, rfl, rfl, trivial⟩ J3w
noncomputable def m_X1_weakPart (a1 : Int32) (mm : Mm) : Option (Int32) := (m_X1_weak mm).bind (fun q1 => if q1 = (-1 : Int32) then (some (-1 : Int32)) else ((m_X7_keptBy q1 mm).bind (fun q4 => (m_X7_swornFor q1 mm).bind (fun q6 => (m_X11_commonDivisor (m_J6_bitCount_0f7a4 q6) (m_J6_bitCount_0f7a4 q4)).bind (fun q11 => gdz q11 (some ((if a1 = 0 then (m_J6_bitCount_0f7a4 q4) else (m_J6_bitCount_0f7a4 q6)) / q11)))))))
set_option maxHeartbeats 4000000 in
set_option maxRecDepth 100000 in
theorem c_X1_weakPart {l : Launch} {G : Gt} {S : Sk} {a1 : Int32} {mm : Mm} (hS : Lay S) {q : Int32} (e : m_X1_weakPart a1 mm = some q) : CallOK l G M_X1_weakPart yX1_weakPart 4 [vr (some 14), vi a1] S mm (some (vi q)) S mm := by
  refine call_of_run rfl rfl rfl (Nat.le_of_ble_eq_true rfl) ?_
  show Run l G M_X1_weakPart 4 0 [some (vr (some 14)), some (vi a1), none, none, none] [] S mm (some (vi q)) S mm
  unfold m_X1_weakPart at e
  refine r_aload_n dX1_weakPart_0 rfl ?_
  obtain ⟨q1, eq2, e⟩ := obind e
  refine r_callS (as := [_]) (rest := []) dX1_weakPart_1 ml_X1_45 yS_X1_weak (c_X1_weak hS eq2) (by decide) rfl (Nat.le_of_ble_eq_true rfl) ?_
  refine r_istore_n dX1_weakPart_4 (by decide) rfl ?_
  refine r_iload_n dX1_weakPart_5 rfl ?_
  refine r_iconst (v := -1) dX1_weakPart_6 ci_m1 ?_
  refine r_icmp_ne (tgt := 12) dX1_weakPart_7 rfl (fun h3 => ?_) (fun h3 => ?_)
  · replace e := ite_f h3 e
    refine r_aload_n dX1_weakPart_12 rfl ?_
    refine r_iload_n dX1_weakPart_13 rfl ?_
    obtain ⟨q4, eq5, e⟩ := obind e
    refine r_callV (as := [_]) (rest := []) dX1_weakPart_14 ml_X1_71 yV_X7_keptBy (c_X7_keptBy hS eq5) (by decide) rfl (lp_14 hS) (lq_14 hS) (Nat.le_of_ble_eq_true rfl) ?_
    refine r_callS (as := [_]) (rest := []) dX1_weakPart_17 ml_X1_55 yS_J6_bitCount_0f7a4 (c_J6_bitCount_0f7a4) (by decide) rfl (Nat.le_of_ble_eq_true rfl) ?_
    refine r_istore_n dX1_weakPart_20 (by decide) rfl ?_
    refine r_aload_n dX1_weakPart_21 rfl ?_
    refine r_iload_n dX1_weakPart_22 rfl ?_
    obtain ⟨q6, eq7, e⟩ := obind e
    refine r_callV (as := [_]) (rest := []) dX1_weakPart_23 ml_X1_91 yV_X7_swornFor (c_X7_swornFor hS eq7) (by decide) rfl (lp_14 hS) (lq_14 hS) (Nat.le_of_ble_eq_true rfl) ?_
    refine r_callS (as := [_]) (rest := []) dX1_weakPart_26 ml_X1_55 yS_J6_bitCount_0f7a4 (c_J6_bitCount_0f7a4) (by decide) rfl (Nat.le_of_ble_eq_true rfl) ?_
    refine r_istore dX1_weakPart_29 (by decide) rfl ?_
    refine r_iload_n dX1_weakPart_31 rfl ?_
    have J10 : ∀ (w9 : Int32), w9 = (if a1 = 0 then (m_J6_bitCount_0f7a4 q4) else (m_J6_bitCount_0f7a4 q6)) → Run l G M_X1_weakPart 4 41 [none, none, none, some (vi (m_J6_bitCount_0f7a4 q4)), some (vi (m_J6_bitCount_0f7a4 q6))] [vi w9] S mm (some (vi q)) S mm := by
      intro w9 hw14
      subst hw14
      refine r_iload dX1_weakPart_41 rfl ?_
      refine r_iload_n dX1_weakPart_43 rfl ?_
      obtain ⟨q11, eq12, e⟩ := obind e
      refine r_callSN (as := [_, _]) (rest := [_]) dX1_weakPart_44 nl_X1_94 yS_X11_commonDivisor (c_X11_commonDivisor eq12) (by decide) rfl (Nat.le_of_ble_eq_true rfl) ?_
      obtain ⟨hz13, e⟩ := gdz_some e
      refine r_idiv dX1_weakPart_47 hz13 ?_
      cases e
      exact r_ireturn dX1_weakPart_48 rfl rfl
    refine r_if_eq (tgt := 40) dX1_weakPart_32 rfl (fun h8 => ?_) (fun h8 => ?_)
    · refine r_iload_n dX1_weakPart_40 rfl ?_
      exact r_weak (L' := [none, none, none, some (vi (m_J6_bitCount_0f7a4 q4)), some (vi (m_J6_bitCount_0f7a4 q6))]) ⟨rfl, rfl, trivial⟩ (J10 _ (Eq.symm (if_pos h8)))
    · refine r_iload dX1_weakPart_35 rfl ?_
      refine r_goto (tgt := 41) dX1_weakPart_37 rfl ?_
      exact r_weak (L' := [none, none, none, some (vi (m_J6_bitCount_0f7a4 q4)), some (vi (m_J6_bitCount_0f7a4 q6))]) ⟨rfl, rfl, trivial⟩ (J10 _ (Eq.symm (if_neg h8)))
  · replace e := ite_t h3 e
    refine r_iconst (v := -1) dX1_weakPart_10 ci_m1 ?_
    cases e
    exact r_ireturn dX1_weakPart_11 rfl rfl
noncomputable def m_X1_tell (a2 : Int32) (mm : Mm) : Option (Int32 × Mm) := if a2 = (8 : Int32) then ((m_X1_hardest mm).bind (fun q2 => some (q2, mm))) else (if a2 = (9 : Int32) then ((m_X7_brokenOaths (0 : Int32) mm).bind (fun q5 => some (((xshl (1 : Int32) (mI mm 14 1)) - (1 : Int32)) &&& (q5 ^^^ (-1 : Int32)), mm))) else (if a2 = (10 : Int32) then ((m_X1_spoilers mm).bind (fun q8 => some (q8, mm))) else (if a2 = (11 : Int32) then ((m_X1_findMore mm).bind (fun q11 => some (mI q11 32 2, q11))) else (if a2 = (12 : Int32) then ((m_X1_findMore mm).bind (fun q14 => some (mI q14 32 3, q14))) else (if a2 = (13 : Int32) then ((m_X1_weak mm).bind (fun q17 => some (q17, mm))) else (if a2 = (14 : Int32) then ((m_X1_weakPart (0 : Int32) mm).bind (fun q20 => some (q20, mm))) else (if a2 = (15 : Int32) then ((m_X1_weakPart (1 : Int32) mm).bind (fun q23 => some (q23, mm))) else (some ((-2 : Int32), mm)))))))))
set_option maxHeartbeats 4000000 in
set_option maxRecDepth 100000 in
theorem c_X1_tell {l : Launch} {G : Gt} {S : Sk} {a2 : Int32} {mm : Mm} (hS : Lay S) {q : Int32 × Mm} (e : m_X1_tell a2 mm = some q) : CallOK l G M_X1_tell yX1_tell 5 [vr (some 32), vr (some 14), vi a2] S mm (some (vi q.1)) S q.2 := by
  refine call_of_run rfl rfl rfl (Nat.le_of_ble_eq_true rfl) ?_
  show Run l G M_X1_tell 5 0 [some (vr (some 32)), some (vr (some 14)), some (vi a2)] [] S mm (some (vi q.1)) S q.2
  unfold m_X1_tell at e
  refine r_iload_n dX1_tell_0 rfl ?_
  by_cases h1 : a2 = (8 : Int32)
  · replace e := ite_t h1 e
    refine r_table_in (tgt := 48) dX1_tell_1 (by rw [h1]; decide) (by rw [h1]; decide) (by rw [h1]; rfl) rfl ?_
    refine r_aload_n dX1_tell_48 rfl ?_
    obtain ⟨q2, eq3, e⟩ := obind e
    refine r_callS (as := [_]) (rest := []) dX1_tell_49 ml_X1_25 yS_X1_hardest (c_X1_hardest hS eq3) (by decide) rfl (Nat.le_of_ble_eq_true rfl) ?_
    cases e
    exact r_ireturn dX1_tell_52 rfl rfl
  replace e := ite_f h1 e
  by_cases h4 : a2 = (9 : Int32)
  · replace e := ite_t h4 e
    refine r_table_in (tgt := 53) dX1_tell_1 (by rw [h4]; decide) (by rw [h4]; decide) (by rw [h4]; rfl) rfl ?_
    refine r_iconst (v := 1) dX1_tell_53 ci_1 ?_
    refine r_aload_n dX1_tell_54 rfl ?_
    refine r_getI dX1_tell_55 fl_X1_29 rfl (lp_14 hS) (lq_14 hS) ?_
    refine r_ishl dX1_tell_58 ?_
    refine r_iconst (v := 1) dX1_tell_59 ci_1 ?_
    refine r_isub dX1_tell_60 ?_
    refine r_aload_n dX1_tell_61 rfl ?_
    refine r_iconst (v := 0) dX1_tell_62 ci_0 ?_
    obtain ⟨q5, eq6, e⟩ := obind e
    refine r_callV (as := [_]) (rest := [_]) dX1_tell_63 ml_X1_34 yV_X7_brokenOaths (c_X7_brokenOaths hS eq6) (by decide) rfl (lp_14 hS) (lq_14 hS) (Nat.le_of_ble_eq_true rfl) ?_
    refine r_iconst (v := -1) dX1_tell_66 ci_m1 ?_
    refine r_ixor dX1_tell_67 ?_
    refine r_iand dX1_tell_68 ?_
    cases e
    exact r_ireturn dX1_tell_69 rfl rfl
  replace e := ite_f h4 e
  by_cases h7 : a2 = (10 : Int32)
  · replace e := ite_t h7 e
    refine r_table_in (tgt := 70) dX1_tell_1 (by rw [h7]; decide) (by rw [h7]; decide) (by rw [h7]; rfl) rfl ?_
    refine r_aload_n dX1_tell_70 rfl ?_
    obtain ⟨q8, eq9, e⟩ := obind e
    refine r_callS (as := [_]) (rest := []) dX1_tell_71 ml_X1_38 yS_X1_spoilers (c_X1_spoilers hS eq9) (by decide) rfl (Nat.le_of_ble_eq_true rfl) ?_
    cases e
    exact r_ireturn dX1_tell_74 rfl rfl
  replace e := ite_f h7 e
  by_cases h10 : a2 = (11 : Int32)
  · replace e := ite_t h10 e
    refine r_table_in (tgt := 75) dX1_tell_1 (by rw [h10]; decide) (by rw [h10]; decide) (by rw [h10]; rfl) rfl ?_
    refine r_aload_n dX1_tell_75 rfl ?_
    refine r_aload_n dX1_tell_76 rfl ?_
    obtain ⟨q11, eq12, e⟩ := obind e
    refine r_callV (as := [_]) (rest := []) dX1_tell_77 ml_X1_41 yV_X1_findMore (c_X1_findMore hS eq12) (by decide) rfl (lp_32 hS) (lq_32 hS) (Nat.le_of_ble_eq_true rfl) ?_
    refine r_aload_n dX1_tell_80 rfl ?_
    refine r_getI dX1_tell_81 fl_X1_19 rfl (lp_32 hS) (lq_32 hS) ?_
    cases e
    exact r_ireturn dX1_tell_84 rfl rfl
  replace e := ite_f h10 e
  by_cases h13 : a2 = (12 : Int32)
  · replace e := ite_t h13 e
    refine r_table_in (tgt := 85) dX1_tell_1 (by rw [h13]; decide) (by rw [h13]; decide) (by rw [h13]; rfl) rfl ?_
    refine r_aload_n dX1_tell_85 rfl ?_
    refine r_aload_n dX1_tell_86 rfl ?_
    obtain ⟨q14, eq15, e⟩ := obind e
    refine r_callV (as := [_]) (rest := []) dX1_tell_87 ml_X1_41 yV_X1_findMore (c_X1_findMore hS eq15) (by decide) rfl (lp_32 hS) (lq_32 hS) (Nat.le_of_ble_eq_true rfl) ?_
    refine r_aload_n dX1_tell_90 rfl ?_
    refine r_getI dX1_tell_91 fl_X1_22 rfl (lp_32 hS) (lq_32 hS) ?_
    cases e
    exact r_ireturn dX1_tell_94 rfl rfl
  replace e := ite_f h13 e
  by_cases h16 : a2 = (13 : Int32)
  · replace e := ite_t h16 e
    refine r_table_in (tgt := 95) dX1_tell_1 (by rw [h16]; decide) (by rw [h16]; decide) (by rw [h16]; rfl) rfl ?_
    refine r_aload_n dX1_tell_95 rfl ?_
    obtain ⟨q17, eq18, e⟩ := obind e
    refine r_callS (as := [_]) (rest := []) dX1_tell_96 ml_X1_45 yS_X1_weak (c_X1_weak hS eq18) (by decide) rfl (Nat.le_of_ble_eq_true rfl) ?_
    cases e
    exact r_ireturn dX1_tell_99 rfl rfl
  replace e := ite_f h16 e
  by_cases h19 : a2 = (14 : Int32)
  · replace e := ite_t h19 e
    refine r_table_in (tgt := 100) dX1_tell_1 (by rw [h19]; decide) (by rw [h19]; decide) (by rw [h19]; rfl) rfl ?_
    refine r_aload_n dX1_tell_100 rfl ?_
    refine r_iconst (v := 0) dX1_tell_101 ci_0 ?_
    obtain ⟨q20, eq21, e⟩ := obind e
    refine r_callS (as := [_, _]) (rest := []) dX1_tell_102 ml_X1_48 yS_X1_weakPart (c_X1_weakPart hS eq21) (by decide) rfl (Nat.le_of_ble_eq_true rfl) ?_
    cases e
    exact r_ireturn dX1_tell_105 rfl rfl
  replace e := ite_f h19 e
  by_cases h22 : a2 = (15 : Int32)
  · replace e := ite_t h22 e
    refine r_table_in (tgt := 106) dX1_tell_1 (by rw [h22]; decide) (by rw [h22]; decide) (by rw [h22]; rfl) rfl ?_
    refine r_aload_n dX1_tell_106 rfl ?_
    refine r_iconst (v := 1) dX1_tell_107 ci_1 ?_
    obtain ⟨q23, eq24, e⟩ := obind e
    refine r_callS (as := [_, _]) (rest := []) dX1_tell_108 ml_X1_48 yS_X1_weakPart (c_X1_weakPart hS eq24) (by decide) rfl (Nat.le_of_ble_eq_true rfl) ?_
    cases e
    exact r_ireturn dX1_tell_111 rfl rfl
  replace e := ite_f h22 e
  have ho1 : (a2).toInt < 8 ∨ 15 < (a2).toInt := by
    have nh1 := lv_neT (a := 8) h1 (by decide)
    have nh4 := lv_neT (a := 9) h4 (by decide)
    have nh7 := lv_neT (a := 10) h7 (by decide)
    have nh10 := lv_neT (a := 11) h10 (by decide)
    have nh13 := lv_neT (a := 12) h13 (by decide)
    have nh16 := lv_neT (a := 13) h16 (by decide)
    have nh19 := lv_neT (a := 14) h19 (by decide)
    have nh22 := lv_neT (a := 15) h22 (by decide)
    omega
  refine r_table_out (tgt := 112) dX1_tell_1 ho1 rfl ?_
  refine r_bipush (v := -2) dX1_tell_112 cb_m2 ?_
  cases e
  exact r_ireturn dX1_tell_114 rfl rfl
noncomputable def m_X1_oathsOutside_b5 (a1 : Int32) (a2 : Int32) (mm : Mm) (z1 : Int32 × Int32) : Option ((Int32 × Int32) ⊕ (Int32)) := if (mI mm 14 1) ≤ z1.2 then (some (.inr z1.1)) else (grd z1.2 12 ((if (mI mm 21 (ix z1.2)) = a1 then (grd z1.2 12 (if (m_X11_has a2 (mI mm 22 (ix z1.2))) = 0 then (some (z1.1 ||| (xshl (1 : Int32) z1.2))) else (some z1.1))) else (some z1.1) : Option (Int32)).bind (fun p9 => some (.inl (p9, z1.2 + (1 : Int32))))))
noncomputable def m_X1_oathsOutside (a1 : Int32) (a2 : Int32) (mm : Mm) : Option (Int32) := (whileF FU (m_X1_oathsOutside_b5 a1 a2 mm) ((0 : Int32), (0 : Int32))).bind (fun p2 => some p2)
set_option maxHeartbeats 4000000 in
set_option maxRecDepth 100000 in
theorem c_X1_oathsOutside {l : Launch} {G : Gt} {S : Sk} {a1 : Int32} {a2 : Int32} {mm : Mm} (hS : Lay S) {q : Int32} (e : m_X1_oathsOutside a1 a2 mm = some q) : CallOK l G M_X1_oathsOutside yX1_oathsOutside 1 [vr (some 14), vi a1, vi a2] S mm (some (vi q)) S mm := by
  refine call_of_run rfl rfl rfl (Nat.le_of_ble_eq_true rfl) ?_
  show Run l G M_X1_oathsOutside 1 0 [some (vr (some 14)), some (vi a1), some (vi a2), none, none] [] S mm (some (vi q)) S mm
  unfold m_X1_oathsOutside at e
  refine r_iconst (v := 0) dX1_oathsOutside_0 ci_0 ?_
  refine r_istore_n dX1_oathsOutside_1 (by decide) rfl ?_
  refine r_iconst (v := 0) dX1_oathsOutside_2 ci_0 ?_
  refine r_istore dX1_oathsOutside_3 (by decide) rfl ?_
  obtain ⟨p2, eb6w, e⟩ := obind e
  have J3a : Run l G M_X1_oathsOutside 1 52 [none, none, none, some (vi p2), none] [] S mm (some (vi q)) S mm := by
    refine r_iload_n dX1_oathsOutside_52 rfl ?_
    cases e
    exact r_ireturn dX1_oathsOutside_53 rfl rfl
  have J3 : ∀ pp : Int32, pp = p2 → Run l G M_X1_oathsOutside 1 52 [none, none, none, some (vi pp), none] [] S mm (some (vi q)) S mm := by
    intro pp hpp
    rw [hpp]
    exact J3a
  have J3w : Run l G M_X1_oathsOutside 1 5 [some (vr (some 14)), some (vi a1), some (vi a2), some (vi (0 : Int32)), some (vi (0 : Int32))] [] S mm (some (vi q)) S mm := by
    refine while_run (s := ((0 : Int32), (0 : Int32))) (Gs := fun (z1 : Int32 × Int32) => Run l G M_X1_oathsOutside 1 5 [some (vr (some 14)), some (vi a1), some (vi a2), some (vi z1.1), some (vi z1.2)] [] S mm (some (vi q)) S mm) eb6w ?_
    intro z1 x4y eb6 hx5
    unfold m_X1_oathsOutside_b5 at eb6
    refine r_iload dX1_oathsOutside_5 rfl ?_
    refine r_aload_n dX1_oathsOutside_7 rfl ?_
    refine r_getI dX1_oathsOutside_8 fl_X1_29 rfl (lp_14 hS) (lq_14 hS) ?_
    refine r_icmp_ge (tgt := 52) dX1_oathsOutside_11 rfl (fun h7 => ?_) (fun h7 => ?_)
    · replace eb6 := ite_t h7 eb6
      cases eb6
      exact r_weak (L' := [none, none, none, some (vi z1.1), none]) ⟨rfl, trivial⟩ (J3 _ hx5)
    · replace eb6 := ite_f h7 eb6
      refine r_aload_n dX1_oathsOutside_14 rfl ?_
      refine r_getR dX1_oathsOutside_15 fl_X1_105 rfl (lp_14 hS) (lq_14 hS) (lr_14_8 hS) ?_
      refine r_iload dX1_oathsOutside_18 rfl ?_
      obtain ⟨hg8, eb6⟩ := grd_some eb6
      refine r_iald dX1_oathsOutside_20 (lp_21 hS) (lk_21 hS) hg8 ?_
      refine r_iload_n dX1_oathsOutside_21 rfl ?_
      obtain ⟨p9, ep11, eb6⟩ := obind eb6
      have J10a : Run l G M_X1_oathsOutside 1 46 [some (vr (some 14)), some (vi a1), some (vi a2), some (vi p9), some (vi z1.2)] [] S mm (some (vi q)) S mm := by
        refine r_iinc (v := _ + (1 : Int32)) dX1_oathsOutside_46 rfl (congrArg (_ + ·) ci_1) (by decide) rfl ?_
        refine r_goto (tgt := 5) dX1_oathsOutside_49 rfl ?_
        cases eb6
        exact r_weak (L' := [some (vr (some 14)), some (vi a1), some (vi a2), some (vi p9), some (vi (z1.2 + (1 : Int32)))]) ⟨rfl, rfl, rfl, rfl, rfl, trivial⟩ hx5
      have J10 : ∀ pp : Int32, pp = p9 → Run l G M_X1_oathsOutside 1 46 [some (vr (some 14)), some (vi a1), some (vi a2), some (vi pp), some (vi z1.2)] [] S mm (some (vi q)) S mm := by
        intro pp hpp
        rw [hpp]
        exact J10a
      refine r_icmp_ne (tgt := 46) dX1_oathsOutside_22 rfl (fun h13 => ?_) (fun h13 => ?_)
      · replace ep11 := ite_f h13 ep11
        exact r_weak (L' := [some (vr (some 14)), some (vi a1), some (vi a2), some (vi z1.1), some (vi z1.2)]) ⟨rfl, rfl, rfl, rfl, rfl, trivial⟩ (J10 _ (Option.some.inj ep11))
      · replace ep11 := ite_t h13 ep11
        refine r_iload_n dX1_oathsOutside_25 rfl ?_
        refine r_aload_n dX1_oathsOutside_26 rfl ?_
        refine r_getR dX1_oathsOutside_27 fl_X1_108 rfl (lp_14 hS) (lq_14 hS) (lr_14_9 hS) ?_
        refine r_iload dX1_oathsOutside_30 rfl ?_
        obtain ⟨hg14, ep11⟩ := grd_some ep11
        refine r_iald dX1_oathsOutside_32 (lp_22 hS) (lk_22 hS) hg14 ?_
        refine r_callSN (as := [_, _]) (rest := []) dX1_oathsOutside_33 nl_X1_83 yS_X11_has (c_X11_has) (by decide) rfl (Nat.le_of_ble_eq_true rfl) ?_
        refine r_if_ne (tgt := 46) dX1_oathsOutside_36 rfl (fun h15 => ?_) (fun h15 => ?_)
        · replace ep11 := ite_f h15 ep11
          exact r_weak (L' := [some (vr (some 14)), some (vi a1), some (vi a2), some (vi z1.1), some (vi z1.2)]) ⟨rfl, rfl, rfl, rfl, rfl, trivial⟩ (J10 _ (Option.some.inj ep11))
        · replace ep11 := ite_t h15 ep11
          refine r_iload_n dX1_oathsOutside_39 rfl ?_
          refine r_iconst (v := 1) dX1_oathsOutside_40 ci_1 ?_
          refine r_iload dX1_oathsOutside_41 rfl ?_
          refine r_ishl dX1_oathsOutside_43 ?_
          refine r_ior dX1_oathsOutside_44 ?_
          refine r_istore_n dX1_oathsOutside_45 (by decide) rfl ?_
          exact r_weak (L' := [some (vr (some 14)), some (vi a1), some (vi a2), some (vi (z1.1 ||| (xshl (1 : Int32) z1.2))), some (vi z1.2)]) ⟨rfl, rfl, rfl, rfl, rfl, trivial⟩ (J10 _ (Option.some.inj ep11))
  exact r_weak (L' := [some (vr (some 14)), some (vi a1), some (vi a2), some (vi (0 : Int32)), some (vi (0 : Int32))]) ⟨rfl, rfl, rfl, rfl, rfl, trivial⟩ J3w
noncomputable def m_X1_strikesFor_b17 (a1 : Int32) (mm : Mm) (q1 : Int32) (z5 : Int32 × Int32) : Option ((Int32 × Int32) ⊕ (Int32)) := if q1 < z5.2 then (some (.inr z5.1)) else ((if (z5.2 &&& (q1 ^^^ (-1 : Int32))) = 0 then (grd a1 6 ((m_X7_keptOf z5.2 (mI mm 16 (ix a1)) mm).bind (fun q18 => if q18 = z5.2 then ((m_X1_oathsOutside a1 z5.2 mm).bind (fun q21 => some (if 0 < ((m_J6_bitCount_0f7a4 z5.1) - (m_J6_bitCount_0f7a4 q21)) then q21 else (if ((m_J6_bitCount_0f7a4 z5.1) - (m_J6_bitCount_0f7a4 q21)) = 0 then (if z5.1 ≤ q21 then z5.1 else q21) else z5.1)))) else (some z5.1)))) else (some z5.1) : Option (Int32)).bind (fun p12 => some (.inl (p12, z5.2 + (1 : Int32)))))
noncomputable def m_X1_strikesFor (a1 : Int32) (mm : Mm) : Option (Int32) := (m_X7_openTo a1 (0 : Int32) mm).bind (fun q1 => (m_X1_oathsOutside a1 (0 : Int32) mm).bind (fun q3 => (whileF FU (m_X1_strikesFor_b17 a1 mm q1) (q3, (1 : Int32))).bind (fun p6 => some p6)))
set_option maxHeartbeats 4000000 in
set_option maxRecDepth 100000 in
theorem c_X1_strikesFor {l : Launch} {G : Gt} {S : Sk} {a1 : Int32} {mm : Mm} (hS : Lay S) {q : Int32} (e : m_X1_strikesFor a1 mm = some q) : CallOK l G M_X1_strikesFor yX1_strikesFor 2 [vr (some 14), vi a1] S mm (some (vi q)) S mm := by
  refine call_of_run rfl rfl rfl (Nat.le_of_ble_eq_true rfl) ?_
  show Run l G M_X1_strikesFor 2 0 [some (vr (some 14)), some (vi a1), none, none, none, none, none] [] S mm (some (vi q)) S mm
  unfold m_X1_strikesFor at e
  refine r_aload_n dX1_strikesFor_0 rfl ?_
  refine r_iload_n dX1_strikesFor_1 rfl ?_
  refine r_iconst (v := 0) dX1_strikesFor_2 ci_0 ?_
  obtain ⟨q1, eq2, e⟩ := obind e
  refine r_callV (as := [_, _]) (rest := []) dX1_strikesFor_3 ml_X1_67 yV_X7_openTo (c_X7_openTo hS eq2) (by decide) rfl (lp_14 hS) (lq_14 hS) (Nat.le_of_ble_eq_true rfl) ?_
  refine r_istore_n dX1_strikesFor_6 (by decide) rfl ?_
  refine r_aload_n dX1_strikesFor_7 rfl ?_
  refine r_iload_n dX1_strikesFor_8 rfl ?_
  refine r_iconst (v := 0) dX1_strikesFor_9 ci_0 ?_
  obtain ⟨q3, eq4, e⟩ := obind e
  refine r_callS (as := [_, _, _]) (rest := []) dX1_strikesFor_10 ml_X1_101 yS_X1_oathsOutside (c_X1_oathsOutside hS eq4) (by decide) rfl (Nat.le_of_ble_eq_true rfl) ?_
  refine r_istore_n dX1_strikesFor_13 (by decide) rfl ?_
  refine r_iconst (v := 1) dX1_strikesFor_14 ci_1 ?_
  refine r_istore dX1_strikesFor_15 (by decide) rfl ?_
  obtain ⟨p6, eb10w, e⟩ := obind e
  have J7a : Run l G M_X1_strikesFor 2 99 [none, none, none, some (vi p6), none, none, none] [] S mm (some (vi q)) S mm := by
    refine r_iload_n dX1_strikesFor_99 rfl ?_
    cases e
    exact r_ireturn dX1_strikesFor_100 rfl rfl
  have J7 : ∀ pp : Int32, pp = p6 → Run l G M_X1_strikesFor 2 99 [none, none, none, some (vi pp), none, none, none] [] S mm (some (vi q)) S mm := by
    intro pp hpp
    rw [hpp]
    exact J7a
  have J7w : Run l G M_X1_strikesFor 2 17 [some (vr (some 14)), some (vi a1), some (vi q1), some (vi q3), some (vi (1 : Int32)), none, none] [] S mm (some (vi q)) S mm := by
    refine while_run (s := (q3, (1 : Int32))) (Gs := fun (z5 : Int32 × Int32) => Run l G M_X1_strikesFor 2 17 [some (vr (some 14)), some (vi a1), some (vi q1), some (vi z5.1), some (vi z5.2), none, none] [] S mm (some (vi q)) S mm) eb10w ?_
    intro z5 x8y eb10 hx9
    unfold m_X1_strikesFor_b17 at eb10
    refine r_iload dX1_strikesFor_17 rfl ?_
    refine r_iload_n dX1_strikesFor_19 rfl ?_
    refine r_icmp_gt (tgt := 99) dX1_strikesFor_20 rfl (fun h11 => ?_) (fun h11 => ?_)
    · replace eb10 := ite_t h11 eb10
      cases eb10
      exact r_weak (L' := [none, none, none, some (vi z5.1), none, none, none]) ⟨rfl, trivial⟩ (J7 _ hx9)
    · replace eb10 := ite_f h11 eb10
      refine r_iload dX1_strikesFor_23 rfl ?_
      refine r_iload_n dX1_strikesFor_25 rfl ?_
      refine r_iconst (v := -1) dX1_strikesFor_26 ci_m1 ?_
      refine r_ixor dX1_strikesFor_27 ?_
      refine r_iand dX1_strikesFor_28 ?_
      obtain ⟨p12, ep14, eb10⟩ := obind eb10
      have J13a : Run l G M_X1_strikesFor 2 93 [some (vr (some 14)), some (vi a1), some (vi q1), some (vi p12), some (vi z5.2), none, none] [] S mm (some (vi q)) S mm := by
        refine r_iinc (v := _ + (1 : Int32)) dX1_strikesFor_93 rfl (congrArg (_ + ·) ci_1) (by decide) rfl ?_
        refine r_goto (tgt := 17) dX1_strikesFor_96 rfl ?_
        cases eb10
        exact r_weak (L' := [some (vr (some 14)), some (vi a1), some (vi q1), some (vi p12), some (vi (z5.2 + (1 : Int32))), none, none]) ⟨rfl, rfl, rfl, rfl, rfl, trivial⟩ hx9
      have J13 : ∀ pp : Int32, pp = p12 → Run l G M_X1_strikesFor 2 93 [some (vr (some 14)), some (vi a1), some (vi q1), some (vi pp), some (vi z5.2), none, none] [] S mm (some (vi q)) S mm := by
        intro pp hpp
        rw [hpp]
        exact J13a
      refine r_if_ne (tgt := 93) dX1_strikesFor_29 rfl (fun h16 => ?_) (fun h16 => ?_)
      · replace ep14 := ite_f h16 ep14
        exact r_weak (L' := [some (vr (some 14)), some (vi a1), some (vi q1), some (vi z5.1), some (vi z5.2), none, none]) ⟨rfl, rfl, rfl, rfl, rfl, trivial⟩ (J13 _ (Option.some.inj ep14))
      · replace ep14 := ite_t h16 ep14
        refine r_aload_n dX1_strikesFor_32 rfl ?_
        refine r_iload dX1_strikesFor_33 rfl ?_
        refine r_aload_n dX1_strikesFor_35 rfl ?_
        refine r_getR dX1_strikesFor_36 fl_X1_77 rfl (lp_14 hS) (lq_14 hS) (lr_14_3 hS) ?_
        refine r_iload_n dX1_strikesFor_39 rfl ?_
        obtain ⟨hg17, ep14⟩ := grd_some ep14
        refine r_iald dX1_strikesFor_40 (lp_16 hS) (lk_16 hS) hg17 ?_
        obtain ⟨q18, eq19, ep14⟩ := obind ep14
        refine r_callV (as := [_, _]) (rest := []) dX1_strikesFor_41 ml_X1_80 yV_X7_keptOf (c_X7_keptOf hS eq19) (by decide) rfl (lp_14 hS) (lq_14 hS) (Nat.le_of_ble_eq_true rfl) ?_
        refine r_iload dX1_strikesFor_44 rfl ?_
        refine r_icmp_ne (tgt := 93) dX1_strikesFor_46 rfl (fun h20 => ?_) (fun h20 => ?_)
        · replace ep14 := ite_f h20 ep14
          exact r_weak (L' := [some (vr (some 14)), some (vi a1), some (vi q1), some (vi z5.1), some (vi z5.2), none, none]) ⟨rfl, rfl, rfl, rfl, rfl, trivial⟩ (J13 _ (Option.some.inj ep14))
        · replace ep14 := ite_t h20 ep14
          refine r_aload_n dX1_strikesFor_49 rfl ?_
          refine r_iload_n dX1_strikesFor_50 rfl ?_
          refine r_iload dX1_strikesFor_51 rfl ?_
          obtain ⟨q21, eq22, ep14⟩ := obind ep14
          refine r_callS (as := [_, _, _]) (rest := []) dX1_strikesFor_53 ml_X1_101 yS_X1_oathsOutside (c_X1_oathsOutside hS eq22) (by decide) rfl (Nat.le_of_ble_eq_true rfl) ?_
          refine r_istore dX1_strikesFor_56 (by decide) rfl ?_
          refine r_iload_n dX1_strikesFor_58 rfl ?_
          refine r_callS (as := [_]) (rest := []) dX1_strikesFor_59 ml_X1_55 yS_J6_bitCount_0f7a4 (c_J6_bitCount_0f7a4) (by decide) rfl (Nat.le_of_ble_eq_true rfl) ?_
          refine r_iload dX1_strikesFor_62 rfl ?_
          refine r_callS (as := [_]) (rest := [_]) dX1_strikesFor_64 ml_X1_55 yS_J6_bitCount_0f7a4 (c_J6_bitCount_0f7a4) (by decide) rfl (Nat.le_of_ble_eq_true rfl) ?_
          refine r_isub dX1_strikesFor_67 ?_
          refine r_istore dX1_strikesFor_68 (by decide) rfl ?_
          refine r_iload dX1_strikesFor_70 rfl ?_
          have J27 : ∀ (w26 : Int32), w26 = (if 0 < ((m_J6_bitCount_0f7a4 z5.1) - (m_J6_bitCount_0f7a4 q21)) then q21 else (if ((m_J6_bitCount_0f7a4 z5.1) - (m_J6_bitCount_0f7a4 q21)) = 0 then (if z5.1 ≤ q21 then z5.1 else q21) else z5.1)) → Run l G M_X1_strikesFor 2 92 [some (vr (some 14)), some (vi a1), some (vi q1), none, some (vi z5.2), none, none] [vi w26] S mm (some (vi q)) S mm := by
            intro w26 hw28
            subst hw28
            refine r_istore_n dX1_strikesFor_92 (by decide) rfl ?_
            exact r_weak (L' := [some (vr (some 14)), some (vi a1), some (vi q1), some (vi (if 0 < ((m_J6_bitCount_0f7a4 z5.1) - (m_J6_bitCount_0f7a4 q21)) then q21 else (if ((m_J6_bitCount_0f7a4 z5.1) - (m_J6_bitCount_0f7a4 q21)) = 0 then (if z5.1 ≤ q21 then z5.1 else q21) else z5.1))), some (vi z5.2), none, none]) ⟨rfl, rfl, rfl, rfl, rfl, trivial⟩ (J13 _ (Option.some.inj ep14))
          refine r_if_gt (tgt := 86) dX1_strikesFor_72 rfl (fun h23 => ?_) (fun h23 => ?_)
          · refine r_iload dX1_strikesFor_86 rfl ?_
            refine r_goto (tgt := 92) dX1_strikesFor_88 rfl ?_
            exact r_weak (L' := [some (vr (some 14)), some (vi a1), some (vi q1), none, some (vi z5.2), none, none]) ⟨rfl, rfl, rfl, rfl, trivial⟩ (J27 _ (Eq.symm (if_pos h23)))
          · refine r_iload dX1_strikesFor_75 rfl ?_
            refine r_if_ne (tgt := 91) dX1_strikesFor_77 rfl (fun h24 => ?_) (fun h24 => ?_)
            · refine r_iload_n dX1_strikesFor_91 rfl ?_
              exact r_weak (L' := [some (vr (some 14)), some (vi a1), some (vi q1), none, some (vi z5.2), none, none]) ⟨rfl, rfl, rfl, rfl, trivial⟩ (J27 _ (Eq.symm ((if_neg h23).trans (if_neg h24))))
            · refine r_iload dX1_strikesFor_80 rfl ?_
              refine r_iload_n dX1_strikesFor_82 rfl ?_
              refine r_icmp_ge (tgt := 91) dX1_strikesFor_83 rfl (fun h25 => ?_) (fun h25 => ?_)
              · refine r_iload_n dX1_strikesFor_91 rfl ?_
                exact r_weak (L' := [some (vr (some 14)), some (vi a1), some (vi q1), none, some (vi z5.2), none, none]) ⟨rfl, rfl, rfl, rfl, trivial⟩ (J27 _ (Eq.symm ((if_neg h23).trans ((if_pos h24).trans (if_pos h25)))))
              · refine r_iload dX1_strikesFor_86 rfl ?_
                refine r_goto (tgt := 92) dX1_strikesFor_88 rfl ?_
                exact r_weak (L' := [some (vr (some 14)), some (vi a1), some (vi q1), none, some (vi z5.2), none, none]) ⟨rfl, rfl, rfl, rfl, trivial⟩ (J27 _ (Eq.symm ((if_neg h23).trans ((if_pos h24).trans (if_neg h25)))))
  exact r_weak (L' := [some (vr (some 14)), some (vi a1), some (vi q1), some (vi q3), some (vi (1 : Int32)), none, none]) ⟨rfl, rfl, rfl, rfl, rfl, trivial⟩ J7w
noncomputable def m_X1_strikes_b4 (mm : Mm) (z1 : Int32 × Int32) : Option ((Int32 × Int32) ⊕ (Int32)) := if (mI mm 14 0) ≤ z1.2 then (some (.inr z1.1)) else ((m_X1_strikesFor z1.2 mm).bind (fun q8 => some (.inl (z1.1 ||| q8, z1.2 + (1 : Int32)))))
noncomputable def m_X1_strikes (mm : Mm) : Option (Int32) := (whileF FU (m_X1_strikes_b4 mm) ((0 : Int32), (0 : Int32))).bind (fun p2 => some p2)
set_option maxHeartbeats 4000000 in
set_option maxRecDepth 100000 in
theorem c_X1_strikes {l : Launch} {G : Gt} {S : Sk} {mm : Mm} (hS : Lay S) {q : Int32} (e : m_X1_strikes mm = some q) : CallOK l G M_X1_strikes yX1_strikes 3 [vr (some 14)] S mm (some (vi q)) S mm := by
  refine call_of_run rfl rfl rfl (Nat.le_of_ble_eq_true rfl) ?_
  show Run l G M_X1_strikes 3 0 [some (vr (some 14)), none, none] [] S mm (some (vi q)) S mm
  unfold m_X1_strikes at e
  refine r_iconst (v := 0) dX1_strikes_0 ci_0 ?_
  refine r_istore_n dX1_strikes_1 (by decide) rfl ?_
  refine r_iconst (v := 0) dX1_strikes_2 ci_0 ?_
  refine r_istore_n dX1_strikes_3 (by decide) rfl ?_
  obtain ⟨p2, eb6w, e⟩ := obind e
  have J3a : Run l G M_X1_strikes 3 26 [none, some (vi p2), none] [] S mm (some (vi q)) S mm := by
    refine r_iload_n dX1_strikes_26 rfl ?_
    cases e
    exact r_ireturn dX1_strikes_27 rfl rfl
  have J3 : ∀ pp : Int32, pp = p2 → Run l G M_X1_strikes 3 26 [none, some (vi pp), none] [] S mm (some (vi q)) S mm := by
    intro pp hpp
    rw [hpp]
    exact J3a
  have J3w : Run l G M_X1_strikes 3 4 [some (vr (some 14)), some (vi (0 : Int32)), some (vi (0 : Int32))] [] S mm (some (vi q)) S mm := by
    refine while_run (s := ((0 : Int32), (0 : Int32))) (Gs := fun (z1 : Int32 × Int32) => Run l G M_X1_strikes 3 4 [some (vr (some 14)), some (vi z1.1), some (vi z1.2)] [] S mm (some (vi q)) S mm) eb6w ?_
    intro z1 x4y eb6 hx5
    unfold m_X1_strikes_b4 at eb6
    refine r_iload_n dX1_strikes_4 rfl ?_
    refine r_aload_n dX1_strikes_5 rfl ?_
    refine r_getI dX1_strikes_6 fl_X1_60 rfl (lp_14 hS) (lq_14 hS) ?_
    refine r_icmp_ge (tgt := 26) dX1_strikes_9 rfl (fun h7 => ?_) (fun h7 => ?_)
    · replace eb6 := ite_t h7 eb6
      cases eb6
      exact r_weak (L' := [none, some (vi z1.1), none]) ⟨rfl, trivial⟩ (J3 _ hx5)
    · replace eb6 := ite_f h7 eb6
      refine r_iload_n dX1_strikes_12 rfl ?_
      refine r_aload_n dX1_strikes_13 rfl ?_
      refine r_iload_n dX1_strikes_14 rfl ?_
      obtain ⟨q8, eq9, eb6⟩ := obind eb6
      refine r_callS (as := [_, _]) (rest := [_]) dX1_strikes_15 ml_X1_97 yS_X1_strikesFor (c_X1_strikesFor hS eq9) (by decide) rfl (Nat.le_of_ble_eq_true rfl) ?_
      refine r_ior dX1_strikes_18 ?_
      refine r_istore_n dX1_strikes_19 (by decide) rfl ?_
      refine r_iinc (v := _ + (1 : Int32)) dX1_strikes_20 rfl (congrArg (_ + ·) ci_1) (by decide) rfl ?_
      refine r_goto (tgt := 4) dX1_strikes_23 rfl ?_
      cases eb6
      exact r_weak (L' := [some (vr (some 14)), some (vi (z1.1 ||| q8)), some (vi (z1.2 + (1 : Int32)))]) ⟨rfl, rfl, rfl, trivial⟩ hx5
  exact r_weak (L' := [some (vr (some 14)), some (vi (0 : Int32)), some (vi (0 : Int32))]) ⟨rfl, rfl, rfl, trivial⟩ J3w
noncomputable def m_X1_leastOf_b2 (a0 : Int32) (z1 : Int32) : Option ((Int32) ⊕ ((Unit) ⊕ (Int32))) := if (8 : Int32) ≤ z1 then (some (.inr (.inl ()))) else (if (m_X11_has a0 z1) = 0 then (some (.inl (z1 + (1 : Int32)))) else (some (.inr (.inr z1))))
noncomputable def m_X1_leastOf (a0 : Int32) : Option (Int32) := bS (whileF FU (m_X1_leastOf_b2 a0) (0 : Int32)) (fun p2 => some (-1 : Int32))
set_option maxHeartbeats 4000000 in
set_option maxRecDepth 100000 in
theorem c_X1_leastOf {l : Launch} {G : Gt} {S : Sk} {a0 : Int32} {mm : Mm} {q : Int32} (e : m_X1_leastOf a0 = some q) : CallOK l G M_X1_leastOf yX1_leastOf 1 [vi a0] S mm (some (vi q)) S mm := by
  refine call_of_run rfl rfl rfl (Nat.le_of_ble_eq_true rfl) ?_
  show Run l G M_X1_leastOf 1 0 [some (vi a0), none] [] S mm (some (vi q)) S mm
  unfold m_X1_leastOf at e
  refine r_iconst (v := 0) dX1_leastOf_0 ci_0 ?_
  refine r_istore_n dX1_leastOf_1 (by decide) rfl ?_
  obtain ⟨x4, eb6w, elx4, erx4⟩ := bS_some e
  have J3 : ∀ p2 : Unit, x4 = .inl p2 → Run l G M_X1_leastOf 1 24 [none, none] [] S mm (some (vi q)) S mm := by
    intro p2 hp2
    replace e := elx4 p2 hp2
    refine r_iconst (v := -1) dX1_leastOf_24 ci_m1 ?_
    cases e
    exact r_ireturn dX1_leastOf_25 rfl rfl
  have J3w : Run l G M_X1_leastOf 1 2 [some (vi a0), some (vi (0 : Int32))] [] S mm (some (vi q)) S mm := by
    refine while_run (s := (0 : Int32)) (Gs := fun (z1 : Int32) => Run l G M_X1_leastOf 1 2 [some (vi a0), some (vi z1)] [] S mm (some (vi q)) S mm) eb6w ?_
    intro z1 x4y eb6 hx5
    unfold m_X1_leastOf_b2 at eb6
    refine r_iload_n dX1_leastOf_2 rfl ?_
    refine r_bipush (v := 8) dX1_leastOf_3 cb_8 ?_
    refine r_icmp_ge (tgt := 24) dX1_leastOf_5 rfl (fun h7 => ?_) (fun h7 => ?_)
    · replace eb6 := ite_t h7 eb6
      cases eb6
      exact r_weak (L' := [none, none]) trivial (J3 _ (Eq.symm hx5))
    · replace eb6 := ite_f h7 eb6
      refine r_iload_n dX1_leastOf_8 rfl ?_
      refine r_iload_n dX1_leastOf_9 rfl ?_
      refine r_callSN (as := [_, _]) (rest := []) dX1_leastOf_10 nl_X1_83 yS_X11_has (c_X11_has) (by decide) rfl (Nat.le_of_ble_eq_true rfl) ?_
      refine r_if_eq (tgt := 18) dX1_leastOf_13 rfl (fun h8 => ?_) (fun h8 => ?_)
      · replace eb6 := ite_t h8 eb6
        refine r_iinc (v := _ + (1 : Int32)) dX1_leastOf_18 rfl (congrArg (_ + ·) ci_1) (by decide) rfl ?_
        refine r_goto (tgt := 2) dX1_leastOf_21 rfl ?_
        cases eb6
        exact r_weak (L' := [some (vi a0), some (vi (z1 + (1 : Int32)))]) ⟨rfl, rfl, trivial⟩ hx5
      · replace eb6 := ite_f h8 eb6
        refine r_iload_n dX1_leastOf_16 rfl ?_
        cases eb6
        have e := congrArg some (erx4 _ (Eq.symm hx5))
        cases e
        exact r_ireturn dX1_leastOf_17 rfl rfl
  exact r_weak (L' := [some (vi a0), some (vi (0 : Int32))]) ⟨rfl, rfl, trivial⟩ J3w
noncomputable def m_X1_visitFor_b27 (a2 : Int32) (a3 : Int32) (a4 : Int32) (rc_X1_visitFor : Int32 → Int32 → Int32 → Mm → Option (Mm)) (q2 : Int32) (z4 : Int32 × Mm) : Option ((Int32 × Mm) ⊕ (Mm)) := if (mI z4.2 14 1) ≤ z4.1 then (some (.inr z4.2)) else (grd z4.1 12 ((if (mI z4.2 21 (ix z4.1)) = a2 then (grd z4.1 12 (if (mI z4.2 22 (ix z4.1)) = q2 then (grd z4.1 12 (grd (mI z4.2 20 (ix z4.1)) 6 (grd q2 8 ((m_X7_heartOf (mI z4.2 20 (ix z4.1)) a2 z4.2).bind (fun q22 => grd (mI z4.2 20 (ix z4.1)) 6 ((rc_X1_visitFor a2 (a3 &&& (a3 - (1 : Int32))) ((a4 + (xmax (mI z4.2 33 (ix (mI z4.2 20 (ix z4.1)))) ((mI z4.2 19 (ix q2)) - q22))) - (mI z4.2 33 (ix (mI z4.2 20 (ix z4.1))))) (sI z4.2 33 (ix (mI z4.2 20 (ix z4.1))) (xmax (mI z4.2 33 (ix (mI z4.2 20 (ix z4.1)))) ((mI z4.2 19 (ix q2)) - q22)))).bind (fun q25 => grd (mI z4.2 20 (ix z4.1)) 6 (some (sI q25 33 (ix (mI z4.2 20 (ix z4.1))) (mI z4.2 33 (ix (mI z4.2 20 (ix z4.1))))))))))))) else (some z4.2))) else (some z4.2) : Option (Mm)).bind (fun p12 => some (.inl (z4.1 + (1 : Int32), p12)))))
noncomputable def m_X1_visitFor_s (rc_X1_visitFor : Int32 → Int32 → Int32 → Mm → Option (Mm)) (a2 : Int32) (a3 : Int32) (a4 : Int32) (mm : Mm) : Option (Mm) := if a3 = 0 then (some (sI mm 32 1 (xmin (mI mm 32 1) a4))) else ((m_X1_leastOf a3).bind (fun q2 => (whileF FU (m_X1_visitFor_b27 a2 a3 a4 rc_X1_visitFor q2) ((0 : Int32), mm)).bind (fun p5 => some p5)))
set_option maxHeartbeats 4000000 in
set_option maxRecDepth 100000 in
theorem c_X1_visitFor_s {l : Launch} {G : Gt} {S : Sk} {dd : Nat} {rc_X1_visitFor : Int32 → Int32 → Int32 → Mm → Option (Mm)} (hS : Lay S) (ih_X1_visitFor : ∀ (b1 b2 b3 : Int32) (nn : Mm) (qq : Mm), rc_X1_visitFor b1 b2 b3 nn = some qq → CallOK l G M_X1_visitFor yX1_visitFor dd [vr (some 32), vr (some 14), vi b1, vi b2, vi b3] S nn (none) S qq) (hdd : 2 ≤ dd + 1) {a2 : Int32} {a3 : Int32} {a4 : Int32} {mm : Mm} {q : Mm} (e : m_X1_visitFor_s rc_X1_visitFor a2 a3 a4 mm = some q) : CallOK l G M_X1_visitFor yX1_visitFor (dd + 1) [vr (some 32), vr (some 14), vi a2, vi a3, vi a4] S mm (none) S q := by
  refine call_of_run rfl rfl rfl (Nat.le_of_ble_eq_true rfl) ?_
  show Run l G M_X1_visitFor (dd + 1) 0 [some (vr (some 32)), some (vr (some 14)), some (vi a2), some (vi a3), some (vi a4), none, none, none, none, none] [] S mm (none) S q
  unfold m_X1_visitFor_s at e
  refine r_iload_n dX1_visitFor_0 rfl ?_
  refine r_if_ne (tgt := 18) dX1_visitFor_1 rfl (fun h1 => ?_) (fun h1 => ?_)
  · replace e := ite_f h1 e
    refine r_iload_n dX1_visitFor_18 rfl ?_
    obtain ⟨q2, eq3, e⟩ := obind e
    refine r_callS (as := [_]) (rest := []) dX1_visitFor_19 ml_X1_120 yS_X1_leastOf (c_X1_leastOf eq3) (by omega) rfl (Nat.le_of_ble_eq_true rfl) ?_
    refine r_istore dX1_visitFor_22 (by decide) rfl ?_
    refine r_iconst (v := 0) dX1_visitFor_24 ci_0 ?_
    refine r_istore dX1_visitFor_25 (by decide) rfl ?_
    obtain ⟨p5, eb9w, e⟩ := obind e
    have J6a : Run l G M_X1_visitFor (dd + 1) 142 [none, none, none, none, none, none, none, none, none, none] [] S p5 (none) S q := by
      cases e
      exact r_return dX1_visitFor_142 rfl
    have J6 : ∀ pp : Mm, pp = p5 → Run l G M_X1_visitFor (dd + 1) 142 [none, none, none, none, none, none, none, none, none, none] [] S pp (none) S q := by
      intro pp hpp
      rw [hpp]
      exact J6a
    have J6w : Run l G M_X1_visitFor (dd + 1) 27 [some (vr (some 32)), some (vr (some 14)), some (vi a2), some (vi a3), some (vi a4), some (vi q2), some (vi (0 : Int32)), none, none, none] [] S mm (none) S q := by
      refine while_run (s := ((0 : Int32), mm)) (Gs := fun (z4 : Int32 × Mm) => Run l G M_X1_visitFor (dd + 1) 27 [some (vr (some 32)), some (vr (some 14)), some (vi a2), some (vi a3), some (vi a4), some (vi q2), some (vi z4.1), none, none, none] [] S z4.2 (none) S q) eb9w ?_
      intro z4 x7y eb9 hx8
      unfold m_X1_visitFor_b27 at eb9
      refine r_iload dX1_visitFor_27 rfl ?_
      refine r_aload_n dX1_visitFor_29 rfl ?_
      refine r_getI dX1_visitFor_30 fl_X1_29 rfl (lp_14 hS) (lq_14 hS) ?_
      refine r_icmp_ge (tgt := 142) dX1_visitFor_33 rfl (fun h10 => ?_) (fun h10 => ?_)
      · replace eb9 := ite_t h10 eb9
        cases eb9
        exact r_weak (L' := [none, none, none, none, none, none, none, none, none, none]) trivial (J6 _ hx8)
      · replace eb9 := ite_f h10 eb9
        refine r_aload_n dX1_visitFor_36 rfl ?_
        refine r_getR dX1_visitFor_37 fl_X1_105 rfl (lp_14 hS) (lq_14 hS) (lr_14_8 hS) ?_
        refine r_iload dX1_visitFor_40 rfl ?_
        obtain ⟨hg11, eb9⟩ := grd_some eb9
        refine r_iald dX1_visitFor_42 (lp_21 hS) (lk_21 hS) hg11 ?_
        refine r_iload_n dX1_visitFor_43 rfl ?_
        obtain ⟨p12, ep14, eb9⟩ := obind eb9
        have J13a : Run l G M_X1_visitFor (dd + 1) 136 [some (vr (some 32)), some (vr (some 14)), some (vi a2), some (vi a3), some (vi a4), some (vi q2), some (vi z4.1), none, none, none] [] S p12 (none) S q := by
          refine r_iinc (v := _ + (1 : Int32)) dX1_visitFor_136 rfl (congrArg (_ + ·) ci_1) (by decide) rfl ?_
          refine r_goto (tgt := 27) dX1_visitFor_139 rfl ?_
          cases eb9
          exact r_weak (L' := [some (vr (some 32)), some (vr (some 14)), some (vi a2), some (vi a3), some (vi a4), some (vi q2), some (vi (z4.1 + (1 : Int32))), none, none, none]) ⟨rfl, rfl, rfl, rfl, rfl, rfl, rfl, trivial⟩ hx8
        have J13 : ∀ pp : Mm, pp = p12 → Run l G M_X1_visitFor (dd + 1) 136 [some (vr (some 32)), some (vr (some 14)), some (vi a2), some (vi a3), some (vi a4), some (vi q2), some (vi z4.1), none, none, none] [] S pp (none) S q := by
          intro pp hpp
          rw [hpp]
          exact J13a
        refine r_icmp_ne (tgt := 136) dX1_visitFor_44 rfl (fun h16 => ?_) (fun h16 => ?_)
        · replace ep14 := ite_f h16 ep14
          exact r_weak (L' := [some (vr (some 32)), some (vr (some 14)), some (vi a2), some (vi a3), some (vi a4), some (vi q2), some (vi z4.1), none, none, none]) ⟨rfl, rfl, rfl, rfl, rfl, rfl, rfl, trivial⟩ (J13 _ (Option.some.inj ep14))
        · replace ep14 := ite_t h16 ep14
          refine r_aload_n dX1_visitFor_47 rfl ?_
          refine r_getR dX1_visitFor_48 fl_X1_108 rfl (lp_14 hS) (lq_14 hS) (lr_14_9 hS) ?_
          refine r_iload dX1_visitFor_51 rfl ?_
          obtain ⟨hg17, ep14⟩ := grd_some ep14
          refine r_iald dX1_visitFor_53 (lp_22 hS) (lk_22 hS) hg17 ?_
          refine r_iload dX1_visitFor_54 rfl ?_
          refine r_icmp_ne (tgt := 136) dX1_visitFor_56 rfl (fun h18 => ?_) (fun h18 => ?_)
          · replace ep14 := ite_f h18 ep14
            exact r_weak (L' := [some (vr (some 32)), some (vr (some 14)), some (vi a2), some (vi a3), some (vi a4), some (vi q2), some (vi z4.1), none, none, none]) ⟨rfl, rfl, rfl, rfl, rfl, rfl, rfl, trivial⟩ (J13 _ (Option.some.inj ep14))
          · replace ep14 := ite_t h18 ep14
            refine r_aload_n dX1_visitFor_59 rfl ?_
            refine r_getR dX1_visitFor_60 fl_X1_123 rfl (lp_14 hS) (lq_14 hS) (lr_14_7 hS) ?_
            refine r_iload dX1_visitFor_63 rfl ?_
            obtain ⟨hg19, ep14⟩ := grd_some ep14
            refine r_iald dX1_visitFor_65 (lp_20 hS) (lk_20 hS) hg19 ?_
            refine r_istore dX1_visitFor_66 (by decide) rfl ?_
            refine r_aload_n dX1_visitFor_68 rfl ?_
            refine r_getR dX1_visitFor_69 fl_X1_9 rfl (lp_32 hS) (lq_32 hS) (lr_32_0 hS) ?_
            refine r_iload dX1_visitFor_72 rfl ?_
            obtain ⟨hg20, ep14⟩ := grd_some ep14
            refine r_iald dX1_visitFor_74 (lp_33 hS) (lk_33 hS) hg20 ?_
            refine r_istore dX1_visitFor_75 (by decide) rfl ?_
            refine r_iload dX1_visitFor_77 rfl ?_
            refine r_aload_n dX1_visitFor_79 rfl ?_
            refine r_getR dX1_visitFor_80 fl_X1_52 rfl (lp_14 hS) (lq_14 hS) (lr_14_6 hS) ?_
            refine r_iload dX1_visitFor_83 rfl ?_
            obtain ⟨hg21, ep14⟩ := grd_some ep14
            refine r_iald dX1_visitFor_85 (lp_19 hS) (lk_19 hS) hg21 ?_
            refine r_aload_n dX1_visitFor_86 rfl ?_
            refine r_iload dX1_visitFor_87 rfl ?_
            refine r_iload_n dX1_visitFor_89 rfl ?_
            obtain ⟨q22, eq23, ep14⟩ := obind ep14
            refine r_callV (as := [_, _]) (rest := [_, _]) dX1_visitFor_90 ml_X1_126 yV_X7_heartOf (c_X7_heartOf hS eq23) (by omega) rfl (lp_14 hS) (lq_14 hS) (Nat.le_of_ble_eq_true rfl) ?_
            refine r_isub dX1_visitFor_93 ?_
            refine r_mmax (rest := []) dX1_visitFor_94 ml_X1_129 (by omega) (Nat.le_of_ble_eq_true rfl) ?_
            refine r_istore dX1_visitFor_97 (by decide) rfl ?_
            refine r_aload_n dX1_visitFor_99 rfl ?_
            refine r_getR dX1_visitFor_100 fl_X1_9 rfl (lp_32 hS) (lq_32 hS) (lr_32_0 hS) ?_
            refine r_iload dX1_visitFor_103 rfl ?_
            refine r_iload dX1_visitFor_105 rfl ?_
            obtain ⟨hg24, ep14⟩ := grd_some ep14
            refine r_iast dX1_visitFor_107 (lp_33 hS) (lk_33 hS) hg24 ?_
            refine r_aload_n dX1_visitFor_108 rfl ?_
            refine r_aload_n dX1_visitFor_109 rfl ?_
            refine r_iload_n dX1_visitFor_110 rfl ?_
            refine r_iload_n dX1_visitFor_111 rfl ?_
            refine r_iload_n dX1_visitFor_112 rfl ?_
            refine r_iconst (v := 1) dX1_visitFor_113 ci_1 ?_
            refine r_isub dX1_visitFor_114 ?_
            refine r_iand dX1_visitFor_115 ?_
            refine r_iload dX1_visitFor_116 rfl ?_
            refine r_iload dX1_visitFor_118 rfl ?_
            refine r_iadd dX1_visitFor_120 ?_
            refine r_iload dX1_visitFor_121 rfl ?_
            refine r_isub dX1_visitFor_123 ?_
            obtain ⟨q25, eq26, ep14⟩ := obind ep14
            refine r_callV (as := [_, _, _, _]) (rest := []) dX1_visitFor_124 ml_X1_111 yV_X1_visitFor (ih_X1_visitFor _ _ _ _ _ eq26) (by omega) rfl (lp_32 hS) (lq_32 hS) (Nat.le_of_ble_eq_true rfl) ?_
            refine r_aload_n dX1_visitFor_127 rfl ?_
            refine r_getR dX1_visitFor_128 fl_X1_9 rfl (lp_32 hS) (lq_32 hS) (lr_32_0 hS) ?_
            refine r_iload dX1_visitFor_131 rfl ?_
            refine r_iload dX1_visitFor_133 rfl ?_
            obtain ⟨hg27, ep14⟩ := grd_some ep14
            refine r_iast dX1_visitFor_135 (lp_33 hS) (lk_33 hS) hg27 ?_
            exact r_weak (L' := [some (vr (some 32)), some (vr (some 14)), some (vi a2), some (vi a3), some (vi a4), some (vi q2), some (vi z4.1), none, none, none]) ⟨rfl, rfl, rfl, rfl, rfl, rfl, rfl, trivial⟩ (J13 _ (Option.some.inj ep14))
    exact r_weak (L' := [some (vr (some 32)), some (vr (some 14)), some (vi a2), some (vi a3), some (vi a4), some (vi q2), some (vi (0 : Int32)), none, none, none]) ⟨rfl, rfl, rfl, rfl, rfl, rfl, rfl, trivial⟩ J6w
  · replace e := ite_t h1 e
    refine r_aload_n dX1_visitFor_4 rfl ?_
    refine r_aload_n dX1_visitFor_5 rfl ?_
    refine r_getI dX1_visitFor_6 fl_X1_15 rfl (lp_32 hS) (lq_32 hS) ?_
    refine r_iload dX1_visitFor_9 rfl ?_
    refine r_mmin (rest := [_]) dX1_visitFor_11 ml_X1_115 (by omega) (Nat.le_of_ble_eq_true rfl) ?_
    refine r_putI dX1_visitFor_14 fl_X1_15 ft_1_1 (Or.inl rfl) rfl rfl rfl (lp_32 hS) (lq_32 hS) ?_
    cases e
    exact r_return dX1_visitFor_17 rfl
noncomputable def m_X1_visitFor : Nat → Int32 → Int32 → Int32 → Mm → Option (Mm)
  | 0 => fun _ _ _ _ => none
  | n + 1 => m_X1_visitFor_s (m_X1_visitFor n)
theorem c_X1_visitFor {l : Launch} {G : Gt} {S : Sk} (hS : Lay S) : ∀ (n : Nat) (b1 b2 b3 : Int32) (nn : Mm) (qq : Mm), m_X1_visitFor n b1 b2 b3 nn = some qq → CallOK l G M_X1_visitFor yX1_visitFor (2 + n) [vr (some 32), vr (some 14), vi b1, vi b2, vi b3] S nn (none) S qq
  | 0, _, _, _, _, _, h => by cases h
  | n + 1, b1, b2, b3, nn, qq, h => c_X1_visitFor_s (dd := 2 + n) hS (c_X1_visitFor hS n) (by omega) h
noncomputable def m_X1_fewestVisits_b26 (z7 : Int32 × Mm) : Option ((Int32 × Mm) ⊕ (Mm)) := if (6 : Int32) ≤ z7.1 then (some (.inr z7.2)) else (grd z7.1 6 (some (.inl (z7.1 + (1 : Int32), (sI z7.2 33 (ix z7.1) (0 : Int32))))))
noncomputable def m_X1_fewestVisits (a2 : Int32) (mm : Mm) : Option (Int32 × Mm) := (m_X7_swornFor a2 mm).bind (fun q1 => grd a2 6 ((m_X7_keptOf q1 (mI mm 16 (ix a2)) mm).bind (fun q4 => if q4 = q1 then ((whileF FU (m_X1_fewestVisits_b26) ((0 : Int32), mm)).bind (fun p8 => (m_X1_visitFor 12 a2 q1 (0 : Int32) (sI p8 32 1 (54 : Int32))).bind (fun q15 => some (mI q15 32 1, q15)))) else (some ((-1 : Int32), mm)))))
set_option maxHeartbeats 4000000 in
set_option maxRecDepth 100000 in
theorem c_X1_fewestVisits {l : Launch} {G : Gt} {S : Sk} {a2 : Int32} {mm : Mm} (hS : Lay S) {q : Int32 × Mm} (e : m_X1_fewestVisits a2 mm = some q) : CallOK l G M_X1_fewestVisits yX1_fewestVisits 15 [vr (some 32), vr (some 14), vi a2] S mm (some (vi q.1)) S q.2 := by
  refine call_of_run rfl rfl rfl (Nat.le_of_ble_eq_true rfl) ?_
  show Run l G M_X1_fewestVisits 15 0 [some (vr (some 32)), some (vr (some 14)), some (vi a2), none, none] [] S mm (some (vi q.1)) S q.2
  unfold m_X1_fewestVisits at e
  refine r_aload_n dX1_fewestVisits_0 rfl ?_
  refine r_iload_n dX1_fewestVisits_1 rfl ?_
  obtain ⟨q1, eq2, e⟩ := obind e
  refine r_callV (as := [_]) (rest := []) dX1_fewestVisits_2 ml_X1_91 yV_X7_swornFor (c_X7_swornFor hS eq2) (by decide) rfl (lp_14 hS) (lq_14 hS) (Nat.le_of_ble_eq_true rfl) ?_
  refine r_istore_n dX1_fewestVisits_5 (by decide) rfl ?_
  refine r_aload_n dX1_fewestVisits_6 rfl ?_
  refine r_iload_n dX1_fewestVisits_7 rfl ?_
  refine r_aload_n dX1_fewestVisits_8 rfl ?_
  refine r_getR dX1_fewestVisits_9 fl_X1_77 rfl (lp_14 hS) (lq_14 hS) (lr_14_3 hS) ?_
  refine r_iload_n dX1_fewestVisits_12 rfl ?_
  obtain ⟨hg3, e⟩ := grd_some e
  refine r_iald dX1_fewestVisits_13 (lp_16 hS) (lk_16 hS) hg3 ?_
  obtain ⟨q4, eq5, e⟩ := obind e
  refine r_callV (as := [_, _]) (rest := []) dX1_fewestVisits_14 ml_X1_80 yV_X7_keptOf (c_X7_keptOf hS eq5) (by decide) rfl (lp_14 hS) (lq_14 hS) (Nat.le_of_ble_eq_true rfl) ?_
  refine r_iload_n dX1_fewestVisits_17 rfl ?_
  refine r_icmp_eq (tgt := 23) dX1_fewestVisits_18 rfl (fun h6 => ?_) (fun h6 => ?_)
  · replace e := ite_t h6 e
    refine r_iconst (v := 0) dX1_fewestVisits_23 ci_0 ?_
    refine r_istore dX1_fewestVisits_24 (by decide) rfl ?_
    obtain ⟨p8, eb12w, e⟩ := obind e
    have J9a : Run l G M_X1_fewestVisits 15 47 [some (vr (some 32)), some (vr (some 14)), some (vi a2), some (vi q1), none] [] S p8 (some (vi q.1)) S q.2 := by
      refine r_aload_n dX1_fewestVisits_47 rfl ?_
      refine r_bipush (v := 54) dX1_fewestVisits_48 cb_54 ?_
      refine r_putI dX1_fewestVisits_50 fl_X1_15 ft_1_1 (Or.inl rfl) rfl rfl rfl (lp_32 hS) (lq_32 hS) ?_
      refine r_aload_n dX1_fewestVisits_53 rfl ?_
      refine r_aload_n dX1_fewestVisits_54 rfl ?_
      refine r_iload_n dX1_fewestVisits_55 rfl ?_
      refine r_iload_n dX1_fewestVisits_56 rfl ?_
      refine r_iconst (v := 0) dX1_fewestVisits_57 ci_0 ?_
      obtain ⟨q15, eq16, e⟩ := obind e
      refine r_callV (as := [_, _, _, _]) (rest := []) dX1_fewestVisits_58 ml_X1_111 yV_X1_visitFor (c_X1_visitFor hS 12 _ _ _ _ _ eq16) (by decide) rfl (lp_32 hS) (lq_32 hS) (Nat.le_of_ble_eq_true rfl) ?_
      refine r_aload_n dX1_fewestVisits_61 rfl ?_
      refine r_getI dX1_fewestVisits_62 fl_X1_15 rfl (lp_32 hS) (lq_32 hS) ?_
      cases e
      exact r_ireturn dX1_fewestVisits_65 rfl rfl
    have J9 : ∀ pp : Mm, pp = p8 → Run l G M_X1_fewestVisits 15 47 [some (vr (some 32)), some (vr (some 14)), some (vi a2), some (vi q1), none] [] S pp (some (vi q.1)) S q.2 := by
      intro pp hpp
      rw [hpp]
      exact J9a
    have J9w : Run l G M_X1_fewestVisits 15 26 [some (vr (some 32)), some (vr (some 14)), some (vi a2), some (vi q1), some (vi (0 : Int32))] [] S mm (some (vi q.1)) S q.2 := by
      refine while_run (s := ((0 : Int32), mm)) (Gs := fun (z7 : Int32 × Mm) => Run l G M_X1_fewestVisits 15 26 [some (vr (some 32)), some (vr (some 14)), some (vi a2), some (vi q1), some (vi z7.1)] [] S z7.2 (some (vi q.1)) S q.2) eb12w ?_
      intro z7 x10y eb12 hx11
      unfold m_X1_fewestVisits_b26 at eb12
      refine r_iload dX1_fewestVisits_26 rfl ?_
      refine r_bipush (v := 6) dX1_fewestVisits_28 cb_6 ?_
      refine r_icmp_ge (tgt := 47) dX1_fewestVisits_30 rfl (fun h13 => ?_) (fun h13 => ?_)
      · replace eb12 := ite_t h13 eb12
        cases eb12
        exact r_weak (L' := [some (vr (some 32)), some (vr (some 14)), some (vi a2), some (vi q1), none]) ⟨rfl, rfl, rfl, rfl, trivial⟩ (J9 _ hx11)
      · replace eb12 := ite_f h13 eb12
        refine r_aload_n dX1_fewestVisits_33 rfl ?_
        refine r_getR dX1_fewestVisits_34 fl_X1_9 rfl (lp_32 hS) (lq_32 hS) (lr_32_0 hS) ?_
        refine r_iload dX1_fewestVisits_37 rfl ?_
        refine r_iconst (v := 0) dX1_fewestVisits_39 ci_0 ?_
        obtain ⟨hg14, eb12⟩ := grd_some eb12
        refine r_iast dX1_fewestVisits_40 (lp_33 hS) (lk_33 hS) hg14 ?_
        refine r_iinc (v := _ + (1 : Int32)) dX1_fewestVisits_41 rfl (congrArg (_ + ·) ci_1) (by decide) rfl ?_
        refine r_goto (tgt := 26) dX1_fewestVisits_44 rfl ?_
        cases eb12
        exact r_weak (L' := [some (vr (some 32)), some (vr (some 14)), some (vi a2), some (vi q1), some (vi (z7.1 + (1 : Int32)))]) ⟨rfl, rfl, rfl, rfl, rfl, trivial⟩ hx11
    exact r_weak (L' := [some (vr (some 32)), some (vr (some 14)), some (vi a2), some (vi q1), some (vi (0 : Int32))]) ⟨rfl, rfl, rfl, rfl, rfl, trivial⟩ J9w
  · replace e := ite_f h6 e
    refine r_iconst (v := -1) dX1_fewestVisits_21 ci_m1 ?_
    cases e
    exact r_ireturn dX1_fewestVisits_22 rfl rfl
