noncomputable def m_X1_balance_b18 (a1 : Int32) (mm : Mm) (q1 : Int32) (z5 : Int32 × Int32) : Option ((Int32 × Int32) ⊕ (Int32)) := if (mI mm 14 1) ≤ z5.2 then (some (.inr z5.1)) else (grd z5.2 12 (some (.inl ((if (mI mm 20 (ix z5.2)) = a1 then (if (m_X11_has q1 z5.2) = 0 then z5.1 else z5.1 + (-1 : Int32)) else z5.1), z5.2 + (1 : Int32)))))
noncomputable def m_X1_balance (a1 : Int32) (mm : Mm) : Option (Int32) := (m_X7_brokenOaths (0 : Int32) mm).bind (fun q1 => (m_X7_keptBy a1 mm).bind (fun q3 => (whileF FU (m_X1_balance_b18 a1 mm q1) ((m_J6_bitCount_0f7a4 q3), (0 : Int32))).bind (fun p6 => some p6)))
set_option maxHeartbeats 4000000 in
set_option maxRecDepth 100000 in
theorem c_X1_balance {l : Launch} {G : Gt} {S : Sk} {a1 : Int32} {mm : Mm} (hS : Lay S) {q : Int32} (e : m_X1_balance a1 mm = some q) : CallOK l G M_X1_balance yX1_balance 3 [vr (some 14), vi a1] S mm (some (vi q)) S mm := by
  refine call_of_run rfl rfl rfl (Nat.le_of_ble_eq_true rfl) ?_
  show Run l G M_X1_balance 3 0 [some (vr (some 14)), some (vi a1), none, none, none] [] S mm (some (vi q)) S mm
  unfold m_X1_balance at e
  refine r_aload_n dX1_balance_0 rfl ?_
  refine r_iconst (v := 0) dX1_balance_1 ci_0 ?_
  obtain ⟨q1, eq2, e⟩ := obind e
  refine r_callV (as := [_]) (rest := []) dX1_balance_2 ml_X1_34 yV_X7_brokenOaths (c_X7_brokenOaths hS eq2) (by decide) rfl (lp_14 hS) (lq_14 hS) (Nat.le_of_ble_eq_true rfl) ?_
  refine r_istore_n dX1_balance_5 (by decide) rfl ?_
  refine r_aload_n dX1_balance_6 rfl ?_
  refine r_iload_n dX1_balance_7 rfl ?_
  obtain ⟨q3, eq4, e⟩ := obind e
  refine r_callV (as := [_]) (rest := []) dX1_balance_8 ml_X1_71 yV_X7_keptBy (c_X7_keptBy hS eq4) (by decide) rfl (lp_14 hS) (lq_14 hS) (Nat.le_of_ble_eq_true rfl) ?_
  refine r_callS (as := [_]) (rest := []) dX1_balance_11 ml_X1_55 yS_J6_bitCount_0f7a4 (c_J6_bitCount_0f7a4) (by decide) rfl (Nat.le_of_ble_eq_true rfl) ?_
  refine r_istore_n dX1_balance_14 (by decide) rfl ?_
  refine r_iconst (v := 0) dX1_balance_15 ci_0 ?_
  refine r_istore dX1_balance_16 (by decide) rfl ?_
  obtain ⟨p6, eb10w, e⟩ := obind e
  have J7a : Run l G M_X1_balance 3 56 [none, none, none, some (vi p6), none] [] S mm (some (vi q)) S mm := by
    refine r_iload_n dX1_balance_56 rfl ?_
    cases e
    exact r_ireturn dX1_balance_57 rfl rfl
  have J7 : ∀ pp : Int32, pp = p6 → Run l G M_X1_balance 3 56 [none, none, none, some (vi pp), none] [] S mm (some (vi q)) S mm := by
    intro pp hpp
    rw [hpp]
    exact J7a
  have J7w : Run l G M_X1_balance 3 18 [some (vr (some 14)), some (vi a1), some (vi q1), some (vi (m_J6_bitCount_0f7a4 q3)), some (vi (0 : Int32))] [] S mm (some (vi q)) S mm := by
    refine while_run (s := ((m_J6_bitCount_0f7a4 q3), (0 : Int32))) (Gs := fun (z5 : Int32 × Int32) => Run l G M_X1_balance 3 18 [some (vr (some 14)), some (vi a1), some (vi q1), some (vi z5.1), some (vi z5.2)] [] S mm (some (vi q)) S mm) eb10w ?_
    intro z5 x8y eb10 hx9
    unfold m_X1_balance_b18 at eb10
    refine r_iload dX1_balance_18 rfl ?_
    refine r_aload_n dX1_balance_20 rfl ?_
    refine r_getI dX1_balance_21 fl_X1_29 rfl (lp_14 hS) (lq_14 hS) ?_
    refine r_icmp_ge (tgt := 56) dX1_balance_24 rfl (fun h11 => ?_) (fun h11 => ?_)
    · replace eb10 := ite_t h11 eb10
      cases eb10
      exact r_weak (L' := [none, none, none, some (vi z5.1), none]) ⟨rfl, trivial⟩ (J7 _ hx9)
    · replace eb10 := ite_f h11 eb10
      refine r_aload_n dX1_balance_27 rfl ?_
      refine r_getR dX1_balance_28 fl_X1_123 rfl (lp_14 hS) (lq_14 hS) (lr_14_7 hS) ?_
      refine r_iload dX1_balance_31 rfl ?_
      obtain ⟨hg12, eb10⟩ := grd_some eb10
      refine r_iald dX1_balance_33 (lp_20 hS) (lk_20 hS) hg12 ?_
      refine r_iload_n dX1_balance_34 rfl ?_
      have J16 : ∀ (w15 : Int32), w15 = (if (mI mm 20 (ix z5.2)) = a1 then (if (m_X11_has q1 z5.2) = 0 then z5.1 else z5.1 + (-1 : Int32)) else z5.1) → Run l G M_X1_balance 3 50 [some (vr (some 14)), some (vi a1), some (vi q1), some (vi w15), some (vi z5.2)] [] S mm (some (vi q)) S mm := by
        intro w15 hw17
        subst hw17
        refine r_iinc (v := _ + (1 : Int32)) dX1_balance_50 rfl (congrArg (_ + ·) ci_1) (by decide) rfl ?_
        refine r_goto (tgt := 18) dX1_balance_53 rfl ?_
        cases eb10
        exact r_weak (L' := [some (vr (some 14)), some (vi a1), some (vi q1), some (vi (if (mI mm 20 (ix z5.2)) = a1 then (if (m_X11_has q1 z5.2) = 0 then z5.1 else z5.1 + (-1 : Int32)) else z5.1)), some (vi (z5.2 + (1 : Int32)))]) ⟨rfl, rfl, rfl, rfl, rfl, trivial⟩ hx9
      refine r_icmp_ne (tgt := 50) dX1_balance_35 rfl (fun h13 => ?_) (fun h13 => ?_)
      · exact r_weak (L' := [some (vr (some 14)), some (vi a1), some (vi q1), some (vi z5.1), some (vi z5.2)]) ⟨rfl, rfl, rfl, rfl, rfl, trivial⟩ (J16 _ (Eq.symm (if_neg h13)))
      · refine r_iload_n dX1_balance_38 rfl ?_
        refine r_iload dX1_balance_39 rfl ?_
        refine r_callSN (as := [_, _]) (rest := []) dX1_balance_41 nl_X1_83 yS_X11_has (c_X11_has) (by decide) rfl (Nat.le_of_ble_eq_true rfl) ?_
        refine r_if_eq (tgt := 50) dX1_balance_44 rfl (fun h14 => ?_) (fun h14 => ?_)
        · exact r_weak (L' := [some (vr (some 14)), some (vi a1), some (vi q1), some (vi z5.1), some (vi z5.2)]) ⟨rfl, rfl, rfl, rfl, rfl, trivial⟩ (J16 _ (Eq.symm ((if_pos h13).trans (if_pos h14))))
        · refine r_iinc (v := _ + (-1 : Int32)) dX1_balance_47 rfl (congrArg (_ + ·) ci_m1) (by decide) rfl ?_
          exact r_weak (L' := [some (vr (some 14)), some (vi a1), some (vi q1), some (vi (z5.1 + (-1 : Int32))), some (vi z5.2)]) ⟨rfl, rfl, rfl, rfl, rfl, trivial⟩ (J16 _ (Eq.symm ((if_pos h13).trans (if_neg h14))))
  exact r_weak (L' := [some (vr (some 14)), some (vi a1), some (vi q1), some (vi (m_J6_bitCount_0f7a4 q3)), some (vi (0 : Int32))]) ⟨rfl, rfl, rfl, rfl, rfl, trivial⟩ J7w
noncomputable def m_X1_hearten_b16 (a1 : Int32) (mm : Mm) (q1 : Int32) (z4 : Int32 × Mm) : Option ((Int32 × Mm) ⊕ ((Mm) ⊕ (Int32 × Mm))) := if (9 : Int32) < ((mI mm 15 (ix a1)) + z4.1) then (some (.inr (.inl z4.2))) else (grd a1 6 ((m_X7_keptBy a1 (sI z4.2 15 (ix a1) ((mI mm 15 (ix a1)) + z4.1))).bind (fun q12 => if q12 = q1 then (some (.inr (.inr (z4.1, (sI z4.2 15 (ix a1) ((mI mm 15 (ix a1)) + z4.1)))))) else (some (.inl (z4.1 + (1 : Int32), (sI z4.2 15 (ix a1) ((mI mm 15 (ix a1)) + z4.1))))))))
noncomputable def m_X1_hearten (a1 : Int32) (mm : Mm) : Option (Int32 × Mm) := (m_X7_swornFor a1 mm).bind (fun q1 => grd a1 6 (bS (whileF FU (m_X1_hearten_b16 a1 mm q1) ((0 : Int32), mm)) (fun p5 => some ((-1 : Int32), p5))))
set_option maxHeartbeats 4000000 in
set_option maxRecDepth 100000 in
theorem c_X1_hearten {l : Launch} {G : Gt} {S : Sk} {a1 : Int32} {mm : Mm} (hS : Lay S) {q : Int32 × Mm} (e : m_X1_hearten a1 mm = some q) : CallOK l G M_X1_hearten yX1_hearten 3 [vr (some 14), vi a1] S mm (some (vi q.1)) S q.2 := by
  refine call_of_run rfl rfl rfl (Nat.le_of_ble_eq_true rfl) ?_
  show Run l G M_X1_hearten 3 0 [some (vr (some 14)), some (vi a1), none, none, none] [] S mm (some (vi q.1)) S q.2
  unfold m_X1_hearten at e
  refine r_aload_n dX1_hearten_0 rfl ?_
  refine r_iload_n dX1_hearten_1 rfl ?_
  obtain ⟨q1, eq2, e⟩ := obind e
  refine r_callV (as := [_]) (rest := []) dX1_hearten_2 ml_X1_91 yV_X7_swornFor (c_X7_swornFor hS eq2) (by decide) rfl (lp_14 hS) (lq_14 hS) (Nat.le_of_ble_eq_true rfl) ?_
  refine r_istore_n dX1_hearten_5 (by decide) rfl ?_
  refine r_aload_n dX1_hearten_6 rfl ?_
  refine r_getR dX1_hearten_7 fl_X1_132 rfl (lp_14 hS) (lq_14 hS) (lr_14_2 hS) ?_
  refine r_iload_n dX1_hearten_10 rfl ?_
  obtain ⟨hg3, e⟩ := grd_some e
  refine r_iald dX1_hearten_11 (lp_15 hS) (lk_15 hS) hg3 ?_
  refine r_istore_n dX1_hearten_12 (by decide) rfl ?_
  refine r_iconst (v := 0) dX1_hearten_13 ci_0 ?_
  refine r_istore dX1_hearten_14 (by decide) rfl ?_
  obtain ⟨x7, eb9w, elx7, erx7⟩ := bS_some e
  have J6 : ∀ p5 : Mm, x7 = .inl p5 → Run l G M_X1_hearten 3 53 [none, none, none, none, none] [] S p5 (some (vi q.1)) S q.2 := by
    intro p5 hp5
    replace e := elx7 p5 hp5
    refine r_iconst (v := -1) dX1_hearten_53 ci_m1 ?_
    cases e
    exact r_ireturn dX1_hearten_54 rfl rfl
  have J6w : Run l G M_X1_hearten 3 16 [some (vr (some 14)), some (vi a1), some (vi q1), some (vi (mI mm 15 (ix a1))), some (vi (0 : Int32))] [] S mm (some (vi q.1)) S q.2 := by
    refine while_run (s := ((0 : Int32), mm)) (Gs := fun (z4 : Int32 × Mm) => Run l G M_X1_hearten 3 16 [some (vr (some 14)), some (vi a1), some (vi q1), some (vi (mI mm 15 (ix a1))), some (vi z4.1)] [] S z4.2 (some (vi q.1)) S q.2) eb9w ?_
    intro z4 x7y eb9 hx8
    unfold m_X1_hearten_b16 at eb9
    refine r_iload_n dX1_hearten_16 rfl ?_
    refine r_iload dX1_hearten_17 rfl ?_
    refine r_iadd dX1_hearten_19 ?_
    refine r_bipush (v := 9) dX1_hearten_20 cb_9 ?_
    refine r_icmp_gt (tgt := 53) dX1_hearten_22 rfl (fun h10 => ?_) (fun h10 => ?_)
    · replace eb9 := ite_t h10 eb9
      cases eb9
      exact r_weak (L' := [none, none, none, none, none]) trivial (J6 _ (Eq.symm hx8))
    · replace eb9 := ite_f h10 eb9
      refine r_aload_n dX1_hearten_25 rfl ?_
      refine r_getR dX1_hearten_26 fl_X1_132 rfl (lp_14 hS) (lq_14 hS) (lr_14_2 hS) ?_
      refine r_iload_n dX1_hearten_29 rfl ?_
      refine r_iload_n dX1_hearten_30 rfl ?_
      refine r_iload dX1_hearten_31 rfl ?_
      refine r_iadd dX1_hearten_33 ?_
      obtain ⟨hg11, eb9⟩ := grd_some eb9
      refine r_iast dX1_hearten_34 (lp_15 hS) (lk_15 hS) hg11 ?_
      refine r_aload_n dX1_hearten_35 rfl ?_
      refine r_iload_n dX1_hearten_36 rfl ?_
      obtain ⟨q12, eq13, eb9⟩ := obind eb9
      refine r_callV (as := [_]) (rest := []) dX1_hearten_37 ml_X1_71 yV_X7_keptBy (c_X7_keptBy hS eq13) (by decide) rfl (lp_14 hS) (lq_14 hS) (Nat.le_of_ble_eq_true rfl) ?_
      refine r_iload_n dX1_hearten_40 rfl ?_
      refine r_icmp_ne (tgt := 47) dX1_hearten_41 rfl (fun h14 => ?_) (fun h14 => ?_)
      · replace eb9 := ite_f h14 eb9
        refine r_iinc (v := _ + (1 : Int32)) dX1_hearten_47 rfl (congrArg (_ + ·) ci_1) (by decide) rfl ?_
        refine r_goto (tgt := 16) dX1_hearten_50 rfl ?_
        cases eb9
        exact r_weak (L' := [some (vr (some 14)), some (vi a1), some (vi q1), some (vi (mI mm 15 (ix a1))), some (vi (z4.1 + (1 : Int32)))]) ⟨rfl, rfl, rfl, rfl, rfl, trivial⟩ hx8
      · replace eb9 := ite_t h14 eb9
        refine r_iload dX1_hearten_44 rfl ?_
        cases eb9
        have e := congrArg some (erx7 _ (Eq.symm hx8))
        cases e
        exact r_ireturn dX1_hearten_46 rfl rfl
  exact r_weak (L' := [some (vr (some 14)), some (vi a1), some (vi q1), some (vi (mI mm 15 (ix a1))), some (vi (0 : Int32))]) ⟨rfl, rfl, rfl, rfl, rfl, trivial⟩ J6w
noncomputable def m_X6_cell (S : Sk) (a0 : Nat) (a1 : Int32) (a2 : Int32) (mm : Mm) : Option (Int32) := if a1 < 0 then (some (-1 : Int32)) else (if (mI mm a0 1) ≤ a1 then (some (-1 : Int32)) else (if a2 < 0 then (some (-1 : Int32)) else (if a2 < (4 : Int32) then (grd ((a1 * (4 : Int32)) + a2) ((sK S (a0 + 1)).2) (some (mI mm (a0 + 1) (ix ((a1 * (4 : Int32)) + a2))))) else (some (-1 : Int32)))))
set_option maxHeartbeats 4000000 in
set_option maxRecDepth 100000 in
theorem c_X6_cell {l : Launch} {G : Gt} {S : Sk} {a0 : Nat} {a1 : Int32} {a2 : Int32} {mm : Mm} (hI : SI S) (ha0 : KD S a0 6) {q : Int32} (e : m_X6_cell S a0 a1 a2 mm = some q) : CallOK l G M_X6_cell yX6_cell 0 [vr (some a0), vi a1, vi a2] S mm (some (vi q)) S mm := by
  have hS := hI.1
  refine call_of_run rfl rfl rfl (Nat.le_of_ble_eq_true rfl) ?_
  show Run l G M_X6_cell 0 0 [some (vr (some a0)), some (vi a1), some (vi a2)] [] S mm (some (vi q)) S mm
  unfold m_X6_cell at e
  refine r_iload_n dX6_cell_0 rfl ?_
  refine r_if_lt (tgt := 21) dX6_cell_1 rfl (fun h1 => ?_) (fun h1 => ?_)
  · replace e := ite_t h1 e
    refine r_iconst (v := -1) dX6_cell_21 ci_m1 ?_
    cases e
    exact r_ireturn dX6_cell_22 rfl rfl
  · replace e := ite_f h1 e
    refine r_iload_n dX6_cell_4 rfl ?_
    refine r_aload_n dX6_cell_5 rfl ?_
    refine r_getI dX6_cell_6 fl_X6_9 rfl ha0.1 ha0.2 ?_
    refine r_icmp_ge (tgt := 21) dX6_cell_9 rfl (fun h2 => ?_) (fun h2 => ?_)
    · replace e := ite_t h2 e
      refine r_iconst (v := -1) dX6_cell_21 ci_m1 ?_
      cases e
      exact r_ireturn dX6_cell_22 rfl rfl
    · replace e := ite_f h2 e
      refine r_iload_n dX6_cell_12 rfl ?_
      refine r_if_lt (tgt := 21) dX6_cell_13 rfl (fun h3 => ?_) (fun h3 => ?_)
      · replace e := ite_t h3 e
        refine r_iconst (v := -1) dX6_cell_21 ci_m1 ?_
        cases e
        exact r_ireturn dX6_cell_22 rfl rfl
      · replace e := ite_f h3 e
        refine r_iload_n dX6_cell_16 rfl ?_
        refine r_iconst (v := 4) dX6_cell_17 ci_4 ?_
        refine r_icmp_lt (tgt := 23) dX6_cell_18 rfl (fun h4 => ?_) (fun h4 => ?_)
        · replace e := ite_t h4 e
          refine r_aload_n dX6_cell_23 rfl ?_
          refine r_getR dX6_cell_24 fl_X6_21 rfl ha0.1 ha0.2 (hI.2.2.1 a0 ha0).1 ?_
          refine r_iload_n dX6_cell_27 rfl ?_
          refine r_iconst (v := 4) dX6_cell_28 ci_4 ?_
          refine r_imul dX6_cell_29 ?_
          refine r_iload_n dX6_cell_30 rfl ?_
          refine r_iadd dX6_cell_31 ?_
          obtain ⟨hg5, e⟩ := grd_some e
          refine r_iald dX6_cell_32 (hI.2.2.1 a0 ha0).2.1 (arr_k (hI.2.2.1 a0 ha0).2) hg5 ?_
          cases e
          exact r_ireturn dX6_cell_33 rfl rfl
        · replace e := ite_f h4 e
          refine r_iconst (v := -1) dX6_cell_21 ci_m1 ?_
          cases e
          exact r_ireturn dX6_cell_22 rfl rfl
noncomputable def m_X2_take (a0 : Nat) (a1 : Int32) (a2 : Int32) (a3 : Int32) (a4 : Int32) (mm : Mm) : Option (Mm) := if a1 = (0 : Int32) then (grd (mI mm a0 8) 6 (grd (mI (sI mm (a0 + 1 + 0) (ix (mI mm a0 8)) a2) a0 8) 6 (some (sI (sI (sI mm (a0 + 1 + 0) (ix (mI mm a0 8)) a2) (a0 + 1 + 1) (ix (mI (sI mm (a0 + 1 + 0) (ix (mI mm a0 8)) a2) a0 8)) a3) a0 8 ((mI (sI (sI mm (a0 + 1 + 0) (ix (mI mm a0 8)) a2) (a0 + 1 + 1) (ix (mI (sI mm (a0 + 1 + 0) (ix (mI mm a0 8)) a2) a0 8)) a3) a0 8) + (1 : Int32)))))) else (if a1 = (1 : Int32) then (grd a2 8 (some (sI mm (a0 + 1 + 3) (ix a2) a3))) else (if a1 = (2 : Int32) then (grd a2 8 (grd a2 8 (grd a3 8 (grd a3 8 (some (sI (sI mm (a0 + 1 + 4) (ix a2) ((mI mm (a0 + 1 + 4) (ix a2)) ||| (xshl (1 : Int32) a3))) (a0 + 1 + 4) (ix a3) ((mI (sI mm (a0 + 1 + 4) (ix a2) ((mI mm (a0 + 1 + 4) (ix a2)) ||| (xshl (1 : Int32) a3))) (a0 + 1 + 4) (ix a3)) ||| (xshl (1 : Int32) a2)))))))) else (if a1 = (3 : Int32) then (grd a2 6 (grd a2 6 (some (sI mm (a0 + 1 + 2) (ix a2) ((mI mm (a0 + 1 + 2) (ix a2)) ||| (xshl (1 : Int32) a3)))))) else (grd (mI mm a0 9) 12 (grd (mI (sI mm (a0 + 1 + 5) (ix (mI mm a0 9)) a2) a0 9) 12 (grd (mI (sI (sI mm (a0 + 1 + 5) (ix (mI mm a0 9)) a2) (a0 + 1 + 6) (ix (mI (sI mm (a0 + 1 + 5) (ix (mI mm a0 9)) a2) a0 9)) a3) a0 9) 12 (some (sI (sI (sI (sI mm (a0 + 1 + 5) (ix (mI mm a0 9)) a2) (a0 + 1 + 6) (ix (mI (sI mm (a0 + 1 + 5) (ix (mI mm a0 9)) a2) a0 9)) a3) (a0 + 1 + 7) (ix (mI (sI (sI mm (a0 + 1 + 5) (ix (mI mm a0 9)) a2) (a0 + 1 + 6) (ix (mI (sI mm (a0 + 1 + 5) (ix (mI mm a0 9)) a2) a0 9)) a3) a0 9)) a4) a0 9 ((mI (sI (sI (sI mm (a0 + 1 + 5) (ix (mI mm a0 9)) a2) (a0 + 1 + 6) (ix (mI (sI mm (a0 + 1 + 5) (ix (mI mm a0 9)) a2) a0 9)) a3) (a0 + 1 + 7) (ix (mI (sI (sI mm (a0 + 1 + 5) (ix (mI mm a0 9)) a2) (a0 + 1 + 6) (ix (mI (sI mm (a0 + 1 + 5) (ix (mI mm a0 9)) a2) a0 9)) a3) a0 9)) a4) a0 9) + (1 : Int32))))))))))
set_option maxHeartbeats 4000000 in
set_option maxRecDepth 100000 in
theorem c_X2_take {l : Launch} {G : Gt} {S : Sk} {a0 : Nat} {a1 : Int32} {a2 : Int32} {a3 : Int32} {a4 : Int32} {mm : Mm} (hI : SI S) (ha0 : KD S a0 2) {q : Mm} (e : m_X2_take a0 a1 a2 a3 a4 mm = some q) : CallOK l G M_X2_take yX2_take 0 [vr (some a0), vi a1, vi a2, vi a3, vi a4] S mm (none) S q := by
  have hS := hI.1
  refine call_of_run rfl rfl rfl (Nat.le_of_ble_eq_true rfl) ?_
  show Run l G M_X2_take 0 0 [some (vr (some a0)), some (vi a1), some (vi a2), some (vi a3), some (vi a4)] [] S mm (none) S q
  unfold m_X2_take at e
  refine r_iload_n dX2_take_0 rfl ?_
  by_cases h1 : a1 = (0 : Int32)
  · replace e := ite_t h1 e
    refine r_table_in (tgt := 32) dX2_take_1 (by rw [h1]; decide) (by rw [h1]; decide) (by rw [h1]; rfl) rfl ?_
    refine r_aload_n dX2_take_32 rfl ?_
    refine r_getR dX2_take_33 fl_X2_9 rfl ha0.1 ha0.2 (hI.2.1 a0 ha0 0 (by decide)).1 ?_
    refine r_aload_n dX2_take_36 rfl ?_
    refine r_getI dX2_take_37 fl_X2_36 rfl ha0.1 ha0.2 ?_
    refine r_iload_n dX2_take_40 rfl ?_
    obtain ⟨hg2, e⟩ := grd_some e
    refine r_iast dX2_take_41 (hI.2.1 a0 ha0 0 (by decide)).2.1 (hI.2.1 a0 ha0 0 (by decide)).2.2 hg2 ?_
    refine r_aload_n dX2_take_42 rfl ?_
    refine r_getR dX2_take_43 fl_X2_15 rfl ha0.1 ha0.2 (hI.2.1 a0 ha0 1 (by decide)).1 ?_
    refine r_aload_n dX2_take_46 rfl ?_
    refine r_getI dX2_take_47 fl_X2_36 rfl ha0.1 ha0.2 ?_
    refine r_iload_n dX2_take_50 rfl ?_
    obtain ⟨hg3, e⟩ := grd_some e
    refine r_iast dX2_take_51 (hI.2.1 a0 ha0 1 (by decide)).2.1 (hI.2.1 a0 ha0 1 (by decide)).2.2 hg3 ?_
    refine r_aload_n dX2_take_52 rfl ?_
    refine r_dup dX2_take_53 rfl ?_
    refine r_getI dX2_take_54 fl_X2_36 rfl ha0.1 ha0.2 ?_
    refine r_iconst (v := 1) dX2_take_57 ci_1 ?_
    refine r_iadd dX2_take_58 ?_
    refine r_putI dX2_take_59 fl_X2_36 ft_2_8 (Or.inl rfl) rfl rfl rfl ha0.1 ha0.2 ?_
    refine r_goto (tgt := 158) dX2_take_62 rfl ?_
    cases e
    exact r_return dX2_take_158 rfl
  replace e := ite_f h1 e
  by_cases h4 : a1 = (1 : Int32)
  · replace e := ite_t h4 e
    refine r_table_in (tgt := 65) dX2_take_1 (by rw [h4]; decide) (by rw [h4]; decide) (by rw [h4]; rfl) rfl ?_
    refine r_aload_n dX2_take_65 rfl ?_
    refine r_getR dX2_take_66 fl_X2_21 rfl ha0.1 ha0.2 (hI.2.1 a0 ha0 3 (by decide)).1 ?_
    refine r_iload_n dX2_take_69 rfl ?_
    refine r_iload_n dX2_take_70 rfl ?_
    obtain ⟨hg5, e⟩ := grd_some e
    refine r_iast dX2_take_71 (hI.2.1 a0 ha0 3 (by decide)).2.1 (hI.2.1 a0 ha0 3 (by decide)).2.2 hg5 ?_
    refine r_goto (tgt := 158) dX2_take_72 rfl ?_
    cases e
    exact r_return dX2_take_158 rfl
  replace e := ite_f h4 e
  by_cases h6 : a1 = (2 : Int32)
  · replace e := ite_t h6 e
    refine r_table_in (tgt := 75) dX2_take_1 (by rw [h6]; decide) (by rw [h6]; decide) (by rw [h6]; rfl) rfl ?_
    refine r_aload_n dX2_take_75 rfl ?_
    refine r_getR dX2_take_76 fl_X2_24 rfl ha0.1 ha0.2 (hI.2.1 a0 ha0 4 (by decide)).1 ?_
    refine r_iload_n dX2_take_79 rfl ?_
    refine r_dup2 dX2_take_80 rfl rfl ?_
    obtain ⟨hg7, e⟩ := grd_some e
    refine r_iald dX2_take_81 (hI.2.1 a0 ha0 4 (by decide)).2.1 (hI.2.1 a0 ha0 4 (by decide)).2.2 hg7 ?_
    refine r_iconst (v := 1) dX2_take_82 ci_1 ?_
    refine r_iload_n dX2_take_83 rfl ?_
    refine r_ishl dX2_take_84 ?_
    refine r_ior dX2_take_85 ?_
    obtain ⟨hg8, e⟩ := grd_some e
    refine r_iast dX2_take_86 (hI.2.1 a0 ha0 4 (by decide)).2.1 (hI.2.1 a0 ha0 4 (by decide)).2.2 hg8 ?_
    refine r_aload_n dX2_take_87 rfl ?_
    refine r_getR dX2_take_88 fl_X2_24 rfl ha0.1 ha0.2 (hI.2.1 a0 ha0 4 (by decide)).1 ?_
    refine r_iload_n dX2_take_91 rfl ?_
    refine r_dup2 dX2_take_92 rfl rfl ?_
    obtain ⟨hg9, e⟩ := grd_some e
    refine r_iald dX2_take_93 (hI.2.1 a0 ha0 4 (by decide)).2.1 (hI.2.1 a0 ha0 4 (by decide)).2.2 hg9 ?_
    refine r_iconst (v := 1) dX2_take_94 ci_1 ?_
    refine r_iload_n dX2_take_95 rfl ?_
    refine r_ishl dX2_take_96 ?_
    refine r_ior dX2_take_97 ?_
    obtain ⟨hg10, e⟩ := grd_some e
    refine r_iast dX2_take_98 (hI.2.1 a0 ha0 4 (by decide)).2.1 (hI.2.1 a0 ha0 4 (by decide)).2.2 hg10 ?_
    refine r_goto (tgt := 158) dX2_take_99 rfl ?_
    cases e
    exact r_return dX2_take_158 rfl
  replace e := ite_f h6 e
  by_cases h11 : a1 = (3 : Int32)
  · replace e := ite_t h11 e
    refine r_table_in (tgt := 102) dX2_take_1 (by rw [h11]; decide) (by rw [h11]; decide) (by rw [h11]; rfl) rfl ?_
    refine r_aload_n dX2_take_102 rfl ?_
    refine r_getR dX2_take_103 fl_X2_18 rfl ha0.1 ha0.2 (hI.2.1 a0 ha0 2 (by decide)).1 ?_
    refine r_iload_n dX2_take_106 rfl ?_
    refine r_dup2 dX2_take_107 rfl rfl ?_
    obtain ⟨hg12, e⟩ := grd_some e
    refine r_iald dX2_take_108 (hI.2.1 a0 ha0 2 (by decide)).2.1 (hI.2.1 a0 ha0 2 (by decide)).2.2 hg12 ?_
    refine r_iconst (v := 1) dX2_take_109 ci_1 ?_
    refine r_iload_n dX2_take_110 rfl ?_
    refine r_ishl dX2_take_111 ?_
    refine r_ior dX2_take_112 ?_
    obtain ⟨hg13, e⟩ := grd_some e
    refine r_iast dX2_take_113 (hI.2.1 a0 ha0 2 (by decide)).2.1 (hI.2.1 a0 ha0 2 (by decide)).2.2 hg13 ?_
    refine r_goto (tgt := 158) dX2_take_114 rfl ?_
    cases e
    exact r_return dX2_take_158 rfl
  replace e := ite_f h11 e
  have ho1 : (a1).toInt < 0 ∨ 3 < (a1).toInt := by
    have nh1 := lv_neT (a := 0) h1 (by decide)
    have nh4 := lv_neT (a := 1) h4 (by decide)
    have nh6 := lv_neT (a := 2) h6 (by decide)
    have nh11 := lv_neT (a := 3) h11 (by decide)
    omega
  refine r_table_out (tgt := 117) dX2_take_1 ho1 rfl ?_
  refine r_aload_n dX2_take_117 rfl ?_
  refine r_getR dX2_take_118 fl_X2_27 rfl ha0.1 ha0.2 (hI.2.1 a0 ha0 5 (by decide)).1 ?_
  refine r_aload_n dX2_take_121 rfl ?_
  refine r_getI dX2_take_122 fl_X2_40 rfl ha0.1 ha0.2 ?_
  refine r_iload_n dX2_take_125 rfl ?_
  obtain ⟨hg14, e⟩ := grd_some e
  refine r_iast dX2_take_126 (hI.2.1 a0 ha0 5 (by decide)).2.1 (hI.2.1 a0 ha0 5 (by decide)).2.2 hg14 ?_
  refine r_aload_n dX2_take_127 rfl ?_
  refine r_getR dX2_take_128 fl_X2_30 rfl ha0.1 ha0.2 (hI.2.1 a0 ha0 6 (by decide)).1 ?_
  refine r_aload_n dX2_take_131 rfl ?_
  refine r_getI dX2_take_132 fl_X2_40 rfl ha0.1 ha0.2 ?_
  refine r_iload_n dX2_take_135 rfl ?_
  obtain ⟨hg15, e⟩ := grd_some e
  refine r_iast dX2_take_136 (hI.2.1 a0 ha0 6 (by decide)).2.1 (hI.2.1 a0 ha0 6 (by decide)).2.2 hg15 ?_
  refine r_aload_n dX2_take_137 rfl ?_
  refine r_getR dX2_take_138 fl_X2_33 rfl ha0.1 ha0.2 (hI.2.1 a0 ha0 7 (by decide)).1 ?_
  refine r_aload_n dX2_take_141 rfl ?_
  refine r_getI dX2_take_142 fl_X2_40 rfl ha0.1 ha0.2 ?_
  refine r_iload dX2_take_145 rfl ?_
  obtain ⟨hg16, e⟩ := grd_some e
  refine r_iast dX2_take_147 (hI.2.1 a0 ha0 7 (by decide)).2.1 (hI.2.1 a0 ha0 7 (by decide)).2.2 hg16 ?_
  refine r_aload_n dX2_take_148 rfl ?_
  refine r_dup dX2_take_149 rfl ?_
  refine r_getI dX2_take_150 fl_X2_40 rfl ha0.1 ha0.2 ?_
  refine r_iconst (v := 1) dX2_take_153 ci_1 ?_
  refine r_iadd dX2_take_154 ?_
  refine r_putI dX2_take_155 fl_X2_40 ft_2_9 (Or.inl rfl) rfl rfl rfl ha0.1 ha0.2 ?_
  cases e
  exact r_return dX2_take_158 rfl
noncomputable def m_X2_init_b80 (a0 : Nat) (S : Sk) (z45 : Int32 × Mm) : Option ((Int32 × Mm) ⊕ (Mm)) := if (8 : Int32) ≤ z45.1 then (some (.inr z45.2)) else (gR (sR (sRs (nwS (sRs (nwS (sRs (nwS (sRs (nwS (sRs (nwS (sRs (nwS (sRs (nwS (sRs (nwS S 20 6 6) a0 0 (some S.1)) 20 6 6) a0 1 (some (S.1 + 1))) 20 6 6) a0 2 (some (S.1 + 2))) 20 8 8) a0 3 (some (S.1 + 3))) 20 8 8) a0 4 (some (S.1 + 4))) 20 12 12) a0 5 (some (S.1 + 5))) 20 12 12) a0 6 (some (S.1 + 6))) 20 12 12) a0 7 (some (S.1 + 7))) a0 3) (S.1 + 3) (grd z45.1 8 (some (.inl (z45.1 + (1 : Int32), (sI z45.2 (S.1 + 3) (ix z45.1) (5 : Int32)))))))
noncomputable def m_X2_init_b101 (a0 : Nat) (S : Sk) (z54 : Int32 × Mm) : Option ((Int32 × Mm) ⊕ (Mm)) := gP (Lay (sRs (nwS (sRs (nwS (sRs (nwS (sRs (nwS (sRs (nwS (sRs (nwS (sRs (nwS (sRs (nwS S 20 6 6) a0 0 (some S.1)) 20 6 6) a0 1 (some (S.1 + 1))) 20 6 6) a0 2 (some (S.1 + 2))) 20 8 8) a0 3 (some (S.1 + 3))) 20 8 8) a0 4 (some (S.1 + 4))) 20 12 12) a0 5 (some (S.1 + 5))) 20 12 12) a0 6 (some (S.1 + 6))) 20 12 12) a0 7 (some (S.1 + 7)))) (if (mI z54.2 8 1) ≤ z54.1 then (some (.inr z54.2)) else (gP (SI (sRs (nwS (sRs (nwS (sRs (nwS (sRs (nwS (sRs (nwS (sRs (nwS (sRs (nwS (sRs (nwS S 20 6 6) a0 0 (some S.1)) 20 6 6) a0 1 (some (S.1 + 1))) 20 6 6) a0 2 (some (S.1 + 2))) 20 8 8) a0 3 (some (S.1 + 3))) 20 8 8) a0 4 (some (S.1 + 4))) 20 12 12) a0 5 (some (S.1 + 5))) 20 12 12) a0 6 (some (S.1 + 6))) 20 12 12) a0 7 (some (S.1 + 7)))) ((m_X6_cell (sRs (nwS (sRs (nwS (sRs (nwS (sRs (nwS (sRs (nwS (sRs (nwS (sRs (nwS (sRs (nwS S 20 6 6) a0 0 (some S.1)) 20 6 6) a0 1 (some (S.1 + 1))) 20 6 6) a0 2 (some (S.1 + 2))) 20 8 8) a0 3 (some (S.1 + 3))) 20 8 8) a0 4 (some (S.1 + 4))) 20 12 12) a0 5 (some (S.1 + 5))) 20 12 12) a0 6 (some (S.1 + 6))) 20 12 12) a0 7 (some (S.1 + 7))) 8 z54.1 (0 : Int32) z54.2).bind (fun q63 => (m_X6_cell (sRs (nwS (sRs (nwS (sRs (nwS (sRs (nwS (sRs (nwS (sRs (nwS (sRs (nwS (sRs (nwS S 20 6 6) a0 0 (some S.1)) 20 6 6) a0 1 (some (S.1 + 1))) 20 6 6) a0 2 (some (S.1 + 2))) 20 8 8) a0 3 (some (S.1 + 3))) 20 8 8) a0 4 (some (S.1 + 4))) 20 12 12) a0 5 (some (S.1 + 5))) 20 12 12) a0 6 (some (S.1 + 6))) 20 12 12) a0 7 (some (S.1 + 7))) 8 z54.1 (1 : Int32) z54.2).bind (fun q65 => (m_X6_cell (sRs (nwS (sRs (nwS (sRs (nwS (sRs (nwS (sRs (nwS (sRs (nwS (sRs (nwS (sRs (nwS S 20 6 6) a0 0 (some S.1)) 20 6 6) a0 1 (some (S.1 + 1))) 20 6 6) a0 2 (some (S.1 + 2))) 20 8 8) a0 3 (some (S.1 + 3))) 20 8 8) a0 4 (some (S.1 + 4))) 20 12 12) a0 5 (some (S.1 + 5))) 20 12 12) a0 6 (some (S.1 + 6))) 20 12 12) a0 7 (some (S.1 + 7))) 8 z54.1 (2 : Int32) z54.2).bind (fun q67 => (m_X6_cell (sRs (nwS (sRs (nwS (sRs (nwS (sRs (nwS (sRs (nwS (sRs (nwS (sRs (nwS (sRs (nwS S 20 6 6) a0 0 (some S.1)) 20 6 6) a0 1 (some (S.1 + 1))) 20 6 6) a0 2 (some (S.1 + 2))) 20 8 8) a0 3 (some (S.1 + 3))) 20 8 8) a0 4 (some (S.1 + 4))) 20 12 12) a0 5 (some (S.1 + 5))) 20 12 12) a0 6 (some (S.1 + 6))) 20 12 12) a0 7 (some (S.1 + 7))) 8 z54.1 (3 : Int32) z54.2).bind (fun q69 => (m_X2_take a0 q63 q65 q67 q69 z54.2).bind (fun q71 => some (.inl (z54.1 + (1 : Int32), q71))))))))))
noncomputable def m_X2_init (S : Sk) (a0 : Nat) (mm : Mm) : Option (Sk × Mm) := (whileF FU (m_X2_init_b80 a0 S) ((0 : Int32), (sI (sI (nwM (sRs (nwS (sRs (nwS (sRs (nwS (sRs (nwS (sRs (nwS (sRs (nwS (sRs (nwS S 20 6 6) a0 0 (some S.1)) 20 6 6) a0 1 (some (S.1 + 1))) 20 6 6) a0 2 (some (S.1 + 2))) 20 8 8) a0 3 (some (S.1 + 3))) 20 8 8) a0 4 (some (S.1 + 4))) 20 12 12) a0 5 (some (S.1 + 5))) 20 12 12) a0 6 (some (S.1 + 6))) (nwM (sRs (nwS (sRs (nwS (sRs (nwS (sRs (nwS (sRs (nwS (sRs (nwS S 20 6 6) a0 0 (some S.1)) 20 6 6) a0 1 (some (S.1 + 1))) 20 6 6) a0 2 (some (S.1 + 2))) 20 8 8) a0 3 (some (S.1 + 3))) 20 8 8) a0 4 (some (S.1 + 4))) 20 12 12) a0 5 (some (S.1 + 5))) (nwM (sRs (nwS (sRs (nwS (sRs (nwS (sRs (nwS (sRs (nwS S 20 6 6) a0 0 (some S.1)) 20 6 6) a0 1 (some (S.1 + 1))) 20 6 6) a0 2 (some (S.1 + 2))) 20 8 8) a0 3 (some (S.1 + 3))) 20 8 8) a0 4 (some (S.1 + 4))) (nwM (sRs (nwS (sRs (nwS (sRs (nwS (sRs (nwS S 20 6 6) a0 0 (some S.1)) 20 6 6) a0 1 (some (S.1 + 1))) 20 6 6) a0 2 (some (S.1 + 2))) 20 8 8) a0 3 (some (S.1 + 3))) (nwM (sRs (nwS (sRs (nwS (sRs (nwS S 20 6 6) a0 0 (some S.1)) 20 6 6) a0 1 (some (S.1 + 1))) 20 6 6) a0 2 (some (S.1 + 2))) (nwM (sRs (nwS (sRs (nwS S 20 6 6) a0 0 (some S.1)) 20 6 6) a0 1 (some (S.1 + 1))) (nwM (sRs (nwS S 20 6 6) a0 0 (some S.1)) (nwM S mm)))))))) a0 8 (0 : Int32)) a0 9 (0 : Int32)))).bind (fun p46 => (whileF FU (m_X2_init_b101 a0 S) ((0 : Int32), p46)).bind (fun p55 => some ((sRs (nwS (sRs (nwS (sRs (nwS (sRs (nwS (sRs (nwS (sRs (nwS (sRs (nwS (sRs (nwS S 20 6 6) a0 0 (some S.1)) 20 6 6) a0 1 (some (S.1 + 1))) 20 6 6) a0 2 (some (S.1 + 2))) 20 8 8) a0 3 (some (S.1 + 3))) 20 8 8) a0 4 (some (S.1 + 4))) 20 12 12) a0 5 (some (S.1 + 5))) 20 12 12) a0 6 (some (S.1 + 6))) 20 12 12) a0 7 (some (S.1 + 7))), p55)))
set_option maxHeartbeats 4000000 in
set_option maxRecDepth 100000 in
theorem c_X2_init {l : Launch} {G : Gt} {S : Sk} {a0 : Nat} {mm : Mm} (ha0 : KD S a0 2) {q : Sk × Mm} (e : m_X2_init S a0 mm = some q) : CallOK l G M_X2_init yX2_init 1 [vr (some a0), vr (some 8)] S mm (none) q.1 q.2 := by
  refine call_of_run rfl rfl rfl (Nat.le_of_ble_eq_true rfl) ?_
  show Run l G M_X2_init 1 0 [some (vr (some a0)), some (vr (some 8)), none] [] S mm (none) q.1 q.2
  unfold m_X2_init at e
  refine r_aload_n dX2_init_0 rfl ?_
  refine r_objInit (rest := []) dX2_init_1 oi_X2_3 oi_i oi_c (by decide) (Nat.le_of_ble_eq_true rfl) ?_
  refine r_aload_n dX2_init_4 rfl ?_
  refine r_bipush (v := 6) dX2_init_5 cb_6 ?_
  refine r_newa (t := 20) dX2_init_7 rfl (by decide) (by decide) aw_20 (by decide) (N := 6) (by decide) (by decide) ?_
  have hn1 := kd_nw (k := 20) (len := 6) (z := 6) ha0
  have hn2 : AK (nwS S 20 6 6) S.1 20 6 := ak_new
  refine r_putR dX2_init_9 fl_X2_9 ft_2_0 (Or.inr ⟨rfl, fun q hq => by cases hq; rfl⟩) rfl hn1.1 hn1.2 ?_
  refine r_aload_n dX2_init_12 rfl ?_
  refine r_bipush (v := 6) dX2_init_13 cb_6 ?_
  refine r_newa (t := 20) dX2_init_15 rfl (by decide) (by decide) aw_20 (by decide) (N := 6) (by decide) (by decide) ?_
  have hn3 := kd_nw (k := 20) (len := 6) (z := 6) hn1
  have hn4 := ak_nw (k := 20) (len := 6) (z := 6) hn2
  have hn5 : AK (nwS (sRs (nwS S 20 6 6) a0 0 (some S.1)) 20 6 6) (S.1 + 1) 20 6 := ak_new
  refine r_putR dX2_init_17 fl_X2_15 ft_2_1 (Or.inr ⟨rfl, fun q hq => by cases hq; rfl⟩) rfl hn3.1 hn3.2 ?_
  refine r_aload_n dX2_init_20 rfl ?_
  refine r_bipush (v := 6) dX2_init_21 cb_6 ?_
  refine r_newa (t := 20) dX2_init_23 rfl (by decide) (by decide) aw_20 (by decide) (N := 6) (by decide) (by decide) ?_
  have hn6 := kd_nw (k := 20) (len := 6) (z := 6) hn3
  have hn7 := ak_nw (k := 20) (len := 6) (z := 6) hn4
  have hn8 := ak_nw (k := 20) (len := 6) (z := 6) hn5
  have hn9 : AK (nwS (sRs (nwS (sRs (nwS S 20 6 6) a0 0 (some S.1)) 20 6 6) a0 1 (some (S.1 + 1))) 20 6 6) (S.1 + 2) 20 6 := ak_new
  refine r_putR dX2_init_25 fl_X2_18 ft_2_2 (Or.inr ⟨rfl, fun q hq => by cases hq; rfl⟩) rfl hn6.1 hn6.2 ?_
  refine r_aload_n dX2_init_28 rfl ?_
  refine r_bipush (v := 8) dX2_init_29 cb_8 ?_
  refine r_newa (t := 20) dX2_init_31 rfl (by decide) (by decide) aw_20 (by decide) (N := 8) (by decide) (by decide) ?_
  have hn10 := kd_nw (k := 20) (len := 8) (z := 8) hn6
  have hn11 := ak_nw (k := 20) (len := 8) (z := 8) hn7
  have hn12 := ak_nw (k := 20) (len := 8) (z := 8) hn8
  have hn13 := ak_nw (k := 20) (len := 8) (z := 8) hn9
  have hn14 : AK (nwS (sRs (nwS (sRs (nwS (sRs (nwS S 20 6 6) a0 0 (some S.1)) 20 6 6) a0 1 (some (S.1 + 1))) 20 6 6) a0 2 (some (S.1 + 2))) 20 8 8) (S.1 + 3) 20 8 := ak_new
  refine r_putR dX2_init_33 fl_X2_21 ft_2_3 (Or.inr ⟨rfl, fun q hq => by cases hq; rfl⟩) rfl hn10.1 hn10.2 ?_
  refine r_aload_n dX2_init_36 rfl ?_
  refine r_bipush (v := 8) dX2_init_37 cb_8 ?_
  refine r_newa (t := 20) dX2_init_39 rfl (by decide) (by decide) aw_20 (by decide) (N := 8) (by decide) (by decide) ?_
  have hn15 := kd_nw (k := 20) (len := 8) (z := 8) hn10
  have hn16 := ak_nw (k := 20) (len := 8) (z := 8) hn11
  have hn17 := ak_nw (k := 20) (len := 8) (z := 8) hn12
  have hn18 := ak_nw (k := 20) (len := 8) (z := 8) hn13
  have hn19 := ak_nw (k := 20) (len := 8) (z := 8) hn14
  have hn20 : AK (nwS (sRs (nwS (sRs (nwS (sRs (nwS (sRs (nwS S 20 6 6) a0 0 (some S.1)) 20 6 6) a0 1 (some (S.1 + 1))) 20 6 6) a0 2 (some (S.1 + 2))) 20 8 8) a0 3 (some (S.1 + 3))) 20 8 8) (S.1 + 4) 20 8 := ak_new
  refine r_putR dX2_init_41 fl_X2_24 ft_2_4 (Or.inr ⟨rfl, fun q hq => by cases hq; rfl⟩) rfl hn15.1 hn15.2 ?_
  refine r_aload_n dX2_init_44 rfl ?_
  refine r_bipush (v := 12) dX2_init_45 cb_12 ?_
  refine r_newa (t := 20) dX2_init_47 rfl (by decide) (by decide) aw_20 (by decide) (N := 12) (by decide) (by decide) ?_
  have hn21 := kd_nw (k := 20) (len := 12) (z := 12) hn15
  have hn22 := ak_nw (k := 20) (len := 12) (z := 12) hn16
  have hn23 := ak_nw (k := 20) (len := 12) (z := 12) hn17
  have hn24 := ak_nw (k := 20) (len := 12) (z := 12) hn18
  have hn25 := ak_nw (k := 20) (len := 12) (z := 12) hn19
  have hn26 := ak_nw (k := 20) (len := 12) (z := 12) hn20
  have hn27 : AK (nwS (sRs (nwS (sRs (nwS (sRs (nwS (sRs (nwS (sRs (nwS S 20 6 6) a0 0 (some S.1)) 20 6 6) a0 1 (some (S.1 + 1))) 20 6 6) a0 2 (some (S.1 + 2))) 20 8 8) a0 3 (some (S.1 + 3))) 20 8 8) a0 4 (some (S.1 + 4))) 20 12 12) (S.1 + 5) 20 12 := ak_new
  refine r_putR dX2_init_49 fl_X2_27 ft_2_5 (Or.inr ⟨rfl, fun q hq => by cases hq; rfl⟩) rfl hn21.1 hn21.2 ?_
  refine r_aload_n dX2_init_52 rfl ?_
  refine r_bipush (v := 12) dX2_init_53 cb_12 ?_
  refine r_newa (t := 20) dX2_init_55 rfl (by decide) (by decide) aw_20 (by decide) (N := 12) (by decide) (by decide) ?_
  have hn28 := kd_nw (k := 20) (len := 12) (z := 12) hn21
  have hn29 := ak_nw (k := 20) (len := 12) (z := 12) hn22
  have hn30 := ak_nw (k := 20) (len := 12) (z := 12) hn23
  have hn31 := ak_nw (k := 20) (len := 12) (z := 12) hn24
  have hn32 := ak_nw (k := 20) (len := 12) (z := 12) hn25
  have hn33 := ak_nw (k := 20) (len := 12) (z := 12) hn26
  have hn34 := ak_nw (k := 20) (len := 12) (z := 12) hn27
  have hn35 : AK (nwS (sRs (nwS (sRs (nwS (sRs (nwS (sRs (nwS (sRs (nwS (sRs (nwS S 20 6 6) a0 0 (some S.1)) 20 6 6) a0 1 (some (S.1 + 1))) 20 6 6) a0 2 (some (S.1 + 2))) 20 8 8) a0 3 (some (S.1 + 3))) 20 8 8) a0 4 (some (S.1 + 4))) 20 12 12) a0 5 (some (S.1 + 5))) 20 12 12) (S.1 + 6) 20 12 := ak_new
  refine r_putR dX2_init_57 fl_X2_30 ft_2_6 (Or.inr ⟨rfl, fun q hq => by cases hq; rfl⟩) rfl hn28.1 hn28.2 ?_
  refine r_aload_n dX2_init_60 rfl ?_
  refine r_bipush (v := 12) dX2_init_61 cb_12 ?_
  refine r_newa (t := 20) dX2_init_63 rfl (by decide) (by decide) aw_20 (by decide) (N := 12) (by decide) (by decide) ?_
  have hn36 := kd_nw (k := 20) (len := 12) (z := 12) hn28
  have hn37 := ak_nw (k := 20) (len := 12) (z := 12) hn29
  have hn38 := ak_nw (k := 20) (len := 12) (z := 12) hn30
  have hn39 := ak_nw (k := 20) (len := 12) (z := 12) hn31
  have hn40 := ak_nw (k := 20) (len := 12) (z := 12) hn32
  have hn41 := ak_nw (k := 20) (len := 12) (z := 12) hn33
  have hn42 := ak_nw (k := 20) (len := 12) (z := 12) hn34
  have hn43 := ak_nw (k := 20) (len := 12) (z := 12) hn35
  have hn44 : AK (nwS (sRs (nwS (sRs (nwS (sRs (nwS (sRs (nwS (sRs (nwS (sRs (nwS (sRs (nwS S 20 6 6) a0 0 (some S.1)) 20 6 6) a0 1 (some (S.1 + 1))) 20 6 6) a0 2 (some (S.1 + 2))) 20 8 8) a0 3 (some (S.1 + 3))) 20 8 8) a0 4 (some (S.1 + 4))) 20 12 12) a0 5 (some (S.1 + 5))) 20 12 12) a0 6 (some (S.1 + 6))) 20 12 12) (S.1 + 7) 20 12 := ak_new
  refine r_putR dX2_init_65 fl_X2_33 ft_2_7 (Or.inr ⟨rfl, fun q hq => by cases hq; rfl⟩) rfl hn36.1 hn36.2 ?_
  refine r_aload_n dX2_init_68 rfl ?_
  refine r_iconst (v := 0) dX2_init_69 ci_0 ?_
  refine r_putI dX2_init_70 fl_X2_36 ft_2_8 (Or.inl rfl) rfl rfl rfl hn36.1 hn36.2 ?_
  refine r_aload_n dX2_init_73 rfl ?_
  refine r_iconst (v := 0) dX2_init_74 ci_0 ?_
  refine r_putI dX2_init_75 fl_X2_40 ft_2_9 (Or.inl rfl) rfl rfl rfl hn36.1 hn36.2 ?_
  refine r_iconst (v := 0) dX2_init_78 ci_0 ?_
  refine r_istore_n dX2_init_79 (by decide) rfl ?_
  obtain ⟨p46, eb50w, e⟩ := obind e
  have J47a : Run l G M_X2_init 1 99 [some (vr (some a0)), some (vr (some 8)), none] [] (sRs (nwS (sRs (nwS (sRs (nwS (sRs (nwS (sRs (nwS (sRs (nwS (sRs (nwS (sRs (nwS S 20 6 6) a0 0 (some S.1)) 20 6 6) a0 1 (some (S.1 + 1))) 20 6 6) a0 2 (some (S.1 + 2))) 20 8 8) a0 3 (some (S.1 + 3))) 20 8 8) a0 4 (some (S.1 + 4))) 20 12 12) a0 5 (some (S.1 + 5))) 20 12 12) a0 6 (some (S.1 + 6))) 20 12 12) a0 7 (some (S.1 + 7))) p46 (none) q.1 q.2 := by
    refine r_iconst (v := 0) dX2_init_99 ci_0 ?_
    refine r_istore_n dX2_init_100 (by decide) rfl ?_
    obtain ⟨p55, eb59w, e⟩ := obind e
    have J56a : Run l G M_X2_init 1 143 [none, none, none] [] (sRs (nwS (sRs (nwS (sRs (nwS (sRs (nwS (sRs (nwS (sRs (nwS (sRs (nwS (sRs (nwS S 20 6 6) a0 0 (some S.1)) 20 6 6) a0 1 (some (S.1 + 1))) 20 6 6) a0 2 (some (S.1 + 2))) 20 8 8) a0 3 (some (S.1 + 3))) 20 8 8) a0 4 (some (S.1 + 4))) 20 12 12) a0 5 (some (S.1 + 5))) 20 12 12) a0 6 (some (S.1 + 6))) 20 12 12) a0 7 (some (S.1 + 7))) p55 (none) q.1 q.2 := by
      cases e
      exact r_return dX2_init_143 rfl
    have J56 : ∀ pp : Mm, pp = p55 → Run l G M_X2_init 1 143 [none, none, none] [] (sRs (nwS (sRs (nwS (sRs (nwS (sRs (nwS (sRs (nwS (sRs (nwS (sRs (nwS (sRs (nwS S 20 6 6) a0 0 (some S.1)) 20 6 6) a0 1 (some (S.1 + 1))) 20 6 6) a0 2 (some (S.1 + 2))) 20 8 8) a0 3 (some (S.1 + 3))) 20 8 8) a0 4 (some (S.1 + 4))) 20 12 12) a0 5 (some (S.1 + 5))) 20 12 12) a0 6 (some (S.1 + 6))) 20 12 12) a0 7 (some (S.1 + 7))) pp (none) q.1 q.2 := by
      intro pp hpp
      rw [hpp]
      exact J56a
    have J56w : Run l G M_X2_init 1 101 [some (vr (some a0)), some (vr (some 8)), some (vi (0 : Int32))] [] (sRs (nwS (sRs (nwS (sRs (nwS (sRs (nwS (sRs (nwS (sRs (nwS (sRs (nwS (sRs (nwS S 20 6 6) a0 0 (some S.1)) 20 6 6) a0 1 (some (S.1 + 1))) 20 6 6) a0 2 (some (S.1 + 2))) 20 8 8) a0 3 (some (S.1 + 3))) 20 8 8) a0 4 (some (S.1 + 4))) 20 12 12) a0 5 (some (S.1 + 5))) 20 12 12) a0 6 (some (S.1 + 6))) 20 12 12) a0 7 (some (S.1 + 7))) p46 (none) q.1 q.2 := by
      refine while_run (s := ((0 : Int32), p46)) (Gs := fun (z54 : Int32 × Mm) => Run l G M_X2_init 1 101 [some (vr (some a0)), some (vr (some 8)), some (vi z54.1)] [] (sRs (nwS (sRs (nwS (sRs (nwS (sRs (nwS (sRs (nwS (sRs (nwS (sRs (nwS (sRs (nwS S 20 6 6) a0 0 (some S.1)) 20 6 6) a0 1 (some (S.1 + 1))) 20 6 6) a0 2 (some (S.1 + 2))) 20 8 8) a0 3 (some (S.1 + 3))) 20 8 8) a0 4 (some (S.1 + 4))) 20 12 12) a0 5 (some (S.1 + 5))) 20 12 12) a0 6 (some (S.1 + 6))) 20 12 12) a0 7 (some (S.1 + 7))) z54.2 (none) q.1 q.2) eb59w ?_
      intro z54 x57y eb59 hx58
      unfold m_X2_init_b101 at eb59
      refine r_iload_n dX2_init_101 rfl ?_
      refine r_aload_n dX2_init_102 rfl ?_
      obtain ⟨hn60, eb59⟩ := gP_some eb59
      refine r_getI dX2_init_103 fl_X2_43 rfl (lp_8 hn60) (lq_8 hn60) ?_
      refine r_icmp_ge (tgt := 143) dX2_init_106 rfl (fun h61 => ?_) (fun h61 => ?_)
      · replace eb59 := ite_t h61 eb59
        cases eb59
        exact r_weak (L' := [none, none, none]) trivial (J56 _ hx58)
      · replace eb59 := ite_f h61 eb59
        refine r_aload_n dX2_init_109 rfl ?_
        refine r_aload_n dX2_init_110 rfl ?_
        refine r_iload_n dX2_init_111 rfl ?_
        refine r_iconst (v := 0) dX2_init_112 ci_0 ?_
        obtain ⟨hn62, eb59⟩ := gP_some eb59
        obtain ⟨q63, eq64, eb59⟩ := obind eb59
        refine r_callV (as := [_, _]) (rest := [_]) dX2_init_113 ml_X2_48 yV_X6_cell (c_X6_cell hn62 ⟨lp_8 hn62.1, lq_8 hn62.1⟩ eq64) (by decide) rfl (lp_8 hn60) (lq_8 hn60) (Nat.le_of_ble_eq_true rfl) ?_
        refine r_aload_n dX2_init_116 rfl ?_
        refine r_iload_n dX2_init_117 rfl ?_
        refine r_iconst (v := 1) dX2_init_118 ci_1 ?_
        obtain ⟨q65, eq66, eb59⟩ := obind eb59
        refine r_callV (as := [_, _]) (rest := [_, _]) dX2_init_119 ml_X2_48 yV_X6_cell (c_X6_cell hn62 ⟨lp_8 hn62.1, lq_8 hn62.1⟩ eq66) (by decide) rfl (lp_8 hn62.1) (lq_8 hn62.1) (Nat.le_of_ble_eq_true rfl) ?_
        refine r_aload_n dX2_init_122 rfl ?_
        refine r_iload_n dX2_init_123 rfl ?_
        refine r_iconst (v := 2) dX2_init_124 ci_2 ?_
        obtain ⟨q67, eq68, eb59⟩ := obind eb59
        refine r_callV (as := [_, _]) (rest := [_, _, _]) dX2_init_125 ml_X2_48 yV_X6_cell (c_X6_cell hn62 ⟨lp_8 hn62.1, lq_8 hn62.1⟩ eq68) (by decide) rfl (lp_8 hn62.1) (lq_8 hn62.1) (Nat.le_of_ble_eq_true rfl) ?_
        refine r_aload_n dX2_init_128 rfl ?_
        refine r_iload_n dX2_init_129 rfl ?_
        refine r_iconst (v := 3) dX2_init_130 ci_3 ?_
        obtain ⟨q69, eq70, eb59⟩ := obind eb59
        refine r_callV (as := [_, _]) (rest := [_, _, _, _]) dX2_init_131 ml_X2_48 yV_X6_cell (c_X6_cell hn62 ⟨lp_8 hn62.1, lq_8 hn62.1⟩ eq70) (by decide) rfl (lp_8 hn62.1) (lq_8 hn62.1) (Nat.le_of_ble_eq_true rfl) ?_
        obtain ⟨q71, eq72, eb59⟩ := obind eb59
        refine r_callV (as := [_, _, _, _]) (rest := []) dX2_init_134 ml_X2_52 yV_X2_take (c_X2_take hn62 hn36 eq72) (by decide) rfl hn36.1 hn36.2 (Nat.le_of_ble_eq_true rfl) ?_
        refine r_iinc (v := _ + (1 : Int32)) dX2_init_137 rfl (congrArg (_ + ·) ci_1) (by decide) rfl ?_
        refine r_goto (tgt := 101) dX2_init_140 rfl ?_
        cases eb59
        exact r_weak (L' := [some (vr (some a0)), some (vr (some 8)), some (vi (z54.1 + (1 : Int32)))]) ⟨rfl, rfl, rfl, trivial⟩ hx58
    exact r_weak (L' := [some (vr (some a0)), some (vr (some 8)), some (vi (0 : Int32))]) ⟨rfl, rfl, rfl, trivial⟩ J56w
  have J47 : ∀ pp : Mm, pp = p46 → Run l G M_X2_init 1 99 [some (vr (some a0)), some (vr (some 8)), none] [] (sRs (nwS (sRs (nwS (sRs (nwS (sRs (nwS (sRs (nwS (sRs (nwS (sRs (nwS (sRs (nwS S 20 6 6) a0 0 (some S.1)) 20 6 6) a0 1 (some (S.1 + 1))) 20 6 6) a0 2 (some (S.1 + 2))) 20 8 8) a0 3 (some (S.1 + 3))) 20 8 8) a0 4 (some (S.1 + 4))) 20 12 12) a0 5 (some (S.1 + 5))) 20 12 12) a0 6 (some (S.1 + 6))) 20 12 12) a0 7 (some (S.1 + 7))) pp (none) q.1 q.2 := by
    intro pp hpp
    rw [hpp]
    exact J47a
  have J47w : Run l G M_X2_init 1 80 [some (vr (some a0)), some (vr (some 8)), some (vi (0 : Int32))] [] (sRs (nwS (sRs (nwS (sRs (nwS (sRs (nwS (sRs (nwS (sRs (nwS (sRs (nwS (sRs (nwS S 20 6 6) a0 0 (some S.1)) 20 6 6) a0 1 (some (S.1 + 1))) 20 6 6) a0 2 (some (S.1 + 2))) 20 8 8) a0 3 (some (S.1 + 3))) 20 8 8) a0 4 (some (S.1 + 4))) 20 12 12) a0 5 (some (S.1 + 5))) 20 12 12) a0 6 (some (S.1 + 6))) 20 12 12) a0 7 (some (S.1 + 7))) (sI (sI (nwM (sRs (nwS (sRs (nwS (sRs (nwS (sRs (nwS (sRs (nwS (sRs (nwS (sRs (nwS S 20 6 6) a0 0 (some S.1)) 20 6 6) a0 1 (some (S.1 + 1))) 20 6 6) a0 2 (some (S.1 + 2))) 20 8 8) a0 3 (some (S.1 + 3))) 20 8 8) a0 4 (some (S.1 + 4))) 20 12 12) a0 5 (some (S.1 + 5))) 20 12 12) a0 6 (some (S.1 + 6))) (nwM (sRs (nwS (sRs (nwS (sRs (nwS (sRs (nwS (sRs (nwS (sRs (nwS S 20 6 6) a0 0 (some S.1)) 20 6 6) a0 1 (some (S.1 + 1))) 20 6 6) a0 2 (some (S.1 + 2))) 20 8 8) a0 3 (some (S.1 + 3))) 20 8 8) a0 4 (some (S.1 + 4))) 20 12 12) a0 5 (some (S.1 + 5))) (nwM (sRs (nwS (sRs (nwS (sRs (nwS (sRs (nwS (sRs (nwS S 20 6 6) a0 0 (some S.1)) 20 6 6) a0 1 (some (S.1 + 1))) 20 6 6) a0 2 (some (S.1 + 2))) 20 8 8) a0 3 (some (S.1 + 3))) 20 8 8) a0 4 (some (S.1 + 4))) (nwM (sRs (nwS (sRs (nwS (sRs (nwS (sRs (nwS S 20 6 6) a0 0 (some S.1)) 20 6 6) a0 1 (some (S.1 + 1))) 20 6 6) a0 2 (some (S.1 + 2))) 20 8 8) a0 3 (some (S.1 + 3))) (nwM (sRs (nwS (sRs (nwS (sRs (nwS S 20 6 6) a0 0 (some S.1)) 20 6 6) a0 1 (some (S.1 + 1))) 20 6 6) a0 2 (some (S.1 + 2))) (nwM (sRs (nwS (sRs (nwS S 20 6 6) a0 0 (some S.1)) 20 6 6) a0 1 (some (S.1 + 1))) (nwM (sRs (nwS S 20 6 6) a0 0 (some S.1)) (nwM S mm)))))))) a0 8 (0 : Int32)) a0 9 (0 : Int32)) (none) q.1 q.2 := by
    refine while_run (s := ((0 : Int32), (sI (sI (nwM (sRs (nwS (sRs (nwS (sRs (nwS (sRs (nwS (sRs (nwS (sRs (nwS (sRs (nwS S 20 6 6) a0 0 (some S.1)) 20 6 6) a0 1 (some (S.1 + 1))) 20 6 6) a0 2 (some (S.1 + 2))) 20 8 8) a0 3 (some (S.1 + 3))) 20 8 8) a0 4 (some (S.1 + 4))) 20 12 12) a0 5 (some (S.1 + 5))) 20 12 12) a0 6 (some (S.1 + 6))) (nwM (sRs (nwS (sRs (nwS (sRs (nwS (sRs (nwS (sRs (nwS (sRs (nwS S 20 6 6) a0 0 (some S.1)) 20 6 6) a0 1 (some (S.1 + 1))) 20 6 6) a0 2 (some (S.1 + 2))) 20 8 8) a0 3 (some (S.1 + 3))) 20 8 8) a0 4 (some (S.1 + 4))) 20 12 12) a0 5 (some (S.1 + 5))) (nwM (sRs (nwS (sRs (nwS (sRs (nwS (sRs (nwS (sRs (nwS S 20 6 6) a0 0 (some S.1)) 20 6 6) a0 1 (some (S.1 + 1))) 20 6 6) a0 2 (some (S.1 + 2))) 20 8 8) a0 3 (some (S.1 + 3))) 20 8 8) a0 4 (some (S.1 + 4))) (nwM (sRs (nwS (sRs (nwS (sRs (nwS (sRs (nwS S 20 6 6) a0 0 (some S.1)) 20 6 6) a0 1 (some (S.1 + 1))) 20 6 6) a0 2 (some (S.1 + 2))) 20 8 8) a0 3 (some (S.1 + 3))) (nwM (sRs (nwS (sRs (nwS (sRs (nwS S 20 6 6) a0 0 (some S.1)) 20 6 6) a0 1 (some (S.1 + 1))) 20 6 6) a0 2 (some (S.1 + 2))) (nwM (sRs (nwS (sRs (nwS S 20 6 6) a0 0 (some S.1)) 20 6 6) a0 1 (some (S.1 + 1))) (nwM (sRs (nwS S 20 6 6) a0 0 (some S.1)) (nwM S mm)))))))) a0 8 (0 : Int32)) a0 9 (0 : Int32)))) (Gs := fun (z45 : Int32 × Mm) => Run l G M_X2_init 1 80 [some (vr (some a0)), some (vr (some 8)), some (vi z45.1)] [] (sRs (nwS (sRs (nwS (sRs (nwS (sRs (nwS (sRs (nwS (sRs (nwS (sRs (nwS (sRs (nwS S 20 6 6) a0 0 (some S.1)) 20 6 6) a0 1 (some (S.1 + 1))) 20 6 6) a0 2 (some (S.1 + 2))) 20 8 8) a0 3 (some (S.1 + 3))) 20 8 8) a0 4 (some (S.1 + 4))) 20 12 12) a0 5 (some (S.1 + 5))) 20 12 12) a0 6 (some (S.1 + 6))) 20 12 12) a0 7 (some (S.1 + 7))) z45.2 (none) q.1 q.2) eb50w ?_
    intro z45 x48y eb50 hx49
    unfold m_X2_init_b80 at eb50
    refine r_iload_n dX2_init_80 rfl ?_
    refine r_bipush (v := 8) dX2_init_81 cb_8 ?_
    refine r_icmp_ge (tgt := 99) dX2_init_83 rfl (fun h51 => ?_) (fun h51 => ?_)
    · replace eb50 := ite_t h51 eb50
      cases eb50
      exact r_weak (L' := [some (vr (some a0)), some (vr (some 8)), none]) ⟨rfl, rfl, trivial⟩ (J47 _ hx49)
    · replace eb50 := ite_f h51 eb50
      refine r_aload_n dX2_init_86 rfl ?_
      obtain ⟨hr52, eb50⟩ := gR_some eb50
      refine r_getR dX2_init_87 fl_X2_21 rfl hn36.1 hn36.2 hr52 ?_
      refine r_iload_n dX2_init_90 rfl ?_
      refine r_iconst (v := 5) dX2_init_91 ci_5 ?_
      obtain ⟨hg53, eb50⟩ := grd_some eb50
      refine r_iast dX2_init_92 hn40.1 hn40.2 hg53 ?_
      refine r_iinc (v := _ + (1 : Int32)) dX2_init_93 rfl (congrArg (_ + ·) ci_1) (by decide) rfl ?_
      refine r_goto (tgt := 80) dX2_init_96 rfl ?_
      cases eb50
      exact r_weak (L' := [some (vr (some a0)), some (vr (some 8)), some (vi (z45.1 + (1 : Int32)))]) ⟨rfl, rfl, rfl, trivial⟩ hx49
  exact r_weak (L' := [some (vr (some a0)), some (vr (some 8)), some (vi (0 : Int32))]) ⟨rfl, rfl, rfl, trivial⟩ J47w
noncomputable def m_X2_fillKeepableOf_b26 (a1 : Nat) (a2 : Int32) (a0 : Nat) (S : Sk) (z1 : Int32 × Mm) (z8 : Int32 × Mm) : Option ((Int32 × Mm) ⊕ (Mm)) := if (xshl (1 : Int32) z1.1) ≤ z8.1 then (some (.inr z8.2)) else (grd ((a2 * (256 : Int32)) + z8.1) ((sK S a1).2) (grd z1.1 8 (grd (((a2 * (256 : Int32)) - (256 : Int32)) + (z8.1 &&& ((mI z8.2 (a0 + 1 + 4) (ix z1.1)) ^^^ (-1 : Int32)))) ((sK S a1).2) (grd ((a2 * (256 : Int32)) + (z8.1 ||| (xshl (1 : Int32) z1.1))) ((sK S a1).2) (some (.inl (z8.1 + (1 : Int32), (sI z8.2 a1 (ix ((a2 * (256 : Int32)) + (z8.1 ||| (xshl (1 : Int32) z1.1)))) (if (if (m_J6_bitCount_0f7a4 ((mI z8.2 a1 (ix (((a2 * (256 : Int32)) - (256 : Int32)) + (z8.1 &&& ((mI z8.2 (a0 + 1 + 4) (ix z1.1)) ^^^ (-1 : Int32)))))) ||| (xshl (1 : Int32) z1.1))) ≤ (m_J6_bitCount_0f7a4 (mI z8.2 a1 (ix ((a2 * (256 : Int32)) + z8.1)))) then (0 : Int32) else (1 : Int32)) = 0 then mI z8.2 a1 (ix ((a2 * (256 : Int32)) + z8.1)) else (mI z8.2 a1 (ix (((a2 * (256 : Int32)) - (256 : Int32)) + (z8.1 &&& ((mI z8.2 (a0 + 1 + 4) (ix z1.1)) ^^^ (-1 : Int32)))))) ||| (xshl (1 : Int32) z1.1))))))))))
noncomputable def m_X2_fillKeepableOf_b16 (a1 : Nat) (a2 : Int32) (a0 : Nat) (S : Sk) (z1 : Int32 × Mm) : Option ((Int32 × Mm) ⊕ (Mm)) := if (8 : Int32) ≤ z1.1 then (some (.inr z1.2)) else ((whileF FU (m_X2_fillKeepableOf_b26 a1 a2 a0 S z1) ((0 : Int32), z1.2)).bind (fun p9 => some (.inl (z1.1 + (1 : Int32), p9))))
noncomputable def m_X2_fillKeepableOf (S : Sk) (a0 : Nat) (a1 : Nat) (a2 : Int32) (mm : Mm) : Option (Mm) := (whileF FU (m_X2_fillKeepableOf_b16 a1 a2 a0 S) ((0 : Int32), mm)).bind (fun p2 => some p2)
set_option maxHeartbeats 4000000 in
set_option maxRecDepth 100000 in
theorem c_X2_fillKeepableOf {l : Launch} {G : Gt} {S : Sk} {a0 : Nat} {a1 : Nat} {a2 : Int32} {mm : Mm} (hI : SI S) (ha0 : KD S a0 2) (ha1 : KD S a1 20) {q : Mm} (e : m_X2_fillKeepableOf S a0 a1 a2 mm = some q) : CallOK l G M_X2_fillKeepableOf yX2_fillKeepableOf 1 [vr (some a0), vr (some a1), vi a2] S mm (none) S q := by
  have hS := hI.1
  refine call_of_run rfl rfl rfl (Nat.le_of_ble_eq_true rfl) ?_
  show Run l G M_X2_fillKeepableOf 1 0 [some (vr (some a0)), some (vr (some a1)), some (vi a2), none, none, none, none, none, none, none] [] S mm (none) S q
  unfold m_X2_fillKeepableOf at e
  refine r_iload_n dX2_fillKeepableOf_0 rfl ?_
  refine r_sipush (v := 256) dX2_fillKeepableOf_1 cs_256 ?_
  refine r_imul dX2_fillKeepableOf_4 ?_
  refine r_istore_n dX2_fillKeepableOf_5 (by decide) rfl ?_
  refine r_iload_n dX2_fillKeepableOf_6 rfl ?_
  refine r_sipush (v := 256) dX2_fillKeepableOf_7 cs_256 ?_
  refine r_isub dX2_fillKeepableOf_10 ?_
  refine r_istore dX2_fillKeepableOf_11 (by decide) rfl ?_
  refine r_iconst (v := 0) dX2_fillKeepableOf_13 ci_0 ?_
  refine r_istore dX2_fillKeepableOf_14 (by decide) rfl ?_
  obtain ⟨p2, eb6w, e⟩ := obind e
  have J3a : Run l G M_X2_fillKeepableOf 1 122 [none, none, none, none, none, none, none, none, none, none] [] S p2 (none) S q := by
    cases e
    exact r_return dX2_fillKeepableOf_122 rfl
  have J3 : ∀ pp : Mm, pp = p2 → Run l G M_X2_fillKeepableOf 1 122 [none, none, none, none, none, none, none, none, none, none] [] S pp (none) S q := by
    intro pp hpp
    rw [hpp]
    exact J3a
  have J3w : Run l G M_X2_fillKeepableOf 1 16 [some (vr (some a0)), some (vr (some a1)), none, some (vi (a2 * (256 : Int32))), some (vi ((a2 * (256 : Int32)) - (256 : Int32))), some (vi (0 : Int32)), none, none, none, none] [] S mm (none) S q := by
    refine while_run (s := ((0 : Int32), mm)) (Gs := fun (z1 : Int32 × Mm) => Run l G M_X2_fillKeepableOf 1 16 [some (vr (some a0)), some (vr (some a1)), none, some (vi (a2 * (256 : Int32))), some (vi ((a2 * (256 : Int32)) - (256 : Int32))), some (vi z1.1), none, none, none, none] [] S z1.2 (none) S q) eb6w ?_
    intro z1 x4y eb6 hx5
    unfold m_X2_fillKeepableOf_b16 at eb6
    refine r_iload dX2_fillKeepableOf_16 rfl ?_
    refine r_bipush (v := 8) dX2_fillKeepableOf_18 cb_8 ?_
    refine r_icmp_ge (tgt := 122) dX2_fillKeepableOf_20 rfl (fun h7 => ?_) (fun h7 => ?_)
    · replace eb6 := ite_t h7 eb6
      cases eb6
      exact r_weak (L' := [none, none, none, none, none, none, none, none, none, none]) trivial (J3 _ hx5)
    · replace eb6 := ite_f h7 eb6
      refine r_iconst (v := 0) dX2_fillKeepableOf_23 ci_0 ?_
      refine r_istore dX2_fillKeepableOf_24 (by decide) rfl ?_
      obtain ⟨p9, eb13w, eb6⟩ := obind eb6
      have J10a : Run l G M_X2_fillKeepableOf 1 116 [some (vr (some a0)), some (vr (some a1)), none, some (vi (a2 * (256 : Int32))), some (vi ((a2 * (256 : Int32)) - (256 : Int32))), some (vi z1.1), none, none, none, none] [] S p9 (none) S q := by
        refine r_iinc (v := _ + (1 : Int32)) dX2_fillKeepableOf_116 rfl (congrArg (_ + ·) ci_1) (by decide) rfl ?_
        refine r_goto (tgt := 16) dX2_fillKeepableOf_119 rfl ?_
        cases eb6
        exact r_weak (L' := [some (vr (some a0)), some (vr (some a1)), none, some (vi (a2 * (256 : Int32))), some (vi ((a2 * (256 : Int32)) - (256 : Int32))), some (vi (z1.1 + (1 : Int32))), none, none, none, none]) ⟨rfl, rfl, rfl, rfl, rfl, trivial⟩ hx5
      have J10 : ∀ pp : Mm, pp = p9 → Run l G M_X2_fillKeepableOf 1 116 [some (vr (some a0)), some (vr (some a1)), none, some (vi (a2 * (256 : Int32))), some (vi ((a2 * (256 : Int32)) - (256 : Int32))), some (vi z1.1), none, none, none, none] [] S pp (none) S q := by
        intro pp hpp
        rw [hpp]
        exact J10a
      have J10w : Run l G M_X2_fillKeepableOf 1 26 [some (vr (some a0)), some (vr (some a1)), none, some (vi (a2 * (256 : Int32))), some (vi ((a2 * (256 : Int32)) - (256 : Int32))), some (vi z1.1), some (vi (0 : Int32)), none, none, none] [] S z1.2 (none) S q := by
        refine while_run (s := ((0 : Int32), z1.2)) (Gs := fun (z8 : Int32 × Mm) => Run l G M_X2_fillKeepableOf 1 26 [some (vr (some a0)), some (vr (some a1)), none, some (vi (a2 * (256 : Int32))), some (vi ((a2 * (256 : Int32)) - (256 : Int32))), some (vi z1.1), some (vi z8.1), none, none, none] [] S z8.2 (none) S q) eb13w ?_
        intro z8 x11y eb13 hx12
        unfold m_X2_fillKeepableOf_b26 at eb13
        refine r_iload dX2_fillKeepableOf_26 rfl ?_
        refine r_iconst (v := 1) dX2_fillKeepableOf_28 ci_1 ?_
        refine r_iload dX2_fillKeepableOf_29 rfl ?_
        refine r_ishl dX2_fillKeepableOf_31 ?_
        refine r_icmp_ge (tgt := 116) dX2_fillKeepableOf_32 rfl (fun h14 => ?_) (fun h14 => ?_)
        · replace eb13 := ite_t h14 eb13
          cases eb13
          exact r_weak (L' := [some (vr (some a0)), some (vr (some a1)), none, some (vi (a2 * (256 : Int32))), some (vi ((a2 * (256 : Int32)) - (256 : Int32))), some (vi z1.1), none, none, none, none]) ⟨rfl, rfl, rfl, rfl, rfl, trivial⟩ (J10 _ hx12)
        · replace eb13 := ite_f h14 eb13
          refine r_aload_n dX2_fillKeepableOf_35 rfl ?_
          refine r_iload_n dX2_fillKeepableOf_36 rfl ?_
          refine r_iload dX2_fillKeepableOf_37 rfl ?_
          refine r_iadd dX2_fillKeepableOf_39 ?_
          obtain ⟨hg15, eb13⟩ := grd_some eb13
          refine r_iald dX2_fillKeepableOf_40 ha1.1 (arr_k ha1) hg15 ?_
          refine r_istore dX2_fillKeepableOf_41 (by decide) rfl ?_
          refine r_aload_n dX2_fillKeepableOf_43 rfl ?_
          refine r_iload dX2_fillKeepableOf_44 rfl ?_
          refine r_iload dX2_fillKeepableOf_46 rfl ?_
          refine r_aload_n dX2_fillKeepableOf_48 rfl ?_
          refine r_getR dX2_fillKeepableOf_49 fl_X2_24 rfl ha0.1 ha0.2 (hI.2.1 a0 ha0 4 (by decide)).1 ?_
          refine r_iload dX2_fillKeepableOf_52 rfl ?_
          obtain ⟨hg16, eb13⟩ := grd_some eb13
          refine r_iald dX2_fillKeepableOf_54 (hI.2.1 a0 ha0 4 (by decide)).2.1 (hI.2.1 a0 ha0 4 (by decide)).2.2 hg16 ?_
          refine r_iconst (v := -1) dX2_fillKeepableOf_55 ci_m1 ?_
          refine r_ixor dX2_fillKeepableOf_56 ?_
          refine r_iand dX2_fillKeepableOf_57 ?_
          refine r_iadd dX2_fillKeepableOf_58 ?_
          obtain ⟨hg17, eb13⟩ := grd_some eb13
          refine r_iald dX2_fillKeepableOf_59 ha1.1 (arr_k ha1) hg17 ?_
          refine r_iconst (v := 1) dX2_fillKeepableOf_60 ci_1 ?_
          refine r_iload dX2_fillKeepableOf_61 rfl ?_
          refine r_ishl dX2_fillKeepableOf_63 ?_
          refine r_ior dX2_fillKeepableOf_64 ?_
          refine r_istore dX2_fillKeepableOf_65 (by decide) rfl ?_
          refine r_iload dX2_fillKeepableOf_67 rfl ?_
          refine r_callS (as := [_]) (rest := []) dX2_fillKeepableOf_69 ml_X2_60 yS_J6_bitCount_0f7a4 (c_J6_bitCount_0f7a4) (by decide) rfl (Nat.le_of_ble_eq_true rfl) ?_
          refine r_iload dX2_fillKeepableOf_72 rfl ?_
          refine r_callS (as := [_]) (rest := [_]) dX2_fillKeepableOf_74 ml_X2_60 yS_J6_bitCount_0f7a4 (c_J6_bitCount_0f7a4) (by decide) rfl (Nat.le_of_ble_eq_true rfl) ?_
          have J20 : ∀ (w19 : Int32), w19 = (if (m_J6_bitCount_0f7a4 ((mI z8.2 a1 (ix (((a2 * (256 : Int32)) - (256 : Int32)) + (z8.1 &&& ((mI z8.2 (a0 + 1 + 4) (ix z1.1)) ^^^ (-1 : Int32)))))) ||| (xshl (1 : Int32) z1.1))) ≤ (m_J6_bitCount_0f7a4 (mI z8.2 a1 (ix ((a2 * (256 : Int32)) + z8.1)))) then (0 : Int32) else (1 : Int32)) → Run l G M_X2_fillKeepableOf 1 85 [some (vr (some a0)), some (vr (some a1)), none, some (vi (a2 * (256 : Int32))), some (vi ((a2 * (256 : Int32)) - (256 : Int32))), some (vi z1.1), some (vi z8.1), some (vi (mI z8.2 a1 (ix ((a2 * (256 : Int32)) + z8.1)))), some (vi ((mI z8.2 a1 (ix (((a2 * (256 : Int32)) - (256 : Int32)) + (z8.1 &&& ((mI z8.2 (a0 + 1 + 4) (ix z1.1)) ^^^ (-1 : Int32)))))) ||| (xshl (1 : Int32) z1.1))), none] [vi w19] S z8.2 (none) S q := by
            intro w19 hw26
            subst hw26
            refine r_istore dX2_fillKeepableOf_85 (by decide) rfl ?_
            refine r_aload_n dX2_fillKeepableOf_87 rfl ?_
            refine r_iload_n dX2_fillKeepableOf_88 rfl ?_
            refine r_iload dX2_fillKeepableOf_89 rfl ?_
            refine r_iconst (v := 1) dX2_fillKeepableOf_91 ci_1 ?_
            refine r_iload dX2_fillKeepableOf_92 rfl ?_
            refine r_ishl dX2_fillKeepableOf_94 ?_
            refine r_ior dX2_fillKeepableOf_95 ?_
            refine r_iadd dX2_fillKeepableOf_96 ?_
            refine r_iload dX2_fillKeepableOf_97 rfl ?_
            have J23 : ∀ (w22 : Int32), w22 = (if (if (m_J6_bitCount_0f7a4 ((mI z8.2 a1 (ix (((a2 * (256 : Int32)) - (256 : Int32)) + (z8.1 &&& ((mI z8.2 (a0 + 1 + 4) (ix z1.1)) ^^^ (-1 : Int32)))))) ||| (xshl (1 : Int32) z1.1))) ≤ (m_J6_bitCount_0f7a4 (mI z8.2 a1 (ix ((a2 * (256 : Int32)) + z8.1)))) then (0 : Int32) else (1 : Int32)) = 0 then mI z8.2 a1 (ix ((a2 * (256 : Int32)) + z8.1)) else (mI z8.2 a1 (ix (((a2 * (256 : Int32)) - (256 : Int32)) + (z8.1 &&& ((mI z8.2 (a0 + 1 + 4) (ix z1.1)) ^^^ (-1 : Int32)))))) ||| (xshl (1 : Int32) z1.1)) → Run l G M_X2_fillKeepableOf 1 109 [some (vr (some a0)), some (vr (some a1)), none, some (vi (a2 * (256 : Int32))), some (vi ((a2 * (256 : Int32)) - (256 : Int32))), some (vi z1.1), some (vi z8.1), none, none, none] [vi w22, vi ((a2 * (256 : Int32)) + (z8.1 ||| (xshl (1 : Int32) z1.1))), vr (some a1)] S z8.2 (none) S q := by
              intro w22 hw25
              subst hw25
              obtain ⟨hg24, eb13⟩ := grd_some eb13
              refine r_iast dX2_fillKeepableOf_109 ha1.1 (arr_k ha1) hg24 ?_
              refine r_iinc (v := _ + (1 : Int32)) dX2_fillKeepableOf_110 rfl (congrArg (_ + ·) ci_1) (by decide) rfl ?_
              refine r_goto (tgt := 26) dX2_fillKeepableOf_113 rfl ?_
              cases eb13
              exact r_weak (L' := [some (vr (some a0)), some (vr (some a1)), none, some (vi (a2 * (256 : Int32))), some (vi ((a2 * (256 : Int32)) - (256 : Int32))), some (vi z1.1), some (vi (z8.1 + (1 : Int32))), none, none, none]) ⟨rfl, rfl, rfl, rfl, rfl, rfl, trivial⟩ hx12
            refine r_if_eq (tgt := 107) dX2_fillKeepableOf_99 rfl (fun h21 => ?_) (fun h21 => ?_)
            · refine r_iload dX2_fillKeepableOf_107 rfl ?_
              exact r_weak (L' := [some (vr (some a0)), some (vr (some a1)), none, some (vi (a2 * (256 : Int32))), some (vi ((a2 * (256 : Int32)) - (256 : Int32))), some (vi z1.1), some (vi z8.1), none, none, none]) ⟨rfl, rfl, rfl, rfl, rfl, rfl, trivial⟩ (J23 _ (Eq.symm (if_pos h21)))
            · refine r_iload dX2_fillKeepableOf_102 rfl ?_
              refine r_goto (tgt := 109) dX2_fillKeepableOf_104 rfl ?_
              exact r_weak (L' := [some (vr (some a0)), some (vr (some a1)), none, some (vi (a2 * (256 : Int32))), some (vi ((a2 * (256 : Int32)) - (256 : Int32))), some (vi z1.1), some (vi z8.1), none, none, none]) ⟨rfl, rfl, rfl, rfl, rfl, rfl, trivial⟩ (J23 _ (Eq.symm (if_neg h21)))
          refine r_icmp_le (tgt := 84) dX2_fillKeepableOf_77 rfl (fun h18 => ?_) (fun h18 => ?_)
          · refine r_iconst (v := 0) dX2_fillKeepableOf_84 ci_0 ?_
            exact r_weak (L' := [some (vr (some a0)), some (vr (some a1)), none, some (vi (a2 * (256 : Int32))), some (vi ((a2 * (256 : Int32)) - (256 : Int32))), some (vi z1.1), some (vi z8.1), some (vi (mI z8.2 a1 (ix ((a2 * (256 : Int32)) + z8.1)))), some (vi ((mI z8.2 a1 (ix (((a2 * (256 : Int32)) - (256 : Int32)) + (z8.1 &&& ((mI z8.2 (a0 + 1 + 4) (ix z1.1)) ^^^ (-1 : Int32)))))) ||| (xshl (1 : Int32) z1.1))), none]) ⟨rfl, rfl, rfl, rfl, rfl, rfl, rfl, rfl, trivial⟩ (J20 _ (Eq.symm (if_pos h18)))
          · refine r_iconst (v := 1) dX2_fillKeepableOf_80 ci_1 ?_
            refine r_goto (tgt := 85) dX2_fillKeepableOf_81 rfl ?_
            exact r_weak (L' := [some (vr (some a0)), some (vr (some a1)), none, some (vi (a2 * (256 : Int32))), some (vi ((a2 * (256 : Int32)) - (256 : Int32))), some (vi z1.1), some (vi z8.1), some (vi (mI z8.2 a1 (ix ((a2 * (256 : Int32)) + z8.1)))), some (vi ((mI z8.2 a1 (ix (((a2 * (256 : Int32)) - (256 : Int32)) + (z8.1 &&& ((mI z8.2 (a0 + 1 + 4) (ix z1.1)) ^^^ (-1 : Int32)))))) ||| (xshl (1 : Int32) z1.1))), none]) ⟨rfl, rfl, rfl, rfl, rfl, rfl, rfl, rfl, trivial⟩ (J20 _ (Eq.symm (if_neg h18)))
      exact r_weak (L' := [some (vr (some a0)), some (vr (some a1)), none, some (vi (a2 * (256 : Int32))), some (vi ((a2 * (256 : Int32)) - (256 : Int32))), some (vi z1.1), some (vi (0 : Int32)), none, none, none]) ⟨rfl, rfl, rfl, rfl, rfl, rfl, trivial⟩ J10w
  exact r_weak (L' := [some (vr (some a0)), some (vr (some a1)), none, some (vi (a2 * (256 : Int32))), some (vi ((a2 * (256 : Int32)) - (256 : Int32))), some (vi (0 : Int32)), none, none, none, none]) ⟨rfl, rfl, rfl, rfl, rfl, trivial⟩ J3w
noncomputable def m_X2_fillKeepable_b2 (a1 : Nat) (a0 : Nat) (S : Sk) (z1 : Int32 × Mm) : Option ((Int32 × Mm) ⊕ (Mm)) := if (4 : Int32) < z1.1 then (some (.inr z1.2)) else (if (Int32.ofNat ((sK S a1).2)) < ((z1.1 + (1 : Int32)) * (256 : Int32)) then (some (.inr z1.2)) else ((m_X2_fillKeepableOf S a0 a1 z1.1 z1.2).bind (fun q9 => some (.inl (z1.1 + (1 : Int32), q9)))))
noncomputable def m_X2_fillKeepable (S : Sk) (a0 : Nat) (a1 : Nat) (mm : Mm) : Option (Mm) := (whileF FU (m_X2_fillKeepable_b2 a1 a0 S) ((1 : Int32), mm)).bind (fun p2 => some p2)
set_option maxHeartbeats 4000000 in
set_option maxRecDepth 100000 in
theorem c_X2_fillKeepable {l : Launch} {G : Gt} {S : Sk} {a0 : Nat} {a1 : Nat} {mm : Mm} (hI : SI S) (ha0 : KD S a0 2) (ha1 : KD S a1 20) {q : Mm} (e : m_X2_fillKeepable S a0 a1 mm = some q) : CallOK l G M_X2_fillKeepable yX2_fillKeepable 2 [vr (some a0), vr (some a1)] S mm (none) S q := by
  have hS := hI.1
  refine call_of_run rfl rfl rfl (Nat.le_of_ble_eq_true rfl) ?_
  show Run l G M_X2_fillKeepable 2 0 [some (vr (some a0)), some (vr (some a1)), none] [] S mm (none) S q
  unfold m_X2_fillKeepable at e
  refine r_iconst (v := 1) dX2_fillKeepable_0 ci_1 ?_
  refine r_istore_n dX2_fillKeepable_1 (by decide) rfl ?_
  obtain ⟨p2, eb6w, e⟩ := obind e
  have J3a : Run l G M_X2_fillKeepable 2 31 [none, none, none] [] S p2 (none) S q := by
    cases e
    exact r_return dX2_fillKeepable_31 rfl
  have J3 : ∀ pp : Mm, pp = p2 → Run l G M_X2_fillKeepable 2 31 [none, none, none] [] S pp (none) S q := by
    intro pp hpp
    rw [hpp]
    exact J3a
  have J3w : Run l G M_X2_fillKeepable 2 2 [some (vr (some a0)), some (vr (some a1)), some (vi (1 : Int32))] [] S mm (none) S q := by
    refine while_run (s := ((1 : Int32), mm)) (Gs := fun (z1 : Int32 × Mm) => Run l G M_X2_fillKeepable 2 2 [some (vr (some a0)), some (vr (some a1)), some (vi z1.1)] [] S z1.2 (none) S q) eb6w ?_
    intro z1 x4y eb6 hx5
    unfold m_X2_fillKeepable_b2 at eb6
    refine r_iload_n dX2_fillKeepable_2 rfl ?_
    refine r_iconst (v := 4) dX2_fillKeepable_3 ci_4 ?_
    refine r_icmp_gt (tgt := 31) dX2_fillKeepable_4 rfl (fun h7 => ?_) (fun h7 => ?_)
    · replace eb6 := ite_t h7 eb6
      cases eb6
      exact r_weak (L' := [none, none, none]) trivial (J3 _ hx5)
    · replace eb6 := ite_f h7 eb6
      refine r_iload_n dX2_fillKeepable_7 rfl ?_
      refine r_iconst (v := 1) dX2_fillKeepable_8 ci_1 ?_
      refine r_iadd dX2_fillKeepable_9 ?_
      refine r_sipush (v := 256) dX2_fillKeepable_10 cs_256 ?_
      refine r_imul dX2_fillKeepable_13 ?_
      refine r_aload_n dX2_fillKeepable_14 rfl ?_
      refine r_alen dX2_fillKeepable_15 ha1.1 (arr_k ha1) (by decide) (by decide) rfl ?_
      refine r_icmp_gt (tgt := 31) dX2_fillKeepable_16 rfl (fun h8 => ?_) (fun h8 => ?_)
      · replace eb6 := ite_t h8 eb6
        cases eb6
        exact r_weak (L' := [none, none, none]) trivial (J3 _ hx5)
      · replace eb6 := ite_f h8 eb6
        refine r_aload_n dX2_fillKeepable_19 rfl ?_
        refine r_aload_n dX2_fillKeepable_20 rfl ?_
        refine r_iload_n dX2_fillKeepable_21 rfl ?_
        obtain ⟨q9, eq10, eb6⟩ := obind eb6
        refine r_callV (as := [_, _]) (rest := []) dX2_fillKeepable_22 ml_X2_56 yV_X2_fillKeepableOf (c_X2_fillKeepableOf hI ha0 ha1 eq10) (by decide) rfl ha0.1 ha0.2 (Nat.le_of_ble_eq_true rfl) ?_
        refine r_iinc (v := _ + (1 : Int32)) dX2_fillKeepable_25 rfl (congrArg (_ + ·) ci_1) (by decide) rfl ?_
        refine r_goto (tgt := 2) dX2_fillKeepable_28 rfl ?_
        cases eb6
        exact r_weak (L' := [some (vr (some a0)), some (vr (some a1)), some (vi (z1.1 + (1 : Int32)))]) ⟨rfl, rfl, rfl, trivial⟩ hx5
  exact r_weak (L' := [some (vr (some a0)), some (vr (some a1)), some (vi (1 : Int32))]) ⟨rfl, rfl, rfl, trivial⟩ J3w
noncomputable def m_X2_isPeaceful_b2 (a1 : Int32) (a0 : Nat) (mm : Mm) (z1 : Int32) : Option ((Int32) ⊕ ((Unit) ⊕ (Int32))) := if (8 : Int32) ≤ z1 then (some (.inr (.inl ()))) else (bS (if (m_X11_has a1 z1) = 0 then (some (.inl ())) else (grd z1 8 (if (a1 &&& (mI mm (a0 + 1 + 4) (ix z1))) = 0 then (some (.inl ())) else (some (.inr (.inr (.inr (0 : Int32))))))) : Option ((Unit) ⊕ ((Int32) ⊕ ((Unit) ⊕ (Int32))))) (fun p8 => some (.inl (z1 + (1 : Int32)))))
noncomputable def m_X2_isPeaceful (a0 : Nat) (a1 : Int32) (mm : Mm) : Option (Int32) := bS (whileF FU (m_X2_isPeaceful_b2 a1 a0 mm) (0 : Int32)) (fun p2 => some (1 : Int32))
set_option maxHeartbeats 4000000 in
set_option maxRecDepth 100000 in
theorem c_X2_isPeaceful {l : Launch} {G : Gt} {S : Sk} {a0 : Nat} {a1 : Int32} {mm : Mm} (hI : SI S) (ha0 : KD S a0 2) {q : Int32} (e : m_X2_isPeaceful a0 a1 mm = some q) : CallOK l G M_X2_isPeaceful yX2_isPeaceful 1 [vr (some a0), vi a1] S mm (some (vi q)) S mm := by
  have hS := hI.1
  refine call_of_run rfl rfl rfl (Nat.le_of_ble_eq_true rfl) ?_
  show Run l G M_X2_isPeaceful 1 0 [some (vr (some a0)), some (vi a1), none] [] S mm (some (vi q)) S mm
  unfold m_X2_isPeaceful at e
  refine r_iconst (v := 0) dX2_isPeaceful_0 ci_0 ?_
  refine r_istore_n dX2_isPeaceful_1 (by decide) rfl ?_
  obtain ⟨x4, eb6w, elx4, erx4⟩ := bS_some e
  have J3 : ∀ p2 : Unit, x4 = .inl p2 → Run l G M_X2_isPeaceful 1 35 [none, none, none] [] S mm (some (vi q)) S mm := by
    intro p2 hp2
    replace e := elx4 p2 hp2
    refine r_iconst (v := 1) dX2_isPeaceful_35 ci_1 ?_
    cases e
    exact r_ireturn dX2_isPeaceful_36 rfl (nz_b (by first | exact Or.inl rfl | exact Or.inr rfl)).1
  have J3w : Run l G M_X2_isPeaceful 1 2 [some (vr (some a0)), some (vi a1), some (vi (0 : Int32))] [] S mm (some (vi q)) S mm := by
    refine while_run (s := (0 : Int32)) (Gs := fun (z1 : Int32) => Run l G M_X2_isPeaceful 1 2 [some (vr (some a0)), some (vi a1), some (vi z1)] [] S mm (some (vi q)) S mm) eb6w ?_
    intro z1 x4y eb6 hx5
    unfold m_X2_isPeaceful_b2 at eb6
    refine r_iload_n dX2_isPeaceful_2 rfl ?_
    refine r_bipush (v := 8) dX2_isPeaceful_3 cb_8 ?_
    refine r_icmp_ge (tgt := 35) dX2_isPeaceful_5 rfl (fun h7 => ?_) (fun h7 => ?_)
    · replace eb6 := ite_t h7 eb6
      cases eb6
      exact r_weak (L' := [none, none, none]) trivial (J3 _ (Eq.symm hx5))
    · replace eb6 := ite_f h7 eb6
      refine r_iload_n dX2_isPeaceful_8 rfl ?_
      refine r_iload_n dX2_isPeaceful_9 rfl ?_
      refine r_callSN (as := [_, _]) (rest := []) dX2_isPeaceful_10 nl_X2_70 yS_X11_has (c_X11_has) (by decide) rfl (Nat.le_of_ble_eq_true rfl) ?_
      obtain ⟨x11, ep10, elx11, erx11⟩ := bS_some eb6
      have J9 : ∀ p8 : Unit, x11 = .inl p8 → Run l G M_X2_isPeaceful 1 29 [some (vr (some a0)), some (vi a1), some (vi z1)] [] S mm (some (vi q)) S mm := by
        intro p8 hp8
        replace eb6 := elx11 p8 hp8
        refine r_iinc (v := _ + (1 : Int32)) dX2_isPeaceful_29 rfl (congrArg (_ + ·) ci_1) (by decide) rfl ?_
        refine r_goto (tgt := 2) dX2_isPeaceful_32 rfl ?_
        cases eb6
        exact r_weak (L' := [some (vr (some a0)), some (vi a1), some (vi (z1 + (1 : Int32)))]) ⟨rfl, rfl, rfl, trivial⟩ hx5
      refine r_if_eq (tgt := 29) dX2_isPeaceful_13 rfl (fun h12 => ?_) (fun h12 => ?_)
      · replace ep10 := ite_t h12 ep10
        cases ep10
        exact r_weak (L' := [some (vr (some a0)), some (vi a1), some (vi z1)]) ⟨rfl, rfl, rfl, trivial⟩ (J9 _ rfl)
      · replace ep10 := ite_f h12 ep10
        refine r_iload_n dX2_isPeaceful_16 rfl ?_
        refine r_aload_n dX2_isPeaceful_17 rfl ?_
        refine r_getR dX2_isPeaceful_18 fl_X2_24 rfl ha0.1 ha0.2 (hI.2.1 a0 ha0 4 (by decide)).1 ?_
        refine r_iload_n dX2_isPeaceful_21 rfl ?_
        obtain ⟨hg13, ep10⟩ := grd_some ep10
        refine r_iald dX2_isPeaceful_22 (hI.2.1 a0 ha0 4 (by decide)).2.1 (hI.2.1 a0 ha0 4 (by decide)).2.2 hg13 ?_
        refine r_iand dX2_isPeaceful_23 ?_
        refine r_if_eq (tgt := 29) dX2_isPeaceful_24 rfl (fun h14 => ?_) (fun h14 => ?_)
        · replace ep10 := ite_t h14 ep10
          cases ep10
          exact r_weak (L' := [some (vr (some a0)), some (vi a1), some (vi z1)]) ⟨rfl, rfl, rfl, trivial⟩ (J9 _ rfl)
        · replace ep10 := ite_f h14 ep10
          refine r_iconst (v := 0) dX2_isPeaceful_27 ci_0 ?_
          cases ep10
          have eb6 := congrArg some (erx11 _ rfl)
          cases eb6
          have e := congrArg some (erx4 _ (Eq.symm hx5))
          cases e
          exact r_ireturn dX2_isPeaceful_28 rfl (nz_b (by first | exact Or.inl rfl | exact Or.inr rfl)).1
  exact r_weak (L' := [some (vr (some a0)), some (vi a1), some (vi (0 : Int32))]) ⟨rfl, rfl, rfl, trivial⟩ J3w
noncomputable def m_X2_peace_b4 (a0 : Nat) (mm : Mm) (z1 : Int32 × Int32) : Option ((Int32 × Int32) ⊕ (Int32)) := if (256 : Int32) ≤ z1.2 then (some (.inr z1.1)) else ((if (m_J6_bitCount_0f7a4 z1.2) ≤ (m_J6_bitCount_0f7a4 z1.1) then (some z1.1) else ((m_X2_isPeaceful a0 z1.2 mm).bind (fun q13 => if q13 = 0 then (some z1.1) else (some z1.2))) : Option (Int32)).bind (fun p8 => some (.inl (p8, z1.2 + (1 : Int32)))))
noncomputable def m_X2_peace (a0 : Nat) (mm : Mm) : Option (Int32) := (whileF FU (m_X2_peace_b4 a0 mm) ((0 : Int32), (1 : Int32))).bind (fun p2 => some p2)
set_option maxHeartbeats 4000000 in
set_option maxRecDepth 100000 in
theorem c_X2_peace {l : Launch} {G : Gt} {S : Sk} {a0 : Nat} {mm : Mm} (hI : SI S) (ha0 : KD S a0 2) {q : Int32} (e : m_X2_peace a0 mm = some q) : CallOK l G M_X2_peace yX2_peace 2 [vr (some a0)] S mm (some (vi q)) S mm := by
  have hS := hI.1
  refine call_of_run rfl rfl rfl (Nat.le_of_ble_eq_true rfl) ?_
  show Run l G M_X2_peace 2 0 [some (vr (some a0)), none, none] [] S mm (some (vi q)) S mm
  unfold m_X2_peace at e
  refine r_iconst (v := 0) dX2_peace_0 ci_0 ?_
  refine r_istore_n dX2_peace_1 (by decide) rfl ?_
  refine r_iconst (v := 1) dX2_peace_2 ci_1 ?_
  refine r_istore_n dX2_peace_3 (by decide) rfl ?_
  obtain ⟨p2, eb6w, e⟩ := obind e
  have J3a : Run l G M_X2_peace 2 38 [none, some (vi p2), none] [] S mm (some (vi q)) S mm := by
    refine r_iload_n dX2_peace_38 rfl ?_
    cases e
    exact r_ireturn dX2_peace_39 rfl rfl
  have J3 : ∀ pp : Int32, pp = p2 → Run l G M_X2_peace 2 38 [none, some (vi pp), none] [] S mm (some (vi q)) S mm := by
    intro pp hpp
    rw [hpp]
    exact J3a
  have J3w : Run l G M_X2_peace 2 4 [some (vr (some a0)), some (vi (0 : Int32)), some (vi (1 : Int32))] [] S mm (some (vi q)) S mm := by
    refine while_run (s := ((0 : Int32), (1 : Int32))) (Gs := fun (z1 : Int32 × Int32) => Run l G M_X2_peace 2 4 [some (vr (some a0)), some (vi z1.1), some (vi z1.2)] [] S mm (some (vi q)) S mm) eb6w ?_
    intro z1 x4y eb6 hx5
    unfold m_X2_peace_b4 at eb6
    refine r_iload_n dX2_peace_4 rfl ?_
    refine r_sipush (v := 256) dX2_peace_5 cs_256 ?_
    refine r_icmp_ge (tgt := 38) dX2_peace_8 rfl (fun h7 => ?_) (fun h7 => ?_)
    · replace eb6 := ite_t h7 eb6
      cases eb6
      exact r_weak (L' := [none, some (vi z1.1), none]) ⟨rfl, trivial⟩ (J3 _ hx5)
    · replace eb6 := ite_f h7 eb6
      refine r_iload_n dX2_peace_11 rfl ?_
      refine r_callS (as := [_]) (rest := []) dX2_peace_12 ml_X2_60 yS_J6_bitCount_0f7a4 (c_J6_bitCount_0f7a4) (by decide) rfl (Nat.le_of_ble_eq_true rfl) ?_
      refine r_iload_n dX2_peace_15 rfl ?_
      refine r_callS (as := [_]) (rest := [_]) dX2_peace_16 ml_X2_60 yS_J6_bitCount_0f7a4 (c_J6_bitCount_0f7a4) (by decide) rfl (Nat.le_of_ble_eq_true rfl) ?_
      obtain ⟨p8, ep10, eb6⟩ := obind eb6
      have J9a : Run l G M_X2_peace 2 32 [some (vr (some a0)), some (vi p8), some (vi z1.2)] [] S mm (some (vi q)) S mm := by
        refine r_iinc (v := _ + (1 : Int32)) dX2_peace_32 rfl (congrArg (_ + ·) ci_1) (by decide) rfl ?_
        refine r_goto (tgt := 4) dX2_peace_35 rfl ?_
        cases eb6
        exact r_weak (L' := [some (vr (some a0)), some (vi p8), some (vi (z1.2 + (1 : Int32)))]) ⟨rfl, rfl, rfl, trivial⟩ hx5
      have J9 : ∀ pp : Int32, pp = p8 → Run l G M_X2_peace 2 32 [some (vr (some a0)), some (vi pp), some (vi z1.2)] [] S mm (some (vi q)) S mm := by
        intro pp hpp
        rw [hpp]
        exact J9a
      refine r_icmp_le (tgt := 32) dX2_peace_19 rfl (fun h12 => ?_) (fun h12 => ?_)
      · replace ep10 := ite_t h12 ep10
        exact r_weak (L' := [some (vr (some a0)), some (vi z1.1), some (vi z1.2)]) ⟨rfl, rfl, rfl, trivial⟩ (J9 _ (Option.some.inj ep10))
      · replace ep10 := ite_f h12 ep10
        refine r_aload_n dX2_peace_22 rfl ?_
        refine r_iload_n dX2_peace_23 rfl ?_
        obtain ⟨q13, eq14, ep10⟩ := obind ep10
        refine r_callV (as := [_]) (rest := []) dX2_peace_24 ml_X2_66 yV_X2_isPeaceful (c_X2_isPeaceful hI ha0 eq14) (by decide) rfl ha0.1 ha0.2 (Nat.le_of_ble_eq_true rfl) ?_
        refine r_if_eq (tgt := 32) dX2_peace_27 rfl (fun h15 => ?_) (fun h15 => ?_)
        · replace ep10 := ite_t h15 ep10
          exact r_weak (L' := [some (vr (some a0)), some (vi z1.1), some (vi z1.2)]) ⟨rfl, rfl, rfl, trivial⟩ (J9 _ (Option.some.inj ep10))
        · replace ep10 := ite_f h15 ep10
          refine r_iload_n dX2_peace_30 rfl ?_
          refine r_istore_n dX2_peace_31 (by decide) rfl ?_
          exact r_weak (L' := [some (vr (some a0)), some (vi z1.2), some (vi z1.2)]) ⟨rfl, rfl, rfl, trivial⟩ (J9 _ (Option.some.inj ep10))
  exact r_weak (L' := [some (vr (some a0)), some (vi (0 : Int32)), some (vi (1 : Int32))]) ⟨rfl, rfl, rfl, trivial⟩ J3w
noncomputable def m_X2_tellOne (a0 : Nat) (a1 : Int32) (a2 : Int32) (mm : Mm) : Option (Int32) := if a2 < (mI mm a0 8) then (if a1 = (1 : Int32) then (grd a2 6 (some (mI mm (a0 + 1 + 0) (ix a2)))) else (if a1 = (2 : Int32) then (grd a2 6 (some (mI mm (a0 + 1 + 1) (ix a2)))) else (grd a2 6 (some (mI mm (a0 + 1 + 2) (ix a2)))))) else (some (-1 : Int32))
set_option maxHeartbeats 4000000 in
set_option maxRecDepth 100000 in
theorem c_X2_tellOne {l : Launch} {G : Gt} {S : Sk} {a0 : Nat} {a1 : Int32} {a2 : Int32} {mm : Mm} (hI : SI S) (ha0 : KD S a0 2) {q : Int32} (e : m_X2_tellOne a0 a1 a2 mm = some q) : CallOK l G M_X2_tellOne yX2_tellOne 0 [vr (some a0), vi a1, vi a2] S mm (some (vi q)) S mm := by
  have hS := hI.1
  refine call_of_run rfl rfl rfl (Nat.le_of_ble_eq_true rfl) ?_
  show Run l G M_X2_tellOne 0 0 [some (vr (some a0)), some (vi a1), some (vi a2)] [] S mm (some (vi q)) S mm
  unfold m_X2_tellOne at e
  refine r_iload_n dX2_tellOne_0 rfl ?_
  refine r_aload_n dX2_tellOne_1 rfl ?_
  refine r_getI dX2_tellOne_2 fl_X2_36 rfl ha0.1 ha0.2 ?_
  refine r_icmp_lt (tgt := 10) dX2_tellOne_5 rfl (fun h1 => ?_) (fun h1 => ?_)
  · replace e := ite_t h1 e
    refine r_iload_n dX2_tellOne_10 rfl ?_
    refine r_iconst (v := 1) dX2_tellOne_11 ci_1 ?_
    refine r_icmp_ne (tgt := 24) dX2_tellOne_12 rfl (fun h2 => ?_) (fun h2 => ?_)
    · replace e := ite_f h2 e
      refine r_iload_n dX2_tellOne_24 rfl ?_
      refine r_iconst (v := 2) dX2_tellOne_25 ci_2 ?_
      refine r_icmp_ne (tgt := 38) dX2_tellOne_26 rfl (fun h3 => ?_) (fun h3 => ?_)
      · replace e := ite_f h3 e
        refine r_aload_n dX2_tellOne_38 rfl ?_
        refine r_getR dX2_tellOne_39 fl_X2_18 rfl ha0.1 ha0.2 (hI.2.1 a0 ha0 2 (by decide)).1 ?_
        refine r_iload_n dX2_tellOne_42 rfl ?_
        obtain ⟨hg4, e⟩ := grd_some e
        refine r_iald dX2_tellOne_43 (hI.2.1 a0 ha0 2 (by decide)).2.1 (hI.2.1 a0 ha0 2 (by decide)).2.2 hg4 ?_
        cases e
        exact r_ireturn dX2_tellOne_44 rfl rfl
      · replace e := ite_t h3 e
        refine r_aload_n dX2_tellOne_29 rfl ?_
        refine r_getR dX2_tellOne_30 fl_X2_15 rfl ha0.1 ha0.2 (hI.2.1 a0 ha0 1 (by decide)).1 ?_
        refine r_iload_n dX2_tellOne_33 rfl ?_
        obtain ⟨hg5, e⟩ := grd_some e
        refine r_iald dX2_tellOne_34 (hI.2.1 a0 ha0 1 (by decide)).2.1 (hI.2.1 a0 ha0 1 (by decide)).2.2 hg5 ?_
        refine r_goto (tgt := 44) dX2_tellOne_35 rfl ?_
        cases e
        exact r_ireturn dX2_tellOne_44 rfl rfl
    · replace e := ite_t h2 e
      refine r_aload_n dX2_tellOne_15 rfl ?_
      refine r_getR dX2_tellOne_16 fl_X2_9 rfl ha0.1 ha0.2 (hI.2.1 a0 ha0 0 (by decide)).1 ?_
      refine r_iload_n dX2_tellOne_19 rfl ?_
      obtain ⟨hg6, e⟩ := grd_some e
      refine r_iald dX2_tellOne_20 (hI.2.1 a0 ha0 0 (by decide)).2.1 (hI.2.1 a0 ha0 0 (by decide)).2.2 hg6 ?_
      refine r_goto (tgt := 44) dX2_tellOne_21 rfl ?_
      cases e
      exact r_ireturn dX2_tellOne_44 rfl rfl
  · replace e := ite_f h1 e
    refine r_iconst (v := -1) dX2_tellOne_8 ci_m1 ?_
    cases e
    exact r_ireturn dX2_tellOne_9 rfl rfl
noncomputable def m_X2_tellThing (a0 : Nat) (a1 : Int32) (a2 : Int32) (mm : Mm) : Option (Int32) := if a2 < (8 : Int32) then (if a1 = (4 : Int32) then (grd a2 8 (some (mI mm (a0 + 1 + 3) (ix a2)))) else (if a1 = (5 : Int32) then (grd a2 8 (some (mI mm (a0 + 1 + 4) (ix a2)))) else (some (-1 : Int32)))) else (some (-1 : Int32))
set_option maxHeartbeats 4000000 in
set_option maxRecDepth 100000 in
theorem c_X2_tellThing {l : Launch} {G : Gt} {S : Sk} {a0 : Nat} {a1 : Int32} {a2 : Int32} {mm : Mm} (hI : SI S) (ha0 : KD S a0 2) {q : Int32} (e : m_X2_tellThing a0 a1 a2 mm = some q) : CallOK l G M_X2_tellThing yX2_tellThing 0 [vr (some a0), vi a1, vi a2] S mm (some (vi q)) S mm := by
  have hS := hI.1
  refine call_of_run rfl rfl rfl (Nat.le_of_ble_eq_true rfl) ?_
  show Run l G M_X2_tellThing 0 0 [some (vr (some a0)), some (vi a1), some (vi a2)] [] S mm (some (vi q)) S mm
  unfold m_X2_tellThing at e
  refine r_iload_n dX2_tellThing_0 rfl ?_
  refine r_bipush (v := 8) dX2_tellThing_1 cb_8 ?_
  refine r_icmp_lt (tgt := 8) dX2_tellThing_3 rfl (fun h1 => ?_) (fun h1 => ?_)
  · replace e := ite_t h1 e
    refine r_iload_n dX2_tellThing_8 rfl ?_
    refine r_iconst (v := 4) dX2_tellThing_9 ci_4 ?_
    refine r_icmp_ne (tgt := 22) dX2_tellThing_10 rfl (fun h2 => ?_) (fun h2 => ?_)
    · replace e := ite_f h2 e
      refine r_iload_n dX2_tellThing_22 rfl ?_
      refine r_iconst (v := 5) dX2_tellThing_23 ci_5 ?_
      refine r_icmp_ne (tgt := 36) dX2_tellThing_24 rfl (fun h3 => ?_) (fun h3 => ?_)
      · replace e := ite_f h3 e
        refine r_iconst (v := -1) dX2_tellThing_36 ci_m1 ?_
        cases e
        exact r_ireturn dX2_tellThing_37 rfl rfl
      · replace e := ite_t h3 e
        refine r_aload_n dX2_tellThing_27 rfl ?_
        refine r_getR dX2_tellThing_28 fl_X2_24 rfl ha0.1 ha0.2 (hI.2.1 a0 ha0 4 (by decide)).1 ?_
        refine r_iload_n dX2_tellThing_31 rfl ?_
        obtain ⟨hg4, e⟩ := grd_some e
        refine r_iald dX2_tellThing_32 (hI.2.1 a0 ha0 4 (by decide)).2.1 (hI.2.1 a0 ha0 4 (by decide)).2.2 hg4 ?_
        refine r_goto (tgt := 37) dX2_tellThing_33 rfl ?_
        cases e
        exact r_ireturn dX2_tellThing_37 rfl rfl
    · replace e := ite_t h2 e
      refine r_aload_n dX2_tellThing_13 rfl ?_
      refine r_getR dX2_tellThing_14 fl_X2_21 rfl ha0.1 ha0.2 (hI.2.1 a0 ha0 3 (by decide)).1 ?_
      refine r_iload_n dX2_tellThing_17 rfl ?_
      obtain ⟨hg5, e⟩ := grd_some e
      refine r_iald dX2_tellThing_18 (hI.2.1 a0 ha0 3 (by decide)).2.1 (hI.2.1 a0 ha0 3 (by decide)).2.2 hg5 ?_
      refine r_goto (tgt := 37) dX2_tellThing_19 rfl ?_
      cases e
      exact r_ireturn dX2_tellThing_37 rfl rfl
  · replace e := ite_f h1 e
    refine r_iconst (v := -1) dX2_tellThing_6 ci_m1 ?_
    cases e
    exact r_ireturn dX2_tellThing_7 rfl rfl
noncomputable def m_X2_tellOath (a0 : Nat) (a1 : Int32) (a2 : Int32) (mm : Mm) : Option (Int32) := if a2 < (mI mm a0 9) then (if a1 = (1 : Int32) then (grd a2 12 (some (mI mm (a0 + 1 + 5) (ix a2)))) else (if a1 = (2 : Int32) then (grd a2 12 (some (mI mm (a0 + 1 + 6) (ix a2)))) else (if a1 = (3 : Int32) then (grd a2 12 (some (mI mm (a0 + 1 + 7) (ix a2)))) else (some (-1 : Int32))))) else (some (-1 : Int32))
set_option maxHeartbeats 4000000 in
set_option maxRecDepth 100000 in
theorem c_X2_tellOath {l : Launch} {G : Gt} {S : Sk} {a0 : Nat} {a1 : Int32} {a2 : Int32} {mm : Mm} (hI : SI S) (ha0 : KD S a0 2) {q : Int32} (e : m_X2_tellOath a0 a1 a2 mm = some q) : CallOK l G M_X2_tellOath yX2_tellOath 0 [vr (some a0), vi a1, vi a2] S mm (some (vi q)) S mm := by
  have hS := hI.1
  refine call_of_run rfl rfl rfl (Nat.le_of_ble_eq_true rfl) ?_
  show Run l G M_X2_tellOath 0 0 [some (vr (some a0)), some (vi a1), some (vi a2)] [] S mm (some (vi q)) S mm
  unfold m_X2_tellOath at e
  refine r_iload_n dX2_tellOath_0 rfl ?_
  refine r_aload_n dX2_tellOath_1 rfl ?_
  refine r_getI dX2_tellOath_2 fl_X2_40 rfl ha0.1 ha0.2 ?_
  refine r_icmp_lt (tgt := 10) dX2_tellOath_5 rfl (fun h1 => ?_) (fun h1 => ?_)
  · replace e := ite_t h1 e
    refine r_iload_n dX2_tellOath_10 rfl ?_
    refine r_iconst (v := 1) dX2_tellOath_11 ci_1 ?_
    refine r_icmp_ne (tgt := 24) dX2_tellOath_12 rfl (fun h2 => ?_) (fun h2 => ?_)
    · replace e := ite_f h2 e
      refine r_iload_n dX2_tellOath_24 rfl ?_
      refine r_iconst (v := 2) dX2_tellOath_25 ci_2 ?_
      refine r_icmp_ne (tgt := 38) dX2_tellOath_26 rfl (fun h3 => ?_) (fun h3 => ?_)
      · replace e := ite_f h3 e
        refine r_iload_n dX2_tellOath_38 rfl ?_
        refine r_iconst (v := 3) dX2_tellOath_39 ci_3 ?_
        refine r_icmp_ne (tgt := 52) dX2_tellOath_40 rfl (fun h4 => ?_) (fun h4 => ?_)
        · replace e := ite_f h4 e
          refine r_iconst (v := -1) dX2_tellOath_52 ci_m1 ?_
          cases e
          exact r_ireturn dX2_tellOath_53 rfl rfl
        · replace e := ite_t h4 e
          refine r_aload_n dX2_tellOath_43 rfl ?_
          refine r_getR dX2_tellOath_44 fl_X2_33 rfl ha0.1 ha0.2 (hI.2.1 a0 ha0 7 (by decide)).1 ?_
          refine r_iload_n dX2_tellOath_47 rfl ?_
          obtain ⟨hg5, e⟩ := grd_some e
          refine r_iald dX2_tellOath_48 (hI.2.1 a0 ha0 7 (by decide)).2.1 (hI.2.1 a0 ha0 7 (by decide)).2.2 hg5 ?_
          refine r_goto (tgt := 53) dX2_tellOath_49 rfl ?_
          cases e
          exact r_ireturn dX2_tellOath_53 rfl rfl
      · replace e := ite_t h3 e
        refine r_aload_n dX2_tellOath_29 rfl ?_
        refine r_getR dX2_tellOath_30 fl_X2_30 rfl ha0.1 ha0.2 (hI.2.1 a0 ha0 6 (by decide)).1 ?_
        refine r_iload_n dX2_tellOath_33 rfl ?_
        obtain ⟨hg6, e⟩ := grd_some e
        refine r_iald dX2_tellOath_34 (hI.2.1 a0 ha0 6 (by decide)).2.1 (hI.2.1 a0 ha0 6 (by decide)).2.2 hg6 ?_
        refine r_goto (tgt := 53) dX2_tellOath_35 rfl ?_
        cases e
        exact r_ireturn dX2_tellOath_53 rfl rfl
    · replace e := ite_t h2 e
      refine r_aload_n dX2_tellOath_15 rfl ?_
      refine r_getR dX2_tellOath_16 fl_X2_27 rfl ha0.1 ha0.2 (hI.2.1 a0 ha0 5 (by decide)).1 ?_
      refine r_iload_n dX2_tellOath_19 rfl ?_
      obtain ⟨hg7, e⟩ := grd_some e
      refine r_iald dX2_tellOath_20 (hI.2.1 a0 ha0 5 (by decide)).2.1 (hI.2.1 a0 ha0 5 (by decide)).2.2 hg7 ?_
      refine r_goto (tgt := 53) dX2_tellOath_21 rfl ?_
      cases e
      exact r_ireturn dX2_tellOath_53 rfl rfl
  · replace e := ite_f h1 e
    refine r_iconst (v := -1) dX2_tellOath_8 ci_m1 ?_
    cases e
    exact r_ireturn dX2_tellOath_9 rfl rfl
noncomputable def m_X2_tell (a0 : Nat) (a1 : Int32) (mm : Mm) : Option (Int32) := if (10 : Int32) ≤ a1 then (if (100 : Int32) ≤ a1 then ((m_X2_tellOath a0 (a1 / (100 : Int32)) (xrem a1 (100 : Int32)) mm).bind (fun q3 => some q3)) else (if (40 : Int32) ≤ a1 then ((m_X2_tellThing a0 (a1 / (10 : Int32)) (xrem a1 (10 : Int32)) mm).bind (fun q6 => some q6)) else ((m_X2_tellOne a0 (a1 / (10 : Int32)) (xrem a1 (10 : Int32)) mm).bind (fun q8 => some q8)))) else (if a1 = 0 then (some (mI mm a0 8)) else (if a1 = (1 : Int32) then (some (mI mm a0 9)) else (some (-1 : Int32))))
set_option maxHeartbeats 4000000 in
set_option maxRecDepth 100000 in
theorem c_X2_tell {l : Launch} {G : Gt} {S : Sk} {a0 : Nat} {a1 : Int32} {mm : Mm} (hI : SI S) (ha0 : KD S a0 2) {q : Int32} (e : m_X2_tell a0 a1 mm = some q) : CallOK l G M_X2_tell yX2_tell 1 [vr (some a0), vi a1] S mm (some (vi q)) S mm := by
  have hS := hI.1
  refine call_of_run rfl rfl rfl (Nat.le_of_ble_eq_true rfl) ?_
  show Run l G M_X2_tell 1 0 [some (vr (some a0)), some (vi a1)] [] S mm (some (vi q)) S mm
  unfold m_X2_tell at e
  refine r_iload_n dX2_tell_0 rfl ?_
  refine r_bipush (v := 10) dX2_tell_1 cb_10 ?_
  refine r_icmp_ge (tgt := 31) dX2_tell_3 rfl (fun h1 => ?_) (fun h1 => ?_)
  · replace e := ite_t h1 e
    refine r_iload_n dX2_tell_31 rfl ?_
    refine r_bipush (v := 100) dX2_tell_32 cb_100 ?_
    refine r_icmp_ge (tgt := 71) dX2_tell_34 rfl (fun h2 => ?_) (fun h2 => ?_)
    · replace e := ite_t h2 e
      refine r_aload_n dX2_tell_71 rfl ?_
      refine r_iload_n dX2_tell_72 rfl ?_
      refine r_bipush (v := 100) dX2_tell_73 cb_100 ?_
      refine r_idiv dX2_tell_75 (by decide) ?_
      refine r_iload_n dX2_tell_76 rfl ?_
      refine r_bipush (v := 100) dX2_tell_77 cb_100 ?_
      refine r_irem dX2_tell_79 (by decide) ?_
      obtain ⟨q3, eq4, e⟩ := obind e
      refine r_callV (as := [_, _]) (rest := []) dX2_tell_80 ml_X2_80 yV_X2_tellOath (c_X2_tellOath hI ha0 eq4) (by decide) rfl ha0.1 ha0.2 (Nat.le_of_ble_eq_true rfl) ?_
      cases e
      exact r_ireturn dX2_tell_83 rfl rfl
    · replace e := ite_f h2 e
      refine r_iload_n dX2_tell_37 rfl ?_
      refine r_bipush (v := 40) dX2_tell_38 cb_40 ?_
      refine r_icmp_ge (tgt := 58) dX2_tell_40 rfl (fun h5 => ?_) (fun h5 => ?_)
      · replace e := ite_t h5 e
        refine r_aload_n dX2_tell_58 rfl ?_
        refine r_iload_n dX2_tell_59 rfl ?_
        refine r_bipush (v := 10) dX2_tell_60 cb_10 ?_
        refine r_idiv dX2_tell_62 (by decide) ?_
        refine r_iload_n dX2_tell_63 rfl ?_
        refine r_bipush (v := 10) dX2_tell_64 cb_10 ?_
        refine r_irem dX2_tell_66 (by decide) ?_
        obtain ⟨q6, eq7, e⟩ := obind e
        refine r_callV (as := [_, _]) (rest := []) dX2_tell_67 ml_X2_77 yV_X2_tellThing (c_X2_tellThing hI ha0 eq7) (by decide) rfl ha0.1 ha0.2 (Nat.le_of_ble_eq_true rfl) ?_
        cases e
        exact r_ireturn dX2_tell_70 rfl rfl
      · replace e := ite_f h5 e
        refine r_aload_n dX2_tell_43 rfl ?_
        refine r_iload_n dX2_tell_44 rfl ?_
        refine r_bipush (v := 10) dX2_tell_45 cb_10 ?_
        refine r_idiv dX2_tell_47 (by decide) ?_
        refine r_iload_n dX2_tell_48 rfl ?_
        refine r_bipush (v := 10) dX2_tell_49 cb_10 ?_
        refine r_irem dX2_tell_51 (by decide) ?_
        obtain ⟨q8, eq9, e⟩ := obind e
        refine r_callV (as := [_, _]) (rest := []) dX2_tell_52 ml_X2_74 yV_X2_tellOne (c_X2_tellOne hI ha0 eq9) (by decide) rfl ha0.1 ha0.2 (Nat.le_of_ble_eq_true rfl) ?_
        refine r_goto (tgt := 70) dX2_tell_55 rfl ?_
        cases e
        exact r_ireturn dX2_tell_70 rfl rfl
  · replace e := ite_f h1 e
    refine r_iload_n dX2_tell_6 rfl ?_
    refine r_if_ne (tgt := 17) dX2_tell_7 rfl (fun h10 => ?_) (fun h10 => ?_)
    · replace e := ite_f h10 e
      refine r_iload_n dX2_tell_17 rfl ?_
      refine r_iconst (v := 1) dX2_tell_18 ci_1 ?_
      refine r_icmp_ne (tgt := 29) dX2_tell_19 rfl (fun h11 => ?_) (fun h11 => ?_)
      · replace e := ite_f h11 e
        refine r_iconst (v := -1) dX2_tell_29 ci_m1 ?_
        cases e
        exact r_ireturn dX2_tell_30 rfl rfl
      · replace e := ite_t h11 e
        refine r_aload_n dX2_tell_22 rfl ?_
        refine r_getI dX2_tell_23 fl_X2_40 rfl ha0.1 ha0.2 ?_
        refine r_goto (tgt := 30) dX2_tell_26 rfl ?_
        cases e
        exact r_ireturn dX2_tell_30 rfl rfl
    · replace e := ite_t h10 e
      refine r_aload_n dX2_tell_10 rfl ?_
      refine r_getI dX2_tell_11 fl_X2_36 rfl ha0.1 ha0.2 ?_
      refine r_goto (tgt := 30) dX2_tell_14 rfl ?_
      cases e
      exact r_ireturn dX2_tell_30 rfl rfl
noncomputable def m_X7_init (S : Sk) (a0 : Nat) (mm : Mm) : Option (Sk × Mm) := some ((sRs (sRs (nwS (sRs (nwS (sRs (nwS (sRs (nwS (sRs (nwS (sRs (nwS (sRs (nwS (sRs (nwS (sRs (nwS S 20 6 6) a0 2 (some S.1)) 20 6 6) a0 3 (some (S.1 + 1))) 20 6 6) a0 4 (some (S.1 + 2))) 20 36 36) a0 5 (some (S.1 + 3))) 20 8 8) a0 6 (some (S.1 + 4))) 20 12 12) a0 7 (some (S.1 + 5))) 20 12 12) a0 8 (some (S.1 + 6))) 20 12 12) a0 9 (some (S.1 + 7))) 20 1280 1280) a0 10 (some (S.1 + 8))) a0 11 none), (nwM (sRs (nwS (sRs (nwS (sRs (nwS (sRs (nwS (sRs (nwS (sRs (nwS (sRs (nwS (sRs (nwS S 20 6 6) a0 2 (some S.1)) 20 6 6) a0 3 (some (S.1 + 1))) 20 6 6) a0 4 (some (S.1 + 2))) 20 36 36) a0 5 (some (S.1 + 3))) 20 8 8) a0 6 (some (S.1 + 4))) 20 12 12) a0 7 (some (S.1 + 5))) 20 12 12) a0 8 (some (S.1 + 6))) 20 12 12) a0 9 (some (S.1 + 7))) (nwM (sRs (nwS (sRs (nwS (sRs (nwS (sRs (nwS (sRs (nwS (sRs (nwS (sRs (nwS S 20 6 6) a0 2 (some S.1)) 20 6 6) a0 3 (some (S.1 + 1))) 20 6 6) a0 4 (some (S.1 + 2))) 20 36 36) a0 5 (some (S.1 + 3))) 20 8 8) a0 6 (some (S.1 + 4))) 20 12 12) a0 7 (some (S.1 + 5))) 20 12 12) a0 8 (some (S.1 + 6))) (nwM (sRs (nwS (sRs (nwS (sRs (nwS (sRs (nwS (sRs (nwS (sRs (nwS S 20 6 6) a0 2 (some S.1)) 20 6 6) a0 3 (some (S.1 + 1))) 20 6 6) a0 4 (some (S.1 + 2))) 20 36 36) a0 5 (some (S.1 + 3))) 20 8 8) a0 6 (some (S.1 + 4))) 20 12 12) a0 7 (some (S.1 + 5))) (nwM (sRs (nwS (sRs (nwS (sRs (nwS (sRs (nwS (sRs (nwS S 20 6 6) a0 2 (some S.1)) 20 6 6) a0 3 (some (S.1 + 1))) 20 6 6) a0 4 (some (S.1 + 2))) 20 36 36) a0 5 (some (S.1 + 3))) 20 8 8) a0 6 (some (S.1 + 4))) (nwM (sRs (nwS (sRs (nwS (sRs (nwS (sRs (nwS S 20 6 6) a0 2 (some S.1)) 20 6 6) a0 3 (some (S.1 + 1))) 20 6 6) a0 4 (some (S.1 + 2))) 20 36 36) a0 5 (some (S.1 + 3))) (nwM (sRs (nwS (sRs (nwS (sRs (nwS S 20 6 6) a0 2 (some S.1)) 20 6 6) a0 3 (some (S.1 + 1))) 20 6 6) a0 4 (some (S.1 + 2))) (nwM (sRs (nwS (sRs (nwS S 20 6 6) a0 2 (some S.1)) 20 6 6) a0 3 (some (S.1 + 1))) (nwM (sRs (nwS S 20 6 6) a0 2 (some S.1)) (nwM S (sI (sI mm a0 0 (0 : Int32)) a0 1 (0 : Int32))))))))))))
set_option maxHeartbeats 4000000 in
set_option maxRecDepth 100000 in
theorem c_X7_init {l : Launch} {G : Gt} {S : Sk} {a0 : Nat} {mm : Mm} (ha0 : KD S a0 7) {q : Sk × Mm} (e : m_X7_init S a0 mm = some q) : CallOK l G M_X7_init yX7_init 1 [vr (some a0)] S mm (none) q.1 q.2 := by
  refine call_of_run rfl rfl rfl (Nat.le_of_ble_eq_true rfl) ?_
  show Run l G M_X7_init 1 0 [some (vr (some a0))] [] S mm (none) q.1 q.2
  unfold m_X7_init at e
  refine r_aload_n dX7_init_0 rfl ?_
  refine r_objInit (rest := []) dX7_init_1 oi_X7_3 oi_i oi_c (by decide) (Nat.le_of_ble_eq_true rfl) ?_
  refine r_aload_n dX7_init_4 rfl ?_
  refine r_iconst (v := 0) dX7_init_5 ci_0 ?_
  refine r_putI dX7_init_6 fl_X7_9 ft_7_0 (Or.inl rfl) rfl rfl rfl ha0.1 ha0.2 ?_
  refine r_aload_n dX7_init_9 rfl ?_
  refine r_iconst (v := 0) dX7_init_10 ci_0 ?_
  refine r_putI dX7_init_11 fl_X7_15 ft_7_1 (Or.inl rfl) rfl rfl rfl ha0.1 ha0.2 ?_
  refine r_aload_n dX7_init_14 rfl ?_
  refine r_bipush (v := 6) dX7_init_15 cb_6 ?_
  refine r_newa (t := 20) dX7_init_17 rfl (by decide) (by decide) aw_20 (by decide) (N := 6) (by decide) (by decide) ?_
  have hn1 := kd_nw (k := 20) (len := 6) (z := 6) ha0
  have hn2 : AK (nwS S 20 6 6) S.1 20 6 := ak_new
  refine r_putR dX7_init_19 fl_X7_18 ft_7_2 (Or.inr ⟨rfl, fun q hq => by cases hq; rfl⟩) rfl hn1.1 hn1.2 ?_
  refine r_aload_n dX7_init_22 rfl ?_
  refine r_bipush (v := 6) dX7_init_23 cb_6 ?_
  refine r_newa (t := 20) dX7_init_25 rfl (by decide) (by decide) aw_20 (by decide) (N := 6) (by decide) (by decide) ?_
  have hn3 := kd_nw (k := 20) (len := 6) (z := 6) hn1
  have hn4 := ak_nw (k := 20) (len := 6) (z := 6) hn2
  have hn5 : AK (nwS (sRs (nwS S 20 6 6) a0 2 (some S.1)) 20 6 6) (S.1 + 1) 20 6 := ak_new
  refine r_putR dX7_init_27 fl_X7_22 ft_7_3 (Or.inr ⟨rfl, fun q hq => by cases hq; rfl⟩) rfl hn3.1 hn3.2 ?_
  refine r_aload_n dX7_init_30 rfl ?_
  refine r_bipush (v := 6) dX7_init_31 cb_6 ?_
  refine r_newa (t := 20) dX7_init_33 rfl (by decide) (by decide) aw_20 (by decide) (N := 6) (by decide) (by decide) ?_
  have hn6 := kd_nw (k := 20) (len := 6) (z := 6) hn3
  have hn7 := ak_nw (k := 20) (len := 6) (z := 6) hn4
  have hn8 := ak_nw (k := 20) (len := 6) (z := 6) hn5
  have hn9 : AK (nwS (sRs (nwS (sRs (nwS S 20 6 6) a0 2 (some S.1)) 20 6 6) a0 3 (some (S.1 + 1))) 20 6 6) (S.1 + 2) 20 6 := ak_new
  refine r_putR dX7_init_35 fl_X7_25 ft_7_4 (Or.inr ⟨rfl, fun q hq => by cases hq; rfl⟩) rfl hn6.1 hn6.2 ?_
  refine r_aload_n dX7_init_38 rfl ?_
  refine r_bipush (v := 36) dX7_init_39 cb_36 ?_
  refine r_newa (t := 20) dX7_init_41 rfl (by decide) (by decide) aw_20 (by decide) (N := 36) (by decide) (by decide) ?_
  have hn10 := kd_nw (k := 20) (len := 36) (z := 36) hn6
  have hn11 := ak_nw (k := 20) (len := 36) (z := 36) hn7
  have hn12 := ak_nw (k := 20) (len := 36) (z := 36) hn8
  have hn13 := ak_nw (k := 20) (len := 36) (z := 36) hn9
  have hn14 : AK (nwS (sRs (nwS (sRs (nwS (sRs (nwS S 20 6 6) a0 2 (some S.1)) 20 6 6) a0 3 (some (S.1 + 1))) 20 6 6) a0 4 (some (S.1 + 2))) 20 36 36) (S.1 + 3) 20 36 := ak_new
  refine r_putR dX7_init_43 fl_X7_28 ft_7_5 (Or.inr ⟨rfl, fun q hq => by cases hq; rfl⟩) rfl hn10.1 hn10.2 ?_
  refine r_aload_n dX7_init_46 rfl ?_
  refine r_bipush (v := 8) dX7_init_47 cb_8 ?_
  refine r_newa (t := 20) dX7_init_49 rfl (by decide) (by decide) aw_20 (by decide) (N := 8) (by decide) (by decide) ?_
  have hn15 := kd_nw (k := 20) (len := 8) (z := 8) hn10
  have hn16 := ak_nw (k := 20) (len := 8) (z := 8) hn11
  have hn17 := ak_nw (k := 20) (len := 8) (z := 8) hn12
  have hn18 := ak_nw (k := 20) (len := 8) (z := 8) hn13
  have hn19 := ak_nw (k := 20) (len := 8) (z := 8) hn14
  have hn20 : AK (nwS (sRs (nwS (sRs (nwS (sRs (nwS (sRs (nwS S 20 6 6) a0 2 (some S.1)) 20 6 6) a0 3 (some (S.1 + 1))) 20 6 6) a0 4 (some (S.1 + 2))) 20 36 36) a0 5 (some (S.1 + 3))) 20 8 8) (S.1 + 4) 20 8 := ak_new
  refine r_putR dX7_init_51 fl_X7_31 ft_7_6 (Or.inr ⟨rfl, fun q hq => by cases hq; rfl⟩) rfl hn15.1 hn15.2 ?_
  refine r_aload_n dX7_init_54 rfl ?_
  refine r_bipush (v := 12) dX7_init_55 cb_12 ?_
  refine r_newa (t := 20) dX7_init_57 rfl (by decide) (by decide) aw_20 (by decide) (N := 12) (by decide) (by decide) ?_
  have hn21 := kd_nw (k := 20) (len := 12) (z := 12) hn15
  have hn22 := ak_nw (k := 20) (len := 12) (z := 12) hn16
  have hn23 := ak_nw (k := 20) (len := 12) (z := 12) hn17
  have hn24 := ak_nw (k := 20) (len := 12) (z := 12) hn18
  have hn25 := ak_nw (k := 20) (len := 12) (z := 12) hn19
  have hn26 := ak_nw (k := 20) (len := 12) (z := 12) hn20
  have hn27 : AK (nwS (sRs (nwS (sRs (nwS (sRs (nwS (sRs (nwS (sRs (nwS S 20 6 6) a0 2 (some S.1)) 20 6 6) a0 3 (some (S.1 + 1))) 20 6 6) a0 4 (some (S.1 + 2))) 20 36 36) a0 5 (some (S.1 + 3))) 20 8 8) a0 6 (some (S.1 + 4))) 20 12 12) (S.1 + 5) 20 12 := ak_new
  refine r_putR dX7_init_59 fl_X7_34 ft_7_7 (Or.inr ⟨rfl, fun q hq => by cases hq; rfl⟩) rfl hn21.1 hn21.2 ?_
  refine r_aload_n dX7_init_62 rfl ?_
  refine r_bipush (v := 12) dX7_init_63 cb_12 ?_
  refine r_newa (t := 20) dX7_init_65 rfl (by decide) (by decide) aw_20 (by decide) (N := 12) (by decide) (by decide) ?_
  have hn28 := kd_nw (k := 20) (len := 12) (z := 12) hn21
  have hn29 := ak_nw (k := 20) (len := 12) (z := 12) hn22
  have hn30 := ak_nw (k := 20) (len := 12) (z := 12) hn23
  have hn31 := ak_nw (k := 20) (len := 12) (z := 12) hn24
  have hn32 := ak_nw (k := 20) (len := 12) (z := 12) hn25
  have hn33 := ak_nw (k := 20) (len := 12) (z := 12) hn26
  have hn34 := ak_nw (k := 20) (len := 12) (z := 12) hn27
  have hn35 : AK (nwS (sRs (nwS (sRs (nwS (sRs (nwS (sRs (nwS (sRs (nwS (sRs (nwS S 20 6 6) a0 2 (some S.1)) 20 6 6) a0 3 (some (S.1 + 1))) 20 6 6) a0 4 (some (S.1 + 2))) 20 36 36) a0 5 (some (S.1 + 3))) 20 8 8) a0 6 (some (S.1 + 4))) 20 12 12) a0 7 (some (S.1 + 5))) 20 12 12) (S.1 + 6) 20 12 := ak_new
  refine r_putR dX7_init_67 fl_X7_37 ft_7_8 (Or.inr ⟨rfl, fun q hq => by cases hq; rfl⟩) rfl hn28.1 hn28.2 ?_
  refine r_aload_n dX7_init_70 rfl ?_
  refine r_bipush (v := 12) dX7_init_71 cb_12 ?_
  refine r_newa (t := 20) dX7_init_73 rfl (by decide) (by decide) aw_20 (by decide) (N := 12) (by decide) (by decide) ?_
  have hn36 := kd_nw (k := 20) (len := 12) (z := 12) hn28
  have hn37 := ak_nw (k := 20) (len := 12) (z := 12) hn29
  have hn38 := ak_nw (k := 20) (len := 12) (z := 12) hn30
  have hn39 := ak_nw (k := 20) (len := 12) (z := 12) hn31
  have hn40 := ak_nw (k := 20) (len := 12) (z := 12) hn32
  have hn41 := ak_nw (k := 20) (len := 12) (z := 12) hn33
  have hn42 := ak_nw (k := 20) (len := 12) (z := 12) hn34
  have hn43 := ak_nw (k := 20) (len := 12) (z := 12) hn35
  have hn44 : AK (nwS (sRs (nwS (sRs (nwS (sRs (nwS (sRs (nwS (sRs (nwS (sRs (nwS (sRs (nwS S 20 6 6) a0 2 (some S.1)) 20 6 6) a0 3 (some (S.1 + 1))) 20 6 6) a0 4 (some (S.1 + 2))) 20 36 36) a0 5 (some (S.1 + 3))) 20 8 8) a0 6 (some (S.1 + 4))) 20 12 12) a0 7 (some (S.1 + 5))) 20 12 12) a0 8 (some (S.1 + 6))) 20 12 12) (S.1 + 7) 20 12 := ak_new
  refine r_putR dX7_init_75 fl_X7_40 ft_7_9 (Or.inr ⟨rfl, fun q hq => by cases hq; rfl⟩) rfl hn36.1 hn36.2 ?_
  refine r_aload_n dX7_init_78 rfl ?_
  refine r_sipush (v := 1280) dX7_init_79 cs_1280 ?_
  refine r_newa (t := 20) dX7_init_82 rfl (by decide) (by decide) aw_20 (by decide) (N := 1280) (by decide) (by decide) ?_
  have hn45 := kd_nw (k := 20) (len := 1280) (z := 1280) hn36
  have hn46 := ak_nw (k := 20) (len := 1280) (z := 1280) hn37
  have hn47 := ak_nw (k := 20) (len := 1280) (z := 1280) hn38
  have hn48 := ak_nw (k := 20) (len := 1280) (z := 1280) hn39
  have hn49 := ak_nw (k := 20) (len := 1280) (z := 1280) hn40
  have hn50 := ak_nw (k := 20) (len := 1280) (z := 1280) hn41
  have hn51 := ak_nw (k := 20) (len := 1280) (z := 1280) hn42
  have hn52 := ak_nw (k := 20) (len := 1280) (z := 1280) hn43
  have hn53 := ak_nw (k := 20) (len := 1280) (z := 1280) hn44
  have hn54 : AK (nwS (sRs (nwS (sRs (nwS (sRs (nwS (sRs (nwS (sRs (nwS (sRs (nwS (sRs (nwS (sRs (nwS S 20 6 6) a0 2 (some S.1)) 20 6 6) a0 3 (some (S.1 + 1))) 20 6 6) a0 4 (some (S.1 + 2))) 20 36 36) a0 5 (some (S.1 + 3))) 20 8 8) a0 6 (some (S.1 + 4))) 20 12 12) a0 7 (some (S.1 + 5))) 20 12 12) a0 8 (some (S.1 + 6))) 20 12 12) a0 9 (some (S.1 + 7))) 20 1280 1280) (S.1 + 8) 20 1280 := ak_new
  refine r_putR dX7_init_84 fl_X7_43 ft_7_10 (Or.inr ⟨rfl, fun q hq => by cases hq; rfl⟩) rfl hn45.1 hn45.2 ?_
  refine r_aload_n dX7_init_87 rfl ?_
  refine r_null dX7_init_88 ?_
  refine r_putR dX7_init_89 fl_X7_46 ft_7_11 (Or.inl rfl) rfl hn45.1 hn45.2 ?_
  cases e
  exact r_return dX7_init_92 rfl
noncomputable def m_X3_init (S : Sk) (a0 : Nat) (mm : Mm) : Option (Sk × Mm) := (m_X7_init (nwS S 7 0 12) S.1 (nwM S mm)).bind (fun q3 => gk q3.1 a0 3 (some ((sRs (nwS (sRs q3.1 a0 0 (some S.1)) 20 6 6) a0 10 (some q3.1.1)), (nwM (sRs q3.1 a0 0 (some S.1)) (sI (sI (sI (sI (sI (sI (sI (sI (sI q3.2 a0 1 (0 : Int32)) a0 2 (0 : Int32)) a0 3 (0 : Int32)) a0 4 (0 : Int32)) a0 5 (-1 : Int32)) a0 6 (-1 : Int32)) a0 7 (-1 : Int32)) a0 8 (0 : Int32)) a0 9 (0 : Int32))))))
set_option maxHeartbeats 4000000 in
set_option maxRecDepth 100000 in
theorem c_X3_init {l : Launch} {G : Gt} {S : Sk} {a0 : Nat} {mm : Mm} (ha0 : KD S a0 3) {q : Sk × Mm} (e : m_X3_init S a0 mm = some q) : CallOK l G M_X3_init yX3_init 2 [vr (some a0)] S mm (none) q.1 q.2 := by
  refine call_of_run rfl rfl rfl (Nat.le_of_ble_eq_true rfl) ?_
  show Run l G M_X3_init 2 0 [some (vr (some a0))] [] S mm (none) q.1 q.2
  unfold m_X3_init at e
  refine r_aload_n dX3_init_0 rfl ?_
  refine r_objInit (rest := []) dX3_init_1 oi_X3_3 oi_i oi_c (by decide) (Nat.le_of_ble_eq_true rfl) ?_
  refine r_aload_n dX3_init_4 rfl ?_
  refine r_new dX3_init_5 nw_X3_9 ?_
  have hn1 := kd_nw (k := 7) (len := 0) (z := 12) ha0
  have hn2 : KD (nwS S 7 0 12) S.1 7 := kd_new
  refine r_dup dX3_init_8 rfl ?_
  obtain ⟨q3, eq4, e⟩ := obind e
  refine r_callIN (as := []) (rest := [_, _]) dX3_init_9 nl_X3_11 yI_X7_init (c_X7_init hn2 eq4) (by decide) rfl (Nat.le_of_ble_eq_true rfl) ?_
  obtain ⟨hn5, e⟩ := gk_some e
  refine r_putR dX3_init_12 fl_X3_12 ft_3_0 (Or.inr ⟨rfl, fun q hq => by cases hq; rfl⟩) rfl hn5.1 hn5.2 ?_
  refine r_aload_n dX3_init_15 rfl ?_
  refine r_iconst (v := 0) dX3_init_16 ci_0 ?_
  refine r_putI dX3_init_17 fl_X3_18 ft_3_1 (Or.inl rfl) rfl rfl rfl hn5.1 hn5.2 ?_
  refine r_aload_n dX3_init_20 rfl ?_
  refine r_iconst (v := 0) dX3_init_21 ci_0 ?_
  refine r_putI dX3_init_22 fl_X3_22 ft_3_2 (Or.inl rfl) rfl rfl rfl hn5.1 hn5.2 ?_
  refine r_aload_n dX3_init_25 rfl ?_
  refine r_iconst (v := 0) dX3_init_26 ci_0 ?_
  refine r_putI dX3_init_27 fl_X3_25 ft_3_3 (Or.inl rfl) rfl rfl rfl hn5.1 hn5.2 ?_
  refine r_aload_n dX3_init_30 rfl ?_
  refine r_iconst (v := 0) dX3_init_31 ci_0 ?_
  refine r_putI dX3_init_32 fl_X3_28 ft_3_4 (Or.inl rfl) rfl rfl rfl hn5.1 hn5.2 ?_
  refine r_aload_n dX3_init_35 rfl ?_
  refine r_iconst (v := -1) dX3_init_36 ci_m1 ?_
  refine r_putI dX3_init_37 fl_X3_31 ft_3_5 (Or.inl rfl) rfl rfl rfl hn5.1 hn5.2 ?_
  refine r_aload_n dX3_init_40 rfl ?_
  refine r_iconst (v := -1) dX3_init_41 ci_m1 ?_
  refine r_putI dX3_init_42 fl_X3_34 ft_3_6 (Or.inl rfl) rfl rfl rfl hn5.1 hn5.2 ?_
  refine r_aload_n dX3_init_45 rfl ?_
  refine r_iconst (v := -1) dX3_init_46 ci_m1 ?_
  refine r_putI dX3_init_47 fl_X3_37 ft_3_7 (Or.inl rfl) rfl rfl rfl hn5.1 hn5.2 ?_
  refine r_aload_n dX3_init_50 rfl ?_
  refine r_iconst (v := 0) dX3_init_51 ci_0 ?_
  refine r_putI dX3_init_52 fl_X3_40 ft_3_8 (Or.inl rfl) rfl rfl rfl hn5.1 hn5.2 ?_
  refine r_aload_n dX3_init_55 rfl ?_
  refine r_iconst (v := 0) dX3_init_56 ci_0 ?_
  refine r_putI dX3_init_57 fl_X3_43 ft_3_9 (Or.inl rfl) rfl rfl rfl hn5.1 hn5.2 ?_
  refine r_aload_n dX3_init_60 rfl ?_
  refine r_bipush (v := 6) dX3_init_61 cb_6 ?_
  refine r_newa (t := 20) dX3_init_63 rfl (by decide) (by decide) aw_20 (by decide) (N := 6) (by decide) (by decide) ?_
  have hn6 := kd_nw (k := 20) (len := 6) (z := 6) hn5
  have hn7 : AK (nwS (sRs q3.1 a0 0 (some S.1)) 20 6 6) q3.1.1 20 6 := ak_new
  refine r_putR dX3_init_65 fl_X3_46 ft_3_10 (Or.inr ⟨rfl, fun q hq => by cases hq; rfl⟩) rfl hn6.1 hn6.2 ?_
  cases e
  exact r_return dX3_init_68 rfl
noncomputable def m_X7_begin_b123 (z8 : Int32 × Mm) : Option ((Int32 × Mm) ⊕ (Mm)) := if (36 : Int32) ≤ z8.1 then (some (.inr z8.2)) else (grd z8.1 36 (some (.inl (z8.1 + (1 : Int32), (sI z8.2 18 (ix z8.1) (0 : Int32))))))
noncomputable def m_X7_begin (S : Sk) (a1 : Nat) (mm : Mm) : Option (Sk × Mm) := gP (cpOK 20 6 6 (0 : Int32) (0 : Int32) (6 : Int32) (fun i => mI (sI (sI mm 14 0 (mI mm a1 8)) 14 1 (mI (sI mm 14 0 (mI mm a1 8)) a1 9)) (a1 + 1 + 0) i)) (gP (cpOK 20 6 6 (0 : Int32) (0 : Int32) (6 : Int32) (fun i => mI (cpM (sI (sI mm 14 0 (mI mm a1 8)) 14 1 (mI (sI mm 14 0 (mI mm a1 8)) a1 9)) (a1 + 1 + 0) (ix (0 : Int32)) 15 (ix (0 : Int32)) (ix (6 : Int32))) (a1 + 1 + 1) i)) (gP (cpOK 20 6 6 (0 : Int32) (0 : Int32) (6 : Int32) (fun i => mI (cpM (cpM (sI (sI mm 14 0 (mI mm a1 8)) 14 1 (mI (sI mm 14 0 (mI mm a1 8)) a1 9)) (a1 + 1 + 0) (ix (0 : Int32)) 15 (ix (0 : Int32)) (ix (6 : Int32))) (a1 + 1 + 1) (ix (0 : Int32)) 16 (ix (0 : Int32)) (ix (6 : Int32))) (a1 + 1 + 2) i)) (gP (cpOK 20 8 8 (0 : Int32) (0 : Int32) (8 : Int32) (fun i => mI (cpM (cpM (cpM (sI (sI mm 14 0 (mI mm a1 8)) 14 1 (mI (sI mm 14 0 (mI mm a1 8)) a1 9)) (a1 + 1 + 0) (ix (0 : Int32)) 15 (ix (0 : Int32)) (ix (6 : Int32))) (a1 + 1 + 1) (ix (0 : Int32)) 16 (ix (0 : Int32)) (ix (6 : Int32))) (a1 + 1 + 2) (ix (0 : Int32)) 17 (ix (0 : Int32)) (ix (6 : Int32))) (a1 + 1 + 3) i)) (gP (cpOK 20 12 12 (0 : Int32) (0 : Int32) (12 : Int32) (fun i => mI (cpM (cpM (cpM (cpM (sI (sI mm 14 0 (mI mm a1 8)) 14 1 (mI (sI mm 14 0 (mI mm a1 8)) a1 9)) (a1 + 1 + 0) (ix (0 : Int32)) 15 (ix (0 : Int32)) (ix (6 : Int32))) (a1 + 1 + 1) (ix (0 : Int32)) 16 (ix (0 : Int32)) (ix (6 : Int32))) (a1 + 1 + 2) (ix (0 : Int32)) 17 (ix (0 : Int32)) (ix (6 : Int32))) (a1 + 1 + 3) (ix (0 : Int32)) 19 (ix (0 : Int32)) (ix (8 : Int32))) (a1 + 1 + 5) i)) (gP (cpOK 20 12 12 (0 : Int32) (0 : Int32) (12 : Int32) (fun i => mI (cpM (cpM (cpM (cpM (cpM (sI (sI mm 14 0 (mI mm a1 8)) 14 1 (mI (sI mm 14 0 (mI mm a1 8)) a1 9)) (a1 + 1 + 0) (ix (0 : Int32)) 15 (ix (0 : Int32)) (ix (6 : Int32))) (a1 + 1 + 1) (ix (0 : Int32)) 16 (ix (0 : Int32)) (ix (6 : Int32))) (a1 + 1 + 2) (ix (0 : Int32)) 17 (ix (0 : Int32)) (ix (6 : Int32))) (a1 + 1 + 3) (ix (0 : Int32)) 19 (ix (0 : Int32)) (ix (8 : Int32))) (a1 + 1 + 5) (ix (0 : Int32)) 20 (ix (0 : Int32)) (ix (12 : Int32))) (a1 + 1 + 6) i)) (gP (cpOK 20 12 12 (0 : Int32) (0 : Int32) (12 : Int32) (fun i => mI (cpM (cpM (cpM (cpM (cpM (cpM (sI (sI mm 14 0 (mI mm a1 8)) 14 1 (mI (sI mm 14 0 (mI mm a1 8)) a1 9)) (a1 + 1 + 0) (ix (0 : Int32)) 15 (ix (0 : Int32)) (ix (6 : Int32))) (a1 + 1 + 1) (ix (0 : Int32)) 16 (ix (0 : Int32)) (ix (6 : Int32))) (a1 + 1 + 2) (ix (0 : Int32)) 17 (ix (0 : Int32)) (ix (6 : Int32))) (a1 + 1 + 3) (ix (0 : Int32)) 19 (ix (0 : Int32)) (ix (8 : Int32))) (a1 + 1 + 5) (ix (0 : Int32)) 20 (ix (0 : Int32)) (ix (12 : Int32))) (a1 + 1 + 6) (ix (0 : Int32)) 21 (ix (0 : Int32)) (ix (12 : Int32))) (a1 + 1 + 7) i)) ((whileF FU (m_X7_begin_b123) ((0 : Int32), (cpM (cpM (cpM (cpM (cpM (cpM (cpM (sI (sI mm 14 0 (mI mm a1 8)) 14 1 (mI (sI mm 14 0 (mI mm a1 8)) a1 9)) (a1 + 1 + 0) (ix (0 : Int32)) 15 (ix (0 : Int32)) (ix (6 : Int32))) (a1 + 1 + 1) (ix (0 : Int32)) 16 (ix (0 : Int32)) (ix (6 : Int32))) (a1 + 1 + 2) (ix (0 : Int32)) 17 (ix (0 : Int32)) (ix (6 : Int32))) (a1 + 1 + 3) (ix (0 : Int32)) 19 (ix (0 : Int32)) (ix (8 : Int32))) (a1 + 1 + 5) (ix (0 : Int32)) 20 (ix (0 : Int32)) (ix (12 : Int32))) (a1 + 1 + 6) (ix (0 : Int32)) 21 (ix (0 : Int32)) (ix (12 : Int32))) (a1 + 1 + 7) (ix (0 : Int32)) 22 (ix (0 : Int32)) (ix (12 : Int32))))).bind (fun p9 => if ((some a1) : Option Nat) = (sR S 14 11) then (some (S, p9)) else ((m_X2_fillKeepable S a1 23 p9).bind (fun q17 => some ((sRs S 14 11 (some a1)), q17)))))))))))
set_option maxHeartbeats 4000000 in
set_option maxRecDepth 100000 in
theorem c_X7_begin {l : Launch} {G : Gt} {S : Sk} {a1 : Nat} {mm : Mm} (hI : SI S) (ha1 : KD S a1 2) {q : Sk × Mm} (e : m_X7_begin S a1 mm = some q) : CallOK l G M_X7_begin yX7_begin 3 [vr (some 14), vr (some a1)] S mm (none) q.1 q.2 := by
  have hS := hI.1
  refine call_of_run rfl rfl rfl (Nat.le_of_ble_eq_true rfl) ?_
  show Run l G M_X7_begin 3 0 [some (vr (some 14)), some (vr (some a1)), none] [] S mm (none) q.1 q.2
  unfold m_X7_begin at e
  refine r_aload_n dX7_begin_0 rfl ?_
  refine r_aload_n dX7_begin_1 rfl ?_
  refine r_getI dX7_begin_2 fl_X7_50 rfl ha1.1 ha1.2 ?_
  refine r_putI dX7_begin_5 fl_X7_9 ft_7_0 (Or.inl rfl) rfl rfl rfl (lp_14 hS) (lq_14 hS) ?_
  refine r_aload_n dX7_begin_8 rfl ?_
  refine r_aload_n dX7_begin_9 rfl ?_
  refine r_getI dX7_begin_10 fl_X7_53 rfl ha1.1 ha1.2 ?_
  refine r_putI dX7_begin_13 fl_X7_15 ft_7_1 (Or.inl rfl) rfl rfl rfl (lp_14 hS) (lq_14 hS) ?_
  refine r_aload_n dX7_begin_16 rfl ?_
  refine r_getR dX7_begin_17 fl_X7_54 rfl ha1.1 ha1.2 (hI.2.1 a1 ha1 0 (by decide)).1 ?_
  refine r_iconst (v := 0) dX7_begin_20 ci_0 ?_
  refine r_aload_n dX7_begin_21 rfl ?_
  refine r_getR dX7_begin_22 fl_X7_18 rfl (lp_14 hS) (lq_14 hS) (lr_14_2 hS) ?_
  refine r_iconst (v := 0) dX7_begin_25 ci_0 ?_
  refine r_bipush (v := 6) dX7_begin_26 cb_6 ?_
  obtain ⟨hc1, e⟩ := gP_some e
  refine r_copy (rest := []) dX7_begin_28 cp_X7_55 (hI.2.1 a1 ha1 0 (by decide)).2.1 (hI.2.1 a1 ha1 0 (by decide)).2.2 (lp_15 hS) (lk_15 hS) (by decide) (by decide) hc1 (by decide) (Nat.le_of_ble_eq_true rfl) ?_
  refine r_aload_n dX7_begin_31 rfl ?_
  refine r_getR dX7_begin_32 fl_X7_61 rfl ha1.1 ha1.2 (hI.2.1 a1 ha1 1 (by decide)).1 ?_
  refine r_iconst (v := 0) dX7_begin_35 ci_0 ?_
  refine r_aload_n dX7_begin_36 rfl ?_
  refine r_getR dX7_begin_37 fl_X7_22 rfl (lp_14 hS) (lq_14 hS) (lr_14_3 hS) ?_
  refine r_iconst (v := 0) dX7_begin_40 ci_0 ?_
  refine r_bipush (v := 6) dX7_begin_41 cb_6 ?_
  obtain ⟨hc2, e⟩ := gP_some e
  refine r_copy (rest := []) dX7_begin_43 cp_X7_55 (hI.2.1 a1 ha1 1 (by decide)).2.1 (hI.2.1 a1 ha1 1 (by decide)).2.2 (lp_16 hS) (lk_16 hS) (by decide) (by decide) hc2 (by decide) (Nat.le_of_ble_eq_true rfl) ?_
  refine r_aload_n dX7_begin_46 rfl ?_
  refine r_getR dX7_begin_47 fl_X7_62 rfl ha1.1 ha1.2 (hI.2.1 a1 ha1 2 (by decide)).1 ?_
  refine r_iconst (v := 0) dX7_begin_50 ci_0 ?_
  refine r_aload_n dX7_begin_51 rfl ?_
  refine r_getR dX7_begin_52 fl_X7_25 rfl (lp_14 hS) (lq_14 hS) (lr_14_4 hS) ?_
  refine r_iconst (v := 0) dX7_begin_55 ci_0 ?_
  refine r_bipush (v := 6) dX7_begin_56 cb_6 ?_
  obtain ⟨hc3, e⟩ := gP_some e
  refine r_copy (rest := []) dX7_begin_58 cp_X7_55 (hI.2.1 a1 ha1 2 (by decide)).2.1 (hI.2.1 a1 ha1 2 (by decide)).2.2 (lp_17 hS) (lk_17 hS) (by decide) (by decide) hc3 (by decide) (Nat.le_of_ble_eq_true rfl) ?_
  refine r_aload_n dX7_begin_61 rfl ?_
  refine r_getR dX7_begin_62 fl_X7_63 rfl ha1.1 ha1.2 (hI.2.1 a1 ha1 3 (by decide)).1 ?_
  refine r_iconst (v := 0) dX7_begin_65 ci_0 ?_
  refine r_aload_n dX7_begin_66 rfl ?_
  refine r_getR dX7_begin_67 fl_X7_31 rfl (lp_14 hS) (lq_14 hS) (lr_14_6 hS) ?_
  refine r_iconst (v := 0) dX7_begin_70 ci_0 ?_
  refine r_bipush (v := 8) dX7_begin_71 cb_8 ?_
  obtain ⟨hc4, e⟩ := gP_some e
  refine r_copy (rest := []) dX7_begin_73 cp_X7_55 (hI.2.1 a1 ha1 3 (by decide)).2.1 (hI.2.1 a1 ha1 3 (by decide)).2.2 (lp_19 hS) (lk_19 hS) (by decide) (by decide) hc4 (by decide) (Nat.le_of_ble_eq_true rfl) ?_
  refine r_aload_n dX7_begin_76 rfl ?_
  refine r_getR dX7_begin_77 fl_X7_64 rfl ha1.1 ha1.2 (hI.2.1 a1 ha1 5 (by decide)).1 ?_
  refine r_iconst (v := 0) dX7_begin_80 ci_0 ?_
  refine r_aload_n dX7_begin_81 rfl ?_
  refine r_getR dX7_begin_82 fl_X7_34 rfl (lp_14 hS) (lq_14 hS) (lr_14_7 hS) ?_
  refine r_iconst (v := 0) dX7_begin_85 ci_0 ?_
  refine r_bipush (v := 12) dX7_begin_86 cb_12 ?_
  obtain ⟨hc5, e⟩ := gP_some e
  refine r_copy (rest := []) dX7_begin_88 cp_X7_55 (hI.2.1 a1 ha1 5 (by decide)).2.1 (hI.2.1 a1 ha1 5 (by decide)).2.2 (lp_20 hS) (lk_20 hS) (by decide) (by decide) hc5 (by decide) (Nat.le_of_ble_eq_true rfl) ?_
  refine r_aload_n dX7_begin_91 rfl ?_
  refine r_getR dX7_begin_92 fl_X7_65 rfl ha1.1 ha1.2 (hI.2.1 a1 ha1 6 (by decide)).1 ?_
  refine r_iconst (v := 0) dX7_begin_95 ci_0 ?_
  refine r_aload_n dX7_begin_96 rfl ?_
  refine r_getR dX7_begin_97 fl_X7_37 rfl (lp_14 hS) (lq_14 hS) (lr_14_8 hS) ?_
  refine r_iconst (v := 0) dX7_begin_100 ci_0 ?_
  refine r_bipush (v := 12) dX7_begin_101 cb_12 ?_
  obtain ⟨hc6, e⟩ := gP_some e
  refine r_copy (rest := []) dX7_begin_103 cp_X7_55 (hI.2.1 a1 ha1 6 (by decide)).2.1 (hI.2.1 a1 ha1 6 (by decide)).2.2 (lp_21 hS) (lk_21 hS) (by decide) (by decide) hc6 (by decide) (Nat.le_of_ble_eq_true rfl) ?_
  refine r_aload_n dX7_begin_106 rfl ?_
  refine r_getR dX7_begin_107 fl_X7_66 rfl ha1.1 ha1.2 (hI.2.1 a1 ha1 7 (by decide)).1 ?_
  refine r_iconst (v := 0) dX7_begin_110 ci_0 ?_
  refine r_aload_n dX7_begin_111 rfl ?_
  refine r_getR dX7_begin_112 fl_X7_40 rfl (lp_14 hS) (lq_14 hS) (lr_14_9 hS) ?_
  refine r_iconst (v := 0) dX7_begin_115 ci_0 ?_
  refine r_bipush (v := 12) dX7_begin_116 cb_12 ?_
  obtain ⟨hc7, e⟩ := gP_some e
  refine r_copy (rest := []) dX7_begin_118 cp_X7_55 (hI.2.1 a1 ha1 7 (by decide)).2.1 (hI.2.1 a1 ha1 7 (by decide)).2.2 (lp_22 hS) (lk_22 hS) (by decide) (by decide) hc7 (by decide) (Nat.le_of_ble_eq_true rfl) ?_
  refine r_iconst (v := 0) dX7_begin_121 ci_0 ?_
  refine r_istore_n dX7_begin_122 (by decide) rfl ?_
  obtain ⟨p9, eb13w, e⟩ := obind e
  have J10a : Run l G M_X7_begin 3 145 [some (vr (some 14)), some (vr (some a1)), none] [] S p9 (none) q.1 q.2 := by
    refine r_aload_n dX7_begin_145 rfl ?_
    refine r_aload_n dX7_begin_146 rfl ?_
    refine r_getR dX7_begin_147 fl_X7_46 rfl (lp_14 hS) (lq_14 hS) rfl ?_
    refine r_acmp_eq (tgt := 166) dX7_begin_150 rfl (fun h16 => ?_) (fun h16 => ?_)
    · replace e := ite_t h16 e
      cases e
      exact r_return dX7_begin_166 rfl
    · replace e := ite_f h16 e
      refine r_aload_n dX7_begin_153 rfl ?_
      refine r_aload_n dX7_begin_154 rfl ?_
      refine r_getR dX7_begin_155 fl_X7_43 rfl (lp_14 hS) (lq_14 hS) (lr_14_10 hS) ?_
      obtain ⟨q17, eq18, e⟩ := obind e
      refine r_callV (as := [_]) (rest := []) dX7_begin_158 ml_X7_67 yV_X2_fillKeepable (c_X2_fillKeepable hI ha1 ⟨lp_23 hS, lq_23 hS⟩ eq18) (by decide) rfl ha1.1 ha1.2 (Nat.le_of_ble_eq_true rfl) ?_
      refine r_aload_n dX7_begin_161 rfl ?_
      refine r_aload_n dX7_begin_162 rfl ?_
      refine r_putR dX7_begin_163 fl_X7_46 ft_7_11 (Or.inl rfl) rfl (lp_14 hS) (lq_14 hS) ?_
      cases e
      exact r_return dX7_begin_166 rfl
  have J10 : ∀ pp : Mm, pp = p9 → Run l G M_X7_begin 3 145 [some (vr (some 14)), some (vr (some a1)), none] [] S pp (none) q.1 q.2 := by
    intro pp hpp
    rw [hpp]
    exact J10a
  have J10w : Run l G M_X7_begin 3 123 [some (vr (some 14)), some (vr (some a1)), some (vi (0 : Int32))] [] S (cpM (cpM (cpM (cpM (cpM (cpM (cpM (sI (sI mm 14 0 (mI mm a1 8)) 14 1 (mI (sI mm 14 0 (mI mm a1 8)) a1 9)) (a1 + 1 + 0) (ix (0 : Int32)) 15 (ix (0 : Int32)) (ix (6 : Int32))) (a1 + 1 + 1) (ix (0 : Int32)) 16 (ix (0 : Int32)) (ix (6 : Int32))) (a1 + 1 + 2) (ix (0 : Int32)) 17 (ix (0 : Int32)) (ix (6 : Int32))) (a1 + 1 + 3) (ix (0 : Int32)) 19 (ix (0 : Int32)) (ix (8 : Int32))) (a1 + 1 + 5) (ix (0 : Int32)) 20 (ix (0 : Int32)) (ix (12 : Int32))) (a1 + 1 + 6) (ix (0 : Int32)) 21 (ix (0 : Int32)) (ix (12 : Int32))) (a1 + 1 + 7) (ix (0 : Int32)) 22 (ix (0 : Int32)) (ix (12 : Int32))) (none) q.1 q.2 := by
    refine while_run (s := ((0 : Int32), (cpM (cpM (cpM (cpM (cpM (cpM (cpM (sI (sI mm 14 0 (mI mm a1 8)) 14 1 (mI (sI mm 14 0 (mI mm a1 8)) a1 9)) (a1 + 1 + 0) (ix (0 : Int32)) 15 (ix (0 : Int32)) (ix (6 : Int32))) (a1 + 1 + 1) (ix (0 : Int32)) 16 (ix (0 : Int32)) (ix (6 : Int32))) (a1 + 1 + 2) (ix (0 : Int32)) 17 (ix (0 : Int32)) (ix (6 : Int32))) (a1 + 1 + 3) (ix (0 : Int32)) 19 (ix (0 : Int32)) (ix (8 : Int32))) (a1 + 1 + 5) (ix (0 : Int32)) 20 (ix (0 : Int32)) (ix (12 : Int32))) (a1 + 1 + 6) (ix (0 : Int32)) 21 (ix (0 : Int32)) (ix (12 : Int32))) (a1 + 1 + 7) (ix (0 : Int32)) 22 (ix (0 : Int32)) (ix (12 : Int32))))) (Gs := fun (z8 : Int32 × Mm) => Run l G M_X7_begin 3 123 [some (vr (some 14)), some (vr (some a1)), some (vi z8.1)] [] S z8.2 (none) q.1 q.2) eb13w ?_
    intro z8 x11y eb13 hx12
    unfold m_X7_begin_b123 at eb13
    refine r_iload_n dX7_begin_123 rfl ?_
    refine r_aload_n dX7_begin_124 rfl ?_
    refine r_getR dX7_begin_125 fl_X7_28 rfl (lp_14 hS) (lq_14 hS) (lr_14_5 hS) ?_
    refine r_alen (v := 36) dX7_begin_128 (lp_18 hS) (lk_18 hS) (by decide) (by decide) (by decide) ?_
    refine r_icmp_ge (tgt := 145) dX7_begin_129 rfl (fun h14 => ?_) (fun h14 => ?_)
    · replace eb13 := ite_t h14 eb13
      cases eb13
      exact r_weak (L' := [some (vr (some 14)), some (vr (some a1)), none]) ⟨rfl, rfl, trivial⟩ (J10 _ hx12)
    · replace eb13 := ite_f h14 eb13
      refine r_aload_n dX7_begin_132 rfl ?_
      refine r_getR dX7_begin_133 fl_X7_28 rfl (lp_14 hS) (lq_14 hS) (lr_14_5 hS) ?_
      refine r_iload_n dX7_begin_136 rfl ?_
      refine r_iconst (v := 0) dX7_begin_137 ci_0 ?_
      obtain ⟨hg15, eb13⟩ := grd_some eb13
      refine r_iast dX7_begin_138 (lp_18 hS) (lk_18 hS) hg15 ?_
      refine r_iinc (v := _ + (1 : Int32)) dX7_begin_139 rfl (congrArg (_ + ·) ci_1) (by decide) rfl ?_
      refine r_goto (tgt := 123) dX7_begin_142 rfl ?_
      cases eb13
      exact r_weak (L' := [some (vr (some 14)), some (vr (some a1)), some (vi (z8.1 + (1 : Int32)))]) ⟨rfl, rfl, rfl, trivial⟩ hx12
  exact r_weak (L' := [some (vr (some 14)), some (vr (some a1)), some (vi (0 : Int32))]) ⟨rfl, rfl, rfl, trivial⟩ J10w
noncomputable def m_X3_begin (S : Sk) (a1 : Nat) (mm : Mm) : Option (Sk × Mm) := (m_X7_begin S a1 mm).bind (fun q1 => gP (Lay q1.1) (some (q1.1, (sI (sI (sI (sI (sI (sI (sI (sI q1.2 13 1 (0 : Int32)) 13 2 (0 : Int32)) 13 3 (0 : Int32)) 13 4 (0 : Int32)) 13 5 (-1 : Int32)) 13 6 (-1 : Int32)) 13 7 (-1 : Int32)) 13 8 (0 : Int32)))))
set_option maxHeartbeats 4000000 in
set_option maxRecDepth 100000 in
theorem c_X3_begin {l : Launch} {G : Gt} {S : Sk} {a1 : Nat} {mm : Mm} (hI : SI S) (ha1 : KD S a1 2) {q : Sk × Mm} (e : m_X3_begin S a1 mm = some q) : CallOK l G M_X3_begin yX3_begin 4 [vr (some 13), vr (some a1)] S mm (none) q.1 q.2 := by
  have hS := hI.1
  refine call_of_run rfl rfl rfl (Nat.le_of_ble_eq_true rfl) ?_
  show Run l G M_X3_begin 4 0 [some (vr (some 13)), some (vr (some a1))] [] S mm (none) q.1 q.2
  unfold m_X3_begin at e
  refine r_aload_n dX3_begin_0 rfl ?_
  refine r_getR dX3_begin_1 fl_X3_12 rfl (lp_13 hS) (lq_13 hS) (lr_13_0 hS) ?_
  refine r_aload_n dX3_begin_4 rfl ?_
  obtain ⟨q1, eq2, e⟩ := obind e
  refine r_callV (as := [_]) (rest := []) dX3_begin_5 ml_X3_50 yV_X7_begin (c_X7_begin hI ha1 eq2) (by decide) rfl (lp_14 hS) (lq_14 hS) (Nat.le_of_ble_eq_true rfl) ?_
  refine r_aload_n dX3_begin_8 rfl ?_
  refine r_iconst (v := 0) dX3_begin_9 ci_0 ?_
  obtain ⟨hn3, e⟩ := gP_some e
  refine r_putI dX3_begin_10 fl_X3_18 ft_3_1 (Or.inl rfl) rfl rfl rfl (lp_13 hn3) (lq_13 hn3) ?_
  refine r_aload_n dX3_begin_13 rfl ?_
  refine r_iconst (v := 0) dX3_begin_14 ci_0 ?_
  refine r_putI dX3_begin_15 fl_X3_22 ft_3_2 (Or.inl rfl) rfl rfl rfl (lp_13 hn3) (lq_13 hn3) ?_
  refine r_aload_n dX3_begin_18 rfl ?_
  refine r_iconst (v := 0) dX3_begin_19 ci_0 ?_
  refine r_putI dX3_begin_20 fl_X3_25 ft_3_3 (Or.inl rfl) rfl rfl rfl (lp_13 hn3) (lq_13 hn3) ?_
  refine r_aload_n dX3_begin_23 rfl ?_
  refine r_iconst (v := 0) dX3_begin_24 ci_0 ?_
  refine r_putI dX3_begin_25 fl_X3_28 ft_3_4 (Or.inl rfl) rfl rfl rfl (lp_13 hn3) (lq_13 hn3) ?_
  refine r_aload_n dX3_begin_28 rfl ?_
  refine r_iconst (v := -1) dX3_begin_29 ci_m1 ?_
  refine r_putI dX3_begin_30 fl_X3_31 ft_3_5 (Or.inl rfl) rfl rfl rfl (lp_13 hn3) (lq_13 hn3) ?_
  refine r_aload_n dX3_begin_33 rfl ?_
  refine r_iconst (v := -1) dX3_begin_34 ci_m1 ?_
  refine r_putI dX3_begin_35 fl_X3_34 ft_3_6 (Or.inl rfl) rfl rfl rfl (lp_13 hn3) (lq_13 hn3) ?_
  refine r_aload_n dX3_begin_38 rfl ?_
  refine r_iconst (v := -1) dX3_begin_39 ci_m1 ?_
  refine r_putI dX3_begin_40 fl_X3_37 ft_3_7 (Or.inl rfl) rfl rfl rfl (lp_13 hn3) (lq_13 hn3) ?_
  refine r_aload_n dX3_begin_43 rfl ?_
  refine r_iconst (v := 0) dX3_begin_44 ci_0 ?_
  refine r_putI dX3_begin_45 fl_X3_40 ft_3_8 (Or.inl rfl) rfl rfl rfl (lp_13 hn3) (lq_13 hn3) ?_
  cases e
  exact r_return dX3_begin_48 rfl
noncomputable def m_X7_swearersOf_b4 (a1 : Int32) (mm : Mm) (z1 : Int32 × Int32) : Option ((Int32 × Int32) ⊕ (Int32)) := if (mI mm 14 1) ≤ z1.2 then (some (.inr z1.1)) else ((if (m_X11_has a1 z1.2) = 0 then (some z1.1) else (grd z1.2 12 (some (z1.1 ||| (xshl (1 : Int32) (mI mm 20 (ix z1.2)))))) : Option (Int32)).bind (fun p8 => some (.inl (p8, z1.2 + (1 : Int32)))))
noncomputable def m_X7_swearersOf (a1 : Int32) (mm : Mm) : Option (Int32) := (whileF FU (m_X7_swearersOf_b4 a1 mm) ((0 : Int32), (0 : Int32))).bind (fun p2 => some p2)
set_option maxHeartbeats 4000000 in
set_option maxRecDepth 100000 in
theorem c_X7_swearersOf {l : Launch} {G : Gt} {S : Sk} {a1 : Int32} {mm : Mm} (hS : Lay S) {q : Int32} (e : m_X7_swearersOf a1 mm = some q) : CallOK l G M_X7_swearersOf yX7_swearersOf 1 [vr (some 14), vi a1] S mm (some (vi q)) S mm := by
  refine call_of_run rfl rfl rfl (Nat.le_of_ble_eq_true rfl) ?_
  show Run l G M_X7_swearersOf 1 0 [some (vr (some 14)), some (vi a1), none, none] [] S mm (some (vi q)) S mm
  unfold m_X7_swearersOf at e
  refine r_iconst (v := 0) dX7_swearersOf_0 ci_0 ?_
  refine r_istore_n dX7_swearersOf_1 (by decide) rfl ?_
  refine r_iconst (v := 0) dX7_swearersOf_2 ci_0 ?_
  refine r_istore_n dX7_swearersOf_3 (by decide) rfl ?_
  obtain ⟨p2, eb6w, e⟩ := obind e
  have J3a : Run l G M_X7_swearersOf 1 37 [none, none, some (vi p2), none] [] S mm (some (vi q)) S mm := by
    refine r_iload_n dX7_swearersOf_37 rfl ?_
    cases e
    exact r_ireturn dX7_swearersOf_38 rfl rfl
  have J3 : ∀ pp : Int32, pp = p2 → Run l G M_X7_swearersOf 1 37 [none, none, some (vi pp), none] [] S mm (some (vi q)) S mm := by
    intro pp hpp
    rw [hpp]
    exact J3a
  have J3w : Run l G M_X7_swearersOf 1 4 [some (vr (some 14)), some (vi a1), some (vi (0 : Int32)), some (vi (0 : Int32))] [] S mm (some (vi q)) S mm := by
    refine while_run (s := ((0 : Int32), (0 : Int32))) (Gs := fun (z1 : Int32 × Int32) => Run l G M_X7_swearersOf 1 4 [some (vr (some 14)), some (vi a1), some (vi z1.1), some (vi z1.2)] [] S mm (some (vi q)) S mm) eb6w ?_
    intro z1 x4y eb6 hx5
    unfold m_X7_swearersOf_b4 at eb6
    refine r_iload_n dX7_swearersOf_4 rfl ?_
    refine r_aload_n dX7_swearersOf_5 rfl ?_
    refine r_getI dX7_swearersOf_6 fl_X7_15 rfl (lp_14 hS) (lq_14 hS) ?_
    refine r_icmp_ge (tgt := 37) dX7_swearersOf_9 rfl (fun h7 => ?_) (fun h7 => ?_)
    · replace eb6 := ite_t h7 eb6
      cases eb6
      exact r_weak (L' := [none, none, some (vi z1.1), none]) ⟨rfl, trivial⟩ (J3 _ hx5)
    · replace eb6 := ite_f h7 eb6
      refine r_iload_n dX7_swearersOf_12 rfl ?_
      refine r_iload_n dX7_swearersOf_13 rfl ?_
      refine r_callSN (as := [_, _]) (rest := []) dX7_swearersOf_14 nl_X7_79 yS_X11_has (c_X11_has) (by decide) rfl (Nat.le_of_ble_eq_true rfl) ?_
      obtain ⟨p8, ep10, eb6⟩ := obind eb6
      have J9a : Run l G M_X7_swearersOf 1 31 [some (vr (some 14)), some (vi a1), some (vi p8), some (vi z1.2)] [] S mm (some (vi q)) S mm := by
        refine r_iinc (v := _ + (1 : Int32)) dX7_swearersOf_31 rfl (congrArg (_ + ·) ci_1) (by decide) rfl ?_
        refine r_goto (tgt := 4) dX7_swearersOf_34 rfl ?_
        cases eb6
        exact r_weak (L' := [some (vr (some 14)), some (vi a1), some (vi p8), some (vi (z1.2 + (1 : Int32)))]) ⟨rfl, rfl, rfl, rfl, trivial⟩ hx5
      have J9 : ∀ pp : Int32, pp = p8 → Run l G M_X7_swearersOf 1 31 [some (vr (some 14)), some (vi a1), some (vi pp), some (vi z1.2)] [] S mm (some (vi q)) S mm := by
        intro pp hpp
        rw [hpp]
        exact J9a
      refine r_if_eq (tgt := 31) dX7_swearersOf_17 rfl (fun h12 => ?_) (fun h12 => ?_)
      · replace ep10 := ite_t h12 ep10
        exact r_weak (L' := [some (vr (some 14)), some (vi a1), some (vi z1.1), some (vi z1.2)]) ⟨rfl, rfl, rfl, rfl, trivial⟩ (J9 _ (Option.some.inj ep10))
      · replace ep10 := ite_f h12 ep10
        refine r_iload_n dX7_swearersOf_20 rfl ?_
        refine r_iconst (v := 1) dX7_swearersOf_21 ci_1 ?_
        refine r_aload_n dX7_swearersOf_22 rfl ?_
        refine r_getR dX7_swearersOf_23 fl_X7_34 rfl (lp_14 hS) (lq_14 hS) (lr_14_7 hS) ?_
        refine r_iload_n dX7_swearersOf_26 rfl ?_
        obtain ⟨hg13, ep10⟩ := grd_some ep10
        refine r_iald dX7_swearersOf_27 (lp_20 hS) (lk_20 hS) hg13 ?_
        refine r_ishl dX7_swearersOf_28 ?_
        refine r_ior dX7_swearersOf_29 ?_
        refine r_istore_n dX7_swearersOf_30 (by decide) rfl ?_
        exact r_weak (L' := [some (vr (some 14)), some (vi a1), some (vi (z1.1 ||| (xshl (1 : Int32) (mI mm 20 (ix z1.2))))), some (vi z1.2)]) ⟨rfl, rfl, rfl, rfl, trivial⟩ (J9 _ (Option.some.inj ep10))
  exact r_weak (L' := [some (vr (some 14)), some (vi a1), some (vi (0 : Int32)), some (vi (0 : Int32))]) ⟨rfl, rfl, rfl, rfl, trivial⟩ J3w
noncomputable def m_X3_holdMonday (a1 : Int32) (mm : Mm) : Option (Mm) := (m_X7_brokenOaths (0 : Int32) mm).bind (fun q1 => (m_X7_swearersOf q1 (if (mI (if ((mI mm 14 1) - (m_J6_bitCount_0f7a4 q1)) ≤ (mI (sI (sI (sI mm 13 1 ((mI mm 13 1) + (1 : Int32))) 13 2 ((mI (sI mm 13 1 ((mI mm 13 1) + (1 : Int32))) 13 2) + ((mI mm 14 1) - (m_J6_bitCount_0f7a4 q1)))) 13 3 ((mI (sI (sI mm 13 1 ((mI mm 13 1) + (1 : Int32))) 13 2 ((mI (sI mm 13 1 ((mI mm 13 1) + (1 : Int32))) 13 2) + ((mI mm 14 1) - (m_J6_bitCount_0f7a4 q1)))) 13 3) + (m_J6_bitCount_0f7a4 q1))) 13 7) then (sI (sI (sI mm 13 1 ((mI mm 13 1) + (1 : Int32))) 13 2 ((mI (sI mm 13 1 ((mI mm 13 1) + (1 : Int32))) 13 2) + ((mI mm 14 1) - (m_J6_bitCount_0f7a4 q1)))) 13 3 ((mI (sI (sI mm 13 1 ((mI mm 13 1) + (1 : Int32))) 13 2 ((mI (sI mm 13 1 ((mI mm 13 1) + (1 : Int32))) 13 2) + ((mI mm 14 1) - (m_J6_bitCount_0f7a4 q1)))) 13 3) + (m_J6_bitCount_0f7a4 q1))) else (sI (sI (sI (sI (sI mm 13 1 ((mI mm 13 1) + (1 : Int32))) 13 2 ((mI (sI mm 13 1 ((mI mm 13 1) + (1 : Int32))) 13 2) + ((mI mm 14 1) - (m_J6_bitCount_0f7a4 q1)))) 13 3 ((mI (sI (sI mm 13 1 ((mI mm 13 1) + (1 : Int32))) 13 2 ((mI (sI mm 13 1 ((mI mm 13 1) + (1 : Int32))) 13 2) + ((mI mm 14 1) - (m_J6_bitCount_0f7a4 q1)))) 13 3) + (m_J6_bitCount_0f7a4 q1))) 13 7 ((mI mm 14 1) - (m_J6_bitCount_0f7a4 q1))) 13 6 (mI (sI (sI (sI (sI mm 13 1 ((mI mm 13 1) + (1 : Int32))) 13 2 ((mI (sI mm 13 1 ((mI mm 13 1) + (1 : Int32))) 13 2) + ((mI mm 14 1) - (m_J6_bitCount_0f7a4 q1)))) 13 3 ((mI (sI (sI mm 13 1 ((mI mm 13 1) + (1 : Int32))) 13 2 ((mI (sI mm 13 1 ((mI mm 13 1) + (1 : Int32))) 13 2) + ((mI mm 14 1) - (m_J6_bitCount_0f7a4 q1)))) 13 3) + (m_J6_bitCount_0f7a4 q1))) 13 7 ((mI mm 14 1) - (m_J6_bitCount_0f7a4 q1))) 13 1))) 13 4) = 0 then (if q1 = 0 then (if ((mI mm 14 1) - (m_J6_bitCount_0f7a4 q1)) ≤ (mI (sI (sI (sI mm 13 1 ((mI mm 13 1) + (1 : Int32))) 13 2 ((mI (sI mm 13 1 ((mI mm 13 1) + (1 : Int32))) 13 2) + ((mI mm 14 1) - (m_J6_bitCount_0f7a4 q1)))) 13 3 ((mI (sI (sI mm 13 1 ((mI mm 13 1) + (1 : Int32))) 13 2 ((mI (sI mm 13 1 ((mI mm 13 1) + (1 : Int32))) 13 2) + ((mI mm 14 1) - (m_J6_bitCount_0f7a4 q1)))) 13 3) + (m_J6_bitCount_0f7a4 q1))) 13 7) then (sI (sI (sI mm 13 1 ((mI mm 13 1) + (1 : Int32))) 13 2 ((mI (sI mm 13 1 ((mI mm 13 1) + (1 : Int32))) 13 2) + ((mI mm 14 1) - (m_J6_bitCount_0f7a4 q1)))) 13 3 ((mI (sI (sI mm 13 1 ((mI mm 13 1) + (1 : Int32))) 13 2 ((mI (sI mm 13 1 ((mI mm 13 1) + (1 : Int32))) 13 2) + ((mI mm 14 1) - (m_J6_bitCount_0f7a4 q1)))) 13 3) + (m_J6_bitCount_0f7a4 q1))) else (sI (sI (sI (sI (sI mm 13 1 ((mI mm 13 1) + (1 : Int32))) 13 2 ((mI (sI mm 13 1 ((mI mm 13 1) + (1 : Int32))) 13 2) + ((mI mm 14 1) - (m_J6_bitCount_0f7a4 q1)))) 13 3 ((mI (sI (sI mm 13 1 ((mI mm 13 1) + (1 : Int32))) 13 2 ((mI (sI mm 13 1 ((mI mm 13 1) + (1 : Int32))) 13 2) + ((mI mm 14 1) - (m_J6_bitCount_0f7a4 q1)))) 13 3) + (m_J6_bitCount_0f7a4 q1))) 13 7 ((mI mm 14 1) - (m_J6_bitCount_0f7a4 q1))) 13 6 (mI (sI (sI (sI (sI mm 13 1 ((mI mm 13 1) + (1 : Int32))) 13 2 ((mI (sI mm 13 1 ((mI mm 13 1) + (1 : Int32))) 13 2) + ((mI mm 14 1) - (m_J6_bitCount_0f7a4 q1)))) 13 3 ((mI (sI (sI mm 13 1 ((mI mm 13 1) + (1 : Int32))) 13 2 ((mI (sI mm 13 1 ((mI mm 13 1) + (1 : Int32))) 13 2) + ((mI mm 14 1) - (m_J6_bitCount_0f7a4 q1)))) 13 3) + (m_J6_bitCount_0f7a4 q1))) 13 7 ((mI mm 14 1) - (m_J6_bitCount_0f7a4 q1))) 13 1))) else (sI (if ((mI mm 14 1) - (m_J6_bitCount_0f7a4 q1)) ≤ (mI (sI (sI (sI mm 13 1 ((mI mm 13 1) + (1 : Int32))) 13 2 ((mI (sI mm 13 1 ((mI mm 13 1) + (1 : Int32))) 13 2) + ((mI mm 14 1) - (m_J6_bitCount_0f7a4 q1)))) 13 3 ((mI (sI (sI mm 13 1 ((mI mm 13 1) + (1 : Int32))) 13 2 ((mI (sI mm 13 1 ((mI mm 13 1) + (1 : Int32))) 13 2) + ((mI mm 14 1) - (m_J6_bitCount_0f7a4 q1)))) 13 3) + (m_J6_bitCount_0f7a4 q1))) 13 7) then (sI (sI (sI mm 13 1 ((mI mm 13 1) + (1 : Int32))) 13 2 ((mI (sI mm 13 1 ((mI mm 13 1) + (1 : Int32))) 13 2) + ((mI mm 14 1) - (m_J6_bitCount_0f7a4 q1)))) 13 3 ((mI (sI (sI mm 13 1 ((mI mm 13 1) + (1 : Int32))) 13 2 ((mI (sI mm 13 1 ((mI mm 13 1) + (1 : Int32))) 13 2) + ((mI mm 14 1) - (m_J6_bitCount_0f7a4 q1)))) 13 3) + (m_J6_bitCount_0f7a4 q1))) else (sI (sI (sI (sI (sI mm 13 1 ((mI mm 13 1) + (1 : Int32))) 13 2 ((mI (sI mm 13 1 ((mI mm 13 1) + (1 : Int32))) 13 2) + ((mI mm 14 1) - (m_J6_bitCount_0f7a4 q1)))) 13 3 ((mI (sI (sI mm 13 1 ((mI mm 13 1) + (1 : Int32))) 13 2 ((mI (sI mm 13 1 ((mI mm 13 1) + (1 : Int32))) 13 2) + ((mI mm 14 1) - (m_J6_bitCount_0f7a4 q1)))) 13 3) + (m_J6_bitCount_0f7a4 q1))) 13 7 ((mI mm 14 1) - (m_J6_bitCount_0f7a4 q1))) 13 6 (mI (sI (sI (sI (sI mm 13 1 ((mI mm 13 1) + (1 : Int32))) 13 2 ((mI (sI mm 13 1 ((mI mm 13 1) + (1 : Int32))) 13 2) + ((mI mm 14 1) - (m_J6_bitCount_0f7a4 q1)))) 13 3 ((mI (sI (sI mm 13 1 ((mI mm 13 1) + (1 : Int32))) 13 2 ((mI (sI mm 13 1 ((mI mm 13 1) + (1 : Int32))) 13 2) + ((mI mm 14 1) - (m_J6_bitCount_0f7a4 q1)))) 13 3) + (m_J6_bitCount_0f7a4 q1))) 13 7 ((mI mm 14 1) - (m_J6_bitCount_0f7a4 q1))) 13 1))) 13 5 a1)) else (if ((mI mm 14 1) - (m_J6_bitCount_0f7a4 q1)) ≤ (mI (sI (sI (sI mm 13 1 ((mI mm 13 1) + (1 : Int32))) 13 2 ((mI (sI mm 13 1 ((mI mm 13 1) + (1 : Int32))) 13 2) + ((mI mm 14 1) - (m_J6_bitCount_0f7a4 q1)))) 13 3 ((mI (sI (sI mm 13 1 ((mI mm 13 1) + (1 : Int32))) 13 2 ((mI (sI mm 13 1 ((mI mm 13 1) + (1 : Int32))) 13 2) + ((mI mm 14 1) - (m_J6_bitCount_0f7a4 q1)))) 13 3) + (m_J6_bitCount_0f7a4 q1))) 13 7) then (sI (sI (sI mm 13 1 ((mI mm 13 1) + (1 : Int32))) 13 2 ((mI (sI mm 13 1 ((mI mm 13 1) + (1 : Int32))) 13 2) + ((mI mm 14 1) - (m_J6_bitCount_0f7a4 q1)))) 13 3 ((mI (sI (sI mm 13 1 ((mI mm 13 1) + (1 : Int32))) 13 2 ((mI (sI mm 13 1 ((mI mm 13 1) + (1 : Int32))) 13 2) + ((mI mm 14 1) - (m_J6_bitCount_0f7a4 q1)))) 13 3) + (m_J6_bitCount_0f7a4 q1))) else (sI (sI (sI (sI (sI mm 13 1 ((mI mm 13 1) + (1 : Int32))) 13 2 ((mI (sI mm 13 1 ((mI mm 13 1) + (1 : Int32))) 13 2) + ((mI mm 14 1) - (m_J6_bitCount_0f7a4 q1)))) 13 3 ((mI (sI (sI mm 13 1 ((mI mm 13 1) + (1 : Int32))) 13 2 ((mI (sI mm 13 1 ((mI mm 13 1) + (1 : Int32))) 13 2) + ((mI mm 14 1) - (m_J6_bitCount_0f7a4 q1)))) 13 3) + (m_J6_bitCount_0f7a4 q1))) 13 7 ((mI mm 14 1) - (m_J6_bitCount_0f7a4 q1))) 13 6 (mI (sI (sI (sI (sI mm 13 1 ((mI mm 13 1) + (1 : Int32))) 13 2 ((mI (sI mm 13 1 ((mI mm 13 1) + (1 : Int32))) 13 2) + ((mI mm 14 1) - (m_J6_bitCount_0f7a4 q1)))) 13 3 ((mI (sI (sI mm 13 1 ((mI mm 13 1) + (1 : Int32))) 13 2 ((mI (sI mm 13 1 ((mI mm 13 1) + (1 : Int32))) 13 2) + ((mI mm 14 1) - (m_J6_bitCount_0f7a4 q1)))) 13 3) + (m_J6_bitCount_0f7a4 q1))) 13 7 ((mI mm 14 1) - (m_J6_bitCount_0f7a4 q1))) 13 1))))).bind (fun q10 => some (sI (sI (if (mI (if ((mI mm 14 1) - (m_J6_bitCount_0f7a4 q1)) ≤ (mI (sI (sI (sI mm 13 1 ((mI mm 13 1) + (1 : Int32))) 13 2 ((mI (sI mm 13 1 ((mI mm 13 1) + (1 : Int32))) 13 2) + ((mI mm 14 1) - (m_J6_bitCount_0f7a4 q1)))) 13 3 ((mI (sI (sI mm 13 1 ((mI mm 13 1) + (1 : Int32))) 13 2 ((mI (sI mm 13 1 ((mI mm 13 1) + (1 : Int32))) 13 2) + ((mI mm 14 1) - (m_J6_bitCount_0f7a4 q1)))) 13 3) + (m_J6_bitCount_0f7a4 q1))) 13 7) then (sI (sI (sI mm 13 1 ((mI mm 13 1) + (1 : Int32))) 13 2 ((mI (sI mm 13 1 ((mI mm 13 1) + (1 : Int32))) 13 2) + ((mI mm 14 1) - (m_J6_bitCount_0f7a4 q1)))) 13 3 ((mI (sI (sI mm 13 1 ((mI mm 13 1) + (1 : Int32))) 13 2 ((mI (sI mm 13 1 ((mI mm 13 1) + (1 : Int32))) 13 2) + ((mI mm 14 1) - (m_J6_bitCount_0f7a4 q1)))) 13 3) + (m_J6_bitCount_0f7a4 q1))) else (sI (sI (sI (sI (sI mm 13 1 ((mI mm 13 1) + (1 : Int32))) 13 2 ((mI (sI mm 13 1 ((mI mm 13 1) + (1 : Int32))) 13 2) + ((mI mm 14 1) - (m_J6_bitCount_0f7a4 q1)))) 13 3 ((mI (sI (sI mm 13 1 ((mI mm 13 1) + (1 : Int32))) 13 2 ((mI (sI mm 13 1 ((mI mm 13 1) + (1 : Int32))) 13 2) + ((mI mm 14 1) - (m_J6_bitCount_0f7a4 q1)))) 13 3) + (m_J6_bitCount_0f7a4 q1))) 13 7 ((mI mm 14 1) - (m_J6_bitCount_0f7a4 q1))) 13 6 (mI (sI (sI (sI (sI mm 13 1 ((mI mm 13 1) + (1 : Int32))) 13 2 ((mI (sI mm 13 1 ((mI mm 13 1) + (1 : Int32))) 13 2) + ((mI mm 14 1) - (m_J6_bitCount_0f7a4 q1)))) 13 3 ((mI (sI (sI mm 13 1 ((mI mm 13 1) + (1 : Int32))) 13 2 ((mI (sI mm 13 1 ((mI mm 13 1) + (1 : Int32))) 13 2) + ((mI mm 14 1) - (m_J6_bitCount_0f7a4 q1)))) 13 3) + (m_J6_bitCount_0f7a4 q1))) 13 7 ((mI mm 14 1) - (m_J6_bitCount_0f7a4 q1))) 13 1))) 13 4) = 0 then (if q1 = 0 then (if ((mI mm 14 1) - (m_J6_bitCount_0f7a4 q1)) ≤ (mI (sI (sI (sI mm 13 1 ((mI mm 13 1) + (1 : Int32))) 13 2 ((mI (sI mm 13 1 ((mI mm 13 1) + (1 : Int32))) 13 2) + ((mI mm 14 1) - (m_J6_bitCount_0f7a4 q1)))) 13 3 ((mI (sI (sI mm 13 1 ((mI mm 13 1) + (1 : Int32))) 13 2 ((mI (sI mm 13 1 ((mI mm 13 1) + (1 : Int32))) 13 2) + ((mI mm 14 1) - (m_J6_bitCount_0f7a4 q1)))) 13 3) + (m_J6_bitCount_0f7a4 q1))) 13 7) then (sI (sI (sI mm 13 1 ((mI mm 13 1) + (1 : Int32))) 13 2 ((mI (sI mm 13 1 ((mI mm 13 1) + (1 : Int32))) 13 2) + ((mI mm 14 1) - (m_J6_bitCount_0f7a4 q1)))) 13 3 ((mI (sI (sI mm 13 1 ((mI mm 13 1) + (1 : Int32))) 13 2 ((mI (sI mm 13 1 ((mI mm 13 1) + (1 : Int32))) 13 2) + ((mI mm 14 1) - (m_J6_bitCount_0f7a4 q1)))) 13 3) + (m_J6_bitCount_0f7a4 q1))) else (sI (sI (sI (sI (sI mm 13 1 ((mI mm 13 1) + (1 : Int32))) 13 2 ((mI (sI mm 13 1 ((mI mm 13 1) + (1 : Int32))) 13 2) + ((mI mm 14 1) - (m_J6_bitCount_0f7a4 q1)))) 13 3 ((mI (sI (sI mm 13 1 ((mI mm 13 1) + (1 : Int32))) 13 2 ((mI (sI mm 13 1 ((mI mm 13 1) + (1 : Int32))) 13 2) + ((mI mm 14 1) - (m_J6_bitCount_0f7a4 q1)))) 13 3) + (m_J6_bitCount_0f7a4 q1))) 13 7 ((mI mm 14 1) - (m_J6_bitCount_0f7a4 q1))) 13 6 (mI (sI (sI (sI (sI mm 13 1 ((mI mm 13 1) + (1 : Int32))) 13 2 ((mI (sI mm 13 1 ((mI mm 13 1) + (1 : Int32))) 13 2) + ((mI mm 14 1) - (m_J6_bitCount_0f7a4 q1)))) 13 3 ((mI (sI (sI mm 13 1 ((mI mm 13 1) + (1 : Int32))) 13 2 ((mI (sI mm 13 1 ((mI mm 13 1) + (1 : Int32))) 13 2) + ((mI mm 14 1) - (m_J6_bitCount_0f7a4 q1)))) 13 3) + (m_J6_bitCount_0f7a4 q1))) 13 7 ((mI mm 14 1) - (m_J6_bitCount_0f7a4 q1))) 13 1))) else (sI (if ((mI mm 14 1) - (m_J6_bitCount_0f7a4 q1)) ≤ (mI (sI (sI (sI mm 13 1 ((mI mm 13 1) + (1 : Int32))) 13 2 ((mI (sI mm 13 1 ((mI mm 13 1) + (1 : Int32))) 13 2) + ((mI mm 14 1) - (m_J6_bitCount_0f7a4 q1)))) 13 3 ((mI (sI (sI mm 13 1 ((mI mm 13 1) + (1 : Int32))) 13 2 ((mI (sI mm 13 1 ((mI mm 13 1) + (1 : Int32))) 13 2) + ((mI mm 14 1) - (m_J6_bitCount_0f7a4 q1)))) 13 3) + (m_J6_bitCount_0f7a4 q1))) 13 7) then (sI (sI (sI mm 13 1 ((mI mm 13 1) + (1 : Int32))) 13 2 ((mI (sI mm 13 1 ((mI mm 13 1) + (1 : Int32))) 13 2) + ((mI mm 14 1) - (m_J6_bitCount_0f7a4 q1)))) 13 3 ((mI (sI (sI mm 13 1 ((mI mm 13 1) + (1 : Int32))) 13 2 ((mI (sI mm 13 1 ((mI mm 13 1) + (1 : Int32))) 13 2) + ((mI mm 14 1) - (m_J6_bitCount_0f7a4 q1)))) 13 3) + (m_J6_bitCount_0f7a4 q1))) else (sI (sI (sI (sI (sI mm 13 1 ((mI mm 13 1) + (1 : Int32))) 13 2 ((mI (sI mm 13 1 ((mI mm 13 1) + (1 : Int32))) 13 2) + ((mI mm 14 1) - (m_J6_bitCount_0f7a4 q1)))) 13 3 ((mI (sI (sI mm 13 1 ((mI mm 13 1) + (1 : Int32))) 13 2 ((mI (sI mm 13 1 ((mI mm 13 1) + (1 : Int32))) 13 2) + ((mI mm 14 1) - (m_J6_bitCount_0f7a4 q1)))) 13 3) + (m_J6_bitCount_0f7a4 q1))) 13 7 ((mI mm 14 1) - (m_J6_bitCount_0f7a4 q1))) 13 6 (mI (sI (sI (sI (sI mm 13 1 ((mI mm 13 1) + (1 : Int32))) 13 2 ((mI (sI mm 13 1 ((mI mm 13 1) + (1 : Int32))) 13 2) + ((mI mm 14 1) - (m_J6_bitCount_0f7a4 q1)))) 13 3 ((mI (sI (sI mm 13 1 ((mI mm 13 1) + (1 : Int32))) 13 2 ((mI (sI mm 13 1 ((mI mm 13 1) + (1 : Int32))) 13 2) + ((mI mm 14 1) - (m_J6_bitCount_0f7a4 q1)))) 13 3) + (m_J6_bitCount_0f7a4 q1))) 13 7 ((mI mm 14 1) - (m_J6_bitCount_0f7a4 q1))) 13 1))) 13 5 a1)) else (if ((mI mm 14 1) - (m_J6_bitCount_0f7a4 q1)) ≤ (mI (sI (sI (sI mm 13 1 ((mI mm 13 1) + (1 : Int32))) 13 2 ((mI (sI mm 13 1 ((mI mm 13 1) + (1 : Int32))) 13 2) + ((mI mm 14 1) - (m_J6_bitCount_0f7a4 q1)))) 13 3 ((mI (sI (sI mm 13 1 ((mI mm 13 1) + (1 : Int32))) 13 2 ((mI (sI mm 13 1 ((mI mm 13 1) + (1 : Int32))) 13 2) + ((mI mm 14 1) - (m_J6_bitCount_0f7a4 q1)))) 13 3) + (m_J6_bitCount_0f7a4 q1))) 13 7) then (sI (sI (sI mm 13 1 ((mI mm 13 1) + (1 : Int32))) 13 2 ((mI (sI mm 13 1 ((mI mm 13 1) + (1 : Int32))) 13 2) + ((mI mm 14 1) - (m_J6_bitCount_0f7a4 q1)))) 13 3 ((mI (sI (sI mm 13 1 ((mI mm 13 1) + (1 : Int32))) 13 2 ((mI (sI mm 13 1 ((mI mm 13 1) + (1 : Int32))) 13 2) + ((mI mm 14 1) - (m_J6_bitCount_0f7a4 q1)))) 13 3) + (m_J6_bitCount_0f7a4 q1))) else (sI (sI (sI (sI (sI mm 13 1 ((mI mm 13 1) + (1 : Int32))) 13 2 ((mI (sI mm 13 1 ((mI mm 13 1) + (1 : Int32))) 13 2) + ((mI mm 14 1) - (m_J6_bitCount_0f7a4 q1)))) 13 3 ((mI (sI (sI mm 13 1 ((mI mm 13 1) + (1 : Int32))) 13 2 ((mI (sI mm 13 1 ((mI mm 13 1) + (1 : Int32))) 13 2) + ((mI mm 14 1) - (m_J6_bitCount_0f7a4 q1)))) 13 3) + (m_J6_bitCount_0f7a4 q1))) 13 7 ((mI mm 14 1) - (m_J6_bitCount_0f7a4 q1))) 13 6 (mI (sI (sI (sI (sI mm 13 1 ((mI mm 13 1) + (1 : Int32))) 13 2 ((mI (sI mm 13 1 ((mI mm 13 1) + (1 : Int32))) 13 2) + ((mI mm 14 1) - (m_J6_bitCount_0f7a4 q1)))) 13 3 ((mI (sI (sI mm 13 1 ((mI mm 13 1) + (1 : Int32))) 13 2 ((mI (sI mm 13 1 ((mI mm 13 1) + (1 : Int32))) 13 2) + ((mI mm 14 1) - (m_J6_bitCount_0f7a4 q1)))) 13 3) + (m_J6_bitCount_0f7a4 q1))) 13 7 ((mI mm 14 1) - (m_J6_bitCount_0f7a4 q1))) 13 1)))) 13 4 ((mI (if (mI (if ((mI mm 14 1) - (m_J6_bitCount_0f7a4 q1)) ≤ (mI (sI (sI (sI mm 13 1 ((mI mm 13 1) + (1 : Int32))) 13 2 ((mI (sI mm 13 1 ((mI mm 13 1) + (1 : Int32))) 13 2) + ((mI mm 14 1) - (m_J6_bitCount_0f7a4 q1)))) 13 3 ((mI (sI (sI mm 13 1 ((mI mm 13 1) + (1 : Int32))) 13 2 ((mI (sI mm 13 1 ((mI mm 13 1) + (1 : Int32))) 13 2) + ((mI mm 14 1) - (m_J6_bitCount_0f7a4 q1)))) 13 3) + (m_J6_bitCount_0f7a4 q1))) 13 7) then (sI (sI (sI mm 13 1 ((mI mm 13 1) + (1 : Int32))) 13 2 ((mI (sI mm 13 1 ((mI mm 13 1) + (1 : Int32))) 13 2) + ((mI mm 14 1) - (m_J6_bitCount_0f7a4 q1)))) 13 3 ((mI (sI (sI mm 13 1 ((mI mm 13 1) + (1 : Int32))) 13 2 ((mI (sI mm 13 1 ((mI mm 13 1) + (1 : Int32))) 13 2) + ((mI mm 14 1) - (m_J6_bitCount_0f7a4 q1)))) 13 3) + (m_J6_bitCount_0f7a4 q1))) else (sI (sI (sI (sI (sI mm 13 1 ((mI mm 13 1) + (1 : Int32))) 13 2 ((mI (sI mm 13 1 ((mI mm 13 1) + (1 : Int32))) 13 2) + ((mI mm 14 1) - (m_J6_bitCount_0f7a4 q1)))) 13 3 ((mI (sI (sI mm 13 1 ((mI mm 13 1) + (1 : Int32))) 13 2 ((mI (sI mm 13 1 ((mI mm 13 1) + (1 : Int32))) 13 2) + ((mI mm 14 1) - (m_J6_bitCount_0f7a4 q1)))) 13 3) + (m_J6_bitCount_0f7a4 q1))) 13 7 ((mI mm 14 1) - (m_J6_bitCount_0f7a4 q1))) 13 6 (mI (sI (sI (sI (sI mm 13 1 ((mI mm 13 1) + (1 : Int32))) 13 2 ((mI (sI mm 13 1 ((mI mm 13 1) + (1 : Int32))) 13 2) + ((mI mm 14 1) - (m_J6_bitCount_0f7a4 q1)))) 13 3 ((mI (sI (sI mm 13 1 ((mI mm 13 1) + (1 : Int32))) 13 2 ((mI (sI mm 13 1 ((mI mm 13 1) + (1 : Int32))) 13 2) + ((mI mm 14 1) - (m_J6_bitCount_0f7a4 q1)))) 13 3) + (m_J6_bitCount_0f7a4 q1))) 13 7 ((mI mm 14 1) - (m_J6_bitCount_0f7a4 q1))) 13 1))) 13 4) = 0 then (if q1 = 0 then (if ((mI mm 14 1) - (m_J6_bitCount_0f7a4 q1)) ≤ (mI (sI (sI (sI mm 13 1 ((mI mm 13 1) + (1 : Int32))) 13 2 ((mI (sI mm 13 1 ((mI mm 13 1) + (1 : Int32))) 13 2) + ((mI mm 14 1) - (m_J6_bitCount_0f7a4 q1)))) 13 3 ((mI (sI (sI mm 13 1 ((mI mm 13 1) + (1 : Int32))) 13 2 ((mI (sI mm 13 1 ((mI mm 13 1) + (1 : Int32))) 13 2) + ((mI mm 14 1) - (m_J6_bitCount_0f7a4 q1)))) 13 3) + (m_J6_bitCount_0f7a4 q1))) 13 7) then (sI (sI (sI mm 13 1 ((mI mm 13 1) + (1 : Int32))) 13 2 ((mI (sI mm 13 1 ((mI mm 13 1) + (1 : Int32))) 13 2) + ((mI mm 14 1) - (m_J6_bitCount_0f7a4 q1)))) 13 3 ((mI (sI (sI mm 13 1 ((mI mm 13 1) + (1 : Int32))) 13 2 ((mI (sI mm 13 1 ((mI mm 13 1) + (1 : Int32))) 13 2) + ((mI mm 14 1) - (m_J6_bitCount_0f7a4 q1)))) 13 3) + (m_J6_bitCount_0f7a4 q1))) else (sI (sI (sI (sI (sI mm 13 1 ((mI mm 13 1) + (1 : Int32))) 13 2 ((mI (sI mm 13 1 ((mI mm 13 1) + (1 : Int32))) 13 2) + ((mI mm 14 1) - (m_J6_bitCount_0f7a4 q1)))) 13 3 ((mI (sI (sI mm 13 1 ((mI mm 13 1) + (1 : Int32))) 13 2 ((mI (sI mm 13 1 ((mI mm 13 1) + (1 : Int32))) 13 2) + ((mI mm 14 1) - (m_J6_bitCount_0f7a4 q1)))) 13 3) + (m_J6_bitCount_0f7a4 q1))) 13 7 ((mI mm 14 1) - (m_J6_bitCount_0f7a4 q1))) 13 6 (mI (sI (sI (sI (sI mm 13 1 ((mI mm 13 1) + (1 : Int32))) 13 2 ((mI (sI mm 13 1 ((mI mm 13 1) + (1 : Int32))) 13 2) + ((mI mm 14 1) - (m_J6_bitCount_0f7a4 q1)))) 13 3 ((mI (sI (sI mm 13 1 ((mI mm 13 1) + (1 : Int32))) 13 2 ((mI (sI mm 13 1 ((mI mm 13 1) + (1 : Int32))) 13 2) + ((mI mm 14 1) - (m_J6_bitCount_0f7a4 q1)))) 13 3) + (m_J6_bitCount_0f7a4 q1))) 13 7 ((mI mm 14 1) - (m_J6_bitCount_0f7a4 q1))) 13 1))) else (sI (if ((mI mm 14 1) - (m_J6_bitCount_0f7a4 q1)) ≤ (mI (sI (sI (sI mm 13 1 ((mI mm 13 1) + (1 : Int32))) 13 2 ((mI (sI mm 13 1 ((mI mm 13 1) + (1 : Int32))) 13 2) + ((mI mm 14 1) - (m_J6_bitCount_0f7a4 q1)))) 13 3 ((mI (sI (sI mm 13 1 ((mI mm 13 1) + (1 : Int32))) 13 2 ((mI (sI mm 13 1 ((mI mm 13 1) + (1 : Int32))) 13 2) + ((mI mm 14 1) - (m_J6_bitCount_0f7a4 q1)))) 13 3) + (m_J6_bitCount_0f7a4 q1))) 13 7) then (sI (sI (sI mm 13 1 ((mI mm 13 1) + (1 : Int32))) 13 2 ((mI (sI mm 13 1 ((mI mm 13 1) + (1 : Int32))) 13 2) + ((mI mm 14 1) - (m_J6_bitCount_0f7a4 q1)))) 13 3 ((mI (sI (sI mm 13 1 ((mI mm 13 1) + (1 : Int32))) 13 2 ((mI (sI mm 13 1 ((mI mm 13 1) + (1 : Int32))) 13 2) + ((mI mm 14 1) - (m_J6_bitCount_0f7a4 q1)))) 13 3) + (m_J6_bitCount_0f7a4 q1))) else (sI (sI (sI (sI (sI mm 13 1 ((mI mm 13 1) + (1 : Int32))) 13 2 ((mI (sI mm 13 1 ((mI mm 13 1) + (1 : Int32))) 13 2) + ((mI mm 14 1) - (m_J6_bitCount_0f7a4 q1)))) 13 3 ((mI (sI (sI mm 13 1 ((mI mm 13 1) + (1 : Int32))) 13 2 ((mI (sI mm 13 1 ((mI mm 13 1) + (1 : Int32))) 13 2) + ((mI mm 14 1) - (m_J6_bitCount_0f7a4 q1)))) 13 3) + (m_J6_bitCount_0f7a4 q1))) 13 7 ((mI mm 14 1) - (m_J6_bitCount_0f7a4 q1))) 13 6 (mI (sI (sI (sI (sI mm 13 1 ((mI mm 13 1) + (1 : Int32))) 13 2 ((mI (sI mm 13 1 ((mI mm 13 1) + (1 : Int32))) 13 2) + ((mI mm 14 1) - (m_J6_bitCount_0f7a4 q1)))) 13 3 ((mI (sI (sI mm 13 1 ((mI mm 13 1) + (1 : Int32))) 13 2 ((mI (sI mm 13 1 ((mI mm 13 1) + (1 : Int32))) 13 2) + ((mI mm 14 1) - (m_J6_bitCount_0f7a4 q1)))) 13 3) + (m_J6_bitCount_0f7a4 q1))) 13 7 ((mI mm 14 1) - (m_J6_bitCount_0f7a4 q1))) 13 1))) 13 5 a1)) else (if ((mI mm 14 1) - (m_J6_bitCount_0f7a4 q1)) ≤ (mI (sI (sI (sI mm 13 1 ((mI mm 13 1) + (1 : Int32))) 13 2 ((mI (sI mm 13 1 ((mI mm 13 1) + (1 : Int32))) 13 2) + ((mI mm 14 1) - (m_J6_bitCount_0f7a4 q1)))) 13 3 ((mI (sI (sI mm 13 1 ((mI mm 13 1) + (1 : Int32))) 13 2 ((mI (sI mm 13 1 ((mI mm 13 1) + (1 : Int32))) 13 2) + ((mI mm 14 1) - (m_J6_bitCount_0f7a4 q1)))) 13 3) + (m_J6_bitCount_0f7a4 q1))) 13 7) then (sI (sI (sI mm 13 1 ((mI mm 13 1) + (1 : Int32))) 13 2 ((mI (sI mm 13 1 ((mI mm 13 1) + (1 : Int32))) 13 2) + ((mI mm 14 1) - (m_J6_bitCount_0f7a4 q1)))) 13 3 ((mI (sI (sI mm 13 1 ((mI mm 13 1) + (1 : Int32))) 13 2 ((mI (sI mm 13 1 ((mI mm 13 1) + (1 : Int32))) 13 2) + ((mI mm 14 1) - (m_J6_bitCount_0f7a4 q1)))) 13 3) + (m_J6_bitCount_0f7a4 q1))) else (sI (sI (sI (sI (sI mm 13 1 ((mI mm 13 1) + (1 : Int32))) 13 2 ((mI (sI mm 13 1 ((mI mm 13 1) + (1 : Int32))) 13 2) + ((mI mm 14 1) - (m_J6_bitCount_0f7a4 q1)))) 13 3 ((mI (sI (sI mm 13 1 ((mI mm 13 1) + (1 : Int32))) 13 2 ((mI (sI mm 13 1 ((mI mm 13 1) + (1 : Int32))) 13 2) + ((mI mm 14 1) - (m_J6_bitCount_0f7a4 q1)))) 13 3) + (m_J6_bitCount_0f7a4 q1))) 13 7 ((mI mm 14 1) - (m_J6_bitCount_0f7a4 q1))) 13 6 (mI (sI (sI (sI (sI mm 13 1 ((mI mm 13 1) + (1 : Int32))) 13 2 ((mI (sI mm 13 1 ((mI mm 13 1) + (1 : Int32))) 13 2) + ((mI mm 14 1) - (m_J6_bitCount_0f7a4 q1)))) 13 3 ((mI (sI (sI mm 13 1 ((mI mm 13 1) + (1 : Int32))) 13 2 ((mI (sI mm 13 1 ((mI mm 13 1) + (1 : Int32))) 13 2) + ((mI mm 14 1) - (m_J6_bitCount_0f7a4 q1)))) 13 3) + (m_J6_bitCount_0f7a4 q1))) 13 7 ((mI mm 14 1) - (m_J6_bitCount_0f7a4 q1))) 13 1)))) 13 4) ||| q10)) 14 1 (0 : Int32))))
set_option maxHeartbeats 4000000 in
set_option maxRecDepth 100000 in
theorem c_X3_holdMonday {l : Launch} {G : Gt} {S : Sk} {a1 : Int32} {mm : Mm} (hS : Lay S) {q : Mm} (e : m_X3_holdMonday a1 mm = some q) : CallOK l G M_X3_holdMonday yX3_holdMonday 3 [vr (some 13), vi a1] S mm (none) S q := by
  refine call_of_run rfl rfl rfl (Nat.le_of_ble_eq_true rfl) ?_
  show Run l G M_X3_holdMonday 3 0 [some (vr (some 13)), some (vi a1), none, none, none] [] S mm (none) S q
  unfold m_X3_holdMonday at e
  refine r_aload_n dX3_holdMonday_0 rfl ?_
  refine r_getR dX3_holdMonday_1 fl_X3_12 rfl (lp_13 hS) (lq_13 hS) (lr_13_0 hS) ?_
  refine r_iconst (v := 0) dX3_holdMonday_4 ci_0 ?_
  obtain ⟨q1, eq2, e⟩ := obind e
  refine r_callV (as := [_]) (rest := []) dX3_holdMonday_5 ml_X3_95 yV_X7_brokenOaths (c_X7_brokenOaths hS eq2) (by decide) rfl (lp_14 hS) (lq_14 hS) (Nat.le_of_ble_eq_true rfl) ?_
  refine r_istore_n dX3_holdMonday_8 (by decide) rfl ?_
  refine r_iload_n dX3_holdMonday_9 rfl ?_
  refine r_callS (as := [_]) (rest := []) dX3_holdMonday_10 ml_X3_98 yS_J6_bitCount_0f7a4 (c_J6_bitCount_0f7a4) (by decide) rfl (Nat.le_of_ble_eq_true rfl) ?_
  refine r_istore_n dX3_holdMonday_13 (by decide) rfl ?_
  refine r_aload_n dX3_holdMonday_14 rfl ?_
  refine r_getR dX3_holdMonday_15 fl_X3_12 rfl (lp_13 hS) (lq_13 hS) (lr_13_0 hS) ?_
  refine r_getI dX3_holdMonday_18 fl_X3_103 rfl (lp_14 hS) (lq_14 hS) ?_
  refine r_iload_n dX3_holdMonday_21 rfl ?_
  refine r_isub dX3_holdMonday_22 ?_
  refine r_istore dX3_holdMonday_23 (by decide) rfl ?_
  refine r_aload_n dX3_holdMonday_25 rfl ?_
  refine r_dup dX3_holdMonday_26 rfl ?_
  refine r_getI dX3_holdMonday_27 fl_X3_18 rfl (lp_13 hS) (lq_13 hS) ?_
  refine r_iconst (v := 1) dX3_holdMonday_30 ci_1 ?_
  refine r_iadd dX3_holdMonday_31 ?_
  refine r_putI dX3_holdMonday_32 fl_X3_18 ft_3_1 (Or.inl rfl) rfl rfl rfl (lp_13 hS) (lq_13 hS) ?_
  refine r_aload_n dX3_holdMonday_35 rfl ?_
  refine r_dup dX3_holdMonday_36 rfl ?_
  refine r_getI dX3_holdMonday_37 fl_X3_22 rfl (lp_13 hS) (lq_13 hS) ?_
  refine r_iload dX3_holdMonday_40 rfl ?_
  refine r_iadd dX3_holdMonday_42 ?_
  refine r_putI dX3_holdMonday_43 fl_X3_22 ft_3_2 (Or.inl rfl) rfl rfl rfl (lp_13 hS) (lq_13 hS) ?_
  refine r_aload_n dX3_holdMonday_46 rfl ?_
  refine r_dup dX3_holdMonday_47 rfl ?_
  refine r_getI dX3_holdMonday_48 fl_X3_25 rfl (lp_13 hS) (lq_13 hS) ?_
  refine r_iload_n dX3_holdMonday_51 rfl ?_
  refine r_iadd dX3_holdMonday_52 ?_
  refine r_putI dX3_holdMonday_53 fl_X3_25 ft_3_3 (Or.inl rfl) rfl rfl rfl (lp_13 hS) (lq_13 hS) ?_
  refine r_iload dX3_holdMonday_56 rfl ?_
  refine r_aload_n dX3_holdMonday_58 rfl ?_
  refine r_getI dX3_holdMonday_59 fl_X3_37 rfl (lp_13 hS) (lq_13 hS) ?_
  have J5 : ∀ (w4 : Mm), w4 = (if ((mI mm 14 1) - (m_J6_bitCount_0f7a4 q1)) ≤ (mI (sI (sI (sI mm 13 1 ((mI mm 13 1) + (1 : Int32))) 13 2 ((mI (sI mm 13 1 ((mI mm 13 1) + (1 : Int32))) 13 2) + ((mI mm 14 1) - (m_J6_bitCount_0f7a4 q1)))) 13 3 ((mI (sI (sI mm 13 1 ((mI mm 13 1) + (1 : Int32))) 13 2 ((mI (sI mm 13 1 ((mI mm 13 1) + (1 : Int32))) 13 2) + ((mI mm 14 1) - (m_J6_bitCount_0f7a4 q1)))) 13 3) + (m_J6_bitCount_0f7a4 q1))) 13 7) then (sI (sI (sI mm 13 1 ((mI mm 13 1) + (1 : Int32))) 13 2 ((mI (sI mm 13 1 ((mI mm 13 1) + (1 : Int32))) 13 2) + ((mI mm 14 1) - (m_J6_bitCount_0f7a4 q1)))) 13 3 ((mI (sI (sI mm 13 1 ((mI mm 13 1) + (1 : Int32))) 13 2 ((mI (sI mm 13 1 ((mI mm 13 1) + (1 : Int32))) 13 2) + ((mI mm 14 1) - (m_J6_bitCount_0f7a4 q1)))) 13 3) + (m_J6_bitCount_0f7a4 q1))) else (sI (sI (sI (sI (sI mm 13 1 ((mI mm 13 1) + (1 : Int32))) 13 2 ((mI (sI mm 13 1 ((mI mm 13 1) + (1 : Int32))) 13 2) + ((mI mm 14 1) - (m_J6_bitCount_0f7a4 q1)))) 13 3 ((mI (sI (sI mm 13 1 ((mI mm 13 1) + (1 : Int32))) 13 2 ((mI (sI mm 13 1 ((mI mm 13 1) + (1 : Int32))) 13 2) + ((mI mm 14 1) - (m_J6_bitCount_0f7a4 q1)))) 13 3) + (m_J6_bitCount_0f7a4 q1))) 13 7 ((mI mm 14 1) - (m_J6_bitCount_0f7a4 q1))) 13 6 (mI (sI (sI (sI (sI mm 13 1 ((mI mm 13 1) + (1 : Int32))) 13 2 ((mI (sI mm 13 1 ((mI mm 13 1) + (1 : Int32))) 13 2) + ((mI mm 14 1) - (m_J6_bitCount_0f7a4 q1)))) 13 3 ((mI (sI (sI mm 13 1 ((mI mm 13 1) + (1 : Int32))) 13 2 ((mI (sI mm 13 1 ((mI mm 13 1) + (1 : Int32))) 13 2) + ((mI mm 14 1) - (m_J6_bitCount_0f7a4 q1)))) 13 3) + (m_J6_bitCount_0f7a4 q1))) 13 7 ((mI mm 14 1) - (m_J6_bitCount_0f7a4 q1))) 13 1))) → Run l G M_X3_holdMonday 3 79 [some (vr (some 13)), some (vi a1), some (vi q1), none, none] [] S w4 (none) S q := by
    intro w4 hw13
    subst hw13
    refine r_aload_n dX3_holdMonday_79 rfl ?_
    refine r_getI dX3_holdMonday_80 fl_X3_28 rfl (lp_13 hS) (lq_13 hS) ?_
    have J9 : ∀ (w8 : Mm), w8 = (if (mI (if ((mI mm 14 1) - (m_J6_bitCount_0f7a4 q1)) ≤ (mI (sI (sI (sI mm 13 1 ((mI mm 13 1) + (1 : Int32))) 13 2 ((mI (sI mm 13 1 ((mI mm 13 1) + (1 : Int32))) 13 2) + ((mI mm 14 1) - (m_J6_bitCount_0f7a4 q1)))) 13 3 ((mI (sI (sI mm 13 1 ((mI mm 13 1) + (1 : Int32))) 13 2 ((mI (sI mm 13 1 ((mI mm 13 1) + (1 : Int32))) 13 2) + ((mI mm 14 1) - (m_J6_bitCount_0f7a4 q1)))) 13 3) + (m_J6_bitCount_0f7a4 q1))) 13 7) then (sI (sI (sI mm 13 1 ((mI mm 13 1) + (1 : Int32))) 13 2 ((mI (sI mm 13 1 ((mI mm 13 1) + (1 : Int32))) 13 2) + ((mI mm 14 1) - (m_J6_bitCount_0f7a4 q1)))) 13 3 ((mI (sI (sI mm 13 1 ((mI mm 13 1) + (1 : Int32))) 13 2 ((mI (sI mm 13 1 ((mI mm 13 1) + (1 : Int32))) 13 2) + ((mI mm 14 1) - (m_J6_bitCount_0f7a4 q1)))) 13 3) + (m_J6_bitCount_0f7a4 q1))) else (sI (sI (sI (sI (sI mm 13 1 ((mI mm 13 1) + (1 : Int32))) 13 2 ((mI (sI mm 13 1 ((mI mm 13 1) + (1 : Int32))) 13 2) + ((mI mm 14 1) - (m_J6_bitCount_0f7a4 q1)))) 13 3 ((mI (sI (sI mm 13 1 ((mI mm 13 1) + (1 : Int32))) 13 2 ((mI (sI mm 13 1 ((mI mm 13 1) + (1 : Int32))) 13 2) + ((mI mm 14 1) - (m_J6_bitCount_0f7a4 q1)))) 13 3) + (m_J6_bitCount_0f7a4 q1))) 13 7 ((mI mm 14 1) - (m_J6_bitCount_0f7a4 q1))) 13 6 (mI (sI (sI (sI (sI mm 13 1 ((mI mm 13 1) + (1 : Int32))) 13 2 ((mI (sI mm 13 1 ((mI mm 13 1) + (1 : Int32))) 13 2) + ((mI mm 14 1) - (m_J6_bitCount_0f7a4 q1)))) 13 3 ((mI (sI (sI mm 13 1 ((mI mm 13 1) + (1 : Int32))) 13 2 ((mI (sI mm 13 1 ((mI mm 13 1) + (1 : Int32))) 13 2) + ((mI mm 14 1) - (m_J6_bitCount_0f7a4 q1)))) 13 3) + (m_J6_bitCount_0f7a4 q1))) 13 7 ((mI mm 14 1) - (m_J6_bitCount_0f7a4 q1))) 13 1))) 13 4) = 0 then (if q1 = 0 then (if ((mI mm 14 1) - (m_J6_bitCount_0f7a4 q1)) ≤ (mI (sI (sI (sI mm 13 1 ((mI mm 13 1) + (1 : Int32))) 13 2 ((mI (sI mm 13 1 ((mI mm 13 1) + (1 : Int32))) 13 2) + ((mI mm 14 1) - (m_J6_bitCount_0f7a4 q1)))) 13 3 ((mI (sI (sI mm 13 1 ((mI mm 13 1) + (1 : Int32))) 13 2 ((mI (sI mm 13 1 ((mI mm 13 1) + (1 : Int32))) 13 2) + ((mI mm 14 1) - (m_J6_bitCount_0f7a4 q1)))) 13 3) + (m_J6_bitCount_0f7a4 q1))) 13 7) then (sI (sI (sI mm 13 1 ((mI mm 13 1) + (1 : Int32))) 13 2 ((mI (sI mm 13 1 ((mI mm 13 1) + (1 : Int32))) 13 2) + ((mI mm 14 1) - (m_J6_bitCount_0f7a4 q1)))) 13 3 ((mI (sI (sI mm 13 1 ((mI mm 13 1) + (1 : Int32))) 13 2 ((mI (sI mm 13 1 ((mI mm 13 1) + (1 : Int32))) 13 2) + ((mI mm 14 1) - (m_J6_bitCount_0f7a4 q1)))) 13 3) + (m_J6_bitCount_0f7a4 q1))) else (sI (sI (sI (sI (sI mm 13 1 ((mI mm 13 1) + (1 : Int32))) 13 2 ((mI (sI mm 13 1 ((mI mm 13 1) + (1 : Int32))) 13 2) + ((mI mm 14 1) - (m_J6_bitCount_0f7a4 q1)))) 13 3 ((mI (sI (sI mm 13 1 ((mI mm 13 1) + (1 : Int32))) 13 2 ((mI (sI mm 13 1 ((mI mm 13 1) + (1 : Int32))) 13 2) + ((mI mm 14 1) - (m_J6_bitCount_0f7a4 q1)))) 13 3) + (m_J6_bitCount_0f7a4 q1))) 13 7 ((mI mm 14 1) - (m_J6_bitCount_0f7a4 q1))) 13 6 (mI (sI (sI (sI (sI mm 13 1 ((mI mm 13 1) + (1 : Int32))) 13 2 ((mI (sI mm 13 1 ((mI mm 13 1) + (1 : Int32))) 13 2) + ((mI mm 14 1) - (m_J6_bitCount_0f7a4 q1)))) 13 3 ((mI (sI (sI mm 13 1 ((mI mm 13 1) + (1 : Int32))) 13 2 ((mI (sI mm 13 1 ((mI mm 13 1) + (1 : Int32))) 13 2) + ((mI mm 14 1) - (m_J6_bitCount_0f7a4 q1)))) 13 3) + (m_J6_bitCount_0f7a4 q1))) 13 7 ((mI mm 14 1) - (m_J6_bitCount_0f7a4 q1))) 13 1))) else (sI (if ((mI mm 14 1) - (m_J6_bitCount_0f7a4 q1)) ≤ (mI (sI (sI (sI mm 13 1 ((mI mm 13 1) + (1 : Int32))) 13 2 ((mI (sI mm 13 1 ((mI mm 13 1) + (1 : Int32))) 13 2) + ((mI mm 14 1) - (m_J6_bitCount_0f7a4 q1)))) 13 3 ((mI (sI (sI mm 13 1 ((mI mm 13 1) + (1 : Int32))) 13 2 ((mI (sI mm 13 1 ((mI mm 13 1) + (1 : Int32))) 13 2) + ((mI mm 14 1) - (m_J6_bitCount_0f7a4 q1)))) 13 3) + (m_J6_bitCount_0f7a4 q1))) 13 7) then (sI (sI (sI mm 13 1 ((mI mm 13 1) + (1 : Int32))) 13 2 ((mI (sI mm 13 1 ((mI mm 13 1) + (1 : Int32))) 13 2) + ((mI mm 14 1) - (m_J6_bitCount_0f7a4 q1)))) 13 3 ((mI (sI (sI mm 13 1 ((mI mm 13 1) + (1 : Int32))) 13 2 ((mI (sI mm 13 1 ((mI mm 13 1) + (1 : Int32))) 13 2) + ((mI mm 14 1) - (m_J6_bitCount_0f7a4 q1)))) 13 3) + (m_J6_bitCount_0f7a4 q1))) else (sI (sI (sI (sI (sI mm 13 1 ((mI mm 13 1) + (1 : Int32))) 13 2 ((mI (sI mm 13 1 ((mI mm 13 1) + (1 : Int32))) 13 2) + ((mI mm 14 1) - (m_J6_bitCount_0f7a4 q1)))) 13 3 ((mI (sI (sI mm 13 1 ((mI mm 13 1) + (1 : Int32))) 13 2 ((mI (sI mm 13 1 ((mI mm 13 1) + (1 : Int32))) 13 2) + ((mI mm 14 1) - (m_J6_bitCount_0f7a4 q1)))) 13 3) + (m_J6_bitCount_0f7a4 q1))) 13 7 ((mI mm 14 1) - (m_J6_bitCount_0f7a4 q1))) 13 6 (mI (sI (sI (sI (sI mm 13 1 ((mI mm 13 1) + (1 : Int32))) 13 2 ((mI (sI mm 13 1 ((mI mm 13 1) + (1 : Int32))) 13 2) + ((mI mm 14 1) - (m_J6_bitCount_0f7a4 q1)))) 13 3 ((mI (sI (sI mm 13 1 ((mI mm 13 1) + (1 : Int32))) 13 2 ((mI (sI mm 13 1 ((mI mm 13 1) + (1 : Int32))) 13 2) + ((mI mm 14 1) - (m_J6_bitCount_0f7a4 q1)))) 13 3) + (m_J6_bitCount_0f7a4 q1))) 13 7 ((mI mm 14 1) - (m_J6_bitCount_0f7a4 q1))) 13 1))) 13 5 a1)) else (if ((mI mm 14 1) - (m_J6_bitCount_0f7a4 q1)) ≤ (mI (sI (sI (sI mm 13 1 ((mI mm 13 1) + (1 : Int32))) 13 2 ((mI (sI mm 13 1 ((mI mm 13 1) + (1 : Int32))) 13 2) + ((mI mm 14 1) - (m_J6_bitCount_0f7a4 q1)))) 13 3 ((mI (sI (sI mm 13 1 ((mI mm 13 1) + (1 : Int32))) 13 2 ((mI (sI mm 13 1 ((mI mm 13 1) + (1 : Int32))) 13 2) + ((mI mm 14 1) - (m_J6_bitCount_0f7a4 q1)))) 13 3) + (m_J6_bitCount_0f7a4 q1))) 13 7) then (sI (sI (sI mm 13 1 ((mI mm 13 1) + (1 : Int32))) 13 2 ((mI (sI mm 13 1 ((mI mm 13 1) + (1 : Int32))) 13 2) + ((mI mm 14 1) - (m_J6_bitCount_0f7a4 q1)))) 13 3 ((mI (sI (sI mm 13 1 ((mI mm 13 1) + (1 : Int32))) 13 2 ((mI (sI mm 13 1 ((mI mm 13 1) + (1 : Int32))) 13 2) + ((mI mm 14 1) - (m_J6_bitCount_0f7a4 q1)))) 13 3) + (m_J6_bitCount_0f7a4 q1))) else (sI (sI (sI (sI (sI mm 13 1 ((mI mm 13 1) + (1 : Int32))) 13 2 ((mI (sI mm 13 1 ((mI mm 13 1) + (1 : Int32))) 13 2) + ((mI mm 14 1) - (m_J6_bitCount_0f7a4 q1)))) 13 3 ((mI (sI (sI mm 13 1 ((mI mm 13 1) + (1 : Int32))) 13 2 ((mI (sI mm 13 1 ((mI mm 13 1) + (1 : Int32))) 13 2) + ((mI mm 14 1) - (m_J6_bitCount_0f7a4 q1)))) 13 3) + (m_J6_bitCount_0f7a4 q1))) 13 7 ((mI mm 14 1) - (m_J6_bitCount_0f7a4 q1))) 13 6 (mI (sI (sI (sI (sI mm 13 1 ((mI mm 13 1) + (1 : Int32))) 13 2 ((mI (sI mm 13 1 ((mI mm 13 1) + (1 : Int32))) 13 2) + ((mI mm 14 1) - (m_J6_bitCount_0f7a4 q1)))) 13 3 ((mI (sI (sI mm 13 1 ((mI mm 13 1) + (1 : Int32))) 13 2 ((mI (sI mm 13 1 ((mI mm 13 1) + (1 : Int32))) 13 2) + ((mI mm 14 1) - (m_J6_bitCount_0f7a4 q1)))) 13 3) + (m_J6_bitCount_0f7a4 q1))) 13 7 ((mI mm 14 1) - (m_J6_bitCount_0f7a4 q1))) 13 1)))) → Run l G M_X3_holdMonday 3 95 [some (vr (some 13)), none, some (vi q1), none, none] [] S w8 (none) S q := by
      intro w8 hw12
      subst hw12
      refine r_aload_n dX3_holdMonday_95 rfl ?_
      refine r_dup dX3_holdMonday_96 rfl ?_
      refine r_getI dX3_holdMonday_97 fl_X3_28 rfl (lp_13 hS) (lq_13 hS) ?_
      refine r_aload_n dX3_holdMonday_100 rfl ?_
      refine r_getR dX3_holdMonday_101 fl_X3_12 rfl (lp_13 hS) (lq_13 hS) (lr_13_0 hS) ?_
      refine r_iload_n dX3_holdMonday_104 rfl ?_
      obtain ⟨q10, eq11, e⟩ := obind e
      refine r_callV (as := [_]) (rest := [_, _]) dX3_holdMonday_105 ml_X3_106 yV_X7_swearersOf (c_X7_swearersOf hS eq11) (by decide) rfl (lp_14 hS) (lq_14 hS) (Nat.le_of_ble_eq_true rfl) ?_
      refine r_ior dX3_holdMonday_108 ?_
      refine r_putI dX3_holdMonday_109 fl_X3_28 ft_3_4 (Or.inl rfl) rfl rfl rfl (lp_13 hS) (lq_13 hS) ?_
      refine r_aload_n dX3_holdMonday_112 rfl ?_
      refine r_getR dX3_holdMonday_113 fl_X3_12 rfl (lp_13 hS) (lq_13 hS) (lr_13_0 hS) ?_
      refine r_iconst (v := 0) dX3_holdMonday_116 ci_0 ?_
      refine r_putI dX3_holdMonday_117 fl_X3_103 ft_7_1 (Or.inl rfl) rfl rfl rfl (lp_14 hS) (lq_14 hS) ?_
      cases e
      exact r_return dX3_holdMonday_120 rfl
    refine r_if_ne (tgt := 95) dX3_holdMonday_83 rfl (fun h6 => ?_) (fun h6 => ?_)
    · exact r_weak (L' := [some (vr (some 13)), none, some (vi q1), none, none]) ⟨rfl, rfl, trivial⟩ (J9 _ (Eq.symm (if_neg h6)))
    · refine r_iload_n dX3_holdMonday_86 rfl ?_
      refine r_if_eq (tgt := 95) dX3_holdMonday_87 rfl (fun h7 => ?_) (fun h7 => ?_)
      · exact r_weak (L' := [some (vr (some 13)), none, some (vi q1), none, none]) ⟨rfl, rfl, trivial⟩ (J9 _ (Eq.symm ((if_pos h6).trans (if_pos h7))))
      · refine r_aload_n dX3_holdMonday_90 rfl ?_
        refine r_iload_n dX3_holdMonday_91 rfl ?_
        refine r_putI dX3_holdMonday_92 fl_X3_31 ft_3_5 (Or.inl rfl) rfl rfl rfl (lp_13 hS) (lq_13 hS) ?_
        exact r_weak (L' := [some (vr (some 13)), none, some (vi q1), none, none]) ⟨rfl, rfl, trivial⟩ (J9 _ (Eq.symm ((if_pos h6).trans (if_neg h7))))
  refine r_icmp_le (tgt := 79) dX3_holdMonday_62 rfl (fun h3 => ?_) (fun h3 => ?_)
  · exact r_weak (L' := [some (vr (some 13)), some (vi a1), some (vi q1), none, none]) ⟨rfl, rfl, rfl, trivial⟩ (J5 _ (Eq.symm (if_pos h3)))
  · refine r_aload_n dX3_holdMonday_65 rfl ?_
    refine r_iload dX3_holdMonday_66 rfl ?_
    refine r_putI dX3_holdMonday_68 fl_X3_37 ft_3_7 (Or.inl rfl) rfl rfl rfl (lp_13 hS) (lq_13 hS) ?_
    refine r_aload_n dX3_holdMonday_71 rfl ?_
    refine r_aload_n dX3_holdMonday_72 rfl ?_
    refine r_getI dX3_holdMonday_73 fl_X3_18 rfl (lp_13 hS) (lq_13 hS) ?_
    refine r_putI dX3_holdMonday_76 fl_X3_34 ft_3_6 (Or.inl rfl) rfl rfl rfl (lp_13 hS) (lq_13 hS) ?_
    exact r_weak (L' := [some (vr (some 13)), some (vi a1), some (vi q1), none, none]) ⟨rfl, rfl, rfl, trivial⟩ (J5 _ (Eq.symm (if_neg h3)))
noncomputable def m_X7_isThere (a1 : Int32) (mm : Mm) : Int32 := if a1 < 0 then ((0 : Int32)) else (if (mI mm 14 0) ≤ a1 then ((0 : Int32)) else ((1 : Int32)))
set_option maxHeartbeats 4000000 in
set_option maxRecDepth 100000 in
theorem c_X7_isThere {l : Launch} {G : Gt} {S : Sk} {a1 : Int32} {mm : Mm} (hS : Lay S) : CallOK l G M_X7_isThere yX7_isThere 0 [vr (some 14), vi a1] S mm (some (vi (m_X7_isThere a1 mm))) S mm := by
  refine call_of_run rfl rfl rfl (Nat.le_of_ble_eq_true rfl) ?_
  show Run l G M_X7_isThere 0 0 [some (vr (some 14)), some (vi a1)] [] S mm (some (vi (m_X7_isThere a1 mm))) S mm
  generalize e : m_X7_isThere a1 mm = q
  unfold m_X7_isThere at e
  refine r_iload_n dX7_isThere_0 rfl ?_
  refine r_if_lt (tgt := 16) dX7_isThere_1 rfl (fun h1 => ?_) (fun h1 => ?_)
  · replace e := ite_t h1 e
    refine r_iconst (v := 0) dX7_isThere_16 ci_0 ?_
    cases e
    exact r_ireturn dX7_isThere_17 rfl (nz_b (by first | exact Or.inl rfl | exact Or.inr rfl)).1
  · replace e := ite_f h1 e
    refine r_iload_n dX7_isThere_4 rfl ?_
    refine r_aload_n dX7_isThere_5 rfl ?_
    refine r_getI dX7_isThere_6 fl_X7_9 rfl (lp_14 hS) (lq_14 hS) ?_
    refine r_icmp_ge (tgt := 16) dX7_isThere_9 rfl (fun h2 => ?_) (fun h2 => ?_)
    · replace e := ite_t h2 e
      refine r_iconst (v := 0) dX7_isThere_16 ci_0 ?_
      cases e
      exact r_ireturn dX7_isThere_17 rfl (nz_b (by first | exact Or.inl rfl | exact Or.inr rfl)).1
    · replace e := ite_f h2 e
      refine r_iconst (v := 1) dX7_isThere_12 ci_1 ?_
      refine r_goto (tgt := 17) dX7_isThere_13 rfl ?_
      cases e
      exact r_ireturn dX7_isThere_17 rfl (nz_b (by first | exact Or.inl rfl | exact Or.inr rfl)).1
noncomputable def m_X3_changeWill (a1 : Int32) (a2 : Int32) (mm : Mm) : Option (Int32 × Mm) := if (m_X7_isThere a1 mm) = 0 then (some ((0 : Int32), mm)) else (grd a1 6 (if ((mI mm 15 (ix a1)) + a2) < 0 then (some ((0 : Int32), mm)) else (if ((mI mm 15 (ix a1)) + a2) ≤ (9 : Int32) then (grd a1 6 (some ((1 : Int32), (sI mm 15 (ix a1) ((mI mm 15 (ix a1)) + a2))))) else (some ((0 : Int32), mm)))))
set_option maxHeartbeats 4000000 in
set_option maxRecDepth 100000 in
theorem c_X3_changeWill {l : Launch} {G : Gt} {S : Sk} {a1 : Int32} {a2 : Int32} {mm : Mm} (hS : Lay S) {q : Int32 × Mm} (e : m_X3_changeWill a1 a2 mm = some q) : CallOK l G M_X3_changeWill yX3_changeWill 1 [vr (some 13), vi a1, vi a2] S mm (some (vi q.1)) S q.2 := by
  refine call_of_run rfl rfl rfl (Nat.le_of_ble_eq_true rfl) ?_
  show Run l G M_X3_changeWill 1 0 [some (vr (some 13)), some (vi a1), some (vi a2), none] [] S mm (some (vi q.1)) S q.2
  unfold m_X3_changeWill at e
  refine r_aload_n dX3_changeWill_0 rfl ?_
  refine r_getR dX3_changeWill_1 fl_X3_12 rfl (lp_13 hS) (lq_13 hS) (lr_13_0 hS) ?_
  refine r_iload_n dX3_changeWill_4 rfl ?_
  refine r_callV (as := [_]) (rest := []) dX3_changeWill_5 ml_X3_109 yV_X7_isThere (c_X7_isThere hS) (by decide) rfl (lp_14 hS) (lq_14 hS) (Nat.le_of_ble_eq_true rfl) ?_
  refine r_if_ne (tgt := 13) dX3_changeWill_8 rfl (fun h1 => ?_) (fun h1 => ?_)
  · replace e := ite_f h1 e
    refine r_aload_n dX3_changeWill_13 rfl ?_
    refine r_getR dX3_changeWill_14 fl_X3_12 rfl (lp_13 hS) (lq_13 hS) (lr_13_0 hS) ?_
    refine r_getR dX3_changeWill_17 fl_X3_113 rfl (lp_14 hS) (lq_14 hS) (lr_14_2 hS) ?_
    refine r_iload_n dX3_changeWill_20 rfl ?_
    obtain ⟨hg2, e⟩ := grd_some e
    refine r_iald dX3_changeWill_21 (lp_15 hS) (lk_15 hS) hg2 ?_
    refine r_iload_n dX3_changeWill_22 rfl ?_
    refine r_iadd dX3_changeWill_23 ?_
    refine r_istore_n dX3_changeWill_24 (by decide) rfl ?_
    refine r_iload_n dX3_changeWill_25 rfl ?_
    refine r_if_lt (tgt := 35) dX3_changeWill_26 rfl (fun h3 => ?_) (fun h3 => ?_)
    · replace e := ite_t h3 e
      refine r_iconst (v := 0) dX3_changeWill_35 ci_0 ?_
      cases e
      exact r_ireturn dX3_changeWill_36 rfl (nz_b (by first | exact Or.inl rfl | exact Or.inr rfl)).1
    · replace e := ite_f h3 e
      refine r_iload_n dX3_changeWill_29 rfl ?_
      refine r_bipush (v := 9) dX3_changeWill_30 cb_9 ?_
      refine r_icmp_le (tgt := 37) dX3_changeWill_32 rfl (fun h4 => ?_) (fun h4 => ?_)
      · replace e := ite_t h4 e
        refine r_aload_n dX3_changeWill_37 rfl ?_
        refine r_getR dX3_changeWill_38 fl_X3_12 rfl (lp_13 hS) (lq_13 hS) (lr_13_0 hS) ?_
        refine r_getR dX3_changeWill_41 fl_X3_113 rfl (lp_14 hS) (lq_14 hS) (lr_14_2 hS) ?_
        refine r_iload_n dX3_changeWill_44 rfl ?_
        refine r_iload_n dX3_changeWill_45 rfl ?_
        obtain ⟨hg5, e⟩ := grd_some e
        refine r_iast dX3_changeWill_46 (lp_15 hS) (lk_15 hS) hg5 ?_
        refine r_iconst (v := 1) dX3_changeWill_47 ci_1 ?_
        cases e
        exact r_ireturn dX3_changeWill_48 rfl (nz_b (by first | exact Or.inl rfl | exact Or.inr rfl)).1
      · replace e := ite_f h4 e
        refine r_iconst (v := 0) dX3_changeWill_35 ci_0 ?_
        cases e
        exact r_ireturn dX3_changeWill_36 rfl (nz_b (by first | exact Or.inl rfl | exact Or.inr rfl)).1
  · replace e := ite_t h1 e
    refine r_iconst (v := 0) dX3_changeWill_11 ci_0 ?_
    cases e
    exact r_ireturn dX3_changeWill_12 rfl (nz_b (by first | exact Or.inl rfl | exact Or.inr rfl)).1
noncomputable def m_X7_areTwo (a1 : Int32) (a2 : Int32) (mm : Mm) : Int32 := if (m_X7_isThere a1 mm) = 0 then ((0 : Int32)) else (if (m_X7_isThere a2 mm) = 0 then ((0 : Int32)) else (if a1 = a2 then ((0 : Int32)) else ((1 : Int32))))
set_option maxHeartbeats 4000000 in
set_option maxRecDepth 100000 in
theorem c_X7_areTwo {l : Launch} {G : Gt} {S : Sk} {a1 : Int32} {a2 : Int32} {mm : Mm} (hS : Lay S) : CallOK l G M_X7_areTwo yX7_areTwo 1 [vr (some 14), vi a1, vi a2] S mm (some (vi (m_X7_areTwo a1 a2 mm))) S mm := by
  refine call_of_run rfl rfl rfl (Nat.le_of_ble_eq_true rfl) ?_
  show Run l G M_X7_areTwo 1 0 [some (vr (some 14)), some (vi a1), some (vi a2)] [] S mm (some (vi (m_X7_areTwo a1 a2 mm))) S mm
  generalize e : m_X7_areTwo a1 a2 mm = q
  unfold m_X7_areTwo at e
  refine r_aload_n dX7_areTwo_0 rfl ?_
  refine r_iload_n dX7_areTwo_1 rfl ?_
  refine r_callV (as := [_]) (rest := []) dX7_areTwo_2 ml_X7_71 yV_X7_isThere (c_X7_isThere hS) (by decide) rfl (lp_14 hS) (lq_14 hS) (Nat.le_of_ble_eq_true rfl) ?_
  refine r_if_eq (tgt := 25) dX7_areTwo_5 rfl (fun h1 => ?_) (fun h1 => ?_)
  · replace e := ite_t h1 e
    refine r_iconst (v := 0) dX7_areTwo_25 ci_0 ?_
    cases e
    exact r_ireturn dX7_areTwo_26 rfl (nz_b (by first | exact Or.inl rfl | exact Or.inr rfl)).1
  · replace e := ite_f h1 e
    refine r_aload_n dX7_areTwo_8 rfl ?_
    refine r_iload_n dX7_areTwo_9 rfl ?_
    refine r_callV (as := [_]) (rest := []) dX7_areTwo_10 ml_X7_71 yV_X7_isThere (c_X7_isThere hS) (by decide) rfl (lp_14 hS) (lq_14 hS) (Nat.le_of_ble_eq_true rfl) ?_
    refine r_if_eq (tgt := 25) dX7_areTwo_13 rfl (fun h2 => ?_) (fun h2 => ?_)
    · replace e := ite_t h2 e
      refine r_iconst (v := 0) dX7_areTwo_25 ci_0 ?_
      cases e
      exact r_ireturn dX7_areTwo_26 rfl (nz_b (by first | exact Or.inl rfl | exact Or.inr rfl)).1
    · replace e := ite_f h2 e
      refine r_iload_n dX7_areTwo_16 rfl ?_
      refine r_iload_n dX7_areTwo_17 rfl ?_
      refine r_icmp_eq (tgt := 25) dX7_areTwo_18 rfl (fun h3 => ?_) (fun h3 => ?_)
      · replace e := ite_t h3 e
        refine r_iconst (v := 0) dX7_areTwo_25 ci_0 ?_
        cases e
        exact r_ireturn dX7_areTwo_26 rfl (nz_b (by first | exact Or.inl rfl | exact Or.inr rfl)).1
      · replace e := ite_f h3 e
        refine r_iconst (v := 1) dX7_areTwo_21 ci_1 ?_
        refine r_goto (tgt := 26) dX7_areTwo_22 rfl ?_
        cases e
        exact r_ireturn dX7_areTwo_26 rfl (nz_b (by first | exact Or.inl rfl | exact Or.inr rfl)).1
noncomputable def m_X3_payVisit (a1 : Int32) (a2 : Int32) (mm : Mm) : Option (Int32 × Mm) := if (m_X7_areTwo a1 a2 mm) = 0 then (some ((0 : Int32), mm)) else (grd ((a1 * (6 : Int32)) + a2) 36 (if (mI mm 18 (ix ((a1 * (6 : Int32)) + a2))) < (9 : Int32) then (grd ((a1 * (6 : Int32)) + a2) 36 (grd ((a1 * (6 : Int32)) + a2) 36 (some ((1 : Int32), (sI mm 18 (ix ((a1 * (6 : Int32)) + a2)) ((mI mm 18 (ix ((a1 * (6 : Int32)) + a2))) + (1 : Int32))))))) else (some ((0 : Int32), mm))))
set_option maxHeartbeats 4000000 in
set_option maxRecDepth 100000 in
theorem c_X3_payVisit {l : Launch} {G : Gt} {S : Sk} {a1 : Int32} {a2 : Int32} {mm : Mm} (hS : Lay S) {q : Int32 × Mm} (e : m_X3_payVisit a1 a2 mm = some q) : CallOK l G M_X3_payVisit yX3_payVisit 2 [vr (some 13), vi a1, vi a2] S mm (some (vi q.1)) S q.2 := by
  refine call_of_run rfl rfl rfl (Nat.le_of_ble_eq_true rfl) ?_
  show Run l G M_X3_payVisit 2 0 [some (vr (some 13)), some (vi a1), some (vi a2)] [] S mm (some (vi q.1)) S q.2
  unfold m_X3_payVisit at e
  refine r_aload_n dX3_payVisit_0 rfl ?_
  refine r_getR dX3_payVisit_1 fl_X3_12 rfl (lp_13 hS) (lq_13 hS) (lr_13_0 hS) ?_
  refine r_iload_n dX3_payVisit_4 rfl ?_
  refine r_iload_n dX3_payVisit_5 rfl ?_
  refine r_callV (as := [_, _]) (rest := []) dX3_payVisit_6 ml_X3_116 yV_X7_areTwo (c_X7_areTwo hS) (by decide) rfl (lp_14 hS) (lq_14 hS) (Nat.le_of_ble_eq_true rfl) ?_
  refine r_if_eq (tgt := 31) dX3_payVisit_9 rfl (fun h1 => ?_) (fun h1 => ?_)
  · replace e := ite_t h1 e
    refine r_iconst (v := 0) dX3_payVisit_31 ci_0 ?_
    cases e
    exact r_ireturn dX3_payVisit_32 rfl (nz_b (by first | exact Or.inl rfl | exact Or.inr rfl)).1
  · replace e := ite_f h1 e
    refine r_aload_n dX3_payVisit_12 rfl ?_
    refine r_getR dX3_payVisit_13 fl_X3_12 rfl (lp_13 hS) (lq_13 hS) (lr_13_0 hS) ?_
    refine r_getR dX3_payVisit_16 fl_X3_119 rfl (lp_14 hS) (lq_14 hS) (lr_14_5 hS) ?_
    refine r_iload_n dX3_payVisit_19 rfl ?_
    refine r_bipush (v := 6) dX3_payVisit_20 cb_6 ?_
    refine r_imul dX3_payVisit_22 ?_
    refine r_iload_n dX3_payVisit_23 rfl ?_
    refine r_iadd dX3_payVisit_24 ?_
    obtain ⟨hg2, e⟩ := grd_some e
    refine r_iald dX3_payVisit_25 (lp_18 hS) (lk_18 hS) hg2 ?_
    refine r_bipush (v := 9) dX3_payVisit_26 cb_9 ?_
    refine r_icmp_lt (tgt := 33) dX3_payVisit_28 rfl (fun h3 => ?_) (fun h3 => ?_)
    · replace e := ite_t h3 e
      refine r_aload_n dX3_payVisit_33 rfl ?_
      refine r_getR dX3_payVisit_34 fl_X3_12 rfl (lp_13 hS) (lq_13 hS) (lr_13_0 hS) ?_
      refine r_getR dX3_payVisit_37 fl_X3_119 rfl (lp_14 hS) (lq_14 hS) (lr_14_5 hS) ?_
      refine r_iload_n dX3_payVisit_40 rfl ?_
      refine r_bipush (v := 6) dX3_payVisit_41 cb_6 ?_
      refine r_imul dX3_payVisit_43 ?_
      refine r_iload_n dX3_payVisit_44 rfl ?_
      refine r_iadd dX3_payVisit_45 ?_
      refine r_dup2 dX3_payVisit_46 rfl rfl ?_
      obtain ⟨hg4, e⟩ := grd_some e
      refine r_iald dX3_payVisit_47 (lp_18 hS) (lk_18 hS) hg4 ?_
      refine r_iconst (v := 1) dX3_payVisit_48 ci_1 ?_
      refine r_iadd dX3_payVisit_49 ?_
      obtain ⟨hg5, e⟩ := grd_some e
      refine r_iast dX3_payVisit_50 (lp_18 hS) (lk_18 hS) hg5 ?_
      refine r_iconst (v := 1) dX3_payVisit_51 ci_1 ?_
      cases e
      exact r_ireturn dX3_payVisit_52 rfl (nz_b (by first | exact Or.inl rfl | exact Or.inr rfl)).1
    · replace e := ite_f h3 e
      refine r_iconst (v := 0) dX3_payVisit_31 ci_0 ?_
      cases e
      exact r_ireturn dX3_payVisit_32 rfl (nz_b (by first | exact Or.inl rfl | exact Or.inr rfl)).1
noncomputable def m_X3_changeLiking (a1 : Int32) (a2 : Int32) (a3 : Int32) (mm : Mm) : Option (Int32 × Mm) := if (m_X7_areTwo a1 a2 mm) = 0 then (some ((0 : Int32), mm)) else (grd a2 6 (if (m_X11_has (mI mm 17 (ix a2)) a1) = a3 then (some ((0 : Int32), mm)) else (grd a2 6 (grd a2 6 (some ((1 : Int32), (sI mm 17 (ix a2) ((mI mm 17 (ix a2)) ^^^ (xshl (1 : Int32) a1)))))))))
set_option maxHeartbeats 4000000 in
set_option maxRecDepth 100000 in
theorem c_X3_changeLiking {l : Launch} {G : Gt} {S : Sk} {a1 : Int32} {a2 : Int32} {a3 : Int32} {mm : Mm} (hS : Lay S) {q : Int32 × Mm} (e : m_X3_changeLiking a1 a2 a3 mm = some q) : CallOK l G M_X3_changeLiking yX3_changeLiking 2 [vr (some 13), vi a1, vi a2, vi a3] S mm (some (vi q.1)) S q.2 := by
  refine call_of_run rfl rfl rfl (Nat.le_of_ble_eq_true rfl) ?_
  show Run l G M_X3_changeLiking 2 0 [some (vr (some 13)), some (vi a1), some (vi a2), some (vi a3)] [] S mm (some (vi q.1)) S q.2
  unfold m_X3_changeLiking at e
  refine r_aload_n dX3_changeLiking_0 rfl ?_
  refine r_getR dX3_changeLiking_1 fl_X3_12 rfl (lp_13 hS) (lq_13 hS) (lr_13_0 hS) ?_
  refine r_iload_n dX3_changeLiking_4 rfl ?_
  refine r_iload_n dX3_changeLiking_5 rfl ?_
  refine r_callV (as := [_, _]) (rest := []) dX3_changeLiking_6 ml_X3_116 yV_X7_areTwo (c_X7_areTwo hS) (by decide) rfl (lp_14 hS) (lq_14 hS) (Nat.le_of_ble_eq_true rfl) ?_
  refine r_if_eq (tgt := 29) dX3_changeLiking_9 rfl (fun h1 => ?_) (fun h1 => ?_)
  · replace e := ite_t h1 e
    refine r_iconst (v := 0) dX3_changeLiking_29 ci_0 ?_
    cases e
    exact r_ireturn dX3_changeLiking_30 rfl (nz_b (by first | exact Or.inl rfl | exact Or.inr rfl)).1
  · replace e := ite_f h1 e
    refine r_aload_n dX3_changeLiking_12 rfl ?_
    refine r_getR dX3_changeLiking_13 fl_X3_12 rfl (lp_13 hS) (lq_13 hS) (lr_13_0 hS) ?_
    refine r_getR dX3_changeLiking_16 fl_X3_122 rfl (lp_14 hS) (lq_14 hS) (lr_14_4 hS) ?_
    refine r_iload_n dX3_changeLiking_19 rfl ?_
    obtain ⟨hg2, e⟩ := grd_some e
    refine r_iald dX3_changeLiking_20 (lp_17 hS) (lk_17 hS) hg2 ?_
    refine r_iload_n dX3_changeLiking_21 rfl ?_
    refine r_callSN (as := [_, _]) (rest := []) dX3_changeLiking_22 nl_X3_125 yS_X11_has (c_X11_has) (by decide) rfl (Nat.le_of_ble_eq_true rfl) ?_
    refine r_iload_n dX3_changeLiking_25 rfl ?_
    refine r_icmp_ne (tgt := 31) dX3_changeLiking_26 rfl (fun h3 => ?_) (fun h3 => ?_)
    · replace e := ite_f h3 e
      refine r_aload_n dX3_changeLiking_31 rfl ?_
      refine r_getR dX3_changeLiking_32 fl_X3_12 rfl (lp_13 hS) (lq_13 hS) (lr_13_0 hS) ?_
      refine r_getR dX3_changeLiking_35 fl_X3_122 rfl (lp_14 hS) (lq_14 hS) (lr_14_4 hS) ?_
      refine r_iload_n dX3_changeLiking_38 rfl ?_
      refine r_dup2 dX3_changeLiking_39 rfl rfl ?_
      obtain ⟨hg4, e⟩ := grd_some e
      refine r_iald dX3_changeLiking_40 (lp_17 hS) (lk_17 hS) hg4 ?_
      refine r_iconst (v := 1) dX3_changeLiking_41 ci_1 ?_
      refine r_iload_n dX3_changeLiking_42 rfl ?_
      refine r_ishl dX3_changeLiking_43 ?_
      refine r_ixor dX3_changeLiking_44 ?_
      obtain ⟨hg5, e⟩ := grd_some e
      refine r_iast dX3_changeLiking_45 (lp_17 hS) (lk_17 hS) hg5 ?_
      refine r_iconst (v := 1) dX3_changeLiking_46 ci_1 ?_
      cases e
      exact r_ireturn dX3_changeLiking_47 rfl (nz_b (by first | exact Or.inl rfl | exact Or.inr rfl)).1
    · replace e := ite_t h3 e
      refine r_iconst (v := 0) dX3_changeLiking_29 ci_0 ?_
      cases e
      exact r_ireturn dX3_changeLiking_30 rfl (nz_b (by first | exact Or.inl rfl | exact Or.inr rfl)).1
noncomputable def m_X3_takeOath (a1 : Int32) (a2 : Int32) (a3 : Int32) (mm : Mm) : Option (Int32 × Mm) := if (m_X7_areTwo a1 a2 mm) = 0 then (some ((0 : Int32), mm)) else (if (m_X11_has (mI mm 13 4) a1) = 0 then (if (12 : Int32) ≤ (mI mm 14 1) then (some ((0 : Int32), mm)) else ((m_X7_hasOath a1 a2 a3 mm).bind (fun q4 => if q4 = 0 then (grd (mI mm 14 1) 12 (grd (mI mm 14 1) 12 (grd (mI mm 14 1) 12 (some ((1 : Int32), (sI (sI (sI (sI (sI mm 20 (ix (mI mm 14 1)) a1) 21 (ix (mI mm 14 1)) a2) 22 (ix (mI mm 14 1)) a3) 14 1 ((mI mm 14 1) + (1 : Int32))) 13 8 ((mI (sI (sI (sI (sI mm 20 (ix (mI mm 14 1)) a1) 21 (ix (mI mm 14 1)) a2) 22 (ix (mI mm 14 1)) a3) 14 1 ((mI mm 14 1) + (1 : Int32))) 13 8) + (1 : Int32)))))))) else (some ((0 : Int32), mm))))) else (some ((0 : Int32), mm)))
set_option maxHeartbeats 4000000 in
set_option maxRecDepth 100000 in
theorem c_X3_takeOath {l : Launch} {G : Gt} {S : Sk} {a1 : Int32} {a2 : Int32} {a3 : Int32} {mm : Mm} (hS : Lay S) {q : Int32 × Mm} (e : m_X3_takeOath a1 a2 a3 mm = some q) : CallOK l G M_X3_takeOath yX3_takeOath 2 [vr (some 13), vi a1, vi a2, vi a3] S mm (some (vi q.1)) S q.2 := by
  refine call_of_run rfl rfl rfl (Nat.le_of_ble_eq_true rfl) ?_
  show Run l G M_X3_takeOath 2 0 [some (vr (some 13)), some (vi a1), some (vi a2), some (vi a3), none] [] S mm (some (vi q.1)) S q.2
  unfold m_X3_takeOath at e
  refine r_aload_n dX3_takeOath_0 rfl ?_
  refine r_getR dX3_takeOath_1 fl_X3_12 rfl (lp_13 hS) (lq_13 hS) (lr_13_0 hS) ?_
  refine r_getI dX3_takeOath_4 fl_X3_103 rfl (lp_14 hS) (lq_14 hS) ?_
  refine r_istore dX3_takeOath_7 (by decide) rfl ?_
  refine r_aload_n dX3_takeOath_9 rfl ?_
  refine r_getR dX3_takeOath_10 fl_X3_12 rfl (lp_13 hS) (lq_13 hS) (lr_13_0 hS) ?_
  refine r_iload_n dX3_takeOath_13 rfl ?_
  refine r_iload_n dX3_takeOath_14 rfl ?_
  refine r_callV (as := [_, _]) (rest := []) dX3_takeOath_15 ml_X3_116 yV_X7_areTwo (c_X7_areTwo hS) (by decide) rfl (lp_14 hS) (lq_14 hS) (Nat.le_of_ble_eq_true rfl) ?_
  refine r_if_eq (tgt := 52) dX3_takeOath_18 rfl (fun h1 => ?_) (fun h1 => ?_)
  · replace e := ite_t h1 e
    refine r_iconst (v := 0) dX3_takeOath_52 ci_0 ?_
    cases e
    exact r_ireturn dX3_takeOath_53 rfl (nz_b (by first | exact Or.inl rfl | exact Or.inr rfl)).1
  · replace e := ite_f h1 e
    refine r_aload_n dX3_takeOath_21 rfl ?_
    refine r_getI dX3_takeOath_22 fl_X3_28 rfl (lp_13 hS) (lq_13 hS) ?_
    refine r_iload_n dX3_takeOath_25 rfl ?_
    refine r_callSN (as := [_, _]) (rest := []) dX3_takeOath_26 nl_X3_125 yS_X11_has (c_X11_has) (by decide) rfl (Nat.le_of_ble_eq_true rfl) ?_
    refine r_if_ne (tgt := 52) dX3_takeOath_29 rfl (fun h2 => ?_) (fun h2 => ?_)
    · replace e := ite_f h2 e
      refine r_iconst (v := 0) dX3_takeOath_52 ci_0 ?_
      cases e
      exact r_ireturn dX3_takeOath_53 rfl (nz_b (by first | exact Or.inl rfl | exact Or.inr rfl)).1
    · replace e := ite_t h2 e
      refine r_iload dX3_takeOath_32 rfl ?_
      refine r_bipush (v := 12) dX3_takeOath_34 cb_12 ?_
      refine r_icmp_ge (tgt := 52) dX3_takeOath_36 rfl (fun h3 => ?_) (fun h3 => ?_)
      · replace e := ite_t h3 e
        refine r_iconst (v := 0) dX3_takeOath_52 ci_0 ?_
        cases e
        exact r_ireturn dX3_takeOath_53 rfl (nz_b (by first | exact Or.inl rfl | exact Or.inr rfl)).1
      · replace e := ite_f h3 e
        refine r_aload_n dX3_takeOath_39 rfl ?_
        refine r_getR dX3_takeOath_40 fl_X3_12 rfl (lp_13 hS) (lq_13 hS) (lr_13_0 hS) ?_
        refine r_iload_n dX3_takeOath_43 rfl ?_
        refine r_iload_n dX3_takeOath_44 rfl ?_
        refine r_iload_n dX3_takeOath_45 rfl ?_
        obtain ⟨q4, eq5, e⟩ := obind e
        refine r_callV (as := [_, _, _]) (rest := []) dX3_takeOath_46 ml_X3_128 yV_X7_hasOath (c_X7_hasOath hS eq5) (by decide) rfl (lp_14 hS) (lq_14 hS) (Nat.le_of_ble_eq_true rfl) ?_
        refine r_if_eq (tgt := 54) dX3_takeOath_49 rfl (fun h6 => ?_) (fun h6 => ?_)
        · replace e := ite_t h6 e
          refine r_aload_n dX3_takeOath_54 rfl ?_
          refine r_getR dX3_takeOath_55 fl_X3_12 rfl (lp_13 hS) (lq_13 hS) (lr_13_0 hS) ?_
          refine r_getR dX3_takeOath_58 fl_X3_131 rfl (lp_14 hS) (lq_14 hS) (lr_14_7 hS) ?_
          refine r_iload dX3_takeOath_61 rfl ?_
          refine r_iload_n dX3_takeOath_63 rfl ?_
          obtain ⟨hg7, e⟩ := grd_some e
          refine r_iast dX3_takeOath_64 (lp_20 hS) (lk_20 hS) hg7 ?_
          refine r_aload_n dX3_takeOath_65 rfl ?_
          refine r_getR dX3_takeOath_66 fl_X3_12 rfl (lp_13 hS) (lq_13 hS) (lr_13_0 hS) ?_
          refine r_getR dX3_takeOath_69 fl_X3_134 rfl (lp_14 hS) (lq_14 hS) (lr_14_8 hS) ?_
          refine r_iload dX3_takeOath_72 rfl ?_
          refine r_iload_n dX3_takeOath_74 rfl ?_
          obtain ⟨hg8, e⟩ := grd_some e
          refine r_iast dX3_takeOath_75 (lp_21 hS) (lk_21 hS) hg8 ?_
          refine r_aload_n dX3_takeOath_76 rfl ?_
          refine r_getR dX3_takeOath_77 fl_X3_12 rfl (lp_13 hS) (lq_13 hS) (lr_13_0 hS) ?_
          refine r_getR dX3_takeOath_80 fl_X3_137 rfl (lp_14 hS) (lq_14 hS) (lr_14_9 hS) ?_
          refine r_iload dX3_takeOath_83 rfl ?_
          refine r_iload_n dX3_takeOath_85 rfl ?_
          obtain ⟨hg9, e⟩ := grd_some e
          refine r_iast dX3_takeOath_86 (lp_22 hS) (lk_22 hS) hg9 ?_
          refine r_aload_n dX3_takeOath_87 rfl ?_
          refine r_getR dX3_takeOath_88 fl_X3_12 rfl (lp_13 hS) (lq_13 hS) (lr_13_0 hS) ?_
          refine r_iload dX3_takeOath_91 rfl ?_
          refine r_iconst (v := 1) dX3_takeOath_93 ci_1 ?_
          refine r_iadd dX3_takeOath_94 ?_
          refine r_putI dX3_takeOath_95 fl_X3_103 ft_7_1 (Or.inl rfl) rfl rfl rfl (lp_14 hS) (lq_14 hS) ?_
          refine r_aload_n dX3_takeOath_98 rfl ?_
          refine r_dup dX3_takeOath_99 rfl ?_
          refine r_getI dX3_takeOath_100 fl_X3_40 rfl (lp_13 hS) (lq_13 hS) ?_
          refine r_iconst (v := 1) dX3_takeOath_103 ci_1 ?_
          refine r_iadd dX3_takeOath_104 ?_
          refine r_putI dX3_takeOath_105 fl_X3_40 ft_3_8 (Or.inl rfl) rfl rfl rfl (lp_13 hS) (lq_13 hS) ?_
          refine r_iconst (v := 1) dX3_takeOath_108 ci_1 ?_
          cases e
          exact r_ireturn dX3_takeOath_109 rfl (nz_b (by first | exact Or.inl rfl | exact Or.inr rfl)).1
        · replace e := ite_f h6 e
          refine r_iconst (v := 0) dX3_takeOath_52 ci_0 ?_
          cases e
          exact r_ireturn dX3_takeOath_53 rfl (nz_b (by first | exact Or.inl rfl | exact Or.inr rfl)).1
noncomputable def m_X3_perform (a1 : Int32) (a2 : Int32) (a3 : Int32) (a4 : Int32) (a5 : Int32) (mm : Mm) : Option (Int32 × Mm) := if a2 = (0 : Int32) then ((m_X3_holdMonday a1 mm).bind (fun q2 => some ((1 : Int32), q2))) else (if a2 = (1 : Int32) then ((m_X3_changeWill a3 (-1 : Int32) mm).bind (fun q5 => gbz q5.1 (some (q5.1, q5.2)))) else (if a2 = (2 : Int32) then ((m_X3_changeWill a3 (1 : Int32) mm).bind (fun q8 => gbz q8.1 (some (q8.1, q8.2)))) else (if a2 = (3 : Int32) then ((m_X3_payVisit a3 a4 mm).bind (fun q11 => gbz q11.1 (some (q11.1, q11.2)))) else (if a2 = (4 : Int32) then ((m_X3_changeLiking a3 a4 (1 : Int32) mm).bind (fun q14 => gbz q14.1 (some (q14.1, q14.2)))) else (if a2 = (5 : Int32) then ((m_X3_changeLiking a3 a4 (0 : Int32) mm).bind (fun q17 => gbz q17.1 (some (q17.1, q17.2)))) else (if a2 = (6 : Int32) then ((m_X3_takeOath a3 a4 a5 mm).bind (fun q20 => gbz q20.1 (some (q20.1, q20.2)))) else (some ((0 : Int32), mm))))))))
set_option maxHeartbeats 4000000 in
set_option maxRecDepth 100000 in
theorem c_X3_perform {l : Launch} {G : Gt} {S : Sk} {a1 : Int32} {a2 : Int32} {a3 : Int32} {a4 : Int32} {a5 : Int32} {mm : Mm} (hS : Lay S) {q : Int32 × Mm} (e : m_X3_perform a1 a2 a3 a4 a5 mm = some q) : CallOK l G M_X3_perform yX3_perform 4 [vr (some 13), vi a1, vi a2, vi a3, vi a4, vi a5] S mm (some (vi q.1)) S q.2 := by
  refine call_of_run rfl rfl rfl (Nat.le_of_ble_eq_true rfl) ?_
  show Run l G M_X3_perform 4 0 [some (vr (some 13)), some (vi a1), some (vi a2), some (vi a3), some (vi a4), some (vi a5)] [] S mm (some (vi q.1)) S q.2
  unfold m_X3_perform at e
  refine r_iload_n dX3_perform_0 rfl ?_
  by_cases h1 : a2 = (0 : Int32)
  · replace e := ite_t h1 e
    refine r_table_in (tgt := 44) dX3_perform_1 (by rw [h1]; decide) (by rw [h1]; decide) (by rw [h1]; rfl) rfl ?_
    refine r_aload_n dX3_perform_44 rfl ?_
    refine r_iload_n dX3_perform_45 rfl ?_
    obtain ⟨q2, eq3, e⟩ := obind e
    refine r_callV (as := [_]) (rest := []) dX3_perform_46 ml_X3_77 yV_X3_holdMonday (c_X3_holdMonday hS eq3) (by decide) rfl (lp_13 hS) (lq_13 hS) (Nat.le_of_ble_eq_true rfl) ?_
    refine r_iconst (v := 1) dX3_perform_49 ci_1 ?_
    cases e
    exact r_ireturn dX3_perform_50 rfl (nz_b (by first | exact Or.inl rfl | exact Or.inr rfl)).1
  replace e := ite_f h1 e
  by_cases h4 : a2 = (1 : Int32)
  · replace e := ite_t h4 e
    refine r_table_in (tgt := 51) dX3_perform_1 (by rw [h4]; decide) (by rw [h4]; decide) (by rw [h4]; rfl) rfl ?_
    refine r_aload_n dX3_perform_51 rfl ?_
    refine r_iload_n dX3_perform_52 rfl ?_
    refine r_iconst (v := -1) dX3_perform_53 ci_m1 ?_
    obtain ⟨q5, eq6, e⟩ := obind e
    refine r_callV (as := [_, _]) (rest := []) dX3_perform_54 ml_X3_80 yV_X3_changeWill (c_X3_changeWill hS eq6) (by decide) rfl (lp_13 hS) (lq_13 hS) (Nat.le_of_ble_eq_true rfl) ?_
    obtain ⟨hbz, e⟩ := gbz_some e
    cases e
    exact r_ireturn dX3_perform_57 rfl (nz_b hbz).1
  replace e := ite_f h4 e
  by_cases h7 : a2 = (2 : Int32)
  · replace e := ite_t h7 e
    refine r_table_in (tgt := 58) dX3_perform_1 (by rw [h7]; decide) (by rw [h7]; decide) (by rw [h7]; rfl) rfl ?_
    refine r_aload_n dX3_perform_58 rfl ?_
    refine r_iload_n dX3_perform_59 rfl ?_
    refine r_iconst (v := 1) dX3_perform_60 ci_1 ?_
    obtain ⟨q8, eq9, e⟩ := obind e
    refine r_callV (as := [_, _]) (rest := []) dX3_perform_61 ml_X3_80 yV_X3_changeWill (c_X3_changeWill hS eq9) (by decide) rfl (lp_13 hS) (lq_13 hS) (Nat.le_of_ble_eq_true rfl) ?_
    obtain ⟨hbz, e⟩ := gbz_some e
    cases e
    exact r_ireturn dX3_perform_64 rfl (nz_b hbz).1
  replace e := ite_f h7 e
  by_cases h10 : a2 = (3 : Int32)
  · replace e := ite_t h10 e
    refine r_table_in (tgt := 65) dX3_perform_1 (by rw [h10]; decide) (by rw [h10]; decide) (by rw [h10]; rfl) rfl ?_
    refine r_aload_n dX3_perform_65 rfl ?_
    refine r_iload_n dX3_perform_66 rfl ?_
    refine r_iload dX3_perform_67 rfl ?_
    obtain ⟨q11, eq12, e⟩ := obind e
    refine r_callV (as := [_, _]) (rest := []) dX3_perform_69 ml_X3_84 yV_X3_payVisit (c_X3_payVisit hS eq12) (by decide) rfl (lp_13 hS) (lq_13 hS) (Nat.le_of_ble_eq_true rfl) ?_
    obtain ⟨hbz, e⟩ := gbz_some e
    cases e
    exact r_ireturn dX3_perform_72 rfl (nz_b hbz).1
  replace e := ite_f h10 e
  by_cases h13 : a2 = (4 : Int32)
  · replace e := ite_t h13 e
    refine r_table_in (tgt := 73) dX3_perform_1 (by rw [h13]; decide) (by rw [h13]; decide) (by rw [h13]; rfl) rfl ?_
    refine r_aload_n dX3_perform_73 rfl ?_
    refine r_iload_n dX3_perform_74 rfl ?_
    refine r_iload dX3_perform_75 rfl ?_
    refine r_iconst (v := 1) dX3_perform_77 ci_1 ?_
    obtain ⟨q14, eq15, e⟩ := obind e
    refine r_callV (as := [_, _, _]) (rest := []) dX3_perform_78 ml_X3_87 yV_X3_changeLiking (c_X3_changeLiking hS eq15) (by decide) rfl (lp_13 hS) (lq_13 hS) (Nat.le_of_ble_eq_true rfl) ?_
    obtain ⟨hbz, e⟩ := gbz_some e
    cases e
    exact r_ireturn dX3_perform_81 rfl (nz_b hbz).1
  replace e := ite_f h13 e
  by_cases h16 : a2 = (5 : Int32)
  · replace e := ite_t h16 e
    refine r_table_in (tgt := 82) dX3_perform_1 (by rw [h16]; decide) (by rw [h16]; decide) (by rw [h16]; rfl) rfl ?_
    refine r_aload_n dX3_perform_82 rfl ?_
    refine r_iload_n dX3_perform_83 rfl ?_
    refine r_iload dX3_perform_84 rfl ?_
    refine r_iconst (v := 0) dX3_perform_86 ci_0 ?_
    obtain ⟨q17, eq18, e⟩ := obind e
    refine r_callV (as := [_, _, _]) (rest := []) dX3_perform_87 ml_X3_87 yV_X3_changeLiking (c_X3_changeLiking hS eq18) (by decide) rfl (lp_13 hS) (lq_13 hS) (Nat.le_of_ble_eq_true rfl) ?_
    obtain ⟨hbz, e⟩ := gbz_some e
    cases e
    exact r_ireturn dX3_perform_90 rfl (nz_b hbz).1
  replace e := ite_f h16 e
  by_cases h19 : a2 = (6 : Int32)
  · replace e := ite_t h19 e
    refine r_table_in (tgt := 91) dX3_perform_1 (by rw [h19]; decide) (by rw [h19]; decide) (by rw [h19]; rfl) rfl ?_
    refine r_aload_n dX3_perform_91 rfl ?_
    refine r_iload_n dX3_perform_92 rfl ?_
    refine r_iload dX3_perform_93 rfl ?_
    refine r_iload dX3_perform_95 rfl ?_
    obtain ⟨q20, eq21, e⟩ := obind e
    refine r_callV (as := [_, _, _]) (rest := []) dX3_perform_97 ml_X3_91 yV_X3_takeOath (c_X3_takeOath hS eq21) (by decide) rfl (lp_13 hS) (lq_13 hS) (Nat.le_of_ble_eq_true rfl) ?_
    obtain ⟨hbz, e⟩ := gbz_some e
    cases e
    exact r_ireturn dX3_perform_100 rfl (nz_b hbz).1
  replace e := ite_f h19 e
  have ho1 : (a2).toInt < 0 ∨ 6 < (a2).toInt := by
    have nh1 := lv_neT (a := 0) h1 (by decide)
    have nh4 := lv_neT (a := 1) h4 (by decide)
    have nh7 := lv_neT (a := 2) h7 (by decide)
    have nh10 := lv_neT (a := 3) h10 (by decide)
    have nh13 := lv_neT (a := 4) h13 (by decide)
    have nh16 := lv_neT (a := 5) h16 (by decide)
    have nh19 := lv_neT (a := 6) h19 (by decide)
    omega
  refine r_table_out (tgt := 101) dX3_perform_1 ho1 rfl ?_
  refine r_iconst (v := 0) dX3_perform_101 ci_0 ?_
  cases e
  exact r_ireturn dX3_perform_102 rfl (nz_b (by first | exact Or.inl rfl | exact Or.inr rfl)).1
noncomputable def m_X3_run_b8 (a2 : Nat) (a3 : Int32) (q1 : Sk × Mm) (z3 : Int32 × Mm) : Option ((Int32 × Mm) ⊕ ((Mm) ⊕ (Int32 × Sk × Mm))) := if a3 ≤ z3.1 then (some (.inr (.inl z3.2))) else (gk q1.1 a2 6 (gP (SI q1.1) ((m_X6_cell q1.1 a2 z3.1 (0 : Int32) z3.2).bind (fun q12 => (m_X6_cell q1.1 a2 z3.1 (1 : Int32) z3.2).bind (fun q14 => (m_X6_cell q1.1 a2 z3.1 (2 : Int32) z3.2).bind (fun q16 => (m_X6_cell q1.1 a2 z3.1 (3 : Int32) z3.2).bind (fun q18 => (m_X3_perform z3.1 q12 q14 q16 q18 z3.2).bind (fun q20 => if q20.1 = 0 then (some (.inr (.inr (z3.1, q1.1, q20.2)))) else (some (.inl (z3.1 + (1 : Int32), q20.2)))))))))))
noncomputable def m_X3_run (S : Sk) (a1 : Nat) (a2 : Nat) (a3 : Int32) (mm : Mm) : Option (Int32 × Sk × Mm) := (m_X3_begin S a1 mm).bind (fun q1 => bS (whileF FU (m_X3_run_b8 a2 a3 q1) ((0 : Int32), q1.2)) (fun p4 => some (a3, q1.1, p4)))
set_option maxHeartbeats 4000000 in
set_option maxRecDepth 100000 in
theorem c_X3_run {l : Launch} {G : Gt} {S : Sk} {a1 : Nat} {a2 : Nat} {a3 : Int32} {mm : Mm} (hI : SI S) (ha1 : KD S a1 2) (ha2 : KD S a2 6) {q : Int32 × Sk × Mm} (e : m_X3_run S a1 a2 a3 mm = some q) : CallOK l G M_X3_run yX3_run 5 [vr (some 13), vr (some a1), vr (some a2), vi a3] S mm (some (vi q.1)) q.2.1 q.2.2 := by
  have hS := hI.1
  refine call_of_run rfl rfl rfl (Nat.le_of_ble_eq_true rfl) ?_
  show Run l G M_X3_run 5 0 [some (vr (some 13)), some (vr (some a1)), some (vr (some a2)), some (vi a3), none] [] S mm (some (vi q.1)) q.2.1 q.2.2
  unfold m_X3_run at e
  refine r_aload_n dX3_run_0 rfl ?_
  refine r_aload_n dX3_run_1 rfl ?_
  obtain ⟨q1, eq2, e⟩ := obind e
  refine r_callV (as := [_]) (rest := []) dX3_run_2 ml_X3_54 yV_X3_begin (c_X3_begin hI ha1 eq2) (by decide) rfl (lp_13 hS) (lq_13 hS) (Nat.le_of_ble_eq_true rfl) ?_
  refine r_iconst (v := 0) dX3_run_5 ci_0 ?_
  refine r_istore dX3_run_6 (by decide) rfl ?_
  obtain ⟨x6, eb8w, elx6, erx6⟩ := bS_some e
  have J5 : ∀ p4 : Mm, x6 = .inl p4 → Run l G M_X3_run 5 60 [none, none, none, some (vi a3), none] [] q1.1 p4 (some (vi q.1)) q.2.1 q.2.2 := by
    intro p4 hp4
    replace e := elx6 p4 hp4
    refine r_iload_n dX3_run_60 rfl ?_
    cases e
    exact r_ireturn dX3_run_61 rfl rfl
  have J5w : Run l G M_X3_run 5 8 [some (vr (some 13)), none, some (vr (some a2)), some (vi a3), some (vi (0 : Int32))] [] q1.1 q1.2 (some (vi q.1)) q.2.1 q.2.2 := by
    refine while_run (s := ((0 : Int32), q1.2)) (Gs := fun (z3 : Int32 × Mm) => Run l G M_X3_run 5 8 [some (vr (some 13)), none, some (vr (some a2)), some (vi a3), some (vi z3.1)] [] q1.1 z3.2 (some (vi q.1)) q.2.1 q.2.2) eb8w ?_
    intro z3 x6y eb8 hx7
    unfold m_X3_run_b8 at eb8
    refine r_iload dX3_run_8 rfl ?_
    refine r_iload_n dX3_run_10 rfl ?_
    refine r_icmp_ge (tgt := 60) dX3_run_11 rfl (fun h9 => ?_) (fun h9 => ?_)
    · replace eb8 := ite_t h9 eb8
      cases eb8
      exact r_weak (L' := [none, none, none, some (vi a3), none]) ⟨rfl, trivial⟩ (J5 _ (Eq.symm hx7))
    · replace eb8 := ite_f h9 eb8
      refine r_aload_n dX3_run_14 rfl ?_
      refine r_iload dX3_run_15 rfl ?_
      refine r_aload_n dX3_run_17 rfl ?_
      refine r_iload dX3_run_18 rfl ?_
      refine r_iconst (v := 0) dX3_run_20 ci_0 ?_
      obtain ⟨hn10, eb8⟩ := gk_some eb8
      obtain ⟨hn11, eb8⟩ := gP_some eb8
      obtain ⟨q12, eq13, eb8⟩ := obind eb8
      refine r_callV (as := [_, _]) (rest := [_, _]) dX3_run_21 ml_X3_55 yV_X6_cell (c_X6_cell hn11 hn10 eq13) (by decide) rfl hn10.1 hn10.2 (Nat.le_of_ble_eq_true rfl) ?_
      refine r_aload_n dX3_run_24 rfl ?_
      refine r_iload dX3_run_25 rfl ?_
      refine r_iconst (v := 1) dX3_run_27 ci_1 ?_
      obtain ⟨q14, eq15, eb8⟩ := obind eb8
      refine r_callV (as := [_, _]) (rest := [_, _, _]) dX3_run_28 ml_X3_55 yV_X6_cell (c_X6_cell hn11 hn10 eq15) (by decide) rfl hn10.1 hn10.2 (Nat.le_of_ble_eq_true rfl) ?_
      refine r_aload_n dX3_run_31 rfl ?_
      refine r_iload dX3_run_32 rfl ?_
      refine r_iconst (v := 2) dX3_run_34 ci_2 ?_
      obtain ⟨q16, eq17, eb8⟩ := obind eb8
      refine r_callV (as := [_, _]) (rest := [_, _, _, _]) dX3_run_35 ml_X3_55 yV_X6_cell (c_X6_cell hn11 hn10 eq17) (by decide) rfl hn10.1 hn10.2 (Nat.le_of_ble_eq_true rfl) ?_
      refine r_aload_n dX3_run_38 rfl ?_
      refine r_iload dX3_run_39 rfl ?_
      refine r_iconst (v := 3) dX3_run_41 ci_3 ?_
      obtain ⟨q18, eq19, eb8⟩ := obind eb8
      refine r_callV (as := [_, _]) (rest := [_, _, _, _, _]) dX3_run_42 ml_X3_55 yV_X6_cell (c_X6_cell hn11 hn10 eq19) (by decide) rfl hn10.1 hn10.2 (Nat.le_of_ble_eq_true rfl) ?_
      obtain ⟨q20, eq21, eb8⟩ := obind eb8
      refine r_callV (as := [_, _, _, _, _]) (rest := []) dX3_run_45 ml_X3_61 yV_X3_perform (c_X3_perform hn11.1 eq21) (by decide) rfl (lp_13 hn11.1) (lq_13 hn11.1) (Nat.le_of_ble_eq_true rfl) ?_
      refine r_if_ne (tgt := 54) dX3_run_48 rfl (fun h22 => ?_) (fun h22 => ?_)
      · replace eb8 := ite_f h22 eb8
        refine r_iinc (v := _ + (1 : Int32)) dX3_run_54 rfl (congrArg (_ + ·) ci_1) (by decide) rfl ?_
        refine r_goto (tgt := 8) dX3_run_57 rfl ?_
        cases eb8
        exact r_weak (L' := [some (vr (some 13)), none, some (vr (some a2)), some (vi a3), some (vi (z3.1 + (1 : Int32)))]) ⟨rfl, rfl, rfl, rfl, trivial⟩ hx7
      · replace eb8 := ite_t h22 eb8
        refine r_iload dX3_run_51 rfl ?_
        cases eb8
        have e := congrArg some (erx6 _ (Eq.symm hx7))
        cases e
        exact r_ireturn dX3_run_53 rfl rfl
  exact r_weak (L' := [some (vr (some 13)), none, some (vr (some a2)), some (vi a3), some (vi (0 : Int32))]) ⟨rfl, rfl, rfl, rfl, trivial⟩ J5w
noncomputable def m_X3_draw (a1 : Int32) (mm : Mm) : Option (Int32 × Mm) := if a1 ≤ 0 then (some ((0 : Int32), (sI mm 13 9 (((mI mm 13 9) * (1103515245 : Int32)) + (12345 : Int32))))) else (gdz a1 (some (xrem (xushr (mI (sI mm 13 9 (((mI mm 13 9) * (1103515245 : Int32)) + (12345 : Int32))) 13 9) (16 : Int32)) a1, (sI mm 13 9 (((mI mm 13 9) * (1103515245 : Int32)) + (12345 : Int32))))))
set_option maxHeartbeats 4000000 in
set_option maxRecDepth 100000 in
theorem c_X3_draw {l : Launch} {G : Gt} {S : Sk} {a1 : Int32} {mm : Mm} (hS : Lay S) {q : Int32 × Mm} (e : m_X3_draw a1 mm = some q) : CallOK l G M_X3_draw yX3_draw 0 [vr (some 13), vi a1] S mm (some (vi q.1)) S q.2 := by
  refine call_of_run rfl rfl rfl (Nat.le_of_ble_eq_true rfl) ?_
  show Run l G M_X3_draw 0 0 [some (vr (some 13)), some (vi a1)] [] S mm (some (vi q.1)) S q.2
  unfold m_X3_draw at e
  refine r_aload_n dX3_draw_0 rfl ?_
  refine r_aload_n dX3_draw_1 rfl ?_
  refine r_getI dX3_draw_2 fl_X3_43 rfl (lp_13 hS) (lq_13 hS) ?_
  refine r_ldc dX3_draw_5 ct_X3_69 ?_
  refine r_imul dX3_draw_7 ?_
  refine r_sipush (v := 12345) dX3_draw_8 cs_12345 ?_
  refine r_iadd dX3_draw_11 ?_
  refine r_putI dX3_draw_12 fl_X3_43 ft_3_9 (Or.inl rfl) rfl rfl rfl (lp_13 hS) (lq_13 hS) ?_
  refine r_iload_n dX3_draw_15 rfl ?_
  refine r_if_le (tgt := 31) dX3_draw_16 rfl (fun h1 => ?_) (fun h1 => ?_)
  · replace e := ite_t h1 e
    refine r_iconst (v := 0) dX3_draw_31 ci_0 ?_
    cases e
    exact r_ireturn dX3_draw_32 rfl rfl
  · replace e := ite_f h1 e
    refine r_aload_n dX3_draw_19 rfl ?_
    refine r_getI dX3_draw_20 fl_X3_43 rfl (lp_13 hS) (lq_13 hS) ?_
    refine r_bipush (v := 16) dX3_draw_23 cb_16 ?_
    refine r_iushr dX3_draw_25 ?_
    refine r_iload_n dX3_draw_26 rfl ?_
    obtain ⟨hz2, e⟩ := gdz_some e
    refine r_irem dX3_draw_27 hz2 ?_
    refine r_goto (tgt := 32) dX3_draw_28 rfl ?_
    cases e
    exact r_ireturn dX3_draw_32 rfl rfl
noncomputable def m_X3_performDrawn (a1 : Int32) (mm : Mm) : Option (Mm) := (m_X3_draw (10 : Int32) mm).bind (fun q1 => if q1.1 = (9 : Int32) then ((m_X3_holdMonday a1 q1.2).bind (fun q42 => some q42)) else (bS (if q1.1 = (8 : Int32) then (if (mI mm 14 0) ≤ 0 then (some (.inl ())) else ((m_X3_draw (mI mm 14 0) q1.2).bind (fun q10 => (m_X3_draw (2 : Int32) q10.2).bind (fun q12 => (m_X3_perform a1 (if q12.1 = 0 then (1 : Int32) else (2 : Int32)) q10.1 (-1 : Int32) (-1 : Int32) q12.2).bind (fun q17 => some (.inr q17.2)))))) else (some (.inl ())) : Option ((Unit) ⊕ (Mm))) (fun p4 => if (8 : Int32) ≤ q1.1 then (some q1.2) else (if (mI mm 14 0) ≤ (1 : Int32) then (some q1.2) else ((m_X3_draw (mI mm 14 0) q1.2).bind (fun q22 => (m_X3_draw ((mI mm 14 0) - (1 : Int32)) q22.2).bind (fun q24 => gdz (mI mm 14 0) ((if (4 : Int32) ≤ q1.1 then (some ((-1 : Int32), q24.2)) else ((m_X3_draw (8 : Int32) q24.2).bind (fun q32 => some (q32.1, q32.2))) : Option (Int32 × Mm)).bind (fun p27 => (m_X3_perform a1 (if (4 : Int32) ≤ q1.1 then (if (6 : Int32) ≤ q1.1 then (if q1.1 = (6 : Int32) then (4 : Int32) else (5 : Int32)) else (3 : Int32)) else (6 : Int32)) q22.1 (xrem ((q22.1 + (1 : Int32)) + q24.1) (mI mm 14 0)) p27.1 p27.2).bind (fun q39 => some q39.2))))))))))
set_option maxHeartbeats 4000000 in
set_option maxRecDepth 100000 in
theorem c_X3_performDrawn {l : Launch} {G : Gt} {S : Sk} {a1 : Int32} {mm : Mm} (hS : Lay S) {q : Mm} (e : m_X3_performDrawn a1 mm = some q) : CallOK l G M_X3_performDrawn yX3_performDrawn 5 [vr (some 13), vi a1] S mm (none) S q := by
  refine call_of_run rfl rfl rfl (Nat.le_of_ble_eq_true rfl) ?_
  show Run l G M_X3_performDrawn 5 0 [some (vr (some 13)), some (vi a1), none, none, none, none, none] [] S mm (none) S q
  unfold m_X3_performDrawn at e
  refine r_aload_n dX3_performDrawn_0 rfl ?_
  refine r_getR dX3_performDrawn_1 fl_X3_12 rfl (lp_13 hS) (lq_13 hS) (lr_13_0 hS) ?_
  refine r_getI dX3_performDrawn_4 fl_X3_70 rfl (lp_14 hS) (lq_14 hS) ?_
  refine r_istore_n dX3_performDrawn_7 (by decide) rfl ?_
  refine r_aload_n dX3_performDrawn_8 rfl ?_
  refine r_bipush (v := 10) dX3_performDrawn_9 cb_10 ?_
  obtain ⟨q1, eq2, e⟩ := obind e
  refine r_callV (as := [_]) (rest := []) dX3_performDrawn_11 ml_X3_73 yV_X3_draw (c_X3_draw hS eq2) (by decide) rfl (lp_13 hS) (lq_13 hS) (Nat.le_of_ble_eq_true rfl) ?_
  refine r_istore_n dX3_performDrawn_14 (by decide) rfl ?_
  refine r_iload_n dX3_performDrawn_15 rfl ?_
  refine r_bipush (v := 9) dX3_performDrawn_16 cb_9 ?_
  refine r_icmp_ne (tgt := 29) dX3_performDrawn_18 rfl (fun h3 => ?_) (fun h3 => ?_)
  · replace e := ite_f h3 e
    refine r_iload_n dX3_performDrawn_29 rfl ?_
    refine r_bipush (v := 8) dX3_performDrawn_30 cb_8 ?_
    obtain ⟨x7, ep6, elx7, erx7⟩ := bS_some e
    have J5 : ∀ p4 : Unit, x7 = .inl p4 → Run l G M_X3_performDrawn 5 72 [some (vr (some 13)), some (vi a1), some (vi (mI mm 14 0)), some (vi q1.1), none, none, none] [] S q1.2 (none) S q := by
      intro p4 hp4
      replace e := elx7 p4 hp4
      refine r_iload_n dX3_performDrawn_72 rfl ?_
      refine r_bipush (v := 8) dX3_performDrawn_73 cb_8 ?_
      refine r_icmp_ge (tgt := 166) dX3_performDrawn_75 rfl (fun h20 => ?_) (fun h20 => ?_)
      · replace e := ite_t h20 e
        cases e
        exact r_return dX3_performDrawn_166 rfl
      · replace e := ite_f h20 e
        refine r_iload_n dX3_performDrawn_78 rfl ?_
        refine r_iconst (v := 1) dX3_performDrawn_79 ci_1 ?_
        refine r_icmp_le (tgt := 166) dX3_performDrawn_80 rfl (fun h21 => ?_) (fun h21 => ?_)
        · replace e := ite_t h21 e
          cases e
          exact r_return dX3_performDrawn_166 rfl
        · replace e := ite_f h21 e
          refine r_aload_n dX3_performDrawn_83 rfl ?_
          refine r_iload_n dX3_performDrawn_84 rfl ?_
          obtain ⟨q22, eq23, e⟩ := obind e
          refine r_callV (as := [_]) (rest := []) dX3_performDrawn_85 ml_X3_73 yV_X3_draw (c_X3_draw hS eq23) (by decide) rfl (lp_13 hS) (lq_13 hS) (Nat.le_of_ble_eq_true rfl) ?_
          refine r_istore dX3_performDrawn_88 (by decide) rfl ?_
          refine r_iload dX3_performDrawn_90 rfl ?_
          refine r_iconst (v := 1) dX3_performDrawn_92 ci_1 ?_
          refine r_iadd dX3_performDrawn_93 ?_
          refine r_aload_n dX3_performDrawn_94 rfl ?_
          refine r_iload_n dX3_performDrawn_95 rfl ?_
          refine r_iconst (v := 1) dX3_performDrawn_96 ci_1 ?_
          refine r_isub dX3_performDrawn_97 ?_
          obtain ⟨q24, eq25, e⟩ := obind e
          refine r_callV (as := [_]) (rest := [_]) dX3_performDrawn_98 ml_X3_73 yV_X3_draw (c_X3_draw hS eq25) (by decide) rfl (lp_13 hS) (lq_13 hS) (Nat.le_of_ble_eq_true rfl) ?_
          refine r_iadd dX3_performDrawn_101 ?_
          refine r_iload_n dX3_performDrawn_102 rfl ?_
          obtain ⟨hz26, e⟩ := gdz_some e
          refine r_irem dX3_performDrawn_103 hz26 ?_
          refine r_istore dX3_performDrawn_104 (by decide) rfl ?_
          refine r_iload_n dX3_performDrawn_106 rfl ?_
          refine r_iconst (v := 4) dX3_performDrawn_107 ci_4 ?_
          obtain ⟨p27, ep29, e⟩ := obind e
          have J28a : Run l G M_X3_performDrawn 5 121 [some (vr (some 13)), some (vi a1), none, some (vi q1.1), some (vi q22.1), some (vi (xrem ((q22.1 + (1 : Int32)) + q24.1) (mI mm 14 0))), none] [vi p27.1] S p27.2 (none) S q := by
            refine r_istore dX3_performDrawn_121 (by decide) rfl ?_
            refine r_aload_n dX3_performDrawn_123 rfl ?_
            refine r_iload_n dX3_performDrawn_124 rfl ?_
            refine r_iload_n dX3_performDrawn_125 rfl ?_
            refine r_iconst (v := 4) dX3_performDrawn_126 ci_4 ?_
            have J38 : ∀ (w37 : Int32), w37 = (if (4 : Int32) ≤ q1.1 then (if (6 : Int32) ≤ q1.1 then (if q1.1 = (6 : Int32) then (4 : Int32) else (5 : Int32)) else (3 : Int32)) else (6 : Int32)) → Run l G M_X3_performDrawn 5 156 [none, none, none, none, some (vi q22.1), some (vi (xrem ((q22.1 + (1 : Int32)) + q24.1) (mI mm 14 0))), some (vi p27.1)] [vi w37, vi a1, vr (some 13)] S p27.2 (none) S q := by
              intro w37 hw41
              subst hw41
              refine r_iload dX3_performDrawn_156 rfl ?_
              refine r_iload dX3_performDrawn_158 rfl ?_
              refine r_iload dX3_performDrawn_160 rfl ?_
              obtain ⟨q39, eq40, e⟩ := obind e
              refine r_callV (as := [_, _, _, _, _]) (rest := []) dX3_performDrawn_162 ml_X3_61 yV_X3_perform (c_X3_perform hS eq40) (by decide) rfl (lp_13 hS) (lq_13 hS) (Nat.le_of_ble_eq_true rfl) ?_
              refine r_pop dX3_performDrawn_165 rfl ?_
              cases e
              exact r_return dX3_performDrawn_166 rfl
            refine r_icmp_ge (tgt := 135) dX3_performDrawn_127 rfl (fun h34 => ?_) (fun h34 => ?_)
            · refine r_iload_n dX3_performDrawn_135 rfl ?_
              refine r_bipush (v := 6) dX3_performDrawn_136 cb_6 ?_
              refine r_icmp_ge (tgt := 145) dX3_performDrawn_138 rfl (fun h35 => ?_) (fun h35 => ?_)
              · refine r_iload_n dX3_performDrawn_145 rfl ?_
                refine r_bipush (v := 6) dX3_performDrawn_146 cb_6 ?_
                refine r_icmp_ne (tgt := 155) dX3_performDrawn_148 rfl (fun h36 => ?_) (fun h36 => ?_)
                · refine r_iconst (v := 5) dX3_performDrawn_155 ci_5 ?_
                  exact r_weak (L' := [none, none, none, none, some (vi q22.1), some (vi (xrem ((q22.1 + (1 : Int32)) + q24.1) (mI mm 14 0))), some (vi p27.1)]) ⟨rfl, rfl, rfl, trivial⟩ (J38 _ (Eq.symm ((if_pos h34).trans ((if_pos h35).trans (if_neg h36)))))
                · refine r_iconst (v := 4) dX3_performDrawn_151 ci_4 ?_
                  refine r_goto (tgt := 156) dX3_performDrawn_152 rfl ?_
                  exact r_weak (L' := [none, none, none, none, some (vi q22.1), some (vi (xrem ((q22.1 + (1 : Int32)) + q24.1) (mI mm 14 0))), some (vi p27.1)]) ⟨rfl, rfl, rfl, trivial⟩ (J38 _ (Eq.symm ((if_pos h34).trans ((if_pos h35).trans (if_pos h36)))))
              · refine r_iconst (v := 3) dX3_performDrawn_141 ci_3 ?_
                refine r_goto (tgt := 156) dX3_performDrawn_142 rfl ?_
                exact r_weak (L' := [none, none, none, none, some (vi q22.1), some (vi (xrem ((q22.1 + (1 : Int32)) + q24.1) (mI mm 14 0))), some (vi p27.1)]) ⟨rfl, rfl, rfl, trivial⟩ (J38 _ (Eq.symm ((if_pos h34).trans (if_neg h35))))
            · refine r_bipush (v := 6) dX3_performDrawn_130 cb_6 ?_
              refine r_goto (tgt := 156) dX3_performDrawn_132 rfl ?_
              exact r_weak (L' := [none, none, none, none, some (vi q22.1), some (vi (xrem ((q22.1 + (1 : Int32)) + q24.1) (mI mm 14 0))), some (vi p27.1)]) ⟨rfl, rfl, rfl, trivial⟩ (J38 _ (Eq.symm (if_neg h34)))
          have J28 : ∀ pp : Int32 × Mm, pp = p27 → Run l G M_X3_performDrawn 5 121 [some (vr (some 13)), some (vi a1), none, some (vi q1.1), some (vi q22.1), some (vi (xrem ((q22.1 + (1 : Int32)) + q24.1) (mI mm 14 0))), none] [vi pp.1] S pp.2 (none) S q := by
            intro pp hpp
            rw [hpp]
            exact J28a
          refine r_icmp_ge (tgt := 120) dX3_performDrawn_108 rfl (fun h31 => ?_) (fun h31 => ?_)
          · replace ep29 := ite_t h31 ep29
            refine r_iconst (v := -1) dX3_performDrawn_120 ci_m1 ?_
            exact r_weak (L' := [some (vr (some 13)), some (vi a1), none, some (vi q1.1), some (vi q22.1), some (vi (xrem ((q22.1 + (1 : Int32)) + q24.1) (mI mm 14 0))), none]) ⟨rfl, rfl, rfl, rfl, rfl, trivial⟩ (J28 _ (Option.some.inj ep29))
          · replace ep29 := ite_f h31 ep29
            refine r_aload_n dX3_performDrawn_111 rfl ?_
            refine r_bipush (v := 8) dX3_performDrawn_112 cb_8 ?_
            obtain ⟨q32, eq33, ep29⟩ := obind ep29
            refine r_callV (as := [_]) (rest := []) dX3_performDrawn_114 ml_X3_73 yV_X3_draw (c_X3_draw hS eq33) (by decide) rfl (lp_13 hS) (lq_13 hS) (Nat.le_of_ble_eq_true rfl) ?_
            refine r_goto (tgt := 121) dX3_performDrawn_117 rfl ?_
            exact r_weak (L' := [some (vr (some 13)), some (vi a1), none, some (vi q1.1), some (vi q22.1), some (vi (xrem ((q22.1 + (1 : Int32)) + q24.1) (mI mm 14 0))), none]) ⟨rfl, rfl, rfl, rfl, rfl, trivial⟩ (J28 _ (Option.some.inj ep29))
    refine r_icmp_ne (tgt := 72) dX3_performDrawn_32 rfl (fun h8 => ?_) (fun h8 => ?_)
    · replace ep6 := ite_f h8 ep6
      cases ep6
      exact r_weak (L' := [some (vr (some 13)), some (vi a1), some (vi (mI mm 14 0)), some (vi q1.1), none, none, none]) ⟨rfl, rfl, rfl, rfl, trivial⟩ (J5 _ rfl)
    · replace ep6 := ite_t h8 ep6
      refine r_iload_n dX3_performDrawn_35 rfl ?_
      refine r_if_le (tgt := 72) dX3_performDrawn_36 rfl (fun h9 => ?_) (fun h9 => ?_)
      · replace ep6 := ite_t h9 ep6
        cases ep6
        exact r_weak (L' := [some (vr (some 13)), some (vi a1), some (vi (mI mm 14 0)), some (vi q1.1), none, none, none]) ⟨rfl, rfl, rfl, rfl, trivial⟩ (J5 _ rfl)
      · replace ep6 := ite_f h9 ep6
        refine r_aload_n dX3_performDrawn_39 rfl ?_
        refine r_iload_n dX3_performDrawn_40 rfl ?_
        obtain ⟨q10, eq11, ep6⟩ := obind ep6
        refine r_callV (as := [_]) (rest := []) dX3_performDrawn_41 ml_X3_73 yV_X3_draw (c_X3_draw hS eq11) (by decide) rfl (lp_13 hS) (lq_13 hS) (Nat.le_of_ble_eq_true rfl) ?_
        refine r_istore dX3_performDrawn_44 (by decide) rfl ?_
        refine r_aload_n dX3_performDrawn_46 rfl ?_
        refine r_iload_n dX3_performDrawn_47 rfl ?_
        refine r_aload_n dX3_performDrawn_48 rfl ?_
        refine r_iconst (v := 2) dX3_performDrawn_49 ci_2 ?_
        obtain ⟨q12, eq13, ep6⟩ := obind ep6
        refine r_callV (as := [_]) (rest := [_, _]) dX3_performDrawn_50 ml_X3_73 yV_X3_draw (c_X3_draw hS eq13) (by decide) rfl (lp_13 hS) (lq_13 hS) (Nat.le_of_ble_eq_true rfl) ?_
        have J16 : ∀ (w15 : Int32), w15 = (if q12.1 = 0 then (1 : Int32) else (2 : Int32)) → Run l G M_X3_performDrawn 5 61 [none, none, none, none, some (vi q10.1), none, none] [vi w15, vi a1, vr (some 13)] S q12.2 (none) S q := by
          intro w15 hw19
          subst hw19
          refine r_iload dX3_performDrawn_61 rfl ?_
          refine r_iconst (v := -1) dX3_performDrawn_63 ci_m1 ?_
          refine r_iconst (v := -1) dX3_performDrawn_64 ci_m1 ?_
          obtain ⟨q17, eq18, ep6⟩ := obind ep6
          refine r_callV (as := [_, _, _, _, _]) (rest := []) dX3_performDrawn_65 ml_X3_61 yV_X3_perform (c_X3_perform hS eq18) (by decide) rfl (lp_13 hS) (lq_13 hS) (Nat.le_of_ble_eq_true rfl) ?_
          refine r_pop dX3_performDrawn_68 rfl ?_
          refine r_goto (tgt := 166) dX3_performDrawn_69 rfl ?_
          cases ep6
          have e := congrArg some (erx7 _ rfl)
          cases e
          exact r_return dX3_performDrawn_166 rfl
        refine r_if_ne (tgt := 60) dX3_performDrawn_53 rfl (fun h14 => ?_) (fun h14 => ?_)
        · refine r_iconst (v := 2) dX3_performDrawn_60 ci_2 ?_
          exact r_weak (L' := [none, none, none, none, some (vi q10.1), none, none]) ⟨rfl, trivial⟩ (J16 _ (Eq.symm (if_neg h14)))
        · refine r_iconst (v := 1) dX3_performDrawn_56 ci_1 ?_
          refine r_goto (tgt := 61) dX3_performDrawn_57 rfl ?_
          exact r_weak (L' := [none, none, none, none, some (vi q10.1), none, none]) ⟨rfl, trivial⟩ (J16 _ (Eq.symm (if_pos h14)))
  · replace e := ite_t h3 e
    refine r_aload_n dX3_performDrawn_21 rfl ?_
    refine r_iload_n dX3_performDrawn_22 rfl ?_
    obtain ⟨q42, eq43, e⟩ := obind e
    refine r_callV (as := [_]) (rest := []) dX3_performDrawn_23 ml_X3_77 yV_X3_holdMonday (c_X3_holdMonday hS eq43) (by decide) rfl (lp_13 hS) (lq_13 hS) (Nat.le_of_ble_eq_true rfl) ?_
    refine r_goto (tgt := 166) dX3_performDrawn_26 rfl ?_
    cases e
    exact r_return dX3_performDrawn_166 rfl
noncomputable def m_X3_runSeed_b13 (a3 : Int32) (z4 : Int32 × Mm) : Option ((Int32 × Mm) ⊕ (Mm)) := if a3 ≤ z4.1 then (some (.inr z4.2)) else ((m_X3_performDrawn z4.1 z4.2).bind (fun q11 => some (.inl (z4.1 + (1 : Int32), q11))))
noncomputable def m_X3_runSeed (S : Sk) (a1 : Nat) (a2 : Int32) (a3 : Int32) (mm : Mm) : Option (Sk × Mm) := (m_X3_begin S a1 mm).bind (fun q1 => gP (Lay q1.1) ((whileF FU (m_X3_runSeed_b13 a3) ((0 : Int32), (sI q1.2 13 9 a2))).bind (fun p5 => some (q1.1, p5))))
set_option maxHeartbeats 4000000 in
set_option maxRecDepth 100000 in
theorem c_X3_runSeed {l : Launch} {G : Gt} {S : Sk} {a1 : Nat} {a2 : Int32} {a3 : Int32} {mm : Mm} (hI : SI S) (ha1 : KD S a1 2) {q : Sk × Mm} (e : m_X3_runSeed S a1 a2 a3 mm = some q) : CallOK l G M_X3_runSeed yX3_runSeed 6 [vr (some 13), vr (some a1), vi a2, vi a3] S mm (none) q.1 q.2 := by
  have hS := hI.1
  refine call_of_run rfl rfl rfl (Nat.le_of_ble_eq_true rfl) ?_
  show Run l G M_X3_runSeed 6 0 [some (vr (some 13)), some (vr (some a1)), some (vi a2), some (vi a3), none] [] S mm (none) q.1 q.2
  unfold m_X3_runSeed at e
  refine r_aload_n dX3_runSeed_0 rfl ?_
  refine r_aload_n dX3_runSeed_1 rfl ?_
  obtain ⟨q1, eq2, e⟩ := obind e
  refine r_callV (as := [_]) (rest := []) dX3_runSeed_2 ml_X3_54 yV_X3_begin (c_X3_begin hI ha1 eq2) (by decide) rfl (lp_13 hS) (lq_13 hS) (Nat.le_of_ble_eq_true rfl) ?_
  refine r_aload_n dX3_runSeed_5 rfl ?_
  refine r_iload_n dX3_runSeed_6 rfl ?_
  obtain ⟨hn3, e⟩ := gP_some e
  refine r_putI dX3_runSeed_7 fl_X3_43 ft_3_9 (Or.inl rfl) rfl rfl rfl (lp_13 hn3) (lq_13 hn3) ?_
  refine r_iconst (v := 0) dX3_runSeed_10 ci_0 ?_
  refine r_istore dX3_runSeed_11 (by decide) rfl ?_
  obtain ⟨p5, eb9w, e⟩ := obind e
  have J6a : Run l G M_X3_runSeed 6 31 [none, none, none, none, none] [] q1.1 p5 (none) q.1 q.2 := by
    cases e
    exact r_return dX3_runSeed_31 rfl
  have J6 : ∀ pp : Mm, pp = p5 → Run l G M_X3_runSeed 6 31 [none, none, none, none, none] [] q1.1 pp (none) q.1 q.2 := by
    intro pp hpp
    rw [hpp]
    exact J6a
  have J6w : Run l G M_X3_runSeed 6 13 [some (vr (some 13)), none, none, some (vi a3), some (vi (0 : Int32))] [] q1.1 (sI q1.2 13 9 a2) (none) q.1 q.2 := by
    refine while_run (s := ((0 : Int32), (sI q1.2 13 9 a2))) (Gs := fun (z4 : Int32 × Mm) => Run l G M_X3_runSeed 6 13 [some (vr (some 13)), none, none, some (vi a3), some (vi z4.1)] [] q1.1 z4.2 (none) q.1 q.2) eb9w ?_
    intro z4 x7y eb9 hx8
    unfold m_X3_runSeed_b13 at eb9
    refine r_iload dX3_runSeed_13 rfl ?_
    refine r_iload_n dX3_runSeed_15 rfl ?_
    refine r_icmp_ge (tgt := 31) dX3_runSeed_16 rfl (fun h10 => ?_) (fun h10 => ?_)
    · replace eb9 := ite_t h10 eb9
      cases eb9
      exact r_weak (L' := [none, none, none, none, none]) trivial (J6 _ hx8)
    · replace eb9 := ite_f h10 eb9
      refine r_aload_n dX3_runSeed_19 rfl ?_
      refine r_iload dX3_runSeed_20 rfl ?_
      obtain ⟨q11, eq12, eb9⟩ := obind eb9
      refine r_callV (as := [_]) (rest := []) dX3_runSeed_22 ml_X3_65 yV_X3_performDrawn (c_X3_performDrawn hn3 eq12) (by decide) rfl (lp_13 hn3) (lq_13 hn3) (Nat.le_of_ble_eq_true rfl) ?_
      refine r_iinc (v := _ + (1 : Int32)) dX3_runSeed_25 rfl (congrArg (_ + ·) ci_1) (by decide) rfl ?_
      refine r_goto (tgt := 13) dX3_runSeed_28 rfl ?_
      cases eb9
      exact r_weak (L' := [some (vr (some 13)), none, none, some (vi a3), some (vi (z4.1 + (1 : Int32)))]) ⟨rfl, rfl, rfl, trivial⟩ hx8
  exact r_weak (L' := [some (vr (some 13)), none, none, some (vi a3), some (vi (0 : Int32))]) ⟨rfl, rfl, rfl, trivial⟩ J6w
noncomputable def m_X3_countVisitsTo_b4 (a1 : Int32) (mm : Mm) (z1 : Int32 × Int32) : Option ((Int32 × Int32) ⊕ (Int32)) := if (6 : Int32) ≤ z1.2 then (some (.inr z1.1)) else (grd ((z1.2 * (6 : Int32)) + a1) 36 (some (.inl (z1.1 + (mI mm 18 (ix ((z1.2 * (6 : Int32)) + a1))), z1.2 + (1 : Int32)))))
noncomputable def m_X3_countVisitsTo (a1 : Int32) (mm : Mm) : Option (Int32) := (whileF FU (m_X3_countVisitsTo_b4 a1 mm) ((0 : Int32), (0 : Int32))).bind (fun p2 => some p2)
set_option maxHeartbeats 4000000 in
set_option maxRecDepth 100000 in
theorem c_X3_countVisitsTo {l : Launch} {G : Gt} {S : Sk} {a1 : Int32} {mm : Mm} (hS : Lay S) {q : Int32} (e : m_X3_countVisitsTo a1 mm = some q) : CallOK l G M_X3_countVisitsTo yX3_countVisitsTo 0 [vr (some 13), vi a1] S mm (some (vi q)) S mm := by
  refine call_of_run rfl rfl rfl (Nat.le_of_ble_eq_true rfl) ?_
  show Run l G M_X3_countVisitsTo 0 0 [some (vr (some 13)), some (vi a1), none, none] [] S mm (some (vi q)) S mm
  unfold m_X3_countVisitsTo at e
  refine r_iconst (v := 0) dX3_countVisitsTo_0 ci_0 ?_
  refine r_istore_n dX3_countVisitsTo_1 (by decide) rfl ?_
  refine r_iconst (v := 0) dX3_countVisitsTo_2 ci_0 ?_
  refine r_istore_n dX3_countVisitsTo_3 (by decide) rfl ?_
  obtain ⟨p2, eb6w, e⟩ := obind e
  have J3a : Run l G M_X3_countVisitsTo 0 33 [none, none, some (vi p2), none] [] S mm (some (vi q)) S mm := by
    refine r_iload_n dX3_countVisitsTo_33 rfl ?_
    cases e
    exact r_ireturn dX3_countVisitsTo_34 rfl rfl
  have J3 : ∀ pp : Int32, pp = p2 → Run l G M_X3_countVisitsTo 0 33 [none, none, some (vi pp), none] [] S mm (some (vi q)) S mm := by
    intro pp hpp
    rw [hpp]
    exact J3a
  have J3w : Run l G M_X3_countVisitsTo 0 4 [some (vr (some 13)), some (vi a1), some (vi (0 : Int32)), some (vi (0 : Int32))] [] S mm (some (vi q)) S mm := by
    refine while_run (s := ((0 : Int32), (0 : Int32))) (Gs := fun (z1 : Int32 × Int32) => Run l G M_X3_countVisitsTo 0 4 [some (vr (some 13)), some (vi a1), some (vi z1.1), some (vi z1.2)] [] S mm (some (vi q)) S mm) eb6w ?_
    intro z1 x4y eb6 hx5
    unfold m_X3_countVisitsTo_b4 at eb6
    refine r_iload_n dX3_countVisitsTo_4 rfl ?_
    refine r_bipush (v := 6) dX3_countVisitsTo_5 cb_6 ?_
    refine r_icmp_ge (tgt := 33) dX3_countVisitsTo_7 rfl (fun h7 => ?_) (fun h7 => ?_)
    · replace eb6 := ite_t h7 eb6
      cases eb6
      exact r_weak (L' := [none, none, some (vi z1.1), none]) ⟨rfl, trivial⟩ (J3 _ hx5)
    · replace eb6 := ite_f h7 eb6
      refine r_iload_n dX3_countVisitsTo_10 rfl ?_
      refine r_aload_n dX3_countVisitsTo_11 rfl ?_
      refine r_getR dX3_countVisitsTo_12 fl_X3_12 rfl (lp_13 hS) (lq_13 hS) (lr_13_0 hS) ?_
      refine r_getR dX3_countVisitsTo_15 fl_X3_119 rfl (lp_14 hS) (lq_14 hS) (lr_14_5 hS) ?_
      refine r_iload_n dX3_countVisitsTo_18 rfl ?_
      refine r_bipush (v := 6) dX3_countVisitsTo_19 cb_6 ?_
      refine r_imul dX3_countVisitsTo_21 ?_
      refine r_iload_n dX3_countVisitsTo_22 rfl ?_
      refine r_iadd dX3_countVisitsTo_23 ?_
      obtain ⟨hg8, eb6⟩ := grd_some eb6
      refine r_iald dX3_countVisitsTo_24 (lp_18 hS) (lk_18 hS) hg8 ?_
      refine r_iadd dX3_countVisitsTo_25 ?_
      refine r_istore_n dX3_countVisitsTo_26 (by decide) rfl ?_
      refine r_iinc (v := _ + (1 : Int32)) dX3_countVisitsTo_27 rfl (congrArg (_ + ·) ci_1) (by decide) rfl ?_
      refine r_goto (tgt := 4) dX3_countVisitsTo_30 rfl ?_
      cases eb6
      exact r_weak (L' := [some (vr (some 13)), some (vi a1), some (vi (z1.1 + (mI mm 18 (ix ((z1.2 * (6 : Int32)) + a1))))), some (vi (z1.2 + (1 : Int32)))]) ⟨rfl, rfl, rfl, rfl, trivial⟩ hx5
  exact r_weak (L' := [some (vr (some 13)), some (vi a1), some (vi (0 : Int32)), some (vi (0 : Int32))]) ⟨rfl, rfl, rfl, rfl, trivial⟩ J3w
noncomputable def m_X3_tellOne (a1 : Int32) (a2 : Int32) (mm : Mm) : Option (Int32) := if (m_X7_isThere a2 mm) = 0 then (some (-1 : Int32)) else (if a1 = (1 : Int32) then (grd a2 6 (some (mI mm 15 (ix a2)))) else (if a1 = (2 : Int32) then ((m_X7_swornFor a2 mm).bind (fun q5 => some q5)) else (if a1 = (3 : Int32) then ((m_X7_keptBy a2 mm).bind (fun q8 => some q8)) else (if a1 = (4 : Int32) then (grd a2 6 (some (mI mm 17 (ix a2)))) else (if a1 = (5 : Int32) then ((m_X3_countVisitsTo a2 mm).bind (fun q13 => some q13)) else (some (-1 : Int32)))))))
set_option maxHeartbeats 4000000 in
set_option maxRecDepth 100000 in
theorem c_X3_tellOne {l : Launch} {G : Gt} {S : Sk} {a1 : Int32} {a2 : Int32} {mm : Mm} (hS : Lay S) {q : Int32} (e : m_X3_tellOne a1 a2 mm = some q) : CallOK l G M_X3_tellOne yX3_tellOne 3 [vr (some 13), vi a1, vi a2] S mm (some (vi q)) S mm := by
  refine call_of_run rfl rfl rfl (Nat.le_of_ble_eq_true rfl) ?_
  show Run l G M_X3_tellOne 3 0 [some (vr (some 13)), some (vi a1), some (vi a2)] [] S mm (some (vi q)) S mm
  unfold m_X3_tellOne at e
  refine r_aload_n dX3_tellOne_0 rfl ?_
  refine r_getR dX3_tellOne_1 fl_X3_12 rfl (lp_13 hS) (lq_13 hS) (lr_13_0 hS) ?_
  refine r_iload_n dX3_tellOne_4 rfl ?_
  refine r_callV (as := [_]) (rest := []) dX3_tellOne_5 ml_X3_109 yV_X7_isThere (c_X7_isThere hS) (by decide) rfl (lp_14 hS) (lq_14 hS) (Nat.le_of_ble_eq_true rfl) ?_
  refine r_if_ne (tgt := 13) dX3_tellOne_8 rfl (fun h1 => ?_) (fun h1 => ?_)
  · replace e := ite_f h1 e
    refine r_iload_n dX3_tellOne_13 rfl ?_
    by_cases h2 : a1 = (1 : Int32)
    · replace e := ite_t h2 e
      refine r_table_in (tgt := 48) dX3_tellOne_14 (by rw [h2]; decide) (by rw [h2]; decide) (by rw [h2]; rfl) rfl ?_
      refine r_aload_n dX3_tellOne_48 rfl ?_
      refine r_getR dX3_tellOne_49 fl_X3_12 rfl (lp_13 hS) (lq_13 hS) (lr_13_0 hS) ?_
      refine r_getR dX3_tellOne_52 fl_X3_113 rfl (lp_14 hS) (lq_14 hS) (lr_14_2 hS) ?_
      refine r_iload_n dX3_tellOne_55 rfl ?_
      obtain ⟨hg3, e⟩ := grd_some e
      refine r_iald dX3_tellOne_56 (lp_15 hS) (lk_15 hS) hg3 ?_
      cases e
      exact r_ireturn dX3_tellOne_57 rfl rfl
    replace e := ite_f h2 e
    by_cases h4 : a1 = (2 : Int32)
    · replace e := ite_t h4 e
      refine r_table_in (tgt := 58) dX3_tellOne_14 (by rw [h4]; decide) (by rw [h4]; decide) (by rw [h4]; rfl) rfl ?_
      refine r_aload_n dX3_tellOne_58 rfl ?_
      refine r_getR dX3_tellOne_59 fl_X3_12 rfl (lp_13 hS) (lq_13 hS) (lr_13_0 hS) ?_
      refine r_iload_n dX3_tellOne_62 rfl ?_
      obtain ⟨q5, eq6, e⟩ := obind e
      refine r_callV (as := [_]) (rest := []) dX3_tellOne_63 ml_X3_143 yV_X7_swornFor (c_X7_swornFor hS eq6) (by decide) rfl (lp_14 hS) (lq_14 hS) (Nat.le_of_ble_eq_true rfl) ?_
      cases e
      exact r_ireturn dX3_tellOne_66 rfl rfl
    replace e := ite_f h4 e
    by_cases h7 : a1 = (3 : Int32)
    · replace e := ite_t h7 e
      refine r_table_in (tgt := 67) dX3_tellOne_14 (by rw [h7]; decide) (by rw [h7]; decide) (by rw [h7]; rfl) rfl ?_
      refine r_aload_n dX3_tellOne_67 rfl ?_
      refine r_getR dX3_tellOne_68 fl_X3_12 rfl (lp_13 hS) (lq_13 hS) (lr_13_0 hS) ?_
      refine r_iload_n dX3_tellOne_71 rfl ?_
      obtain ⟨q8, eq9, e⟩ := obind e
      refine r_callV (as := [_]) (rest := []) dX3_tellOne_72 ml_X3_146 yV_X7_keptBy (c_X7_keptBy hS eq9) (by decide) rfl (lp_14 hS) (lq_14 hS) (Nat.le_of_ble_eq_true rfl) ?_
      cases e
      exact r_ireturn dX3_tellOne_75 rfl rfl
    replace e := ite_f h7 e
    by_cases h10 : a1 = (4 : Int32)
    · replace e := ite_t h10 e
      refine r_table_in (tgt := 76) dX3_tellOne_14 (by rw [h10]; decide) (by rw [h10]; decide) (by rw [h10]; rfl) rfl ?_
      refine r_aload_n dX3_tellOne_76 rfl ?_
      refine r_getR dX3_tellOne_77 fl_X3_12 rfl (lp_13 hS) (lq_13 hS) (lr_13_0 hS) ?_
      refine r_getR dX3_tellOne_80 fl_X3_122 rfl (lp_14 hS) (lq_14 hS) (lr_14_4 hS) ?_
      refine r_iload_n dX3_tellOne_83 rfl ?_
      obtain ⟨hg11, e⟩ := grd_some e
      refine r_iald dX3_tellOne_84 (lp_17 hS) (lk_17 hS) hg11 ?_
      cases e
      exact r_ireturn dX3_tellOne_85 rfl rfl
    replace e := ite_f h10 e
    by_cases h12 : a1 = (5 : Int32)
    · replace e := ite_t h12 e
      refine r_table_in (tgt := 86) dX3_tellOne_14 (by rw [h12]; decide) (by rw [h12]; decide) (by rw [h12]; rfl) rfl ?_
      refine r_aload_n dX3_tellOne_86 rfl ?_
      refine r_iload_n dX3_tellOne_87 rfl ?_
      obtain ⟨q13, eq14, e⟩ := obind e
      refine r_callV (as := [_]) (rest := []) dX3_tellOne_88 ml_X3_149 yV_X3_countVisitsTo (c_X3_countVisitsTo hS eq14) (by decide) rfl (lp_13 hS) (lq_13 hS) (Nat.le_of_ble_eq_true rfl) ?_
      cases e
      exact r_ireturn dX3_tellOne_91 rfl rfl
    replace e := ite_f h12 e
    have ho14 : (a1).toInt < 1 ∨ 5 < (a1).toInt := by
      have nh2 := lv_neT (a := 1) h2 (by decide)
      have nh4 := lv_neT (a := 2) h4 (by decide)
      have nh7 := lv_neT (a := 3) h7 (by decide)
      have nh10 := lv_neT (a := 4) h10 (by decide)
      have nh12 := lv_neT (a := 5) h12 (by decide)
      omega
    refine r_table_out (tgt := 92) dX3_tellOne_14 ho14 rfl ?_
    refine r_iconst (v := -1) dX3_tellOne_92 ci_m1 ?_
    cases e
    exact r_ireturn dX3_tellOne_93 rfl rfl
  · replace e := ite_t h1 e
    refine r_iconst (v := -1) dX3_tellOne_11 ci_m1 ?_
    cases e
    exact r_ireturn dX3_tellOne_12 rfl rfl
noncomputable def m_X3_tell (a1 : Int32) (mm : Mm) : Option (Int32) := if a1 = (0 : Int32) then (some (mI mm 13 1)) else (if a1 = (1 : Int32) then (some (mI mm 13 2)) else (if a1 = (2 : Int32) then (some (mI mm 13 3)) else (if a1 = (3 : Int32) then (some (mI mm 13 4)) else (if a1 = (4 : Int32) then (some (mI mm 14 1)) else (if (10 : Int32) ≤ a1 then ((m_X3_tellOne (a1 / (10 : Int32)) (xrem a1 (10 : Int32)) mm).bind (fun q7 => some q7)) else (some (-1 : Int32)))))))
set_option maxHeartbeats 4000000 in
set_option maxRecDepth 100000 in
theorem c_X3_tell {l : Launch} {G : Gt} {S : Sk} {a1 : Int32} {mm : Mm} (hS : Lay S) {q : Int32} (e : m_X3_tell a1 mm = some q) : CallOK l G M_X3_tell yX3_tell 4 [vr (some 13), vi a1] S mm (some (vi q)) S mm := by
  refine call_of_run rfl rfl rfl (Nat.le_of_ble_eq_true rfl) ?_
  show Run l G M_X3_tell 4 0 [some (vr (some 13)), some (vi a1)] [] S mm (some (vi q)) S mm
  unfold m_X3_tell at e
  refine r_iload_n dX3_tell_0 rfl ?_
  by_cases h1 : a1 = (0 : Int32)
  · replace e := ite_t h1 e
    refine r_table_in (tgt := 36) dX3_tell_1 (by rw [h1]; decide) (by rw [h1]; decide) (by rw [h1]; rfl) rfl ?_
    refine r_aload_n dX3_tell_36 rfl ?_
    refine r_getI dX3_tell_37 fl_X3_18 rfl (lp_13 hS) (lq_13 hS) ?_
    cases e
    exact r_ireturn dX3_tell_40 rfl rfl
  replace e := ite_f h1 e
  by_cases h2 : a1 = (1 : Int32)
  · replace e := ite_t h2 e
    refine r_table_in (tgt := 41) dX3_tell_1 (by rw [h2]; decide) (by rw [h2]; decide) (by rw [h2]; rfl) rfl ?_
    refine r_aload_n dX3_tell_41 rfl ?_
    refine r_getI dX3_tell_42 fl_X3_22 rfl (lp_13 hS) (lq_13 hS) ?_
    cases e
    exact r_ireturn dX3_tell_45 rfl rfl
  replace e := ite_f h2 e
  by_cases h3 : a1 = (2 : Int32)
  · replace e := ite_t h3 e
    refine r_table_in (tgt := 46) dX3_tell_1 (by rw [h3]; decide) (by rw [h3]; decide) (by rw [h3]; rfl) rfl ?_
    refine r_aload_n dX3_tell_46 rfl ?_
    refine r_getI dX3_tell_47 fl_X3_25 rfl (lp_13 hS) (lq_13 hS) ?_
    cases e
    exact r_ireturn dX3_tell_50 rfl rfl
  replace e := ite_f h3 e
  by_cases h4 : a1 = (3 : Int32)
  · replace e := ite_t h4 e
    refine r_table_in (tgt := 51) dX3_tell_1 (by rw [h4]; decide) (by rw [h4]; decide) (by rw [h4]; rfl) rfl ?_
    refine r_aload_n dX3_tell_51 rfl ?_
    refine r_getI dX3_tell_52 fl_X3_28 rfl (lp_13 hS) (lq_13 hS) ?_
    cases e
    exact r_ireturn dX3_tell_55 rfl rfl
  replace e := ite_f h4 e
  by_cases h5 : a1 = (4 : Int32)
  · replace e := ite_t h5 e
    refine r_table_in (tgt := 56) dX3_tell_1 (by rw [h5]; decide) (by rw [h5]; decide) (by rw [h5]; rfl) rfl ?_
    refine r_aload_n dX3_tell_56 rfl ?_
    refine r_getR dX3_tell_57 fl_X3_12 rfl (lp_13 hS) (lq_13 hS) (lr_13_0 hS) ?_
    refine r_getI dX3_tell_60 fl_X3_103 rfl (lp_14 hS) (lq_14 hS) ?_
    cases e
    exact r_ireturn dX3_tell_63 rfl rfl
  replace e := ite_f h5 e
  have ho1 : (a1).toInt < 0 ∨ 4 < (a1).toInt := by
    have nh1 := lv_neT (a := 0) h1 (by decide)
    have nh2 := lv_neT (a := 1) h2 (by decide)
    have nh3 := lv_neT (a := 2) h3 (by decide)
    have nh4 := lv_neT (a := 3) h4 (by decide)
    have nh5 := lv_neT (a := 4) h5 (by decide)
    omega
  refine r_table_out (tgt := 64) dX3_tell_1 ho1 rfl ?_
  refine r_iload_n dX3_tell_64 rfl ?_
  refine r_bipush (v := 10) dX3_tell_65 cb_10 ?_
  refine r_icmp_ge (tgt := 74) dX3_tell_67 rfl (fun h6 => ?_) (fun h6 => ?_)
  · replace e := ite_t h6 e
    refine r_aload_n dX3_tell_74 rfl ?_
    refine r_iload_n dX3_tell_75 rfl ?_
    refine r_bipush (v := 10) dX3_tell_76 cb_10 ?_
    refine r_idiv dX3_tell_78 (by decide) ?_
    refine r_iload_n dX3_tell_79 rfl ?_
    refine r_bipush (v := 10) dX3_tell_80 cb_10 ?_
    refine r_irem dX3_tell_82 (by decide) ?_
    obtain ⟨q7, eq8, e⟩ := obind e
    refine r_callV (as := [_, _]) (rest := []) dX3_tell_83 ml_X3_140 yV_X3_tellOne (c_X3_tellOne hS eq8) (by decide) rfl (lp_13 hS) (lq_13 hS) (Nat.le_of_ble_eq_true rfl) ?_
    cases e
    exact r_ireturn dX3_tell_86 rfl rfl
  · replace e := ite_f h6 e
    refine r_iconst (v := -1) dX3_tell_70 ci_m1 ?_
    refine r_goto (tgt := 86) dX3_tell_71 rfl ?_
    cases e
    exact r_ireturn dX3_tell_86 rfl rfl
noncomputable def m_X3_mostVisited_b2 (z1 : Int32 × Mm) : Option ((Int32 × Mm) ⊕ (Mm)) := if (6 : Int32) ≤ z1.1 then (some (.inr z1.2)) else ((m_X3_countVisitsTo z1.1 z1.2).bind (fun q8 => grd z1.1 6 (some (.inl (z1.1 + (1 : Int32), (sI z1.2 24 (ix z1.1) q8))))))
noncomputable def m_X3_mostVisited (S : Sk) (mm : Mm) : Option (Int32 × Mm) := (whileF FU (m_X3_mostVisited_b2) ((0 : Int32), mm)).bind (fun p2 => (m_X11_greatest S 24 (mI p2 14 0) p2).bind (fun q11 => some (q11, p2)))
set_option maxHeartbeats 4000000 in
set_option maxRecDepth 100000 in
theorem c_X3_mostVisited {l : Launch} {G : Gt} {S : Sk} {mm : Mm} (hS : Lay S) {q : Int32 × Mm} (e : m_X3_mostVisited S mm = some q) : CallOK l G M_X3_mostVisited yX3_mostVisited 1 [vr (some 13)] S mm (some (vi q.1)) S q.2 := by
  refine call_of_run rfl rfl rfl (Nat.le_of_ble_eq_true rfl) ?_
  show Run l G M_X3_mostVisited 1 0 [some (vr (some 13)), none] [] S mm (some (vi q.1)) S q.2
  unfold m_X3_mostVisited at e
  refine r_iconst (v := 0) dX3_mostVisited_0 ci_0 ?_
  refine r_istore_n dX3_mostVisited_1 (by decide) rfl ?_
  obtain ⟨p2, eb6w, e⟩ := obind e
  have J3a : Run l G M_X3_mostVisited 1 25 [some (vr (some 13)), none] [] S p2 (some (vi q.1)) S q.2 := by
    refine r_aload_n dX3_mostVisited_25 rfl ?_
    refine r_getR dX3_mostVisited_26 fl_X3_46 rfl (lp_13 hS) (lq_13 hS) (lr_13_10 hS) ?_
    refine r_aload_n dX3_mostVisited_29 rfl ?_
    refine r_getR dX3_mostVisited_30 fl_X3_12 rfl (lp_13 hS) (lq_13 hS) (lr_13_0 hS) ?_
    refine r_getI dX3_mostVisited_33 fl_X3_70 rfl (lp_14 hS) (lq_14 hS) ?_
    obtain ⟨q11, eq12, e⟩ := obind e
    refine r_callSN (as := [_, _]) (rest := []) dX3_mostVisited_36 nl_X3_159 yS_X11_greatest (c_X11_greatest ⟨lp_24 hS, lq_24 hS⟩ eq12) (by decide) rfl (Nat.le_of_ble_eq_true rfl) ?_
    cases e
    exact r_ireturn dX3_mostVisited_39 rfl rfl
  have J3 : ∀ pp : Mm, pp = p2 → Run l G M_X3_mostVisited 1 25 [some (vr (some 13)), none] [] S pp (some (vi q.1)) S q.2 := by
    intro pp hpp
    rw [hpp]
    exact J3a
  have J3w : Run l G M_X3_mostVisited 1 2 [some (vr (some 13)), some (vi (0 : Int32))] [] S mm (some (vi q.1)) S q.2 := by
    refine while_run (s := ((0 : Int32), mm)) (Gs := fun (z1 : Int32 × Mm) => Run l G M_X3_mostVisited 1 2 [some (vr (some 13)), some (vi z1.1)] [] S z1.2 (some (vi q.1)) S q.2) eb6w ?_
    intro z1 x4y eb6 hx5
    unfold m_X3_mostVisited_b2 at eb6
    refine r_iload_n dX3_mostVisited_2 rfl ?_
    refine r_bipush (v := 6) dX3_mostVisited_3 cb_6 ?_
    refine r_icmp_ge (tgt := 25) dX3_mostVisited_5 rfl (fun h7 => ?_) (fun h7 => ?_)
    · replace eb6 := ite_t h7 eb6
      cases eb6
      exact r_weak (L' := [some (vr (some 13)), none]) ⟨rfl, trivial⟩ (J3 _ hx5)
    · replace eb6 := ite_f h7 eb6
      refine r_aload_n dX3_mostVisited_8 rfl ?_
      refine r_getR dX3_mostVisited_9 fl_X3_46 rfl (lp_13 hS) (lq_13 hS) (lr_13_10 hS) ?_
      refine r_iload_n dX3_mostVisited_12 rfl ?_
      refine r_aload_n dX3_mostVisited_13 rfl ?_
      refine r_iload_n dX3_mostVisited_14 rfl ?_
      obtain ⟨q8, eq9, eb6⟩ := obind eb6
      refine r_callV (as := [_]) (rest := [_, _]) dX3_mostVisited_15 ml_X3_149 yV_X3_countVisitsTo (c_X3_countVisitsTo hS eq9) (by decide) rfl (lp_13 hS) (lq_13 hS) (Nat.le_of_ble_eq_true rfl) ?_
      obtain ⟨hg10, eb6⟩ := grd_some eb6
      refine r_iast dX3_mostVisited_18 (lp_24 hS) (lk_24 hS) hg10 ?_
      refine r_iinc (v := _ + (1 : Int32)) dX3_mostVisited_19 rfl (congrArg (_ + ·) ci_1) (by decide) rfl ?_
      refine r_goto (tgt := 2) dX3_mostVisited_22 rfl ?_
      cases eb6
      exact r_weak (L' := [some (vr (some 13)), some (vi (z1.1 + (1 : Int32)))]) ⟨rfl, rfl, trivial⟩ hx5
  exact r_weak (L' := [some (vr (some 13)), some (vi (0 : Int32))]) ⟨rfl, rfl, trivial⟩ J3w
noncomputable def m_X3_countLikings_b4 (mm : Mm) (z1 : Int32 × Int32) : Option ((Int32 × Int32) ⊕ (Int32)) := if (mI mm 14 0) ≤ z1.2 then (some (.inr z1.1)) else (grd z1.2 6 (some (.inl (z1.1 + (m_J6_bitCount_0f7a4 (mI mm 17 (ix z1.2))), z1.2 + (1 : Int32)))))
noncomputable def m_X3_countLikings (mm : Mm) : Option (Int32) := (whileF FU (m_X3_countLikings_b4 mm) ((0 : Int32), (0 : Int32))).bind (fun p2 => some p2)
set_option maxHeartbeats 4000000 in
set_option maxRecDepth 100000 in
theorem c_X3_countLikings {l : Launch} {G : Gt} {S : Sk} {mm : Mm} (hS : Lay S) {q : Int32} (e : m_X3_countLikings mm = some q) : CallOK l G M_X3_countLikings yX3_countLikings 1 [vr (some 13)] S mm (some (vi q)) S mm := by
  refine call_of_run rfl rfl rfl (Nat.le_of_ble_eq_true rfl) ?_
  show Run l G M_X3_countLikings 1 0 [some (vr (some 13)), none, none] [] S mm (some (vi q)) S mm
  unfold m_X3_countLikings at e
  refine r_iconst (v := 0) dX3_countLikings_0 ci_0 ?_
  refine r_istore_n dX3_countLikings_1 (by decide) rfl ?_
  refine r_iconst (v := 0) dX3_countLikings_2 ci_0 ?_
  refine r_istore_n dX3_countLikings_3 (by decide) rfl ?_
  obtain ⟨p2, eb6w, e⟩ := obind e
  have J3a : Run l G M_X3_countLikings 1 36 [none, some (vi p2), none] [] S mm (some (vi q)) S mm := by
    refine r_iload_n dX3_countLikings_36 rfl ?_
    cases e
    exact r_ireturn dX3_countLikings_37 rfl rfl
  have J3 : ∀ pp : Int32, pp = p2 → Run l G M_X3_countLikings 1 36 [none, some (vi pp), none] [] S mm (some (vi q)) S mm := by
    intro pp hpp
    rw [hpp]
    exact J3a
  have J3w : Run l G M_X3_countLikings 1 4 [some (vr (some 13)), some (vi (0 : Int32)), some (vi (0 : Int32))] [] S mm (some (vi q)) S mm := by
    refine while_run (s := ((0 : Int32), (0 : Int32))) (Gs := fun (z1 : Int32 × Int32) => Run l G M_X3_countLikings 1 4 [some (vr (some 13)), some (vi z1.1), some (vi z1.2)] [] S mm (some (vi q)) S mm) eb6w ?_
    intro z1 x4y eb6 hx5
    unfold m_X3_countLikings_b4 at eb6
    refine r_iload_n dX3_countLikings_4 rfl ?_
    refine r_aload_n dX3_countLikings_5 rfl ?_
    refine r_getR dX3_countLikings_6 fl_X3_12 rfl (lp_13 hS) (lq_13 hS) (lr_13_0 hS) ?_
    refine r_getI dX3_countLikings_9 fl_X3_70 rfl (lp_14 hS) (lq_14 hS) ?_
    refine r_icmp_ge (tgt := 36) dX3_countLikings_12 rfl (fun h7 => ?_) (fun h7 => ?_)
    · replace eb6 := ite_t h7 eb6
      cases eb6
      exact r_weak (L' := [none, some (vi z1.1), none]) ⟨rfl, trivial⟩ (J3 _ hx5)
    · replace eb6 := ite_f h7 eb6
      refine r_iload_n dX3_countLikings_15 rfl ?_
      refine r_aload_n dX3_countLikings_16 rfl ?_
      refine r_getR dX3_countLikings_17 fl_X3_12 rfl (lp_13 hS) (lq_13 hS) (lr_13_0 hS) ?_
      refine r_getR dX3_countLikings_20 fl_X3_122 rfl (lp_14 hS) (lq_14 hS) (lr_14_4 hS) ?_
      refine r_iload_n dX3_countLikings_23 rfl ?_
      obtain ⟨hg8, eb6⟩ := grd_some eb6
      refine r_iald dX3_countLikings_24 (lp_17 hS) (lk_17 hS) hg8 ?_
      refine r_callS (as := [_]) (rest := [_]) dX3_countLikings_25 ml_X3_98 yS_J6_bitCount_0f7a4 (c_J6_bitCount_0f7a4) (by decide) rfl (Nat.le_of_ble_eq_true rfl) ?_
      refine r_iadd dX3_countLikings_28 ?_
      refine r_istore_n dX3_countLikings_29 (by decide) rfl ?_
      refine r_iinc (v := _ + (1 : Int32)) dX3_countLikings_30 rfl (congrArg (_ + ·) ci_1) (by decide) rfl ?_
      refine r_goto (tgt := 4) dX3_countLikings_33 rfl ?_
      cases eb6
      exact r_weak (L' := [some (vr (some 13)), some (vi (z1.1 + (m_J6_bitCount_0f7a4 (mI mm 17 (ix z1.2))))), some (vi (z1.2 + (1 : Int32)))]) ⟨rfl, rfl, rfl, trivial⟩ hx5
  exact r_weak (L' := [some (vr (some 13)), some (vi (0 : Int32)), some (vi (0 : Int32))]) ⟨rfl, rfl, rfl, trivial⟩ J3w
noncomputable def m_X3_tellAfter (S : Sk) (a1 : Int32) (mm : Mm) : Option (Int32 × Mm) := if a1 = (0 : Int32) then (some (mI mm 13 5, mm)) else (if a1 = (1 : Int32) then ((m_X3_mostVisited S mm).bind (fun q3 => some (q3.1, q3.2))) else (if a1 = (2 : Int32) then (some (mI mm 13 6, mm)) else (if a1 = (3 : Int32) then ((m_X3_countLikings mm).bind (fun q7 => some (q7, mm))) else (if a1 = (4 : Int32) then (some (mI mm 13 8, mm)) else (some ((-2 : Int32), mm))))))
set_option maxHeartbeats 4000000 in
set_option maxRecDepth 100000 in
theorem c_X3_tellAfter {l : Launch} {G : Gt} {S : Sk} {a1 : Int32} {mm : Mm} (hS : Lay S) {q : Int32 × Mm} (e : m_X3_tellAfter S a1 mm = some q) : CallOK l G M_X3_tellAfter yX3_tellAfter 2 [vr (some 13), vi a1] S mm (some (vi q.1)) S q.2 := by
  refine call_of_run rfl rfl rfl (Nat.le_of_ble_eq_true rfl) ?_
  show Run l G M_X3_tellAfter 2 0 [some (vr (some 13)), some (vi a1)] [] S mm (some (vi q.1)) S q.2
  unfold m_X3_tellAfter at e
  refine r_iload_n dX3_tellAfter_0 rfl ?_
  by_cases h1 : a1 = (0 : Int32)
  · replace e := ite_t h1 e
    refine r_table_in (tgt := 36) dX3_tellAfter_1 (by rw [h1]; decide) (by rw [h1]; decide) (by rw [h1]; rfl) rfl ?_
    refine r_aload_n dX3_tellAfter_36 rfl ?_
    refine r_getI dX3_tellAfter_37 fl_X3_31 rfl (lp_13 hS) (lq_13 hS) ?_
    cases e
    exact r_ireturn dX3_tellAfter_40 rfl rfl
  replace e := ite_f h1 e
  by_cases h2 : a1 = (1 : Int32)
  · replace e := ite_t h2 e
    refine r_table_in (tgt := 41) dX3_tellAfter_1 (by rw [h2]; decide) (by rw [h2]; decide) (by rw [h2]; rfl) rfl ?_
    refine r_aload_n dX3_tellAfter_41 rfl ?_
    obtain ⟨q3, eq4, e⟩ := obind e
    refine r_callV (as := []) (rest := []) dX3_tellAfter_42 ml_X3_152 yV_X3_mostVisited (c_X3_mostVisited hS eq4) (by decide) rfl (lp_13 hS) (lq_13 hS) (Nat.le_of_ble_eq_true rfl) ?_
    cases e
    exact r_ireturn dX3_tellAfter_45 rfl rfl
  replace e := ite_f h2 e
  by_cases h5 : a1 = (2 : Int32)
  · replace e := ite_t h5 e
    refine r_table_in (tgt := 46) dX3_tellAfter_1 (by rw [h5]; decide) (by rw [h5]; decide) (by rw [h5]; rfl) rfl ?_
    refine r_aload_n dX3_tellAfter_46 rfl ?_
    refine r_getI dX3_tellAfter_47 fl_X3_34 rfl (lp_13 hS) (lq_13 hS) ?_
    cases e
    exact r_ireturn dX3_tellAfter_50 rfl rfl
  replace e := ite_f h5 e
  by_cases h6 : a1 = (3 : Int32)
  · replace e := ite_t h6 e
    refine r_table_in (tgt := 51) dX3_tellAfter_1 (by rw [h6]; decide) (by rw [h6]; decide) (by rw [h6]; rfl) rfl ?_
    refine r_aload_n dX3_tellAfter_51 rfl ?_
    obtain ⟨q7, eq8, e⟩ := obind e
    refine r_callV (as := []) (rest := []) dX3_tellAfter_52 ml_X3_156 yV_X3_countLikings (c_X3_countLikings hS eq8) (by decide) rfl (lp_13 hS) (lq_13 hS) (Nat.le_of_ble_eq_true rfl) ?_
    cases e
    exact r_ireturn dX3_tellAfter_55 rfl rfl
  replace e := ite_f h6 e
  by_cases h9 : a1 = (4 : Int32)
  · replace e := ite_t h9 e
    refine r_table_in (tgt := 56) dX3_tellAfter_1 (by rw [h9]; decide) (by rw [h9]; decide) (by rw [h9]; rfl) rfl ?_
    refine r_aload_n dX3_tellAfter_56 rfl ?_
    refine r_getI dX3_tellAfter_57 fl_X3_40 rfl (lp_13 hS) (lq_13 hS) ?_
    cases e
    exact r_ireturn dX3_tellAfter_60 rfl rfl
  replace e := ite_f h9 e
  have ho1 : (a1).toInt < 0 ∨ 4 < (a1).toInt := by
    have nh1 := lv_neT (a := 0) h1 (by decide)
    have nh2 := lv_neT (a := 1) h2 (by decide)
    have nh5 := lv_neT (a := 2) h5 (by decide)
    have nh6 := lv_neT (a := 3) h6 (by decide)
    have nh9 := lv_neT (a := 4) h9 (by decide)
    omega
  refine r_table_out (tgt := 61) dX3_tellAfter_1 ho1 rfl ?_
  refine r_bipush (v := -2) dX3_tellAfter_61 cb_m2 ?_
  cases e
  exact r_ireturn dX3_tellAfter_63 rfl rfl
noncomputable def m_X4_init (S : Sk) (a0 : Nat) (mm : Mm) : Option (Sk × Mm) := some ((sRs (nwS (sRs (nwS (sRs (nwS S 20 50 50) a0 1 (some S.1)) 20 50 50) a0 2 (some (S.1 + 1))) 20 50 50) a0 3 (some (S.1 + 2))), (nwM (sRs (nwS (sRs (nwS S 20 50 50) a0 1 (some S.1)) 20 50 50) a0 2 (some (S.1 + 1))) (nwM (sRs (nwS S 20 50 50) a0 1 (some S.1)) (nwM S (sI mm a0 0 (0 : Int32))))))
set_option maxHeartbeats 4000000 in
set_option maxRecDepth 100000 in
theorem c_X4_init {l : Launch} {G : Gt} {S : Sk} {a0 : Nat} {mm : Mm} (ha0 : KD S a0 4) {q : Sk × Mm} (e : m_X4_init S a0 mm = some q) : CallOK l G M_X4_init yX4_init 1 [vr (some a0)] S mm (none) q.1 q.2 := by
  refine call_of_run rfl rfl rfl (Nat.le_of_ble_eq_true rfl) ?_
  show Run l G M_X4_init 1 0 [some (vr (some a0))] [] S mm (none) q.1 q.2
  unfold m_X4_init at e
  refine r_aload_n dX4_init_0 rfl ?_
  refine r_objInit (rest := []) dX4_init_1 oi_X4_3 oi_i oi_c (by decide) (Nat.le_of_ble_eq_true rfl) ?_
  refine r_aload_n dX4_init_4 rfl ?_
  refine r_iconst (v := 0) dX4_init_5 ci_0 ?_
  refine r_putI dX4_init_6 fl_X4_9 ft_4_0 (Or.inl rfl) rfl rfl rfl ha0.1 ha0.2 ?_
  refine r_aload_n dX4_init_9 rfl ?_
  refine r_bipush (v := 50) dX4_init_10 cb_50 ?_
  refine r_newa (t := 20) dX4_init_12 rfl (by decide) (by decide) aw_20 (by decide) (N := 50) (by decide) (by decide) ?_
  have hn1 := kd_nw (k := 20) (len := 50) (z := 50) ha0
  have hn2 : AK (nwS S 20 50 50) S.1 20 50 := ak_new
  refine r_putR dX4_init_14 fl_X4_15 ft_4_1 (Or.inr ⟨rfl, fun q hq => by cases hq; rfl⟩) rfl hn1.1 hn1.2 ?_
  refine r_aload_n dX4_init_17 rfl ?_
  refine r_bipush (v := 50) dX4_init_18 cb_50 ?_
  refine r_newa (t := 20) dX4_init_20 rfl (by decide) (by decide) aw_20 (by decide) (N := 50) (by decide) (by decide) ?_
  have hn3 := kd_nw (k := 20) (len := 50) (z := 50) hn1
  have hn4 := ak_nw (k := 20) (len := 50) (z := 50) hn2
  have hn5 : AK (nwS (sRs (nwS S 20 50 50) a0 1 (some S.1)) 20 50 50) (S.1 + 1) 20 50 := ak_new
  refine r_putR dX4_init_22 fl_X4_19 ft_4_2 (Or.inr ⟨rfl, fun q hq => by cases hq; rfl⟩) rfl hn3.1 hn3.2 ?_
  refine r_aload_n dX4_init_25 rfl ?_
  refine r_bipush (v := 50) dX4_init_26 cb_50 ?_
  refine r_newa (t := 20) dX4_init_28 rfl (by decide) (by decide) aw_20 (by decide) (N := 50) (by decide) (by decide) ?_
  have hn6 := kd_nw (k := 20) (len := 50) (z := 50) hn3
  have hn7 := ak_nw (k := 20) (len := 50) (z := 50) hn4
  have hn8 := ak_nw (k := 20) (len := 50) (z := 50) hn5
  have hn9 : AK (nwS (sRs (nwS (sRs (nwS S 20 50 50) a0 1 (some S.1)) 20 50 50) a0 2 (some (S.1 + 1))) 20 50 50) (S.1 + 2) 20 50 := ak_new
  refine r_putR dX4_init_30 fl_X4_22 ft_4_3 (Or.inr ⟨rfl, fun q hq => by cases hq; rfl⟩) rfl hn6.1 hn6.2 ?_
  cases e
  exact r_return dX4_init_33 rfl
noncomputable def m_X4_othersAreSo_b2 (a1 : Nat) (a2 : Int32) (mm : Mm) (S : Sk) (z1 : Int32) : Option ((Int32) ⊕ ((Unit) ⊕ (Int32))) := if (mI mm a1 1) ≤ z1 then (some (.inr (.inl ()))) else ((m_X6_cell S a1 z1 (1 : Int32) mm).bind (fun q8 => if (m_X7_isThere q8 mm) = 0 then (some (.inr (.inr (0 : Int32)))) else ((m_X7_keptBy q8 mm).bind (fun q11 => (m_X6_cell S a1 z1 (2 : Int32) mm).bind (fun q13 => bS (if q8 = a2 then (some (.inl ())) else ((m_X6_cell S a1 z1 (0 : Int32) mm).bind (fun q20 => if (m_X11_has q11 q13) = (if q20 = (1 : Int32) then (1 : Int32) else (0 : Int32)) then (some (.inl ())) else (some (.inr (.inr (.inr (0 : Int32))))))) : Option ((Unit) ⊕ ((Int32) ⊕ ((Unit) ⊕ (Int32))))) (fun p15 => some (.inl (z1 + (1 : Int32)))))))))
noncomputable def m_X4_othersAreSo (S : Sk) (a1 : Nat) (a2 : Int32) (mm : Mm) : Option (Int32) := bS (whileF FU (m_X4_othersAreSo_b2 a1 a2 mm S) (0 : Int32)) (fun p2 => some (1 : Int32))
set_option maxHeartbeats 4000000 in
set_option maxRecDepth 100000 in
theorem c_X4_othersAreSo {l : Launch} {G : Gt} {S : Sk} {a1 : Nat} {a2 : Int32} {mm : Mm} (hI : SI S) (ha1 : KD S a1 6) {q : Int32} (e : m_X4_othersAreSo S a1 a2 mm = some q) : CallOK l G M_X4_othersAreSo yX4_othersAreSo 3 [vr (some 14), vr (some a1), vi a2] S mm (some (vi q)) S mm := by
  have hS := hI.1
  refine call_of_run rfl rfl rfl (Nat.le_of_ble_eq_true rfl) ?_
  show Run l G M_X4_othersAreSo 3 0 [some (vr (some 14)), some (vr (some a1)), some (vi a2), none, none, none] [] S mm (some (vi q)) S mm
  unfold m_X4_othersAreSo at e
  refine r_iconst (v := 0) dX4_othersAreSo_0 ci_0 ?_
  refine r_istore_n dX4_othersAreSo_1 (by decide) rfl ?_
  obtain ⟨x4, eb6w, elx4, erx4⟩ := bS_some e
  have J3 : ∀ p2 : Unit, x4 = .inl p2 → Run l G M_X4_othersAreSo 3 80 [none, none, none, none, none, none] [] S mm (some (vi q)) S mm := by
    intro p2 hp2
    replace e := elx4 p2 hp2
    refine r_iconst (v := 1) dX4_othersAreSo_80 ci_1 ?_
    cases e
    exact r_ireturn dX4_othersAreSo_81 rfl (nz_b (by first | exact Or.inl rfl | exact Or.inr rfl)).1
  have J3w : Run l G M_X4_othersAreSo 3 2 [some (vr (some 14)), some (vr (some a1)), some (vi a2), some (vi (0 : Int32)), none, none] [] S mm (some (vi q)) S mm := by
    refine while_run (s := (0 : Int32)) (Gs := fun (z1 : Int32) => Run l G M_X4_othersAreSo 3 2 [some (vr (some 14)), some (vr (some a1)), some (vi a2), some (vi z1), none, none] [] S mm (some (vi q)) S mm) eb6w ?_
    intro z1 x4y eb6 hx5
    unfold m_X4_othersAreSo_b2 at eb6
    refine r_iload_n dX4_othersAreSo_2 rfl ?_
    refine r_aload_n dX4_othersAreSo_3 rfl ?_
    refine r_getI dX4_othersAreSo_4 fl_X4_47 rfl ha1.1 ha1.2 ?_
    refine r_icmp_ge (tgt := 80) dX4_othersAreSo_7 rfl (fun h7 => ?_) (fun h7 => ?_)
    · replace eb6 := ite_t h7 eb6
      cases eb6
      exact r_weak (L' := [none, none, none, none, none, none]) trivial (J3 _ (Eq.symm hx5))
    · replace eb6 := ite_f h7 eb6
      refine r_aload_n dX4_othersAreSo_10 rfl ?_
      refine r_iload_n dX4_othersAreSo_11 rfl ?_
      refine r_iconst (v := 1) dX4_othersAreSo_12 ci_1 ?_
      obtain ⟨q8, eq9, eb6⟩ := obind eb6
      refine r_callV (as := [_, _]) (rest := []) dX4_othersAreSo_13 ml_X4_50 yV_X6_cell (c_X6_cell hI ha1 eq9) (by decide) rfl ha1.1 ha1.2 (Nat.le_of_ble_eq_true rfl) ?_
      refine r_istore dX4_othersAreSo_16 (by decide) rfl ?_
      refine r_aload_n dX4_othersAreSo_18 rfl ?_
      refine r_iload dX4_othersAreSo_19 rfl ?_
      refine r_callV (as := [_]) (rest := []) dX4_othersAreSo_21 ml_X4_53 yV_X7_isThere (c_X7_isThere hS) (by decide) rfl (lp_14 hS) (lq_14 hS) (Nat.le_of_ble_eq_true rfl) ?_
      refine r_if_ne (tgt := 29) dX4_othersAreSo_24 rfl (fun h10 => ?_) (fun h10 => ?_)
      · replace eb6 := ite_f h10 eb6
        refine r_aload_n dX4_othersAreSo_29 rfl ?_
        refine r_iload dX4_othersAreSo_30 rfl ?_
        obtain ⟨q11, eq12, eb6⟩ := obind eb6
        refine r_callV (as := [_]) (rest := []) dX4_othersAreSo_32 ml_X4_57 yV_X7_keptBy (c_X7_keptBy hS eq12) (by decide) rfl (lp_14 hS) (lq_14 hS) (Nat.le_of_ble_eq_true rfl) ?_
        refine r_aload_n dX4_othersAreSo_35 rfl ?_
        refine r_iload_n dX4_othersAreSo_36 rfl ?_
        refine r_iconst (v := 2) dX4_othersAreSo_37 ci_2 ?_
        obtain ⟨q13, eq14, eb6⟩ := obind eb6
        refine r_callV (as := [_, _]) (rest := [_]) dX4_othersAreSo_38 ml_X4_50 yV_X6_cell (c_X6_cell hI ha1 eq14) (by decide) rfl ha1.1 ha1.2 (Nat.le_of_ble_eq_true rfl) ?_
        refine r_callSN (as := [_, _]) (rest := []) dX4_othersAreSo_41 nl_X4_61 yS_X11_has (c_X11_has) (by decide) rfl (Nat.le_of_ble_eq_true rfl) ?_
        refine r_istore dX4_othersAreSo_44 (by decide) rfl ?_
        refine r_iload dX4_othersAreSo_46 rfl ?_
        refine r_iload_n dX4_othersAreSo_48 rfl ?_
        obtain ⟨x18, ep17, elx18, erx18⟩ := bS_some eb6
        have J16 : ∀ p15 : Unit, x18 = .inl p15 → Run l G M_X4_othersAreSo 3 74 [some (vr (some 14)), some (vr (some a1)), some (vi a2), some (vi z1), none, none] [] S mm (some (vi q)) S mm := by
          intro p15 hp15
          replace eb6 := elx18 p15 hp15
          refine r_iinc (v := _ + (1 : Int32)) dX4_othersAreSo_74 rfl (congrArg (_ + ·) ci_1) (by decide) rfl ?_
          refine r_goto (tgt := 2) dX4_othersAreSo_77 rfl ?_
          cases eb6
          exact r_weak (L' := [some (vr (some 14)), some (vr (some a1)), some (vi a2), some (vi (z1 + (1 : Int32))), none, none]) ⟨rfl, rfl, rfl, rfl, trivial⟩ hx5
        refine r_icmp_eq (tgt := 74) dX4_othersAreSo_49 rfl (fun h19 => ?_) (fun h19 => ?_)
        · replace ep17 := ite_t h19 ep17
          cases ep17
          exact r_weak (L' := [some (vr (some 14)), some (vr (some a1)), some (vi a2), some (vi z1), none, none]) ⟨rfl, rfl, rfl, rfl, trivial⟩ (J16 _ rfl)
        · replace ep17 := ite_f h19 ep17
          refine r_iload dX4_othersAreSo_52 rfl ?_
          refine r_aload_n dX4_othersAreSo_54 rfl ?_
          refine r_iload_n dX4_othersAreSo_55 rfl ?_
          refine r_iconst (v := 0) dX4_othersAreSo_56 ci_0 ?_
          obtain ⟨q20, eq21, ep17⟩ := obind ep17
          refine r_callV (as := [_, _]) (rest := [_]) dX4_othersAreSo_57 ml_X4_50 yV_X6_cell (c_X6_cell hI ha1 eq21) (by decide) rfl ha1.1 ha1.2 (Nat.le_of_ble_eq_true rfl) ?_
          refine r_iconst (v := 1) dX4_othersAreSo_60 ci_1 ?_
          have J24 : ∀ (w23 : Int32), w23 = (if q20 = (1 : Int32) then (1 : Int32) else (0 : Int32)) → Run l G M_X4_othersAreSo 3 69 [some (vr (some 14)), some (vr (some a1)), some (vi a2), some (vi z1), none, none] [vi w23, vi (m_X11_has q11 q13)] S mm (some (vi q)) S mm := by
            intro w23 hw26
            subst hw26
            refine r_icmp_eq (tgt := 74) dX4_othersAreSo_69 rfl (fun h25 => ?_) (fun h25 => ?_)
            · replace ep17 := ite_t h25 ep17
              cases ep17
              exact r_weak (L' := [some (vr (some 14)), some (vr (some a1)), some (vi a2), some (vi z1), none, none]) ⟨rfl, rfl, rfl, rfl, trivial⟩ (J16 _ rfl)
            · replace ep17 := ite_f h25 ep17
              refine r_iconst (v := 0) dX4_othersAreSo_72 ci_0 ?_
              cases ep17
              have eb6 := congrArg some (erx18 _ rfl)
              cases eb6
              have e := congrArg some (erx4 _ (Eq.symm hx5))
              cases e
              exact r_ireturn dX4_othersAreSo_73 rfl (nz_b (by first | exact Or.inl rfl | exact Or.inr rfl)).1
          refine r_icmp_ne (tgt := 68) dX4_othersAreSo_61 rfl (fun h22 => ?_) (fun h22 => ?_)
          · refine r_iconst (v := 0) dX4_othersAreSo_68 ci_0 ?_
            exact r_weak (L' := [some (vr (some 14)), some (vr (some a1)), some (vi a2), some (vi z1), none, none]) ⟨rfl, rfl, rfl, rfl, trivial⟩ (J24 _ (Eq.symm (if_neg h22)))
          · refine r_iconst (v := 1) dX4_othersAreSo_64 ci_1 ?_
            refine r_goto (tgt := 69) dX4_othersAreSo_65 rfl ?_
            exact r_weak (L' := [some (vr (some 14)), some (vr (some a1)), some (vi a2), some (vi z1), none, none]) ⟨rfl, rfl, rfl, rfl, trivial⟩ (J24 _ (Eq.symm (if_pos h22)))
      · replace eb6 := ite_t h10 eb6
        refine r_iconst (v := 0) dX4_othersAreSo_27 ci_0 ?_
        cases eb6
        have e := congrArg some (erx4 _ (Eq.symm hx5))
        cases e
        exact r_ireturn dX4_othersAreSo_28 rfl (nz_b (by first | exact Or.inl rfl | exact Or.inr rfl)).1
  exact r_weak (L' := [some (vr (some 14)), some (vr (some a1)), some (vi a2), some (vi (0 : Int32)), none, none]) ⟨rfl, rfl, rfl, rfl, trivial⟩ J3w
noncomputable def m_X4_thingsTold_b5 (a0 : Nat) (a1 : Int32) (a2 : Int32) (mm : Mm) (S : Sk) (z1 : Int32 × Int32) : Option ((Int32 × Int32) ⊕ (Int32)) := if (mI mm a0 1) ≤ z1.2 then (some (.inr z1.1)) else ((m_X6_cell S a0 z1.2 (0 : Int32) mm).bind (fun q8 => (if q8 = a2 then ((m_X6_cell S a0 z1.2 (1 : Int32) mm).bind (fun q15 => if q15 = a1 then ((m_X6_cell S a0 z1.2 (2 : Int32) mm).bind (fun q18 => some (z1.1 ||| (xshl (1 : Int32) q18)))) else (some z1.1))) else (some z1.1) : Option (Int32)).bind (fun p10 => some (.inl (p10, z1.2 + (1 : Int32))))))
noncomputable def m_X4_thingsTold (S : Sk) (a0 : Nat) (a1 : Int32) (a2 : Int32) (mm : Mm) : Option (Int32) := (whileF FU (m_X4_thingsTold_b5 a0 a1 a2 mm S) ((0 : Int32), (0 : Int32))).bind (fun p2 => some p2)
set_option maxHeartbeats 4000000 in
set_option maxRecDepth 100000 in
theorem c_X4_thingsTold {l : Launch} {G : Gt} {S : Sk} {a0 : Nat} {a1 : Int32} {a2 : Int32} {mm : Mm} (hI : SI S) (ha0 : KD S a0 6) {q : Int32} (e : m_X4_thingsTold S a0 a1 a2 mm = some q) : CallOK l G M_X4_thingsTold yX4_thingsTold 1 [vr (some a0), vi a1, vi a2] S mm (some (vi q)) S mm := by
  have hS := hI.1
  refine call_of_run rfl rfl rfl (Nat.le_of_ble_eq_true rfl) ?_
  show Run l G M_X4_thingsTold 1 0 [some (vr (some a0)), some (vi a1), some (vi a2), none, none] [] S mm (some (vi q)) S mm
  unfold m_X4_thingsTold at e
  refine r_iconst (v := 0) dX4_thingsTold_0 ci_0 ?_
  refine r_istore_n dX4_thingsTold_1 (by decide) rfl ?_
  refine r_iconst (v := 0) dX4_thingsTold_2 ci_0 ?_
  refine r_istore dX4_thingsTold_3 (by decide) rfl ?_
  obtain ⟨p2, eb6w, e⟩ := obind e
  have J3a : Run l G M_X4_thingsTold 1 54 [none, none, none, some (vi p2), none] [] S mm (some (vi q)) S mm := by
    refine r_iload_n dX4_thingsTold_54 rfl ?_
    cases e
    exact r_ireturn dX4_thingsTold_55 rfl rfl
  have J3 : ∀ pp : Int32, pp = p2 → Run l G M_X4_thingsTold 1 54 [none, none, none, some (vi pp), none] [] S mm (some (vi q)) S mm := by
    intro pp hpp
    rw [hpp]
    exact J3a
  have J3w : Run l G M_X4_thingsTold 1 5 [some (vr (some a0)), some (vi a1), some (vi a2), some (vi (0 : Int32)), some (vi (0 : Int32))] [] S mm (some (vi q)) S mm := by
    refine while_run (s := ((0 : Int32), (0 : Int32))) (Gs := fun (z1 : Int32 × Int32) => Run l G M_X4_thingsTold 1 5 [some (vr (some a0)), some (vi a1), some (vi a2), some (vi z1.1), some (vi z1.2)] [] S mm (some (vi q)) S mm) eb6w ?_
    intro z1 x4y eb6 hx5
    unfold m_X4_thingsTold_b5 at eb6
    refine r_iload dX4_thingsTold_5 rfl ?_
    refine r_aload_n dX4_thingsTold_7 rfl ?_
    refine r_getI dX4_thingsTold_8 fl_X4_47 rfl ha0.1 ha0.2 ?_
    refine r_icmp_ge (tgt := 54) dX4_thingsTold_11 rfl (fun h7 => ?_) (fun h7 => ?_)
    · replace eb6 := ite_t h7 eb6
      cases eb6
      exact r_weak (L' := [none, none, none, some (vi z1.1), none]) ⟨rfl, trivial⟩ (J3 _ hx5)
    · replace eb6 := ite_f h7 eb6
      refine r_aload_n dX4_thingsTold_14 rfl ?_
      refine r_iload dX4_thingsTold_15 rfl ?_
      refine r_iconst (v := 0) dX4_thingsTold_17 ci_0 ?_
      obtain ⟨q8, eq9, eb6⟩ := obind eb6
      refine r_callV (as := [_, _]) (rest := []) dX4_thingsTold_18 ml_X4_50 yV_X6_cell (c_X6_cell hI ha0 eq9) (by decide) rfl ha0.1 ha0.2 (Nat.le_of_ble_eq_true rfl) ?_
      refine r_iload_n dX4_thingsTold_21 rfl ?_
      obtain ⟨p10, ep12, eb6⟩ := obind eb6
      have J11a : Run l G M_X4_thingsTold 1 48 [some (vr (some a0)), some (vi a1), some (vi a2), some (vi p10), some (vi z1.2)] [] S mm (some (vi q)) S mm := by
        refine r_iinc (v := _ + (1 : Int32)) dX4_thingsTold_48 rfl (congrArg (_ + ·) ci_1) (by decide) rfl ?_
        refine r_goto (tgt := 5) dX4_thingsTold_51 rfl ?_
        cases eb6
        exact r_weak (L' := [some (vr (some a0)), some (vi a1), some (vi a2), some (vi p10), some (vi (z1.2 + (1 : Int32)))]) ⟨rfl, rfl, rfl, rfl, rfl, trivial⟩ hx5
      have J11 : ∀ pp : Int32, pp = p10 → Run l G M_X4_thingsTold 1 48 [some (vr (some a0)), some (vi a1), some (vi a2), some (vi pp), some (vi z1.2)] [] S mm (some (vi q)) S mm := by
        intro pp hpp
        rw [hpp]
        exact J11a
      refine r_icmp_ne (tgt := 48) dX4_thingsTold_22 rfl (fun h14 => ?_) (fun h14 => ?_)
      · replace ep12 := ite_f h14 ep12
        exact r_weak (L' := [some (vr (some a0)), some (vi a1), some (vi a2), some (vi z1.1), some (vi z1.2)]) ⟨rfl, rfl, rfl, rfl, rfl, trivial⟩ (J11 _ (Option.some.inj ep12))
      · replace ep12 := ite_t h14 ep12
        refine r_aload_n dX4_thingsTold_25 rfl ?_
        refine r_iload dX4_thingsTold_26 rfl ?_
        refine r_iconst (v := 1) dX4_thingsTold_28 ci_1 ?_
        obtain ⟨q15, eq16, ep12⟩ := obind ep12
        refine r_callV (as := [_, _]) (rest := []) dX4_thingsTold_29 ml_X4_50 yV_X6_cell (c_X6_cell hI ha0 eq16) (by decide) rfl ha0.1 ha0.2 (Nat.le_of_ble_eq_true rfl) ?_
        refine r_iload_n dX4_thingsTold_32 rfl ?_
        refine r_icmp_ne (tgt := 48) dX4_thingsTold_33 rfl (fun h17 => ?_) (fun h17 => ?_)
        · replace ep12 := ite_f h17 ep12
          exact r_weak (L' := [some (vr (some a0)), some (vi a1), some (vi a2), some (vi z1.1), some (vi z1.2)]) ⟨rfl, rfl, rfl, rfl, rfl, trivial⟩ (J11 _ (Option.some.inj ep12))
        · replace ep12 := ite_t h17 ep12
          refine r_iload_n dX4_thingsTold_36 rfl ?_
          refine r_iconst (v := 1) dX4_thingsTold_37 ci_1 ?_
          refine r_aload_n dX4_thingsTold_38 rfl ?_
          refine r_iload dX4_thingsTold_39 rfl ?_
          refine r_iconst (v := 2) dX4_thingsTold_41 ci_2 ?_
          obtain ⟨q18, eq19, ep12⟩ := obind ep12
          refine r_callV (as := [_, _]) (rest := [_, _]) dX4_thingsTold_42 ml_X4_50 yV_X6_cell (c_X6_cell hI ha0 eq19) (by decide) rfl ha0.1 ha0.2 (Nat.le_of_ble_eq_true rfl) ?_
          refine r_ishl dX4_thingsTold_45 ?_
          refine r_ior dX4_thingsTold_46 ?_
          refine r_istore_n dX4_thingsTold_47 (by decide) rfl ?_
          exact r_weak (L' := [some (vr (some a0)), some (vi a1), some (vi a2), some (vi (z1.1 ||| (xshl (1 : Int32) q18))), some (vi z1.2)]) ⟨rfl, rfl, rfl, rfl, rfl, trivial⟩ (J11 _ (Option.some.inj ep12))
  exact r_weak (L' := [some (vr (some a0)), some (vi a1), some (vi a2), some (vi (0 : Int32)), some (vi (0 : Int32))]) ⟨rfl, rfl, rfl, rfl, rfl, trivial⟩ J3w
