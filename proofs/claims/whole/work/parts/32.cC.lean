def m_X3_mostVisited_b2 (z1 : Int32 × Mm) : Option ((Int32 × Mm) ⊕ (Mm)) := if (6 : Int32) ≤ z1.1 then (some (.inr z1.2)) else ((m_X3_countVisitsTo z1.1 z1.2).bind (fun q8 => grd z1.1 6 (some (.inl (z1.1 + (1 : Int32), (sI z1.2 24 (ix z1.1) q8))))))
def m_X3_mostVisited (S : Sk) (mm : Mm) : Option (Int32 × Mm) := (whileF FU (m_X3_mostVisited_b2) ((0 : Int32), mm)).bind (fun p2 => (m_X11_greatest S 24 (mI p2 14 0) p2).bind (fun q11 => some (q11, p2)))
set_option maxHeartbeats 4000000 in
set_option maxRecDepth 100000 in
theorem c_X3_mostVisited {l : Launch} {G : Gt} {S : Sk} {mm : Mm} (hS : Lay S) {q : Int32 × Mm} (e : m_X3_mostVisited S mm = some q) : CallOK l G M_X3_mostVisited yX3_mostVisited 1 [vr (some 13)] S mm (some (vi q.1)) S q.2 := by
  refine call_of_run rfl rfl rfl (Nat.le_of_ble_eq_true rfl) ?_
  show Run l G M_X3_mostVisited 1 0 [some (vr (some 13)), none] [] S mm (some (vi q.1)) S q.2
  unfold m_X3_mostVisited at e
  refine r_iconst (v := 0) dX3_mostVisited_0 ci_0 ?_
  refine r_istore_n dX3_mostVisited_1 (by decide) rfl ?_
  obtain ⟨p2, eb6w, e⟩ := obind e
  have J3a : Run l G M_X3_mostVisited 1 25 [some (vr (some 13)), none] [] S p2 (some (vi q.1)) S q.2 := by
    refine r_aload_n dX3_mostVisited_25 rfl ?_
    refine r_getR dX3_mostVisited_26 fl_X3_46 rfl (lp_13 hS) (lq_13 hS) (lr_13_10 hS) ?_
    refine r_aload_n dX3_mostVisited_29 rfl ?_
    refine r_getR dX3_mostVisited_30 fl_X3_12 rfl (lp_13 hS) (lq_13 hS) (lr_13_0 hS) ?_
    refine r_getI dX3_mostVisited_33 fl_X3_70 rfl (lp_14 hS) (lq_14 hS) ?_
    obtain ⟨q11, eq12, e⟩ := obind e
    refine r_callSN (as := [_, _]) (rest := []) dX3_mostVisited_36 nl_X3_159 yS_X11_greatest (c_X11_greatest ⟨lp_24 hS, lq_24 hS⟩ eq12) (by decide) rfl (Nat.le_of_ble_eq_true rfl) ?_
    cases e
    exact r_ireturn dX3_mostVisited_39 rfl rfl
  have J3 : ∀ pp : Mm, pp = p2 → Run l G M_X3_mostVisited 1 25 [some (vr (some 13)), none] [] S pp (some (vi q.1)) S q.2 := by
    intro pp hpp
    rw [hpp]
    exact J3a
  have J3w : Run l G M_X3_mostVisited 1 2 [some (vr (some 13)), some (vi (0 : Int32))] [] S mm (some (vi q.1)) S q.2 := by
    refine while_run (s := ((0 : Int32), mm)) (Gs := fun (z1 : Int32 × Mm) => Run l G M_X3_mostVisited 1 2 [some (vr (some 13)), some (vi z1.1)] [] S z1.2 (some (vi q.1)) S q.2) eb6w ?_
    intro z1 x4y eb6 hx5
    unfold m_X3_mostVisited_b2 at eb6
    refine r_iload_n dX3_mostVisited_2 rfl ?_
    refine r_bipush (v := 6) dX3_mostVisited_3 cb_6 ?_
    refine r_icmp_ge (tgt := 25) dX3_mostVisited_5 rfl (fun h7 => ?_) (fun h7 => ?_)
    · replace eb6 := ite_t h7 eb6
      cases eb6
      exact r_weak (L' := [some (vr (some 13)), none]) ⟨rfl, trivial⟩ (J3 _ hx5)
    · replace eb6 := ite_f h7 eb6
      refine r_aload_n dX3_mostVisited_8 rfl ?_
      refine r_getR dX3_mostVisited_9 fl_X3_46 rfl (lp_13 hS) (lq_13 hS) (lr_13_10 hS) ?_
      refine r_iload_n dX3_mostVisited_12 rfl ?_
      refine r_aload_n dX3_mostVisited_13 rfl ?_
      refine r_iload_n dX3_mostVisited_14 rfl ?_
      obtain ⟨q8, eq9, eb6⟩ := obind eb6
      refine r_callV (as := [_]) (rest := [_, _]) dX3_mostVisited_15 ml_X3_149 yV_X3_countVisitsTo (c_X3_countVisitsTo hS eq9) (by decide) rfl (lp_13 hS) (lq_13 hS) (Nat.le_of_ble_eq_true rfl) ?_
      obtain ⟨hg10, eb6⟩ := grd_some eb6
      refine r_iast dX3_mostVisited_18 (lp_24 hS) (lk_24 hS) hg10 ?_
      refine r_iinc (v := _ + (1 : Int32)) dX3_mostVisited_19 rfl (congrArg (_ + ·) ci_1) (by decide) rfl ?_
      refine r_goto (tgt := 2) dX3_mostVisited_22 rfl ?_
      cases eb6
      exact r_weak (L' := [some (vr (some 13)), some (vi (z1.1 + (1 : Int32)))]) ⟨rfl, rfl, trivial⟩ hx5
  exact r_weak (L' := [some (vr (some 13)), some (vi (0 : Int32))]) ⟨rfl, rfl, trivial⟩ J3w
def m_X3_countLikings_b4 (mm : Mm) (z1 : Int32 × Int32) : Option ((Int32 × Int32) ⊕ (Int32)) := if (mI mm 14 0) ≤ z1.2 then (some (.inr z1.1)) else (grd z1.2 6 (some (.inl (z1.1 + (m_J6_bitCount_0f7a4 (mI mm 17 (ix z1.2))), z1.2 + (1 : Int32)))))
def m_X3_countLikings (mm : Mm) : Option (Int32) := (whileF FU (m_X3_countLikings_b4 mm) ((0 : Int32), (0 : Int32))).bind (fun p2 => some p2)
set_option maxHeartbeats 4000000 in
set_option maxRecDepth 100000 in
theorem c_X3_countLikings {l : Launch} {G : Gt} {S : Sk} {mm : Mm} (hS : Lay S) {q : Int32} (e : m_X3_countLikings mm = some q) : CallOK l G M_X3_countLikings yX3_countLikings 1 [vr (some 13)] S mm (some (vi q)) S mm := by
  refine call_of_run rfl rfl rfl (Nat.le_of_ble_eq_true rfl) ?_
  show Run l G M_X3_countLikings 1 0 [some (vr (some 13)), none, none] [] S mm (some (vi q)) S mm
  unfold m_X3_countLikings at e
  refine r_iconst (v := 0) dX3_countLikings_0 ci_0 ?_
  refine r_istore_n dX3_countLikings_1 (by decide) rfl ?_
  refine r_iconst (v := 0) dX3_countLikings_2 ci_0 ?_
  refine r_istore_n dX3_countLikings_3 (by decide) rfl ?_
  obtain ⟨p2, eb6w, e⟩ := obind e
  have J3a : Run l G M_X3_countLikings 1 36 [none, some (vi p2), none] [] S mm (some (vi q)) S mm := by
    refine r_iload_n dX3_countLikings_36 rfl ?_
    cases e
    exact r_ireturn dX3_countLikings_37 rfl rfl
  have J3 : ∀ pp : Int32, pp = p2 → Run l G M_X3_countLikings 1 36 [none, some (vi pp), none] [] S mm (some (vi q)) S mm := by
    intro pp hpp
    rw [hpp]
    exact J3a
  have J3w : Run l G M_X3_countLikings 1 4 [some (vr (some 13)), some (vi (0 : Int32)), some (vi (0 : Int32))] [] S mm (some (vi q)) S mm := by
    refine while_run (s := ((0 : Int32), (0 : Int32))) (Gs := fun (z1 : Int32 × Int32) => Run l G M_X3_countLikings 1 4 [some (vr (some 13)), some (vi z1.1), some (vi z1.2)] [] S mm (some (vi q)) S mm) eb6w ?_
    intro z1 x4y eb6 hx5
    unfold m_X3_countLikings_b4 at eb6
    refine r_iload_n dX3_countLikings_4 rfl ?_
    refine r_aload_n dX3_countLikings_5 rfl ?_
    refine r_getR dX3_countLikings_6 fl_X3_12 rfl (lp_13 hS) (lq_13 hS) (lr_13_0 hS) ?_
    refine r_getI dX3_countLikings_9 fl_X3_70 rfl (lp_14 hS) (lq_14 hS) ?_
    refine r_icmp_ge (tgt := 36) dX3_countLikings_12 rfl (fun h7 => ?_) (fun h7 => ?_)
    · replace eb6 := ite_t h7 eb6
      cases eb6
      exact r_weak (L' := [none, some (vi z1.1), none]) ⟨rfl, trivial⟩ (J3 _ hx5)
    · replace eb6 := ite_f h7 eb6
      refine r_iload_n dX3_countLikings_15 rfl ?_
      refine r_aload_n dX3_countLikings_16 rfl ?_
      refine r_getR dX3_countLikings_17 fl_X3_12 rfl (lp_13 hS) (lq_13 hS) (lr_13_0 hS) ?_
      refine r_getR dX3_countLikings_20 fl_X3_122 rfl (lp_14 hS) (lq_14 hS) (lr_14_4 hS) ?_
      refine r_iload_n dX3_countLikings_23 rfl ?_
      obtain ⟨hg8, eb6⟩ := grd_some eb6
      refine r_iald dX3_countLikings_24 (lp_17 hS) (lk_17 hS) hg8 ?_
      refine r_callS (as := [_]) (rest := [_]) dX3_countLikings_25 ml_X3_98 yS_J6_bitCount_0f7a4 (c_J6_bitCount_0f7a4) (by decide) rfl (Nat.le_of_ble_eq_true rfl) ?_
      refine r_iadd dX3_countLikings_28 ?_
      refine r_istore_n dX3_countLikings_29 (by decide) rfl ?_
      refine r_iinc (v := _ + (1 : Int32)) dX3_countLikings_30 rfl (congrArg (_ + ·) ci_1) (by decide) rfl ?_
      refine r_goto (tgt := 4) dX3_countLikings_33 rfl ?_
      cases eb6
      exact r_weak (L' := [some (vr (some 13)), some (vi (z1.1 + (m_J6_bitCount_0f7a4 (mI mm 17 (ix z1.2))))), some (vi (z1.2 + (1 : Int32)))]) ⟨rfl, rfl, rfl, trivial⟩ hx5
  exact r_weak (L' := [some (vr (some 13)), some (vi (0 : Int32)), some (vi (0 : Int32))]) ⟨rfl, rfl, rfl, trivial⟩ J3w
def m_X3_tellAfter (S : Sk) (a1 : Int32) (mm : Mm) : Option (Int32 × Mm) := if a1 = (0 : Int32) then (some (mI mm 13 5, mm)) else (if a1 = (1 : Int32) then ((m_X3_mostVisited S mm).bind (fun q3 => some (q3.1, q3.2))) else (if a1 = (2 : Int32) then (some (mI mm 13 6, mm)) else (if a1 = (3 : Int32) then ((m_X3_countLikings mm).bind (fun q7 => some (q7, mm))) else (if a1 = (4 : Int32) then (some (mI mm 13 8, mm)) else (some ((-2 : Int32), mm))))))
set_option maxHeartbeats 4000000 in
set_option maxRecDepth 100000 in
theorem c_X3_tellAfter {l : Launch} {G : Gt} {S : Sk} {a1 : Int32} {mm : Mm} (hS : Lay S) {q : Int32 × Mm} (e : m_X3_tellAfter S a1 mm = some q) : CallOK l G M_X3_tellAfter yX3_tellAfter 2 [vr (some 13), vi a1] S mm (some (vi q.1)) S q.2 := by
  refine call_of_run rfl rfl rfl (Nat.le_of_ble_eq_true rfl) ?_
  show Run l G M_X3_tellAfter 2 0 [some (vr (some 13)), some (vi a1)] [] S mm (some (vi q.1)) S q.2
  unfold m_X3_tellAfter at e
  refine r_iload_n dX3_tellAfter_0 rfl ?_
  by_cases h1 : a1 = (0 : Int32)
  · replace e := ite_t h1 e
    refine r_table_in (tgt := 36) dX3_tellAfter_1 (by rw [h1]; decide) (by rw [h1]; decide) (by rw [h1]; rfl) rfl ?_
    refine r_aload_n dX3_tellAfter_36 rfl ?_
    refine r_getI dX3_tellAfter_37 fl_X3_31 rfl (lp_13 hS) (lq_13 hS) ?_
    cases e
    exact r_ireturn dX3_tellAfter_40 rfl rfl
  replace e := ite_f h1 e
  by_cases h2 : a1 = (1 : Int32)
  · replace e := ite_t h2 e
    refine r_table_in (tgt := 41) dX3_tellAfter_1 (by rw [h2]; decide) (by rw [h2]; decide) (by rw [h2]; rfl) rfl ?_
    refine r_aload_n dX3_tellAfter_41 rfl ?_
    obtain ⟨q3, eq4, e⟩ := obind e
    refine r_callV (as := []) (rest := []) dX3_tellAfter_42 ml_X3_152 yV_X3_mostVisited (c_X3_mostVisited hS eq4) (by decide) rfl (lp_13 hS) (lq_13 hS) (Nat.le_of_ble_eq_true rfl) ?_
    cases e
    exact r_ireturn dX3_tellAfter_45 rfl rfl
  replace e := ite_f h2 e
  by_cases h5 : a1 = (2 : Int32)
  · replace e := ite_t h5 e
    refine r_table_in (tgt := 46) dX3_tellAfter_1 (by rw [h5]; decide) (by rw [h5]; decide) (by rw [h5]; rfl) rfl ?_
    refine r_aload_n dX3_tellAfter_46 rfl ?_
    refine r_getI dX3_tellAfter_47 fl_X3_34 rfl (lp_13 hS) (lq_13 hS) ?_
    cases e
    exact r_ireturn dX3_tellAfter_50 rfl rfl
  replace e := ite_f h5 e
  by_cases h6 : a1 = (3 : Int32)
  · replace e := ite_t h6 e
    refine r_table_in (tgt := 51) dX3_tellAfter_1 (by rw [h6]; decide) (by rw [h6]; decide) (by rw [h6]; rfl) rfl ?_
    refine r_aload_n dX3_tellAfter_51 rfl ?_
    obtain ⟨q7, eq8, e⟩ := obind e
    refine r_callV (as := []) (rest := []) dX3_tellAfter_52 ml_X3_156 yV_X3_countLikings (c_X3_countLikings hS eq8) (by decide) rfl (lp_13 hS) (lq_13 hS) (Nat.le_of_ble_eq_true rfl) ?_
    cases e
    exact r_ireturn dX3_tellAfter_55 rfl rfl
  replace e := ite_f h6 e
  by_cases h9 : a1 = (4 : Int32)
  · replace e := ite_t h9 e
    refine r_table_in (tgt := 56) dX3_tellAfter_1 (by rw [h9]; decide) (by rw [h9]; decide) (by rw [h9]; rfl) rfl ?_
    refine r_aload_n dX3_tellAfter_56 rfl ?_
    refine r_getI dX3_tellAfter_57 fl_X3_40 rfl (lp_13 hS) (lq_13 hS) ?_
    cases e
    exact r_ireturn dX3_tellAfter_60 rfl rfl
  replace e := ite_f h9 e
  have ho1 : (a1).toInt < 0 ∨ 4 < (a1).toInt := by
    have nh1 := lv_neT (a := 0) h1 (by decide)
    have nh2 := lv_neT (a := 1) h2 (by decide)
    have nh5 := lv_neT (a := 2) h5 (by decide)
    have nh6 := lv_neT (a := 3) h6 (by decide)
    have nh9 := lv_neT (a := 4) h9 (by decide)
    omega
  refine r_table_out (tgt := 61) dX3_tellAfter_1 ho1 rfl ?_
  refine r_bipush (v := -2) dX3_tellAfter_61 cb_m2 ?_
  cases e
  exact r_ireturn dX3_tellAfter_63 rfl rfl
def m_X4_init (S : Sk) (a0 : Nat) (mm : Mm) : Option (Sk × Mm) := some ((sRs (nwS (sRs (nwS (sRs (nwS S 20 50 50) a0 1 (some S.1)) 20 50 50) a0 2 (some ((sRs (nwS S 20 50 50) a0 1 (some S.1)).1))) 20 50 50) a0 3 (some ((sRs (nwS (sRs (nwS S 20 50 50) a0 1 (some S.1)) 20 50 50) a0 2 (some ((sRs (nwS S 20 50 50) a0 1 (some S.1)).1))).1))), (nwM (sRs (nwS (sRs (nwS S 20 50 50) a0 1 (some S.1)) 20 50 50) a0 2 (some ((sRs (nwS S 20 50 50) a0 1 (some S.1)).1))) (nwM (sRs (nwS S 20 50 50) a0 1 (some S.1)) (nwM S (sI mm a0 0 (0 : Int32))))))
set_option maxHeartbeats 4000000 in
set_option maxRecDepth 100000 in
theorem c_X4_init {l : Launch} {G : Gt} {S : Sk} {a0 : Nat} {mm : Mm} (ha0 : KD S a0 4) {q : Sk × Mm} (e : m_X4_init S a0 mm = some q) : CallOK l G M_X4_init yX4_init 1 [vr (some a0)] S mm (none) q.1 q.2 := by
  refine call_of_run rfl rfl rfl (Nat.le_of_ble_eq_true rfl) ?_
  show Run l G M_X4_init 1 0 [some (vr (some a0))] [] S mm (none) q.1 q.2
  unfold m_X4_init at e
  refine r_aload_n dX4_init_0 rfl ?_
  refine r_objInit (rest := []) dX4_init_1 oi_X4_3 oi_i oi_c (by decide) (Nat.le_of_ble_eq_true rfl) ?_
  refine r_aload_n dX4_init_4 rfl ?_
  refine r_iconst (v := 0) dX4_init_5 ci_0 ?_
  refine r_putI dX4_init_6 fl_X4_9 ft_4_0 (Or.inl rfl) rfl rfl rfl ha0.1 ha0.2 ?_
  refine r_aload_n dX4_init_9 rfl ?_
  refine r_bipush (v := 50) dX4_init_10 cb_50 ?_
  refine r_newa (t := 20) dX4_init_12 rfl (by decide) (by decide) aw_20 (by decide) (N := 50) (by decide) (by decide) ?_
  have hn1 := kd_nw (k := 20) (len := 50) (z := 50) ha0
  have hn2 : AK (nwS S 20 50 50) S.1 20 50 := ak_new
  refine r_putR dX4_init_14 fl_X4_15 ft_4_1 (Or.inr ⟨rfl, fun q hq => by cases hq; rfl⟩) rfl hn1.1 hn1.2 ?_
  refine r_aload_n dX4_init_17 rfl ?_
  refine r_bipush (v := 50) dX4_init_18 cb_50 ?_
  refine r_newa (t := 20) dX4_init_20 rfl (by decide) (by decide) aw_20 (by decide) (N := 50) (by decide) (by decide) ?_
  have hn3 := kd_nw (k := 20) (len := 50) (z := 50) hn1
  have hn4 := ak_nw (k := 20) (len := 50) (z := 50) hn2
  have hn5 : AK (nwS (sRs (nwS S 20 50 50) a0 1 (some S.1)) 20 50 50) (sRs (nwS S 20 50 50) a0 1 (some S.1)).1 20 50 := ak_new
  refine r_putR dX4_init_22 fl_X4_19 ft_4_2 (Or.inr ⟨rfl, fun q hq => by cases hq; rfl⟩) rfl hn3.1 hn3.2 ?_
  refine r_aload_n dX4_init_25 rfl ?_
  refine r_bipush (v := 50) dX4_init_26 cb_50 ?_
  refine r_newa (t := 20) dX4_init_28 rfl (by decide) (by decide) aw_20 (by decide) (N := 50) (by decide) (by decide) ?_
  have hn6 := kd_nw (k := 20) (len := 50) (z := 50) hn3
  have hn7 := ak_nw (k := 20) (len := 50) (z := 50) hn4
  have hn8 := ak_nw (k := 20) (len := 50) (z := 50) hn5
  have hn9 : AK (nwS (sRs (nwS (sRs (nwS S 20 50 50) a0 1 (some S.1)) 20 50 50) a0 2 (some ((sRs (nwS S 20 50 50) a0 1 (some S.1)).1))) 20 50 50) (sRs (nwS (sRs (nwS S 20 50 50) a0 1 (some S.1)) 20 50 50) a0 2 (some ((sRs (nwS S 20 50 50) a0 1 (some S.1)).1))).1 20 50 := ak_new
  refine r_putR dX4_init_30 fl_X4_22 ft_4_3 (Or.inr ⟨rfl, fun q hq => by cases hq; rfl⟩) rfl hn6.1 hn6.2 ?_
  cases e
  exact r_return dX4_init_33 rfl
def m_X4_othersAreSo_b2 (a1 : Nat) (a2 : Int32) (mm : Mm) (S : Sk) (z1 : Int32) : Option ((Int32) ⊕ ((Unit) ⊕ (Int32))) := if (mI mm a1 1) ≤ z1 then (some (.inr (.inl ()))) else ((m_X6_cell S a1 z1 (1 : Int32) mm).bind (fun q8 => if (m_X7_isThere q8 mm) = 0 then (some (.inr (.inr (0 : Int32)))) else ((m_X7_keptBy q8 mm).bind (fun q11 => (m_X6_cell S a1 z1 (2 : Int32) mm).bind (fun q13 => bS (if q8 = a2 then (some (.inl ())) else ((m_X6_cell S a1 z1 (0 : Int32) mm).bind (fun q20 => if (m_X11_has q11 q13) = (if q20 = (1 : Int32) then (1 : Int32) else (0 : Int32)) then (some (.inl ())) else (some (.inr (.inr (.inr (0 : Int32))))))) : Option ((Unit) ⊕ ((Int32) ⊕ ((Unit) ⊕ (Int32))))) (fun p15 => some (.inl (z1 + (1 : Int32)))))))))
def m_X4_othersAreSo (S : Sk) (a1 : Nat) (a2 : Int32) (mm : Mm) : Option (Int32) := bS (whileF FU (m_X4_othersAreSo_b2 a1 a2 mm S) (0 : Int32)) (fun p2 => some (1 : Int32))
set_option maxHeartbeats 4000000 in
set_option maxRecDepth 100000 in
theorem c_X4_othersAreSo {l : Launch} {G : Gt} {S : Sk} {a1 : Nat} {a2 : Int32} {mm : Mm} (hI : SI S) (ha1 : KD S a1 6) {q : Int32} (e : m_X4_othersAreSo S a1 a2 mm = some q) : CallOK l G M_X4_othersAreSo yX4_othersAreSo 3 [vr (some 14), vr (some a1), vi a2] S mm (some (vi q)) S mm := by
  have hS := hI.1
  refine call_of_run rfl rfl rfl (Nat.le_of_ble_eq_true rfl) ?_
  show Run l G M_X4_othersAreSo 3 0 [some (vr (some 14)), some (vr (some a1)), some (vi a2), none, none, none] [] S mm (some (vi q)) S mm
  unfold m_X4_othersAreSo at e
  refine r_iconst (v := 0) dX4_othersAreSo_0 ci_0 ?_
  refine r_istore_n dX4_othersAreSo_1 (by decide) rfl ?_
  obtain ⟨x4, eb6w, elx4, erx4⟩ := bS_some e
  have J3 : ∀ p2 : Unit, x4 = .inl p2 → Run l G M_X4_othersAreSo 3 80 [none, none, none, none, none, none] [] S mm (some (vi q)) S mm := by
    intro p2 hp2
    replace e := elx4 p2 hp2
    refine r_iconst (v := 1) dX4_othersAreSo_80 ci_1 ?_
    cases e
    exact r_ireturn dX4_othersAreSo_81 rfl (nz_b (by first | exact Or.inl rfl | exact Or.inr rfl)).1
  have J3w : Run l G M_X4_othersAreSo 3 2 [some (vr (some 14)), some (vr (some a1)), some (vi a2), some (vi (0 : Int32)), none, none] [] S mm (some (vi q)) S mm := by
    refine while_run (s := (0 : Int32)) (Gs := fun (z1 : Int32) => Run l G M_X4_othersAreSo 3 2 [some (vr (some 14)), some (vr (some a1)), some (vi a2), some (vi z1), none, none] [] S mm (some (vi q)) S mm) eb6w ?_
    intro z1 x4y eb6 hx5
    unfold m_X4_othersAreSo_b2 at eb6
    refine r_iload_n dX4_othersAreSo_2 rfl ?_
    refine r_aload_n dX4_othersAreSo_3 rfl ?_
    refine r_getI dX4_othersAreSo_4 fl_X4_47 rfl ha1.1 ha1.2 ?_
    refine r_icmp_ge (tgt := 80) dX4_othersAreSo_7 rfl (fun h7 => ?_) (fun h7 => ?_)
    · replace eb6 := ite_t h7 eb6
      cases eb6
      exact r_weak (L' := [none, none, none, none, none, none]) trivial (J3 _ (Eq.symm hx5))
    · replace eb6 := ite_f h7 eb6
      refine r_aload_n dX4_othersAreSo_10 rfl ?_
      refine r_iload_n dX4_othersAreSo_11 rfl ?_
      refine r_iconst (v := 1) dX4_othersAreSo_12 ci_1 ?_
      obtain ⟨q8, eq9, eb6⟩ := obind eb6
      refine r_callV (as := [_, _]) (rest := []) dX4_othersAreSo_13 ml_X4_50 yV_X6_cell (c_X6_cell hI ha1 eq9) (by decide) rfl ha1.1 ha1.2 (Nat.le_of_ble_eq_true rfl) ?_
      refine r_istore dX4_othersAreSo_16 (by decide) rfl ?_
      refine r_aload_n dX4_othersAreSo_18 rfl ?_
      refine r_iload dX4_othersAreSo_19 rfl ?_
      refine r_callV (as := [_]) (rest := []) dX4_othersAreSo_21 ml_X4_53 yV_X7_isThere (c_X7_isThere hS) (by decide) rfl (lp_14 hS) (lq_14 hS) (Nat.le_of_ble_eq_true rfl) ?_
      refine r_if_ne (tgt := 29) dX4_othersAreSo_24 rfl (fun h10 => ?_) (fun h10 => ?_)
      · replace eb6 := ite_f h10 eb6
        refine r_aload_n dX4_othersAreSo_29 rfl ?_
        refine r_iload dX4_othersAreSo_30 rfl ?_
        obtain ⟨q11, eq12, eb6⟩ := obind eb6
        refine r_callV (as := [_]) (rest := []) dX4_othersAreSo_32 ml_X4_57 yV_X7_keptBy (c_X7_keptBy hS eq12) (by decide) rfl (lp_14 hS) (lq_14 hS) (Nat.le_of_ble_eq_true rfl) ?_
        refine r_aload_n dX4_othersAreSo_35 rfl ?_
        refine r_iload_n dX4_othersAreSo_36 rfl ?_
        refine r_iconst (v := 2) dX4_othersAreSo_37 ci_2 ?_
        obtain ⟨q13, eq14, eb6⟩ := obind eb6
        refine r_callV (as := [_, _]) (rest := [_]) dX4_othersAreSo_38 ml_X4_50 yV_X6_cell (c_X6_cell hI ha1 eq14) (by decide) rfl ha1.1 ha1.2 (Nat.le_of_ble_eq_true rfl) ?_
        refine r_callSN (as := [_, _]) (rest := []) dX4_othersAreSo_41 nl_X4_61 yS_X11_has (c_X11_has) (by decide) rfl (Nat.le_of_ble_eq_true rfl) ?_
        refine r_istore dX4_othersAreSo_44 (by decide) rfl ?_
        refine r_iload dX4_othersAreSo_46 rfl ?_
        refine r_iload_n dX4_othersAreSo_48 rfl ?_
        obtain ⟨x18, ep17, elx18, erx18⟩ := bS_some eb6
        have J16 : ∀ p15 : Unit, x18 = .inl p15 → Run l G M_X4_othersAreSo 3 74 [some (vr (some 14)), some (vr (some a1)), some (vi a2), some (vi z1), none, none] [] S mm (some (vi q)) S mm := by
          intro p15 hp15
          replace eb6 := elx18 p15 hp15
          refine r_iinc (v := _ + (1 : Int32)) dX4_othersAreSo_74 rfl (congrArg (_ + ·) ci_1) (by decide) rfl ?_
          refine r_goto (tgt := 2) dX4_othersAreSo_77 rfl ?_
          cases eb6
          exact r_weak (L' := [some (vr (some 14)), some (vr (some a1)), some (vi a2), some (vi (z1 + (1 : Int32))), none, none]) ⟨rfl, rfl, rfl, rfl, trivial⟩ hx5
        refine r_icmp_eq (tgt := 74) dX4_othersAreSo_49 rfl (fun h19 => ?_) (fun h19 => ?_)
        · replace ep17 := ite_t h19 ep17
          cases ep17
          exact r_weak (L' := [some (vr (some 14)), some (vr (some a1)), some (vi a2), some (vi z1), none, none]) ⟨rfl, rfl, rfl, rfl, trivial⟩ (J16 _ rfl)
        · replace ep17 := ite_f h19 ep17
          refine r_iload dX4_othersAreSo_52 rfl ?_
          refine r_aload_n dX4_othersAreSo_54 rfl ?_
          refine r_iload_n dX4_othersAreSo_55 rfl ?_
          refine r_iconst (v := 0) dX4_othersAreSo_56 ci_0 ?_
          obtain ⟨q20, eq21, ep17⟩ := obind ep17
          refine r_callV (as := [_, _]) (rest := [_]) dX4_othersAreSo_57 ml_X4_50 yV_X6_cell (c_X6_cell hI ha1 eq21) (by decide) rfl ha1.1 ha1.2 (Nat.le_of_ble_eq_true rfl) ?_
          refine r_iconst (v := 1) dX4_othersAreSo_60 ci_1 ?_
          have J24 : ∀ (w23 : Int32), w23 = (if q20 = (1 : Int32) then (1 : Int32) else (0 : Int32)) → Run l G M_X4_othersAreSo 3 69 [some (vr (some 14)), some (vr (some a1)), some (vi a2), some (vi z1), none, none] [vi w23, vi (m_X11_has q11 q13)] S mm (some (vi q)) S mm := by
            intro w23 hw26
            subst hw26
            refine r_icmp_eq (tgt := 74) dX4_othersAreSo_69 rfl (fun h25 => ?_) (fun h25 => ?_)
            · replace ep17 := ite_t h25 ep17
              cases ep17
              exact r_weak (L' := [some (vr (some 14)), some (vr (some a1)), some (vi a2), some (vi z1), none, none]) ⟨rfl, rfl, rfl, rfl, trivial⟩ (J16 _ rfl)
            · replace ep17 := ite_f h25 ep17
              refine r_iconst (v := 0) dX4_othersAreSo_72 ci_0 ?_
              cases ep17
              have eb6 := congrArg some (erx18 _ rfl)
              cases eb6
              have e := congrArg some (erx4 _ (Eq.symm hx5))
              cases e
              exact r_ireturn dX4_othersAreSo_73 rfl (nz_b (by first | exact Or.inl rfl | exact Or.inr rfl)).1
          refine r_icmp_ne (tgt := 68) dX4_othersAreSo_61 rfl (fun h22 => ?_) (fun h22 => ?_)
          · refine r_iconst (v := 0) dX4_othersAreSo_68 ci_0 ?_
            exact r_weak (L' := [some (vr (some 14)), some (vr (some a1)), some (vi a2), some (vi z1), none, none]) ⟨rfl, rfl, rfl, rfl, trivial⟩ (J24 _ (Eq.symm (if_neg h22)))
          · refine r_iconst (v := 1) dX4_othersAreSo_64 ci_1 ?_
            refine r_goto (tgt := 69) dX4_othersAreSo_65 rfl ?_
            exact r_weak (L' := [some (vr (some 14)), some (vr (some a1)), some (vi a2), some (vi z1), none, none]) ⟨rfl, rfl, rfl, rfl, trivial⟩ (J24 _ (Eq.symm (if_pos h22)))
      · replace eb6 := ite_t h10 eb6
        refine r_iconst (v := 0) dX4_othersAreSo_27 ci_0 ?_
        cases eb6
        have e := congrArg some (erx4 _ (Eq.symm hx5))
        cases e
        exact r_ireturn dX4_othersAreSo_28 rfl (nz_b (by first | exact Or.inl rfl | exact Or.inr rfl)).1
  exact r_weak (L' := [some (vr (some 14)), some (vr (some a1)), some (vi a2), some (vi (0 : Int32)), none, none]) ⟨rfl, rfl, rfl, rfl, trivial⟩ J3w
def m_X4_thingsTold_b5 (a0 : Nat) (a1 : Int32) (a2 : Int32) (mm : Mm) (S : Sk) (z1 : Int32 × Int32) : Option ((Int32 × Int32) ⊕ (Int32)) := if (mI mm a0 1) ≤ z1.2 then (some (.inr z1.1)) else ((m_X6_cell S a0 z1.2 (0 : Int32) mm).bind (fun q8 => (if q8 = a2 then ((m_X6_cell S a0 z1.2 (1 : Int32) mm).bind (fun q15 => if q15 = a1 then ((m_X6_cell S a0 z1.2 (2 : Int32) mm).bind (fun q18 => some (z1.1 ||| (xshl (1 : Int32) q18)))) else (some z1.1))) else (some z1.1) : Option (Int32)).bind (fun p10 => some (.inl (p10, z1.2 + (1 : Int32))))))
def m_X4_thingsTold (S : Sk) (a0 : Nat) (a1 : Int32) (a2 : Int32) (mm : Mm) : Option (Int32) := (whileF FU (m_X4_thingsTold_b5 a0 a1 a2 mm S) ((0 : Int32), (0 : Int32))).bind (fun p2 => some p2)
set_option maxHeartbeats 4000000 in
set_option maxRecDepth 100000 in
theorem c_X4_thingsTold {l : Launch} {G : Gt} {S : Sk} {a0 : Nat} {a1 : Int32} {a2 : Int32} {mm : Mm} (hI : SI S) (ha0 : KD S a0 6) {q : Int32} (e : m_X4_thingsTold S a0 a1 a2 mm = some q) : CallOK l G M_X4_thingsTold yX4_thingsTold 1 [vr (some a0), vi a1, vi a2] S mm (some (vi q)) S mm := by
  have hS := hI.1
  refine call_of_run rfl rfl rfl (Nat.le_of_ble_eq_true rfl) ?_
  show Run l G M_X4_thingsTold 1 0 [some (vr (some a0)), some (vi a1), some (vi a2), none, none] [] S mm (some (vi q)) S mm
  unfold m_X4_thingsTold at e
  refine r_iconst (v := 0) dX4_thingsTold_0 ci_0 ?_
  refine r_istore_n dX4_thingsTold_1 (by decide) rfl ?_
  refine r_iconst (v := 0) dX4_thingsTold_2 ci_0 ?_
  refine r_istore dX4_thingsTold_3 (by decide) rfl ?_
  obtain ⟨p2, eb6w, e⟩ := obind e
  have J3a : Run l G M_X4_thingsTold 1 54 [none, none, none, some (vi p2), none] [] S mm (some (vi q)) S mm := by
    refine r_iload_n dX4_thingsTold_54 rfl ?_
    cases e
    exact r_ireturn dX4_thingsTold_55 rfl rfl
  have J3 : ∀ pp : Int32, pp = p2 → Run l G M_X4_thingsTold 1 54 [none, none, none, some (vi pp), none] [] S mm (some (vi q)) S mm := by
    intro pp hpp
    rw [hpp]
    exact J3a
  have J3w : Run l G M_X4_thingsTold 1 5 [some (vr (some a0)), some (vi a1), some (vi a2), some (vi (0 : Int32)), some (vi (0 : Int32))] [] S mm (some (vi q)) S mm := by
    refine while_run (s := ((0 : Int32), (0 : Int32))) (Gs := fun (z1 : Int32 × Int32) => Run l G M_X4_thingsTold 1 5 [some (vr (some a0)), some (vi a1), some (vi a2), some (vi z1.1), some (vi z1.2)] [] S mm (some (vi q)) S mm) eb6w ?_
    intro z1 x4y eb6 hx5
    unfold m_X4_thingsTold_b5 at eb6
    refine r_iload dX4_thingsTold_5 rfl ?_
    refine r_aload_n dX4_thingsTold_7 rfl ?_
    refine r_getI dX4_thingsTold_8 fl_X4_47 rfl ha0.1 ha0.2 ?_
    refine r_icmp_ge (tgt := 54) dX4_thingsTold_11 rfl (fun h7 => ?_) (fun h7 => ?_)
    · replace eb6 := ite_t h7 eb6
      cases eb6
      exact r_weak (L' := [none, none, none, some (vi z1.1), none]) ⟨rfl, trivial⟩ (J3 _ hx5)
    · replace eb6 := ite_f h7 eb6
      refine r_aload_n dX4_thingsTold_14 rfl ?_
      refine r_iload dX4_thingsTold_15 rfl ?_
      refine r_iconst (v := 0) dX4_thingsTold_17 ci_0 ?_
      obtain ⟨q8, eq9, eb6⟩ := obind eb6
      refine r_callV (as := [_, _]) (rest := []) dX4_thingsTold_18 ml_X4_50 yV_X6_cell (c_X6_cell hI ha0 eq9) (by decide) rfl ha0.1 ha0.2 (Nat.le_of_ble_eq_true rfl) ?_
      refine r_iload_n dX4_thingsTold_21 rfl ?_
      obtain ⟨p10, ep12, eb6⟩ := obind eb6
      have J11a : Run l G M_X4_thingsTold 1 48 [some (vr (some a0)), some (vi a1), some (vi a2), some (vi p10), some (vi z1.2)] [] S mm (some (vi q)) S mm := by
        refine r_iinc (v := _ + (1 : Int32)) dX4_thingsTold_48 rfl (congrArg (_ + ·) ci_1) (by decide) rfl ?_
        refine r_goto (tgt := 5) dX4_thingsTold_51 rfl ?_
        cases eb6
        exact r_weak (L' := [some (vr (some a0)), some (vi a1), some (vi a2), some (vi p10), some (vi (z1.2 + (1 : Int32)))]) ⟨rfl, rfl, rfl, rfl, rfl, trivial⟩ hx5
      have J11 : ∀ pp : Int32, pp = p10 → Run l G M_X4_thingsTold 1 48 [some (vr (some a0)), some (vi a1), some (vi a2), some (vi pp), some (vi z1.2)] [] S mm (some (vi q)) S mm := by
        intro pp hpp
        rw [hpp]
        exact J11a
      refine r_icmp_ne (tgt := 48) dX4_thingsTold_22 rfl (fun h14 => ?_) (fun h14 => ?_)
      · replace ep12 := ite_f h14 ep12
        exact r_weak (L' := [some (vr (some a0)), some (vi a1), some (vi a2), some (vi z1.1), some (vi z1.2)]) ⟨rfl, rfl, rfl, rfl, rfl, trivial⟩ (J11 _ (Option.some.inj ep12))
      · replace ep12 := ite_t h14 ep12
        refine r_aload_n dX4_thingsTold_25 rfl ?_
        refine r_iload dX4_thingsTold_26 rfl ?_
        refine r_iconst (v := 1) dX4_thingsTold_28 ci_1 ?_
        obtain ⟨q15, eq16, ep12⟩ := obind ep12
        refine r_callV (as := [_, _]) (rest := []) dX4_thingsTold_29 ml_X4_50 yV_X6_cell (c_X6_cell hI ha0 eq16) (by decide) rfl ha0.1 ha0.2 (Nat.le_of_ble_eq_true rfl) ?_
        refine r_iload_n dX4_thingsTold_32 rfl ?_
        refine r_icmp_ne (tgt := 48) dX4_thingsTold_33 rfl (fun h17 => ?_) (fun h17 => ?_)
        · replace ep12 := ite_f h17 ep12
          exact r_weak (L' := [some (vr (some a0)), some (vi a1), some (vi a2), some (vi z1.1), some (vi z1.2)]) ⟨rfl, rfl, rfl, rfl, rfl, trivial⟩ (J11 _ (Option.some.inj ep12))
        · replace ep12 := ite_t h17 ep12
          refine r_iload_n dX4_thingsTold_36 rfl ?_
          refine r_iconst (v := 1) dX4_thingsTold_37 ci_1 ?_
          refine r_aload_n dX4_thingsTold_38 rfl ?_
          refine r_iload dX4_thingsTold_39 rfl ?_
          refine r_iconst (v := 2) dX4_thingsTold_41 ci_2 ?_
          obtain ⟨q18, eq19, ep12⟩ := obind ep12
          refine r_callV (as := [_, _]) (rest := [_, _]) dX4_thingsTold_42 ml_X4_50 yV_X6_cell (c_X6_cell hI ha0 eq19) (by decide) rfl ha0.1 ha0.2 (Nat.le_of_ble_eq_true rfl) ?_
          refine r_ishl dX4_thingsTold_45 ?_
          refine r_ior dX4_thingsTold_46 ?_
          refine r_istore_n dX4_thingsTold_47 (by decide) rfl ?_
          exact r_weak (L' := [some (vr (some a0)), some (vi a1), some (vi a2), some (vi (z1.1 ||| (xshl (1 : Int32) q18))), some (vi z1.2)]) ⟨rfl, rfl, rfl, rfl, rfl, trivial⟩ (J11 _ (Option.some.inj ep12))
  exact r_weak (L' := [some (vr (some a0)), some (vi a1), some (vi a2), some (vi (0 : Int32)), some (vi (0 : Int32))]) ⟨rfl, rfl, rfl, rfl, rfl, trivial⟩ J3w
def m_X4_add (a1 : Int32) (a2 : Int32) (a3 : Int32) (mm : Mm) : Option (Mm) := if (50 : Int32) ≤ (mI mm 40 0) then (some mm) else (grd (mI mm 40 0) 50 (grd (mI (sI mm 41 (ix (mI mm 40 0)) a1) 40 0) 50 (grd (mI (sI (sI mm 41 (ix (mI mm 40 0)) a1) 42 (ix (mI (sI mm 41 (ix (mI mm 40 0)) a1) 40 0)) a2) 40 0) 50 (some (sI (sI (sI (sI mm 41 (ix (mI mm 40 0)) a1) 42 (ix (mI (sI mm 41 (ix (mI mm 40 0)) a1) 40 0)) a2) 43 (ix (mI (sI (sI mm 41 (ix (mI mm 40 0)) a1) 42 (ix (mI (sI mm 41 (ix (mI mm 40 0)) a1) 40 0)) a2) 40 0)) a3) 40 0 ((mI (sI (sI (sI mm 41 (ix (mI mm 40 0)) a1) 42 (ix (mI (sI mm 41 (ix (mI mm 40 0)) a1) 40 0)) a2) 43 (ix (mI (sI (sI mm 41 (ix (mI mm 40 0)) a1) 42 (ix (mI (sI mm 41 (ix (mI mm 40 0)) a1) 40 0)) a2) 40 0)) a3) 40 0) + (1 : Int32)))))))
set_option maxHeartbeats 4000000 in
set_option maxRecDepth 100000 in
theorem c_X4_add {l : Launch} {G : Gt} {S : Sk} {a1 : Int32} {a2 : Int32} {a3 : Int32} {mm : Mm} (hS : Lay S) {q : Mm} (e : m_X4_add a1 a2 a3 mm = some q) : CallOK l G M_X4_add yX4_add 0 [vr (some 40), vi a1, vi a2, vi a3] S mm (none) S q := by
  refine call_of_run rfl rfl rfl (Nat.le_of_ble_eq_true rfl) ?_
  show Run l G M_X4_add 0 0 [some (vr (some 40)), some (vi a1), some (vi a2), some (vi a3)] [] S mm (none) S q
  unfold m_X4_add at e
  refine r_aload_n dX4_add_0 rfl ?_
  refine r_getI dX4_add_1 fl_X4_9 rfl (lp_40 hS) (lq_40 hS) ?_
  refine r_bipush (v := 50) dX4_add_4 cb_50 ?_
  refine r_icmp_ge (tgt := 49) dX4_add_6 rfl (fun h1 => ?_) (fun h1 => ?_)
  · replace e := ite_t h1 e
    cases e
    exact r_return dX4_add_49 rfl
  · replace e := ite_f h1 e
    refine r_aload_n dX4_add_9 rfl ?_
    refine r_getR dX4_add_10 fl_X4_15 rfl (lp_40 hS) (lq_40 hS) (lr_40_1 hS) ?_
    refine r_aload_n dX4_add_13 rfl ?_
    refine r_getI dX4_add_14 fl_X4_9 rfl (lp_40 hS) (lq_40 hS) ?_
    refine r_iload_n dX4_add_17 rfl ?_
    obtain ⟨hg2, e⟩ := grd_some e
    refine r_iast dX4_add_18 (lp_41 hS) (lk_41 hS) hg2 ?_
    refine r_aload_n dX4_add_19 rfl ?_
    refine r_getR dX4_add_20 fl_X4_19 rfl (lp_40 hS) (lq_40 hS) (lr_40_2 hS) ?_
    refine r_aload_n dX4_add_23 rfl ?_
    refine r_getI dX4_add_24 fl_X4_9 rfl (lp_40 hS) (lq_40 hS) ?_
    refine r_iload_n dX4_add_27 rfl ?_
    obtain ⟨hg3, e⟩ := grd_some e
    refine r_iast dX4_add_28 (lp_42 hS) (lk_42 hS) hg3 ?_
    refine r_aload_n dX4_add_29 rfl ?_
    refine r_getR dX4_add_30 fl_X4_22 rfl (lp_40 hS) (lq_40 hS) (lr_40_3 hS) ?_
    refine r_aload_n dX4_add_33 rfl ?_
    refine r_getI dX4_add_34 fl_X4_9 rfl (lp_40 hS) (lq_40 hS) ?_
    refine r_iload_n dX4_add_37 rfl ?_
    obtain ⟨hg4, e⟩ := grd_some e
    refine r_iast dX4_add_38 (lp_43 hS) (lk_43 hS) hg4 ?_
    refine r_aload_n dX4_add_39 rfl ?_
    refine r_dup dX4_add_40 rfl ?_
    refine r_getI dX4_add_41 fl_X4_9 rfl (lp_40 hS) (lq_40 hS) ?_
    refine r_iconst (v := 1) dX4_add_44 ci_1 ?_
    refine r_iadd dX4_add_45 ?_
    refine r_putI dX4_add_46 fl_X4_9 ft_4_0 (Or.inl rfl) rfl rfl rfl (lp_40 hS) (lq_40 hS) ?_
    cases e
    exact r_return dX4_add_49 rfl
def m_X4_learn_b60 (q4 : Int32) (q6 : Int32) (z8 : Int32 × Mm) (q16 : Int32) (z18 : Int32 × Mm) : Option ((Int32 × Mm) ⊕ (Mm)) := if (4 : Int32) < z18.1 then (some (.inr z18.2)) else ((m_X7_keptOf q16 z18.1 z18.2).bind (fun q25 => (if (q4 &&& (q25 ^^^ (-1 : Int32))) = 0 then (if (q6 &&& q25) = 0 then ((m_X4_add z8.1 z18.1 q25 z18.2).bind (fun q33 => some q33)) else (some z18.2)) else (some z18.2) : Option (Mm)).bind (fun p27 => some (.inl (z18.1 + (1 : Int32), p27)))))
def m_X4_learn_b34 (a3 : Int32) (q4 : Int32) (q6 : Int32) (z8 : Int32 × Mm) : Option ((Int32 × Mm) ⊕ (Mm)) := if (9 : Int32) < z8.1 then (some (.inr z8.2)) else (grd a3 6 ((m_X7_openTo a3 (0 : Int32) (sI z8.2 15 (ix a3) z8.1)).bind (fun q16 => (whileF FU (m_X4_learn_b60 q4 q6 z8 q16) ((0 : Int32), (sI z8.2 15 (ix a3) z8.1))).bind (fun p19 => some (.inl (z8.1 + (1 : Int32), p19))))))
def m_X4_learn (S : Sk) (a2 : Nat) (a3 : Int32) (mm : Mm) : Option (Mm) := (m_X4_othersAreSo S a2 a3 (sI mm 40 0 (0 : Int32))).bind (fun q1 => if q1 = 0 then (some (sI mm 40 0 (0 : Int32))) else ((m_X4_thingsTold S a2 a3 (1 : Int32) (sI mm 40 0 (0 : Int32))).bind (fun q4 => (m_X4_thingsTold S a2 a3 (0 : Int32) (sI mm 40 0 (0 : Int32))).bind (fun q6 => (whileF FU (m_X4_learn_b34 a3 q4 q6) ((0 : Int32), (sI mm 40 0 (0 : Int32)))).bind (fun p9 => some p9)))))
set_option maxHeartbeats 4000000 in
set_option maxRecDepth 100000 in
theorem c_X4_learn {l : Launch} {G : Gt} {S : Sk} {a2 : Nat} {a3 : Int32} {mm : Mm} (hI : SI S) (ha2 : KD S a2 6) {q : Mm} (e : m_X4_learn S a2 a3 mm = some q) : CallOK l G M_X4_learn yX4_learn 4 [vr (some 40), vr (some 14), vr (some a2), vi a3] S mm (none) S q := by
  have hS := hI.1
  refine call_of_run rfl rfl rfl (Nat.le_of_ble_eq_true rfl) ?_
  show Run l G M_X4_learn 4 0 [some (vr (some 40)), some (vr (some 14)), some (vr (some a2)), some (vi a3), none, none, none, none, none, none] [] S mm (none) S q
  unfold m_X4_learn at e
  refine r_aload_n dX4_learn_0 rfl ?_
  refine r_iconst (v := 0) dX4_learn_1 ci_0 ?_
  refine r_putI dX4_learn_2 fl_X4_9 ft_4_0 (Or.inl rfl) rfl rfl rfl (lp_40 hS) (lq_40 hS) ?_
  refine r_aload_n dX4_learn_5 rfl ?_
  refine r_aload_n dX4_learn_6 rfl ?_
  refine r_iload_n dX4_learn_7 rfl ?_
  obtain ⟨q1, eq2, e⟩ := obind e
  refine r_callS (as := [_, _, _]) (rest := []) dX4_learn_8 ml_X4_25 yS_X4_othersAreSo (c_X4_othersAreSo hI ha2 eq2) (by decide) rfl (Nat.le_of_ble_eq_true rfl) ?_
  refine r_if_ne (tgt := 15) dX4_learn_11 rfl (fun h3 => ?_) (fun h3 => ?_)
  · replace e := ite_f h3 e
    refine r_aload_n dX4_learn_15 rfl ?_
    refine r_iload_n dX4_learn_16 rfl ?_
    refine r_iconst (v := 1) dX4_learn_17 ci_1 ?_
    obtain ⟨q4, eq5, e⟩ := obind e
    refine r_callS (as := [_, _, _]) (rest := []) dX4_learn_18 ml_X4_29 yS_X4_thingsTold (c_X4_thingsTold hI ha2 eq5) (by decide) rfl (Nat.le_of_ble_eq_true rfl) ?_
    refine r_istore dX4_learn_21 (by decide) rfl ?_
    refine r_aload_n dX4_learn_23 rfl ?_
    refine r_iload_n dX4_learn_24 rfl ?_
    refine r_iconst (v := 0) dX4_learn_25 ci_0 ?_
    obtain ⟨q6, eq7, e⟩ := obind e
    refine r_callS (as := [_, _, _]) (rest := []) dX4_learn_26 ml_X4_29 yS_X4_thingsTold (c_X4_thingsTold hI ha2 eq7) (by decide) rfl (Nat.le_of_ble_eq_true rfl) ?_
    refine r_istore dX4_learn_29 (by decide) rfl ?_
    refine r_iconst (v := 0) dX4_learn_31 ci_0 ?_
    refine r_istore dX4_learn_32 (by decide) rfl ?_
    obtain ⟨p9, eb13w, e⟩ := obind e
    have J10a : Run l G M_X4_learn 4 116 [none, none, none, none, none, none, none, none, none, none] [] S p9 (none) S q := by
      cases e
      exact r_return dX4_learn_116 rfl
    have J10 : ∀ pp : Mm, pp = p9 → Run l G M_X4_learn 4 116 [none, none, none, none, none, none, none, none, none, none] [] S pp (none) S q := by
      intro pp hpp
      rw [hpp]
      exact J10a
    have J10w : Run l G M_X4_learn 4 34 [some (vr (some 40)), some (vr (some 14)), none, some (vi a3), some (vi q4), some (vi q6), some (vi (0 : Int32)), none, none, none] [] S (sI mm 40 0 (0 : Int32)) (none) S q := by
      refine while_run (s := ((0 : Int32), (sI mm 40 0 (0 : Int32)))) (Gs := fun (z8 : Int32 × Mm) => Run l G M_X4_learn 4 34 [some (vr (some 40)), some (vr (some 14)), none, some (vi a3), some (vi q4), some (vi q6), some (vi z8.1), none, none, none] [] S z8.2 (none) S q) eb13w ?_
      intro z8 x11y eb13 hx12
      unfold m_X4_learn_b34 at eb13
      refine r_iload dX4_learn_34 rfl ?_
      refine r_bipush (v := 9) dX4_learn_36 cb_9 ?_
      refine r_icmp_gt (tgt := 116) dX4_learn_38 rfl (fun h14 => ?_) (fun h14 => ?_)
      · replace eb13 := ite_t h14 eb13
        cases eb13
        exact r_weak (L' := [none, none, none, none, none, none, none, none, none, none]) trivial (J10 _ hx12)
      · replace eb13 := ite_f h14 eb13
        refine r_aload_n dX4_learn_41 rfl ?_
        refine r_getR dX4_learn_42 fl_X4_33 rfl (lp_14 hS) (lq_14 hS) (lr_14_2 hS) ?_
        refine r_iload_n dX4_learn_45 rfl ?_
        refine r_iload dX4_learn_46 rfl ?_
        obtain ⟨hg15, eb13⟩ := grd_some eb13
        refine r_iast dX4_learn_48 (lp_15 hS) (lk_15 hS) hg15 ?_
        refine r_aload_n dX4_learn_49 rfl ?_
        refine r_iload_n dX4_learn_50 rfl ?_
        refine r_iconst (v := 0) dX4_learn_51 ci_0 ?_
        obtain ⟨q16, eq17, eb13⟩ := obind eb13
        refine r_callV (as := [_, _]) (rest := []) dX4_learn_52 ml_X4_36 yV_X7_openTo (c_X7_openTo hS eq17) (by decide) rfl (lp_14 hS) (lq_14 hS) (Nat.le_of_ble_eq_true rfl) ?_
        refine r_istore dX4_learn_55 (by decide) rfl ?_
        refine r_iconst (v := 0) dX4_learn_57 ci_0 ?_
        refine r_istore dX4_learn_58 (by decide) rfl ?_
        obtain ⟨p19, eb23w, eb13⟩ := obind eb13
        have J20a : Run l G M_X4_learn 4 110 [some (vr (some 40)), some (vr (some 14)), none, some (vi a3), some (vi q4), some (vi q6), some (vi z8.1), none, none, none] [] S p19 (none) S q := by
          refine r_iinc (v := _ + (1 : Int32)) dX4_learn_110 rfl (congrArg (_ + ·) ci_1) (by decide) rfl ?_
          refine r_goto (tgt := 34) dX4_learn_113 rfl ?_
          cases eb13
          exact r_weak (L' := [some (vr (some 40)), some (vr (some 14)), none, some (vi a3), some (vi q4), some (vi q6), some (vi (z8.1 + (1 : Int32))), none, none, none]) ⟨rfl, rfl, rfl, rfl, rfl, rfl, trivial⟩ hx12
        have J20 : ∀ pp : Mm, pp = p19 → Run l G M_X4_learn 4 110 [some (vr (some 40)), some (vr (some 14)), none, some (vi a3), some (vi q4), some (vi q6), some (vi z8.1), none, none, none] [] S pp (none) S q := by
          intro pp hpp
          rw [hpp]
          exact J20a
        have J20w : Run l G M_X4_learn 4 60 [some (vr (some 40)), some (vr (some 14)), none, some (vi a3), some (vi q4), some (vi q6), some (vi z8.1), some (vi q16), some (vi (0 : Int32)), none] [] S (sI z8.2 15 (ix a3) z8.1) (none) S q := by
          refine while_run (s := ((0 : Int32), (sI z8.2 15 (ix a3) z8.1))) (Gs := fun (z18 : Int32 × Mm) => Run l G M_X4_learn 4 60 [some (vr (some 40)), some (vr (some 14)), none, some (vi a3), some (vi q4), some (vi q6), some (vi z8.1), some (vi q16), some (vi z18.1), none] [] S z18.2 (none) S q) eb23w ?_
          intro z18 x21y eb23 hx22
          unfold m_X4_learn_b60 at eb23
          refine r_iload dX4_learn_60 rfl ?_
          refine r_iconst (v := 4) dX4_learn_62 ci_4 ?_
          refine r_icmp_gt (tgt := 110) dX4_learn_63 rfl (fun h24 => ?_) (fun h24 => ?_)
          · replace eb23 := ite_t h24 eb23
            cases eb23
            exact r_weak (L' := [some (vr (some 40)), some (vr (some 14)), none, some (vi a3), some (vi q4), some (vi q6), some (vi z8.1), none, none, none]) ⟨rfl, rfl, rfl, rfl, rfl, rfl, trivial⟩ (J20 _ hx22)
          · replace eb23 := ite_f h24 eb23
            refine r_aload_n dX4_learn_66 rfl ?_
            refine r_iload dX4_learn_67 rfl ?_
            refine r_iload dX4_learn_69 rfl ?_
            obtain ⟨q25, eq26, eb23⟩ := obind eb23
            refine r_callV (as := [_, _]) (rest := []) dX4_learn_71 ml_X4_40 yV_X7_keptOf (c_X7_keptOf hS eq26) (by decide) rfl (lp_14 hS) (lq_14 hS) (Nat.le_of_ble_eq_true rfl) ?_
            refine r_istore dX4_learn_74 (by decide) rfl ?_
            refine r_iload dX4_learn_76 rfl ?_
            refine r_iload dX4_learn_78 rfl ?_
            refine r_iconst (v := -1) dX4_learn_80 ci_m1 ?_
            refine r_ixor dX4_learn_81 ?_
            refine r_iand dX4_learn_82 ?_
            obtain ⟨p27, ep29, eb23⟩ := obind eb23
            have J28a : Run l G M_X4_learn 4 104 [some (vr (some 40)), some (vr (some 14)), none, some (vi a3), some (vi q4), some (vi q6), some (vi z8.1), some (vi q16), some (vi z18.1), none] [] S p27 (none) S q := by
              refine r_iinc (v := _ + (1 : Int32)) dX4_learn_104 rfl (congrArg (_ + ·) ci_1) (by decide) rfl ?_
              refine r_goto (tgt := 60) dX4_learn_107 rfl ?_
              cases eb23
              exact r_weak (L' := [some (vr (some 40)), some (vr (some 14)), none, some (vi a3), some (vi q4), some (vi q6), some (vi z8.1), some (vi q16), some (vi (z18.1 + (1 : Int32))), none]) ⟨rfl, rfl, rfl, rfl, rfl, rfl, rfl, rfl, trivial⟩ hx22
            have J28 : ∀ pp : Mm, pp = p27 → Run l G M_X4_learn 4 104 [some (vr (some 40)), some (vr (some 14)), none, some (vi a3), some (vi q4), some (vi q6), some (vi z8.1), some (vi q16), some (vi z18.1), none] [] S pp (none) S q := by
              intro pp hpp
              rw [hpp]
              exact J28a
            refine r_if_ne (tgt := 104) dX4_learn_83 rfl (fun h31 => ?_) (fun h31 => ?_)
            · replace ep29 := ite_f h31 ep29
              exact r_weak (L' := [some (vr (some 40)), some (vr (some 14)), none, some (vi a3), some (vi q4), some (vi q6), some (vi z8.1), some (vi q16), some (vi z18.1), none]) ⟨rfl, rfl, rfl, rfl, rfl, rfl, rfl, rfl, trivial⟩ (J28 _ (Option.some.inj ep29))
            · replace ep29 := ite_t h31 ep29
              refine r_iload dX4_learn_86 rfl ?_
              refine r_iload dX4_learn_88 rfl ?_
              refine r_iand dX4_learn_90 ?_
              refine r_if_ne (tgt := 104) dX4_learn_91 rfl (fun h32 => ?_) (fun h32 => ?_)
              · replace ep29 := ite_f h32 ep29
                exact r_weak (L' := [some (vr (some 40)), some (vr (some 14)), none, some (vi a3), some (vi q4), some (vi q6), some (vi z8.1), some (vi q16), some (vi z18.1), none]) ⟨rfl, rfl, rfl, rfl, rfl, rfl, rfl, rfl, trivial⟩ (J28 _ (Option.some.inj ep29))
              · replace ep29 := ite_t h32 ep29
                refine r_aload_n dX4_learn_94 rfl ?_
                refine r_iload dX4_learn_95 rfl ?_
                refine r_iload dX4_learn_97 rfl ?_
                refine r_iload dX4_learn_99 rfl ?_
                obtain ⟨q33, eq34, ep29⟩ := obind ep29
                refine r_callV (as := [_, _, _]) (rest := []) dX4_learn_101 ml_X4_43 yV_X4_add (c_X4_add hS eq34) (by decide) rfl (lp_40 hS) (lq_40 hS) (Nat.le_of_ble_eq_true rfl) ?_
                exact r_weak (L' := [some (vr (some 40)), some (vr (some 14)), none, some (vi a3), some (vi q4), some (vi q6), some (vi z8.1), some (vi q16), some (vi z18.1), none]) ⟨rfl, rfl, rfl, rfl, rfl, rfl, rfl, rfl, trivial⟩ (J28 _ (Option.some.inj ep29))
        exact r_weak (L' := [some (vr (some 40)), some (vr (some 14)), none, some (vi a3), some (vi q4), some (vi q6), some (vi z8.1), some (vi q16), some (vi (0 : Int32)), none]) ⟨rfl, rfl, rfl, rfl, rfl, rfl, rfl, rfl, trivial⟩ J20w
    exact r_weak (L' := [some (vr (some 40)), some (vr (some 14)), none, some (vi a3), some (vi q4), some (vi q6), some (vi (0 : Int32)), none, none, none]) ⟨rfl, rfl, rfl, rfl, rfl, rfl, trivial⟩ J10w
  · replace e := ite_t h3 e
    cases e
    exact r_return dX4_learn_14 rfl
def m_X4_sure_b2 (a1 : Nat) (mm : Mm) (S : Sk) (z1 : Int32) : Option ((Int32) ⊕ ((Unit) ⊕ (Int32))) := if (mI mm 40 0) ≤ z1 then (some (.inr (.inl ()))) else (grd z1 ((sK S a1).2) (grd (0 : Int32) ((sK S a1).2) (if (mI mm a1 (ix z1)) = (mI mm a1 (ix (0 : Int32))) then (some (.inl (z1 + (1 : Int32)))) else (some (.inr (.inr (-1 : Int32)))))))
def m_X4_sure (S : Sk) (a1 : Nat) (mm : Mm) : Option (Int32) := bS (whileF FU (m_X4_sure_b2 a1 mm S) (1 : Int32)) (fun p2 => if (mI mm 40 0) = 0 then (some (-1 : Int32)) else (grd (0 : Int32) ((sK S a1).2) (some (mI mm a1 (ix (0 : Int32))))))
set_option maxHeartbeats 4000000 in
set_option maxRecDepth 100000 in
theorem c_X4_sure {l : Launch} {G : Gt} {S : Sk} {a1 : Nat} {mm : Mm} (hS : Lay S) (ha1 : KD S a1 20) {q : Int32} (e : m_X4_sure S a1 mm = some q) : CallOK l G M_X4_sure yX4_sure 0 [vr (some 40), vr (some a1)] S mm (some (vi q)) S mm := by
  refine call_of_run rfl rfl rfl (Nat.le_of_ble_eq_true rfl) ?_
  show Run l G M_X4_sure 0 0 [some (vr (some 40)), some (vr (some a1)), none] [] S mm (some (vi q)) S mm
  unfold m_X4_sure at e
  refine r_iconst (v := 1) dX4_sure_0 ci_1 ?_
  refine r_istore_n dX4_sure_1 (by decide) rfl ?_
  obtain ⟨x4, eb6w, elx4, erx4⟩ := bS_some e
  have J3 : ∀ p2 : Unit, x4 = .inl p2 → Run l G M_X4_sure 0 27 [some (vr (some 40)), some (vr (some a1)), none] [] S mm (some (vi q)) S mm := by
    intro p2 hp2
    replace e := elx4 p2 hp2
    refine r_aload_n dX4_sure_27 rfl ?_
    refine r_getI dX4_sure_28 fl_X4_9 rfl (lp_40 hS) (lq_40 hS) ?_
    refine r_if_ne (tgt := 38) dX4_sure_31 rfl (fun h11 => ?_) (fun h11 => ?_)
    · replace e := ite_f h11 e
      refine r_aload_n dX4_sure_38 rfl ?_
      refine r_iconst (v := 0) dX4_sure_39 ci_0 ?_
      obtain ⟨hg12, e⟩ := grd_some e
      refine r_iald dX4_sure_40 ha1.1 (arr_k ha1) hg12 ?_
      cases e
      exact r_ireturn dX4_sure_41 rfl rfl
    · replace e := ite_t h11 e
      refine r_iconst (v := -1) dX4_sure_34 ci_m1 ?_
      refine r_goto (tgt := 41) dX4_sure_35 rfl ?_
      cases e
      exact r_ireturn dX4_sure_41 rfl rfl
  have J3w : Run l G M_X4_sure 0 2 [some (vr (some 40)), some (vr (some a1)), some (vi (1 : Int32))] [] S mm (some (vi q)) S mm := by
    refine while_run (s := (1 : Int32)) (Gs := fun (z1 : Int32) => Run l G M_X4_sure 0 2 [some (vr (some 40)), some (vr (some a1)), some (vi z1)] [] S mm (some (vi q)) S mm) eb6w ?_
    intro z1 x4y eb6 hx5
    unfold m_X4_sure_b2 at eb6
    refine r_iload_n dX4_sure_2 rfl ?_
    refine r_aload_n dX4_sure_3 rfl ?_
    refine r_getI dX4_sure_4 fl_X4_9 rfl (lp_40 hS) (lq_40 hS) ?_
    refine r_icmp_ge (tgt := 27) dX4_sure_7 rfl (fun h7 => ?_) (fun h7 => ?_)
    · replace eb6 := ite_t h7 eb6
      cases eb6
      exact r_weak (L' := [some (vr (some 40)), some (vr (some a1)), none]) ⟨rfl, rfl, trivial⟩ (J3 _ (Eq.symm hx5))
    · replace eb6 := ite_f h7 eb6
      refine r_aload_n dX4_sure_10 rfl ?_
      refine r_iload_n dX4_sure_11 rfl ?_
      obtain ⟨hg8, eb6⟩ := grd_some eb6
      refine r_iald dX4_sure_12 ha1.1 (arr_k ha1) hg8 ?_
      refine r_aload_n dX4_sure_13 rfl ?_
      refine r_iconst (v := 0) dX4_sure_14 ci_0 ?_
      obtain ⟨hg9, eb6⟩ := grd_some eb6
      refine r_iald dX4_sure_15 ha1.1 (arr_k ha1) hg9 ?_
      refine r_icmp_eq (tgt := 21) dX4_sure_16 rfl (fun h10 => ?_) (fun h10 => ?_)
      · replace eb6 := ite_t h10 eb6
        refine r_iinc (v := _ + (1 : Int32)) dX4_sure_21 rfl (congrArg (_ + ·) ci_1) (by decide) rfl ?_
        refine r_goto (tgt := 2) dX4_sure_24 rfl ?_
        cases eb6
        exact r_weak (L' := [some (vr (some 40)), some (vr (some a1)), some (vi (z1 + (1 : Int32)))]) ⟨rfl, rfl, rfl, trivial⟩ hx5
      · replace eb6 := ite_f h10 eb6
        refine r_iconst (v := -1) dX4_sure_19 ci_m1 ?_
        cases eb6
        have e := congrArg some (erx4 _ (Eq.symm hx5))
        cases e
        exact r_ireturn dX4_sure_20 rfl rfl
  exact r_weak (L' := [some (vr (some 40)), some (vr (some a1)), some (vi (1 : Int32))]) ⟨rfl, rfl, rfl, trivial⟩ J3w
def m_X4_ask_b28 (mm : Mm) (z1 : Int32 × Int32 × Int32) (z9 : Int32 × Int32) : Option ((Int32 × Int32) ⊕ (Int32)) := if (mI mm 40 0) ≤ z9.2 then (some (.inr z9.1)) else (grd z9.2 50 (some (.inl (z9.1 + ((xshr (mI mm 43 (ix z9.2)) z1.2.2) &&& (1 : Int32)), z9.2 + (1 : Int32)))))
def m_X4_ask_b9 (mm : Mm) (z1 : Int32 × Int32 × Int32) : Option ((Int32 × Int32 × Int32) ⊕ (Int32)) := if (8 : Int32) ≤ z1.2.2 then (some (.inr z1.1)) else (if (mI mm 40 0) ≤ 0 then (some (.inr z1.1)) else ((whileF FU (m_X4_ask_b28 mm z1) ((0 : Int32), (0 : Int32))).bind (fun p10 => some (.inl ((if z1.1 = (-1 : Int32) then z1.2.2 else (if z1.2.1 ≤ (xmax p10 ((mI mm 40 0) - p10)) then z1.1 else z1.2.2)), (if z1.1 = (-1 : Int32) then xmax p10 ((mI mm 40 0) - p10) else (if z1.2.1 ≤ (xmax p10 ((mI mm 40 0) - p10)) then z1.2.1 else xmax p10 ((mI mm 40 0) - p10))), z1.2.2 + (1 : Int32))))))
def m_X4_ask (mm : Mm) : Option (Int32) := (whileF FU (m_X4_ask_b9 mm) ((-1 : Int32), mI mm 40 0, (0 : Int32))).bind (fun p2 => some p2)
set_option maxHeartbeats 4000000 in
set_option maxRecDepth 100000 in
theorem c_X4_ask {l : Launch} {G : Gt} {S : Sk} {mm : Mm} (hS : Lay S) {q : Int32} (e : m_X4_ask mm = some q) : CallOK l G M_X4_ask yX4_ask 1 [vr (some 40)] S mm (some (vi q)) S mm := by
  refine call_of_run rfl rfl rfl (Nat.le_of_ble_eq_true rfl) ?_
  show Run l G M_X4_ask 1 0 [some (vr (some 40)), none, none, none, none, none] [] S mm (some (vi q)) S mm
  unfold m_X4_ask at e
  refine r_iconst (v := -1) dX4_ask_0 ci_m1 ?_
  refine r_istore_n dX4_ask_1 (by decide) rfl ?_
  refine r_aload_n dX4_ask_2 rfl ?_
  refine r_getI dX4_ask_3 fl_X4_9 rfl (lp_40 hS) (lq_40 hS) ?_
  refine r_istore_n dX4_ask_6 (by decide) rfl ?_
  refine r_iconst (v := 0) dX4_ask_7 ci_0 ?_
  refine r_istore_n dX4_ask_8 (by decide) rfl ?_
  obtain ⟨p2, eb6w, e⟩ := obind e
  have J3a : Run l G M_X4_ask 1 95 [none, some (vi p2), none, none, none, none] [] S mm (some (vi q)) S mm := by
    refine r_iload_n dX4_ask_95 rfl ?_
    cases e
    exact r_ireturn dX4_ask_96 rfl rfl
  have J3 : ∀ pp : Int32, pp = p2 → Run l G M_X4_ask 1 95 [none, some (vi pp), none, none, none, none] [] S mm (some (vi q)) S mm := by
    intro pp hpp
    rw [hpp]
    exact J3a
  have J3w : Run l G M_X4_ask 1 9 [some (vr (some 40)), some (vi (-1 : Int32)), some (vi (mI mm 40 0)), some (vi (0 : Int32)), none, none] [] S mm (some (vi q)) S mm := by
    refine while_run (s := ((-1 : Int32), mI mm 40 0, (0 : Int32))) (Gs := fun (z1 : Int32 × Int32 × Int32) => Run l G M_X4_ask 1 9 [some (vr (some 40)), some (vi z1.1), some (vi z1.2.1), some (vi z1.2.2), none, none] [] S mm (some (vi q)) S mm) eb6w ?_
    intro z1 x4y eb6 hx5
    unfold m_X4_ask_b9 at eb6
    refine r_iload_n dX4_ask_9 rfl ?_
    refine r_bipush (v := 8) dX4_ask_10 cb_8 ?_
    refine r_icmp_ge (tgt := 95) dX4_ask_12 rfl (fun h7 => ?_) (fun h7 => ?_)
    · replace eb6 := ite_t h7 eb6
      cases eb6
      exact r_weak (L' := [none, some (vi z1.1), none, none, none, none]) ⟨rfl, trivial⟩ (J3 _ hx5)
    · replace eb6 := ite_f h7 eb6
      refine r_aload_n dX4_ask_15 rfl ?_
      refine r_getI dX4_ask_16 fl_X4_9 rfl (lp_40 hS) (lq_40 hS) ?_
      refine r_if_le (tgt := 95) dX4_ask_19 rfl (fun h8 => ?_) (fun h8 => ?_)
      · replace eb6 := ite_t h8 eb6
        cases eb6
        exact r_weak (L' := [none, some (vi z1.1), none, none, none, none]) ⟨rfl, trivial⟩ (J3 _ hx5)
      · replace eb6 := ite_f h8 eb6
        refine r_iconst (v := 0) dX4_ask_22 ci_0 ?_
        refine r_istore dX4_ask_23 (by decide) rfl ?_
        refine r_iconst (v := 0) dX4_ask_25 ci_0 ?_
        refine r_istore dX4_ask_26 (by decide) rfl ?_
        obtain ⟨p10, eb14w, eb6⟩ := obind eb6
        have J11a : Run l G M_X4_ask 1 59 [some (vr (some 40)), some (vi z1.1), some (vi z1.2.1), some (vi z1.2.2), some (vi p10), none] [] S mm (some (vi q)) S mm := by
          refine r_iload dX4_ask_59 rfl ?_
          refine r_aload_n dX4_ask_61 rfl ?_
          refine r_getI dX4_ask_62 fl_X4_9 rfl (lp_40 hS) (lq_40 hS) ?_
          refine r_iload dX4_ask_65 rfl ?_
          refine r_isub dX4_ask_67 ?_
          refine r_mmax (rest := []) dX4_ask_68 ml_X4_73 (by decide) (Nat.le_of_ble_eq_true rfl) ?_
          refine r_istore dX4_ask_71 (by decide) rfl ?_
          refine r_iload_n dX4_ask_73 rfl ?_
          refine r_iconst (v := -1) dX4_ask_74 ci_m1 ?_
          have J21 : ∀ (w19 : Int32) (w20 : Int32), w19 = (if z1.1 = (-1 : Int32) then z1.2.2 else (if z1.2.1 ≤ (xmax p10 ((mI mm 40 0) - p10)) then z1.1 else z1.2.2)) → w20 = (if z1.1 = (-1 : Int32) then xmax p10 ((mI mm 40 0) - p10) else (if z1.2.1 ≤ (xmax p10 ((mI mm 40 0) - p10)) then z1.2.1 else xmax p10 ((mI mm 40 0) - p10))) → Run l G M_X4_ask 1 89 [some (vr (some 40)), some (vi w19), some (vi w20), some (vi z1.2.2), none, none] [] S mm (some (vi q)) S mm := by
            intro w19 w20 hw22 hw23
            subst hw22
            subst hw23
            refine r_iinc (v := _ + (1 : Int32)) dX4_ask_89 rfl (congrArg (_ + ·) ci_1) (by decide) rfl ?_
            refine r_goto (tgt := 9) dX4_ask_92 rfl ?_
            cases eb6
            exact r_weak (L' := [some (vr (some 40)), some (vi (if z1.1 = (-1 : Int32) then z1.2.2 else (if z1.2.1 ≤ (xmax p10 ((mI mm 40 0) - p10)) then z1.1 else z1.2.2))), some (vi (if z1.1 = (-1 : Int32) then xmax p10 ((mI mm 40 0) - p10) else (if z1.2.1 ≤ (xmax p10 ((mI mm 40 0) - p10)) then z1.2.1 else xmax p10 ((mI mm 40 0) - p10)))), some (vi (z1.2.2 + (1 : Int32))), none, none]) ⟨rfl, rfl, rfl, rfl, trivial⟩ hx5
          refine r_icmp_eq (tgt := 84) dX4_ask_75 rfl (fun h17 => ?_) (fun h17 => ?_)
          · refine r_iload_n dX4_ask_84 rfl ?_
            refine r_istore_n dX4_ask_85 (by decide) rfl ?_
            refine r_iload dX4_ask_86 rfl ?_
            refine r_istore_n dX4_ask_88 (by decide) rfl ?_
            exact r_weak (L' := [some (vr (some 40)), some (vi z1.2.2), some (vi (xmax p10 ((mI mm 40 0) - p10))), some (vi z1.2.2), none, none]) ⟨rfl, rfl, rfl, rfl, trivial⟩ (J21 _ _ (Eq.symm (if_pos h17)) (Eq.symm (if_pos h17)))
          · refine r_iload dX4_ask_78 rfl ?_
            refine r_iload_n dX4_ask_80 rfl ?_
            refine r_icmp_ge (tgt := 89) dX4_ask_81 rfl (fun h18 => ?_) (fun h18 => ?_)
            · exact r_weak (L' := [some (vr (some 40)), some (vi z1.1), some (vi z1.2.1), some (vi z1.2.2), none, none]) ⟨rfl, rfl, rfl, rfl, trivial⟩ (J21 _ _ (Eq.symm ((if_neg h17).trans (if_pos h18))) (Eq.symm ((if_neg h17).trans (if_pos h18))))
            · refine r_iload_n dX4_ask_84 rfl ?_
              refine r_istore_n dX4_ask_85 (by decide) rfl ?_
              refine r_iload dX4_ask_86 rfl ?_
              refine r_istore_n dX4_ask_88 (by decide) rfl ?_
              exact r_weak (L' := [some (vr (some 40)), some (vi z1.2.2), some (vi (xmax p10 ((mI mm 40 0) - p10))), some (vi z1.2.2), none, none]) ⟨rfl, rfl, rfl, rfl, trivial⟩ (J21 _ _ (Eq.symm ((if_neg h17).trans (if_neg h18))) (Eq.symm ((if_neg h17).trans (if_neg h18))))
        have J11 : ∀ pp : Int32, pp = p10 → Run l G M_X4_ask 1 59 [some (vr (some 40)), some (vi z1.1), some (vi z1.2.1), some (vi z1.2.2), some (vi pp), none] [] S mm (some (vi q)) S mm := by
          intro pp hpp
          rw [hpp]
          exact J11a
        have J11w : Run l G M_X4_ask 1 28 [some (vr (some 40)), some (vi z1.1), some (vi z1.2.1), some (vi z1.2.2), some (vi (0 : Int32)), some (vi (0 : Int32))] [] S mm (some (vi q)) S mm := by
          refine while_run (s := ((0 : Int32), (0 : Int32))) (Gs := fun (z9 : Int32 × Int32) => Run l G M_X4_ask 1 28 [some (vr (some 40)), some (vi z1.1), some (vi z1.2.1), some (vi z1.2.2), some (vi z9.1), some (vi z9.2)] [] S mm (some (vi q)) S mm) eb14w ?_
          intro z9 x12y eb14 hx13
          unfold m_X4_ask_b28 at eb14
          refine r_iload dX4_ask_28 rfl ?_
          refine r_aload_n dX4_ask_30 rfl ?_
          refine r_getI dX4_ask_31 fl_X4_9 rfl (lp_40 hS) (lq_40 hS) ?_
          refine r_icmp_ge (tgt := 59) dX4_ask_34 rfl (fun h15 => ?_) (fun h15 => ?_)
          · replace eb14 := ite_t h15 eb14
            cases eb14
            exact r_weak (L' := [some (vr (some 40)), some (vi z1.1), some (vi z1.2.1), some (vi z1.2.2), some (vi z9.1), none]) ⟨rfl, rfl, rfl, rfl, rfl, trivial⟩ (J11 _ hx13)
          · replace eb14 := ite_f h15 eb14
            refine r_iload dX4_ask_37 rfl ?_
            refine r_aload_n dX4_ask_39 rfl ?_
            refine r_getR dX4_ask_40 fl_X4_22 rfl (lp_40 hS) (lq_40 hS) (lr_40_3 hS) ?_
            refine r_iload dX4_ask_43 rfl ?_
            obtain ⟨hg16, eb14⟩ := grd_some eb14
            refine r_iald dX4_ask_45 (lp_43 hS) (lk_43 hS) hg16 ?_
            refine r_iload_n dX4_ask_46 rfl ?_
            refine r_ishr dX4_ask_47 ?_
            refine r_iconst (v := 1) dX4_ask_48 ci_1 ?_
            refine r_iand dX4_ask_49 ?_
            refine r_iadd dX4_ask_50 ?_
            refine r_istore dX4_ask_51 (by decide) rfl ?_
            refine r_iinc (v := _ + (1 : Int32)) dX4_ask_53 rfl (congrArg (_ + ·) ci_1) (by decide) rfl ?_
            refine r_goto (tgt := 28) dX4_ask_56 rfl ?_
            cases eb14
            exact r_weak (L' := [some (vr (some 40)), some (vi z1.1), some (vi z1.2.1), some (vi z1.2.2), some (vi (z9.1 + ((xshr (mI mm 43 (ix z9.2)) z1.2.2) &&& (1 : Int32)))), some (vi (z9.2 + (1 : Int32)))]) ⟨rfl, rfl, rfl, rfl, rfl, rfl, trivial⟩ hx13
        exact r_weak (L' := [some (vr (some 40)), some (vi z1.1), some (vi z1.2.1), some (vi z1.2.2), some (vi (0 : Int32)), some (vi (0 : Int32))]) ⟨rfl, rfl, rfl, rfl, rfl, rfl, trivial⟩ J11w
  exact r_weak (L' := [some (vr (some 40)), some (vi (-1 : Int32)), some (vi (mI mm 40 0)), some (vi (0 : Int32)), none, none]) ⟨rfl, rfl, rfl, rfl, trivial⟩ J3w
def m_X4_tell (S : Sk) (a1 : Int32) (mm : Mm) : Option (Int32) := if a1 = (0 : Int32) then (some (mI mm 40 0)) else (if a1 = (1 : Int32) then ((m_X4_sure S 41 mm).bind (fun q3 => some q3)) else (if a1 = (2 : Int32) then ((m_X4_sure S 42 mm).bind (fun q6 => some q6)) else (if a1 = (3 : Int32) then ((m_X4_ask mm).bind (fun q9 => some q9)) else (if a1 = (4 : Int32) then (if (mI mm 40 0) = 0 then (some (-1 : Int32)) else (some (mI mm 41 (ix (0 : Int32))))) else (if a1 = (5 : Int32) then (if (mI mm 40 0) = 0 then (some (-1 : Int32)) else (grd ((mI mm 40 0) - (1 : Int32)) 50 (some (mI mm 41 (ix ((mI mm 40 0) - (1 : Int32))))))) else (bS (if a1 < (10 : Int32) then (some (.inl ())) else (if (a1 - (10 : Int32)) < (mI mm 40 0) then (grd (a1 - (10 : Int32)) 50 (grd (a1 - (10 : Int32)) 50 (some (.inr (((10 : Int32) * (mI mm 41 (ix (a1 - (10 : Int32))))) + (mI mm 42 (ix (a1 - (10 : Int32))))))))) else (some (.inl ()))) : Option ((Unit) ⊕ (Int32))) (fun p16 => some (-2 : Int32))))))))
set_option maxHeartbeats 4000000 in
set_option maxRecDepth 100000 in
theorem c_X4_tell {l : Launch} {G : Gt} {S : Sk} {a1 : Int32} {mm : Mm} (hS : Lay S) {q : Int32} (e : m_X4_tell S a1 mm = some q) : CallOK l G M_X4_tell yX4_tell 2 [vr (some 40), vi a1] S mm (some (vi q)) S mm := by
  refine call_of_run rfl rfl rfl (Nat.le_of_ble_eq_true rfl) ?_
  show Run l G M_X4_tell 2 0 [some (vr (some 40)), some (vi a1)] [] S mm (some (vi q)) S mm
  unfold m_X4_tell at e
  refine r_iload_n dX4_tell_0 rfl ?_
  by_cases h1 : a1 = (0 : Int32)
  · replace e := ite_t h1 e
    refine r_table_in (tgt := 40) dX4_tell_1 (by rw [h1]; decide) (by rw [h1]; decide) (by rw [h1]; rfl) rfl ?_
    refine r_aload_n dX4_tell_40 rfl ?_
    refine r_getI dX4_tell_41 fl_X4_9 rfl (lp_40 hS) (lq_40 hS) ?_
    cases e
    exact r_ireturn dX4_tell_44 rfl rfl
  replace e := ite_f h1 e
  by_cases h2 : a1 = (1 : Int32)
  · replace e := ite_t h2 e
    refine r_table_in (tgt := 45) dX4_tell_1 (by rw [h2]; decide) (by rw [h2]; decide) (by rw [h2]; rfl) rfl ?_
    refine r_aload_n dX4_tell_45 rfl ?_
    refine r_aload_n dX4_tell_46 rfl ?_
    refine r_getR dX4_tell_47 fl_X4_15 rfl (lp_40 hS) (lq_40 hS) (lr_40_1 hS) ?_
    obtain ⟨q3, eq4, e⟩ := obind e
    refine r_callV (as := [_]) (rest := []) dX4_tell_50 ml_X4_65 yV_X4_sure (c_X4_sure hS ⟨lp_41 hS, lq_41 hS⟩ eq4) (by decide) rfl (lp_40 hS) (lq_40 hS) (Nat.le_of_ble_eq_true rfl) ?_
    cases e
    exact r_ireturn dX4_tell_53 rfl rfl
  replace e := ite_f h2 e
  by_cases h5 : a1 = (2 : Int32)
  · replace e := ite_t h5 e
    refine r_table_in (tgt := 54) dX4_tell_1 (by rw [h5]; decide) (by rw [h5]; decide) (by rw [h5]; rfl) rfl ?_
    refine r_aload_n dX4_tell_54 rfl ?_
    refine r_aload_n dX4_tell_55 rfl ?_
    refine r_getR dX4_tell_56 fl_X4_19 rfl (lp_40 hS) (lq_40 hS) (lr_40_2 hS) ?_
    obtain ⟨q6, eq7, e⟩ := obind e
    refine r_callV (as := [_]) (rest := []) dX4_tell_59 ml_X4_65 yV_X4_sure (c_X4_sure hS ⟨lp_42 hS, lq_42 hS⟩ eq7) (by decide) rfl (lp_40 hS) (lq_40 hS) (Nat.le_of_ble_eq_true rfl) ?_
    cases e
    exact r_ireturn dX4_tell_62 rfl rfl
  replace e := ite_f h5 e
  by_cases h8 : a1 = (3 : Int32)
  · replace e := ite_t h8 e
    refine r_table_in (tgt := 63) dX4_tell_1 (by rw [h8]; decide) (by rw [h8]; decide) (by rw [h8]; rfl) rfl ?_
    refine r_aload_n dX4_tell_63 rfl ?_
    obtain ⟨q9, eq10, e⟩ := obind e
    refine r_callV (as := []) (rest := []) dX4_tell_64 ml_X4_69 yV_X4_ask (c_X4_ask hS eq10) (by decide) rfl (lp_40 hS) (lq_40 hS) (Nat.le_of_ble_eq_true rfl) ?_
    cases e
    exact r_ireturn dX4_tell_67 rfl rfl
  replace e := ite_f h8 e
  by_cases h11 : a1 = (4 : Int32)
  · replace e := ite_t h11 e
    refine r_table_in (tgt := 68) dX4_tell_1 (by rw [h11]; decide) (by rw [h11]; decide) (by rw [h11]; rfl) rfl ?_
    refine r_aload_n dX4_tell_68 rfl ?_
    refine r_getI dX4_tell_69 fl_X4_9 rfl (lp_40 hS) (lq_40 hS) ?_
    refine r_if_ne (tgt := 79) dX4_tell_72 rfl (fun h12 => ?_) (fun h12 => ?_)
    · replace e := ite_f h12 e
      refine r_aload_n dX4_tell_79 rfl ?_
      refine r_getR dX4_tell_80 fl_X4_15 rfl (lp_40 hS) (lq_40 hS) (lr_40_1 hS) ?_
      refine r_iconst (v := 0) dX4_tell_83 ci_0 ?_
      refine r_iald dX4_tell_84 (lp_41 hS) (lk_41 hS) (vp_in_iff.mpr ⟨by decide, by decide⟩) ?_
      cases e
      exact r_ireturn dX4_tell_85 rfl rfl
    · replace e := ite_t h12 e
      refine r_iconst (v := -1) dX4_tell_75 ci_m1 ?_
      refine r_goto (tgt := 85) dX4_tell_76 rfl ?_
      cases e
      exact r_ireturn dX4_tell_85 rfl rfl
  replace e := ite_f h11 e
  by_cases h13 : a1 = (5 : Int32)
  · replace e := ite_t h13 e
    refine r_table_in (tgt := 86) dX4_tell_1 (by rw [h13]; decide) (by rw [h13]; decide) (by rw [h13]; rfl) rfl ?_
    refine r_aload_n dX4_tell_86 rfl ?_
    refine r_getI dX4_tell_87 fl_X4_9 rfl (lp_40 hS) (lq_40 hS) ?_
    refine r_if_ne (tgt := 97) dX4_tell_90 rfl (fun h14 => ?_) (fun h14 => ?_)
    · replace e := ite_f h14 e
      refine r_aload_n dX4_tell_97 rfl ?_
      refine r_getR dX4_tell_98 fl_X4_15 rfl (lp_40 hS) (lq_40 hS) (lr_40_1 hS) ?_
      refine r_aload_n dX4_tell_101 rfl ?_
      refine r_getI dX4_tell_102 fl_X4_9 rfl (lp_40 hS) (lq_40 hS) ?_
      refine r_iconst (v := 1) dX4_tell_105 ci_1 ?_
      refine r_isub dX4_tell_106 ?_
      obtain ⟨hg15, e⟩ := grd_some e
      refine r_iald dX4_tell_107 (lp_41 hS) (lk_41 hS) hg15 ?_
      cases e
      exact r_ireturn dX4_tell_108 rfl rfl
    · replace e := ite_t h14 e
      refine r_iconst (v := -1) dX4_tell_93 ci_m1 ?_
      refine r_goto (tgt := 108) dX4_tell_94 rfl ?_
      cases e
      exact r_ireturn dX4_tell_108 rfl rfl
  replace e := ite_f h13 e
  have ho1 : (a1).toInt < 0 ∨ 5 < (a1).toInt := by
    have nh1 := lv_neT (a := 0) h1 (by decide)
    have nh2 := lv_neT (a := 1) h2 (by decide)
    have nh5 := lv_neT (a := 2) h5 (by decide)
    have nh8 := lv_neT (a := 3) h8 (by decide)
    have nh11 := lv_neT (a := 4) h11 (by decide)
    have nh13 := lv_neT (a := 5) h13 (by decide)
    omega
  refine r_table_out (tgt := 109) dX4_tell_1 ho1 rfl ?_
  refine r_iload_n dX4_tell_109 rfl ?_
  refine r_bipush (v := 10) dX4_tell_110 cb_10 ?_
  obtain ⟨x19, ep18, elx19, erx19⟩ := bS_some e
  have J17 : ∀ p16 : Unit, x19 = .inl p16 → Run l G M_X4_tell 2 126 [none, none] [] S mm (some (vi q)) S mm := by
    intro p16 hp16
    replace e := elx19 p16 hp16
    refine r_bipush (v := -2) dX4_tell_126 cb_m2 ?_
    refine r_goto (tgt := 153) dX4_tell_128 rfl ?_
    cases e
    exact r_ireturn dX4_tell_153 rfl rfl
  refine r_icmp_lt (tgt := 126) dX4_tell_112 rfl (fun h20 => ?_) (fun h20 => ?_)
  · replace ep18 := ite_t h20 ep18
    cases ep18
    exact r_weak (L' := [none, none]) trivial (J17 _ rfl)
  · replace ep18 := ite_f h20 ep18
    refine r_iload_n dX4_tell_115 rfl ?_
    refine r_bipush (v := 10) dX4_tell_116 cb_10 ?_
    refine r_isub dX4_tell_118 ?_
    refine r_aload_n dX4_tell_119 rfl ?_
    refine r_getI dX4_tell_120 fl_X4_9 rfl (lp_40 hS) (lq_40 hS) ?_
    refine r_icmp_lt (tgt := 131) dX4_tell_123 rfl (fun h21 => ?_) (fun h21 => ?_)
    · replace ep18 := ite_t h21 ep18
      refine r_bipush (v := 10) dX4_tell_131 cb_10 ?_
      refine r_aload_n dX4_tell_133 rfl ?_
      refine r_getR dX4_tell_134 fl_X4_15 rfl (lp_40 hS) (lq_40 hS) (lr_40_1 hS) ?_
      refine r_iload_n dX4_tell_137 rfl ?_
      refine r_bipush (v := 10) dX4_tell_138 cb_10 ?_
      refine r_isub dX4_tell_140 ?_
      obtain ⟨hg22, ep18⟩ := grd_some ep18
      refine r_iald dX4_tell_141 (lp_41 hS) (lk_41 hS) hg22 ?_
      refine r_imul dX4_tell_142 ?_
      refine r_aload_n dX4_tell_143 rfl ?_
      refine r_getR dX4_tell_144 fl_X4_19 rfl (lp_40 hS) (lq_40 hS) (lr_40_2 hS) ?_
      refine r_iload_n dX4_tell_147 rfl ?_
      refine r_bipush (v := 10) dX4_tell_148 cb_10 ?_
      refine r_isub dX4_tell_150 ?_
      obtain ⟨hg23, ep18⟩ := grd_some ep18
      refine r_iald dX4_tell_151 (lp_42 hS) (lk_42 hS) hg23 ?_
      refine r_iadd dX4_tell_152 ?_
      cases ep18
      have e := congrArg some (erx19 _ rfl)
      cases e
      exact r_ireturn dX4_tell_153 rfl rfl
    · replace ep18 := ite_f h21 ep18
      cases ep18
      exact r_weak (L' := [none, none]) trivial (J17 _ rfl)
def m_X6_init (S : Sk) (a0 : Nat) (a1 : Int32) (mm : Mm) : Option (Sk × Mm) := gla ((xmax a1 (0 : Int32)) * (4 : Int32)) (some ((sRs (nwS S 20 (((xmax a1 (0 : Int32)) * (4 : Int32)).toNatClampNeg) (((xmax a1 (0 : Int32)) * (4 : Int32)).toNatClampNeg)) a0 0 (some S.1)), (nwM S (sI mm a0 1 (0 : Int32)))))
set_option maxHeartbeats 4000000 in
set_option maxRecDepth 100000 in
theorem c_X6_init {l : Launch} {G : Gt} {S : Sk} {a0 : Nat} {a1 : Int32} {mm : Mm} (ha0 : KD S a0 6) {q : Sk × Mm} (e : m_X6_init S a0 a1 mm = some q) : CallOK l G M_X6_init yX6_init 1 [vr (some a0), vi a1] S mm (none) q.1 q.2 := by
  refine call_of_run rfl rfl rfl (Nat.le_of_ble_eq_true rfl) ?_
  show Run l G M_X6_init 1 0 [some (vr (some a0)), some (vi a1)] [] S mm (none) q.1 q.2
  unfold m_X6_init at e
  refine r_aload_n dX6_init_0 rfl ?_
  refine r_objInit (rest := []) dX6_init_1 oi_X6_3 oi_i oi_c (by decide) (Nat.le_of_ble_eq_true rfl) ?_
  refine r_aload_n dX6_init_4 rfl ?_
  refine r_iconst (v := 0) dX6_init_5 ci_0 ?_
  refine r_putI dX6_init_6 fl_X6_9 ft_6_1 (Or.inl rfl) rfl rfl rfl ha0.1 ha0.2 ?_
  refine r_aload_n dX6_init_9 rfl ?_
  refine r_iload_n dX6_init_10 rfl ?_
  refine r_iconst (v := 0) dX6_init_11 ci_0 ?_
  refine r_mmax (rest := [_]) dX6_init_12 ml_X6_15 (by decide) (Nat.le_of_ble_eq_true rfl) ?_
  refine r_iconst (v := 4) dX6_init_15 ci_4 ?_
  refine r_imul dX6_init_16 ?_
  obtain ⟨hl1, e⟩ := gla_some e
  refine r_newa (t := 20) dX6_init_17 rfl (by decide) (by decide) aw_20 hl1.1 rfl hl1.2 ?_
  have hn2 := kd_nw (k := 20) (len := (((xmax a1 (0 : Int32)) * (4 : Int32)).toNatClampNeg)) (z := (((xmax a1 (0 : Int32)) * (4 : Int32)).toNatClampNeg)) ha0
  have hn3 : AK (nwS S 20 (((xmax a1 (0 : Int32)) * (4 : Int32)).toNatClampNeg) (((xmax a1 (0 : Int32)) * (4 : Int32)).toNatClampNeg)) S.1 20 (((xmax a1 (0 : Int32)) * (4 : Int32)).toNatClampNeg) := ak_new
  refine r_putR dX6_init_19 fl_X6_21 ft_6_0 (Or.inr ⟨rfl, fun q hq => by cases hq; rfl⟩) rfl hn2.1 hn2.2 ?_
  cases e
  exact r_return dX6_init_22 rfl
def m_X5_init (S : Sk) (a0 : Nat) (mm : Mm) : Option (Sk × Mm) := (m_X6_init (nwS S 6 0 2) S.1 (100 : Int32) (nwM S mm)).bind (fun q3 => gk q3.1 a0 5 (some ((sRs (nwS (sRs (nwS (sRs (nwS (sRs q3.1 a0 0 (some S.1)) 20 7 7) a0 3 (some ((sRs q3.1 a0 0 (some S.1)).1))) 20 3 3) a0 4 (some ((sRs (nwS (sRs q3.1 a0 0 (some S.1)) 20 7 7) a0 3 (some ((sRs q3.1 a0 0 (some S.1)).1))).1))) 21 0 0) a0 5 (some ((sRs (nwS (sRs (nwS (sRs q3.1 a0 0 (some S.1)) 20 7 7) a0 3 (some ((sRs q3.1 a0 0 (some S.1)).1))) 20 3 3) a0 4 (some ((sRs (nwS (sRs q3.1 a0 0 (some S.1)) 20 7 7) a0 3 (some ((sRs q3.1 a0 0 (some S.1)).1))).1))).1))), (sI (sI (sI (sI (sI (sI (nwM (sRs (nwS (sRs (nwS (sRs q3.1 a0 0 (some S.1)) 20 7 7) a0 3 (some ((sRs q3.1 a0 0 (some S.1)).1))) 20 3 3) a0 4 (some ((sRs (nwS (sRs q3.1 a0 0 (some S.1)) 20 7 7) a0 3 (some ((sRs q3.1 a0 0 (some S.1)).1))).1))) (nwM (sRs (nwS (sRs q3.1 a0 0 (some S.1)) 20 7 7) a0 3 (some ((sRs q3.1 a0 0 (some S.1)).1))) (nwM (sRs q3.1 a0 0 (some S.1)) (sI (sI q3.2 a0 1 (0 : Int32)) a0 2 (-1 : Int32))))) a0 6 (0 : Int32)) a0 7 (0 : Int32)) a0 8 (0 : Int32)) a0 9 (0 : Int32)) a0 10 (0 : Int32)) a0 11 (0 : Int32)))))
set_option maxHeartbeats 4000000 in
set_option maxRecDepth 100000 in
theorem c_X5_init {l : Launch} {G : Gt} {S : Sk} {a0 : Nat} {mm : Mm} (ha0 : KD S a0 5) {q : Sk × Mm} (e : m_X5_init S a0 mm = some q) : CallOK l G M_X5_init yX5_init 2 [vr (some a0)] S mm (none) q.1 q.2 := by
  refine call_of_run rfl rfl rfl (Nat.le_of_ble_eq_true rfl) ?_
  show Run l G M_X5_init 2 0 [some (vr (some a0))] [] S mm (none) q.1 q.2
  unfold m_X5_init at e
  refine r_aload_n dX5_init_0 rfl ?_
  refine r_objInit (rest := []) dX5_init_1 oi_X5_3 oi_i oi_c (by decide) (Nat.le_of_ble_eq_true rfl) ?_
  refine r_aload_n dX5_init_4 rfl ?_
  refine r_new dX5_init_5 nw_X5_9 ?_
  have hn1 := kd_nw (k := 6) (len := 0) (z := 2) ha0
  have hn2 : KD (nwS S 6 0 2) S.1 6 := kd_new
  refine r_dup dX5_init_8 rfl ?_
  refine r_bipush (v := 100) dX5_init_9 cb_100 ?_
  obtain ⟨q3, eq4, e⟩ := obind e
  refine r_callI (as := [_]) (rest := [_, _]) dX5_init_11 ml_X5_13 yI_X6_init (c_X6_init hn2 eq4) (by decide) rfl (Nat.le_of_ble_eq_true rfl) ?_
  obtain ⟨hn5, e⟩ := gk_some e
  refine r_putR dX5_init_14 fl_X5_16 ft_5_0 (Or.inr ⟨rfl, fun q hq => by cases hq; rfl⟩) rfl hn5.1 hn5.2 ?_
  refine r_aload_n dX5_init_17 rfl ?_
  refine r_iconst (v := 0) dX5_init_18 ci_0 ?_
  refine r_putI dX5_init_19 fl_X5_20 ft_5_1 (Or.inl rfl) rfl rfl rfl hn5.1 hn5.2 ?_
  refine r_aload_n dX5_init_22 rfl ?_
  refine r_iconst (v := -1) dX5_init_23 ci_m1 ?_
  refine r_putI dX5_init_24 fl_X5_24 ft_5_2 (Or.inl rfl) rfl rfl rfl hn5.1 hn5.2 ?_
  refine r_aload_n dX5_init_27 rfl ?_
  refine r_bipush (v := 7) dX5_init_28 cb_7 ?_
  refine r_newa (t := 20) dX5_init_30 rfl (by decide) (by decide) aw_20 (by decide) (N := 7) (by decide) (by decide) ?_
  have hn6 := kd_nw (k := 20) (len := 7) (z := 7) hn5
  have hn7 : AK (nwS (sRs q3.1 a0 0 (some S.1)) 20 7 7) (sRs q3.1 a0 0 (some S.1)).1 20 7 := ak_new
  refine r_putR dX5_init_32 fl_X5_27 ft_5_3 (Or.inr ⟨rfl, fun q hq => by cases hq; rfl⟩) rfl hn6.1 hn6.2 ?_
  refine r_aload_n dX5_init_35 rfl ?_
  refine r_iconst (v := 3) dX5_init_36 ci_3 ?_
  refine r_newa (t := 20) dX5_init_37 rfl (by decide) (by decide) aw_20 (by decide) (N := 3) (by decide) (by decide) ?_
  have hn8 := kd_nw (k := 20) (len := 3) (z := 3) hn6
  have hn9 := ak_nw (k := 20) (len := 3) (z := 3) hn7
  have hn10 : AK (nwS (sRs (nwS (sRs q3.1 a0 0 (some S.1)) 20 7 7) a0 3 (some ((sRs q3.1 a0 0 (some S.1)).1))) 20 3 3) (sRs (nwS (sRs q3.1 a0 0 (some S.1)) 20 7 7) a0 3 (some ((sRs q3.1 a0 0 (some S.1)).1))).1 20 3 := ak_new
  refine r_putR dX5_init_39 fl_X5_31 ft_5_4 (Or.inr ⟨rfl, fun q hq => by cases hq; rfl⟩) rfl hn8.1 hn8.2 ?_
  refine r_aload_n dX5_init_42 rfl ?_
  refine r_iconst (v := 0) dX5_init_43 ci_0 ?_
  refine r_newa (t := 21) dX5_init_44 rfl (by decide) (by decide) aw_21 (by decide) (N := 0) (by decide) (by decide) ?_
  have hn11 := kd_nw (k := 21) (len := 0) (z := 0) hn8
  have hn12 := ak_nw (k := 21) (len := 0) (z := 0) hn9
  have hn13 := ak_nw (k := 21) (len := 0) (z := 0) hn10
  have hn14 : AK (nwS (sRs (nwS (sRs (nwS (sRs q3.1 a0 0 (some S.1)) 20 7 7) a0 3 (some ((sRs q3.1 a0 0 (some S.1)).1))) 20 3 3) a0 4 (some ((sRs (nwS (sRs q3.1 a0 0 (some S.1)) 20 7 7) a0 3 (some ((sRs q3.1 a0 0 (some S.1)).1))).1))) 21 0 0) (sRs (nwS (sRs (nwS (sRs q3.1 a0 0 (some S.1)) 20 7 7) a0 3 (some ((sRs q3.1 a0 0 (some S.1)).1))) 20 3 3) a0 4 (some ((sRs (nwS (sRs q3.1 a0 0 (some S.1)) 20 7 7) a0 3 (some ((sRs q3.1 a0 0 (some S.1)).1))).1))).1 21 0 := ak_new
  refine r_putR dX5_init_46 fl_X5_34 ft_5_5 (Or.inl rfl) rfl hn11.1 hn11.2 ?_
  refine r_aload_n dX5_init_49 rfl ?_
  refine r_iconst (v := 0) dX5_init_50 ci_0 ?_
  refine r_putI dX5_init_51 fl_X5_38 ft_5_6 (Or.inl rfl) rfl rfl rfl hn11.1 hn11.2 ?_
  refine r_aload_n dX5_init_54 rfl ?_
  refine r_iconst (v := 0) dX5_init_55 ci_0 ?_
  refine r_putI dX5_init_56 fl_X5_41 ft_5_7 (Or.inl rfl) rfl rfl rfl hn11.1 hn11.2 ?_
  refine r_aload_n dX5_init_59 rfl ?_
  refine r_iconst (v := 0) dX5_init_60 ci_0 ?_
  refine r_putI dX5_init_61 fl_X5_44 ft_5_8 (Or.inl rfl) rfl rfl rfl hn11.1 hn11.2 ?_
  refine r_aload_n dX5_init_64 rfl ?_
  refine r_iconst (v := 0) dX5_init_65 ci_0 ?_
  refine r_putI dX5_init_66 fl_X5_47 ft_5_9 (Or.inl rfl) rfl rfl rfl hn11.1 hn11.2 ?_
  refine r_aload_n dX5_init_69 rfl ?_
  refine r_iconst (v := 0) dX5_init_70 ci_0 ?_
  refine r_putI dX5_init_71 fl_X5_50 ft_5_10 (Or.inl rfl) rfl rfl rfl hn11.1 hn11.2 ?_
  refine r_aload_n dX5_init_74 rfl ?_
  refine r_iconst (v := 0) dX5_init_75 ci_0 ?_
  refine r_putI dX5_init_76 fl_X5_53 ft_5_11 (Or.inl rfl) rfl rfl rfl hn11.1 hn11.2 ?_
  cases e
  exact r_return dX5_init_79 rfl
def m_X5_isLetter (S : Sk) (a1 : Int32) (mm : Mm) : Option (Int32) := gR (sR S 7 5) 2 (grd a1 600 (if (mI mm 2 (ix a1)) < (97 : Int32) then (some (0 : Int32)) else (grd a1 600 (if (122 : Int32) < (mI mm 2 (ix a1)) then (some (0 : Int32)) else (some (1 : Int32))))))
set_option maxHeartbeats 4000000 in
set_option maxRecDepth 100000 in
theorem c_X5_isLetter {l : Launch} {G : Gt} {S : Sk} {a1 : Int32} {mm : Mm} (hS : Lay S) {q : Int32} (e : m_X5_isLetter S a1 mm = some q) : CallOK l G M_X5_isLetter yX5_isLetter 0 [vr (some 7), vi a1] S mm (some (vi q)) S mm := by
  refine call_of_run rfl rfl rfl (Nat.le_of_ble_eq_true rfl) ?_
  show Run l G M_X5_isLetter 0 0 [some (vr (some 7)), some (vi a1)] [] S mm (some (vi q)) S mm
  unfold m_X5_isLetter at e
  refine r_aload_n dX5_isLetter_0 rfl ?_
  obtain ⟨hr1, e⟩ := gR_some e
  refine r_getR dX5_isLetter_1 fl_X5_34 rfl (lp_7 hS) (lq_7 hS) hr1 ?_
  refine r_iload_n dX5_isLetter_4 rfl ?_
  obtain ⟨hg2, e⟩ := grd_some e
  refine r_bald dX5_isLetter_5 (lp_2 hS) (lk_2 hS) hg2 ?_
  refine r_bipush (v := 97) dX5_isLetter_6 cb_97 ?_
  refine r_icmp_lt (tgt := 26) dX5_isLetter_8 rfl (fun h3 => ?_) (fun h3 => ?_)
  · replace e := ite_t h3 e
    refine r_iconst (v := 0) dX5_isLetter_26 ci_0 ?_
    cases e
    exact r_ireturn dX5_isLetter_27 rfl (nz_b (by first | exact Or.inl rfl | exact Or.inr rfl)).1
  · replace e := ite_f h3 e
    refine r_aload_n dX5_isLetter_11 rfl ?_
    refine r_getR dX5_isLetter_12 fl_X5_34 rfl (lp_7 hS) (lq_7 hS) hr1 ?_
    refine r_iload_n dX5_isLetter_15 rfl ?_
    obtain ⟨hg4, e⟩ := grd_some e
    refine r_bald dX5_isLetter_16 (lp_2 hS) (lk_2 hS) hg4 ?_
    refine r_bipush (v := 122) dX5_isLetter_17 cb_122 ?_
    refine r_icmp_gt (tgt := 26) dX5_isLetter_19 rfl (fun h5 => ?_) (fun h5 => ?_)
    · replace e := ite_t h5 e
      refine r_iconst (v := 0) dX5_isLetter_26 ci_0 ?_
      cases e
      exact r_ireturn dX5_isLetter_27 rfl (nz_b (by first | exact Or.inl rfl | exact Or.inr rfl)).1
    · replace e := ite_f h5 e
      refine r_iconst (v := 1) dX5_isLetter_22 ci_1 ?_
      refine r_goto (tgt := 27) dX5_isLetter_23 rfl ?_
      cases e
      exact r_ireturn dX5_isLetter_27 rfl (nz_b (by first | exact Or.inl rfl | exact Or.inr rfl)).1
def m_X5_isDigit (S : Sk) (a1 : Int32) (mm : Mm) : Option (Int32) := gR (sR S 7 5) 2 (grd a1 600 (if (mI mm 2 (ix a1)) < (48 : Int32) then (some (0 : Int32)) else (grd a1 600 (if (57 : Int32) < (mI mm 2 (ix a1)) then (some (0 : Int32)) else (some (1 : Int32))))))
set_option maxHeartbeats 4000000 in
set_option maxRecDepth 100000 in
theorem c_X5_isDigit {l : Launch} {G : Gt} {S : Sk} {a1 : Int32} {mm : Mm} (hS : Lay S) {q : Int32} (e : m_X5_isDigit S a1 mm = some q) : CallOK l G M_X5_isDigit yX5_isDigit 0 [vr (some 7), vi a1] S mm (some (vi q)) S mm := by
  refine call_of_run rfl rfl rfl (Nat.le_of_ble_eq_true rfl) ?_
  show Run l G M_X5_isDigit 0 0 [some (vr (some 7)), some (vi a1)] [] S mm (some (vi q)) S mm
  unfold m_X5_isDigit at e
  refine r_aload_n dX5_isDigit_0 rfl ?_
  obtain ⟨hr1, e⟩ := gR_some e
  refine r_getR dX5_isDigit_1 fl_X5_34 rfl (lp_7 hS) (lq_7 hS) hr1 ?_
  refine r_iload_n dX5_isDigit_4 rfl ?_
  obtain ⟨hg2, e⟩ := grd_some e
  refine r_bald dX5_isDigit_5 (lp_2 hS) (lk_2 hS) hg2 ?_
  refine r_bipush (v := 48) dX5_isDigit_6 cb_48 ?_
  refine r_icmp_lt (tgt := 26) dX5_isDigit_8 rfl (fun h3 => ?_) (fun h3 => ?_)
  · replace e := ite_t h3 e
    refine r_iconst (v := 0) dX5_isDigit_26 ci_0 ?_
    cases e
    exact r_ireturn dX5_isDigit_27 rfl (nz_b (by first | exact Or.inl rfl | exact Or.inr rfl)).1
  · replace e := ite_f h3 e
    refine r_aload_n dX5_isDigit_11 rfl ?_
    refine r_getR dX5_isDigit_12 fl_X5_34 rfl (lp_7 hS) (lq_7 hS) hr1 ?_
    refine r_iload_n dX5_isDigit_15 rfl ?_
    obtain ⟨hg4, e⟩ := grd_some e
    refine r_bald dX5_isDigit_16 (lp_2 hS) (lk_2 hS) hg4 ?_
    refine r_bipush (v := 57) dX5_isDigit_17 cb_57 ?_
    refine r_icmp_gt (tgt := 26) dX5_isDigit_19 rfl (fun h5 => ?_) (fun h5 => ?_)
    · replace e := ite_t h5 e
      refine r_iconst (v := 0) dX5_isDigit_26 ci_0 ?_
      cases e
      exact r_ireturn dX5_isDigit_27 rfl (nz_b (by first | exact Or.inl rfl | exact Or.inr rfl)).1
    · replace e := ite_f h5 e
      refine r_iconst (v := 1) dX5_isDigit_22 ci_1 ?_
      refine r_goto (tgt := 27) dX5_isDigit_23 rfl ?_
      cases e
      exact r_ireturn dX5_isDigit_27 rfl (nz_b (by first | exact Or.inl rfl | exact Or.inr rfl)).1
def m_X5_takeNumber_b5 (S : Sk) (z1 : Mm) : Option ((Mm) ⊕ (Mm)) := if (mI z1 7 6) ≤ (mI z1 7 10) then (some (.inr z1)) else ((m_X5_isDigit S (mI z1 7 10) z1).bind (fun q8 => if q8 = 0 then (some (.inr z1)) else ((if (2 : Int32) ≤ ((mI z1 7 10) - (mI z1 7 9)) then (some (mI z1 7 11)) else (gR (sR S 7 5) 2 (grd (mI z1 7 10) 600 (some ((((mI z1 7 11) * (10 : Int32)) + (mI z1 2 (ix (mI z1 7 10)))) - (48 : Int32))))) : Option (Int32)).bind (fun p11 => some (.inl (sI (sI z1 7 11 p11) 7 10 ((mI (sI z1 7 11 p11) 7 10) + (1 : Int32))))))))
def m_X5_takeNumber (S : Sk) (mm : Mm) : Option (Mm) := (whileF FU (m_X5_takeNumber_b5 S) (sI mm 7 11 (0 : Int32))).bind (fun p2 => if ((mI p2 7 10) - (mI p2 7 9)) ≤ (2 : Int32) then (some (sI p2 7 8 (2 : Int32))) else (some (sI p2 7 8 (4 : Int32))))
set_option maxHeartbeats 4000000 in
set_option maxRecDepth 100000 in
theorem c_X5_takeNumber {l : Launch} {G : Gt} {S : Sk} {mm : Mm} (hS : Lay S) {q : Mm} (e : m_X5_takeNumber S mm = some q) : CallOK l G M_X5_takeNumber yX5_takeNumber 1 [vr (some 7)] S mm (none) S q := by
  refine call_of_run rfl rfl rfl (Nat.le_of_ble_eq_true rfl) ?_
  show Run l G M_X5_takeNumber 1 0 [some (vr (some 7))] [] S mm (none) S q
  unfold m_X5_takeNumber at e
  refine r_aload_n dX5_takeNumber_0 rfl ?_
  refine r_iconst (v := 0) dX5_takeNumber_1 ci_0 ?_
  refine r_putI dX5_takeNumber_2 fl_X5_53 ft_5_11 (Or.inl rfl) rfl rfl rfl (lp_7 hS) (lq_7 hS) ?_
  obtain ⟨p2, eb6w, e⟩ := obind e
  have J3a : Run l G M_X5_takeNumber 1 84 [some (vr (some 7))] [] S p2 (none) S q := by
    refine r_aload_n dX5_takeNumber_84 rfl ?_
    refine r_aload_n dX5_takeNumber_85 rfl ?_
    refine r_getI dX5_takeNumber_86 fl_X5_50 rfl (lp_7 hS) (lq_7 hS) ?_
    refine r_aload_n dX5_takeNumber_89 rfl ?_
    refine r_getI dX5_takeNumber_90 fl_X5_47 rfl (lp_7 hS) (lq_7 hS) ?_
    refine r_isub dX5_takeNumber_93 ?_
    refine r_iconst (v := 2) dX5_takeNumber_94 ci_2 ?_
    refine r_icmp_le (tgt := 102) dX5_takeNumber_95 rfl (fun h18 => ?_) (fun h18 => ?_)
    · replace e := ite_t h18 e
      refine r_iconst (v := 2) dX5_takeNumber_102 ci_2 ?_
      refine r_putI dX5_takeNumber_103 fl_X5_44 ft_5_8 (Or.inl rfl) rfl rfl rfl (lp_7 hS) (lq_7 hS) ?_
      cases e
      exact r_return dX5_takeNumber_106 rfl
    · replace e := ite_f h18 e
      refine r_iconst (v := 4) dX5_takeNumber_98 ci_4 ?_
      refine r_goto (tgt := 103) dX5_takeNumber_99 rfl ?_
      refine r_putI dX5_takeNumber_103 fl_X5_44 ft_5_8 (Or.inl rfl) rfl rfl rfl (lp_7 hS) (lq_7 hS) ?_
      cases e
      exact r_return dX5_takeNumber_106 rfl
  have J3 : ∀ pp : Mm, pp = p2 → Run l G M_X5_takeNumber 1 84 [some (vr (some 7))] [] S pp (none) S q := by
    intro pp hpp
    rw [hpp]
    exact J3a
  have J3w : Run l G M_X5_takeNumber 1 5 [some (vr (some 7))] [] S (sI mm 7 11 (0 : Int32)) (none) S q := by
    refine while_run (s := (sI mm 7 11 (0 : Int32))) (Gs := fun (z1 : Mm) => Run l G M_X5_takeNumber 1 5 [some (vr (some 7))] [] S z1 (none) S q) eb6w ?_
    intro z1 x4y eb6 hx5
    unfold m_X5_takeNumber_b5 at eb6
    refine r_aload_n dX5_takeNumber_5 rfl ?_
    refine r_getI dX5_takeNumber_6 fl_X5_50 rfl (lp_7 hS) (lq_7 hS) ?_
    refine r_aload_n dX5_takeNumber_9 rfl ?_
    refine r_getI dX5_takeNumber_10 fl_X5_38 rfl (lp_7 hS) (lq_7 hS) ?_
    refine r_icmp_ge (tgt := 84) dX5_takeNumber_13 rfl (fun h7 => ?_) (fun h7 => ?_)
    · replace eb6 := ite_t h7 eb6
      cases eb6
      exact r_weak (L' := [some (vr (some 7))]) ⟨rfl, trivial⟩ (J3 _ hx5)
    · replace eb6 := ite_f h7 eb6
      refine r_aload_n dX5_takeNumber_16 rfl ?_
      refine r_aload_n dX5_takeNumber_17 rfl ?_
      refine r_getI dX5_takeNumber_18 fl_X5_50 rfl (lp_7 hS) (lq_7 hS) ?_
      obtain ⟨q8, eq9, eb6⟩ := obind eb6
      refine r_callV (as := [_]) (rest := []) dX5_takeNumber_21 ml_X5_127 yV_X5_isDigit (c_X5_isDigit hS eq9) (by decide) rfl (lp_7 hS) (lq_7 hS) (Nat.le_of_ble_eq_true rfl) ?_
      refine r_if_eq (tgt := 84) dX5_takeNumber_24 rfl (fun h10 => ?_) (fun h10 => ?_)
      · replace eb6 := ite_t h10 eb6
        cases eb6
        exact r_weak (L' := [some (vr (some 7))]) ⟨rfl, trivial⟩ (J3 _ hx5)
      · replace eb6 := ite_f h10 eb6
        refine r_aload_n dX5_takeNumber_27 rfl ?_
        refine r_aload_n dX5_takeNumber_28 rfl ?_
        refine r_getI dX5_takeNumber_29 fl_X5_50 rfl (lp_7 hS) (lq_7 hS) ?_
        refine r_aload_n dX5_takeNumber_32 rfl ?_
        refine r_getI dX5_takeNumber_33 fl_X5_47 rfl (lp_7 hS) (lq_7 hS) ?_
        refine r_isub dX5_takeNumber_36 ?_
        refine r_iconst (v := 2) dX5_takeNumber_37 ci_2 ?_
        obtain ⟨p11, ep13, eb6⟩ := obind eb6
        have J12a : Run l G M_X5_takeNumber 1 68 [some (vr (some 7))] [vi p11, vr (some 7)] S z1 (none) S q := by
          refine r_putI dX5_takeNumber_68 fl_X5_53 ft_5_11 (Or.inl rfl) rfl rfl rfl (lp_7 hS) (lq_7 hS) ?_
          refine r_aload_n dX5_takeNumber_71 rfl ?_
          refine r_dup dX5_takeNumber_72 rfl ?_
          refine r_getI dX5_takeNumber_73 fl_X5_50 rfl (lp_7 hS) (lq_7 hS) ?_
          refine r_iconst (v := 1) dX5_takeNumber_76 ci_1 ?_
          refine r_iadd dX5_takeNumber_77 ?_
          refine r_putI dX5_takeNumber_78 fl_X5_50 ft_5_10 (Or.inl rfl) rfl rfl rfl (lp_7 hS) (lq_7 hS) ?_
          refine r_goto (tgt := 5) dX5_takeNumber_81 rfl ?_
          cases eb6
          exact r_weak (L' := [some (vr (some 7))]) ⟨rfl, trivial⟩ hx5
        have J12 : ∀ pp : Int32, pp = p11 → Run l G M_X5_takeNumber 1 68 [some (vr (some 7))] [vi pp, vr (some 7)] S z1 (none) S q := by
          intro pp hpp
          rw [hpp]
          exact J12a
        refine r_icmp_ge (tgt := 64) dX5_takeNumber_38 rfl (fun h15 => ?_) (fun h15 => ?_)
        · replace ep13 := ite_t h15 ep13
          refine r_aload_n dX5_takeNumber_64 rfl ?_
          refine r_getI dX5_takeNumber_65 fl_X5_53 rfl (lp_7 hS) (lq_7 hS) ?_
          exact r_weak (L' := [some (vr (some 7))]) ⟨rfl, trivial⟩ (J12 _ (Option.some.inj ep13))
        · replace ep13 := ite_f h15 ep13
          refine r_aload_n dX5_takeNumber_41 rfl ?_
          refine r_getI dX5_takeNumber_42 fl_X5_53 rfl (lp_7 hS) (lq_7 hS) ?_
          refine r_bipush (v := 10) dX5_takeNumber_45 cb_10 ?_
          refine r_imul dX5_takeNumber_47 ?_
          refine r_aload_n dX5_takeNumber_48 rfl ?_
          obtain ⟨hr16, ep13⟩ := gR_some ep13
          refine r_getR dX5_takeNumber_49 fl_X5_34 rfl (lp_7 hS) (lq_7 hS) hr16 ?_
          refine r_aload_n dX5_takeNumber_52 rfl ?_
          refine r_getI dX5_takeNumber_53 fl_X5_50 rfl (lp_7 hS) (lq_7 hS) ?_
          obtain ⟨hg17, ep13⟩ := grd_some ep13
          refine r_bald dX5_takeNumber_56 (lp_2 hS) (lk_2 hS) hg17 ?_
          refine r_iadd dX5_takeNumber_57 ?_
          refine r_bipush (v := 48) dX5_takeNumber_58 cb_48 ?_
          refine r_isub dX5_takeNumber_60 ?_
          refine r_goto (tgt := 68) dX5_takeNumber_61 rfl ?_
          exact r_weak (L' := [some (vr (some 7))]) ⟨rfl, trivial⟩ (J12 _ (Option.some.inj ep13))
  exact r_weak (L' := [some (vr (some 7))]) ⟨rfl, trivial⟩ J3w
def m_X5_nextToken_b8 (S : Sk) (z1 : Mm) : Option ((Mm) ⊕ (Mm)) := if (mI z1 7 6) ≤ (mI z1 7 9) then (some (.inr z1)) else (gR (sR S 7 5) 2 (grd (mI z1 7 9) 600 (bS (if (mI z1 2 (ix (mI z1 7 9))) = (32 : Int32) then (some (.inl ())) else (grd (mI z1 7 9) 600 (if (mI z1 2 (ix (mI z1 7 9))) = (10 : Int32) then (some (.inl ())) else (some (.inr (.inr z1))))) : Option ((Unit) ⊕ ((Mm) ⊕ (Mm)))) (fun p10 => some (.inl (sI z1 7 9 ((mI z1 7 9) + (1 : Int32))))))))
def m_X5_nextToken_b103 (S : Sk) (z32 : Mm) : Option ((Mm) ⊕ (Mm)) := if (mI z32 7 6) ≤ (mI z32 7 10) then (some (.inr z32)) else ((m_X5_isLetter S (mI z32 7 10) z32).bind (fun q39 => if q39 = 0 then (some (.inr z32)) else (some (.inl (sI z32 7 10 ((mI z32 7 10) + (1 : Int32)))))))
def m_X5_nextToken (S : Sk) (mm : Mm) : Option (Mm) := (whileF FU (m_X5_nextToken_b8 S) (sI mm 7 9 (mI mm 7 10))).bind (fun p2 => if (mI (sI p2 7 10 (mI p2 7 9)) 7 9) < (mI (sI p2 7 10 (mI p2 7 9)) 7 6) then ((m_X5_isLetter S (mI (sI p2 7 10 (mI p2 7 9)) 7 9) (sI p2 7 10 (mI p2 7 9))).bind (fun q18 => if q18 = 0 then ((m_X5_isDigit S (mI (sI p2 7 10 (mI p2 7 9)) 7 9) (sI p2 7 10 (mI p2 7 9))).bind (fun q21 => if q21 = 0 then (gR (sR S 7 5) 2 (grd (mI (sI p2 7 10 (mI p2 7 9)) 7 9) 600 (some (sI (sI (sI p2 7 10 (mI p2 7 9)) 7 8 (if (mI (sI p2 7 10 (mI p2 7 9)) 2 (ix (mI (sI p2 7 10 (mI p2 7 9)) 7 9))) = (59 : Int32) then (3 : Int32) else (4 : Int32))) 7 10 ((mI (sI (sI p2 7 10 (mI p2 7 9)) 7 8 (if (mI (sI p2 7 10 (mI p2 7 9)) 2 (ix (mI (sI p2 7 10 (mI p2 7 9)) 7 9))) = (59 : Int32) then (3 : Int32) else (4 : Int32))) 7 10) + (1 : Int32)))))) else ((m_X5_takeNumber S (sI p2 7 10 (mI p2 7 9))).bind (fun q30 => some q30)))) else ((whileF FU (m_X5_nextToken_b103 S) (sI (sI p2 7 10 (mI p2 7 9)) 7 8 (1 : Int32))).bind (fun p33 => some p33)))) else (some (sI (sI p2 7 10 (mI p2 7 9)) 7 8 (0 : Int32))))
set_option maxHeartbeats 4000000 in
set_option maxRecDepth 100000 in
theorem c_X5_nextToken {l : Launch} {G : Gt} {S : Sk} {mm : Mm} (hS : Lay S) {q : Mm} (e : m_X5_nextToken S mm = some q) : CallOK l G M_X5_nextToken yX5_nextToken 2 [vr (some 7)] S mm (none) S q := by
  refine call_of_run rfl rfl rfl (Nat.le_of_ble_eq_true rfl) ?_
  show Run l G M_X5_nextToken 2 0 [some (vr (some 7))] [] S mm (none) S q
  unfold m_X5_nextToken at e
  refine r_aload_n dX5_nextToken_0 rfl ?_
  refine r_aload_n dX5_nextToken_1 rfl ?_
  refine r_getI dX5_nextToken_2 fl_X5_50 rfl (lp_7 hS) (lq_7 hS) ?_
  refine r_putI dX5_nextToken_5 fl_X5_47 ft_5_9 (Or.inl rfl) rfl rfl rfl (lp_7 hS) (lq_7 hS) ?_
  obtain ⟨p2, eb6w, e⟩ := obind e
  have J3a : Run l G M_X5_nextToken 2 60 [some (vr (some 7))] [] S p2 (none) S q := by
    refine r_aload_n dX5_nextToken_60 rfl ?_
    refine r_aload_n dX5_nextToken_61 rfl ?_
    refine r_getI dX5_nextToken_62 fl_X5_47 rfl (lp_7 hS) (lq_7 hS) ?_
    refine r_putI dX5_nextToken_65 fl_X5_50 ft_5_10 (Or.inl rfl) rfl rfl rfl (lp_7 hS) (lq_7 hS) ?_
    refine r_aload_n dX5_nextToken_68 rfl ?_
    refine r_getI dX5_nextToken_69 fl_X5_47 rfl (lp_7 hS) (lq_7 hS) ?_
    refine r_aload_n dX5_nextToken_72 rfl ?_
    refine r_getI dX5_nextToken_73 fl_X5_38 rfl (lp_7 hS) (lq_7 hS) ?_
    refine r_icmp_lt (tgt := 87) dX5_nextToken_76 rfl (fun h17 => ?_) (fun h17 => ?_)
    · replace e := ite_t h17 e
      refine r_aload_n dX5_nextToken_87 rfl ?_
      refine r_aload_n dX5_nextToken_88 rfl ?_
      refine r_getI dX5_nextToken_89 fl_X5_47 rfl (lp_7 hS) (lq_7 hS) ?_
      obtain ⟨q18, eq19, e⟩ := obind e
      refine r_callV (as := [_]) (rest := []) dX5_nextToken_92 ml_X5_124 yV_X5_isLetter (c_X5_isLetter hS eq19) (by decide) rfl (lp_7 hS) (lq_7 hS) (Nat.le_of_ble_eq_true rfl) ?_
      refine r_if_eq (tgt := 138) dX5_nextToken_95 rfl (fun h20 => ?_) (fun h20 => ?_)
      · replace e := ite_t h20 e
        refine r_aload_n dX5_nextToken_138 rfl ?_
        refine r_aload_n dX5_nextToken_139 rfl ?_
        refine r_getI dX5_nextToken_140 fl_X5_47 rfl (lp_7 hS) (lq_7 hS) ?_
        obtain ⟨q21, eq22, e⟩ := obind e
        refine r_callV (as := [_]) (rest := []) dX5_nextToken_143 ml_X5_127 yV_X5_isDigit (c_X5_isDigit hS eq22) (by decide) rfl (lp_7 hS) (lq_7 hS) (Nat.le_of_ble_eq_true rfl) ?_
        refine r_if_eq (tgt := 156) dX5_nextToken_146 rfl (fun h23 => ?_) (fun h23 => ?_)
        · replace e := ite_t h23 e
          refine r_aload_n dX5_nextToken_156 rfl ?_
          refine r_aload_n dX5_nextToken_157 rfl ?_
          obtain ⟨hr24, e⟩ := gR_some e
          refine r_getR dX5_nextToken_158 fl_X5_34 rfl (lp_7 hS) (lq_7 hS) hr24 ?_
          refine r_aload_n dX5_nextToken_161 rfl ?_
          refine r_getI dX5_nextToken_162 fl_X5_47 rfl (lp_7 hS) (lq_7 hS) ?_
          obtain ⟨hg25, e⟩ := grd_some e
          refine r_bald dX5_nextToken_165 (lp_2 hS) (lk_2 hS) hg25 ?_
          refine r_bipush (v := 59) dX5_nextToken_166 cb_59 ?_
          have J28 : ∀ (w27 : Int32), w27 = (if (mI (sI p2 7 10 (mI p2 7 9)) 2 (ix (mI (sI p2 7 10 (mI p2 7 9)) 7 9))) = (59 : Int32) then (3 : Int32) else (4 : Int32)) → Run l G M_X5_nextToken 2 176 [some (vr (some 7))] [vi w27, vr (some 7)] S (sI p2 7 10 (mI p2 7 9)) (none) S q := by
            intro w27 hw29
            subst hw29
            refine r_putI dX5_nextToken_176 fl_X5_44 ft_5_8 (Or.inl rfl) rfl rfl rfl (lp_7 hS) (lq_7 hS) ?_
            refine r_aload_n dX5_nextToken_179 rfl ?_
            refine r_dup dX5_nextToken_180 rfl ?_
            refine r_getI dX5_nextToken_181 fl_X5_50 rfl (lp_7 hS) (lq_7 hS) ?_
            refine r_iconst (v := 1) dX5_nextToken_184 ci_1 ?_
            refine r_iadd dX5_nextToken_185 ?_
            refine r_putI dX5_nextToken_186 fl_X5_50 ft_5_10 (Or.inl rfl) rfl rfl rfl (lp_7 hS) (lq_7 hS) ?_
            cases e
            exact r_return dX5_nextToken_189 rfl
          refine r_icmp_ne (tgt := 175) dX5_nextToken_168 rfl (fun h26 => ?_) (fun h26 => ?_)
          · refine r_iconst (v := 4) dX5_nextToken_175 ci_4 ?_
            exact r_weak (L' := [some (vr (some 7))]) ⟨rfl, trivial⟩ (J28 _ (Eq.symm (if_neg h26)))
          · refine r_iconst (v := 3) dX5_nextToken_171 ci_3 ?_
            refine r_goto (tgt := 176) dX5_nextToken_172 rfl ?_
            exact r_weak (L' := [some (vr (some 7))]) ⟨rfl, trivial⟩ (J28 _ (Eq.symm (if_pos h26)))
        · replace e := ite_f h23 e
          refine r_aload_n dX5_nextToken_149 rfl ?_
          obtain ⟨q30, eq31, e⟩ := obind e
          refine r_callV (as := []) (rest := []) dX5_nextToken_150 ml_X5_130 yV_X5_takeNumber (c_X5_takeNumber hS eq31) (by decide) rfl (lp_7 hS) (lq_7 hS) (Nat.le_of_ble_eq_true rfl) ?_
          refine r_goto (tgt := 189) dX5_nextToken_153 rfl ?_
          cases e
          exact r_return dX5_nextToken_189 rfl
      · replace e := ite_f h20 e
        refine r_aload_n dX5_nextToken_98 rfl ?_
        refine r_iconst (v := 1) dX5_nextToken_99 ci_1 ?_
        refine r_putI dX5_nextToken_100 fl_X5_44 ft_5_8 (Or.inl rfl) rfl rfl rfl (lp_7 hS) (lq_7 hS) ?_
        obtain ⟨p33, eb37w, e⟩ := obind e
        have J34a : Run l G M_X5_nextToken 2 189 [none] [] S p33 (none) S q := by
          cases e
          exact r_return dX5_nextToken_189 rfl
        have J34 : ∀ pp : Mm, pp = p33 → Run l G M_X5_nextToken 2 189 [none] [] S pp (none) S q := by
          intro pp hpp
          rw [hpp]
          exact J34a
        have J34w : Run l G M_X5_nextToken 2 103 [some (vr (some 7))] [] S (sI (sI p2 7 10 (mI p2 7 9)) 7 8 (1 : Int32)) (none) S q := by
          refine while_run (s := (sI (sI p2 7 10 (mI p2 7 9)) 7 8 (1 : Int32))) (Gs := fun (z32 : Mm) => Run l G M_X5_nextToken 2 103 [some (vr (some 7))] [] S z32 (none) S q) eb37w ?_
          intro z32 x35y eb37 hx36
          unfold m_X5_nextToken_b103 at eb37
          refine r_aload_n dX5_nextToken_103 rfl ?_
          refine r_getI dX5_nextToken_104 fl_X5_50 rfl (lp_7 hS) (lq_7 hS) ?_
          refine r_aload_n dX5_nextToken_107 rfl ?_
          refine r_getI dX5_nextToken_108 fl_X5_38 rfl (lp_7 hS) (lq_7 hS) ?_
          refine r_icmp_ge (tgt := 189) dX5_nextToken_111 rfl (fun h38 => ?_) (fun h38 => ?_)
          · replace eb37 := ite_t h38 eb37
            cases eb37
            exact r_weak (L' := [none]) trivial (J34 _ hx36)
          · replace eb37 := ite_f h38 eb37
            refine r_aload_n dX5_nextToken_114 rfl ?_
            refine r_aload_n dX5_nextToken_115 rfl ?_
            refine r_getI dX5_nextToken_116 fl_X5_50 rfl (lp_7 hS) (lq_7 hS) ?_
            obtain ⟨q39, eq40, eb37⟩ := obind eb37
            refine r_callV (as := [_]) (rest := []) dX5_nextToken_119 ml_X5_124 yV_X5_isLetter (c_X5_isLetter hS eq40) (by decide) rfl (lp_7 hS) (lq_7 hS) (Nat.le_of_ble_eq_true rfl) ?_
            refine r_if_eq (tgt := 189) dX5_nextToken_122 rfl (fun h41 => ?_) (fun h41 => ?_)
            · replace eb37 := ite_t h41 eb37
              cases eb37
              exact r_weak (L' := [none]) trivial (J34 _ hx36)
            · replace eb37 := ite_f h41 eb37
              refine r_aload_n dX5_nextToken_125 rfl ?_
              refine r_dup dX5_nextToken_126 rfl ?_
              refine r_getI dX5_nextToken_127 fl_X5_50 rfl (lp_7 hS) (lq_7 hS) ?_
              refine r_iconst (v := 1) dX5_nextToken_130 ci_1 ?_
              refine r_iadd dX5_nextToken_131 ?_
              refine r_putI dX5_nextToken_132 fl_X5_50 ft_5_10 (Or.inl rfl) rfl rfl rfl (lp_7 hS) (lq_7 hS) ?_
              refine r_goto (tgt := 103) dX5_nextToken_135 rfl ?_
              cases eb37
              exact r_weak (L' := [some (vr (some 7))]) ⟨rfl, trivial⟩ hx36
        exact r_weak (L' := [some (vr (some 7))]) ⟨rfl, trivial⟩ J34w
    · replace e := ite_f h17 e
      refine r_aload_n dX5_nextToken_79 rfl ?_
      refine r_iconst (v := 0) dX5_nextToken_80 ci_0 ?_
      refine r_putI dX5_nextToken_81 fl_X5_44 ft_5_8 (Or.inl rfl) rfl rfl rfl (lp_7 hS) (lq_7 hS) ?_
      refine r_goto (tgt := 189) dX5_nextToken_84 rfl ?_
      cases e
      exact r_return dX5_nextToken_189 rfl
  have J3 : ∀ pp : Mm, pp = p2 → Run l G M_X5_nextToken 2 60 [some (vr (some 7))] [] S pp (none) S q := by
    intro pp hpp
    rw [hpp]
    exact J3a
  have J3w : Run l G M_X5_nextToken 2 8 [some (vr (some 7))] [] S (sI mm 7 9 (mI mm 7 10)) (none) S q := by
    refine while_run (s := (sI mm 7 9 (mI mm 7 10))) (Gs := fun (z1 : Mm) => Run l G M_X5_nextToken 2 8 [some (vr (some 7))] [] S z1 (none) S q) eb6w ?_
    intro z1 x4y eb6 hx5
    unfold m_X5_nextToken_b8 at eb6
    refine r_aload_n dX5_nextToken_8 rfl ?_
    refine r_getI dX5_nextToken_9 fl_X5_47 rfl (lp_7 hS) (lq_7 hS) ?_
    refine r_aload_n dX5_nextToken_12 rfl ?_
    refine r_getI dX5_nextToken_13 fl_X5_38 rfl (lp_7 hS) (lq_7 hS) ?_
    refine r_icmp_ge (tgt := 60) dX5_nextToken_16 rfl (fun h7 => ?_) (fun h7 => ?_)
    · replace eb6 := ite_t h7 eb6
      cases eb6
      exact r_weak (L' := [some (vr (some 7))]) ⟨rfl, trivial⟩ (J3 _ hx5)
    · replace eb6 := ite_f h7 eb6
      refine r_aload_n dX5_nextToken_19 rfl ?_
      obtain ⟨hr8, eb6⟩ := gR_some eb6
      refine r_getR dX5_nextToken_20 fl_X5_34 rfl (lp_7 hS) (lq_7 hS) hr8 ?_
      refine r_aload_n dX5_nextToken_23 rfl ?_
      refine r_getI dX5_nextToken_24 fl_X5_47 rfl (lp_7 hS) (lq_7 hS) ?_
      obtain ⟨hg9, eb6⟩ := grd_some eb6
      refine r_bald dX5_nextToken_27 (lp_2 hS) (lk_2 hS) hg9 ?_
      refine r_bipush (v := 32) dX5_nextToken_28 cb_32 ?_
      obtain ⟨x13, ep12, elx13, erx13⟩ := bS_some eb6
      have J11 : ∀ p10 : Unit, x13 = .inl p10 → Run l G M_X5_nextToken 2 47 [some (vr (some 7))] [] S z1 (none) S q := by
        intro p10 hp10
        replace eb6 := elx13 p10 hp10
        refine r_aload_n dX5_nextToken_47 rfl ?_
        refine r_dup dX5_nextToken_48 rfl ?_
        refine r_getI dX5_nextToken_49 fl_X5_47 rfl (lp_7 hS) (lq_7 hS) ?_
        refine r_iconst (v := 1) dX5_nextToken_52 ci_1 ?_
        refine r_iadd dX5_nextToken_53 ?_
        refine r_putI dX5_nextToken_54 fl_X5_47 ft_5_9 (Or.inl rfl) rfl rfl rfl (lp_7 hS) (lq_7 hS) ?_
        refine r_goto (tgt := 8) dX5_nextToken_57 rfl ?_
        cases eb6
        exact r_weak (L' := [some (vr (some 7))]) ⟨rfl, trivial⟩ hx5
      refine r_icmp_eq (tgt := 47) dX5_nextToken_30 rfl (fun h14 => ?_) (fun h14 => ?_)
      · replace ep12 := ite_t h14 ep12
        cases ep12
        exact r_weak (L' := [some (vr (some 7))]) ⟨rfl, trivial⟩ (J11 _ rfl)
      · replace ep12 := ite_f h14 ep12
        refine r_aload_n dX5_nextToken_33 rfl ?_
        refine r_getR dX5_nextToken_34 fl_X5_34 rfl (lp_7 hS) (lq_7 hS) hr8 ?_
        refine r_aload_n dX5_nextToken_37 rfl ?_
        refine r_getI dX5_nextToken_38 fl_X5_47 rfl (lp_7 hS) (lq_7 hS) ?_
        obtain ⟨hg15, ep12⟩ := grd_some ep12
        refine r_bald dX5_nextToken_41 (lp_2 hS) (lk_2 hS) hg15 ?_
        refine r_bipush (v := 10) dX5_nextToken_42 cb_10 ?_
        refine r_icmp_ne (tgt := 60) dX5_nextToken_44 rfl (fun h16 => ?_) (fun h16 => ?_)
        · replace ep12 := ite_f h16 ep12
          cases ep12
          have eb6 := congrArg some (erx13 _ rfl)
          cases eb6
          exact r_weak (L' := [some (vr (some 7))]) ⟨rfl, trivial⟩ (J3 _ hx5)
        · replace ep12 := ite_t h16 ep12
          cases ep12
          exact r_weak (L' := [some (vr (some 7))]) ⟨rfl, trivial⟩ (J11 _ rfl)
  exact r_weak (L' := [some (vr (some 7))]) ⟨rfl, trivial⟩ J3w
def m_X5_countyWord (a0 : Int32) : Option (Nat) := if a0 = (0 : Int32) then (some 1) else (if a0 = (1 : Int32) then (some 2) else (if a0 = (2 : Int32) then (some 3) else (if a0 = (3 : Int32) then (some 4) else (if a0 = (4 : Int32) then (some 5) else (some 6)))))
set_option maxHeartbeats 4000000 in
set_option maxRecDepth 100000 in
theorem c_X5_countyWord {l : Launch} {G : Gt} {S : Sk} {a0 : Int32} {mm : Mm} {q : Nat} (e : m_X5_countyWord a0 = some q) : CallOK l G M_X5_countyWord yX5_countyWord 0 [vi a0] S mm (some (vx q)) S mm := by
  refine call_of_run rfl rfl rfl (Nat.le_of_ble_eq_true rfl) ?_
  show Run l G M_X5_countyWord 0 0 [some (vi a0)] [] S mm (some (vx q)) S mm
  unfold m_X5_countyWord at e
  refine r_iload_n dX5_countyWord_0 rfl ?_
  by_cases h1 : a0 = (0 : Int32)
  · replace e := ite_t h1 e
    refine r_table_in (tgt := 36) dX5_countyWord_1 (by rw [h1]; decide) (by rw [h1]; decide) (by rw [h1]; rfl) rfl ?_
    refine r_ldcs (n := 0) dX5_countyWord_36 rfl (by decide) rfl ?_
    cases e
    exact r_areturn dX5_countyWord_38 rfl (Or.inl ⟨_, rfl⟩) (Or.inr ⟨_, rfl⟩)
  replace e := ite_f h1 e
  by_cases h2 : a0 = (1 : Int32)
  · replace e := ite_t h2 e
    refine r_table_in (tgt := 39) dX5_countyWord_1 (by rw [h2]; decide) (by rw [h2]; decide) (by rw [h2]; rfl) rfl ?_
    refine r_ldcs (n := 1) dX5_countyWord_39 rfl (by decide) rfl ?_
    cases e
    exact r_areturn dX5_countyWord_41 rfl (Or.inl ⟨_, rfl⟩) (Or.inr ⟨_, rfl⟩)
  replace e := ite_f h2 e
  by_cases h3 : a0 = (2 : Int32)
  · replace e := ite_t h3 e
    refine r_table_in (tgt := 42) dX5_countyWord_1 (by rw [h3]; decide) (by rw [h3]; decide) (by rw [h3]; rfl) rfl ?_
    refine r_ldcs (n := 2) dX5_countyWord_42 rfl (by decide) rfl ?_
    cases e
    exact r_areturn dX5_countyWord_44 rfl (Or.inl ⟨_, rfl⟩) (Or.inr ⟨_, rfl⟩)
  replace e := ite_f h3 e
  by_cases h4 : a0 = (3 : Int32)
  · replace e := ite_t h4 e
    refine r_table_in (tgt := 45) dX5_countyWord_1 (by rw [h4]; decide) (by rw [h4]; decide) (by rw [h4]; rfl) rfl ?_
    refine r_ldcs (n := 3) dX5_countyWord_45 rfl (by decide) rfl ?_
    cases e
    exact r_areturn dX5_countyWord_47 rfl (Or.inl ⟨_, rfl⟩) (Or.inr ⟨_, rfl⟩)
  replace e := ite_f h4 e
  by_cases h5 : a0 = (4 : Int32)
  · replace e := ite_t h5 e
    refine r_table_in (tgt := 48) dX5_countyWord_1 (by rw [h5]; decide) (by rw [h5]; decide) (by rw [h5]; rfl) rfl ?_
    refine r_ldcs (n := 4) dX5_countyWord_48 rfl (by decide) rfl ?_
    cases e
    exact r_areturn dX5_countyWord_50 rfl (Or.inl ⟨_, rfl⟩) (Or.inr ⟨_, rfl⟩)
  replace e := ite_f h5 e
  have ho1 : (a0).toInt < 0 ∨ 4 < (a0).toInt := by
    have nh1 := lv_neT (a := 0) h1 (by decide)
    have nh2 := lv_neT (a := 1) h2 (by decide)
    have nh3 := lv_neT (a := 2) h3 (by decide)
    have nh4 := lv_neT (a := 3) h4 (by decide)
    have nh5 := lv_neT (a := 4) h5 (by decide)
    omega
  refine r_table_out (tgt := 51) dX5_countyWord_1 ho1 rfl ?_
  refine r_ldcs (n := 5) dX5_countyWord_51 rfl (by decide) rfl ?_
  cases e
  exact r_areturn dX5_countyWord_53 rfl (Or.inl ⟨_, rfl⟩) (Or.inr ⟨_, rfl⟩)
def m_X5_termWord (a0 : Int32) : Option (Nat) := if a0 = (0 : Int32) then (some 7) else (if a0 = (1 : Int32) then (some 8) else (if a0 = (2 : Int32) then (some 9) else (if a0 = (3 : Int32) then (some 10) else (if a0 = (4 : Int32) then (some 11) else (if a0 = (5 : Int32) then (some 12) else (if a0 = (6 : Int32) then (some 13) else (some 6)))))))
set_option maxHeartbeats 4000000 in
set_option maxRecDepth 100000 in
theorem c_X5_termWord {l : Launch} {G : Gt} {S : Sk} {a0 : Int32} {mm : Mm} {q : Nat} (e : m_X5_termWord a0 = some q) : CallOK l G M_X5_termWord yX5_termWord 0 [vi a0] S mm (some (vx q)) S mm := by
  refine call_of_run rfl rfl rfl (Nat.le_of_ble_eq_true rfl) ?_
  show Run l G M_X5_termWord 0 0 [some (vi a0)] [] S mm (some (vx q)) S mm
  unfold m_X5_termWord at e
  refine r_iload_n dX5_termWord_0 rfl ?_
  by_cases h1 : a0 = (0 : Int32)
  · replace e := ite_t h1 e
    refine r_table_in (tgt := 44) dX5_termWord_1 (by rw [h1]; decide) (by rw [h1]; decide) (by rw [h1]; rfl) rfl ?_
    refine r_ldcs (n := 6) dX5_termWord_44 rfl (by decide) rfl ?_
    cases e
    exact r_areturn dX5_termWord_46 rfl (Or.inl ⟨_, rfl⟩) (Or.inr ⟨_, rfl⟩)
  replace e := ite_f h1 e
  by_cases h2 : a0 = (1 : Int32)
  · replace e := ite_t h2 e
    refine r_table_in (tgt := 47) dX5_termWord_1 (by rw [h2]; decide) (by rw [h2]; decide) (by rw [h2]; rfl) rfl ?_
    refine r_ldcs (n := 7) dX5_termWord_47 rfl (by decide) rfl ?_
    cases e
    exact r_areturn dX5_termWord_49 rfl (Or.inl ⟨_, rfl⟩) (Or.inr ⟨_, rfl⟩)
  replace e := ite_f h2 e
  by_cases h3 : a0 = (2 : Int32)
  · replace e := ite_t h3 e
    refine r_table_in (tgt := 50) dX5_termWord_1 (by rw [h3]; decide) (by rw [h3]; decide) (by rw [h3]; rfl) rfl ?_
    refine r_ldcs (n := 8) dX5_termWord_50 rfl (by decide) rfl ?_
    cases e
    exact r_areturn dX5_termWord_52 rfl (Or.inl ⟨_, rfl⟩) (Or.inr ⟨_, rfl⟩)
  replace e := ite_f h3 e
  by_cases h4 : a0 = (3 : Int32)
  · replace e := ite_t h4 e
    refine r_table_in (tgt := 53) dX5_termWord_1 (by rw [h4]; decide) (by rw [h4]; decide) (by rw [h4]; rfl) rfl ?_
    refine r_ldcs (n := 9) dX5_termWord_53 rfl (by decide) rfl ?_
    cases e
    exact r_areturn dX5_termWord_55 rfl (Or.inl ⟨_, rfl⟩) (Or.inr ⟨_, rfl⟩)
  replace e := ite_f h4 e
  by_cases h5 : a0 = (4 : Int32)
  · replace e := ite_t h5 e
    refine r_table_in (tgt := 56) dX5_termWord_1 (by rw [h5]; decide) (by rw [h5]; decide) (by rw [h5]; rfl) rfl ?_
    refine r_ldcs (n := 10) dX5_termWord_56 rfl (by decide) rfl ?_
    cases e
    exact r_areturn dX5_termWord_58 rfl (Or.inl ⟨_, rfl⟩) (Or.inr ⟨_, rfl⟩)
  replace e := ite_f h5 e
  by_cases h6 : a0 = (5 : Int32)
  · replace e := ite_t h6 e
    refine r_table_in (tgt := 59) dX5_termWord_1 (by rw [h6]; decide) (by rw [h6]; decide) (by rw [h6]; rfl) rfl ?_
    refine r_ldcs (n := 11) dX5_termWord_59 rfl (by decide) rfl ?_
    cases e
    exact r_areturn dX5_termWord_61 rfl (Or.inl ⟨_, rfl⟩) (Or.inr ⟨_, rfl⟩)
  replace e := ite_f h6 e
  by_cases h7 : a0 = (6 : Int32)
  · replace e := ite_t h7 e
    refine r_table_in (tgt := 62) dX5_termWord_1 (by rw [h7]; decide) (by rw [h7]; decide) (by rw [h7]; rfl) rfl ?_
    refine r_ldcs (n := 12) dX5_termWord_62 rfl (by decide) rfl ?_
    cases e
    exact r_areturn dX5_termWord_64 rfl (Or.inl ⟨_, rfl⟩) (Or.inr ⟨_, rfl⟩)
  replace e := ite_f h7 e
  have ho1 : (a0).toInt < 0 ∨ 6 < (a0).toInt := by
    have nh1 := lv_neT (a := 0) h1 (by decide)
    have nh2 := lv_neT (a := 1) h2 (by decide)
    have nh3 := lv_neT (a := 2) h3 (by decide)
    have nh4 := lv_neT (a := 3) h4 (by decide)
    have nh5 := lv_neT (a := 4) h5 (by decide)
    have nh6 := lv_neT (a := 5) h6 (by decide)
    have nh7 := lv_neT (a := 6) h7 (by decide)
    omega
  refine r_table_out (tgt := 65) dX5_termWord_1 ho1 rfl ?_
  refine r_ldcs (n := 5) dX5_termWord_65 rfl (by decide) rfl ?_
  cases e
  exact r_areturn dX5_termWord_67 rfl (Or.inl ⟨_, rfl⟩) (Or.inr ⟨_, rfl⟩)
def m_X5_wordOf (a0 : Int32) (a1 : Int32) : Option (Nat) := if a0 = (0 : Int32) then ((m_X5_countyWord a1).bind (fun q2 => some q2)) else (if a0 = (1 : Int32) then ((m_X5_termWord a1).bind (fun q5 => some q5)) else (if a0 = (2 : Int32) then (if a1 = 0 then (some 14) else (some 6)) else (if a1 = (1 : Int32) then (some 15) else (if a1 = 0 then (some 16) else (some 6)))))
set_option maxHeartbeats 4000000 in
set_option maxRecDepth 100000 in
theorem c_X5_wordOf {l : Launch} {G : Gt} {S : Sk} {a0 : Int32} {a1 : Int32} {mm : Mm} {q : Nat} (e : m_X5_wordOf a0 a1 = some q) : CallOK l G M_X5_wordOf yX5_wordOf 1 [vi a0, vi a1] S mm (some (vx q)) S mm := by
  refine call_of_run rfl rfl rfl (Nat.le_of_ble_eq_true rfl) ?_
  show Run l G M_X5_wordOf 1 0 [some (vi a0), some (vi a1)] [] S mm (some (vx q)) S mm
  unfold m_X5_wordOf at e
  refine r_iload_n dX5_wordOf_0 rfl ?_
  by_cases h1 : a0 = (0 : Int32)
  · replace e := ite_t h1 e
    refine r_table_in (tgt := 28) dX5_wordOf_1 (by rw [h1]; decide) (by rw [h1]; decide) (by rw [h1]; rfl) rfl ?_
    refine r_iload_n dX5_wordOf_28 rfl ?_
    obtain ⟨q2, eq3, e⟩ := obind e
    refine r_callS (as := [_]) (rest := []) dX5_wordOf_29 ml_X5_133 yS_X5_countyWord (c_X5_countyWord eq3) (by decide) rfl (Nat.le_of_ble_eq_true rfl) ?_
    cases e
    exact r_areturn dX5_wordOf_32 rfl (Or.inl ⟨_, rfl⟩) (Or.inr ⟨_, rfl⟩)
  replace e := ite_f h1 e
  by_cases h4 : a0 = (1 : Int32)
  · replace e := ite_t h4 e
    refine r_table_in (tgt := 33) dX5_wordOf_1 (by rw [h4]; decide) (by rw [h4]; decide) (by rw [h4]; rfl) rfl ?_
    refine r_iload_n dX5_wordOf_33 rfl ?_
    obtain ⟨q5, eq6, e⟩ := obind e
    refine r_callS (as := [_]) (rest := []) dX5_wordOf_34 ml_X5_137 yS_X5_termWord (c_X5_termWord eq6) (by decide) rfl (Nat.le_of_ble_eq_true rfl) ?_
    cases e
    exact r_areturn dX5_wordOf_37 rfl (Or.inl ⟨_, rfl⟩) (Or.inr ⟨_, rfl⟩)
  replace e := ite_f h4 e
  by_cases h7 : a0 = (2 : Int32)
  · replace e := ite_t h7 e
    refine r_table_in (tgt := 38) dX5_wordOf_1 (by rw [h7]; decide) (by rw [h7]; decide) (by rw [h7]; rfl) rfl ?_
    refine r_iload_n dX5_wordOf_38 rfl ?_
    refine r_if_ne (tgt := 47) dX5_wordOf_39 rfl (fun h8 => ?_) (fun h8 => ?_)
    · replace e := ite_f h8 e
      refine r_ldcs (n := 5) dX5_wordOf_47 rfl (by decide) rfl ?_
      cases e
      exact r_areturn dX5_wordOf_49 rfl (Or.inl ⟨_, rfl⟩) (Or.inr ⟨_, rfl⟩)
    · replace e := ite_t h8 e
      refine r_ldcs (n := 13) dX5_wordOf_42 rfl (by decide) rfl ?_
      refine r_goto (tgt := 49) dX5_wordOf_44 rfl ?_
      cases e
      exact r_areturn dX5_wordOf_49 rfl (Or.inl ⟨_, rfl⟩) (Or.inr ⟨_, rfl⟩)
  replace e := ite_f h7 e
  have ho1 : (a0).toInt < 0 ∨ 2 < (a0).toInt := by
    have nh1 := lv_neT (a := 0) h1 (by decide)
    have nh4 := lv_neT (a := 1) h4 (by decide)
    have nh7 := lv_neT (a := 2) h7 (by decide)
    omega
  refine r_table_out (tgt := 50) dX5_wordOf_1 ho1 rfl ?_
  refine r_iload_n dX5_wordOf_50 rfl ?_
  refine r_iconst (v := 1) dX5_wordOf_51 ci_1 ?_
  refine r_icmp_ne (tgt := 60) dX5_wordOf_52 rfl (fun h9 => ?_) (fun h9 => ?_)
  · replace e := ite_f h9 e
    refine r_iload_n dX5_wordOf_60 rfl ?_
    refine r_if_ne (tgt := 69) dX5_wordOf_61 rfl (fun h10 => ?_) (fun h10 => ?_)
    · replace e := ite_f h10 e
      refine r_ldcs (n := 5) dX5_wordOf_69 rfl (by decide) rfl ?_
      cases e
      exact r_areturn dX5_wordOf_71 rfl (Or.inl ⟨_, rfl⟩) (Or.inr ⟨_, rfl⟩)
    · replace e := ite_t h10 e
      refine r_ldcs (n := 15) dX5_wordOf_64 rfl (by decide) rfl ?_
      refine r_goto (tgt := 71) dX5_wordOf_66 rfl ?_
      cases e
      exact r_areturn dX5_wordOf_71 rfl (Or.inl ⟨_, rfl⟩) (Or.inr ⟨_, rfl⟩)
  · replace e := ite_t h9 e
    refine r_ldcs (n := 14) dX5_wordOf_55 rfl (by decide) rfl ?_
    refine r_goto (tgt := 71) dX5_wordOf_57 rfl ?_
    cases e
    exact r_areturn dX5_wordOf_71 rfl (Or.inl ⟨_, rfl⟩) (Or.inr ⟨_, rfl⟩)
def m_X5_giveUp (mm : Mm) : Mm := (sI (sI mm 7 1 (1 : Int32)) 7 2 (mI (sI mm 7 1 (1 : Int32)) 7 9))
set_option maxHeartbeats 4000000 in
set_option maxRecDepth 100000 in
theorem c_X5_giveUp {l : Launch} {G : Gt} {S : Sk} {mm : Mm} (hS : Lay S) : CallOK l G M_X5_giveUp yX5_giveUp 0 [vr (some 7)] S mm (none) S (m_X5_giveUp mm) := by
  refine call_of_run rfl rfl rfl (Nat.le_of_ble_eq_true rfl) ?_
  show Run l G M_X5_giveUp 0 0 [some (vr (some 7))] [] S mm (none) S (m_X5_giveUp mm)
  generalize e : m_X5_giveUp mm = q
  unfold m_X5_giveUp at e
  refine r_aload_n dX5_giveUp_0 rfl ?_
  refine r_iconst (v := 1) dX5_giveUp_1 ci_1 ?_
  refine r_putI dX5_giveUp_2 fl_X5_20 ft_5_1 (Or.inl rfl) rfl rfl rfl (lp_7 hS) (lq_7 hS) ?_
  refine r_aload_n dX5_giveUp_5 rfl ?_
  refine r_aload_n dX5_giveUp_6 rfl ?_
  refine r_getI dX5_giveUp_7 fl_X5_47 rfl (lp_7 hS) (lq_7 hS) ?_
  refine r_putI dX5_giveUp_10 fl_X5_24 ft_5_2 (Or.inl rfl) rfl rfl rfl (lp_7 hS) (lq_7 hS) ?_
  cases e
  exact r_return dX5_giveUp_13 rfl
def m_X5_isFull (a1 : Int32) (mm : Mm) : Option (Int32) := if (mI mm 7 7) = (0 : Int32) then (bS (if a1 = 0 then (grd a1 7 (if (6 : Int32) ≤ (mI mm 10 (ix a1)) then (some (.inl ())) else (if a1 = (4 : Int32) then (grd a1 7 (if (mI mm 10 (ix a1)) < (12 : Int32) then (some (.inr (0 : Int32))) else (some (.inl ())))) else (some (.inr (0 : Int32)))))) else (if a1 = (4 : Int32) then (grd a1 7 (if (mI mm 10 (ix a1)) < (12 : Int32) then (some (.inr (0 : Int32))) else (some (.inl ())))) else (some (.inr (0 : Int32)))) : Option ((Unit) ⊕ (Int32))) (fun p2 => some (1 : Int32))) else (if (mI mm 7 7) = (1 : Int32) then (if (mI mm 8 1) < (40 : Int32) then (some (0 : Int32)) else (some (1 : Int32))) else (if (mI mm 7 7) = (2 : Int32) then (if (mI mm 8 1) < (6 : Int32) then (some (0 : Int32)) else (some (1 : Int32))) else (if (mI mm 8 1) < (8 : Int32) then (some (0 : Int32)) else (some (1 : Int32)))))
set_option maxHeartbeats 4000000 in
set_option maxRecDepth 100000 in
theorem c_X5_isFull {l : Launch} {G : Gt} {S : Sk} {a1 : Int32} {mm : Mm} (hS : Lay S) {q : Int32} (e : m_X5_isFull a1 mm = some q) : CallOK l G M_X5_isFull yX5_isFull 0 [vr (some 7), vi a1] S mm (some (vi q)) S mm := by
  refine call_of_run rfl rfl rfl (Nat.le_of_ble_eq_true rfl) ?_
  show Run l G M_X5_isFull 0 0 [some (vr (some 7)), some (vi a1)] [] S mm (some (vi q)) S mm
  unfold m_X5_isFull at e
  refine r_aload_n dX5_isFull_0 rfl ?_
  refine r_getI dX5_isFull_1 fl_X5_41 rfl (lp_7 hS) (lq_7 hS) ?_
  by_cases h1 : (mI mm 7 7) = (0 : Int32)
  · replace e := ite_t h1 e
    refine r_table_in (tgt := 32) dX5_isFull_4 (by rw [h1]; decide) (by rw [h1]; decide) (by rw [h1]; rfl) rfl ?_
    refine r_iload_n dX5_isFull_32 rfl ?_
    obtain ⟨x5, ep4, elx5, erx5⟩ := bS_some e
    have J3 : ∀ p2 : Unit, x5 = .inl p2 → Run l G M_X5_isFull 0 63 [none, none] [] S mm (some (vi q)) S mm := by
      intro p2 hp2
      replace e := elx5 p2 hp2
      refine r_iconst (v := 1) dX5_isFull_63 ci_1 ?_
      refine r_goto (tgt := 68) dX5_isFull_64 rfl ?_
      cases e
      exact r_ireturn dX5_isFull_68 rfl (nz_b (by first | exact Or.inl rfl | exact Or.inr rfl)).1
    refine r_if_ne (tgt := 47) dX5_isFull_33 rfl (fun h6 => ?_) (fun h6 => ?_)
    · replace ep4 := ite_f h6 ep4
      refine r_iload_n dX5_isFull_47 rfl ?_
      refine r_iconst (v := 4) dX5_isFull_48 ci_4 ?_
      refine r_icmp_ne (tgt := 67) dX5_isFull_49 rfl (fun h7 => ?_) (fun h7 => ?_)
      · replace ep4 := ite_f h7 ep4
        refine r_iconst (v := 0) dX5_isFull_67 ci_0 ?_
        cases ep4
        have e := congrArg some (erx5 _ rfl)
        cases e
        exact r_ireturn dX5_isFull_68 rfl (nz_b (by first | exact Or.inl rfl | exact Or.inr rfl)).1
      · replace ep4 := ite_t h7 ep4
        refine r_aload_n dX5_isFull_52 rfl ?_
        refine r_getR dX5_isFull_53 fl_X5_27 rfl (lp_7 hS) (lq_7 hS) (lr_7_3 hS) ?_
        refine r_iload_n dX5_isFull_56 rfl ?_
        obtain ⟨hg8, ep4⟩ := grd_some ep4
        refine r_iald dX5_isFull_57 (lp_10 hS) (lk_10 hS) hg8 ?_
        refine r_bipush (v := 12) dX5_isFull_58 cb_12 ?_
        refine r_icmp_lt (tgt := 67) dX5_isFull_60 rfl (fun h9 => ?_) (fun h9 => ?_)
        · replace ep4 := ite_t h9 ep4
          refine r_iconst (v := 0) dX5_isFull_67 ci_0 ?_
          cases ep4
          have e := congrArg some (erx5 _ rfl)
          cases e
          exact r_ireturn dX5_isFull_68 rfl (nz_b (by first | exact Or.inl rfl | exact Or.inr rfl)).1
        · replace ep4 := ite_f h9 ep4
          cases ep4
          exact r_weak (L' := [none, none]) trivial (J3 _ rfl)
    · replace ep4 := ite_t h6 ep4
      refine r_aload_n dX5_isFull_36 rfl ?_
      refine r_getR dX5_isFull_37 fl_X5_27 rfl (lp_7 hS) (lq_7 hS) (lr_7_3 hS) ?_
      refine r_iload_n dX5_isFull_40 rfl ?_
      obtain ⟨hg10, ep4⟩ := grd_some ep4
      refine r_iald dX5_isFull_41 (lp_10 hS) (lk_10 hS) hg10 ?_
      refine r_bipush (v := 6) dX5_isFull_42 cb_6 ?_
      refine r_icmp_ge (tgt := 63) dX5_isFull_44 rfl (fun h11 => ?_) (fun h11 => ?_)
      · replace ep4 := ite_t h11 ep4
        cases ep4
        exact r_weak (L' := [none, none]) trivial (J3 _ rfl)
      · replace ep4 := ite_f h11 ep4
        refine r_iload_n dX5_isFull_47 rfl ?_
        refine r_iconst (v := 4) dX5_isFull_48 ci_4 ?_
        refine r_icmp_ne (tgt := 67) dX5_isFull_49 rfl (fun h12 => ?_) (fun h12 => ?_)
        · replace ep4 := ite_f h12 ep4
          refine r_iconst (v := 0) dX5_isFull_67 ci_0 ?_
          cases ep4
          have e := congrArg some (erx5 _ rfl)
          cases e
          exact r_ireturn dX5_isFull_68 rfl (nz_b (by first | exact Or.inl rfl | exact Or.inr rfl)).1
        · replace ep4 := ite_t h12 ep4
          refine r_aload_n dX5_isFull_52 rfl ?_
          refine r_getR dX5_isFull_53 fl_X5_27 rfl (lp_7 hS) (lq_7 hS) (lr_7_3 hS) ?_
          refine r_iload_n dX5_isFull_56 rfl ?_
          obtain ⟨hg13, ep4⟩ := grd_some ep4
          refine r_iald dX5_isFull_57 (lp_10 hS) (lk_10 hS) hg13 ?_
          refine r_bipush (v := 12) dX5_isFull_58 cb_12 ?_
          refine r_icmp_lt (tgt := 67) dX5_isFull_60 rfl (fun h14 => ?_) (fun h14 => ?_)
          · replace ep4 := ite_t h14 ep4
            refine r_iconst (v := 0) dX5_isFull_67 ci_0 ?_
            cases ep4
            have e := congrArg some (erx5 _ rfl)
            cases e
            exact r_ireturn dX5_isFull_68 rfl (nz_b (by first | exact Or.inl rfl | exact Or.inr rfl)).1
          · replace ep4 := ite_f h14 ep4
            cases ep4
            exact r_weak (L' := [none, none]) trivial (J3 _ rfl)
  replace e := ite_f h1 e
  by_cases h15 : (mI mm 7 7) = (1 : Int32)
  · replace e := ite_t h15 e
    refine r_table_in (tgt := 69) dX5_isFull_4 (by rw [h15]; decide) (by rw [h15]; decide) (by rw [h15]; rfl) rfl ?_
    refine r_aload_n dX5_isFull_69 rfl ?_
    refine r_getR dX5_isFull_70 fl_X5_16 rfl (lp_7 hS) (lq_7 hS) (lr_7_0 hS) ?_
    refine r_getI dX5_isFull_73 fl_X5_62 rfl (lp_8 hS) (lq_8 hS) ?_
    refine r_bipush (v := 40) dX5_isFull_76 cb_40 ?_
    refine r_icmp_lt (tgt := 85) dX5_isFull_78 rfl (fun h16 => ?_) (fun h16 => ?_)
    · replace e := ite_t h16 e
      refine r_iconst (v := 0) dX5_isFull_85 ci_0 ?_
      cases e
      exact r_ireturn dX5_isFull_86 rfl (nz_b (by first | exact Or.inl rfl | exact Or.inr rfl)).1
    · replace e := ite_f h16 e
      refine r_iconst (v := 1) dX5_isFull_81 ci_1 ?_
      refine r_goto (tgt := 86) dX5_isFull_82 rfl ?_
      cases e
      exact r_ireturn dX5_isFull_86 rfl (nz_b (by first | exact Or.inl rfl | exact Or.inr rfl)).1
  replace e := ite_f h15 e
  by_cases h17 : (mI mm 7 7) = (2 : Int32)
  · replace e := ite_t h17 e
    refine r_table_in (tgt := 87) dX5_isFull_4 (by rw [h17]; decide) (by rw [h17]; decide) (by rw [h17]; rfl) rfl ?_
    refine r_aload_n dX5_isFull_87 rfl ?_
    refine r_getR dX5_isFull_88 fl_X5_16 rfl (lp_7 hS) (lq_7 hS) (lr_7_0 hS) ?_
    refine r_getI dX5_isFull_91 fl_X5_62 rfl (lp_8 hS) (lq_8 hS) ?_
    refine r_bipush (v := 6) dX5_isFull_94 cb_6 ?_
    refine r_icmp_lt (tgt := 103) dX5_isFull_96 rfl (fun h18 => ?_) (fun h18 => ?_)
    · replace e := ite_t h18 e
      refine r_iconst (v := 0) dX5_isFull_103 ci_0 ?_
      cases e
      exact r_ireturn dX5_isFull_104 rfl (nz_b (by first | exact Or.inl rfl | exact Or.inr rfl)).1
    · replace e := ite_f h18 e
      refine r_iconst (v := 1) dX5_isFull_99 ci_1 ?_
      refine r_goto (tgt := 104) dX5_isFull_100 rfl ?_
      cases e
      exact r_ireturn dX5_isFull_104 rfl (nz_b (by first | exact Or.inl rfl | exact Or.inr rfl)).1
  replace e := ite_f h17 e
  have ho4 : (mI mm 7 7).toInt < 0 ∨ 2 < (mI mm 7 7).toInt := by
    have nh1 := lv_neT (a := 0) h1 (by decide)
    have nh15 := lv_neT (a := 1) h15 (by decide)
    have nh17 := lv_neT (a := 2) h17 (by decide)
    omega
  refine r_table_out (tgt := 105) dX5_isFull_4 ho4 rfl ?_
  refine r_aload_n dX5_isFull_105 rfl ?_
  refine r_getR dX5_isFull_106 fl_X5_16 rfl (lp_7 hS) (lq_7 hS) (lr_7_0 hS) ?_
  refine r_getI dX5_isFull_109 fl_X5_62 rfl (lp_8 hS) (lq_8 hS) ?_
  refine r_bipush (v := 8) dX5_isFull_112 cb_8 ?_
  refine r_icmp_lt (tgt := 121) dX5_isFull_114 rfl (fun h19 => ?_) (fun h19 => ?_)
  · replace e := ite_t h19 e
    refine r_iconst (v := 0) dX5_isFull_121 ci_0 ?_
    cases e
    exact r_ireturn dX5_isFull_122 rfl (nz_b (by first | exact Or.inl rfl | exact Or.inr rfl)).1
  · replace e := ite_f h19 e
    refine r_iconst (v := 1) dX5_isFull_117 ci_1 ?_
    refine r_goto (tgt := 122) dX5_isFull_118 rfl ?_
    cases e
    exact r_ireturn dX5_isFull_122 rfl (nz_b (by first | exact Or.inl rfl | exact Or.inr rfl)).1
def m_X5_note (a1 : Int32) (a2 : Int32) (mm : Mm) : Mm := if (mI mm 7 1) = 0 then ((sI (sI mm 7 1 a1) 7 2 a2)) else (mm)
set_option maxHeartbeats 4000000 in
set_option maxRecDepth 100000 in
theorem c_X5_note {l : Launch} {G : Gt} {S : Sk} {a1 : Int32} {a2 : Int32} {mm : Mm} (hS : Lay S) : CallOK l G M_X5_note yX5_note 0 [vr (some 7), vi a1, vi a2] S mm (none) S (m_X5_note a1 a2 mm) := by
  refine call_of_run rfl rfl rfl (Nat.le_of_ble_eq_true rfl) ?_
  show Run l G M_X5_note 0 0 [some (vr (some 7)), some (vi a1), some (vi a2)] [] S mm (none) S (m_X5_note a1 a2 mm)
  generalize e : m_X5_note a1 a2 mm = q
  unfold m_X5_note at e
  refine r_aload_n dX5_note_0 rfl ?_
  refine r_getI dX5_note_1 fl_X5_20 rfl (lp_7 hS) (lq_7 hS) ?_
  refine r_if_ne (tgt := 17) dX5_note_4 rfl (fun h1 => ?_) (fun h1 => ?_)
  · replace e := ite_f h1 e
    cases e
    exact r_return dX5_note_17 rfl
  · replace e := ite_t h1 e
    refine r_aload_n dX5_note_7 rfl ?_
    refine r_iload_n dX5_note_8 rfl ?_
    refine r_putI dX5_note_9 fl_X5_20 ft_5_1 (Or.inl rfl) rfl rfl rfl (lp_7 hS) (lq_7 hS) ?_
    refine r_aload_n dX5_note_12 rfl ?_
    refine r_iload_n dX5_note_13 rfl ?_
    refine r_putI dX5_note_14 fl_X5_24 ft_5_2 (Or.inl rfl) rfl rfl rfl (lp_7 hS) (lq_7 hS) ?_
    cases e
    exact r_return dX5_note_17 rfl
def m_X5_signsOf (a0 : Int32) (a1 : Int32) : Option (Nat) := if a0 = (0 : Int32) then (if a1 = 0 then (some 17) else (if a1 = (1 : Int32) then (some 18) else (if a1 = (2 : Int32) then (some 19) else (if a1 = (3 : Int32) then (some 20) else (some 21))))) else (if a0 = (1 : Int32) then (if a1 = 0 then (some 6) else (if (2 : Int32) < a1 then (if (5 : Int32) < a1 then (some 21) else (some 20)) else (some 22))) else (some 23))
set_option maxHeartbeats 4000000 in
set_option maxRecDepth 100000 in
theorem c_X5_signsOf {l : Launch} {G : Gt} {S : Sk} {a0 : Int32} {a1 : Int32} {mm : Mm} {q : Nat} (e : m_X5_signsOf a0 a1 = some q) : CallOK l G M_X5_signsOf yX5_signsOf 0 [vi a0, vi a1] S mm (some (vx q)) S mm := by
  refine call_of_run rfl rfl rfl (Nat.le_of_ble_eq_true rfl) ?_
  show Run l G M_X5_signsOf 0 0 [some (vi a0), some (vi a1)] [] S mm (some (vx q)) S mm
  unfold m_X5_signsOf at e
  refine r_iload_n dX5_signsOf_0 rfl ?_
  by_cases h1 : a0 = (0 : Int32)
  · replace e := ite_t h1 e
    refine r_lookup (tgt := 28) (off := 27) dX5_signsOf_1 (by decide) (by rw [h1]; decide) rfl ?_
    refine r_iload_n dX5_signsOf_28 rfl ?_
    refine r_if_ne (tgt := 37) dX5_signsOf_29 rfl (fun h2 => ?_) (fun h2 => ?_)
    · replace e := ite_f h2 e
      refine r_iload_n dX5_signsOf_37 rfl ?_
      refine r_iconst (v := 1) dX5_signsOf_38 ci_1 ?_
      refine r_icmp_ne (tgt := 47) dX5_signsOf_39 rfl (fun h3 => ?_) (fun h3 => ?_)
      · replace e := ite_f h3 e
        refine r_iload_n dX5_signsOf_47 rfl ?_
        refine r_iconst (v := 2) dX5_signsOf_48 ci_2 ?_
        refine r_icmp_ne (tgt := 57) dX5_signsOf_49 rfl (fun h4 => ?_) (fun h4 => ?_)
        · replace e := ite_f h4 e
          refine r_iload_n dX5_signsOf_57 rfl ?_
          refine r_iconst (v := 3) dX5_signsOf_58 ci_3 ?_
          refine r_icmp_ne (tgt := 67) dX5_signsOf_59 rfl (fun h5 => ?_) (fun h5 => ?_)
          · replace e := ite_f h5 e
            refine r_ldcs (n := 20) dX5_signsOf_67 rfl (by decide) rfl ?_
            cases e
            exact r_areturn dX5_signsOf_69 rfl (Or.inl ⟨_, rfl⟩) (Or.inr ⟨_, rfl⟩)
          · replace e := ite_t h5 e
            refine r_ldcs (n := 19) dX5_signsOf_62 rfl (by decide) rfl ?_
            refine r_goto (tgt := 69) dX5_signsOf_64 rfl ?_
            cases e
            exact r_areturn dX5_signsOf_69 rfl (Or.inl ⟨_, rfl⟩) (Or.inr ⟨_, rfl⟩)
        · replace e := ite_t h4 e
          refine r_ldcs (n := 18) dX5_signsOf_52 rfl (by decide) rfl ?_
          refine r_goto (tgt := 69) dX5_signsOf_54 rfl ?_
          cases e
          exact r_areturn dX5_signsOf_69 rfl (Or.inl ⟨_, rfl⟩) (Or.inr ⟨_, rfl⟩)
      · replace e := ite_t h3 e
        refine r_ldcs (n := 17) dX5_signsOf_42 rfl (by decide) rfl ?_
        refine r_goto (tgt := 69) dX5_signsOf_44 rfl ?_
        cases e
        exact r_areturn dX5_signsOf_69 rfl (Or.inl ⟨_, rfl⟩) (Or.inr ⟨_, rfl⟩)
    · replace e := ite_t h2 e
      refine r_ldcs (n := 16) dX5_signsOf_32 rfl (by decide) rfl ?_
      refine r_goto (tgt := 69) dX5_signsOf_34 rfl ?_
      cases e
      exact r_areturn dX5_signsOf_69 rfl (Or.inl ⟨_, rfl⟩) (Or.inr ⟨_, rfl⟩)
  replace e := ite_f h1 e
  by_cases h6 : a0 = (1 : Int32)
  · replace e := ite_t h6 e
    refine r_lookup (tgt := 70) (off := 69) dX5_signsOf_1 (by decide) (by rw [h6]; decide) rfl ?_
    refine r_iload_n dX5_signsOf_70 rfl ?_
    refine r_if_ne (tgt := 79) dX5_signsOf_71 rfl (fun h7 => ?_) (fun h7 => ?_)
    · replace e := ite_f h7 e
      refine r_iload_n dX5_signsOf_79 rfl ?_
      refine r_iconst (v := 2) dX5_signsOf_80 ci_2 ?_
      refine r_icmp_gt (tgt := 89) dX5_signsOf_81 rfl (fun h8 => ?_) (fun h8 => ?_)
      · replace e := ite_t h8 e
        refine r_iload_n dX5_signsOf_89 rfl ?_
        refine r_iconst (v := 5) dX5_signsOf_90 ci_5 ?_
        refine r_icmp_gt (tgt := 99) dX5_signsOf_91 rfl (fun h9 => ?_) (fun h9 => ?_)
        · replace e := ite_t h9 e
          refine r_ldcs (n := 20) dX5_signsOf_99 rfl (by decide) rfl ?_
          cases e
          exact r_areturn dX5_signsOf_101 rfl (Or.inl ⟨_, rfl⟩) (Or.inr ⟨_, rfl⟩)
        · replace e := ite_f h9 e
          refine r_ldcs (n := 19) dX5_signsOf_94 rfl (by decide) rfl ?_
          refine r_goto (tgt := 101) dX5_signsOf_96 rfl ?_
          cases e
          exact r_areturn dX5_signsOf_101 rfl (Or.inl ⟨_, rfl⟩) (Or.inr ⟨_, rfl⟩)
      · replace e := ite_f h8 e
        refine r_ldcs (n := 21) dX5_signsOf_84 rfl (by decide) rfl ?_
        refine r_goto (tgt := 101) dX5_signsOf_86 rfl ?_
        cases e
        exact r_areturn dX5_signsOf_101 rfl (Or.inl ⟨_, rfl⟩) (Or.inr ⟨_, rfl⟩)
    · replace e := ite_t h7 e
      refine r_ldcs (n := 5) dX5_signsOf_74 rfl (by decide) rfl ?_
      refine r_goto (tgt := 101) dX5_signsOf_76 rfl ?_
      cases e
      exact r_areturn dX5_signsOf_101 rfl (Or.inl ⟨_, rfl⟩) (Or.inr ⟨_, rfl⟩)
  replace e := ite_f h6 e
  refine r_lookup (tgt := 102) (off := 101) dX5_signsOf_1 (by decide) (by show Op.lookupswitch.offset [(0, 27), (1, 69)] _ _ = _; rw [lv_osw h1 (by decide), lv_osw h6 (by decide)]; rfl) rfl ?_
  refine r_ldcs (n := 22) dX5_signsOf_102 rfl (by decide) rfl ?_
  cases e
  exact r_areturn dX5_signsOf_104 rfl (Or.inl ⟨_, rfl⟩) (Or.inr ⟨_, rfl⟩)
def m_X5_mostOf (a0 : Int32) : Int32 := if a0 = (119 : Int32) then ((9 : Int32)) else (if a0 = (114 : Int32) then ((4 : Int32)) else (if a0 = (104 : Int32) then ((9 : Int32)) else (if a0 = (116 : Int32) then ((7 : Int32)) else ((5 : Int32)))))
set_option maxHeartbeats 4000000 in
set_option maxRecDepth 100000 in
theorem c_X5_mostOf {l : Launch} {G : Gt} {S : Sk} {a0 : Int32} {mm : Mm} : CallOK l G M_X5_mostOf yX5_mostOf 0 [vi a0] S mm (some (vi (m_X5_mostOf a0))) S mm := by
  refine call_of_run rfl rfl rfl (Nat.le_of_ble_eq_true rfl) ?_
  show Run l G M_X5_mostOf 0 0 [some (vi a0)] [] S mm (some (vi (m_X5_mostOf a0))) S mm
  generalize e : m_X5_mostOf a0 = q
  unfold m_X5_mostOf at e
  refine r_iload_n dX5_mostOf_0 rfl ?_
  refine r_bipush (v := 119) dX5_mostOf_1 cb_119 ?_
  refine r_icmp_ne (tgt := 9) dX5_mostOf_3 rfl (fun h1 => ?_) (fun h1 => ?_)
  · replace e := ite_f h1 e
    refine r_iload_n dX5_mostOf_9 rfl ?_
    refine r_bipush (v := 114) dX5_mostOf_10 cb_114 ?_
    refine r_icmp_ne (tgt := 17) dX5_mostOf_12 rfl (fun h2 => ?_) (fun h2 => ?_)
    · replace e := ite_f h2 e
      refine r_iload_n dX5_mostOf_17 rfl ?_
      refine r_bipush (v := 104) dX5_mostOf_18 cb_104 ?_
      refine r_icmp_ne (tgt := 26) dX5_mostOf_20 rfl (fun h3 => ?_) (fun h3 => ?_)
      · replace e := ite_f h3 e
        refine r_iload_n dX5_mostOf_26 rfl ?_
        refine r_bipush (v := 116) dX5_mostOf_27 cb_116 ?_
        refine r_icmp_ne (tgt := 37) dX5_mostOf_29 rfl (fun h4 => ?_) (fun h4 => ?_)
        · replace e := ite_f h4 e
          refine r_iconst (v := 5) dX5_mostOf_37 ci_5 ?_
          cases e
          exact r_ireturn dX5_mostOf_38 rfl rfl
        · replace e := ite_t h4 e
          refine r_bipush (v := 7) dX5_mostOf_32 cb_7 ?_
          refine r_goto (tgt := 38) dX5_mostOf_34 rfl ?_
          cases e
          exact r_ireturn dX5_mostOf_38 rfl rfl
      · replace e := ite_t h3 e
        refine r_bipush (v := 9) dX5_mostOf_23 cb_9 ?_
        cases e
        exact r_ireturn dX5_mostOf_25 rfl rfl
    · replace e := ite_t h2 e
      refine r_iconst (v := 4) dX5_mostOf_15 ci_4 ?_
      cases e
      exact r_ireturn dX5_mostOf_16 rfl rfl
  · replace e := ite_t h1 e
    refine r_bipush (v := 9) dX5_mostOf_6 cb_9 ?_
    cases e
    exact r_ireturn dX5_mostOf_8 rfl rfl
def m_X6_add (a1 : Int32) (a2 : Int32) (a3 : Int32) (a4 : Int32) (mm : Mm) : Option (Mm) := if (((mI mm 8 1) * (4 : Int32)) + (4 : Int32)) ≤ (400 : Int32) then (grd ((mI mm 8 1) * (4 : Int32)) 400 (grd (((mI mm 8 1) * (4 : Int32)) + (1 : Int32)) 400 (grd (((mI mm 8 1) * (4 : Int32)) + (2 : Int32)) 400 (grd (((mI mm 8 1) * (4 : Int32)) + (3 : Int32)) 400 (some (sI (sI (sI (sI (sI mm 9 (ix ((mI mm 8 1) * (4 : Int32))) a1) 9 (ix (((mI mm 8 1) * (4 : Int32)) + (1 : Int32))) a2) 9 (ix (((mI mm 8 1) * (4 : Int32)) + (2 : Int32))) a3) 9 (ix (((mI mm 8 1) * (4 : Int32)) + (3 : Int32))) a4) 8 1 ((mI (sI (sI (sI (sI mm 9 (ix ((mI mm 8 1) * (4 : Int32))) a1) 9 (ix (((mI mm 8 1) * (4 : Int32)) + (1 : Int32))) a2) 9 (ix (((mI mm 8 1) * (4 : Int32)) + (2 : Int32))) a3) 9 (ix (((mI mm 8 1) * (4 : Int32)) + (3 : Int32))) a4) 8 1) + (1 : Int32)))))))) else (some mm)
set_option maxHeartbeats 4000000 in
set_option maxRecDepth 100000 in
theorem c_X6_add {l : Launch} {G : Gt} {S : Sk} {a1 : Int32} {a2 : Int32} {a3 : Int32} {a4 : Int32} {mm : Mm} (hS : Lay S) {q : Mm} (e : m_X6_add a1 a2 a3 a4 mm = some q) : CallOK l G M_X6_add yX6_add 0 [vr (some 8), vi a1, vi a2, vi a3, vi a4] S mm (none) S q := by
  refine call_of_run rfl rfl rfl (Nat.le_of_ble_eq_true rfl) ?_
  show Run l G M_X6_add 0 0 [some (vr (some 8)), some (vi a1), some (vi a2), some (vi a3), some (vi a4), none] [] S mm (none) S q
  unfold m_X6_add at e
  refine r_aload_n dX6_add_0 rfl ?_
  refine r_getI dX6_add_1 fl_X6_9 rfl (lp_8 hS) (lq_8 hS) ?_
  refine r_iconst (v := 4) dX6_add_4 ci_4 ?_
  refine r_imul dX6_add_5 ?_
  refine r_istore dX6_add_6 (by decide) rfl ?_
  refine r_iload dX6_add_8 rfl ?_
  refine r_iconst (v := 4) dX6_add_10 ci_4 ?_
  refine r_iadd dX6_add_11 ?_
  refine r_aload_n dX6_add_12 rfl ?_
  refine r_getR dX6_add_13 fl_X6_21 rfl (lp_8 hS) (lq_8 hS) (lr_8_0 hS) ?_
  refine r_alen (v := 400) dX6_add_16 (lp_9 hS) (lk_9 hS) (by decide) (by decide) (by decide) ?_
  refine r_icmp_le (tgt := 21) dX6_add_17 rfl (fun h1 => ?_) (fun h1 => ?_)
  · replace e := ite_t h1 e
    refine r_aload_n dX6_add_21 rfl ?_
    refine r_getR dX6_add_22 fl_X6_21 rfl (lp_8 hS) (lq_8 hS) (lr_8_0 hS) ?_
    refine r_iload dX6_add_25 rfl ?_
    refine r_iload_n dX6_add_27 rfl ?_
    obtain ⟨hg2, e⟩ := grd_some e
    refine r_iast dX6_add_28 (lp_9 hS) (lk_9 hS) hg2 ?_
    refine r_aload_n dX6_add_29 rfl ?_
    refine r_getR dX6_add_30 fl_X6_21 rfl (lp_8 hS) (lq_8 hS) (lr_8_0 hS) ?_
    refine r_iload dX6_add_33 rfl ?_
    refine r_iconst (v := 1) dX6_add_35 ci_1 ?_
    refine r_iadd dX6_add_36 ?_
    refine r_iload_n dX6_add_37 rfl ?_
    obtain ⟨hg3, e⟩ := grd_some e
    refine r_iast dX6_add_38 (lp_9 hS) (lk_9 hS) hg3 ?_
    refine r_aload_n dX6_add_39 rfl ?_
    refine r_getR dX6_add_40 fl_X6_21 rfl (lp_8 hS) (lq_8 hS) (lr_8_0 hS) ?_
    refine r_iload dX6_add_43 rfl ?_
    refine r_iconst (v := 2) dX6_add_45 ci_2 ?_
    refine r_iadd dX6_add_46 ?_
    refine r_iload_n dX6_add_47 rfl ?_
    obtain ⟨hg4, e⟩ := grd_some e
    refine r_iast dX6_add_48 (lp_9 hS) (lk_9 hS) hg4 ?_
    refine r_aload_n dX6_add_49 rfl ?_
    refine r_getR dX6_add_50 fl_X6_21 rfl (lp_8 hS) (lq_8 hS) (lr_8_0 hS) ?_
    refine r_iload dX6_add_53 rfl ?_
    refine r_iconst (v := 3) dX6_add_55 ci_3 ?_
    refine r_iadd dX6_add_56 ?_
    refine r_iload dX6_add_57 rfl ?_
    obtain ⟨hg5, e⟩ := grd_some e
    refine r_iast dX6_add_59 (lp_9 hS) (lk_9 hS) hg5 ?_
    refine r_aload_n dX6_add_60 rfl ?_
    refine r_dup dX6_add_61 rfl ?_
    refine r_getI dX6_add_62 fl_X6_9 rfl (lp_8 hS) (lq_8 hS) ?_
    refine r_iconst (v := 1) dX6_add_65 ci_1 ?_
    refine r_iadd dX6_add_66 ?_
    refine r_putI dX6_add_67 fl_X6_9 ft_6_1 (Or.inl rfl) rfl rfl rfl (lp_8 hS) (lq_8 hS) ?_
    cases e
    exact r_return dX6_add_70 rfl
  · replace e := ite_f h1 e
    cases e
    exact r_return dX6_add_20 rfl
def m_X5_someoneIsMissing_b9 (mm : Mm) (S : Sk) (z1 : Int32) : Option ((Int32) ⊕ ((Unit) ⊕ (Int32))) := if (mI mm 8 1) ≤ z1 then (some (.inr (.inl ()))) else ((m_X6_cell S 8 z1 (0 : Int32) mm).bind (fun q8 => bS (if (if q8 = (3 : Int32) then (1 : Int32) else (if q8 = (4 : Int32) then (1 : Int32) else (0 : Int32))) = 0 then (some (.inl ())) else ((m_X6_cell S 8 z1 (1 : Int32) mm).bind (fun q19 => if (mI mm 10 (ix (0 : Int32))) ≤ q19 then (some (.inr (.inr (.inr (1 : Int32))))) else ((m_X6_cell S 8 z1 (2 : Int32) mm).bind (fun q22 => if q22 < (mI mm 10 (ix (0 : Int32))) then (some (.inl ())) else (some (.inr (.inr (.inr (1 : Int32))))))))) : Option ((Unit) ⊕ ((Int32) ⊕ ((Unit) ⊕ (Int32))))) (fun p14 => some (.inl (z1 + (1 : Int32))))))
def m_X5_someoneIsMissing (S : Sk) (mm : Mm) : Option (Int32) := bS (whileF FU (m_X5_someoneIsMissing_b9 mm S) (0 : Int32)) (fun p2 => some (0 : Int32))
set_option maxHeartbeats 4000000 in
set_option maxRecDepth 100000 in
theorem c_X5_someoneIsMissing {l : Launch} {G : Gt} {S : Sk} {mm : Mm} (hI : SI S) {q : Int32} (e : m_X5_someoneIsMissing S mm = some q) : CallOK l G M_X5_someoneIsMissing yX5_someoneIsMissing 1 [vr (some 7)] S mm (some (vi q)) S mm := by
  have hS := hI.1
  refine call_of_run rfl rfl rfl (Nat.le_of_ble_eq_true rfl) ?_
  show Run l G M_X5_someoneIsMissing 1 0 [some (vr (some 7)), none, none, none, none] [] S mm (some (vi q)) S mm
  unfold m_X5_someoneIsMissing at e
  refine r_aload_n dX5_someoneIsMissing_0 rfl ?_
  refine r_getR dX5_someoneIsMissing_1 fl_X5_27 rfl (lp_7 hS) (lq_7 hS) (lr_7_3 hS) ?_
  refine r_iconst (v := 0) dX5_someoneIsMissing_4 ci_0 ?_
  refine r_iald dX5_someoneIsMissing_5 (lp_10 hS) (lk_10 hS) (vp_in_iff.mpr ⟨by decide, by decide⟩) ?_
  refine r_istore_n dX5_someoneIsMissing_6 (by decide) rfl ?_
  refine r_iconst (v := 0) dX5_someoneIsMissing_7 ci_0 ?_
  refine r_istore_n dX5_someoneIsMissing_8 (by decide) rfl ?_
  obtain ⟨x4, eb6w, elx4, erx4⟩ := bS_some e
  have J3 : ∀ p2 : Unit, x4 = .inl p2 → Run l G M_X5_someoneIsMissing 1 86 [none, none, none, none, none] [] S mm (some (vi q)) S mm := by
    intro p2 hp2
    replace e := elx4 p2 hp2
    refine r_iconst (v := 0) dX5_someoneIsMissing_86 ci_0 ?_
    cases e
    exact r_ireturn dX5_someoneIsMissing_87 rfl (nz_b (by first | exact Or.inl rfl | exact Or.inr rfl)).1
  have J3w : Run l G M_X5_someoneIsMissing 1 9 [some (vr (some 7)), some (vi (mI mm 10 (ix (0 : Int32)))), some (vi (0 : Int32)), none, none] [] S mm (some (vi q)) S mm := by
    refine while_run (s := (0 : Int32)) (Gs := fun (z1 : Int32) => Run l G M_X5_someoneIsMissing 1 9 [some (vr (some 7)), some (vi (mI mm 10 (ix (0 : Int32)))), some (vi z1), none, none] [] S mm (some (vi q)) S mm) eb6w ?_
    intro z1 x4y eb6 hx5
    unfold m_X5_someoneIsMissing_b9 at eb6
    refine r_iload_n dX5_someoneIsMissing_9 rfl ?_
    refine r_aload_n dX5_someoneIsMissing_10 rfl ?_
    refine r_getR dX5_someoneIsMissing_11 fl_X5_16 rfl (lp_7 hS) (lq_7 hS) (lr_7_0 hS) ?_
    refine r_getI dX5_someoneIsMissing_14 fl_X5_62 rfl (lp_8 hS) (lq_8 hS) ?_
    refine r_icmp_ge (tgt := 86) dX5_someoneIsMissing_17 rfl (fun h7 => ?_) (fun h7 => ?_)
    · replace eb6 := ite_t h7 eb6
      cases eb6
      exact r_weak (L' := [none, none, none, none, none]) trivial (J3 _ (Eq.symm hx5))
    · replace eb6 := ite_f h7 eb6
      refine r_aload_n dX5_someoneIsMissing_20 rfl ?_
      refine r_getR dX5_someoneIsMissing_21 fl_X5_16 rfl (lp_7 hS) (lq_7 hS) (lr_7_0 hS) ?_
      refine r_iload_n dX5_someoneIsMissing_24 rfl ?_
      refine r_iconst (v := 0) dX5_someoneIsMissing_25 ci_0 ?_
      obtain ⟨q8, eq9, eb6⟩ := obind eb6
      refine r_callV (as := [_, _]) (rest := []) dX5_someoneIsMissing_26 ml_X5_114 yV_X6_cell (c_X6_cell hI ⟨lp_8 hS, lq_8 hS⟩ eq9) (by decide) rfl (lp_8 hS) (lq_8 hS) (Nat.le_of_ble_eq_true rfl) ?_
      refine r_istore_n dX5_someoneIsMissing_29 (by decide) rfl ?_
      refine r_iload_n dX5_someoneIsMissing_30 rfl ?_
      refine r_iconst (v := 3) dX5_someoneIsMissing_31 ci_3 ?_
      have J13 : ∀ (w12 : Int32), w12 = (if q8 = (3 : Int32) then (1 : Int32) else (if q8 = (4 : Int32) then (1 : Int32) else (0 : Int32))) → Run l G M_X5_someoneIsMissing 1 45 [some (vr (some 7)), some (vi (mI mm 10 (ix (0 : Int32)))), some (vi z1), none, none] [vi w12] S mm (some (vi q)) S mm := by
        intro w12 hw25
        subst hw25
        refine r_istore dX5_someoneIsMissing_45 (by decide) rfl ?_
        refine r_iload dX5_someoneIsMissing_47 rfl ?_
        obtain ⟨x17, ep16, elx17, erx17⟩ := bS_some eb6
        have J15 : ∀ p14 : Unit, x17 = .inl p14 → Run l G M_X5_someoneIsMissing 1 80 [some (vr (some 7)), some (vi (mI mm 10 (ix (0 : Int32)))), some (vi z1), none, none] [] S mm (some (vi q)) S mm := by
          intro p14 hp14
          replace eb6 := elx17 p14 hp14
          refine r_iinc (v := _ + (1 : Int32)) dX5_someoneIsMissing_80 rfl (congrArg (_ + ·) ci_1) (by decide) rfl ?_
          refine r_goto (tgt := 9) dX5_someoneIsMissing_83 rfl ?_
          cases eb6
          exact r_weak (L' := [some (vr (some 7)), some (vi (mI mm 10 (ix (0 : Int32)))), some (vi (z1 + (1 : Int32))), none, none]) ⟨rfl, rfl, rfl, trivial⟩ hx5
        refine r_if_eq (tgt := 80) dX5_someoneIsMissing_49 rfl (fun h18 => ?_) (fun h18 => ?_)
        · replace ep16 := ite_t h18 ep16
          cases ep16
          exact r_weak (L' := [some (vr (some 7)), some (vi (mI mm 10 (ix (0 : Int32)))), some (vi z1), none, none]) ⟨rfl, rfl, rfl, trivial⟩ (J15 _ rfl)
        · replace ep16 := ite_f h18 ep16
          refine r_aload_n dX5_someoneIsMissing_52 rfl ?_
          refine r_getR dX5_someoneIsMissing_53 fl_X5_16 rfl (lp_7 hS) (lq_7 hS) (lr_7_0 hS) ?_
          refine r_iload_n dX5_someoneIsMissing_56 rfl ?_
          refine r_iconst (v := 1) dX5_someoneIsMissing_57 ci_1 ?_
          obtain ⟨q19, eq20, ep16⟩ := obind ep16
          refine r_callV (as := [_, _]) (rest := []) dX5_someoneIsMissing_58 ml_X5_114 yV_X6_cell (c_X6_cell hI ⟨lp_8 hS, lq_8 hS⟩ eq20) (by decide) rfl (lp_8 hS) (lq_8 hS) (Nat.le_of_ble_eq_true rfl) ?_
          refine r_iload_n dX5_someoneIsMissing_61 rfl ?_
          refine r_icmp_ge (tgt := 78) dX5_someoneIsMissing_62 rfl (fun h21 => ?_) (fun h21 => ?_)
          · replace ep16 := ite_t h21 ep16
            refine r_iconst (v := 1) dX5_someoneIsMissing_78 ci_1 ?_
            cases ep16
            have eb6 := congrArg some (erx17 _ rfl)
            cases eb6
            have e := congrArg some (erx4 _ (Eq.symm hx5))
            cases e
            exact r_ireturn dX5_someoneIsMissing_79 rfl (nz_b (by first | exact Or.inl rfl | exact Or.inr rfl)).1
          · replace ep16 := ite_f h21 ep16
            refine r_aload_n dX5_someoneIsMissing_65 rfl ?_
            refine r_getR dX5_someoneIsMissing_66 fl_X5_16 rfl (lp_7 hS) (lq_7 hS) (lr_7_0 hS) ?_
            refine r_iload_n dX5_someoneIsMissing_69 rfl ?_
            refine r_iconst (v := 2) dX5_someoneIsMissing_70 ci_2 ?_
            obtain ⟨q22, eq23, ep16⟩ := obind ep16
            refine r_callV (as := [_, _]) (rest := []) dX5_someoneIsMissing_71 ml_X5_114 yV_X6_cell (c_X6_cell hI ⟨lp_8 hS, lq_8 hS⟩ eq23) (by decide) rfl (lp_8 hS) (lq_8 hS) (Nat.le_of_ble_eq_true rfl) ?_
            refine r_iload_n dX5_someoneIsMissing_74 rfl ?_
            refine r_icmp_lt (tgt := 80) dX5_someoneIsMissing_75 rfl (fun h24 => ?_) (fun h24 => ?_)
            · replace ep16 := ite_t h24 ep16
              cases ep16
              exact r_weak (L' := [some (vr (some 7)), some (vi (mI mm 10 (ix (0 : Int32)))), some (vi z1), none, none]) ⟨rfl, rfl, rfl, trivial⟩ (J15 _ rfl)
            · replace ep16 := ite_f h24 ep16
              refine r_iconst (v := 1) dX5_someoneIsMissing_78 ci_1 ?_
              cases ep16
              have eb6 := congrArg some (erx17 _ rfl)
              cases eb6
              have e := congrArg some (erx4 _ (Eq.symm hx5))
              cases e
              exact r_ireturn dX5_someoneIsMissing_79 rfl (nz_b (by first | exact Or.inl rfl | exact Or.inr rfl)).1
      refine r_icmp_eq (tgt := 40) dX5_someoneIsMissing_32 rfl (fun h10 => ?_) (fun h10 => ?_)
      · refine r_iconst (v := 1) dX5_someoneIsMissing_40 ci_1 ?_
        refine r_goto (tgt := 45) dX5_someoneIsMissing_41 rfl ?_
        exact r_weak (L' := [some (vr (some 7)), some (vi (mI mm 10 (ix (0 : Int32)))), some (vi z1), none, none]) ⟨rfl, rfl, rfl, trivial⟩ (J13 _ (Eq.symm (if_pos h10)))
      · refine r_iload_n dX5_someoneIsMissing_35 rfl ?_
        refine r_iconst (v := 4) dX5_someoneIsMissing_36 ci_4 ?_
        refine r_icmp_ne (tgt := 44) dX5_someoneIsMissing_37 rfl (fun h11 => ?_) (fun h11 => ?_)
        · refine r_iconst (v := 0) dX5_someoneIsMissing_44 ci_0 ?_
          exact r_weak (L' := [some (vr (some 7)), some (vi (mI mm 10 (ix (0 : Int32)))), some (vi z1), none, none]) ⟨rfl, rfl, rfl, trivial⟩ (J13 _ (Eq.symm ((if_neg h10).trans (if_neg h11))))
        · refine r_iconst (v := 1) dX5_someoneIsMissing_40 ci_1 ?_
          refine r_goto (tgt := 45) dX5_someoneIsMissing_41 rfl ?_
          exact r_weak (L' := [some (vr (some 7)), some (vi (mI mm 10 (ix (0 : Int32)))), some (vi z1), none, none]) ⟨rfl, rfl, rfl, trivial⟩ (J13 _ (Eq.symm ((if_neg h10).trans (if_pos h11))))
  exact r_weak (L' := [some (vr (some 7)), some (vi (mI mm 10 (ix (0 : Int32)))), some (vi (0 : Int32)), none, none]) ⟨rfl, rfl, rfl, trivial⟩ J3w
noncomputable def m_X6_copy (S : Sk) (mm : Mm) : Option (Option Nat × Sk × Mm) := gP (Lay (nwS S 6 0 2)) ((m_X6_init (nwS S 6 0 2) S.1 (mI (nwM S mm) 8 1) (nwM S mm)).bind (fun q3 => gP (Lay q3.1) (gk q3.1 S.1 6 (gP (SI q3.1) (gP (cpOK 20 400 ((sK q3.1 (S.1 + 1)).2) (0 : Int32) (0 : Int32) ((mI q3.2 8 1) * (4 : Int32)) (fun i => mI q3.2 9 i)) (some ((some S.1), q3.1, (sI (cpM q3.2 9 (ix (0 : Int32)) (S.1 + 1) (ix (0 : Int32)) (ix ((mI q3.2 8 1) * (4 : Int32)))) S.1 1 (mI (cpM q3.2 9 (ix (0 : Int32)) (S.1 + 1) (ix (0 : Int32)) (ix ((mI q3.2 8 1) * (4 : Int32)))) 8 1)))))))))
set_option maxHeartbeats 4000000 in
set_option maxRecDepth 100000 in
theorem c_X6_copy {l : Launch} {G : Gt} {S : Sk} {mm : Mm} {q : Option Nat × Sk × Mm} (e : m_X6_copy S mm = some q) : CallOK l G M_X6_copy yX6_copy 2 [vr (some 8)] S mm (some (vr q.1)) q.2.1 q.2.2 := by
  refine call_of_run rfl rfl rfl (Nat.le_of_ble_eq_true rfl) ?_
  show Run l G M_X6_copy 2 0 [some (vr (some 8)), none] [] S mm (some (vr q.1)) q.2.1 q.2.2
  unfold m_X6_copy at e
  refine r_new dX6_copy_0 nw_X6_10 ?_
  have hn1 : KD (nwS S 6 0 2) S.1 6 := kd_new
  refine r_dup dX6_copy_3 rfl ?_
  refine r_aload_n dX6_copy_4 rfl ?_
  obtain ⟨hn2, e⟩ := gP_some e
  refine r_getI dX6_copy_5 fl_X6_9 rfl (lp_8 hn2) (lq_8 hn2) ?_
  obtain ⟨q3, eq4, e⟩ := obind e
  refine r_callI (as := [_]) (rest := [_]) dX6_copy_8 ml_X6_25 yI_X6_init (c_X6_init hn1 eq4) (by decide) rfl (Nat.le_of_ble_eq_true rfl) ?_
  refine r_astore_n dX6_copy_11 (by decide) rfl ?_
  refine r_aload_n dX6_copy_12 rfl ?_
  obtain ⟨hn5, e⟩ := gP_some e
  refine r_getR dX6_copy_13 fl_X6_21 rfl (lp_8 hn5) (lq_8 hn5) (lr_8_0 hn5) ?_
  refine r_iconst (v := 0) dX6_copy_16 ci_0 ?_
  refine r_aload_n dX6_copy_17 rfl ?_
  obtain ⟨hn6, e⟩ := gk_some e
  obtain ⟨hn7, e⟩ := gP_some e
  refine r_getR dX6_copy_18 fl_X6_21 rfl hn6.1 hn6.2 (hn7.2.2.1 S.1 hn6).1 ?_
  refine r_iconst (v := 0) dX6_copy_21 ci_0 ?_
  refine r_aload_n dX6_copy_22 rfl ?_
  refine r_getI dX6_copy_23 fl_X6_9 rfl (lp_8 hn7.1) (lq_8 hn7.1) ?_
  refine r_iconst (v := 4) dX6_copy_26 ci_4 ?_
  refine r_imul dX6_copy_27 ?_
  obtain ⟨hc8, e⟩ := gP_some e
  refine r_copy (rest := []) dX6_copy_28 cp_X6_28 (lp_9 hn7.1) (lk_9 hn7.1) (hn7.2.2.1 S.1 hn6).2.1 (arr_k (hn7.2.2.1 S.1 hn6).2) (by decide) (by decide) hc8 (by decide) (Nat.le_of_ble_eq_true rfl) ?_
  refine r_aload_n dX6_copy_31 rfl ?_
  refine r_aload_n dX6_copy_32 rfl ?_
  refine r_getI dX6_copy_33 fl_X6_9 rfl (lp_8 hn7.1) (lq_8 hn7.1) ?_
  refine r_putI dX6_copy_36 fl_X6_9 ft_6_1 (Or.inl rfl) rfl rfl rfl hn6.1 hn6.2 ?_
  refine r_aload_n dX6_copy_39 rfl ?_
  cases e
  exact r_areturn dX6_copy_40 rfl (Or.inl ⟨_, rfl⟩) (Or.inl ⟨_, rfl⟩)
def m_X8_init (S : Sk) (a0 : Nat) (mm : Mm) : Option (Sk × Mm) := some ((sRs (nwS (sRs (nwS (sRs (nwS (sRs S a0 1 none) 20 6 6) a0 3 (some ((sRs S a0 1 none).1))) 20 6 6) a0 4 (some ((sRs (nwS (sRs S a0 1 none) 20 6 6) a0 3 (some ((sRs S a0 1 none).1))).1))) 20 64 64) a0 5 (some ((sRs (nwS (sRs (nwS (sRs S a0 1 none) 20 6 6) a0 3 (some ((sRs S a0 1 none).1))) 20 6 6) a0 4 (some ((sRs (nwS (sRs S a0 1 none) 20 6 6) a0 3 (some ((sRs S a0 1 none).1))).1))).1))), (nwM (sRs (nwS (sRs (nwS (sRs S a0 1 none) 20 6 6) a0 3 (some ((sRs S a0 1 none).1))) 20 6 6) a0 4 (some ((sRs (nwS (sRs S a0 1 none) 20 6 6) a0 3 (some ((sRs S a0 1 none).1))).1))) (nwM (sRs (nwS (sRs S a0 1 none) 20 6 6) a0 3 (some ((sRs S a0 1 none).1))) (nwM (sRs S a0 1 none) (sI (sI mm a0 0 (0 : Int32)) a0 2 (0 : Int32))))))
set_option maxHeartbeats 4000000 in
set_option maxRecDepth 100000 in
theorem c_X8_init {l : Launch} {G : Gt} {S : Sk} {a0 : Nat} {mm : Mm} (ha0 : KD S a0 8) {q : Sk × Mm} (e : m_X8_init S a0 mm = some q) : CallOK l G M_X8_init yX8_init 1 [vr (some a0)] S mm (none) q.1 q.2 := by
  refine call_of_run rfl rfl rfl (Nat.le_of_ble_eq_true rfl) ?_
  show Run l G M_X8_init 1 0 [some (vr (some a0))] [] S mm (none) q.1 q.2
  unfold m_X8_init at e
  refine r_aload_n dX8_init_0 rfl ?_
  refine r_objInit (rest := []) dX8_init_1 oi_X8_3 oi_i oi_c (by decide) (Nat.le_of_ble_eq_true rfl) ?_
  refine r_aload_n dX8_init_4 rfl ?_
  refine r_iconst (v := 0) dX8_init_5 ci_0 ?_
  refine r_putI dX8_init_6 fl_X8_9 ft_8_0 (Or.inl rfl) rfl rfl rfl ha0.1 ha0.2 ?_
  refine r_aload_n dX8_init_9 rfl ?_
  refine r_null dX8_init_10 ?_
  refine r_putR dX8_init_11 fl_X8_15 ft_8_1 (Or.inl rfl) rfl ha0.1 ha0.2 ?_
  refine r_aload_n dX8_init_14 rfl ?_
  refine r_iconst (v := 0) dX8_init_15 ci_0 ?_
  refine r_putI dX8_init_16 fl_X8_19 ft_8_2 (Or.inl rfl) rfl rfl rfl ha0.1 ha0.2 ?_
  refine r_aload_n dX8_init_19 rfl ?_
  refine r_bipush (v := 6) dX8_init_20 cb_6 ?_
  refine r_newa (t := 20) dX8_init_22 rfl (by decide) (by decide) aw_20 (by decide) (N := 6) (by decide) (by decide) ?_
  have hn1 := kd_nw (k := 20) (len := 6) (z := 6) ha0
  have hn2 : AK (nwS (sRs S a0 1 none) 20 6 6) (sRs S a0 1 none).1 20 6 := ak_new
  refine r_putR dX8_init_24 fl_X8_22 ft_8_3 (Or.inr ⟨rfl, fun q hq => by cases hq; rfl⟩) rfl hn1.1 hn1.2 ?_
  refine r_aload_n dX8_init_27 rfl ?_
  refine r_bipush (v := 6) dX8_init_28 cb_6 ?_
  refine r_newa (t := 20) dX8_init_30 rfl (by decide) (by decide) aw_20 (by decide) (N := 6) (by decide) (by decide) ?_
  have hn3 := kd_nw (k := 20) (len := 6) (z := 6) hn1
  have hn4 := ak_nw (k := 20) (len := 6) (z := 6) hn2
  have hn5 : AK (nwS (sRs (nwS (sRs S a0 1 none) 20 6 6) a0 3 (some ((sRs S a0 1 none).1))) 20 6 6) (sRs (nwS (sRs S a0 1 none) 20 6 6) a0 3 (some ((sRs S a0 1 none).1))).1 20 6 := ak_new
  refine r_putR dX8_init_32 fl_X8_26 ft_8_4 (Or.inr ⟨rfl, fun q hq => by cases hq; rfl⟩) rfl hn3.1 hn3.2 ?_
  refine r_aload_n dX8_init_35 rfl ?_
  refine r_bipush (v := 64) dX8_init_36 cb_64 ?_
  refine r_newa (t := 20) dX8_init_38 rfl (by decide) (by decide) aw_20 (by decide) (N := 64) (by decide) (by decide) ?_
  have hn6 := kd_nw (k := 20) (len := 64) (z := 64) hn3
  have hn7 := ak_nw (k := 20) (len := 64) (z := 64) hn4
  have hn8 := ak_nw (k := 20) (len := 64) (z := 64) hn5
  have hn9 : AK (nwS (sRs (nwS (sRs (nwS (sRs S a0 1 none) 20 6 6) a0 3 (some ((sRs S a0 1 none).1))) 20 6 6) a0 4 (some ((sRs (nwS (sRs S a0 1 none) 20 6 6) a0 3 (some ((sRs S a0 1 none).1))).1))) 20 64 64) (sRs (nwS (sRs (nwS (sRs S a0 1 none) 20 6 6) a0 3 (some ((sRs S a0 1 none).1))) 20 6 6) a0 4 (some ((sRs (nwS (sRs S a0 1 none) 20 6 6) a0 3 (some ((sRs S a0 1 none).1))).1))).1 20 64 := ak_new
  refine r_putR dX8_init_40 fl_X8_29 ft_8_5 (Or.inr ⟨rfl, fun q hq => by cases hq; rfl⟩) rfl hn6.1 hn6.2 ?_
  cases e
  exact r_return dX8_init_43 rfl
def m_X8_whoOf (S : Sk) (a1 : Int32) (mm : Mm) : Option (Int32) := oM (sR S 34 1) (some (-1 : Int32)) (fun c2 => gk S c2 6 ((m_X6_cell S c2 a1 (1 : Int32) mm).bind (fun q4 => some q4)))
set_option maxHeartbeats 4000000 in
set_option maxRecDepth 100000 in
theorem c_X8_whoOf {l : Launch} {G : Gt} {S : Sk} {a1 : Int32} {mm : Mm} (hI : SI S) {q : Int32} (e : m_X8_whoOf S a1 mm = some q) : CallOK l G M_X8_whoOf yX8_whoOf 1 [vr (some 34), vi a1] S mm (some (vi q)) S mm := by
  have hS := hI.1
  refine call_of_run rfl rfl rfl (Nat.le_of_ble_eq_true rfl) ?_
  show Run l G M_X8_whoOf 1 0 [some (vr (some 34)), some (vi a1)] [] S mm (some (vi q)) S mm
  unfold m_X8_whoOf at e
  refine r_aload_n dX8_whoOf_0 rfl ?_
  refine r_getR dX8_whoOf_1 fl_X8_15 rfl (lp_34 hS) (lq_34 hS) rfl ?_
  refine r_ifnonnull (tgt := 11) dX8_whoOf_4 rfl (fun c2 h1 => ?_) (fun h1 => ?_)
  · replace e := oM_some h1 e
    refine r_aload_n dX8_whoOf_11 rfl ?_
    refine r_getR dX8_whoOf_12 fl_X8_15 rfl (lp_34 hS) (lq_34 hS) h1 ?_
    refine r_iload_n dX8_whoOf_15 rfl ?_
    refine r_iconst (v := 1) dX8_whoOf_16 ci_1 ?_
    obtain ⟨hn3, e⟩ := gk_some e
    obtain ⟨q4, eq5, e⟩ := obind e
    refine r_callV (as := [_, _]) (rest := []) dX8_whoOf_17 ml_X8_66 yV_X6_cell (c_X6_cell hI hn3 eq5) (by decide) rfl hn3.1 hn3.2 (Nat.le_of_ble_eq_true rfl) ?_
    cases e
    exact r_ireturn dX8_whoOf_20 rfl rfl
  · replace e := oM_none h1 e
    refine r_iconst (v := -1) dX8_whoOf_7 ci_m1 ?_
    refine r_goto (tgt := 20) dX8_whoOf_8 rfl ?_
    cases e
    exact r_ireturn dX8_whoOf_20 rfl rfl
def m_X8_thingOf (S : Sk) (a1 : Int32) (mm : Mm) : Option (Int32) := oM (sR S 34 1) (some (-1 : Int32)) (fun c2 => gk S c2 6 ((m_X6_cell S c2 a1 (2 : Int32) mm).bind (fun q4 => some q4)))
set_option maxHeartbeats 4000000 in
set_option maxRecDepth 100000 in
theorem c_X8_thingOf {l : Launch} {G : Gt} {S : Sk} {a1 : Int32} {mm : Mm} (hI : SI S) {q : Int32} (e : m_X8_thingOf S a1 mm = some q) : CallOK l G M_X8_thingOf yX8_thingOf 1 [vr (some 34), vi a1] S mm (some (vi q)) S mm := by
  have hS := hI.1
  refine call_of_run rfl rfl rfl (Nat.le_of_ble_eq_true rfl) ?_
  show Run l G M_X8_thingOf 1 0 [some (vr (some 34)), some (vi a1)] [] S mm (some (vi q)) S mm
  unfold m_X8_thingOf at e
  refine r_aload_n dX8_thingOf_0 rfl ?_
  refine r_getR dX8_thingOf_1 fl_X8_15 rfl (lp_34 hS) (lq_34 hS) rfl ?_
  refine r_ifnonnull (tgt := 11) dX8_thingOf_4 rfl (fun c2 h1 => ?_) (fun h1 => ?_)
  · replace e := oM_some h1 e
    refine r_aload_n dX8_thingOf_11 rfl ?_
    refine r_getR dX8_thingOf_12 fl_X8_15 rfl (lp_34 hS) (lq_34 hS) h1 ?_
    refine r_iload_n dX8_thingOf_15 rfl ?_
    refine r_iconst (v := 2) dX8_thingOf_16 ci_2 ?_
    obtain ⟨hn3, e⟩ := gk_some e
    obtain ⟨q4, eq5, e⟩ := obind e
    refine r_callV (as := [_, _]) (rest := []) dX8_thingOf_17 ml_X8_66 yV_X6_cell (c_X6_cell hI hn3 eq5) (by decide) rfl hn3.1 hn3.2 (Nat.le_of_ble_eq_true rfl) ?_
    cases e
    exact r_ireturn dX8_thingOf_20 rfl rfl
  · replace e := oM_none h1 e
    refine r_iconst (v := -1) dX8_thingOf_7 ci_m1 ?_
    refine r_goto (tgt := 20) dX8_thingOf_8 rfl ?_
    cases e
    exact r_ireturn dX8_thingOf_20 rfl rfl
def m_X8_openersOf_b5 (a1 : Int32) (a2 : Int32) (mm : Mm) (z1 : Int32 × Int32) : Option ((Int32 × Int32) ⊕ (Int32)) := if (mI mm 14 0) ≤ z1.2 then (some (.inr z1.1)) else ((if z1.2 = a1 then (some z1.1) else ((m_X7_reachOf z1.2 a1 mm).bind (fun q13 => if (m_X11_has q13 a2) = 0 then (some z1.1) else (some (z1.1 ||| (xshl (1 : Int32) z1.2))))) : Option (Int32)).bind (fun p8 => some (.inl (p8, z1.2 + (1 : Int32)))))
def m_X8_openersOf (a1 : Int32) (a2 : Int32) (mm : Mm) : Option (Int32) := (whileF FU (m_X8_openersOf_b5 a1 a2 mm) ((0 : Int32), (0 : Int32))).bind (fun p2 => some p2)
set_option maxHeartbeats 4000000 in
set_option maxRecDepth 100000 in
theorem c_X8_openersOf {l : Launch} {G : Gt} {S : Sk} {a1 : Int32} {a2 : Int32} {mm : Mm} (hS : Lay S) {q : Int32} (e : m_X8_openersOf a1 a2 mm = some q) : CallOK l G M_X8_openersOf yX8_openersOf 2 [vr (some 14), vi a1, vi a2] S mm (some (vi q)) S mm := by
  refine call_of_run rfl rfl rfl (Nat.le_of_ble_eq_true rfl) ?_
  show Run l G M_X8_openersOf 2 0 [some (vr (some 14)), some (vi a1), some (vi a2), none, none] [] S mm (some (vi q)) S mm
  unfold m_X8_openersOf at e
  refine r_iconst (v := 0) dX8_openersOf_0 ci_0 ?_
  refine r_istore_n dX8_openersOf_1 (by decide) rfl ?_
  refine r_iconst (v := 0) dX8_openersOf_2 ci_0 ?_
  refine r_istore dX8_openersOf_3 (by decide) rfl ?_
  obtain ⟨p2, eb6w, e⟩ := obind e
  have J3a : Run l G M_X8_openersOf 2 47 [none, none, none, some (vi p2), none] [] S mm (some (vi q)) S mm := by
    refine r_iload_n dX8_openersOf_47 rfl ?_
    cases e
    exact r_ireturn dX8_openersOf_48 rfl rfl
  have J3 : ∀ pp : Int32, pp = p2 → Run l G M_X8_openersOf 2 47 [none, none, none, some (vi pp), none] [] S mm (some (vi q)) S mm := by
    intro pp hpp
    rw [hpp]
    exact J3a
  have J3w : Run l G M_X8_openersOf 2 5 [some (vr (some 14)), some (vi a1), some (vi a2), some (vi (0 : Int32)), some (vi (0 : Int32))] [] S mm (some (vi q)) S mm := by
    refine while_run (s := ((0 : Int32), (0 : Int32))) (Gs := fun (z1 : Int32 × Int32) => Run l G M_X8_openersOf 2 5 [some (vr (some 14)), some (vi a1), some (vi a2), some (vi z1.1), some (vi z1.2)] [] S mm (some (vi q)) S mm) eb6w ?_
    intro z1 x4y eb6 hx5
    unfold m_X8_openersOf_b5 at eb6
    refine r_iload dX8_openersOf_5 rfl ?_
    refine r_aload_n dX8_openersOf_7 rfl ?_
    refine r_getI dX8_openersOf_8 fl_X8_69 rfl (lp_14 hS) (lq_14 hS) ?_
    refine r_icmp_ge (tgt := 47) dX8_openersOf_11 rfl (fun h7 => ?_) (fun h7 => ?_)
    · replace eb6 := ite_t h7 eb6
      cases eb6
      exact r_weak (L' := [none, none, none, some (vi z1.1), none]) ⟨rfl, trivial⟩ (J3 _ hx5)
    · replace eb6 := ite_f h7 eb6
      refine r_iload dX8_openersOf_14 rfl ?_
      refine r_iload_n dX8_openersOf_16 rfl ?_
      obtain ⟨p8, ep10, eb6⟩ := obind eb6
      have J9a : Run l G M_X8_openersOf 2 41 [some (vr (some 14)), some (vi a1), some (vi a2), some (vi p8), some (vi z1.2)] [] S mm (some (vi q)) S mm := by
        refine r_iinc (v := _ + (1 : Int32)) dX8_openersOf_41 rfl (congrArg (_ + ·) ci_1) (by decide) rfl ?_
        refine r_goto (tgt := 5) dX8_openersOf_44 rfl ?_
        cases eb6
        exact r_weak (L' := [some (vr (some 14)), some (vi a1), some (vi a2), some (vi p8), some (vi (z1.2 + (1 : Int32)))]) ⟨rfl, rfl, rfl, rfl, rfl, trivial⟩ hx5
      have J9 : ∀ pp : Int32, pp = p8 → Run l G M_X8_openersOf 2 41 [some (vr (some 14)), some (vi a1), some (vi a2), some (vi pp), some (vi z1.2)] [] S mm (some (vi q)) S mm := by
        intro pp hpp
        rw [hpp]
        exact J9a
      refine r_icmp_eq (tgt := 41) dX8_openersOf_17 rfl (fun h12 => ?_) (fun h12 => ?_)
      · replace ep10 := ite_t h12 ep10
        exact r_weak (L' := [some (vr (some 14)), some (vi a1), some (vi a2), some (vi z1.1), some (vi z1.2)]) ⟨rfl, rfl, rfl, rfl, rfl, trivial⟩ (J9 _ (Option.some.inj ep10))
      · replace ep10 := ite_f h12 ep10
        refine r_aload_n dX8_openersOf_20 rfl ?_
        refine r_iload dX8_openersOf_21 rfl ?_
        refine r_iload_n dX8_openersOf_23 rfl ?_
        obtain ⟨q13, eq14, ep10⟩ := obind ep10
        refine r_callV (as := [_, _]) (rest := []) dX8_openersOf_24 ml_X8_72 yV_X7_reachOf (c_X7_reachOf hS eq14) (by decide) rfl (lp_14 hS) (lq_14 hS) (Nat.le_of_ble_eq_true rfl) ?_
        refine r_iload_n dX8_openersOf_27 rfl ?_
        refine r_callSN (as := [_, _]) (rest := []) dX8_openersOf_28 nl_X8_75 yS_X11_has (c_X11_has) (by decide) rfl (Nat.le_of_ble_eq_true rfl) ?_
        refine r_if_eq (tgt := 41) dX8_openersOf_31 rfl (fun h15 => ?_) (fun h15 => ?_)
        · replace ep10 := ite_t h15 ep10
          exact r_weak (L' := [some (vr (some 14)), some (vi a1), some (vi a2), some (vi z1.1), some (vi z1.2)]) ⟨rfl, rfl, rfl, rfl, rfl, trivial⟩ (J9 _ (Option.some.inj ep10))
        · replace ep10 := ite_f h15 ep10
          refine r_iload_n dX8_openersOf_34 rfl ?_
          refine r_iconst (v := 1) dX8_openersOf_35 ci_1 ?_
          refine r_iload dX8_openersOf_36 rfl ?_
          refine r_ishl dX8_openersOf_38 ?_
          refine r_ior dX8_openersOf_39 ?_
          refine r_istore_n dX8_openersOf_40 (by decide) rfl ?_
          exact r_weak (L' := [some (vr (some 14)), some (vi a1), some (vi a2), some (vi (z1.1 ||| (xshl (1 : Int32) z1.2))), some (vi z1.2)]) ⟨rfl, rfl, rfl, rfl, rfl, trivial⟩ (J9 _ (Option.some.inj ep10))
  exact r_weak (L' := [some (vr (some 14)), some (vi a1), some (vi a2), some (vi (0 : Int32)), some (vi (0 : Int32))]) ⟨rfl, rfl, rfl, rfl, rfl, trivial⟩ J3w
def m_X8_countKept_b2 (z1 : Int32 × Mm) : Option ((Int32 × Mm) ⊕ (Mm)) := if (6 : Int32) ≤ z1.1 then (some (.inr z1.2)) else (grd z1.1 6 (some (.inl (z1.1 + (1 : Int32), (sI z1.2 36 (ix z1.1) (0 : Int32))))))
def m_X8_countKept_b23 (a2 : Int32) (S : Sk) (z9 : Int32 × Mm) : Option ((Int32 × Mm) ⊕ (Mm)) := if (mI z9.2 34 2) ≤ z9.1 then (some (.inr z9.2)) else ((if (m_X11_has a2 z9.1) = 0 then (some z9.2) else ((m_X8_whoOf S z9.1 z9.2).bind (fun q21 => grd q21 6 ((m_X8_thingOf S z9.1 z9.2).bind (fun q24 => grd q21 6 (some (sI z9.2 36 (ix q21) ((mI z9.2 36 (ix q21)) ||| (xshl (1 : Int32) q24)))))))) : Option (Mm)).bind (fun p16 => some (.inl (z9.1 + (1 : Int32), p16))))
def m_X8_countKept_b70 (S : Sk) (p10 : Mm) (z27 : Int32 × Int32) : Option ((Int32 × Int32) ⊕ (Int32)) := if (mI p10 34 2) ≤ z27.2 then (some (.inr z27.1)) else ((m_X8_whoOf S z27.2 p10).bind (fun q34 => grd q34 6 (grd q34 6 ((m_X7_keptOf (mI p10 36 (ix q34)) (mI p10 16 (ix q34)) p10).bind (fun q38 => (m_X8_thingOf S z27.2 p10).bind (fun q40 => some (.inl ((if (m_X11_has q38 q40) = 0 then z27.1 else z27.1 + (1 : Int32)), z27.2 + (1 : Int32)))))))))
def m_X8_countKept (S : Sk) (a2 : Int32) (mm : Mm) : Option (Int32 × Mm) := (whileF FU (m_X8_countKept_b2) ((0 : Int32), mm)).bind (fun p2 => (whileF FU (m_X8_countKept_b23 a2 S) ((0 : Int32), p2)).bind (fun p10 => (whileF FU (m_X8_countKept_b70 S p10) ((0 : Int32), (0 : Int32))).bind (fun p28 => some (p28, p10))))
set_option maxHeartbeats 4000000 in
set_option maxRecDepth 100000 in
theorem c_X8_countKept {l : Launch} {G : Gt} {S : Sk} {a2 : Int32} {mm : Mm} (hI : SI S) {q : Int32 × Mm} (e : m_X8_countKept S a2 mm = some q) : CallOK l G M_X8_countKept yX8_countKept 2 [vr (some 34), vr (some 14), vi a2] S mm (some (vi q.1)) S q.2 := by
  have hS := hI.1
  refine call_of_run rfl rfl rfl (Nat.le_of_ble_eq_true rfl) ?_
  show Run l G M_X8_countKept 2 0 [some (vr (some 34)), some (vr (some 14)), some (vi a2), none, none, none] [] S mm (some (vi q.1)) S q.2
  unfold m_X8_countKept at e
  refine r_iconst (v := 0) dX8_countKept_0 ci_0 ?_
  refine r_istore_n dX8_countKept_1 (by decide) rfl ?_
  obtain ⟨p2, eb6w, e⟩ := obind e
  have J3a : Run l G M_X8_countKept 2 21 [some (vr (some 34)), some (vr (some 14)), some (vi a2), none, none, none] [] S p2 (some (vi q.1)) S q.2 := by
    refine r_iconst (v := 0) dX8_countKept_21 ci_0 ?_
    refine r_istore_n dX8_countKept_22 (by decide) rfl ?_
    obtain ⟨p10, eb14w, e⟩ := obind e
    have J11a : Run l G M_X8_countKept 2 65 [some (vr (some 34)), some (vr (some 14)), none, none, none, none] [] S p10 (some (vi q.1)) S q.2 := by
      refine r_iconst (v := 0) dX8_countKept_65 ci_0 ?_
      refine r_istore_n dX8_countKept_66 (by decide) rfl ?_
      refine r_iconst (v := 0) dX8_countKept_67 ci_0 ?_
      refine r_istore dX8_countKept_68 (by decide) rfl ?_
      obtain ⟨p28, eb32w, e⟩ := obind e
      have J29a : Run l G M_X8_countKept 2 126 [none, none, none, some (vi p28), none, none] [] S p10 (some (vi q.1)) S q.2 := by
        refine r_iload_n dX8_countKept_126 rfl ?_
        cases e
        exact r_ireturn dX8_countKept_127 rfl rfl
      have J29 : ∀ pp : Int32, pp = p28 → Run l G M_X8_countKept 2 126 [none, none, none, some (vi pp), none, none] [] S p10 (some (vi q.1)) S q.2 := by
        intro pp hpp
        rw [hpp]
        exact J29a
      have J29w : Run l G M_X8_countKept 2 70 [some (vr (some 34)), some (vr (some 14)), none, some (vi (0 : Int32)), some (vi (0 : Int32)), none] [] S p10 (some (vi q.1)) S q.2 := by
        refine while_run (s := ((0 : Int32), (0 : Int32))) (Gs := fun (z27 : Int32 × Int32) => Run l G M_X8_countKept 2 70 [some (vr (some 34)), some (vr (some 14)), none, some (vi z27.1), some (vi z27.2), none] [] S p10 (some (vi q.1)) S q.2) eb32w ?_
        intro z27 x30y eb32 hx31
        unfold m_X8_countKept_b70 at eb32
        refine r_iload dX8_countKept_70 rfl ?_
        refine r_aload_n dX8_countKept_72 rfl ?_
        refine r_getI dX8_countKept_73 fl_X8_19 rfl (lp_34 hS) (lq_34 hS) ?_
        refine r_icmp_ge (tgt := 126) dX8_countKept_76 rfl (fun h33 => ?_) (fun h33 => ?_)
        · replace eb32 := ite_t h33 eb32
          cases eb32
          exact r_weak (L' := [none, none, none, some (vi z27.1), none, none]) ⟨rfl, trivial⟩ (J29 _ hx31)
        · replace eb32 := ite_f h33 eb32
          refine r_aload_n dX8_countKept_79 rfl ?_
          refine r_iload dX8_countKept_80 rfl ?_
          obtain ⟨q34, eq35, eb32⟩ := obind eb32
          refine r_callV (as := [_]) (rest := []) dX8_countKept_82 ml_X8_41 yV_X8_whoOf (c_X8_whoOf hI eq35) (by decide) rfl (lp_34 hS) (lq_34 hS) (Nat.le_of_ble_eq_true rfl) ?_
          refine r_istore dX8_countKept_85 (by decide) rfl ?_
          refine r_aload_n dX8_countKept_87 rfl ?_
          refine r_aload_n dX8_countKept_88 rfl ?_
          refine r_getR dX8_countKept_89 fl_X8_26 rfl (lp_34 hS) (lq_34 hS) (lr_34_4 hS) ?_
          refine r_iload dX8_countKept_92 rfl ?_
          obtain ⟨hg36, eb32⟩ := grd_some eb32
          refine r_iald dX8_countKept_94 (lp_36 hS) (lk_36 hS) hg36 ?_
          refine r_aload_n dX8_countKept_95 rfl ?_
          refine r_getR dX8_countKept_96 fl_X8_79 rfl (lp_14 hS) (lq_14 hS) (lr_14_3 hS) ?_
          refine r_iload dX8_countKept_99 rfl ?_
          obtain ⟨hg37, eb32⟩ := grd_some eb32
          refine r_iald dX8_countKept_101 (lp_16 hS) (lk_16 hS) hg37 ?_
          obtain ⟨q38, eq39, eb32⟩ := obind eb32
          refine r_callV (as := [_, _]) (rest := []) dX8_countKept_102 ml_X8_82 yV_X7_keptOf (c_X7_keptOf hS eq39) (by decide) rfl (lp_14 hS) (lq_14 hS) (Nat.le_of_ble_eq_true rfl) ?_
          refine r_aload_n dX8_countKept_105 rfl ?_
          refine r_iload dX8_countKept_106 rfl ?_
          obtain ⟨q40, eq41, eb32⟩ := obind eb32
          refine r_callV (as := [_]) (rest := [_]) dX8_countKept_108 ml_X8_51 yV_X8_thingOf (c_X8_thingOf hI eq41) (by decide) rfl (lp_34 hS) (lq_34 hS) (Nat.le_of_ble_eq_true rfl) ?_
          refine r_callSN (as := [_, _]) (rest := []) dX8_countKept_111 nl_X8_75 yS_X11_has (c_X11_has) (by decide) rfl (Nat.le_of_ble_eq_true rfl) ?_
          have J44 : ∀ (w43 : Int32), w43 = (if (m_X11_has q38 q40) = 0 then z27.1 else z27.1 + (1 : Int32)) → Run l G M_X8_countKept 2 120 [some (vr (some 34)), some (vr (some 14)), none, some (vi w43), some (vi z27.2), none] [] S p10 (some (vi q.1)) S q.2 := by
            intro w43 hw45
            subst hw45
            refine r_iinc (v := _ + (1 : Int32)) dX8_countKept_120 rfl (congrArg (_ + ·) ci_1) (by decide) rfl ?_
            refine r_goto (tgt := 70) dX8_countKept_123 rfl ?_
            cases eb32
            exact r_weak (L' := [some (vr (some 34)), some (vr (some 14)), none, some (vi (if (m_X11_has q38 q40) = 0 then z27.1 else z27.1 + (1 : Int32))), some (vi (z27.2 + (1 : Int32))), none]) ⟨rfl, rfl, rfl, rfl, trivial⟩ hx31
          refine r_if_eq (tgt := 120) dX8_countKept_114 rfl (fun h42 => ?_) (fun h42 => ?_)
          · exact r_weak (L' := [some (vr (some 34)), some (vr (some 14)), none, some (vi z27.1), some (vi z27.2), none]) ⟨rfl, rfl, rfl, rfl, trivial⟩ (J44 _ (Eq.symm (if_pos h42)))
          · refine r_iinc (v := _ + (1 : Int32)) dX8_countKept_117 rfl (congrArg (_ + ·) ci_1) (by decide) rfl ?_
            exact r_weak (L' := [some (vr (some 34)), some (vr (some 14)), none, some (vi (z27.1 + (1 : Int32))), some (vi z27.2), none]) ⟨rfl, rfl, rfl, rfl, trivial⟩ (J44 _ (Eq.symm (if_neg h42)))
      exact r_weak (L' := [some (vr (some 34)), some (vr (some 14)), none, some (vi (0 : Int32)), some (vi (0 : Int32)), none]) ⟨rfl, rfl, rfl, rfl, trivial⟩ J29w
    have J11 : ∀ pp : Mm, pp = p10 → Run l G M_X8_countKept 2 65 [some (vr (some 34)), some (vr (some 14)), none, none, none, none] [] S pp (some (vi q.1)) S q.2 := by
      intro pp hpp
      rw [hpp]
      exact J11a
    have J11w : Run l G M_X8_countKept 2 23 [some (vr (some 34)), some (vr (some 14)), some (vi a2), some (vi (0 : Int32)), none, none] [] S p2 (some (vi q.1)) S q.2 := by
      refine while_run (s := ((0 : Int32), p2)) (Gs := fun (z9 : Int32 × Mm) => Run l G M_X8_countKept 2 23 [some (vr (some 34)), some (vr (some 14)), some (vi a2), some (vi z9.1), none, none] [] S z9.2 (some (vi q.1)) S q.2) eb14w ?_
      intro z9 x12y eb14 hx13
      unfold m_X8_countKept_b23 at eb14
      refine r_iload_n dX8_countKept_23 rfl ?_
      refine r_aload_n dX8_countKept_24 rfl ?_
      refine r_getI dX8_countKept_25 fl_X8_19 rfl (lp_34 hS) (lq_34 hS) ?_
      refine r_icmp_ge (tgt := 65) dX8_countKept_28 rfl (fun h15 => ?_) (fun h15 => ?_)
      · replace eb14 := ite_t h15 eb14
        cases eb14
        exact r_weak (L' := [some (vr (some 34)), some (vr (some 14)), none, none, none, none]) ⟨rfl, rfl, trivial⟩ (J11 _ hx13)
      · replace eb14 := ite_f h15 eb14
        refine r_iload_n dX8_countKept_31 rfl ?_
        refine r_iload_n dX8_countKept_32 rfl ?_
        refine r_callSN (as := [_, _]) (rest := []) dX8_countKept_33 nl_X8_75 yS_X11_has (c_X11_has) (by decide) rfl (Nat.le_of_ble_eq_true rfl) ?_
        obtain ⟨p16, ep18, eb14⟩ := obind eb14
        have J17a : Run l G M_X8_countKept 2 59 [some (vr (some 34)), some (vr (some 14)), some (vi a2), some (vi z9.1), none, none] [] S p16 (some (vi q.1)) S q.2 := by
          refine r_iinc (v := _ + (1 : Int32)) dX8_countKept_59 rfl (congrArg (_ + ·) ci_1) (by decide) rfl ?_
          refine r_goto (tgt := 23) dX8_countKept_62 rfl ?_
          cases eb14
          exact r_weak (L' := [some (vr (some 34)), some (vr (some 14)), some (vi a2), some (vi (z9.1 + (1 : Int32))), none, none]) ⟨rfl, rfl, rfl, rfl, trivial⟩ hx13
        have J17 : ∀ pp : Mm, pp = p16 → Run l G M_X8_countKept 2 59 [some (vr (some 34)), some (vr (some 14)), some (vi a2), some (vi z9.1), none, none] [] S pp (some (vi q.1)) S q.2 := by
          intro pp hpp
          rw [hpp]
          exact J17a
        refine r_if_eq (tgt := 59) dX8_countKept_36 rfl (fun h20 => ?_) (fun h20 => ?_)
        · replace ep18 := ite_t h20 ep18
          exact r_weak (L' := [some (vr (some 34)), some (vr (some 14)), some (vi a2), some (vi z9.1), none, none]) ⟨rfl, rfl, rfl, rfl, trivial⟩ (J17 _ (Option.some.inj ep18))
        · replace ep18 := ite_f h20 ep18
          refine r_aload_n dX8_countKept_39 rfl ?_
          refine r_getR dX8_countKept_40 fl_X8_26 rfl (lp_34 hS) (lq_34 hS) (lr_34_4 hS) ?_
          refine r_aload_n dX8_countKept_43 rfl ?_
          refine r_iload_n dX8_countKept_44 rfl ?_
          obtain ⟨q21, eq22, ep18⟩ := obind ep18
          refine r_callV (as := [_]) (rest := [_]) dX8_countKept_45 ml_X8_41 yV_X8_whoOf (c_X8_whoOf hI eq22) (by decide) rfl (lp_34 hS) (lq_34 hS) (Nat.le_of_ble_eq_true rfl) ?_
          refine r_dup2 dX8_countKept_48 rfl rfl ?_
          obtain ⟨hg23, ep18⟩ := grd_some ep18
          refine r_iald dX8_countKept_49 (lp_36 hS) (lk_36 hS) hg23 ?_
          refine r_iconst (v := 1) dX8_countKept_50 ci_1 ?_
          refine r_aload_n dX8_countKept_51 rfl ?_
          refine r_iload_n dX8_countKept_52 rfl ?_
          obtain ⟨q24, eq25, ep18⟩ := obind ep18
          refine r_callV (as := [_]) (rest := [_, _, _, _]) dX8_countKept_53 ml_X8_51 yV_X8_thingOf (c_X8_thingOf hI eq25) (by decide) rfl (lp_34 hS) (lq_34 hS) (Nat.le_of_ble_eq_true rfl) ?_
          refine r_ishl dX8_countKept_56 ?_
          refine r_ior dX8_countKept_57 ?_
          obtain ⟨hg26, ep18⟩ := grd_some ep18
          refine r_iast dX8_countKept_58 (lp_36 hS) (lk_36 hS) hg26 ?_
          exact r_weak (L' := [some (vr (some 34)), some (vr (some 14)), some (vi a2), some (vi z9.1), none, none]) ⟨rfl, rfl, rfl, rfl, trivial⟩ (J17 _ (Option.some.inj ep18))
    exact r_weak (L' := [some (vr (some 34)), some (vr (some 14)), some (vi a2), some (vi (0 : Int32)), none, none]) ⟨rfl, rfl, rfl, rfl, trivial⟩ J11w
  have J3 : ∀ pp : Mm, pp = p2 → Run l G M_X8_countKept 2 21 [some (vr (some 34)), some (vr (some 14)), some (vi a2), none, none, none] [] S pp (some (vi q.1)) S q.2 := by
    intro pp hpp
    rw [hpp]
    exact J3a
  have J3w : Run l G M_X8_countKept 2 2 [some (vr (some 34)), some (vr (some 14)), some (vi a2), some (vi (0 : Int32)), none, none] [] S mm (some (vi q.1)) S q.2 := by
    refine while_run (s := ((0 : Int32), mm)) (Gs := fun (z1 : Int32 × Mm) => Run l G M_X8_countKept 2 2 [some (vr (some 34)), some (vr (some 14)), some (vi a2), some (vi z1.1), none, none] [] S z1.2 (some (vi q.1)) S q.2) eb6w ?_
    intro z1 x4y eb6 hx5
    unfold m_X8_countKept_b2 at eb6
    refine r_iload_n dX8_countKept_2 rfl ?_
    refine r_bipush (v := 6) dX8_countKept_3 cb_6 ?_
    refine r_icmp_ge (tgt := 21) dX8_countKept_5 rfl (fun h7 => ?_) (fun h7 => ?_)
    · replace eb6 := ite_t h7 eb6
      cases eb6
      exact r_weak (L' := [some (vr (some 34)), some (vr (some 14)), some (vi a2), none, none, none]) ⟨rfl, rfl, rfl, trivial⟩ (J3 _ hx5)
    · replace eb6 := ite_f h7 eb6
      refine r_aload_n dX8_countKept_8 rfl ?_
      refine r_getR dX8_countKept_9 fl_X8_26 rfl (lp_34 hS) (lq_34 hS) (lr_34_4 hS) ?_
      refine r_iload_n dX8_countKept_12 rfl ?_
      refine r_iconst (v := 0) dX8_countKept_13 ci_0 ?_
      obtain ⟨hg8, eb6⟩ := grd_some eb6
      refine r_iast dX8_countKept_14 (lp_36 hS) (lk_36 hS) hg8 ?_
      refine r_iinc (v := _ + (1 : Int32)) dX8_countKept_15 rfl (congrArg (_ + ·) ci_1) (by decide) rfl ?_
      refine r_goto (tgt := 2) dX8_countKept_18 rfl ?_
      cases eb6
      exact r_weak (L' := [some (vr (some 34)), some (vr (some 14)), some (vi a2), some (vi (z1.1 + (1 : Int32))), none, none]) ⟨rfl, rfl, rfl, rfl, trivial⟩ hx5
  exact r_weak (L' := [some (vr (some 34)), some (vr (some 14)), some (vi a2), some (vi (0 : Int32)), none, none]) ⟨rfl, rfl, rfl, rfl, trivial⟩ J3w
def m_X9_init (S : Sk) (a0 : Nat) (mm : Mm) : Option (Sk × Mm) := some ((sRs (nwS (sRs (nwS (sRs (nwS (sRs (nwS S 21 600 600) a0 0 (some S.1)) 20 4 4) a0 4 (some ((sRs (nwS S 21 600 600) a0 0 (some S.1)).1))) 23 2 2) a0 5 (some ((sRs (nwS (sRs (nwS S 21 600 600) a0 0 (some S.1)) 20 4 4) a0 4 (some ((sRs (nwS S 21 600 600) a0 0 (some S.1)).1))).1))) 24 8 8) a0 6 (some ((sRs (nwS (sRs (nwS (sRs (nwS S 21 600 600) a0 0 (some S.1)) 20 4 4) a0 4 (some ((sRs (nwS S 21 600 600) a0 0 (some S.1)).1))) 23 2 2) a0 5 (some ((sRs (nwS (sRs (nwS S 21 600 600) a0 0 (some S.1)) 20 4 4) a0 4 (some ((sRs (nwS S 21 600 600) a0 0 (some S.1)).1))).1))).1))), (nwM (sRs (nwS (sRs (nwS (sRs (nwS S 21 600 600) a0 0 (some S.1)) 20 4 4) a0 4 (some ((sRs (nwS S 21 600 600) a0 0 (some S.1)).1))) 23 2 2) a0 5 (some ((sRs (nwS (sRs (nwS S 21 600 600) a0 0 (some S.1)) 20 4 4) a0 4 (some ((sRs (nwS S 21 600 600) a0 0 (some S.1)).1))).1))) (nwM (sRs (nwS (sRs (nwS S 21 600 600) a0 0 (some S.1)) 20 4 4) a0 4 (some ((sRs (nwS S 21 600 600) a0 0 (some S.1)).1))) (nwM (sRs (nwS S 21 600 600) a0 0 (some S.1)) (sI (sI (sI (nwM S mm) a0 1 (0 : Int32)) a0 2 (0 : Int32)) a0 3 (-1 : Int32))))))
set_option maxHeartbeats 4000000 in
set_option maxRecDepth 100000 in
theorem c_X9_init {l : Launch} {G : Gt} {S : Sk} {a0 : Nat} {mm : Mm} (ha0 : KD S a0 9) {q : Sk × Mm} (e : m_X9_init S a0 mm = some q) : CallOK l G M_X9_init yX9_init 1 [vr (some a0)] S mm (none) q.1 q.2 := by
  refine call_of_run rfl rfl rfl (Nat.le_of_ble_eq_true rfl) ?_
  show Run l G M_X9_init 1 0 [some (vr (some a0))] [] S mm (none) q.1 q.2
  unfold m_X9_init at e
  refine r_aload_n dX9_init_0 rfl ?_
  refine r_objInit (rest := []) dX9_init_1 oi_X9_3 oi_i oi_c (by decide) (Nat.le_of_ble_eq_true rfl) ?_
  refine r_aload_n dX9_init_4 rfl ?_
  refine r_sipush (v := 600) dX9_init_5 cs_600 ?_
  refine r_newa (t := 21) dX9_init_8 rfl (by decide) (by decide) aw_21 (by decide) (N := 600) (by decide) (by decide) ?_
  have hn1 := kd_nw (k := 21) (len := 600) (z := 600) ha0
  have hn2 : AK (nwS S 21 600 600) S.1 21 600 := ak_new
  refine r_putR dX9_init_10 fl_X9_9 ft_9_0 (Or.inr ⟨rfl, fun q hq => by cases hq; rfl⟩) rfl hn1.1 hn1.2 ?_
  refine r_aload_n dX9_init_13 rfl ?_
  refine r_iconst (v := 0) dX9_init_14 ci_0 ?_
  refine r_putI dX9_init_15 fl_X9_15 ft_9_1 (Or.inl rfl) rfl rfl rfl hn1.1 hn1.2 ?_
  refine r_aload_n dX9_init_18 rfl ?_
  refine r_iconst (v := 0) dX9_init_19 ci_0 ?_
  refine r_putI dX9_init_20 fl_X9_19 ft_9_2 (Or.inl rfl) rfl rfl rfl hn1.1 hn1.2 ?_
  refine r_aload_n dX9_init_23 rfl ?_
  refine r_iconst (v := -1) dX9_init_24 ci_m1 ?_
  refine r_putI dX9_init_25 fl_X9_22 ft_9_3 (Or.inl rfl) rfl rfl rfl hn1.1 hn1.2 ?_
  refine r_aload_n dX9_init_28 rfl ?_
  refine r_iconst (v := 4) dX9_init_29 ci_4 ?_
  refine r_newa (t := 20) dX9_init_30 rfl (by decide) (by decide) aw_20 (by decide) (N := 4) (by decide) (by decide) ?_
  have hn3 := kd_nw (k := 20) (len := 4) (z := 4) hn1
  have hn4 := ak_nw (k := 20) (len := 4) (z := 4) hn2
  have hn5 : AK (nwS (sRs (nwS S 21 600 600) a0 0 (some S.1)) 20 4 4) (sRs (nwS S 21 600 600) a0 0 (some S.1)).1 20 4 := ak_new
  refine r_putR dX9_init_32 fl_X9_25 ft_9_4 (Or.inr ⟨rfl, fun q hq => by cases hq; rfl⟩) rfl hn3.1 hn3.2 ?_
  refine r_aload_n dX9_init_35 rfl ?_
  refine r_iconst (v := 2) dX9_init_36 ci_2 ?_
  refine r_anew (t := 23) dX9_init_37 rfl (by decide) (by decide) cl_X9_29 (by decide) (N := 2) (by decide) (by decide) ?_
  have hn6 := kd_nw (k := 23) (len := 2) (z := 2) hn3
  have hn7 := ak_nw (k := 23) (len := 2) (z := 2) hn4
  have hn8 := ak_nw (k := 23) (len := 2) (z := 2) hn5
  have hn9 : AK (nwS (sRs (nwS (sRs (nwS S 21 600 600) a0 0 (some S.1)) 20 4 4) a0 4 (some ((sRs (nwS S 21 600 600) a0 0 (some S.1)).1))) 23 2 2) (sRs (nwS (sRs (nwS S 21 600 600) a0 0 (some S.1)) 20 4 4) a0 4 (some ((sRs (nwS S 21 600 600) a0 0 (some S.1)).1))).1 23 2 := ak_new
  refine r_putR dX9_init_40 fl_X9_31 ft_9_5 (Or.inr ⟨rfl, fun q hq => by cases hq; rfl⟩) rfl hn6.1 hn6.2 ?_
  refine r_aload_n dX9_init_43 rfl ?_
  refine r_bipush (v := 8) dX9_init_44 cb_8 ?_
  refine r_anew (t := 24) dX9_init_46 rfl (by decide) (by decide) cl_X9_35 (by decide) (N := 8) (by decide) (by decide) ?_
  have hn10 := kd_nw (k := 24) (len := 8) (z := 8) hn6
  have hn11 := ak_nw (k := 24) (len := 8) (z := 8) hn7
  have hn12 := ak_nw (k := 24) (len := 8) (z := 8) hn8
  have hn13 := ak_nw (k := 24) (len := 8) (z := 8) hn9
  have hn14 : AK (nwS (sRs (nwS (sRs (nwS (sRs (nwS S 21 600 600) a0 0 (some S.1)) 20 4 4) a0 4 (some ((sRs (nwS S 21 600 600) a0 0 (some S.1)).1))) 23 2 2) a0 5 (some ((sRs (nwS (sRs (nwS S 21 600 600) a0 0 (some S.1)) 20 4 4) a0 4 (some ((sRs (nwS S 21 600 600) a0 0 (some S.1)).1))).1))) 24 8 8) (sRs (nwS (sRs (nwS (sRs (nwS S 21 600 600) a0 0 (some S.1)) 20 4 4) a0 4 (some ((sRs (nwS S 21 600 600) a0 0 (some S.1)).1))) 23 2 2) a0 5 (some ((sRs (nwS (sRs (nwS S 21 600 600) a0 0 (some S.1)) 20 4 4) a0 4 (some ((sRs (nwS S 21 600 600) a0 0 (some S.1)).1))).1))).1 24 8 := ak_new
  refine r_putR dX9_init_49 fl_X9_37 ft_9_6 (Or.inr ⟨rfl, fun q hq => by cases hq; rfl⟩) rfl hn10.1 hn10.2 ?_
  cases e
  exact r_return dX9_init_52 rfl
