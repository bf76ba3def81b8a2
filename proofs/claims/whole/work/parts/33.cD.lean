noncomputable def m_X9_placeFor (a1 : Int32) (a2 : Int32) (mm : Mm) : Option (Int32) := if a1 < 0 then (some (-1 : Int32)) else (if a1 < (4 : Int32) then (if a2 = (-1 : Int32) then (grd a1 4 (if (2 : Int32) ≤ (mI mm 3 (ix a1)) then (some (-1 : Int32)) else (grd a1 4 (some (mI mm 3 (ix a1)))))) else (if a2 < 0 then (some (-1 : Int32)) else (grd a1 4 (if (mI mm 3 (ix a1)) ≤ a2 then (some (-1 : Int32)) else (some a2))))) else (some (-1 : Int32)))
set_option maxHeartbeats 4000000 in
set_option maxRecDepth 100000 in
theorem c_X9_placeFor {l : Launch} {G : Gt} {S : Sk} {a1 : Int32} {a2 : Int32} {mm : Mm} (hS : Lay S) {q : Int32} (e : m_X9_placeFor a1 a2 mm = some q) : CallOK l G M_X9_placeFor yX9_placeFor 0 [vr (some 1), vi a1, vi a2] S mm (some (vi q)) S mm := by
  refine call_of_run rfl rfl rfl (Nat.le_of_ble_eq_true rfl) ?_
  show Run l G M_X9_placeFor 0 0 [some (vr (some 1)), some (vi a1), some (vi a2)] [] S mm (some (vi q)) S mm
  unfold m_X9_placeFor at e
  refine r_iload_n dX9_placeFor_0 rfl ?_
  refine r_if_lt (tgt := 9) dX9_placeFor_1 rfl (fun h1 => ?_) (fun h1 => ?_)
  · replace e := ite_t h1 e
    refine r_iconst (v := -1) dX9_placeFor_9 ci_m1 ?_
    cases e
    exact r_ireturn dX9_placeFor_10 rfl rfl
  · replace e := ite_f h1 e
    refine r_iload_n dX9_placeFor_4 rfl ?_
    refine r_iconst (v := 4) dX9_placeFor_5 ci_4 ?_
    refine r_icmp_lt (tgt := 11) dX9_placeFor_6 rfl (fun h2 => ?_) (fun h2 => ?_)
    · replace e := ite_t h2 e
      refine r_iload_n dX9_placeFor_11 rfl ?_
      refine r_iconst (v := -1) dX9_placeFor_12 ci_m1 ?_
      refine r_icmp_ne (tgt := 37) dX9_placeFor_13 rfl (fun h3 => ?_) (fun h3 => ?_)
      · replace e := ite_f h3 e
        refine r_iload_n dX9_placeFor_37 rfl ?_
        refine r_if_lt (tgt := 55) dX9_placeFor_38 rfl (fun h4 => ?_) (fun h4 => ?_)
        · replace e := ite_t h4 e
          refine r_iconst (v := -1) dX9_placeFor_55 ci_m1 ?_
          cases e
          exact r_ireturn dX9_placeFor_56 rfl rfl
        · replace e := ite_f h4 e
          refine r_iload_n dX9_placeFor_41 rfl ?_
          refine r_aload_n dX9_placeFor_42 rfl ?_
          refine r_getR dX9_placeFor_43 fl_X9_25 rfl (lp_1 hS) (lq_1 hS) (lr_1_4 hS) ?_
          refine r_iload_n dX9_placeFor_46 rfl ?_
          obtain ⟨hg5, e⟩ := grd_some e
          refine r_iald dX9_placeFor_47 (lp_3 hS) (lk_3 hS) hg5 ?_
          refine r_icmp_ge (tgt := 55) dX9_placeFor_48 rfl (fun h6 => ?_) (fun h6 => ?_)
          · replace e := ite_t h6 e
            refine r_iconst (v := -1) dX9_placeFor_55 ci_m1 ?_
            cases e
            exact r_ireturn dX9_placeFor_56 rfl rfl
          · replace e := ite_f h6 e
            refine r_iload_n dX9_placeFor_51 rfl ?_
            refine r_goto (tgt := 56) dX9_placeFor_52 rfl ?_
            cases e
            exact r_ireturn dX9_placeFor_56 rfl rfl
      · replace e := ite_t h3 e
        refine r_aload_n dX9_placeFor_16 rfl ?_
        refine r_getR dX9_placeFor_17 fl_X9_25 rfl (lp_1 hS) (lq_1 hS) (lr_1_4 hS) ?_
        refine r_iload_n dX9_placeFor_20 rfl ?_
        obtain ⟨hg7, e⟩ := grd_some e
        refine r_iald dX9_placeFor_21 (lp_3 hS) (lk_3 hS) hg7 ?_
        refine r_iconst (v := 2) dX9_placeFor_22 ci_2 ?_
        refine r_icmp_ge (tgt := 35) dX9_placeFor_23 rfl (fun h8 => ?_) (fun h8 => ?_)
        · replace e := ite_t h8 e
          refine r_iconst (v := -1) dX9_placeFor_35 ci_m1 ?_
          cases e
          exact r_ireturn dX9_placeFor_36 rfl rfl
        · replace e := ite_f h8 e
          refine r_aload_n dX9_placeFor_26 rfl ?_
          refine r_getR dX9_placeFor_27 fl_X9_25 rfl (lp_1 hS) (lq_1 hS) (lr_1_4 hS) ?_
          refine r_iload_n dX9_placeFor_30 rfl ?_
          obtain ⟨hg9, e⟩ := grd_some e
          refine r_iald dX9_placeFor_31 (lp_3 hS) (lk_3 hS) hg9 ?_
          refine r_goto (tgt := 36) dX9_placeFor_32 rfl ?_
          cases e
          exact r_ireturn dX9_placeFor_36 rfl rfl
    · replace e := ite_f h2 e
      refine r_iconst (v := -1) dX9_placeFor_9 ci_m1 ?_
      cases e
      exact r_ireturn dX9_placeFor_10 rfl rfl
noncomputable def m_X9_store (S : Sk) (a1 : Int32) (a2 : Int32) (mm : Mm) : Option (Sk × Mm) := (if a1 = 0 then ((m_X2_init (nwS S 2 0 10) S.1 (nwM S mm)).bind (fun q12 => gP (Lay q12.1) (gk q12.1 S.1 2 (grd a2 2 (some ((sRs q12.1 4 (ix a2) (some S.1)), q12.2)))))) else ((m_X6_copy S mm).bind (fun q6 => gP (Lay q6.2.1) (gP (∀ v, q6.1 = some v → KD q6.2.1 v 6) (grd ((a1 * (2 : Int32)) + a2) 8 (some ((sRs q6.2.1 5 (ix ((a1 * (2 : Int32)) + a2)) q6.1), q6.2.2)))))) : Option (Sk × Mm)).bind (fun p1 => gP (Lay p1.1) (grd a1 4 (grd a1 4 (some (p1.1, (sI p1.2 3 (ix a1) (xmax (mI p1.2 3 (ix a1)) (a2 + (1 : Int32)))))))))
set_option maxHeartbeats 4000000 in
set_option maxRecDepth 100000 in
theorem c_X9_store {l : Launch} {G : Gt} {S : Sk} {a1 : Int32} {a2 : Int32} {mm : Mm} (hS : Lay S) {q : Sk × Mm} (e : m_X9_store S a1 a2 mm = some q) : CallOK l G M_X9_store yX9_store 3 [vr (some 1), vi a1, vi a2, vr (some 8)] S mm (none) q.1 q.2 := by
  refine call_of_run rfl rfl rfl (Nat.le_of_ble_eq_true rfl) ?_
  show Run l G M_X9_store 3 0 [some (vr (some 1)), some (vi a1), some (vi a2), some (vr (some 8))] [] S mm (none) q.1 q.2
  unfold m_X9_store at e
  refine r_iload_n dX9_store_0 rfl ?_
  obtain ⟨p1, ep3, e⟩ := obind e
  have J2a : Run l G M_X9_store 3 35 [some (vr (some 1)), some (vi a1), some (vi a2), none] [] p1.1 p1.2 (none) q.1 q.2 := by
    refine r_aload_n dX9_store_35 rfl ?_
    obtain ⟨hn17, e⟩ := gP_some e
    refine r_getR dX9_store_36 fl_X9_25 rfl (lp_1 hn17) (lq_1 hn17) (lr_1_4 hn17) ?_
    refine r_iload_n dX9_store_39 rfl ?_
    refine r_aload_n dX9_store_40 rfl ?_
    refine r_getR dX9_store_41 fl_X9_25 rfl (lp_1 hn17) (lq_1 hn17) (lr_1_4 hn17) ?_
    refine r_iload_n dX9_store_44 rfl ?_
    obtain ⟨hg18, e⟩ := grd_some e
    refine r_iald dX9_store_45 (lp_3 hn17) (lk_3 hn17) hg18 ?_
    refine r_iload_n dX9_store_46 rfl ?_
    refine r_iconst (v := 1) dX9_store_47 ci_1 ?_
    refine r_iadd dX9_store_48 ?_
    refine r_mmax (rest := [_, _]) dX9_store_49 ml_X9_48 (by decide) (Nat.le_of_ble_eq_true rfl) ?_
    obtain ⟨hg19, e⟩ := grd_some e
    refine r_iast dX9_store_52 (lp_3 hn17) (lk_3 hn17) hg19 ?_
    cases e
    exact r_return dX9_store_53 rfl
  have J2 : ∀ pp : Sk × Mm, pp = p1 → Run l G M_X9_store 3 35 [some (vr (some 1)), some (vi a1), some (vi a2), none] [] pp.1 pp.2 (none) q.1 q.2 := by
    intro pp hpp
    rw [hpp]
    exact J2a
  refine r_if_ne (tgt := 21) dX9_store_1 rfl (fun h5 => ?_) (fun h5 => ?_)
  · replace ep3 := ite_f h5 ep3
    refine r_aload_n dX9_store_21 rfl ?_
    refine r_getR dX9_store_22 fl_X9_37 rfl (lp_1 hS) (lq_1 hS) (lr_1_6 hS) ?_
    refine r_iload_n dX9_store_25 rfl ?_
    refine r_iconst (v := 2) dX9_store_26 ci_2 ?_
    refine r_imul dX9_store_27 ?_
    refine r_iload_n dX9_store_28 rfl ?_
    refine r_iadd dX9_store_29 ?_
    refine r_aload_n dX9_store_30 rfl ?_
    obtain ⟨q6, eq7, ep3⟩ := obind ep3
    refine r_callV (as := []) (rest := [_, _]) dX9_store_31 ml_X9_44 yV_X6_copy (c_X6_copy eq7) (by decide) rfl (lp_8 hS) (lq_8 hS) (Nat.le_of_ble_eq_true rfl) ?_
    obtain ⟨hn8, ep3⟩ := gP_some ep3
    obtain ⟨ho9, ep3⟩ := gP_some ep3
    obtain ⟨hg10, ep3⟩ := grd_some ep3
    refine r_aast dX9_store_34 (lp_5 hn8) (lk_5 hn8) (by decide) (by decide) hg10 ho9 ?_
    exact r_weak (L' := [some (vr (some 1)), some (vi a1), some (vi a2), none]) ⟨rfl, rfl, rfl, trivial⟩ (J2 _ (Option.some.inj ep3))
  · replace ep3 := ite_t h5 ep3
    refine r_aload_n dX9_store_4 rfl ?_
    refine r_getR dX9_store_5 fl_X9_31 rfl (lp_1 hS) (lq_1 hS) (lr_1_5 hS) ?_
    refine r_iload_n dX9_store_8 rfl ?_
    refine r_new dX9_store_9 nw_X9_29 ?_
    have hn11 : KD (nwS S 2 0 10) S.1 2 := kd_new
    refine r_dup dX9_store_12 rfl ?_
    refine r_aload_n dX9_store_13 rfl ?_
    obtain ⟨q12, eq13, ep3⟩ := obind ep3
    refine r_callI (as := [_]) (rest := [_, _, _]) dX9_store_14 ml_X9_41 yI_X2_init (c_X2_init hn11 eq13) (by decide) rfl (Nat.le_of_ble_eq_true rfl) ?_
    obtain ⟨hn14, ep3⟩ := gP_some ep3
    obtain ⟨hn15, ep3⟩ := gk_some ep3
    obtain ⟨hg16, ep3⟩ := grd_some ep3
    refine r_aast dX9_store_17 (lp_4 hn14) (lk_4 hn14) (by decide) (by decide) hg16 (fun v hv => by cases hv; exact hn15) ?_
    refine r_goto (tgt := 35) dX9_store_18 rfl ?_
    exact r_weak (L' := [some (vr (some 1)), some (vi a1), some (vi a2), none]) ⟨rfl, rfl, rfl, trivial⟩ (J2 _ (Option.some.inj ep3))
noncomputable def m_X9_countyAt (S : Sk) (a1 : Int32) (mm : Mm) : Option (Option Nat) := bS (if a1 < 0 then (some (.inl ())) else (if a1 < (mI mm 3 (ix (0 : Int32))) then (grd a1 2 (some (.inr (sR S 4 (ix a1))))) else (some (.inl ()))) : Option ((Unit) ⊕ (Option Nat))) (fun p1 => some none)
set_option maxHeartbeats 4000000 in
set_option maxRecDepth 100000 in
theorem c_X9_countyAt {l : Launch} {G : Gt} {S : Sk} {a1 : Int32} {mm : Mm} (hS : Lay S) {q : Option Nat} (e : m_X9_countyAt S a1 mm = some q) : CallOK l G M_X9_countyAt yX9_countyAt 0 [vr (some 1), vi a1] S mm (some (vr q)) S mm := by
  refine call_of_run rfl rfl rfl (Nat.le_of_ble_eq_true rfl) ?_
  show Run l G M_X9_countyAt 0 0 [some (vr (some 1)), some (vi a1)] [] S mm (some (vr q)) S mm
  unfold m_X9_countyAt at e
  refine r_iload_n dX9_countyAt_0 rfl ?_
  obtain ⟨x4, ep3, elx4, erx4⟩ := bS_some e
  have J2 : ∀ p1 : Unit, x4 = .inl p1 → Run l G M_X9_countyAt 0 14 [none, none] [] S mm (some (vr q)) S mm := by
    intro p1 hp1
    replace e := elx4 p1 hp1
    refine r_null dX9_countyAt_14 ?_
    refine r_goto (tgt := 24) dX9_countyAt_15 rfl ?_
    cases e
    exact r_areturn dX9_countyAt_24 rfl (Or.inl ⟨_, rfl⟩) (Or.inl ⟨_, rfl⟩)
  refine r_if_lt (tgt := 14) dX9_countyAt_1 rfl (fun h5 => ?_) (fun h5 => ?_)
  · replace ep3 := ite_t h5 ep3
    cases ep3
    exact r_weak (L' := [none, none]) trivial (J2 _ rfl)
  · replace ep3 := ite_f h5 ep3
    refine r_iload_n dX9_countyAt_4 rfl ?_
    refine r_aload_n dX9_countyAt_5 rfl ?_
    refine r_getR dX9_countyAt_6 fl_X9_25 rfl (lp_1 hS) (lq_1 hS) (lr_1_4 hS) ?_
    refine r_iconst (v := 0) dX9_countyAt_9 ci_0 ?_
    refine r_iald dX9_countyAt_10 (lp_3 hS) (lk_3 hS) (vp_in_iff.mpr ⟨by decide, by decide⟩) ?_
    refine r_icmp_lt (tgt := 18) dX9_countyAt_11 rfl (fun h6 => ?_) (fun h6 => ?_)
    · replace ep3 := ite_t h6 ep3
      refine r_aload_n dX9_countyAt_18 rfl ?_
      refine r_getR dX9_countyAt_19 fl_X9_31 rfl (lp_1 hS) (lq_1 hS) (lr_1_5 hS) ?_
      refine r_iload_n dX9_countyAt_22 rfl ?_
      obtain ⟨hg7, ep3⟩ := grd_some ep3
      refine r_aald dX9_countyAt_23 (lp_4 hS) (lk_4 hS) (by decide) (by decide) hg7 rfl ?_
      cases ep3
      have e := congrArg some (erx4 _ rfl)
      cases e
      exact r_areturn dX9_countyAt_24 rfl (Or.inl ⟨_, rfl⟩) (Or.inl ⟨_, rfl⟩)
    · replace ep3 := ite_f h6 ep3
      cases ep3
      exact r_weak (L' := [none, none]) trivial (J2 _ rfl)
noncomputable def m_X9_rowsAt (S : Sk) (a1 : Int32) (a2 : Int32) (mm : Mm) : Option (Option Nat) := bS (if a2 < 0 then (some (.inl ())) else (grd a1 4 (if a2 < (mI mm 3 (ix a1)) then (grd ((a1 * (2 : Int32)) + a2) 8 (some (.inr (sR S 5 (ix ((a1 * (2 : Int32)) + a2)))))) else (some (.inl ())))) : Option ((Unit) ⊕ (Option Nat))) (fun p1 => some none)
set_option maxHeartbeats 4000000 in
set_option maxRecDepth 100000 in
theorem c_X9_rowsAt {l : Launch} {G : Gt} {S : Sk} {a1 : Int32} {a2 : Int32} {mm : Mm} (hS : Lay S) {q : Option Nat} (e : m_X9_rowsAt S a1 a2 mm = some q) : CallOK l G M_X9_rowsAt yX9_rowsAt 0 [vr (some 1), vi a1, vi a2] S mm (some (vr q)) S mm := by
  refine call_of_run rfl rfl rfl (Nat.le_of_ble_eq_true rfl) ?_
  show Run l G M_X9_rowsAt 0 0 [some (vr (some 1)), some (vi a1), some (vi a2)] [] S mm (some (vr q)) S mm
  unfold m_X9_rowsAt at e
  refine r_iload_n dX9_rowsAt_0 rfl ?_
  obtain ⟨x4, ep3, elx4, erx4⟩ := bS_some e
  have J2 : ∀ p1 : Unit, x4 = .inl p1 → Run l G M_X9_rowsAt 0 14 [none, none, none] [] S mm (some (vr q)) S mm := by
    intro p1 hp1
    replace e := elx4 p1 hp1
    refine r_null dX9_rowsAt_14 ?_
    refine r_goto (tgt := 28) dX9_rowsAt_15 rfl ?_
    cases e
    exact r_areturn dX9_rowsAt_28 rfl (Or.inl ⟨_, rfl⟩) (Or.inl ⟨_, rfl⟩)
  refine r_if_lt (tgt := 14) dX9_rowsAt_1 rfl (fun h5 => ?_) (fun h5 => ?_)
  · replace ep3 := ite_t h5 ep3
    cases ep3
    exact r_weak (L' := [none, none, none]) trivial (J2 _ rfl)
  · replace ep3 := ite_f h5 ep3
    refine r_iload_n dX9_rowsAt_4 rfl ?_
    refine r_aload_n dX9_rowsAt_5 rfl ?_
    refine r_getR dX9_rowsAt_6 fl_X9_25 rfl (lp_1 hS) (lq_1 hS) (lr_1_4 hS) ?_
    refine r_iload_n dX9_rowsAt_9 rfl ?_
    obtain ⟨hg6, ep3⟩ := grd_some ep3
    refine r_iald dX9_rowsAt_10 (lp_3 hS) (lk_3 hS) hg6 ?_
    refine r_icmp_lt (tgt := 18) dX9_rowsAt_11 rfl (fun h7 => ?_) (fun h7 => ?_)
    · replace ep3 := ite_t h7 ep3
      refine r_aload_n dX9_rowsAt_18 rfl ?_
      refine r_getR dX9_rowsAt_19 fl_X9_37 rfl (lp_1 hS) (lq_1 hS) (lr_1_6 hS) ?_
      refine r_iload_n dX9_rowsAt_22 rfl ?_
      refine r_iconst (v := 2) dX9_rowsAt_23 ci_2 ?_
      refine r_imul dX9_rowsAt_24 ?_
      refine r_iload_n dX9_rowsAt_25 rfl ?_
      refine r_iadd dX9_rowsAt_26 ?_
      obtain ⟨hg8, ep3⟩ := grd_some ep3
      refine r_aald dX9_rowsAt_27 (lp_5 hS) (lk_5 hS) (by decide) (by decide) hg8 rfl ?_
      cases ep3
      have e := congrArg some (erx4 _ rfl)
      cases e
      exact r_areturn dX9_rowsAt_28 rfl (Or.inl ⟨_, rfl⟩) (Or.inl ⟨_, rfl⟩)
    · replace ep3 := ite_f h7 ep3
      cases ep3
      exact r_weak (L' := [none, none, none]) trivial (J2 _ rfl)
noncomputable def m_X9_copyOf_b57 (a1 : Nat) (a0 : Nat) (z3 : Int32 × Sk) : Option ((Int32 × Sk) ⊕ (Sk)) := gk z3.2 a0 9 (gP (SI z3.2) (if (2 : Int32) ≤ z3.1 then (some (.inr z3.2)) else (gk z3.2 a1 9 (grd z3.1 2 (gP (∀ v, sR z3.2 (a1 + 3) (ix z3.1) = some v → KD z3.2 v 2) (grd z3.1 2 (some (.inl (z3.1 + (1 : Int32), (sRs z3.2 (a0 + 3) (ix z3.1) (sR z3.2 (a1 + 3) (ix z3.1))))))))))))
noncomputable def m_X9_copyOf_b86 (a1 : Nat) (a0 : Nat) (z16 : Int32 × Sk) : Option ((Int32 × Sk) ⊕ (Sk)) := gk z16.2 a0 9 (gP (SI z16.2) (if (8 : Int32) ≤ z16.1 then (some (.inr z16.2)) else (gk z16.2 a1 9 (grd z16.1 8 (gP (∀ v, sR z16.2 (a1 + 4) (ix z16.1) = some v → KD z16.2 v 6) (grd z16.1 8 (some (.inl (z16.1 + (1 : Int32), (sRs z16.2 (a0 + 4) (ix z16.1) (sR z16.2 (a1 + 4) (ix z16.1))))))))))))
noncomputable def m_X9_copyOf (S : Sk) (a0 : Nat) (a1 : Nat) (mm : Mm) : Option (Sk × Mm) := gP (cpOK 21 600 600 (0 : Int32) (0 : Int32) (mI mm a1 1) (fun i => mI mm (a1 + 1) i)) (gP (cpOK 20 4 4 (0 : Int32) (0 : Int32) (4 : Int32) (fun i => mI (sI (sI (sI (cpM mm (a1 + 1) (ix (0 : Int32)) (a0 + 1) (ix (0 : Int32)) (ix (mI mm a1 1))) a0 1 (mI (cpM mm (a1 + 1) (ix (0 : Int32)) (a0 + 1) (ix (0 : Int32)) (ix (mI mm a1 1))) a1 1)) a0 2 (mI (sI (cpM mm (a1 + 1) (ix (0 : Int32)) (a0 + 1) (ix (0 : Int32)) (ix (mI mm a1 1))) a0 1 (mI (cpM mm (a1 + 1) (ix (0 : Int32)) (a0 + 1) (ix (0 : Int32)) (ix (mI mm a1 1))) a1 1)) a1 2)) a0 3 (mI (sI (sI (cpM mm (a1 + 1) (ix (0 : Int32)) (a0 + 1) (ix (0 : Int32)) (ix (mI mm a1 1))) a0 1 (mI (cpM mm (a1 + 1) (ix (0 : Int32)) (a0 + 1) (ix (0 : Int32)) (ix (mI mm a1 1))) a1 1)) a0 2 (mI (sI (cpM mm (a1 + 1) (ix (0 : Int32)) (a0 + 1) (ix (0 : Int32)) (ix (mI mm a1 1))) a0 1 (mI (cpM mm (a1 + 1) (ix (0 : Int32)) (a0 + 1) (ix (0 : Int32)) (ix (mI mm a1 1))) a1 1)) a1 2)) a1 3)) (a1 + 2) i)) ((whileF FU (m_X9_copyOf_b57 a1 a0) ((0 : Int32), S)).bind (fun p4 => (whileF FU (m_X9_copyOf_b86 a1 a0) ((0 : Int32), p4)).bind (fun p17 => some (p17, (cpM (sI (sI (sI (cpM mm (a1 + 1) (ix (0 : Int32)) (a0 + 1) (ix (0 : Int32)) (ix (mI mm a1 1))) a0 1 (mI (cpM mm (a1 + 1) (ix (0 : Int32)) (a0 + 1) (ix (0 : Int32)) (ix (mI mm a1 1))) a1 1)) a0 2 (mI (sI (cpM mm (a1 + 1) (ix (0 : Int32)) (a0 + 1) (ix (0 : Int32)) (ix (mI mm a1 1))) a0 1 (mI (cpM mm (a1 + 1) (ix (0 : Int32)) (a0 + 1) (ix (0 : Int32)) (ix (mI mm a1 1))) a1 1)) a1 2)) a0 3 (mI (sI (sI (cpM mm (a1 + 1) (ix (0 : Int32)) (a0 + 1) (ix (0 : Int32)) (ix (mI mm a1 1))) a0 1 (mI (cpM mm (a1 + 1) (ix (0 : Int32)) (a0 + 1) (ix (0 : Int32)) (ix (mI mm a1 1))) a1 1)) a0 2 (mI (sI (cpM mm (a1 + 1) (ix (0 : Int32)) (a0 + 1) (ix (0 : Int32)) (ix (mI mm a1 1))) a0 1 (mI (cpM mm (a1 + 1) (ix (0 : Int32)) (a0 + 1) (ix (0 : Int32)) (ix (mI mm a1 1))) a1 1)) a1 2)) a1 3)) (a1 + 2) (ix (0 : Int32)) (a0 + 2) (ix (0 : Int32)) (ix (4 : Int32))))))))
set_option maxHeartbeats 4000000 in
set_option maxRecDepth 100000 in
theorem c_X9_copyOf {l : Launch} {G : Gt} {S : Sk} {a0 : Nat} {a1 : Nat} {mm : Mm} (hI : SI S) (ha0 : KD S a0 9) (ha1 : KD S a1 9) {q : Sk × Mm} (e : m_X9_copyOf S a0 a1 mm = some q) : CallOK l G M_X9_copyOf yX9_copyOf 1 [vr (some a0), vr (some a1)] S mm (none) q.1 q.2 := by
  have hS := hI.1
  refine call_of_run rfl rfl rfl (Nat.le_of_ble_eq_true rfl) ?_
  show Run l G M_X9_copyOf 1 0 [some (vr (some a0)), some (vr (some a1)), none] [] S mm (none) q.1 q.2
  unfold m_X9_copyOf at e
  refine r_aload_n dX9_copyOf_0 rfl ?_
  refine r_getR dX9_copyOf_1 fl_X9_9 rfl ha1.1 ha1.2 (hI.2.2.2 a1 ha1).1.1 ?_
  refine r_iconst (v := 0) dX9_copyOf_4 ci_0 ?_
  refine r_aload_n dX9_copyOf_5 rfl ?_
  refine r_getR dX9_copyOf_6 fl_X9_9 rfl ha0.1 ha0.2 (hI.2.2.2 a0 ha0).1.1 ?_
  refine r_iconst (v := 0) dX9_copyOf_9 ci_0 ?_
  refine r_aload_n dX9_copyOf_10 rfl ?_
  refine r_getI dX9_copyOf_11 fl_X9_15 rfl ha1.1 ha1.2 ?_
  obtain ⟨hc1, e⟩ := gP_some e
  refine r_copy (rest := []) dX9_copyOf_14 cp_X9_54 (hI.2.2.2 a1 ha1).1.2.1 (hI.2.2.2 a1 ha1).1.2.2 (hI.2.2.2 a0 ha0).1.2.1 (hI.2.2.2 a0 ha0).1.2.2 (by decide) (by decide) hc1 (by decide) (Nat.le_of_ble_eq_true rfl) ?_
  refine r_aload_n dX9_copyOf_17 rfl ?_
  refine r_aload_n dX9_copyOf_18 rfl ?_
  refine r_getI dX9_copyOf_19 fl_X9_15 rfl ha1.1 ha1.2 ?_
  refine r_putI dX9_copyOf_22 fl_X9_15 ft_9_1 (Or.inl rfl) rfl rfl rfl ha0.1 ha0.2 ?_
  refine r_aload_n dX9_copyOf_25 rfl ?_
  refine r_aload_n dX9_copyOf_26 rfl ?_
  refine r_getI dX9_copyOf_27 fl_X9_19 rfl ha1.1 ha1.2 ?_
  refine r_putI dX9_copyOf_30 fl_X9_19 ft_9_2 (Or.inl rfl) rfl rfl rfl ha0.1 ha0.2 ?_
  refine r_aload_n dX9_copyOf_33 rfl ?_
  refine r_aload_n dX9_copyOf_34 rfl ?_
  refine r_getI dX9_copyOf_35 fl_X9_22 rfl ha1.1 ha1.2 ?_
  refine r_putI dX9_copyOf_38 fl_X9_22 ft_9_3 (Or.inl rfl) rfl rfl rfl ha0.1 ha0.2 ?_
  refine r_aload_n dX9_copyOf_41 rfl ?_
  refine r_getR dX9_copyOf_42 fl_X9_25 rfl ha1.1 ha1.2 (hI.2.2.2 a1 ha1).2.1.1 ?_
  refine r_iconst (v := 0) dX9_copyOf_45 ci_0 ?_
  refine r_aload_n dX9_copyOf_46 rfl ?_
  refine r_getR dX9_copyOf_47 fl_X9_25 rfl ha0.1 ha0.2 (hI.2.2.2 a0 ha0).2.1.1 ?_
  refine r_iconst (v := 0) dX9_copyOf_50 ci_0 ?_
  refine r_iconst (v := 4) dX9_copyOf_51 ci_4 ?_
  obtain ⟨hc2, e⟩ := gP_some e
  refine r_copy (rest := []) dX9_copyOf_52 cp_X9_54 (hI.2.2.2 a1 ha1).2.1.2.1 (hI.2.2.2 a1 ha1).2.1.2.2 (hI.2.2.2 a0 ha0).2.1.2.1 (hI.2.2.2 a0 ha0).2.1.2.2 (by decide) (by decide) hc2 (by decide) (Nat.le_of_ble_eq_true rfl) ?_
  refine r_iconst (v := 0) dX9_copyOf_55 ci_0 ?_
  refine r_istore_n dX9_copyOf_56 (by decide) rfl ?_
  obtain ⟨p4, eb8w, e⟩ := obind e
  have J5a : Run l G M_X9_copyOf 1 84 [some (vr (some a0)), some (vr (some a1)), none] [] p4 (cpM (sI (sI (sI (cpM mm (a1 + 1) (ix (0 : Int32)) (a0 + 1) (ix (0 : Int32)) (ix (mI mm a1 1))) a0 1 (mI (cpM mm (a1 + 1) (ix (0 : Int32)) (a0 + 1) (ix (0 : Int32)) (ix (mI mm a1 1))) a1 1)) a0 2 (mI (sI (cpM mm (a1 + 1) (ix (0 : Int32)) (a0 + 1) (ix (0 : Int32)) (ix (mI mm a1 1))) a0 1 (mI (cpM mm (a1 + 1) (ix (0 : Int32)) (a0 + 1) (ix (0 : Int32)) (ix (mI mm a1 1))) a1 1)) a1 2)) a0 3 (mI (sI (sI (cpM mm (a1 + 1) (ix (0 : Int32)) (a0 + 1) (ix (0 : Int32)) (ix (mI mm a1 1))) a0 1 (mI (cpM mm (a1 + 1) (ix (0 : Int32)) (a0 + 1) (ix (0 : Int32)) (ix (mI mm a1 1))) a1 1)) a0 2 (mI (sI (cpM mm (a1 + 1) (ix (0 : Int32)) (a0 + 1) (ix (0 : Int32)) (ix (mI mm a1 1))) a0 1 (mI (cpM mm (a1 + 1) (ix (0 : Int32)) (a0 + 1) (ix (0 : Int32)) (ix (mI mm a1 1))) a1 1)) a1 2)) a1 3)) (a1 + 2) (ix (0 : Int32)) (a0 + 2) (ix (0 : Int32)) (ix (4 : Int32))) (none) q.1 q.2 := by
    refine r_iconst (v := 0) dX9_copyOf_84 ci_0 ?_
    refine r_istore_n dX9_copyOf_85 (by decide) rfl ?_
    obtain ⟨p17, eb21w, e⟩ := obind e
    have J18a : Run l G M_X9_copyOf 1 113 [none, none, none] [] p17 (cpM (sI (sI (sI (cpM mm (a1 + 1) (ix (0 : Int32)) (a0 + 1) (ix (0 : Int32)) (ix (mI mm a1 1))) a0 1 (mI (cpM mm (a1 + 1) (ix (0 : Int32)) (a0 + 1) (ix (0 : Int32)) (ix (mI mm a1 1))) a1 1)) a0 2 (mI (sI (cpM mm (a1 + 1) (ix (0 : Int32)) (a0 + 1) (ix (0 : Int32)) (ix (mI mm a1 1))) a0 1 (mI (cpM mm (a1 + 1) (ix (0 : Int32)) (a0 + 1) (ix (0 : Int32)) (ix (mI mm a1 1))) a1 1)) a1 2)) a0 3 (mI (sI (sI (cpM mm (a1 + 1) (ix (0 : Int32)) (a0 + 1) (ix (0 : Int32)) (ix (mI mm a1 1))) a0 1 (mI (cpM mm (a1 + 1) (ix (0 : Int32)) (a0 + 1) (ix (0 : Int32)) (ix (mI mm a1 1))) a1 1)) a0 2 (mI (sI (cpM mm (a1 + 1) (ix (0 : Int32)) (a0 + 1) (ix (0 : Int32)) (ix (mI mm a1 1))) a0 1 (mI (cpM mm (a1 + 1) (ix (0 : Int32)) (a0 + 1) (ix (0 : Int32)) (ix (mI mm a1 1))) a1 1)) a1 2)) a1 3)) (a1 + 2) (ix (0 : Int32)) (a0 + 2) (ix (0 : Int32)) (ix (4 : Int32))) (none) q.1 q.2 := by
      cases e
      exact r_return dX9_copyOf_113 rfl
    have J18 : ∀ pp : Sk, pp = p17 → Run l G M_X9_copyOf 1 113 [none, none, none] [] pp (cpM (sI (sI (sI (cpM mm (a1 + 1) (ix (0 : Int32)) (a0 + 1) (ix (0 : Int32)) (ix (mI mm a1 1))) a0 1 (mI (cpM mm (a1 + 1) (ix (0 : Int32)) (a0 + 1) (ix (0 : Int32)) (ix (mI mm a1 1))) a1 1)) a0 2 (mI (sI (cpM mm (a1 + 1) (ix (0 : Int32)) (a0 + 1) (ix (0 : Int32)) (ix (mI mm a1 1))) a0 1 (mI (cpM mm (a1 + 1) (ix (0 : Int32)) (a0 + 1) (ix (0 : Int32)) (ix (mI mm a1 1))) a1 1)) a1 2)) a0 3 (mI (sI (sI (cpM mm (a1 + 1) (ix (0 : Int32)) (a0 + 1) (ix (0 : Int32)) (ix (mI mm a1 1))) a0 1 (mI (cpM mm (a1 + 1) (ix (0 : Int32)) (a0 + 1) (ix (0 : Int32)) (ix (mI mm a1 1))) a1 1)) a0 2 (mI (sI (cpM mm (a1 + 1) (ix (0 : Int32)) (a0 + 1) (ix (0 : Int32)) (ix (mI mm a1 1))) a0 1 (mI (cpM mm (a1 + 1) (ix (0 : Int32)) (a0 + 1) (ix (0 : Int32)) (ix (mI mm a1 1))) a1 1)) a1 2)) a1 3)) (a1 + 2) (ix (0 : Int32)) (a0 + 2) (ix (0 : Int32)) (ix (4 : Int32))) (none) q.1 q.2 := by
      intro pp hpp
      rw [hpp]
      exact J18a
    have J18w : Run l G M_X9_copyOf 1 86 [some (vr (some a0)), some (vr (some a1)), some (vi (0 : Int32))] [] p4 (cpM (sI (sI (sI (cpM mm (a1 + 1) (ix (0 : Int32)) (a0 + 1) (ix (0 : Int32)) (ix (mI mm a1 1))) a0 1 (mI (cpM mm (a1 + 1) (ix (0 : Int32)) (a0 + 1) (ix (0 : Int32)) (ix (mI mm a1 1))) a1 1)) a0 2 (mI (sI (cpM mm (a1 + 1) (ix (0 : Int32)) (a0 + 1) (ix (0 : Int32)) (ix (mI mm a1 1))) a0 1 (mI (cpM mm (a1 + 1) (ix (0 : Int32)) (a0 + 1) (ix (0 : Int32)) (ix (mI mm a1 1))) a1 1)) a1 2)) a0 3 (mI (sI (sI (cpM mm (a1 + 1) (ix (0 : Int32)) (a0 + 1) (ix (0 : Int32)) (ix (mI mm a1 1))) a0 1 (mI (cpM mm (a1 + 1) (ix (0 : Int32)) (a0 + 1) (ix (0 : Int32)) (ix (mI mm a1 1))) a1 1)) a0 2 (mI (sI (cpM mm (a1 + 1) (ix (0 : Int32)) (a0 + 1) (ix (0 : Int32)) (ix (mI mm a1 1))) a0 1 (mI (cpM mm (a1 + 1) (ix (0 : Int32)) (a0 + 1) (ix (0 : Int32)) (ix (mI mm a1 1))) a1 1)) a1 2)) a1 3)) (a1 + 2) (ix (0 : Int32)) (a0 + 2) (ix (0 : Int32)) (ix (4 : Int32))) (none) q.1 q.2 := by
      refine while_run (s := ((0 : Int32), p4)) (Gs := fun (z16 : Int32 × Sk) => Run l G M_X9_copyOf 1 86 [some (vr (some a0)), some (vr (some a1)), some (vi z16.1)] [] z16.2 (cpM (sI (sI (sI (cpM mm (a1 + 1) (ix (0 : Int32)) (a0 + 1) (ix (0 : Int32)) (ix (mI mm a1 1))) a0 1 (mI (cpM mm (a1 + 1) (ix (0 : Int32)) (a0 + 1) (ix (0 : Int32)) (ix (mI mm a1 1))) a1 1)) a0 2 (mI (sI (cpM mm (a1 + 1) (ix (0 : Int32)) (a0 + 1) (ix (0 : Int32)) (ix (mI mm a1 1))) a0 1 (mI (cpM mm (a1 + 1) (ix (0 : Int32)) (a0 + 1) (ix (0 : Int32)) (ix (mI mm a1 1))) a1 1)) a1 2)) a0 3 (mI (sI (sI (cpM mm (a1 + 1) (ix (0 : Int32)) (a0 + 1) (ix (0 : Int32)) (ix (mI mm a1 1))) a0 1 (mI (cpM mm (a1 + 1) (ix (0 : Int32)) (a0 + 1) (ix (0 : Int32)) (ix (mI mm a1 1))) a1 1)) a0 2 (mI (sI (cpM mm (a1 + 1) (ix (0 : Int32)) (a0 + 1) (ix (0 : Int32)) (ix (mI mm a1 1))) a0 1 (mI (cpM mm (a1 + 1) (ix (0 : Int32)) (a0 + 1) (ix (0 : Int32)) (ix (mI mm a1 1))) a1 1)) a1 2)) a1 3)) (a1 + 2) (ix (0 : Int32)) (a0 + 2) (ix (0 : Int32)) (ix (4 : Int32))) (none) q.1 q.2) eb21w ?_
      intro z16 x19y eb21 hx20
      unfold m_X9_copyOf_b86 at eb21
      refine r_iload_n dX9_copyOf_86 rfl ?_
      refine r_aload_n dX9_copyOf_87 rfl ?_
      obtain ⟨hn22, eb21⟩ := gk_some eb21
      obtain ⟨hn23, eb21⟩ := gP_some eb21
      refine r_getR dX9_copyOf_88 fl_X9_37 rfl hn22.1 hn22.2 (hn23.2.2.2 a0 hn22).2.2.2.1 ?_
      refine r_alen (v := 8) dX9_copyOf_91 (hn23.2.2.2 a0 hn22).2.2.2.2.1 (hn23.2.2.2 a0 hn22).2.2.2.2.2 (by decide) (by decide) (by decide) ?_
      refine r_icmp_ge (tgt := 113) dX9_copyOf_92 rfl (fun h24 => ?_) (fun h24 => ?_)
      · replace eb21 := ite_t h24 eb21
        cases eb21
        exact r_weak (L' := [none, none, none]) trivial (J18 _ hx20)
      · replace eb21 := ite_f h24 eb21
        refine r_aload_n dX9_copyOf_95 rfl ?_
        refine r_getR dX9_copyOf_96 fl_X9_37 rfl hn22.1 hn22.2 (hn23.2.2.2 a0 hn22).2.2.2.1 ?_
        refine r_iload_n dX9_copyOf_99 rfl ?_
        refine r_aload_n dX9_copyOf_100 rfl ?_
        obtain ⟨hn25, eb21⟩ := gk_some eb21
        refine r_getR dX9_copyOf_101 fl_X9_37 rfl hn25.1 hn25.2 (hn23.2.2.2 a1 hn25).2.2.2.1 ?_
        refine r_iload_n dX9_copyOf_104 rfl ?_
        obtain ⟨hg26, eb21⟩ := grd_some eb21
        refine r_aald dX9_copyOf_105 (hn23.2.2.2 a1 hn25).2.2.2.2.1 (hn23.2.2.2 a1 hn25).2.2.2.2.2 (by decide) (by decide) hg26 rfl ?_
        obtain ⟨ho27, eb21⟩ := gP_some eb21
        obtain ⟨hg28, eb21⟩ := grd_some eb21
        refine r_aast dX9_copyOf_106 (hn23.2.2.2 a0 hn22).2.2.2.2.1 (hn23.2.2.2 a0 hn22).2.2.2.2.2 (by decide) (by decide) hg28 ho27 ?_
        refine r_iinc (v := _ + (1 : Int32)) dX9_copyOf_107 rfl (congrArg (_ + ·) ci_1) (by decide) rfl ?_
        refine r_goto (tgt := 86) dX9_copyOf_110 rfl ?_
        cases eb21
        exact r_weak (L' := [some (vr (some a0)), some (vr (some a1)), some (vi (z16.1 + (1 : Int32)))]) ⟨rfl, rfl, rfl, trivial⟩ hx20
    exact r_weak (L' := [some (vr (some a0)), some (vr (some a1)), some (vi (0 : Int32))]) ⟨rfl, rfl, rfl, trivial⟩ J18w
  have J5 : ∀ pp : Sk, pp = p4 → Run l G M_X9_copyOf 1 84 [some (vr (some a0)), some (vr (some a1)), none] [] pp (cpM (sI (sI (sI (cpM mm (a1 + 1) (ix (0 : Int32)) (a0 + 1) (ix (0 : Int32)) (ix (mI mm a1 1))) a0 1 (mI (cpM mm (a1 + 1) (ix (0 : Int32)) (a0 + 1) (ix (0 : Int32)) (ix (mI mm a1 1))) a1 1)) a0 2 (mI (sI (cpM mm (a1 + 1) (ix (0 : Int32)) (a0 + 1) (ix (0 : Int32)) (ix (mI mm a1 1))) a0 1 (mI (cpM mm (a1 + 1) (ix (0 : Int32)) (a0 + 1) (ix (0 : Int32)) (ix (mI mm a1 1))) a1 1)) a1 2)) a0 3 (mI (sI (sI (cpM mm (a1 + 1) (ix (0 : Int32)) (a0 + 1) (ix (0 : Int32)) (ix (mI mm a1 1))) a0 1 (mI (cpM mm (a1 + 1) (ix (0 : Int32)) (a0 + 1) (ix (0 : Int32)) (ix (mI mm a1 1))) a1 1)) a0 2 (mI (sI (cpM mm (a1 + 1) (ix (0 : Int32)) (a0 + 1) (ix (0 : Int32)) (ix (mI mm a1 1))) a0 1 (mI (cpM mm (a1 + 1) (ix (0 : Int32)) (a0 + 1) (ix (0 : Int32)) (ix (mI mm a1 1))) a1 1)) a1 2)) a1 3)) (a1 + 2) (ix (0 : Int32)) (a0 + 2) (ix (0 : Int32)) (ix (4 : Int32))) (none) q.1 q.2 := by
    intro pp hpp
    rw [hpp]
    exact J5a
  have J5w : Run l G M_X9_copyOf 1 57 [some (vr (some a0)), some (vr (some a1)), some (vi (0 : Int32))] [] S (cpM (sI (sI (sI (cpM mm (a1 + 1) (ix (0 : Int32)) (a0 + 1) (ix (0 : Int32)) (ix (mI mm a1 1))) a0 1 (mI (cpM mm (a1 + 1) (ix (0 : Int32)) (a0 + 1) (ix (0 : Int32)) (ix (mI mm a1 1))) a1 1)) a0 2 (mI (sI (cpM mm (a1 + 1) (ix (0 : Int32)) (a0 + 1) (ix (0 : Int32)) (ix (mI mm a1 1))) a0 1 (mI (cpM mm (a1 + 1) (ix (0 : Int32)) (a0 + 1) (ix (0 : Int32)) (ix (mI mm a1 1))) a1 1)) a1 2)) a0 3 (mI (sI (sI (cpM mm (a1 + 1) (ix (0 : Int32)) (a0 + 1) (ix (0 : Int32)) (ix (mI mm a1 1))) a0 1 (mI (cpM mm (a1 + 1) (ix (0 : Int32)) (a0 + 1) (ix (0 : Int32)) (ix (mI mm a1 1))) a1 1)) a0 2 (mI (sI (cpM mm (a1 + 1) (ix (0 : Int32)) (a0 + 1) (ix (0 : Int32)) (ix (mI mm a1 1))) a0 1 (mI (cpM mm (a1 + 1) (ix (0 : Int32)) (a0 + 1) (ix (0 : Int32)) (ix (mI mm a1 1))) a1 1)) a1 2)) a1 3)) (a1 + 2) (ix (0 : Int32)) (a0 + 2) (ix (0 : Int32)) (ix (4 : Int32))) (none) q.1 q.2 := by
    refine while_run (s := ((0 : Int32), S)) (Gs := fun (z3 : Int32 × Sk) => Run l G M_X9_copyOf 1 57 [some (vr (some a0)), some (vr (some a1)), some (vi z3.1)] [] z3.2 (cpM (sI (sI (sI (cpM mm (a1 + 1) (ix (0 : Int32)) (a0 + 1) (ix (0 : Int32)) (ix (mI mm a1 1))) a0 1 (mI (cpM mm (a1 + 1) (ix (0 : Int32)) (a0 + 1) (ix (0 : Int32)) (ix (mI mm a1 1))) a1 1)) a0 2 (mI (sI (cpM mm (a1 + 1) (ix (0 : Int32)) (a0 + 1) (ix (0 : Int32)) (ix (mI mm a1 1))) a0 1 (mI (cpM mm (a1 + 1) (ix (0 : Int32)) (a0 + 1) (ix (0 : Int32)) (ix (mI mm a1 1))) a1 1)) a1 2)) a0 3 (mI (sI (sI (cpM mm (a1 + 1) (ix (0 : Int32)) (a0 + 1) (ix (0 : Int32)) (ix (mI mm a1 1))) a0 1 (mI (cpM mm (a1 + 1) (ix (0 : Int32)) (a0 + 1) (ix (0 : Int32)) (ix (mI mm a1 1))) a1 1)) a0 2 (mI (sI (cpM mm (a1 + 1) (ix (0 : Int32)) (a0 + 1) (ix (0 : Int32)) (ix (mI mm a1 1))) a0 1 (mI (cpM mm (a1 + 1) (ix (0 : Int32)) (a0 + 1) (ix (0 : Int32)) (ix (mI mm a1 1))) a1 1)) a1 2)) a1 3)) (a1 + 2) (ix (0 : Int32)) (a0 + 2) (ix (0 : Int32)) (ix (4 : Int32))) (none) q.1 q.2) eb8w ?_
    intro z3 x6y eb8 hx7
    unfold m_X9_copyOf_b57 at eb8
    refine r_iload_n dX9_copyOf_57 rfl ?_
    refine r_aload_n dX9_copyOf_58 rfl ?_
    obtain ⟨hn9, eb8⟩ := gk_some eb8
    obtain ⟨hn10, eb8⟩ := gP_some eb8
    refine r_getR dX9_copyOf_59 fl_X9_31 rfl hn9.1 hn9.2 (hn10.2.2.2 a0 hn9).2.2.1.1 ?_
    refine r_alen (v := 2) dX9_copyOf_62 (hn10.2.2.2 a0 hn9).2.2.1.2.1 (hn10.2.2.2 a0 hn9).2.2.1.2.2 (by decide) (by decide) (by decide) ?_
    refine r_icmp_ge (tgt := 84) dX9_copyOf_63 rfl (fun h11 => ?_) (fun h11 => ?_)
    · replace eb8 := ite_t h11 eb8
      cases eb8
      exact r_weak (L' := [some (vr (some a0)), some (vr (some a1)), none]) ⟨rfl, rfl, trivial⟩ (J5 _ hx7)
    · replace eb8 := ite_f h11 eb8
      refine r_aload_n dX9_copyOf_66 rfl ?_
      refine r_getR dX9_copyOf_67 fl_X9_31 rfl hn9.1 hn9.2 (hn10.2.2.2 a0 hn9).2.2.1.1 ?_
      refine r_iload_n dX9_copyOf_70 rfl ?_
      refine r_aload_n dX9_copyOf_71 rfl ?_
      obtain ⟨hn12, eb8⟩ := gk_some eb8
      refine r_getR dX9_copyOf_72 fl_X9_31 rfl hn12.1 hn12.2 (hn10.2.2.2 a1 hn12).2.2.1.1 ?_
      refine r_iload_n dX9_copyOf_75 rfl ?_
      obtain ⟨hg13, eb8⟩ := grd_some eb8
      refine r_aald dX9_copyOf_76 (hn10.2.2.2 a1 hn12).2.2.1.2.1 (hn10.2.2.2 a1 hn12).2.2.1.2.2 (by decide) (by decide) hg13 rfl ?_
      obtain ⟨ho14, eb8⟩ := gP_some eb8
      obtain ⟨hg15, eb8⟩ := grd_some eb8
      refine r_aast dX9_copyOf_77 (hn10.2.2.2 a0 hn9).2.2.1.2.1 (hn10.2.2.2 a0 hn9).2.2.1.2.2 (by decide) (by decide) hg15 ho14 ?_
      refine r_iinc (v := _ + (1 : Int32)) dX9_copyOf_78 rfl (congrArg (_ + ·) ci_1) (by decide) rfl ?_
      refine r_goto (tgt := 57) dX9_copyOf_81 rfl ?_
      cases eb8
      exact r_weak (L' := [some (vr (some a0)), some (vr (some a1)), some (vi (z3.1 + (1 : Int32)))]) ⟨rfl, rfl, rfl, trivial⟩ hx7
  exact r_weak (L' := [some (vr (some a0)), some (vr (some a1)), some (vi (0 : Int32))]) ⟨rfl, rfl, rfl, trivial⟩ J5w
noncomputable def m_X10_init (S : Sk) (a0 : Nat) (mm : Mm) : Option (Sk × Mm) := some ((sRs (nwS (sRs S a0 4 none) 20 7 7) a0 9 (some S.1)), (nwM (sRs S a0 4 none) (sI (sI (sI (sI (sI (sI (sI (sI mm a0 0 (0 : Int32)) a0 1 (-1 : Int32)) a0 2 (0 : Int32)) a0 3 (1 : Int32)) a0 5 (0 : Int32)) a0 6 (0 : Int32)) a0 7 (0 : Int32)) a0 8 (0 : Int32))))
set_option maxHeartbeats 4000000 in
set_option maxRecDepth 100000 in
theorem c_X10_init {l : Launch} {G : Gt} {S : Sk} {a0 : Nat} {mm : Mm} (ha0 : KD S a0 10) {q : Sk × Mm} (e : m_X10_init S a0 mm = some q) : CallOK l G M_X10_init yX10_init 1 [vr (some a0)] S mm (none) q.1 q.2 := by
  refine call_of_run rfl rfl rfl (Nat.le_of_ble_eq_true rfl) ?_
  show Run l G M_X10_init 1 0 [some (vr (some a0))] [] S mm (none) q.1 q.2
  unfold m_X10_init at e
  refine r_aload_n dX10_init_0 rfl ?_
  refine r_objInit (rest := []) dX10_init_1 oi_X10_3 oi_i oi_c (by decide) (Nat.le_of_ble_eq_true rfl) ?_
  refine r_aload_n dX10_init_4 rfl ?_
  refine r_iconst (v := 0) dX10_init_5 ci_0 ?_
  refine r_putI dX10_init_6 fl_X10_9 ft_10_0 (Or.inl rfl) rfl rfl rfl ha0.1 ha0.2 ?_
  refine r_aload_n dX10_init_9 rfl ?_
  refine r_iconst (v := -1) dX10_init_10 ci_m1 ?_
  refine r_putI dX10_init_11 fl_X10_15 ft_10_1 (Or.inl rfl) rfl rfl rfl ha0.1 ha0.2 ?_
  refine r_aload_n dX10_init_14 rfl ?_
  refine r_iconst (v := 0) dX10_init_15 ci_0 ?_
  refine r_putI dX10_init_16 fl_X10_18 ft_10_2 (Or.inl rfl) rfl rfl rfl ha0.1 ha0.2 ?_
  refine r_aload_n dX10_init_19 rfl ?_
  refine r_iconst (v := 1) dX10_init_20 ci_1 ?_
  refine r_putI dX10_init_21 fl_X10_21 ft_10_3 (Or.inl rfl) rfl rfl rfl ha0.1 ha0.2 ?_
  refine r_aload_n dX10_init_24 rfl ?_
  refine r_null dX10_init_25 ?_
  refine r_putR dX10_init_26 fl_X10_24 ft_10_4 (Or.inl rfl) rfl ha0.1 ha0.2 ?_
  refine r_aload_n dX10_init_29 rfl ?_
  refine r_iconst (v := 0) dX10_init_30 ci_0 ?_
  refine r_putI dX10_init_31 fl_X10_28 ft_10_5 (Or.inl rfl) rfl rfl rfl ha0.1 ha0.2 ?_
  refine r_aload_n dX10_init_34 rfl ?_
  refine r_iconst (v := 0) dX10_init_35 ci_0 ?_
  refine r_putI dX10_init_36 fl_X10_31 ft_10_6 (Or.inl rfl) rfl rfl rfl ha0.1 ha0.2 ?_
  refine r_aload_n dX10_init_39 rfl ?_
  refine r_iconst (v := 0) dX10_init_40 ci_0 ?_
  refine r_putI dX10_init_41 fl_X10_34 ft_10_7 (Or.inl rfl) rfl rfl rfl ha0.1 ha0.2 ?_
  refine r_aload_n dX10_init_44 rfl ?_
  refine r_iconst (v := 0) dX10_init_45 ci_0 ?_
  refine r_putI dX10_init_46 fl_X10_37 ft_10_8 (Or.inl rfl) rfl rfl rfl ha0.1 ha0.2 ?_
  refine r_aload_n dX10_init_49 rfl ?_
  refine r_bipush (v := 7) dX10_init_50 cb_7 ?_
  refine r_newa (t := 20) dX10_init_52 rfl (by decide) (by decide) aw_20 (by decide) (N := 7) (by decide) (by decide) ?_
  have hn1 := kd_nw (k := 20) (len := 7) (z := 7) ha0
  have hn2 : AK (nwS (sRs S a0 4 none) 20 7 7) S.1 20 7 := ak_new
  refine r_putR dX10_init_54 fl_X10_40 ft_10_9 (Or.inr ⟨rfl, fun q hq => by cases hq; rfl⟩) rfl hn1.1 hn1.2 ?_
  cases e
  exact r_return dX10_init_57 rfl
noncomputable def m_X10_difference (S : Sk) (a1 : Int32) (a2 : Int32) (mm : Mm) : Option (Int32) := oM (sR S 38 4) (some (0 : Int32)) (fun c2 => gE c2 14 (grd (mI mm 38 5) 6 ((m_X7_keptOf a1 (mI mm 16 (ix (mI mm 38 5))) mm).bind (fun q4 => grd (mI mm 38 6) 6 ((m_X7_keptOf a2 (mI mm 16 (ix (mI mm 38 6))) mm).bind (fun q7 => some ((m_J6_bitCount_0f7a4 q7) - (m_J6_bitCount_0f7a4 q4))))))))
set_option maxHeartbeats 4000000 in
set_option maxRecDepth 100000 in
theorem c_X10_difference {l : Launch} {G : Gt} {S : Sk} {a1 : Int32} {a2 : Int32} {mm : Mm} (hS : Lay S) {q : Int32} (e : m_X10_difference S a1 a2 mm = some q) : CallOK l G M_X10_difference yX10_difference 1 [vr (some 38), vi a1, vi a2] S mm (some (vi q)) S mm := by
  refine call_of_run rfl rfl rfl (Nat.le_of_ble_eq_true rfl) ?_
  show Run l G M_X10_difference 1 0 [some (vr (some 38)), some (vi a1), some (vi a2), none, none] [] S mm (some (vi q)) S mm
  unfold m_X10_difference at e
  refine r_aload_n dX10_difference_0 rfl ?_
  refine r_getR dX10_difference_1 fl_X10_24 rfl (lp_38 hS) (lq_38 hS) rfl ?_
  refine r_ifnonnull (tgt := 9) dX10_difference_4 rfl (fun c2 h1 => ?_) (fun h1 => ?_)
  · replace e := oM_some h1 e
    obtain ⟨he9, e⟩ := gE_some e
    subst he9
    refine r_aload_n dX10_difference_9 rfl ?_
    refine r_getR dX10_difference_10 fl_X10_24 rfl (lp_38 hS) (lq_38 hS) h1 ?_
    refine r_iload_n dX10_difference_13 rfl ?_
    refine r_aload_n dX10_difference_14 rfl ?_
    refine r_getR dX10_difference_15 fl_X10_24 rfl (lp_38 hS) (lq_38 hS) h1 ?_
    refine r_getR dX10_difference_18 fl_X10_71 rfl (lp_14 hS) (lq_14 hS) (lr_14_3 hS) ?_
    refine r_aload_n dX10_difference_21 rfl ?_
    refine r_getI dX10_difference_22 fl_X10_28 rfl (lp_38 hS) (lq_38 hS) ?_
    obtain ⟨hg3, e⟩ := grd_some e
    refine r_iald dX10_difference_25 (lp_16 hS) (lk_16 hS) hg3 ?_
    obtain ⟨q4, eq5, e⟩ := obind e
    refine r_callV (as := [_, _]) (rest := []) dX10_difference_26 ml_X10_74 yV_X7_keptOf (c_X7_keptOf hS eq5) (by decide) rfl (lp_14 hS) (lq_14 hS) (Nat.le_of_ble_eq_true rfl) ?_
    refine r_istore_n dX10_difference_29 (by decide) rfl ?_
    refine r_aload_n dX10_difference_30 rfl ?_
    refine r_getR dX10_difference_31 fl_X10_24 rfl (lp_38 hS) (lq_38 hS) h1 ?_
    refine r_iload_n dX10_difference_34 rfl ?_
    refine r_aload_n dX10_difference_35 rfl ?_
    refine r_getR dX10_difference_36 fl_X10_24 rfl (lp_38 hS) (lq_38 hS) h1 ?_
    refine r_getR dX10_difference_39 fl_X10_71 rfl (lp_14 hS) (lq_14 hS) (lr_14_3 hS) ?_
    refine r_aload_n dX10_difference_42 rfl ?_
    refine r_getI dX10_difference_43 fl_X10_31 rfl (lp_38 hS) (lq_38 hS) ?_
    obtain ⟨hg6, e⟩ := grd_some e
    refine r_iald dX10_difference_46 (lp_16 hS) (lk_16 hS) hg6 ?_
    obtain ⟨q7, eq8, e⟩ := obind e
    refine r_callV (as := [_, _]) (rest := []) dX10_difference_47 ml_X10_74 yV_X7_keptOf (c_X7_keptOf hS eq8) (by decide) rfl (lp_14 hS) (lq_14 hS) (Nat.le_of_ble_eq_true rfl) ?_
    refine r_istore dX10_difference_50 (by decide) rfl ?_
    refine r_iload dX10_difference_52 rfl ?_
    refine r_callS (as := [_]) (rest := []) dX10_difference_54 ml_X10_77 yS_J6_bitCount_0f7a4 (c_J6_bitCount_0f7a4) (by decide) rfl (Nat.le_of_ble_eq_true rfl) ?_
    refine r_iload_n dX10_difference_57 rfl ?_
    refine r_callS (as := [_]) (rest := [_]) dX10_difference_58 ml_X10_77 yS_J6_bitCount_0f7a4 (c_J6_bitCount_0f7a4) (by decide) rfl (Nat.le_of_ble_eq_true rfl) ?_
    refine r_isub dX10_difference_61 ?_
    cases e
    exact r_ireturn dX10_difference_62 rfl rfl
  · replace e := oM_none h1 e
    refine r_iconst (v := 0) dX10_difference_7 ci_0 ?_
    cases e
    exact r_ireturn dX10_difference_8 rfl rfl
noncomputable def m_X10_firstTurn_b18 (a1 : Int32) (a2 : Int32) (a3 : Int32) (mm : Mm) (rc_X10_secondTurn : Int32 → Int32 → Int32 → Mm → Option (Int32)) (z2 : Int32 × Int32) : Option ((Int32 × Int32) ⊕ (Int32)) := if (8 : Int32) < z2.2 then (some (.inr z2.1)) else ((rc_X10_secondTurn (a1 - (1 : Int32)) a2 (a3 ||| ((mI mm 38 8) &&& (xshl (1 : Int32) z2.2))) mm).bind (fun q9 => some (.inl (xmax z2.1 q9, z2.2 + (1 : Int32)))))
noncomputable def m_X10_firstTurn_s (S : Sk) (rc_X10_secondTurn : Int32 → Int32 → Int32 → Mm → Option (Int32)) (a1 : Int32) (a2 : Int32) (a3 : Int32) (mm : Mm) : Option (Int32) := if 0 < a1 then ((whileF FU (m_X10_firstTurn_b18 a1 a2 a3 mm rc_X10_secondTurn) ((-8 : Int32), (0 : Int32))).bind (fun p3 => some p3)) else ((m_X10_difference S a2 a3 mm).bind (fun q11 => some q11))
set_option maxHeartbeats 4000000 in
set_option maxRecDepth 100000 in
theorem c_X10_firstTurn_s {l : Launch} {G : Gt} {S : Sk} {dd : Nat} {rc_X10_secondTurn : Int32 → Int32 → Int32 → Mm → Option (Int32)} (hS : Lay S) (ih_X10_secondTurn : ∀ (b1 b2 b3 : Int32) (nn : Mm) (qq : Int32), rc_X10_secondTurn b1 b2 b3 nn = some qq → CallOK l G M_X10_secondTurn yX10_secondTurn dd [vr (some 38), vi b1, vi b2, vi b3] S nn (some (vi qq)) S nn) (hdd : 2 ≤ dd + 1) {a1 : Int32} {a2 : Int32} {a3 : Int32} {mm : Mm} {q : Int32} (e : m_X10_firstTurn_s S rc_X10_secondTurn a1 a2 a3 mm = some q) : CallOK l G M_X10_firstTurn yX10_firstTurn (dd + 1) [vr (some 38), vi a1, vi a2, vi a3] S mm (some (vi q)) S mm := by
  refine call_of_run rfl rfl rfl (Nat.le_of_ble_eq_true rfl) ?_
  show Run l G M_X10_firstTurn (dd + 1) 0 [some (vr (some 38)), some (vi a1), some (vi a2), some (vi a3), none, none, none] [] S mm (some (vi q)) S mm
  unfold m_X10_firstTurn_s at e
  refine r_iload_n dX10_firstTurn_0 rfl ?_
  refine r_if_gt (tgt := 11) dX10_firstTurn_1 rfl (fun h1 => ?_) (fun h1 => ?_)
  · replace e := ite_t h1 e
    refine r_bipush (v := -8) dX10_firstTurn_11 cb_m8 ?_
    refine r_istore dX10_firstTurn_13 (by decide) rfl ?_
    refine r_iconst (v := 0) dX10_firstTurn_15 ci_0 ?_
    refine r_istore dX10_firstTurn_16 (by decide) rfl ?_
    obtain ⟨p3, eb7w, e⟩ := obind e
    have J4a : Run l G M_X10_firstTurn (dd + 1) 61 [none, none, none, none, some (vi p3), none, none] [] S mm (some (vi q)) S mm := by
      refine r_iload dX10_firstTurn_61 rfl ?_
      cases e
      exact r_ireturn dX10_firstTurn_63 rfl rfl
    have J4 : ∀ pp : Int32, pp = p3 → Run l G M_X10_firstTurn (dd + 1) 61 [none, none, none, none, some (vi pp), none, none] [] S mm (some (vi q)) S mm := by
      intro pp hpp
      rw [hpp]
      exact J4a
    have J4w : Run l G M_X10_firstTurn (dd + 1) 18 [some (vr (some 38)), some (vi a1), some (vi a2), some (vi a3), some (vi (-8 : Int32)), some (vi (0 : Int32)), none] [] S mm (some (vi q)) S mm := by
      refine while_run (s := ((-8 : Int32), (0 : Int32))) (Gs := fun (z2 : Int32 × Int32) => Run l G M_X10_firstTurn (dd + 1) 18 [some (vr (some 38)), some (vi a1), some (vi a2), some (vi a3), some (vi z2.1), some (vi z2.2), none] [] S mm (some (vi q)) S mm) eb7w ?_
      intro z2 x5y eb7 hx6
      unfold m_X10_firstTurn_b18 at eb7
      refine r_iload dX10_firstTurn_18 rfl ?_
      refine r_bipush (v := 8) dX10_firstTurn_20 cb_8 ?_
      refine r_icmp_gt (tgt := 61) dX10_firstTurn_22 rfl (fun h8 => ?_) (fun h8 => ?_)
      · replace eb7 := ite_t h8 eb7
        cases eb7
        exact r_weak (L' := [none, none, none, none, some (vi z2.1), none, none]) ⟨rfl, trivial⟩ (J4 _ hx6)
      · replace eb7 := ite_f h8 eb7
        refine r_iload_n dX10_firstTurn_25 rfl ?_
        refine r_aload_n dX10_firstTurn_26 rfl ?_
        refine r_getI dX10_firstTurn_27 fl_X10_37 rfl (lp_38 hS) (lq_38 hS) ?_
        refine r_iconst (v := 1) dX10_firstTurn_30 ci_1 ?_
        refine r_iload dX10_firstTurn_31 rfl ?_
        refine r_ishl dX10_firstTurn_33 ?_
        refine r_iand dX10_firstTurn_34 ?_
        refine r_ior dX10_firstTurn_35 ?_
        refine r_istore dX10_firstTurn_36 (by decide) rfl ?_
        refine r_iload dX10_firstTurn_38 rfl ?_
        refine r_aload_n dX10_firstTurn_40 rfl ?_
        refine r_iload_n dX10_firstTurn_41 rfl ?_
        refine r_iconst (v := 1) dX10_firstTurn_42 ci_1 ?_
        refine r_isub dX10_firstTurn_43 ?_
        refine r_iload_n dX10_firstTurn_44 rfl ?_
        refine r_iload dX10_firstTurn_45 rfl ?_
        obtain ⟨q9, eq10, eb7⟩ := obind eb7
        refine r_callV (as := [_, _, _]) (rest := [_]) dX10_firstTurn_47 ml_X10_57 yV_X10_secondTurn (ih_X10_secondTurn _ _ _ _ _ eq10) (by omega) rfl (lp_38 hS) (lq_38 hS) (Nat.le_of_ble_eq_true rfl) ?_
        refine r_mmax (rest := []) dX10_firstTurn_50 ml_X10_63 (by omega) (Nat.le_of_ble_eq_true rfl) ?_
        refine r_istore dX10_firstTurn_53 (by decide) rfl ?_
        refine r_iinc (v := _ + (1 : Int32)) dX10_firstTurn_55 rfl (congrArg (_ + ·) ci_1) (by decide) rfl ?_
        refine r_goto (tgt := 18) dX10_firstTurn_58 rfl ?_
        cases eb7
        exact r_weak (L' := [some (vr (some 38)), some (vi a1), some (vi a2), some (vi a3), some (vi (xmax z2.1 q9)), some (vi (z2.2 + (1 : Int32))), none]) ⟨rfl, rfl, rfl, rfl, rfl, rfl, trivial⟩ hx6
    exact r_weak (L' := [some (vr (some 38)), some (vi a1), some (vi a2), some (vi a3), some (vi (-8 : Int32)), some (vi (0 : Int32)), none]) ⟨rfl, rfl, rfl, rfl, rfl, rfl, trivial⟩ J4w
  · replace e := ite_f h1 e
    refine r_aload_n dX10_firstTurn_4 rfl ?_
    refine r_iload_n dX10_firstTurn_5 rfl ?_
    refine r_iload_n dX10_firstTurn_6 rfl ?_
    obtain ⟨q11, eq12, e⟩ := obind e
    refine r_callV (as := [_, _]) (rest := []) dX10_firstTurn_7 ml_X10_60 yV_X10_difference (c_X10_difference hS eq12) (by omega) rfl (lp_38 hS) (lq_38 hS) (Nat.le_of_ble_eq_true rfl) ?_
    cases e
    exact r_ireturn dX10_firstTurn_10 rfl rfl
noncomputable def m_X10_secondTurn_b18 (a1 : Int32) (a2 : Int32) (a3 : Int32) (mm : Mm) (rc_X10_firstTurn : Int32 → Int32 → Int32 → Mm → Option (Int32)) (z2 : Int32 × Int32) : Option ((Int32 × Int32) ⊕ (Int32)) := if (8 : Int32) < z2.2 then (some (.inr z2.1)) else ((rc_X10_firstTurn (a1 - (1 : Int32)) (a2 ||| ((mI mm 38 7) &&& (xshl (1 : Int32) z2.2))) a3 mm).bind (fun q9 => some (.inl (xmin z2.1 q9, z2.2 + (1 : Int32)))))
noncomputable def m_X10_secondTurn_s (S : Sk) (rc_X10_firstTurn : Int32 → Int32 → Int32 → Mm → Option (Int32)) (a1 : Int32) (a2 : Int32) (a3 : Int32) (mm : Mm) : Option (Int32) := if 0 < a1 then ((whileF FU (m_X10_secondTurn_b18 a1 a2 a3 mm rc_X10_firstTurn) ((8 : Int32), (0 : Int32))).bind (fun p3 => some p3)) else ((m_X10_difference S a2 a3 mm).bind (fun q11 => some q11))
set_option maxHeartbeats 4000000 in
set_option maxRecDepth 100000 in
theorem c_X10_secondTurn_s {l : Launch} {G : Gt} {S : Sk} {dd : Nat} {rc_X10_firstTurn : Int32 → Int32 → Int32 → Mm → Option (Int32)} (hS : Lay S) (ih_X10_firstTurn : ∀ (b1 b2 b3 : Int32) (nn : Mm) (qq : Int32), rc_X10_firstTurn b1 b2 b3 nn = some qq → CallOK l G M_X10_firstTurn yX10_firstTurn dd [vr (some 38), vi b1, vi b2, vi b3] S nn (some (vi qq)) S nn) (hdd : 2 ≤ dd + 1) {a1 : Int32} {a2 : Int32} {a3 : Int32} {mm : Mm} {q : Int32} (e : m_X10_secondTurn_s S rc_X10_firstTurn a1 a2 a3 mm = some q) : CallOK l G M_X10_secondTurn yX10_secondTurn (dd + 1) [vr (some 38), vi a1, vi a2, vi a3] S mm (some (vi q)) S mm := by
  refine call_of_run rfl rfl rfl (Nat.le_of_ble_eq_true rfl) ?_
  show Run l G M_X10_secondTurn (dd + 1) 0 [some (vr (some 38)), some (vi a1), some (vi a2), some (vi a3), none, none, none] [] S mm (some (vi q)) S mm
  unfold m_X10_secondTurn_s at e
  refine r_iload_n dX10_secondTurn_0 rfl ?_
  refine r_if_gt (tgt := 11) dX10_secondTurn_1 rfl (fun h1 => ?_) (fun h1 => ?_)
  · replace e := ite_t h1 e
    refine r_bipush (v := 8) dX10_secondTurn_11 cb_8 ?_
    refine r_istore dX10_secondTurn_13 (by decide) rfl ?_
    refine r_iconst (v := 0) dX10_secondTurn_15 ci_0 ?_
    refine r_istore dX10_secondTurn_16 (by decide) rfl ?_
    obtain ⟨p3, eb7w, e⟩ := obind e
    have J4a : Run l G M_X10_secondTurn (dd + 1) 61 [none, none, none, none, some (vi p3), none, none] [] S mm (some (vi q)) S mm := by
      refine r_iload dX10_secondTurn_61 rfl ?_
      cases e
      exact r_ireturn dX10_secondTurn_63 rfl rfl
    have J4 : ∀ pp : Int32, pp = p3 → Run l G M_X10_secondTurn (dd + 1) 61 [none, none, none, none, some (vi pp), none, none] [] S mm (some (vi q)) S mm := by
      intro pp hpp
      rw [hpp]
      exact J4a
    have J4w : Run l G M_X10_secondTurn (dd + 1) 18 [some (vr (some 38)), some (vi a1), some (vi a2), some (vi a3), some (vi (8 : Int32)), some (vi (0 : Int32)), none] [] S mm (some (vi q)) S mm := by
      refine while_run (s := ((8 : Int32), (0 : Int32))) (Gs := fun (z2 : Int32 × Int32) => Run l G M_X10_secondTurn (dd + 1) 18 [some (vr (some 38)), some (vi a1), some (vi a2), some (vi a3), some (vi z2.1), some (vi z2.2), none] [] S mm (some (vi q)) S mm) eb7w ?_
      intro z2 x5y eb7 hx6
      unfold m_X10_secondTurn_b18 at eb7
      refine r_iload dX10_secondTurn_18 rfl ?_
      refine r_bipush (v := 8) dX10_secondTurn_20 cb_8 ?_
      refine r_icmp_gt (tgt := 61) dX10_secondTurn_22 rfl (fun h8 => ?_) (fun h8 => ?_)
      · replace eb7 := ite_t h8 eb7
        cases eb7
        exact r_weak (L' := [none, none, none, none, some (vi z2.1), none, none]) ⟨rfl, trivial⟩ (J4 _ hx6)
      · replace eb7 := ite_f h8 eb7
        refine r_iload_n dX10_secondTurn_25 rfl ?_
        refine r_aload_n dX10_secondTurn_26 rfl ?_
        refine r_getI dX10_secondTurn_27 fl_X10_34 rfl (lp_38 hS) (lq_38 hS) ?_
        refine r_iconst (v := 1) dX10_secondTurn_30 ci_1 ?_
        refine r_iload dX10_secondTurn_31 rfl ?_
        refine r_ishl dX10_secondTurn_33 ?_
        refine r_iand dX10_secondTurn_34 ?_
        refine r_ior dX10_secondTurn_35 ?_
        refine r_istore dX10_secondTurn_36 (by decide) rfl ?_
        refine r_iload dX10_secondTurn_38 rfl ?_
        refine r_aload_n dX10_secondTurn_40 rfl ?_
        refine r_iload_n dX10_secondTurn_41 rfl ?_
        refine r_iconst (v := 1) dX10_secondTurn_42 ci_1 ?_
        refine r_isub dX10_secondTurn_43 ?_
        refine r_iload dX10_secondTurn_44 rfl ?_
        refine r_iload_n dX10_secondTurn_46 rfl ?_
        obtain ⟨q9, eq10, eb7⟩ := obind eb7
        refine r_callV (as := [_, _, _]) (rest := [_]) dX10_secondTurn_47 ml_X10_53 yV_X10_firstTurn (ih_X10_firstTurn _ _ _ _ _ eq10) (by omega) rfl (lp_38 hS) (lq_38 hS) (Nat.le_of_ble_eq_true rfl) ?_
        refine r_mmin (rest := []) dX10_secondTurn_50 ml_X10_68 (by omega) (Nat.le_of_ble_eq_true rfl) ?_
        refine r_istore dX10_secondTurn_53 (by decide) rfl ?_
        refine r_iinc (v := _ + (1 : Int32)) dX10_secondTurn_55 rfl (congrArg (_ + ·) ci_1) (by decide) rfl ?_
        refine r_goto (tgt := 18) dX10_secondTurn_58 rfl ?_
        cases eb7
        exact r_weak (L' := [some (vr (some 38)), some (vi a1), some (vi a2), some (vi a3), some (vi (xmin z2.1 q9)), some (vi (z2.2 + (1 : Int32))), none]) ⟨rfl, rfl, rfl, rfl, rfl, rfl, trivial⟩ hx6
    exact r_weak (L' := [some (vr (some 38)), some (vi a1), some (vi a2), some (vi a3), some (vi (8 : Int32)), some (vi (0 : Int32)), none]) ⟨rfl, rfl, rfl, rfl, rfl, rfl, trivial⟩ J4w
  · replace e := ite_f h1 e
    refine r_aload_n dX10_secondTurn_4 rfl ?_
    refine r_iload_n dX10_secondTurn_5 rfl ?_
    refine r_iload_n dX10_secondTurn_6 rfl ?_
    obtain ⟨q11, eq12, e⟩ := obind e
    refine r_callV (as := [_, _]) (rest := []) dX10_secondTurn_7 ml_X10_60 yV_X10_difference (c_X10_difference hS eq12) (by omega) rfl (lp_38 hS) (lq_38 hS) (Nat.le_of_ble_eq_true rfl) ?_
    cases e
    exact r_ireturn dX10_secondTurn_10 rfl rfl
noncomputable def m_X10_FS (S : Sk) : Nat → (Int32 → Int32 → Int32 → Mm → Option (Int32)) × (Int32 → Int32 → Int32 → Mm → Option (Int32))
  | 0 => (fun _ _ _ _ => none, fun _ _ _ _ => none)
  | n + 1 => (m_X10_firstTurn_s S (m_X10_FS S n).2, m_X10_secondTurn_s S (m_X10_FS S n).1)
theorem c_X10_FS {l : Launch} {G : Gt} {S : Sk} (hS : Lay S) : ∀ (n : Nat), (∀ (b1 b2 b3 : Int32) (nn : Mm) (qq : Int32), (m_X10_FS S n).1 b1 b2 b3 nn = some qq → CallOK l G M_X10_firstTurn yX10_firstTurn (2 + n) [vr (some 38), vi b1, vi b2, vi b3] S nn (some (vi qq)) S nn) ∧ (∀ (b1 b2 b3 : Int32) (nn : Mm) (qq : Int32), (m_X10_FS S n).2 b1 b2 b3 nn = some qq → CallOK l G M_X10_secondTurn yX10_secondTurn (2 + n) [vr (some 38), vi b1, vi b2, vi b3] S nn (some (vi qq)) S nn)
  | 0 => ⟨fun _ _ _ _ _ h => (by cases h), fun _ _ _ _ _ h => (by cases h)⟩
  | n + 1 => ⟨fun b1 b2 b3 nn qq h => c_X10_firstTurn_s (dd := 2 + n) hS (c_X10_FS hS n).2 (by omega) h, fun b1 b2 b3 nn qq h => c_X10_secondTurn_s (dd := 2 + n) hS (c_X10_FS hS n).1 (by omega) h⟩
noncomputable def m_X10_firstTurn (S : Sk) (n : Nat) : Int32 → Int32 → Int32 → Mm → Option (Int32) := (m_X10_FS S n).1
theorem c_X10_firstTurn {l : Launch} {G : Gt} {S : Sk} (hS : Lay S) (n : Nat) (b1 b2 b3 : Int32) (nn : Mm) (qq : Int32) (h : m_X10_firstTurn S n b1 b2 b3 nn = some qq) : CallOK l G M_X10_firstTurn yX10_firstTurn (2 + n) [vr (some 38), vi b1, vi b2, vi b3] S nn (some (vi qq)) S nn := (c_X10_FS hS n).1 b1 b2 b3 nn qq h
noncomputable def m_X10_secondTurn (S : Sk) (n : Nat) : Int32 → Int32 → Int32 → Mm → Option (Int32) := (m_X10_FS S n).2
theorem c_X10_secondTurn {l : Launch} {G : Gt} {S : Sk} (hS : Lay S) (n : Nat) (b1 b2 b3 : Int32) (nn : Mm) (qq : Int32) (h : m_X10_secondTurn S n b1 b2 b3 nn = some qq) : CallOK l G M_X10_secondTurn yX10_secondTurn (2 + n) [vr (some 38), vi b1, vi b2, vi b3] S nn (some (vi qq)) S nn := (c_X10_FS hS n).2 b1 b2 b3 nn qq h
noncomputable def m_X10_play_b73 (a4 : Int32) (S : Sk) (q6 : Int32) (q8 : Int32) (z12 : Int32 × Mm) : Option ((Int32 × Mm) ⊕ (Mm)) := if (8 : Int32) < z12.1 then (some (.inr z12.2)) else (if a4 ≤ 0 then (some (.inr z12.2)) else (if (mI z12.2 38 1) = (-1 : Int32) then ((m_X10_secondTurn (sRs S 38 4 (some 14)) 6 (a4 - (1 : Int32)) q6 (q8 ||| ((mI z12.2 38 8) &&& (xshl (1 : Int32) z12.1))) z12.2).bind (fun q21 => some (.inl (z12.1 + (1 : Int32), (if q21 = (mI z12.2 38 0) then (sI z12.2 38 1 z12.1) else z12.2))))) else (some (.inr z12.2))))
noncomputable def m_X10_play (S : Sk) (a2 : Int32) (a3 : Int32) (a4 : Int32) (mm : Mm) : Option (Sk × Mm) := gP (Lay (sRs S 38 4 (some 14))) ((m_X7_reachOf a3 a2 (sI (sI mm 38 5 a2) 38 6 a3)).bind (fun q2 => (m_X7_reachOf a2 a3 (sI (sI (sI mm 38 5 a2) 38 6 a3) 38 7 q2)).bind (fun q4 => (m_X7_openTo a2 (0 : Int32) (sI (sI (sI (sI mm 38 5 a2) 38 6 a3) 38 7 q2) 38 8 q4)).bind (fun q6 => (m_X7_openTo a3 (0 : Int32) (sI (sI (sI (sI mm 38 5 a2) 38 6 a3) 38 7 q2) 38 8 q4)).bind (fun q8 => (m_X10_firstTurn (sRs S 38 4 (some 14)) 6 a4 q6 q8 (sI (sI (sI (sI mm 38 5 a2) 38 6 a3) 38 7 q2) 38 8 q4)).bind (fun q10 => (whileF FU (m_X10_play_b73 a4 S q6 q8) ((0 : Int32), (sI (sI (sI (sI (sI (sI mm 38 5 a2) 38 6 a3) 38 7 q2) 38 8 q4) 38 0 q10) 38 1 (-1 : Int32)))).bind (fun p13 => some ((sRs S 38 4 (some 14)), p13))))))))
set_option maxHeartbeats 4000000 in
set_option maxRecDepth 100000 in
theorem c_X10_play {l : Launch} {G : Gt} {S : Sk} {a2 : Int32} {a3 : Int32} {a4 : Int32} {mm : Mm} (hS : Lay S) {q : Sk × Mm} (e : m_X10_play S a2 a3 a4 mm = some q) : CallOK l G M_X10_play yX10_play 9 [vr (some 38), vr (some 14), vi a2, vi a3, vi a4] S mm (none) q.1 q.2 := by
  refine call_of_run rfl rfl rfl (Nat.le_of_ble_eq_true rfl) ?_
  show Run l G M_X10_play 9 0 [some (vr (some 38)), some (vr (some 14)), some (vi a2), some (vi a3), some (vi a4), none, none, none, none] [] S mm (none) q.1 q.2
  unfold m_X10_play at e
  refine r_aload_n dX10_play_0 rfl ?_
  refine r_aload_n dX10_play_1 rfl ?_
  refine r_putR dX10_play_2 fl_X10_24 ft_10_4 (Or.inl rfl) rfl (lp_38 hS) (lq_38 hS) ?_
  refine r_aload_n dX10_play_5 rfl ?_
  refine r_iload_n dX10_play_6 rfl ?_
  obtain ⟨hn1, e⟩ := gP_some e
  refine r_putI dX10_play_7 fl_X10_28 ft_10_5 (Or.inl rfl) rfl rfl rfl (lp_38 hn1) (lq_38 hn1) ?_
  refine r_aload_n dX10_play_10 rfl ?_
  refine r_iload_n dX10_play_11 rfl ?_
  refine r_putI dX10_play_12 fl_X10_31 ft_10_6 (Or.inl rfl) rfl rfl rfl (lp_38 hn1) (lq_38 hn1) ?_
  refine r_aload_n dX10_play_15 rfl ?_
  refine r_aload_n dX10_play_16 rfl ?_
  refine r_iload_n dX10_play_17 rfl ?_
  refine r_iload_n dX10_play_18 rfl ?_
  obtain ⟨q2, eq3, e⟩ := obind e
  refine r_callV (as := [_, _]) (rest := [_]) dX10_play_19 ml_X10_44 yV_X7_reachOf (c_X7_reachOf hn1 eq3) (by decide) rfl (lp_14 hn1) (lq_14 hn1) (Nat.le_of_ble_eq_true rfl) ?_
  refine r_putI dX10_play_22 fl_X10_34 ft_10_7 (Or.inl rfl) rfl rfl rfl (lp_38 hn1) (lq_38 hn1) ?_
  refine r_aload_n dX10_play_25 rfl ?_
  refine r_aload_n dX10_play_26 rfl ?_
  refine r_iload_n dX10_play_27 rfl ?_
  refine r_iload_n dX10_play_28 rfl ?_
  obtain ⟨q4, eq5, e⟩ := obind e
  refine r_callV (as := [_, _]) (rest := [_]) dX10_play_29 ml_X10_44 yV_X7_reachOf (c_X7_reachOf hn1 eq5) (by decide) rfl (lp_14 hn1) (lq_14 hn1) (Nat.le_of_ble_eq_true rfl) ?_
  refine r_putI dX10_play_32 fl_X10_37 ft_10_8 (Or.inl rfl) rfl rfl rfl (lp_38 hn1) (lq_38 hn1) ?_
  refine r_aload_n dX10_play_35 rfl ?_
  refine r_iload_n dX10_play_36 rfl ?_
  refine r_iconst (v := 0) dX10_play_37 ci_0 ?_
  obtain ⟨q6, eq7, e⟩ := obind e
  refine r_callV (as := [_, _]) (rest := []) dX10_play_38 ml_X10_50 yV_X7_openTo (c_X7_openTo hn1 eq7) (by decide) rfl (lp_14 hn1) (lq_14 hn1) (Nat.le_of_ble_eq_true rfl) ?_
  refine r_istore dX10_play_41 (by decide) rfl ?_
  refine r_aload_n dX10_play_43 rfl ?_
  refine r_iload_n dX10_play_44 rfl ?_
  refine r_iconst (v := 0) dX10_play_45 ci_0 ?_
  obtain ⟨q8, eq9, e⟩ := obind e
  refine r_callV (as := [_, _]) (rest := []) dX10_play_46 ml_X10_50 yV_X7_openTo (c_X7_openTo hn1 eq9) (by decide) rfl (lp_14 hn1) (lq_14 hn1) (Nat.le_of_ble_eq_true rfl) ?_
  refine r_istore dX10_play_49 (by decide) rfl ?_
  refine r_aload_n dX10_play_51 rfl ?_
  refine r_aload_n dX10_play_52 rfl ?_
  refine r_iload dX10_play_53 rfl ?_
  refine r_iload dX10_play_55 rfl ?_
  refine r_iload dX10_play_57 rfl ?_
  obtain ⟨q10, eq11, e⟩ := obind e
  refine r_callV (as := [_, _, _]) (rest := [_]) dX10_play_59 ml_X10_53 yV_X10_firstTurn (c_X10_firstTurn hn1 6 _ _ _ _ _ eq11) (by decide) rfl (lp_38 hn1) (lq_38 hn1) (Nat.le_of_ble_eq_true rfl) ?_
  refine r_putI dX10_play_62 fl_X10_9 ft_10_0 (Or.inl rfl) rfl rfl rfl (lp_38 hn1) (lq_38 hn1) ?_
  refine r_aload_n dX10_play_65 rfl ?_
  refine r_iconst (v := -1) dX10_play_66 ci_m1 ?_
  refine r_putI dX10_play_67 fl_X10_15 ft_10_1 (Or.inl rfl) rfl rfl rfl (lp_38 hn1) (lq_38 hn1) ?_
  refine r_iconst (v := 0) dX10_play_70 ci_0 ?_
  refine r_istore dX10_play_71 (by decide) rfl ?_
  obtain ⟨p13, eb17w, e⟩ := obind e
  have J14a : Run l G M_X10_play 9 138 [none, none, none, none, none, none, none, none, none] [] (sRs S 38 4 (some 14)) p13 (none) q.1 q.2 := by
    cases e
    exact r_return dX10_play_138 rfl
  have J14 : ∀ pp : Mm, pp = p13 → Run l G M_X10_play 9 138 [none, none, none, none, none, none, none, none, none] [] (sRs S 38 4 (some 14)) pp (none) q.1 q.2 := by
    intro pp hpp
    rw [hpp]
    exact J14a
  have J14w : Run l G M_X10_play 9 73 [some (vr (some 38)), none, none, none, some (vi a4), some (vi q6), some (vi q8), some (vi (0 : Int32)), none] [] (sRs S 38 4 (some 14)) (sI (sI (sI (sI (sI (sI mm 38 5 a2) 38 6 a3) 38 7 q2) 38 8 q4) 38 0 q10) 38 1 (-1 : Int32)) (none) q.1 q.2 := by
    refine while_run (s := ((0 : Int32), (sI (sI (sI (sI (sI (sI mm 38 5 a2) 38 6 a3) 38 7 q2) 38 8 q4) 38 0 q10) 38 1 (-1 : Int32)))) (Gs := fun (z12 : Int32 × Mm) => Run l G M_X10_play 9 73 [some (vr (some 38)), none, none, none, some (vi a4), some (vi q6), some (vi q8), some (vi z12.1), none] [] (sRs S 38 4 (some 14)) z12.2 (none) q.1 q.2) eb17w ?_
    intro z12 x15y eb17 hx16
    unfold m_X10_play_b73 at eb17
    refine r_iload dX10_play_73 rfl ?_
    refine r_bipush (v := 8) dX10_play_75 cb_8 ?_
    refine r_icmp_gt (tgt := 138) dX10_play_77 rfl (fun h18 => ?_) (fun h18 => ?_)
    · replace eb17 := ite_t h18 eb17
      cases eb17
      exact r_weak (L' := [none, none, none, none, none, none, none, none, none]) trivial (J14 _ hx16)
    · replace eb17 := ite_f h18 eb17
      refine r_iload dX10_play_80 rfl ?_
      refine r_if_le (tgt := 138) dX10_play_82 rfl (fun h19 => ?_) (fun h19 => ?_)
      · replace eb17 := ite_t h19 eb17
        cases eb17
        exact r_weak (L' := [none, none, none, none, none, none, none, none, none]) trivial (J14 _ hx16)
      · replace eb17 := ite_f h19 eb17
        refine r_aload_n dX10_play_85 rfl ?_
        refine r_getI dX10_play_86 fl_X10_15 rfl (lp_38 hn1) (lq_38 hn1) ?_
        refine r_iconst (v := -1) dX10_play_89 ci_m1 ?_
        refine r_icmp_ne (tgt := 138) dX10_play_90 rfl (fun h20 => ?_) (fun h20 => ?_)
        · replace eb17 := ite_f h20 eb17
          cases eb17
          exact r_weak (L' := [none, none, none, none, none, none, none, none, none]) trivial (J14 _ hx16)
        · replace eb17 := ite_t h20 eb17
          refine r_iload dX10_play_93 rfl ?_
          refine r_aload_n dX10_play_95 rfl ?_
          refine r_getI dX10_play_96 fl_X10_37 rfl (lp_38 hn1) (lq_38 hn1) ?_
          refine r_iconst (v := 1) dX10_play_99 ci_1 ?_
          refine r_iload dX10_play_100 rfl ?_
          refine r_ishl dX10_play_102 ?_
          refine r_iand dX10_play_103 ?_
          refine r_ior dX10_play_104 ?_
          refine r_istore dX10_play_105 (by decide) rfl ?_
          refine r_aload_n dX10_play_107 rfl ?_
          refine r_iload dX10_play_108 rfl ?_
          refine r_iconst (v := 1) dX10_play_110 ci_1 ?_
          refine r_isub dX10_play_111 ?_
          refine r_iload dX10_play_112 rfl ?_
          refine r_iload dX10_play_114 rfl ?_
          obtain ⟨q21, eq22, eb17⟩ := obind eb17
          refine r_callV (as := [_, _, _]) (rest := []) dX10_play_116 ml_X10_57 yV_X10_secondTurn (c_X10_secondTurn hn1 6 _ _ _ _ _ eq22) (by decide) rfl (lp_38 hn1) (lq_38 hn1) (Nat.le_of_ble_eq_true rfl) ?_
          refine r_aload_n dX10_play_119 rfl ?_
          refine r_getI dX10_play_120 fl_X10_9 rfl (lp_38 hn1) (lq_38 hn1) ?_
          have J25 : ∀ (w24 : Mm), w24 = (if q21 = (mI z12.2 38 0) then (sI z12.2 38 1 z12.1) else z12.2) → Run l G M_X10_play 9 132 [some (vr (some 38)), none, none, none, some (vi a4), some (vi q6), some (vi q8), some (vi z12.1), none] [] (sRs S 38 4 (some 14)) w24 (none) q.1 q.2 := by
            intro w24 hw26
            subst hw26
            refine r_iinc (v := _ + (1 : Int32)) dX10_play_132 rfl (congrArg (_ + ·) ci_1) (by decide) rfl ?_
            refine r_goto (tgt := 73) dX10_play_135 rfl ?_
            cases eb17
            exact r_weak (L' := [some (vr (some 38)), none, none, none, some (vi a4), some (vi q6), some (vi q8), some (vi (z12.1 + (1 : Int32))), none]) ⟨rfl, rfl, rfl, rfl, rfl, trivial⟩ hx16
          refine r_icmp_ne (tgt := 132) dX10_play_123 rfl (fun h23 => ?_) (fun h23 => ?_)
          · exact r_weak (L' := [some (vr (some 38)), none, none, none, some (vi a4), some (vi q6), some (vi q8), some (vi z12.1), none]) ⟨rfl, rfl, rfl, rfl, rfl, trivial⟩ (J25 _ (Eq.symm (if_neg h23)))
          · refine r_aload_n dX10_play_126 rfl ?_
            refine r_iload dX10_play_127 rfl ?_
            refine r_putI dX10_play_129 fl_X10_15 ft_10_1 (Or.inl rfl) rfl rfl rfl (lp_38 hn1) (lq_38 hn1) ?_
            exact r_weak (L' := [some (vr (some 38)), none, none, none, some (vi a4), some (vi q6), some (vi q8), some (vi z12.1), none]) ⟨rfl, rfl, rfl, rfl, rfl, trivial⟩ (J25 _ (Eq.symm (if_pos h23)))
  exact r_weak (L' := [some (vr (some 38)), none, none, none, some (vi a4), some (vi q6), some (vi q8), some (vi (0 : Int32)), none]) ⟨rfl, rfl, rfl, rfl, rfl, trivial⟩ J14w
noncomputable def m_X10_weigh_b3 (z1 : Int32 × Mm) : Option ((Int32 × Mm) ⊕ (Mm)) := if (7 : Int32) ≤ z1.1 then (some (.inr z1.2)) else (grd z1.1 7 (some (.inl (z1.1 + (1 : Int32), (sI z1.2 39 (ix z1.1) (0 : Int32))))))
noncomputable def m_X10_weigh_b55 (a2 : Int32) (z16 : Int32 × Mm) : Option ((Int32 × Mm) ⊕ (Mm)) := if z16.1 ≤ 0 then (some (.inr z16.2)) else (grd z16.1 7 (grd (z16.1 - (1 : Int32)) 7 (grd z16.1 7 (some (.inl (z16.1 + (-1 : Int32), (sI z16.2 39 (ix z16.1) (((mI z16.2 39 (ix z16.1)) * ((10 : Int32) - a2)) + ((mI z16.2 39 (ix (z16.1 - (1 : Int32)))) * a2)))))))))
noncomputable def m_X10_weigh_b40 (a2 : Int32) (a3 : Int32) (z9 : Int32 × Int32 × Mm) : Option ((Int32 × Int32 × Mm) ⊕ (Int32 × Mm)) := if a3 ≤ z9.2.1 then (some (.inr (z9.1, z9.2.2))) else ((whileF FU (m_X10_weigh_b55 a2) ((7 : Int32) - (1 : Int32), z9.2.2)).bind (fun p17 => some (.inl (z9.1 * (10 : Int32), z9.2.1 + (1 : Int32), (sI p17 39 (ix (0 : Int32)) ((mI p17 39 (ix (0 : Int32))) * ((10 : Int32) - a2)))))))
noncomputable def m_X10_weigh_b137 (p10 : Int32 × Mm) (z26 : Int32 × Int32) : Option ((Int32 × Int32) ⊕ (Int32)) := if (7 : Int32) ≤ z26.2 then (some (.inr z26.1)) else (grd z26.2 7 (some (.inl (z26.1 + (mI p10.2 39 (ix z26.2)), z26.2 + (1 : Int32)))))
noncomputable def m_X10_weigh (a1 : Int32) (a2 : Int32) (a3 : Int32) (mm : Mm) : Option (Mm) := (whileF FU (m_X10_weigh_b3) ((0 : Int32), mm)).bind (fun p2 => (whileF FU (m_X10_weigh_b40 a2 a3) ((1 : Int32), (0 : Int32), (sI p2 39 (ix (0 : Int32)) (1 : Int32)))).bind (fun p10 => (whileF FU (m_X10_weigh_b137 p10) ((0 : Int32), xmax a1 (0 : Int32))).bind (fun p27 => (m_X11_commonDivisor p10.1 p27).bind (fun q34 => gdz q34 (gdz q34 (some (sI (sI p10.2 38 2 (p27 / q34)) 38 3 (p10.1 / q34))))))))
set_option maxHeartbeats 4000000 in
set_option maxRecDepth 100000 in
theorem c_X10_weigh {l : Launch} {G : Gt} {S : Sk} {a1 : Int32} {a2 : Int32} {a3 : Int32} {mm : Mm} (hS : Lay S) {q : Mm} (e : m_X10_weigh a1 a2 a3 mm = some q) : CallOK l G M_X10_weigh yX10_weigh 2 [vr (some 38), vi a1, vi a2, vi a3] S mm (none) S q := by
  refine call_of_run rfl rfl rfl (Nat.le_of_ble_eq_true rfl) ?_
  show Run l G M_X10_weigh 2 0 [some (vr (some 38)), some (vi a1), some (vi a2), some (vi a3), none, none, none] [] S mm (none) S q
  unfold m_X10_weigh at e
  refine r_iconst (v := 0) dX10_weigh_0 ci_0 ?_
  refine r_istore dX10_weigh_1 (by decide) rfl ?_
  obtain ⟨p2, eb6w, e⟩ := obind e
  have J3a : Run l G M_X10_weigh 2 27 [some (vr (some 38)), some (vi a1), some (vi a2), some (vi a3), none, none, none] [] S p2 (none) S q := by
    refine r_aload_n dX10_weigh_27 rfl ?_
    refine r_getR dX10_weigh_28 fl_X10_40 rfl (lp_38 hS) (lq_38 hS) (lr_38_9 hS) ?_
    refine r_iconst (v := 0) dX10_weigh_31 ci_0 ?_
    refine r_iconst (v := 1) dX10_weigh_32 ci_1 ?_
    refine r_iast dX10_weigh_33 (lp_39 hS) (lk_39 hS) (vp_in_iff.mpr ⟨by decide, by decide⟩) ?_
    refine r_iconst (v := 1) dX10_weigh_34 ci_1 ?_
    refine r_istore dX10_weigh_35 (by decide) rfl ?_
    refine r_iconst (v := 0) dX10_weigh_37 ci_0 ?_
    refine r_istore dX10_weigh_38 (by decide) rfl ?_
    obtain ⟨p10, eb14w, e⟩ := obind e
    have J11a : Run l G M_X10_weigh 2 127 [some (vr (some 38)), some (vi a1), none, none, some (vi p10.1), none, none] [] S p10.2 (none) S q := by
      refine r_iconst (v := 0) dX10_weigh_127 ci_0 ?_
      refine r_istore dX10_weigh_128 (by decide) rfl ?_
      refine r_iload_n dX10_weigh_130 rfl ?_
      refine r_iconst (v := 0) dX10_weigh_131 ci_0 ?_
      refine r_mmax (rest := []) dX10_weigh_132 ml_X10_63 (by decide) (Nat.le_of_ble_eq_true rfl) ?_
      refine r_istore dX10_weigh_135 (by decide) rfl ?_
      obtain ⟨p27, eb31w, e⟩ := obind e
      have J28a : Run l G M_X10_weigh 2 165 [some (vr (some 38)), none, none, none, some (vi p10.1), some (vi p27), none] [] S p10.2 (none) S q := by
        refine r_iload dX10_weigh_165 rfl ?_
        refine r_iload dX10_weigh_167 rfl ?_
        obtain ⟨q34, eq35, e⟩ := obind e
        refine r_callSN (as := [_, _]) (rest := []) dX10_weigh_169 nl_X10_83 yS_X11_commonDivisor (c_X11_commonDivisor eq35) (by decide) rfl (Nat.le_of_ble_eq_true rfl) ?_
        refine r_istore dX10_weigh_172 (by decide) rfl ?_
        refine r_aload_n dX10_weigh_174 rfl ?_
        refine r_iload dX10_weigh_175 rfl ?_
        refine r_iload dX10_weigh_177 rfl ?_
        obtain ⟨hz36, e⟩ := gdz_some e
        refine r_idiv dX10_weigh_179 hz36 ?_
        refine r_putI dX10_weigh_180 fl_X10_18 ft_10_2 (Or.inl rfl) rfl rfl rfl (lp_38 hS) (lq_38 hS) ?_
        refine r_aload_n dX10_weigh_183 rfl ?_
        refine r_iload dX10_weigh_184 rfl ?_
        refine r_iload dX10_weigh_186 rfl ?_
        obtain ⟨hz37, e⟩ := gdz_some e
        refine r_idiv dX10_weigh_188 hz37 ?_
        refine r_putI dX10_weigh_189 fl_X10_21 ft_10_3 (Or.inl rfl) rfl rfl rfl (lp_38 hS) (lq_38 hS) ?_
        cases e
        exact r_return dX10_weigh_192 rfl
      have J28 : ∀ pp : Int32, pp = p27 → Run l G M_X10_weigh 2 165 [some (vr (some 38)), none, none, none, some (vi p10.1), some (vi pp), none] [] S p10.2 (none) S q := by
        intro pp hpp
        rw [hpp]
        exact J28a
      have J28w : Run l G M_X10_weigh 2 137 [some (vr (some 38)), none, none, none, some (vi p10.1), some (vi (0 : Int32)), some (vi (xmax a1 (0 : Int32)))] [] S p10.2 (none) S q := by
        refine while_run (s := ((0 : Int32), xmax a1 (0 : Int32))) (Gs := fun (z26 : Int32 × Int32) => Run l G M_X10_weigh 2 137 [some (vr (some 38)), none, none, none, some (vi p10.1), some (vi z26.1), some (vi z26.2)] [] S p10.2 (none) S q) eb31w ?_
        intro z26 x29y eb31 hx30
        unfold m_X10_weigh_b137 at eb31
        refine r_iload dX10_weigh_137 rfl ?_
        refine r_aload_n dX10_weigh_139 rfl ?_
        refine r_getR dX10_weigh_140 fl_X10_40 rfl (lp_38 hS) (lq_38 hS) (lr_38_9 hS) ?_
        refine r_alen (v := 7) dX10_weigh_143 (lp_39 hS) (lk_39 hS) (by decide) (by decide) (by decide) ?_
        refine r_icmp_ge (tgt := 165) dX10_weigh_144 rfl (fun h32 => ?_) (fun h32 => ?_)
        · replace eb31 := ite_t h32 eb31
          cases eb31
          exact r_weak (L' := [some (vr (some 38)), none, none, none, some (vi p10.1), some (vi z26.1), none]) ⟨rfl, rfl, rfl, trivial⟩ (J28 _ hx30)
        · replace eb31 := ite_f h32 eb31
          refine r_iload dX10_weigh_147 rfl ?_
          refine r_aload_n dX10_weigh_149 rfl ?_
          refine r_getR dX10_weigh_150 fl_X10_40 rfl (lp_38 hS) (lq_38 hS) (lr_38_9 hS) ?_
          refine r_iload dX10_weigh_153 rfl ?_
          obtain ⟨hg33, eb31⟩ := grd_some eb31
          refine r_iald dX10_weigh_155 (lp_39 hS) (lk_39 hS) hg33 ?_
          refine r_iadd dX10_weigh_156 ?_
          refine r_istore dX10_weigh_157 (by decide) rfl ?_
          refine r_iinc (v := _ + (1 : Int32)) dX10_weigh_159 rfl (congrArg (_ + ·) ci_1) (by decide) rfl ?_
          refine r_goto (tgt := 137) dX10_weigh_162 rfl ?_
          cases eb31
          exact r_weak (L' := [some (vr (some 38)), none, none, none, some (vi p10.1), some (vi (z26.1 + (mI p10.2 39 (ix z26.2)))), some (vi (z26.2 + (1 : Int32)))]) ⟨rfl, rfl, rfl, rfl, trivial⟩ hx30
      exact r_weak (L' := [some (vr (some 38)), none, none, none, some (vi p10.1), some (vi (0 : Int32)), some (vi (xmax a1 (0 : Int32)))]) ⟨rfl, rfl, rfl, rfl, trivial⟩ J28w
    have J11 : ∀ pp : Int32 × Mm, pp = p10 → Run l G M_X10_weigh 2 127 [some (vr (some 38)), some (vi a1), none, none, some (vi pp.1), none, none] [] S pp.2 (none) S q := by
      intro pp hpp
      rw [hpp]
      exact J11a
    have J11w : Run l G M_X10_weigh 2 40 [some (vr (some 38)), some (vi a1), some (vi a2), some (vi a3), some (vi (1 : Int32)), some (vi (0 : Int32)), none] [] S (sI p2 39 (ix (0 : Int32)) (1 : Int32)) (none) S q := by
      refine while_run (s := ((1 : Int32), (0 : Int32), (sI p2 39 (ix (0 : Int32)) (1 : Int32)))) (Gs := fun (z9 : Int32 × Int32 × Mm) => Run l G M_X10_weigh 2 40 [some (vr (some 38)), some (vi a1), some (vi a2), some (vi a3), some (vi z9.1), some (vi z9.2.1), none] [] S z9.2.2 (none) S q) eb14w ?_
      intro z9 x12y eb14 hx13
      unfold m_X10_weigh_b40 at eb14
      refine r_iload dX10_weigh_40 rfl ?_
      refine r_iload_n dX10_weigh_42 rfl ?_
      refine r_icmp_ge (tgt := 127) dX10_weigh_43 rfl (fun h15 => ?_) (fun h15 => ?_)
      · replace eb14 := ite_t h15 eb14
        cases eb14
        exact r_weak (L' := [some (vr (some 38)), some (vi a1), none, none, some (vi z9.1), none, none]) ⟨rfl, rfl, rfl, trivial⟩ (J11 _ hx13)
      · replace eb14 := ite_f h15 eb14
        refine r_aload_n dX10_weigh_46 rfl ?_
        refine r_getR dX10_weigh_47 fl_X10_40 rfl (lp_38 hS) (lq_38 hS) (lr_38_9 hS) ?_
        refine r_alen (v := 7) dX10_weigh_50 (lp_39 hS) (lk_39 hS) (by decide) (by decide) (by decide) ?_
        refine r_iconst (v := 1) dX10_weigh_51 ci_1 ?_
        refine r_isub dX10_weigh_52 ?_
        refine r_istore dX10_weigh_53 (by decide) rfl ?_
        obtain ⟨p17, eb21w, eb14⟩ := obind eb14
        have J18a : Run l G M_X10_weigh 2 97 [some (vr (some 38)), some (vi a1), some (vi a2), some (vi a3), some (vi z9.1), some (vi z9.2.1), none] [] S p17 (none) S q := by
          refine r_aload_n dX10_weigh_97 rfl ?_
          refine r_getR dX10_weigh_98 fl_X10_40 rfl (lp_38 hS) (lq_38 hS) (lr_38_9 hS) ?_
          refine r_iconst (v := 0) dX10_weigh_101 ci_0 ?_
          refine r_aload_n dX10_weigh_102 rfl ?_
          refine r_getR dX10_weigh_103 fl_X10_40 rfl (lp_38 hS) (lq_38 hS) (lr_38_9 hS) ?_
          refine r_iconst (v := 0) dX10_weigh_106 ci_0 ?_
          refine r_iald dX10_weigh_107 (lp_39 hS) (lk_39 hS) (vp_in_iff.mpr ⟨by decide, by decide⟩) ?_
          refine r_bipush (v := 10) dX10_weigh_108 cb_10 ?_
          refine r_iload_n dX10_weigh_110 rfl ?_
          refine r_isub dX10_weigh_111 ?_
          refine r_imul dX10_weigh_112 ?_
          refine r_iast dX10_weigh_113 (lp_39 hS) (lk_39 hS) (vp_in_iff.mpr ⟨by decide, by decide⟩) ?_
          refine r_iload dX10_weigh_114 rfl ?_
          refine r_bipush (v := 10) dX10_weigh_116 cb_10 ?_
          refine r_imul dX10_weigh_118 ?_
          refine r_istore dX10_weigh_119 (by decide) rfl ?_
          refine r_iinc (v := _ + (1 : Int32)) dX10_weigh_121 rfl (congrArg (_ + ·) ci_1) (by decide) rfl ?_
          refine r_goto (tgt := 40) dX10_weigh_124 rfl ?_
          cases eb14
          exact r_weak (L' := [some (vr (some 38)), some (vi a1), some (vi a2), some (vi a3), some (vi (z9.1 * (10 : Int32))), some (vi (z9.2.1 + (1 : Int32))), none]) ⟨rfl, rfl, rfl, rfl, rfl, rfl, trivial⟩ hx13
        have J18 : ∀ pp : Mm, pp = p17 → Run l G M_X10_weigh 2 97 [some (vr (some 38)), some (vi a1), some (vi a2), some (vi a3), some (vi z9.1), some (vi z9.2.1), none] [] S pp (none) S q := by
          intro pp hpp
          rw [hpp]
          exact J18a
        have J18w : Run l G M_X10_weigh 2 55 [some (vr (some 38)), some (vi a1), some (vi a2), some (vi a3), some (vi z9.1), some (vi z9.2.1), some (vi ((7 : Int32) - (1 : Int32)))] [] S z9.2.2 (none) S q := by
          refine while_run (s := ((7 : Int32) - (1 : Int32), z9.2.2)) (Gs := fun (z16 : Int32 × Mm) => Run l G M_X10_weigh 2 55 [some (vr (some 38)), some (vi a1), some (vi a2), some (vi a3), some (vi z9.1), some (vi z9.2.1), some (vi z16.1)] [] S z16.2 (none) S q) eb21w ?_
          intro z16 x19y eb21 hx20
          unfold m_X10_weigh_b55 at eb21
          refine r_iload dX10_weigh_55 rfl ?_
          refine r_if_le (tgt := 97) dX10_weigh_57 rfl (fun h22 => ?_) (fun h22 => ?_)
          · replace eb21 := ite_t h22 eb21
            cases eb21
            exact r_weak (L' := [some (vr (some 38)), some (vi a1), some (vi a2), some (vi a3), some (vi z9.1), some (vi z9.2.1), none]) ⟨rfl, rfl, rfl, rfl, rfl, rfl, trivial⟩ (J18 _ hx20)
          · replace eb21 := ite_f h22 eb21
            refine r_aload_n dX10_weigh_60 rfl ?_
            refine r_getR dX10_weigh_61 fl_X10_40 rfl (lp_38 hS) (lq_38 hS) (lr_38_9 hS) ?_
            refine r_iload dX10_weigh_64 rfl ?_
            refine r_aload_n dX10_weigh_66 rfl ?_
            refine r_getR dX10_weigh_67 fl_X10_40 rfl (lp_38 hS) (lq_38 hS) (lr_38_9 hS) ?_
            refine r_iload dX10_weigh_70 rfl ?_
            obtain ⟨hg23, eb21⟩ := grd_some eb21
            refine r_iald dX10_weigh_72 (lp_39 hS) (lk_39 hS) hg23 ?_
            refine r_bipush (v := 10) dX10_weigh_73 cb_10 ?_
            refine r_iload_n dX10_weigh_75 rfl ?_
            refine r_isub dX10_weigh_76 ?_
            refine r_imul dX10_weigh_77 ?_
            refine r_aload_n dX10_weigh_78 rfl ?_
            refine r_getR dX10_weigh_79 fl_X10_40 rfl (lp_38 hS) (lq_38 hS) (lr_38_9 hS) ?_
            refine r_iload dX10_weigh_82 rfl ?_
            refine r_iconst (v := 1) dX10_weigh_84 ci_1 ?_
            refine r_isub dX10_weigh_85 ?_
            obtain ⟨hg24, eb21⟩ := grd_some eb21
            refine r_iald dX10_weigh_86 (lp_39 hS) (lk_39 hS) hg24 ?_
            refine r_iload_n dX10_weigh_87 rfl ?_
            refine r_imul dX10_weigh_88 ?_
            refine r_iadd dX10_weigh_89 ?_
            obtain ⟨hg25, eb21⟩ := grd_some eb21
            refine r_iast dX10_weigh_90 (lp_39 hS) (lk_39 hS) hg25 ?_
            refine r_iinc (v := _ + (-1 : Int32)) dX10_weigh_91 rfl (congrArg (_ + ·) ci_m1) (by decide) rfl ?_
            refine r_goto (tgt := 55) dX10_weigh_94 rfl ?_
            cases eb21
            exact r_weak (L' := [some (vr (some 38)), some (vi a1), some (vi a2), some (vi a3), some (vi z9.1), some (vi z9.2.1), some (vi (z16.1 + (-1 : Int32)))]) ⟨rfl, rfl, rfl, rfl, rfl, rfl, rfl, trivial⟩ hx20
        exact r_weak (L' := [some (vr (some 38)), some (vi a1), some (vi a2), some (vi a3), some (vi z9.1), some (vi z9.2.1), some (vi ((7 : Int32) - (1 : Int32)))]) ⟨rfl, rfl, rfl, rfl, rfl, rfl, rfl, trivial⟩ J18w
    exact r_weak (L' := [some (vr (some 38)), some (vi a1), some (vi a2), some (vi a3), some (vi (1 : Int32)), some (vi (0 : Int32)), none]) ⟨rfl, rfl, rfl, rfl, rfl, rfl, trivial⟩ J11w
  have J3 : ∀ pp : Mm, pp = p2 → Run l G M_X10_weigh 2 27 [some (vr (some 38)), some (vi a1), some (vi a2), some (vi a3), none, none, none] [] S pp (none) S q := by
    intro pp hpp
    rw [hpp]
    exact J3a
  have J3w : Run l G M_X10_weigh 2 3 [some (vr (some 38)), some (vi a1), some (vi a2), some (vi a3), some (vi (0 : Int32)), none, none] [] S mm (none) S q := by
    refine while_run (s := ((0 : Int32), mm)) (Gs := fun (z1 : Int32 × Mm) => Run l G M_X10_weigh 2 3 [some (vr (some 38)), some (vi a1), some (vi a2), some (vi a3), some (vi z1.1), none, none] [] S z1.2 (none) S q) eb6w ?_
    intro z1 x4y eb6 hx5
    unfold m_X10_weigh_b3 at eb6
    refine r_iload dX10_weigh_3 rfl ?_
    refine r_aload_n dX10_weigh_5 rfl ?_
    refine r_getR dX10_weigh_6 fl_X10_40 rfl (lp_38 hS) (lq_38 hS) (lr_38_9 hS) ?_
    refine r_alen (v := 7) dX10_weigh_9 (lp_39 hS) (lk_39 hS) (by decide) (by decide) (by decide) ?_
    refine r_icmp_ge (tgt := 27) dX10_weigh_10 rfl (fun h7 => ?_) (fun h7 => ?_)
    · replace eb6 := ite_t h7 eb6
      cases eb6
      exact r_weak (L' := [some (vr (some 38)), some (vi a1), some (vi a2), some (vi a3), none, none, none]) ⟨rfl, rfl, rfl, rfl, trivial⟩ (J3 _ hx5)
    · replace eb6 := ite_f h7 eb6
      refine r_aload_n dX10_weigh_13 rfl ?_
      refine r_getR dX10_weigh_14 fl_X10_40 rfl (lp_38 hS) (lq_38 hS) (lr_38_9 hS) ?_
      refine r_iload dX10_weigh_17 rfl ?_
      refine r_iconst (v := 0) dX10_weigh_19 ci_0 ?_
      obtain ⟨hg8, eb6⟩ := grd_some eb6
      refine r_iast dX10_weigh_20 (lp_39 hS) (lk_39 hS) hg8 ?_
      refine r_iinc (v := _ + (1 : Int32)) dX10_weigh_21 rfl (congrArg (_ + ·) ci_1) (by decide) rfl ?_
      refine r_goto (tgt := 3) dX10_weigh_24 rfl ?_
      cases eb6
      exact r_weak (L' := [some (vr (some 38)), some (vi a1), some (vi a2), some (vi a3), some (vi (z1.1 + (1 : Int32))), none, none]) ⟨rfl, rfl, rfl, rfl, rfl, trivial⟩ hx5
  exact r_weak (L' := [some (vr (some 38)), some (vi a1), some (vi a2), some (vi a3), some (vi (0 : Int32)), none, none]) ⟨rfl, rfl, rfl, rfl, rfl, trivial⟩ J3w
noncomputable def m_X11_init (S : Sk) (a0 : Nat) (mm : Mm) : Option (Sk × Mm) := (m_X9_init (nwS S 9 0 7) S.1 (nwM S mm)).bind (fun q3 => gk q3.1 a0 11 ((m_X5_init (nwS (sRs (nwS (sRs q3.1 a0 0 (some S.1)) 25 3 3) a0 1 (some q3.1.1)) 5 0 12) (q3.1.1 + 1) (nwM (sRs (nwS (sRs q3.1 a0 0 (some S.1)) 25 3 3) a0 1 (some q3.1.1)) (nwM (sRs q3.1 a0 0 (some S.1)) q3.2))).bind (fun q11 => gk q11.1 a0 11 ((m_X3_init (nwS (sRs q11.1 a0 2 (some (q3.1.1 + 1))) 3 0 11) q11.1.1 (nwM (sRs q11.1 a0 2 (some (q3.1.1 + 1))) q11.2)).bind (fun q16 => gk q16.1 a0 11 ((m_X0_init (nwS (sRs q16.1 a0 3 (some q11.1.1)) 0 0 8) q16.1.1 (nwM (sRs q16.1 a0 3 (some q11.1.1)) q16.2)).bind (fun q21 => gk q21.1 a0 11 ((m_X1_init (nwS (sRs q21.1 a0 4 (some q16.1.1)) 1 0 4) q21.1.1 (nwM (sRs q21.1 a0 4 (some q16.1.1)) q21.2)).bind (fun q26 => gk q26.1 a0 11 ((m_X8_init (nwS (sRs q26.1 a0 5 (some q21.1.1)) 8 0 6) q26.1.1 (nwM (sRs q26.1 a0 5 (some q21.1.1)) q26.2)).bind (fun q31 => gk q31.1 a0 11 ((m_X10_init (nwS (sRs q31.1 a0 6 (some q26.1.1)) 10 0 10) q31.1.1 (nwM (sRs q31.1 a0 6 (some q26.1.1)) q31.2)).bind (fun q36 => gk q36.1 a0 11 ((m_X4_init (nwS (sRs q36.1 a0 7 (some q31.1.1)) 4 0 4) q36.1.1 (nwM (sRs q36.1 a0 7 (some q31.1.1)) q36.2)).bind (fun q41 => gk q41.1 a0 11 (some ((sRs q41.1 a0 8 (some q36.1.1)), q41.2)))))))))))))))))
set_option maxHeartbeats 4000000 in
set_option maxRecDepth 100000 in
theorem c_X11_init {l : Launch} {G : Gt} {S : Sk} {a0 : Nat} {mm : Mm} (ha0 : KD S a0 11) {q : Sk × Mm} (e : m_X11_init S a0 mm = some q) : CallOK l G M_X11_init yX11_init 3 [vr (some a0)] S mm (none) q.1 q.2 := by
  refine call_of_run rfl rfl rfl (Nat.le_of_ble_eq_true rfl) ?_
  show Run l G M_X11_init 3 0 [some (vr (some a0))] [] S mm (none) q.1 q.2
  unfold m_X11_init at e
  refine r_aload_n dX11_init_0 rfl ?_
  refine r_objInit (rest := []) dX11_init_1 oi_X11_1 oi_i oi_c (by decide) (Nat.le_of_ble_eq_true rfl) ?_
  refine r_aload_n dX11_init_4 rfl ?_
  refine r_new dX11_init_5 nw_X11_7 ?_
  have hn1 := kd_nw (k := 9) (len := 0) (z := 7) ha0
  have hn2 : KD (nwS S 9 0 7) S.1 9 := kd_new
  refine r_dup dX11_init_8 rfl ?_
  obtain ⟨q3, eq4, e⟩ := obind e
  refine r_callIN (as := []) (rest := [_, _]) dX11_init_9 nl_X11_9 yI_X9_init (c_X9_init hn2 eq4) (by decide) rfl (Nat.le_of_ble_eq_true rfl) ?_
  obtain ⟨hn5, e⟩ := gk_some e
  refine r_putR dX11_init_12 fl_X11_10 ft_11_0 (Or.inr ⟨rfl, fun q hq => by cases hq; rfl⟩) rfl hn5.1 hn5.2 ?_
  refine r_aload_n dX11_init_15 rfl ?_
  refine r_iconst (v := 3) dX11_init_16 ci_3 ?_
  refine r_anew (t := 25) dX11_init_17 rfl (by decide) (by decide) cl_X11_7 (by decide) (N := 3) (by decide) (by decide) ?_
  have hn6 := kd_nw (k := 25) (len := 3) (z := 3) hn5
  have hn7 : AK (nwS (sRs q3.1 a0 0 (some S.1)) 25 3 3) q3.1.1 25 3 := ak_new
  refine r_putR dX11_init_20 fl_X11_16 ft_11_1 (Or.inr ⟨rfl, fun q hq => by cases hq; rfl⟩) rfl hn6.1 hn6.2 ?_
  refine r_aload_n dX11_init_23 rfl ?_
  refine r_new dX11_init_24 nw_X11_20 ?_
  have hn8 := kd_nw (k := 5) (len := 0) (z := 12) hn6
  have hn9 := ak_nw (k := 5) (len := 0) (z := 12) hn7
  have hn10 : KD (nwS (sRs (nwS (sRs q3.1 a0 0 (some S.1)) 25 3 3) a0 1 (some q3.1.1)) 5 0 12) (q3.1.1 + 1) 5 := kd_new
  refine r_dup dX11_init_27 rfl ?_
  obtain ⟨q11, eq12, e⟩ := obind e
  refine r_callIN (as := []) (rest := [_, _]) dX11_init_28 nl_X11_22 yI_X5_init (c_X5_init hn10 eq12) (by decide) rfl (Nat.le_of_ble_eq_true rfl) ?_
  obtain ⟨hn13, e⟩ := gk_some e
  refine r_putR dX11_init_31 fl_X11_23 ft_11_2 (Or.inr ⟨rfl, fun q hq => by cases hq; rfl⟩) rfl hn13.1 hn13.2 ?_
  refine r_aload_n dX11_init_34 rfl ?_
  refine r_new dX11_init_35 nw_X11_27 ?_
  have hn14 := kd_nw (k := 3) (len := 0) (z := 11) hn13
  have hn15 : KD (nwS (sRs q11.1 a0 2 (some (q3.1.1 + 1))) 3 0 11) q11.1.1 3 := kd_new
  refine r_dup dX11_init_38 rfl ?_
  obtain ⟨q16, eq17, e⟩ := obind e
  refine r_callIN (as := []) (rest := [_, _]) dX11_init_39 nl_X11_29 yI_X3_init (c_X3_init hn15 eq17) (by decide) rfl (Nat.le_of_ble_eq_true rfl) ?_
  obtain ⟨hn18, e⟩ := gk_some e
  refine r_putR dX11_init_42 fl_X11_30 ft_11_3 (Or.inr ⟨rfl, fun q hq => by cases hq; rfl⟩) rfl hn18.1 hn18.2 ?_
  refine r_aload_n dX11_init_45 rfl ?_
  refine r_new dX11_init_46 nw_X11_34 ?_
  have hn19 := kd_nw (k := 0) (len := 0) (z := 8) hn18
  have hn20 : KD (nwS (sRs q16.1 a0 3 (some q11.1.1)) 0 0 8) q16.1.1 0 := kd_new
  refine r_dup dX11_init_49 rfl ?_
  obtain ⟨q21, eq22, e⟩ := obind e
  refine r_callIN (as := []) (rest := [_, _]) dX11_init_50 nl_X11_36 yI_X0_init (c_X0_init hn20 eq22) (by decide) rfl (Nat.le_of_ble_eq_true rfl) ?_
  obtain ⟨hn23, e⟩ := gk_some e
  refine r_putR dX11_init_53 fl_X11_37 ft_11_4 (Or.inr ⟨rfl, fun q hq => by cases hq; rfl⟩) rfl hn23.1 hn23.2 ?_
  refine r_aload_n dX11_init_56 rfl ?_
  refine r_new dX11_init_57 nw_X11_41 ?_
  have hn24 := kd_nw (k := 1) (len := 0) (z := 4) hn23
  have hn25 : KD (nwS (sRs q21.1 a0 4 (some q16.1.1)) 1 0 4) q21.1.1 1 := kd_new
  refine r_dup dX11_init_60 rfl ?_
  obtain ⟨q26, eq27, e⟩ := obind e
  refine r_callIN (as := []) (rest := [_, _]) dX11_init_61 nl_X11_43 yI_X1_init (c_X1_init hn25 eq27) (by decide) rfl (Nat.le_of_ble_eq_true rfl) ?_
  obtain ⟨hn28, e⟩ := gk_some e
  refine r_putR dX11_init_64 fl_X11_44 ft_11_5 (Or.inr ⟨rfl, fun q hq => by cases hq; rfl⟩) rfl hn28.1 hn28.2 ?_
  refine r_aload_n dX11_init_67 rfl ?_
  refine r_new dX11_init_68 nw_X11_48 ?_
  have hn29 := kd_nw (k := 8) (len := 0) (z := 6) hn28
  have hn30 : KD (nwS (sRs q26.1 a0 5 (some q21.1.1)) 8 0 6) q26.1.1 8 := kd_new
  refine r_dup dX11_init_71 rfl ?_
  obtain ⟨q31, eq32, e⟩ := obind e
  refine r_callIN (as := []) (rest := [_, _]) dX11_init_72 nl_X11_50 yI_X8_init (c_X8_init hn30 eq32) (by decide) rfl (Nat.le_of_ble_eq_true rfl) ?_
  obtain ⟨hn33, e⟩ := gk_some e
  refine r_putR dX11_init_75 fl_X11_51 ft_11_6 (Or.inr ⟨rfl, fun q hq => by cases hq; rfl⟩) rfl hn33.1 hn33.2 ?_
  refine r_aload_n dX11_init_78 rfl ?_
  refine r_new dX11_init_79 nw_X11_55 ?_
  have hn34 := kd_nw (k := 10) (len := 0) (z := 10) hn33
  have hn35 : KD (nwS (sRs q31.1 a0 6 (some q26.1.1)) 10 0 10) q31.1.1 10 := kd_new
  refine r_dup dX11_init_82 rfl ?_
  obtain ⟨q36, eq37, e⟩ := obind e
  refine r_callIN (as := []) (rest := [_, _]) dX11_init_83 nl_X11_57 yI_X10_init (c_X10_init hn35 eq37) (by decide) rfl (Nat.le_of_ble_eq_true rfl) ?_
  obtain ⟨hn38, e⟩ := gk_some e
  refine r_putR dX11_init_86 fl_X11_58 ft_11_7 (Or.inr ⟨rfl, fun q hq => by cases hq; rfl⟩) rfl hn38.1 hn38.2 ?_
  refine r_aload_n dX11_init_89 rfl ?_
  refine r_new dX11_init_90 nw_X11_62 ?_
  have hn39 := kd_nw (k := 4) (len := 0) (z := 4) hn38
  have hn40 : KD (nwS (sRs q36.1 a0 7 (some q31.1.1)) 4 0 4) q36.1.1 4 := kd_new
  refine r_dup dX11_init_93 rfl ?_
  obtain ⟨q41, eq42, e⟩ := obind e
  refine r_callIN (as := []) (rest := [_, _]) dX11_init_94 nl_X11_64 yI_X4_init (c_X4_init hn40 eq42) (by decide) rfl (Nat.le_of_ble_eq_true rfl) ?_
  obtain ⟨hn43, e⟩ := gk_some e
  refine r_putR dX11_init_97 fl_X11_65 ft_11_8 (Or.inr ⟨rfl, fun q hq => by cases hq; rfl⟩) rfl hn43.1 hn43.2 ?_
  cases e
  exact r_return dX11_init_100 rfl
noncomputable def m_X11_feed (a1 : Int32) (a2 : Int32) (a3 : Int32) (a4 : Int32) (a5 : Int32) (mm : Mm) : Option (Int32 × Mm) := if ((mI mm 1 1) + (20 : Int32)) ≤ (600 : Int32) then ((m_X9_append a1 mm).bind (fun q2 => (m_X9_append a2 q2).bind (fun q4 => (m_X9_append a3 q4).bind (fun q6 => (m_X9_append a4 q6).bind (fun q8 => (m_X9_append a5 q8).bind (fun q10 => some (mI q10 1 1, q10))))))) else (some ((-1 : Int32), mm))
set_option maxHeartbeats 4000000 in
set_option maxRecDepth 100000 in
theorem c_X11_feed {l : Launch} {G : Gt} {S : Sk} {a1 : Int32} {a2 : Int32} {a3 : Int32} {a4 : Int32} {a5 : Int32} {mm : Mm} (hS : Lay S) {q : Int32 × Mm} (e : m_X11_feed a1 a2 a3 a4 a5 mm = some q) : CallOK l G M_X11_feed yX11_feed 1 [vr (some 0), vi a1, vi a2, vi a3, vi a4, vi a5] S mm (some (vi q.1)) S q.2 := by
  refine call_of_run rfl rfl rfl (Nat.le_of_ble_eq_true rfl) ?_
  show Run l G M_X11_feed 1 0 [some (vr (some 0)), some (vi a1), some (vi a2), some (vi a3), some (vi a4), some (vi a5)] [] S mm (some (vi q.1)) S q.2
  unfold m_X11_feed at e
  refine r_aload_n dX11_feed_0 rfl ?_
  refine r_getR dX11_feed_1 fl_X11_10 rfl (lp_0 hS) (lq_0 hS) (lr_0_0 hS) ?_
  refine r_getI dX11_feed_4 fl_X11_69 rfl (lp_1 hS) (lq_1 hS) ?_
  refine r_bipush (v := 20) dX11_feed_7 cb_20 ?_
  refine r_iadd dX11_feed_9 ?_
  refine r_sipush (v := 600) dX11_feed_10 cs_600 ?_
  refine r_icmp_le (tgt := 18) dX11_feed_13 rfl (fun h1 => ?_) (fun h1 => ?_)
  · replace e := ite_t h1 e
    refine r_aload_n dX11_feed_18 rfl ?_
    refine r_getR dX11_feed_19 fl_X11_10 rfl (lp_0 hS) (lq_0 hS) (lr_0_0 hS) ?_
    refine r_iload_n dX11_feed_22 rfl ?_
    obtain ⟨q2, eq3, e⟩ := obind e
    refine r_callV (as := [_]) (rest := []) dX11_feed_23 ml_X11_73 yV_X9_append (c_X9_append hS eq3) (by decide) rfl (lp_1 hS) (lq_1 hS) (Nat.le_of_ble_eq_true rfl) ?_
    refine r_aload_n dX11_feed_26 rfl ?_
    refine r_getR dX11_feed_27 fl_X11_10 rfl (lp_0 hS) (lq_0 hS) (lr_0_0 hS) ?_
    refine r_iload_n dX11_feed_30 rfl ?_
    obtain ⟨q4, eq5, e⟩ := obind e
    refine r_callV (as := [_]) (rest := []) dX11_feed_31 ml_X11_73 yV_X9_append (c_X9_append hS eq5) (by decide) rfl (lp_1 hS) (lq_1 hS) (Nat.le_of_ble_eq_true rfl) ?_
    refine r_aload_n dX11_feed_34 rfl ?_
    refine r_getR dX11_feed_35 fl_X11_10 rfl (lp_0 hS) (lq_0 hS) (lr_0_0 hS) ?_
    refine r_iload_n dX11_feed_38 rfl ?_
    obtain ⟨q6, eq7, e⟩ := obind e
    refine r_callV (as := [_]) (rest := []) dX11_feed_39 ml_X11_73 yV_X9_append (c_X9_append hS eq7) (by decide) rfl (lp_1 hS) (lq_1 hS) (Nat.le_of_ble_eq_true rfl) ?_
    refine r_aload_n dX11_feed_42 rfl ?_
    refine r_getR dX11_feed_43 fl_X11_10 rfl (lp_0 hS) (lq_0 hS) (lr_0_0 hS) ?_
    refine r_iload dX11_feed_46 rfl ?_
    obtain ⟨q8, eq9, e⟩ := obind e
    refine r_callV (as := [_]) (rest := []) dX11_feed_48 ml_X11_73 yV_X9_append (c_X9_append hS eq9) (by decide) rfl (lp_1 hS) (lq_1 hS) (Nat.le_of_ble_eq_true rfl) ?_
    refine r_aload_n dX11_feed_51 rfl ?_
    refine r_getR dX11_feed_52 fl_X11_10 rfl (lp_0 hS) (lq_0 hS) (lr_0_0 hS) ?_
    refine r_iload dX11_feed_55 rfl ?_
    obtain ⟨q10, eq11, e⟩ := obind e
    refine r_callV (as := [_]) (rest := []) dX11_feed_57 ml_X11_73 yV_X9_append (c_X9_append hS eq11) (by decide) rfl (lp_1 hS) (lq_1 hS) (Nat.le_of_ble_eq_true rfl) ?_
    refine r_aload_n dX11_feed_60 rfl ?_
    refine r_getR dX11_feed_61 fl_X11_10 rfl (lp_0 hS) (lq_0 hS) (lr_0_0 hS) ?_
    refine r_getI dX11_feed_64 fl_X11_69 rfl (lp_1 hS) (lq_1 hS) ?_
    cases e
    exact r_ireturn dX11_feed_67 rfl rfl
  · replace e := ite_f h1 e
    refine r_iconst (v := -1) dX11_feed_16 ci_m1 ?_
    cases e
    exact r_ireturn dX11_feed_17 rfl rfl
noncomputable def m_X11_end (a1 : Int32) (mm : Mm) : Int32 × Mm := if a1 < 0 then (((-1 : Int32), mm)) else (if a1 ≤ (mI mm 1 1) then ((a1, (sI mm 1 1 a1))) else (((-1 : Int32), mm)))
set_option maxHeartbeats 4000000 in
set_option maxRecDepth 100000 in
theorem c_X11_end {l : Launch} {G : Gt} {S : Sk} {a1 : Int32} {mm : Mm} (hS : Lay S) : CallOK l G M_X11_end yX11_end 0 [vr (some 0), vi a1] S mm (some (vi (m_X11_end a1 mm).1)) S (m_X11_end a1 mm).2 := by
  refine call_of_run rfl rfl rfl (Nat.le_of_ble_eq_true rfl) ?_
  show Run l G M_X11_end 0 0 [some (vr (some 0)), some (vi a1)] [] S mm (some (vi (m_X11_end a1 mm).1)) S (m_X11_end a1 mm).2
  generalize e : m_X11_end a1 mm = q
  unfold m_X11_end at e
  refine r_iload_n dX11_end_0 rfl ?_
  refine r_if_lt (tgt := 15) dX11_end_1 rfl (fun h1 => ?_) (fun h1 => ?_)
  · replace e := ite_t h1 e
    refine r_iconst (v := -1) dX11_end_15 ci_m1 ?_
    cases e
    exact r_ireturn dX11_end_16 rfl rfl
  · replace e := ite_f h1 e
    refine r_iload_n dX11_end_4 rfl ?_
    refine r_aload_n dX11_end_5 rfl ?_
    refine r_getR dX11_end_6 fl_X11_10 rfl (lp_0 hS) (lq_0 hS) (lr_0_0 hS) ?_
    refine r_getI dX11_end_9 fl_X11_69 rfl (lp_1 hS) (lq_1 hS) ?_
    refine r_icmp_le (tgt := 17) dX11_end_12 rfl (fun h2 => ?_) (fun h2 => ?_)
    · replace e := ite_t h2 e
      refine r_aload_n dX11_end_17 rfl ?_
      refine r_getR dX11_end_18 fl_X11_10 rfl (lp_0 hS) (lq_0 hS) (lr_0_0 hS) ?_
      refine r_iload_n dX11_end_21 rfl ?_
      refine r_putI dX11_end_22 fl_X11_69 ft_9_1 (Or.inl rfl) rfl rfl rfl (lp_1 hS) (lq_1 hS) ?_
      refine r_iload_n dX11_end_25 rfl ?_
      cases e
      exact r_ireturn dX11_end_26 rfl rfl
    · replace e := ite_f h2 e
      refine r_iconst (v := -1) dX11_end_15 ci_m1 ?_
      cases e
      exact r_ireturn dX11_end_16 rfl rfl
noncomputable def m_X11_text (S : Sk) (a1 : Int32) (a2 : Int32) (mm : Mm) : Option (Int32 × Sk × Mm) := (m_X9_placeFor a1 a2 mm).bind (fun q1 => if 0 ≤ q1 then ((m_X5_read S (mI mm 1 1) a1 (sI (sI (sI mm 1 1 (0 : Int32)) 1 2 (0 : Int32)) 1 3 (-1 : Int32))).bind (fun q4 => gP (Lay q4.1) (if (mI (sI (sI q4.2 1 2 (mI q4.2 7 1)) 1 3 (mI (sI q4.2 1 2 (mI q4.2 7 1)) 7 2)) 7 1) = 0 then ((m_X9_store q4.1 a1 q1 (sI (sI q4.2 1 2 (mI q4.2 7 1)) 1 3 (mI (sI q4.2 1 2 (mI q4.2 7 1)) 7 2))).bind (fun q8 => some (q1, q8.1, q8.2))) else (some ((-1 : Int32), q4.1, (sI (sI q4.2 1 2 (mI q4.2 7 1)) 1 3 (mI (sI q4.2 1 2 (mI q4.2 7 1)) 7 2))))))) else (some ((-2 : Int32), S, (sI (sI (sI mm 1 1 (0 : Int32)) 1 2 (0 : Int32)) 1 3 (-1 : Int32)))))
set_option maxHeartbeats 4000000 in
set_option maxRecDepth 100000 in
theorem c_X11_text {l : Launch} {G : Gt} {S : Sk} {a1 : Int32} {a2 : Int32} {mm : Mm} (hS : Lay S) {q : Int32 × Sk × Mm} (e : m_X11_text S a1 a2 mm = some q) : CallOK l G M_X11_text yX11_text 8 [vr (some 0), vi a1, vi a2] S mm (some (vi q.1)) q.2.1 q.2.2 := by
  refine call_of_run rfl rfl rfl (Nat.le_of_ble_eq_true rfl) ?_
  show Run l G M_X11_text 8 0 [some (vr (some 0)), some (vi a1), some (vi a2), none, none] [] S mm (some (vi q.1)) q.2.1 q.2.2
  unfold m_X11_text at e
  refine r_aload_n dX11_text_0 rfl ?_
  refine r_getR dX11_text_1 fl_X11_10 rfl (lp_0 hS) (lq_0 hS) (lr_0_0 hS) ?_
  refine r_getI dX11_text_4 fl_X11_69 rfl (lp_1 hS) (lq_1 hS) ?_
  refine r_istore_n dX11_text_7 (by decide) rfl ?_
  refine r_aload_n dX11_text_8 rfl ?_
  refine r_getR dX11_text_9 fl_X11_10 rfl (lp_0 hS) (lq_0 hS) (lr_0_0 hS) ?_
  refine r_iload_n dX11_text_12 rfl ?_
  refine r_iload_n dX11_text_13 rfl ?_
  obtain ⟨q1, eq2, e⟩ := obind e
  refine r_callV (as := [_, _]) (rest := []) dX11_text_14 ml_X11_77 yV_X9_placeFor (c_X9_placeFor hS eq2) (by decide) rfl (lp_1 hS) (lq_1 hS) (Nat.le_of_ble_eq_true rfl) ?_
  refine r_istore dX11_text_17 (by decide) rfl ?_
  refine r_aload_n dX11_text_19 rfl ?_
  refine r_getR dX11_text_20 fl_X11_10 rfl (lp_0 hS) (lq_0 hS) (lr_0_0 hS) ?_
  refine r_iconst (v := 0) dX11_text_23 ci_0 ?_
  refine r_putI dX11_text_24 fl_X11_69 ft_9_1 (Or.inl rfl) rfl rfl rfl (lp_1 hS) (lq_1 hS) ?_
  refine r_aload_n dX11_text_27 rfl ?_
  refine r_getR dX11_text_28 fl_X11_10 rfl (lp_0 hS) (lq_0 hS) (lr_0_0 hS) ?_
  refine r_iconst (v := 0) dX11_text_31 ci_0 ?_
  refine r_putI dX11_text_32 fl_X11_81 ft_9_2 (Or.inl rfl) rfl rfl rfl (lp_1 hS) (lq_1 hS) ?_
  refine r_aload_n dX11_text_35 rfl ?_
  refine r_getR dX11_text_36 fl_X11_10 rfl (lp_0 hS) (lq_0 hS) (lr_0_0 hS) ?_
  refine r_iconst (v := -1) dX11_text_39 ci_m1 ?_
  refine r_putI dX11_text_40 fl_X11_84 ft_9_3 (Or.inl rfl) rfl rfl rfl (lp_1 hS) (lq_1 hS) ?_
  refine r_iload dX11_text_43 rfl ?_
  refine r_if_ge (tgt := 51) dX11_text_45 rfl (fun h3 => ?_) (fun h3 => ?_)
  · replace e := ite_t h3 e
    refine r_aload_n dX11_text_51 rfl ?_
    refine r_getR dX11_text_52 fl_X11_23 rfl (lp_0 hS) (lq_0 hS) (lr_0_2 hS) ?_
    refine r_aload_n dX11_text_55 rfl ?_
    refine r_getR dX11_text_56 fl_X11_10 rfl (lp_0 hS) (lq_0 hS) (lr_0_0 hS) ?_
    refine r_getR dX11_text_59 fl_X11_87 rfl (lp_1 hS) (lq_1 hS) (lr_1_0 hS) ?_
    refine r_iload_n dX11_text_62 rfl ?_
    refine r_iload_n dX11_text_63 rfl ?_
    obtain ⟨q4, eq5, e⟩ := obind e
    refine r_callV (as := [_, _, _]) (rest := []) dX11_text_64 ml_X11_91 yV_X5_read (c_X5_read hS eq5) (by decide) rfl (lp_7 hS) (lq_7 hS) (Nat.le_of_ble_eq_true rfl) ?_
    refine r_aload_n dX11_text_67 rfl ?_
    obtain ⟨hn6, e⟩ := gP_some e
    refine r_getR dX11_text_68 fl_X11_10 rfl (lp_0 hn6) (lq_0 hn6) (lr_0_0 hn6) ?_
    refine r_aload_n dX11_text_71 rfl ?_
    refine r_getR dX11_text_72 fl_X11_23 rfl (lp_0 hn6) (lq_0 hn6) (lr_0_2 hn6) ?_
    refine r_getI dX11_text_75 fl_X11_95 rfl (lp_7 hn6) (lq_7 hn6) ?_
    refine r_putI dX11_text_78 fl_X11_81 ft_9_2 (Or.inl rfl) rfl rfl rfl (lp_1 hn6) (lq_1 hn6) ?_
    refine r_aload_n dX11_text_81 rfl ?_
    refine r_getR dX11_text_82 fl_X11_10 rfl (lp_0 hn6) (lq_0 hn6) (lr_0_0 hn6) ?_
    refine r_aload_n dX11_text_85 rfl ?_
    refine r_getR dX11_text_86 fl_X11_23 rfl (lp_0 hn6) (lq_0 hn6) (lr_0_2 hn6) ?_
    refine r_getI dX11_text_89 fl_X11_96 rfl (lp_7 hn6) (lq_7 hn6) ?_
    refine r_putI dX11_text_92 fl_X11_84 ft_9_3 (Or.inl rfl) rfl rfl rfl (lp_1 hn6) (lq_1 hn6) ?_
    refine r_aload_n dX11_text_95 rfl ?_
    refine r_getR dX11_text_96 fl_X11_23 rfl (lp_0 hn6) (lq_0 hn6) (lr_0_2 hn6) ?_
    refine r_getI dX11_text_99 fl_X11_95 rfl (lp_7 hn6) (lq_7 hn6) ?_
    refine r_if_eq (tgt := 107) dX11_text_102 rfl (fun h7 => ?_) (fun h7 => ?_)
    · replace e := ite_t h7 e
      refine r_aload_n dX11_text_107 rfl ?_
      refine r_getR dX11_text_108 fl_X11_10 rfl (lp_0 hn6) (lq_0 hn6) (lr_0_0 hn6) ?_
      refine r_iload_n dX11_text_111 rfl ?_
      refine r_iload dX11_text_112 rfl ?_
      refine r_aload_n dX11_text_114 rfl ?_
      refine r_getR dX11_text_115 fl_X11_23 rfl (lp_0 hn6) (lq_0 hn6) (lr_0_2 hn6) ?_
      refine r_getR dX11_text_118 fl_X11_97 rfl (lp_7 hn6) (lq_7 hn6) (lr_7_0 hn6) ?_
      obtain ⟨q8, eq9, e⟩ := obind e
      refine r_callV (as := [_, _, _]) (rest := []) dX11_text_121 ml_X11_101 yV_X9_store (c_X9_store hn6 eq9) (by decide) rfl (lp_1 hn6) (lq_1 hn6) (Nat.le_of_ble_eq_true rfl) ?_
      refine r_iload dX11_text_124 rfl ?_
      cases e
      exact r_ireturn dX11_text_126 rfl rfl
    · replace e := ite_f h7 e
      refine r_iconst (v := -1) dX11_text_105 ci_m1 ?_
      cases e
      exact r_ireturn dX11_text_106 rfl rfl
  · replace e := ite_f h3 e
    refine r_bipush (v := -2) dX11_text_48 cb_m2 ?_
    cases e
    exact r_ireturn dX11_text_50 rfl rfl
noncomputable def m_X11_fault (a1 : Int32) (mm : Mm) : Int32 := if a1 = 0 then (mI mm 1 2) else (if a1 = (1 : Int32) then (mI mm 1 3) else ((-1 : Int32)))
set_option maxHeartbeats 4000000 in
set_option maxRecDepth 100000 in
theorem c_X11_fault {l : Launch} {G : Gt} {S : Sk} {a1 : Int32} {mm : Mm} (hS : Lay S) : CallOK l G M_X11_fault yX11_fault 0 [vr (some 0), vi a1] S mm (some (vi (m_X11_fault a1 mm))) S mm := by
  refine call_of_run rfl rfl rfl (Nat.le_of_ble_eq_true rfl) ?_
  show Run l G M_X11_fault 0 0 [some (vr (some 0)), some (vi a1)] [] S mm (some (vi (m_X11_fault a1 mm))) S mm
  generalize e : m_X11_fault a1 mm = q
  unfold m_X11_fault at e
  refine r_iload_n dX11_fault_0 rfl ?_
  refine r_if_ne (tgt := 12) dX11_fault_1 rfl (fun h1 => ?_) (fun h1 => ?_)
  · replace e := ite_f h1 e
    refine r_iload_n dX11_fault_12 rfl ?_
    refine r_iconst (v := 1) dX11_fault_13 ci_1 ?_
    refine r_icmp_ne (tgt := 27) dX11_fault_14 rfl (fun h2 => ?_) (fun h2 => ?_)
    · replace e := ite_f h2 e
      refine r_iconst (v := -1) dX11_fault_27 ci_m1 ?_
      cases e
      exact r_ireturn dX11_fault_28 rfl rfl
    · replace e := ite_t h2 e
      refine r_aload_n dX11_fault_17 rfl ?_
      refine r_getR dX11_fault_18 fl_X11_10 rfl (lp_0 hS) (lq_0 hS) (lr_0_0 hS) ?_
      refine r_getI dX11_fault_21 fl_X11_84 rfl (lp_1 hS) (lq_1 hS) ?_
      refine r_goto (tgt := 28) dX11_fault_24 rfl ?_
      cases e
      exact r_ireturn dX11_fault_28 rfl rfl
  · replace e := ite_t h1 e
    refine r_aload_n dX11_fault_4 rfl ?_
    refine r_getR dX11_fault_5 fl_X11_10 rfl (lp_0 hS) (lq_0 hS) (lr_0_0 hS) ?_
    refine r_getI dX11_fault_8 fl_X11_81 rfl (lp_1 hS) (lq_1 hS) ?_
    cases e
    exact r_ireturn dX11_fault_11 rfl rfl
noncomputable def m_X11_county (S : Sk) (a1 : Int32) (a2 : Int32) (mm : Mm) : Option (Int32) := (m_X9_countyAt S a1 mm).bind (fun q1 => oM q1 (some (-1 : Int32)) (fun c4 => gk S c4 2 ((m_X2_tell c4 a2 mm).bind (fun q6 => some q6))))
set_option maxHeartbeats 4000000 in
set_option maxRecDepth 100000 in
theorem c_X11_county {l : Launch} {G : Gt} {S : Sk} {a1 : Int32} {a2 : Int32} {mm : Mm} (hI : SI S) {q : Int32} (e : m_X11_county S a1 a2 mm = some q) : CallOK l G M_X11_county yX11_county 2 [vr (some 0), vi a1, vi a2] S mm (some (vi q)) S mm := by
  have hS := hI.1
  refine call_of_run rfl rfl rfl (Nat.le_of_ble_eq_true rfl) ?_
  show Run l G M_X11_county 2 0 [some (vr (some 0)), some (vi a1), some (vi a2), none] [] S mm (some (vi q)) S mm
  unfold m_X11_county at e
  refine r_aload_n dX11_county_0 rfl ?_
  refine r_getR dX11_county_1 fl_X11_10 rfl (lp_0 hS) (lq_0 hS) (lr_0_0 hS) ?_
  refine r_iload_n dX11_county_4 rfl ?_
  obtain ⟨q1, eq2, e⟩ := obind e
  refine r_callV (as := [_]) (rest := []) dX11_county_5 ml_X11_105 yV_X9_countyAt (c_X9_countyAt hS eq2) (by decide) rfl (lp_1 hS) (lq_1 hS) (Nat.le_of_ble_eq_true rfl) ?_
  refine r_astore_n dX11_county_8 (by decide) rfl ?_
  refine r_aload_n dX11_county_9 rfl ?_
  refine r_ifnonnull (tgt := 17) dX11_county_10 rfl (fun c4 h3 => ?_) (fun h3 => ?_)
  · replace e := oM_some h3 e
    rw [h3]
    refine r_aload_n dX11_county_17 rfl ?_
    refine r_iload_n dX11_county_18 rfl ?_
    obtain ⟨hn5, e⟩ := gk_some e
    obtain ⟨q6, eq7, e⟩ := obind e
    refine r_callV (as := [_]) (rest := []) dX11_county_19 ml_X11_109 yV_X2_tell (c_X2_tell hI hn5 eq7) (by decide) rfl hn5.1 hn5.2 (Nat.le_of_ble_eq_true rfl) ?_
    cases e
    exact r_ireturn dX11_county_22 rfl rfl
  · replace e := oM_none h3 e
    rw [h3]
    refine r_iconst (v := -1) dX11_county_13 ci_m1 ?_
    refine r_goto (tgt := 22) dX11_county_14 rfl ?_
    cases e
    exact r_ireturn dX11_county_22 rfl rfl
noncomputable def m_X11_cellOrSize (S : Sk) (a0 : Option Nat) (a1 : Int32) (a2 : Int32) (a3 : Int32) (a4 : Int32) (mm : Mm) : Option (Int32) := oM a0 (some (-2 : Int32)) (fun c2 => if a2 < 0 then (some (-2 : Int32)) else (if a2 < a4 then (if a1 = (-1 : Int32) then (if a2 = 0 then (gk S c2 6 (some (mI mm c2 1))) else (some (-2 : Int32))) else (bS (if a1 < 0 then (some (.inl ())) else (gk S c2 6 (if a1 < (mI mm c2 1) then ((m_X6_cell S c2 a1 a3 mm).bind (fun q13 => some (.inr q13))) else (some (.inl ())))) : Option ((Unit) ⊕ (Int32))) (fun p6 => some (-2 : Int32)))) else (some (-2 : Int32))))
set_option maxHeartbeats 4000000 in
set_option maxRecDepth 100000 in
theorem c_X11_cellOrSize {l : Launch} {G : Gt} {S : Sk} {a0 : Option Nat} {a1 : Int32} {a2 : Int32} {a3 : Int32} {a4 : Int32} {mm : Mm} (hI : SI S) {q : Int32} (e : m_X11_cellOrSize S a0 a1 a2 a3 a4 mm = some q) : CallOK l G M_X11_cellOrSize yX11_cellOrSize 1 [vr a0, vi a1, vi a2, vi a3, vi a4] S mm (some (vi q)) S mm := by
  have hS := hI.1
  refine call_of_run rfl rfl rfl (Nat.le_of_ble_eq_true rfl) ?_
  show Run l G M_X11_cellOrSize 1 0 [some (vr a0), some (vi a1), some (vi a2), some (vi a3), some (vi a4)] [] S mm (some (vi q)) S mm
  unfold m_X11_cellOrSize at e
  refine r_aload_n dX11_cellOrSize_0 rfl ?_
  refine r_ifnull (tgt := 14) dX11_cellOrSize_1 rfl (fun h1 => ?_) (fun c2 h1 => ?_)
  · replace e := oM_none h1 e
    rw [h1]
    refine r_bipush (v := -2) dX11_cellOrSize_14 cb_m2 ?_
    cases e
    exact r_ireturn dX11_cellOrSize_16 rfl rfl
  · replace e := oM_some h1 e
    rw [h1]
    refine r_iload_n dX11_cellOrSize_4 rfl ?_
    refine r_if_lt (tgt := 14) dX11_cellOrSize_5 rfl (fun h3 => ?_) (fun h3 => ?_)
    · replace e := ite_t h3 e
      refine r_bipush (v := -2) dX11_cellOrSize_14 cb_m2 ?_
      cases e
      exact r_ireturn dX11_cellOrSize_16 rfl rfl
    · replace e := ite_f h3 e
      refine r_iload_n dX11_cellOrSize_8 rfl ?_
      refine r_iload dX11_cellOrSize_9 rfl ?_
      refine r_icmp_lt (tgt := 17) dX11_cellOrSize_11 rfl (fun h4 => ?_) (fun h4 => ?_)
      · replace e := ite_t h4 e
        refine r_iload_n dX11_cellOrSize_17 rfl ?_
        refine r_iconst (v := -1) dX11_cellOrSize_18 ci_m1 ?_
        refine r_icmp_ne (tgt := 36) dX11_cellOrSize_19 rfl (fun h5 => ?_) (fun h5 => ?_)
        · replace e := ite_f h5 e
          refine r_iload_n dX11_cellOrSize_36 rfl ?_
          obtain ⟨x9, ep8, elx9, erx9⟩ := bS_some e
          have J7 : ∀ p6 : Unit, x9 = .inl p6 → Run l G M_X11_cellOrSize 1 48 [none, none, none, none, none] [] S mm (some (vi q)) S mm := by
            intro p6 hp6
            replace e := elx9 p6 hp6
            refine r_bipush (v := -2) dX11_cellOrSize_48 cb_m2 ?_
            refine r_goto (tgt := 59) dX11_cellOrSize_50 rfl ?_
            cases e
            exact r_ireturn dX11_cellOrSize_59 rfl rfl
          refine r_if_lt (tgt := 48) dX11_cellOrSize_37 rfl (fun h10 => ?_) (fun h10 => ?_)
          · replace ep8 := ite_t h10 ep8
            cases ep8
            exact r_weak (L' := [none, none, none, none, none]) trivial (J7 _ rfl)
          · replace ep8 := ite_f h10 ep8
            refine r_iload_n dX11_cellOrSize_40 rfl ?_
            refine r_aload_n dX11_cellOrSize_41 rfl ?_
            obtain ⟨hn11, ep8⟩ := gk_some ep8
            refine r_getI dX11_cellOrSize_42 fl_X11_123 rfl hn11.1 hn11.2 ?_
            refine r_icmp_lt (tgt := 53) dX11_cellOrSize_45 rfl (fun h12 => ?_) (fun h12 => ?_)
            · replace ep8 := ite_t h12 ep8
              refine r_aload_n dX11_cellOrSize_53 rfl ?_
              refine r_iload_n dX11_cellOrSize_54 rfl ?_
              refine r_iload_n dX11_cellOrSize_55 rfl ?_
              obtain ⟨q13, eq14, ep8⟩ := obind ep8
              refine r_callV (as := [_, _]) (rest := []) dX11_cellOrSize_56 ml_X11_263 yV_X6_cell (c_X6_cell hI hn11 eq14) (by decide) rfl hn11.1 hn11.2 (Nat.le_of_ble_eq_true rfl) ?_
              cases ep8
              have e := congrArg some (erx9 _ rfl)
              cases e
              exact r_ireturn dX11_cellOrSize_59 rfl rfl
            · replace ep8 := ite_f h12 ep8
              cases ep8
              exact r_weak (L' := [none, none, none, none, none]) trivial (J7 _ rfl)
        · replace e := ite_t h5 e
          refine r_iload_n dX11_cellOrSize_22 rfl ?_
          refine r_if_ne (tgt := 33) dX11_cellOrSize_23 rfl (fun h15 => ?_) (fun h15 => ?_)
          · replace e := ite_f h15 e
            refine r_bipush (v := -2) dX11_cellOrSize_33 cb_m2 ?_
            cases e
            exact r_ireturn dX11_cellOrSize_35 rfl rfl
          · replace e := ite_t h15 e
            refine r_aload_n dX11_cellOrSize_26 rfl ?_
            obtain ⟨hn16, e⟩ := gk_some e
            refine r_getI dX11_cellOrSize_27 fl_X11_123 rfl hn16.1 hn16.2 ?_
            refine r_goto (tgt := 35) dX11_cellOrSize_30 rfl ?_
            cases e
            exact r_ireturn dX11_cellOrSize_35 rfl rfl
      · replace e := ite_f h4 e
        refine r_bipush (v := -2) dX11_cellOrSize_14 cb_m2 ?_
        cases e
        exact r_ireturn dX11_cellOrSize_16 rfl rfl
noncomputable def m_X11_deed (S : Sk) (a1 : Int32) (a2 : Int32) (a3 : Int32) (mm : Mm) : Option (Int32) := (m_X9_rowsAt S (1 : Int32) a1 mm).bind (fun q1 => (m_X11_cellOrSize S q1 a2 a3 a3 (4 : Int32) mm).bind (fun q3 => some q3))
set_option maxHeartbeats 4000000 in
set_option maxRecDepth 100000 in
theorem c_X11_deed {l : Launch} {G : Gt} {S : Sk} {a1 : Int32} {a2 : Int32} {a3 : Int32} {mm : Mm} (hI : SI S) {q : Int32} (e : m_X11_deed S a1 a2 a3 mm = some q) : CallOK l G M_X11_deed yX11_deed 2 [vr (some 0), vi a1, vi a2, vi a3] S mm (some (vi q)) S mm := by
  have hS := hI.1
  refine call_of_run rfl rfl rfl (Nat.le_of_ble_eq_true rfl) ?_
  show Run l G M_X11_deed 2 0 [some (vr (some 0)), some (vi a1), some (vi a2), some (vi a3)] [] S mm (some (vi q)) S mm
  unfold m_X11_deed at e
  refine r_aload_n dX11_deed_0 rfl ?_
  refine r_getR dX11_deed_1 fl_X11_10 rfl (lp_0 hS) (lq_0 hS) (lr_0_0 hS) ?_
  refine r_iconst (v := 1) dX11_deed_4 ci_1 ?_
  refine r_iload_n dX11_deed_5 rfl ?_
  obtain ⟨q1, eq2, e⟩ := obind e
  refine r_callV (as := [_, _]) (rest := []) dX11_deed_6 ml_X11_115 yV_X9_rowsAt (c_X9_rowsAt hS eq2) (by decide) rfl (lp_1 hS) (lq_1 hS) (Nat.le_of_ble_eq_true rfl) ?_
  refine r_iload_n dX11_deed_9 rfl ?_
  refine r_iload_n dX11_deed_10 rfl ?_
  refine r_iload_n dX11_deed_11 rfl ?_
  refine r_iconst (v := 4) dX11_deed_12 ci_4 ?_
  obtain ⟨q3, eq4, e⟩ := obind e
  refine r_callS (as := [_, _, _, _, _]) (rest := []) dX11_deed_13 ml_X11_119 yS_X11_cellOrSize (c_X11_cellOrSize hI eq4) (by decide) rfl (Nat.le_of_ble_eq_true rfl) ?_
  cases e
  exact r_ireturn dX11_deed_16 rfl rfl
noncomputable def m_X11_stop (S : Sk) (a1 : Int32) (a2 : Int32) (mm : Mm) : Option (Int32 × Sk × Mm) := (m_X9_countyAt S a1 mm).bind (fun q1 => (m_X9_rowsAt S (1 : Int32) a2 mm).bind (fun q3 => oM q1 (some ((-1 : Int32), S, mm)) (fun c6 => oM q3 (some ((-1 : Int32), S, mm)) (fun c8 => gk S c8 6 (gk S c6 2 ((m_X3_run S c6 c8 (mI mm c8 1) mm).bind (fun q11 => some (q11.1, q11.2.1, q11.2.2))))))))
set_option maxHeartbeats 4000000 in
set_option maxRecDepth 100000 in
theorem c_X11_stop {l : Launch} {G : Gt} {S : Sk} {a1 : Int32} {a2 : Int32} {mm : Mm} (hI : SI S) {q : Int32 × Sk × Mm} (e : m_X11_stop S a1 a2 mm = some q) : CallOK l G M_X11_stop yX11_stop 6 [vr (some 0), vi a1, vi a2] S mm (some (vi q.1)) q.2.1 q.2.2 := by
  have hS := hI.1
  refine call_of_run rfl rfl rfl (Nat.le_of_ble_eq_true rfl) ?_
  show Run l G M_X11_stop 6 0 [some (vr (some 0)), some (vi a1), some (vi a2), none, none] [] S mm (some (vi q.1)) q.2.1 q.2.2
  unfold m_X11_stop at e
  refine r_aload_n dX11_stop_0 rfl ?_
  refine r_getR dX11_stop_1 fl_X11_10 rfl (lp_0 hS) (lq_0 hS) (lr_0_0 hS) ?_
  refine r_iload_n dX11_stop_4 rfl ?_
  obtain ⟨q1, eq2, e⟩ := obind e
  refine r_callV (as := [_]) (rest := []) dX11_stop_5 ml_X11_105 yV_X9_countyAt (c_X9_countyAt hS eq2) (by decide) rfl (lp_1 hS) (lq_1 hS) (Nat.le_of_ble_eq_true rfl) ?_
  refine r_astore_n dX11_stop_8 (by decide) rfl ?_
  refine r_aload_n dX11_stop_9 rfl ?_
  refine r_getR dX11_stop_10 fl_X11_10 rfl (lp_0 hS) (lq_0 hS) (lr_0_0 hS) ?_
  refine r_iconst (v := 1) dX11_stop_13 ci_1 ?_
  refine r_iload_n dX11_stop_14 rfl ?_
  obtain ⟨q3, eq4, e⟩ := obind e
  refine r_callV (as := [_, _]) (rest := []) dX11_stop_15 ml_X11_115 yV_X9_rowsAt (c_X9_rowsAt hS eq4) (by decide) rfl (lp_1 hS) (lq_1 hS) (Nat.le_of_ble_eq_true rfl) ?_
  refine r_astore dX11_stop_18 (by decide) rfl ?_
  refine r_aload_n dX11_stop_20 rfl ?_
  refine r_ifnull (tgt := 29) dX11_stop_21 rfl (fun h5 => ?_) (fun c6 h5 => ?_)
  · replace e := oM_none h5 e
    rw [h5]
    refine r_iconst (v := -1) dX11_stop_29 ci_m1 ?_
    cases e
    exact r_ireturn dX11_stop_30 rfl rfl
  · replace e := oM_some h5 e
    rw [h5]
    refine r_aload dX11_stop_24 rfl ?_
    refine r_ifnonnull (tgt := 31) dX11_stop_26 rfl (fun c8 h7 => ?_) (fun h7 => ?_)
    · replace e := oM_some h7 e
      rw [h7]
      refine r_aload_n dX11_stop_31 rfl ?_
      refine r_getR dX11_stop_32 fl_X11_30 rfl (lp_0 hS) (lq_0 hS) (lr_0_3 hS) ?_
      refine r_aload_n dX11_stop_35 rfl ?_
      refine r_aload dX11_stop_36 rfl ?_
      refine r_aload dX11_stop_38 rfl ?_
      obtain ⟨hn9, e⟩ := gk_some e
      refine r_getI dX11_stop_40 fl_X11_123 rfl hn9.1 hn9.2 ?_
      obtain ⟨hn10, e⟩ := gk_some e
      obtain ⟨q11, eq12, e⟩ := obind e
      refine r_callV (as := [_, _, _]) (rest := []) dX11_stop_43 ml_X11_128 yV_X3_run (c_X3_run hI hn10 hn9 eq12) (by decide) rfl (lp_13 hS) (lq_13 hS) (Nat.le_of_ble_eq_true rfl) ?_
      cases e
      exact r_ireturn dX11_stop_46 rfl rfl
    · replace e := oM_none h7 e
      rw [h7]
      refine r_iconst (v := -1) dX11_stop_29 ci_m1 ?_
      cases e
      exact r_ireturn dX11_stop_30 rfl rfl
noncomputable def m_X11_state (S : Sk) (a1 : Int32) (a2 : Int32) (a3 : Int32) (a4 : Int32) (mm : Mm) : Option (Int32 × Sk × Mm) := (m_X9_countyAt S a1 mm).bind (fun q1 => (m_X9_rowsAt S (1 : Int32) a2 mm).bind (fun q3 => oM q1 (some ((-1 : Int32), S, mm)) (fun c6 => oM q3 (some ((-1 : Int32), S, mm)) (fun c8 => if a3 < 0 then (some ((-1 : Int32), S, mm)) else (gk S c8 6 (if a3 ≤ (mI mm c8 1) then (gk S c6 2 ((m_X3_run S c6 c8 a3 mm).bind (fun q13 => if q13.1 = a3 then (gP (Lay q13.2.1) ((m_X3_tell a4 q13.2.2).bind (fun q17 => some (q17, q13.2.1, q13.2.2)))) else (some ((-1 : Int32), q13.2.1, q13.2.2))))) else (some ((-1 : Int32), S, mm))))))))
set_option maxHeartbeats 4000000 in
set_option maxRecDepth 100000 in
theorem c_X11_state {l : Launch} {G : Gt} {S : Sk} {a1 : Int32} {a2 : Int32} {a3 : Int32} {a4 : Int32} {mm : Mm} (hI : SI S) {q : Int32 × Sk × Mm} (e : m_X11_state S a1 a2 a3 a4 mm = some q) : CallOK l G M_X11_state yX11_state 6 [vr (some 0), vi a1, vi a2, vi a3, vi a4] S mm (some (vi q.1)) q.2.1 q.2.2 := by
  have hS := hI.1
  refine call_of_run rfl rfl rfl (Nat.le_of_ble_eq_true rfl) ?_
  show Run l G M_X11_state 6 0 [some (vr (some 0)), some (vi a1), some (vi a2), some (vi a3), some (vi a4), none, none] [] S mm (some (vi q.1)) q.2.1 q.2.2
  unfold m_X11_state at e
  refine r_aload_n dX11_state_0 rfl ?_
  refine r_getR dX11_state_1 fl_X11_10 rfl (lp_0 hS) (lq_0 hS) (lr_0_0 hS) ?_
  refine r_iload_n dX11_state_4 rfl ?_
  obtain ⟨q1, eq2, e⟩ := obind e
  refine r_callV (as := [_]) (rest := []) dX11_state_5 ml_X11_105 yV_X9_countyAt (c_X9_countyAt hS eq2) (by decide) rfl (lp_1 hS) (lq_1 hS) (Nat.le_of_ble_eq_true rfl) ?_
  refine r_astore dX11_state_8 (by decide) rfl ?_
  refine r_aload_n dX11_state_10 rfl ?_
  refine r_getR dX11_state_11 fl_X11_10 rfl (lp_0 hS) (lq_0 hS) (lr_0_0 hS) ?_
  refine r_iconst (v := 1) dX11_state_14 ci_1 ?_
  refine r_iload_n dX11_state_15 rfl ?_
  obtain ⟨q3, eq4, e⟩ := obind e
  refine r_callV (as := [_, _]) (rest := []) dX11_state_16 ml_X11_115 yV_X9_rowsAt (c_X9_rowsAt hS eq4) (by decide) rfl (lp_1 hS) (lq_1 hS) (Nat.le_of_ble_eq_true rfl) ?_
  refine r_astore dX11_state_19 (by decide) rfl ?_
  refine r_aload dX11_state_21 rfl ?_
  refine r_ifnull (tgt := 44) dX11_state_23 rfl (fun h5 => ?_) (fun c6 h5 => ?_)
  · replace e := oM_none h5 e
    rw [h5]
    refine r_iconst (v := -1) dX11_state_44 ci_m1 ?_
    cases e
    exact r_ireturn dX11_state_45 rfl rfl
  · replace e := oM_some h5 e
    rw [h5]
    refine r_aload dX11_state_26 rfl ?_
    refine r_ifnull (tgt := 44) dX11_state_28 rfl (fun h7 => ?_) (fun c8 h7 => ?_)
    · replace e := oM_none h7 e
      rw [h7]
      refine r_iconst (v := -1) dX11_state_44 ci_m1 ?_
      cases e
      exact r_ireturn dX11_state_45 rfl rfl
    · replace e := oM_some h7 e
      rw [h7]
      refine r_iload_n dX11_state_31 rfl ?_
      refine r_if_lt (tgt := 44) dX11_state_32 rfl (fun h9 => ?_) (fun h9 => ?_)
      · replace e := ite_t h9 e
        refine r_iconst (v := -1) dX11_state_44 ci_m1 ?_
        cases e
        exact r_ireturn dX11_state_45 rfl rfl
      · replace e := ite_f h9 e
        refine r_iload_n dX11_state_35 rfl ?_
        refine r_aload dX11_state_36 rfl ?_
        obtain ⟨hn10, e⟩ := gk_some e
        refine r_getI dX11_state_38 fl_X11_123 rfl hn10.1 hn10.2 ?_
        refine r_icmp_le (tgt := 46) dX11_state_41 rfl (fun h11 => ?_) (fun h11 => ?_)
        · replace e := ite_t h11 e
          refine r_aload_n dX11_state_46 rfl ?_
          refine r_getR dX11_state_47 fl_X11_30 rfl (lp_0 hS) (lq_0 hS) (lr_0_3 hS) ?_
          refine r_aload dX11_state_50 rfl ?_
          refine r_aload dX11_state_52 rfl ?_
          refine r_iload_n dX11_state_54 rfl ?_
          obtain ⟨hn12, e⟩ := gk_some e
          obtain ⟨q13, eq14, e⟩ := obind e
          refine r_callV (as := [_, _, _]) (rest := []) dX11_state_55 ml_X11_128 yV_X3_run (c_X3_run hI hn12 hn10 eq14) (by decide) rfl (lp_13 hS) (lq_13 hS) (Nat.le_of_ble_eq_true rfl) ?_
          refine r_iload_n dX11_state_58 rfl ?_
          refine r_icmp_ne (tgt := 74) dX11_state_59 rfl (fun h15 => ?_) (fun h15 => ?_)
          · replace e := ite_f h15 e
            refine r_iconst (v := -1) dX11_state_74 ci_m1 ?_
            cases e
            exact r_ireturn dX11_state_75 rfl rfl
          · replace e := ite_t h15 e
            refine r_aload_n dX11_state_62 rfl ?_
            obtain ⟨hn16, e⟩ := gP_some e
            refine r_getR dX11_state_63 fl_X11_30 rfl (lp_0 hn16) (lq_0 hn16) (lr_0_3 hn16) ?_
            refine r_iload dX11_state_66 rfl ?_
            obtain ⟨q17, eq18, e⟩ := obind e
            refine r_callV (as := [_]) (rest := []) dX11_state_68 ml_X11_132 yV_X3_tell (c_X3_tell hn16 eq18) (by decide) rfl (lp_13 hn16) (lq_13 hn16) (Nat.le_of_ble_eq_true rfl) ?_
            refine r_goto (tgt := 75) dX11_state_71 rfl ?_
            cases e
            exact r_ireturn dX11_state_75 rfl rfl
        · replace e := ite_f h11 e
          refine r_iconst (v := -1) dX11_state_44 ci_m1 ?_
          cases e
          exact r_ireturn dX11_state_45 rfl rfl
noncomputable def m_X11_asTold (S : Sk) (a1 : Int32) (mm : Mm) : Option (Option Nat × Sk × Mm) := (m_X9_countyAt S a1 mm).bind (fun q1 => oM q1 (some (none, S, mm)) (fun c4 => gk S c4 2 ((m_X7_begin S c4 mm).bind (fun q6 => gP (Lay q6.1) (some ((some 14), q6.1, q6.2))))))
set_option maxHeartbeats 4000000 in
set_option maxRecDepth 100000 in
theorem c_X11_asTold {l : Launch} {G : Gt} {S : Sk} {a1 : Int32} {mm : Mm} (hI : SI S) {q : Option Nat × Sk × Mm} (e : m_X11_asTold S a1 mm = some q) : CallOK l G M_X11_asTold yX11_asTold 4 [vr (some 0), vi a1] S mm (some (vr q.1)) q.2.1 q.2.2 := by
  have hS := hI.1
  refine call_of_run rfl rfl rfl (Nat.le_of_ble_eq_true rfl) ?_
  show Run l G M_X11_asTold 4 0 [some (vr (some 0)), some (vi a1), none] [] S mm (some (vr q.1)) q.2.1 q.2.2
  unfold m_X11_asTold at e
  refine r_aload_n dX11_asTold_0 rfl ?_
  refine r_getR dX11_asTold_1 fl_X11_10 rfl (lp_0 hS) (lq_0 hS) (lr_0_0 hS) ?_
  refine r_iload_n dX11_asTold_4 rfl ?_
  obtain ⟨q1, eq2, e⟩ := obind e
  refine r_callV (as := [_]) (rest := []) dX11_asTold_5 ml_X11_105 yV_X9_countyAt (c_X9_countyAt hS eq2) (by decide) rfl (lp_1 hS) (lq_1 hS) (Nat.le_of_ble_eq_true rfl) ?_
  refine r_astore_n dX11_asTold_8 (by decide) rfl ?_
  refine r_aload_n dX11_asTold_9 rfl ?_
  refine r_ifnonnull (tgt := 15) dX11_asTold_10 rfl (fun c4 h3 => ?_) (fun h3 => ?_)
  · replace e := oM_some h3 e
    rw [h3]
    refine r_aload_n dX11_asTold_15 rfl ?_
    refine r_getR dX11_asTold_16 fl_X11_30 rfl (lp_0 hS) (lq_0 hS) (lr_0_3 hS) ?_
    refine r_getR dX11_asTold_19 fl_X11_266 rfl (lp_13 hS) (lq_13 hS) (lr_13_0 hS) ?_
    refine r_aload_n dX11_asTold_22 rfl ?_
    obtain ⟨hn5, e⟩ := gk_some e
    obtain ⟨q6, eq7, e⟩ := obind e
    refine r_callV (as := [_]) (rest := []) dX11_asTold_23 ml_X11_270 yV_X7_begin (c_X7_begin hI hn5 eq7) (by decide) rfl (lp_14 hS) (lq_14 hS) (Nat.le_of_ble_eq_true rfl) ?_
    refine r_aload_n dX11_asTold_26 rfl ?_
    obtain ⟨hn8, e⟩ := gP_some e
    refine r_getR dX11_asTold_27 fl_X11_30 rfl (lp_0 hn8) (lq_0 hn8) (lr_0_3 hn8) ?_
    refine r_getR dX11_asTold_30 fl_X11_266 rfl (lp_13 hn8) (lq_13 hn8) (lr_13_0 hn8) ?_
    cases e
    exact r_areturn dX11_asTold_33 rfl (Or.inl ⟨_, rfl⟩) (Or.inl ⟨_, rfl⟩)
  · replace e := oM_none h3 e
    rw [h3]
    refine r_null dX11_asTold_13 ?_
    cases e
    exact r_areturn dX11_asTold_14 rfl (Or.inl ⟨_, rfl⟩) (Or.inl ⟨_, rfl⟩)
noncomputable def m_X11_keeps (S : Sk) (a1 : Int32) (a2 : Int32) (a3 : Int32) (mm : Mm) : Option (Int32 × Sk × Mm) := (m_X11_asTold S a1 mm).bind (fun q1 => oM q1.1 (some ((-99 : Int32), q1.2.1, q1.2.2)) (fun c4 => gE c4 14 (gP (Lay q1.2.1) (if (m_X7_isThere a2 q1.2.2) = 0 then (some ((-99 : Int32), q1.2.1, q1.2.2)) else (if a3 = (0 : Int32) then ((m_X7_swornFor a2 q1.2.2).bind (fun q8 => some (q8, q1.2.1, q1.2.2))) else (if a3 = (1 : Int32) then ((m_X7_openTo a2 (0 : Int32) q1.2.2).bind (fun q11 => some (q11, q1.2.1, q1.2.2))) else (if a3 = (2 : Int32) then ((m_X7_keptBy a2 q1.2.2).bind (fun q14 => some (q14, q1.2.1, q1.2.2))) else (if a3 = (3 : Int32) then ((m_X1_fewestVisits a2 q1.2.2).bind (fun q17 => some (q17.1, q1.2.1, q17.2))) else (if a3 = (4 : Int32) then ((m_X1_balance a2 q1.2.2).bind (fun q20 => some (q20, q1.2.1, q1.2.2))) else (if a3 = (5 : Int32) then ((m_X1_hearten a2 q1.2.2).bind (fun q23 => some (q23.1, q1.2.1, q23.2))) else (some ((-99 : Int32), q1.2.1, q1.2.2))))))))))))
set_option maxHeartbeats 4000000 in
set_option maxRecDepth 100000 in
theorem c_X11_keeps {l : Launch} {G : Gt} {S : Sk} {a1 : Int32} {a2 : Int32} {a3 : Int32} {mm : Mm} (hI : SI S) {q : Int32 × Sk × Mm} (e : m_X11_keeps S a1 a2 a3 mm = some q) : CallOK l G M_X11_keeps yX11_keeps 16 [vr (some 0), vi a1, vi a2, vi a3] S mm (some (vi q.1)) q.2.1 q.2.2 := by
  have hS := hI.1
  refine call_of_run rfl rfl rfl (Nat.le_of_ble_eq_true rfl) ?_
  show Run l G M_X11_keeps 16 0 [some (vr (some 0)), some (vi a1), some (vi a2), some (vi a3), none] [] S mm (some (vi q.1)) q.2.1 q.2.2
  unfold m_X11_keeps at e
  refine r_aload_n dX11_keeps_0 rfl ?_
  refine r_iload_n dX11_keeps_1 rfl ?_
  obtain ⟨q1, eq2, e⟩ := obind e
  refine r_callV (as := [_]) (rest := []) dX11_keeps_2 ml_X11_133 yV_X11_asTold (c_X11_asTold hI eq2) (by decide) rfl (lp_0 hS) (lq_0 hS) (Nat.le_of_ble_eq_true rfl) ?_
  refine r_astore dX11_keeps_5 (by decide) rfl ?_
  refine r_aload dX11_keeps_7 rfl ?_
  refine r_ifnull (tgt := 21) dX11_keeps_9 rfl (fun h3 => ?_) (fun c4 h3 => ?_)
  · replace e := oM_none h3 e
    rw [h3]
    refine r_bipush (v := -99) dX11_keeps_21 cb_m99 ?_
    cases e
    exact r_ireturn dX11_keeps_23 rfl rfl
  · replace e := oM_some h3 e
    obtain ⟨he25, e⟩ := gE_some e
    subst he25
    rw [h3]
    refine r_aload dX11_keeps_12 rfl ?_
    refine r_iload_n dX11_keeps_14 rfl ?_
    obtain ⟨hn5, e⟩ := gP_some e
    refine r_callV (as := [_]) (rest := []) dX11_keeps_15 ml_X11_137 yV_X7_isThere (c_X7_isThere hn5) (by decide) rfl (lp_14 hn5) (lq_14 hn5) (Nat.le_of_ble_eq_true rfl) ?_
    refine r_if_ne (tgt := 24) dX11_keeps_18 rfl (fun h6 => ?_) (fun h6 => ?_)
    · replace e := ite_f h6 e
      refine r_iload_n dX11_keeps_24 rfl ?_
      by_cases h7 : a3 = (0 : Int32)
      · replace e := ite_t h7 e
        refine r_table_in (tgt := 64) dX11_keeps_25 (by rw [h7]; decide) (by rw [h7]; decide) (by rw [h7]; rfl) rfl ?_
        refine r_aload dX11_keeps_64 rfl ?_
        refine r_iload_n dX11_keeps_66 rfl ?_
        obtain ⟨q8, eq9, e⟩ := obind e
        refine r_callV (as := [_]) (rest := []) dX11_keeps_67 ml_X11_143 yV_X7_swornFor (c_X7_swornFor hn5 eq9) (by decide) rfl (lp_14 hn5) (lq_14 hn5) (Nat.le_of_ble_eq_true rfl) ?_
        cases e
        exact r_ireturn dX11_keeps_70 rfl rfl
      replace e := ite_f h7 e
      by_cases h10 : a3 = (1 : Int32)
      · replace e := ite_t h10 e
        refine r_table_in (tgt := 71) dX11_keeps_25 (by rw [h10]; decide) (by rw [h10]; decide) (by rw [h10]; rfl) rfl ?_
        refine r_aload dX11_keeps_71 rfl ?_
        refine r_iload_n dX11_keeps_73 rfl ?_
        refine r_iconst (v := 0) dX11_keeps_74 ci_0 ?_
        obtain ⟨q11, eq12, e⟩ := obind e
        refine r_callV (as := [_, _]) (rest := []) dX11_keeps_75 ml_X11_146 yV_X7_openTo (c_X7_openTo hn5 eq12) (by decide) rfl (lp_14 hn5) (lq_14 hn5) (Nat.le_of_ble_eq_true rfl) ?_
        cases e
        exact r_ireturn dX11_keeps_78 rfl rfl
      replace e := ite_f h10 e
      by_cases h13 : a3 = (2 : Int32)
      · replace e := ite_t h13 e
        refine r_table_in (tgt := 79) dX11_keeps_25 (by rw [h13]; decide) (by rw [h13]; decide) (by rw [h13]; rfl) rfl ?_
        refine r_aload dX11_keeps_79 rfl ?_
        refine r_iload_n dX11_keeps_81 rfl ?_
        obtain ⟨q14, eq15, e⟩ := obind e
        refine r_callV (as := [_]) (rest := []) dX11_keeps_82 ml_X11_149 yV_X7_keptBy (c_X7_keptBy hn5 eq15) (by decide) rfl (lp_14 hn5) (lq_14 hn5) (Nat.le_of_ble_eq_true rfl) ?_
        cases e
        exact r_ireturn dX11_keeps_85 rfl rfl
      replace e := ite_f h13 e
      by_cases h16 : a3 = (3 : Int32)
      · replace e := ite_t h16 e
        refine r_table_in (tgt := 86) dX11_keeps_25 (by rw [h16]; decide) (by rw [h16]; decide) (by rw [h16]; rfl) rfl ?_
        refine r_aload_n dX11_keeps_86 rfl ?_
        refine r_getR dX11_keeps_87 fl_X11_44 rfl (lp_0 hn5) (lq_0 hn5) (lr_0_5 hn5) ?_
        refine r_aload dX11_keeps_90 rfl ?_
        refine r_iload_n dX11_keeps_92 rfl ?_
        obtain ⟨q17, eq18, e⟩ := obind e
        refine r_callV (as := [_, _]) (rest := []) dX11_keeps_93 ml_X11_152 yV_X1_fewestVisits (c_X1_fewestVisits hn5 eq18) (by decide) rfl (lp_32 hn5) (lq_32 hn5) (Nat.le_of_ble_eq_true rfl) ?_
        cases e
        exact r_ireturn dX11_keeps_96 rfl rfl
      replace e := ite_f h16 e
      by_cases h19 : a3 = (4 : Int32)
      · replace e := ite_t h19 e
        refine r_table_in (tgt := 97) dX11_keeps_25 (by rw [h19]; decide) (by rw [h19]; decide) (by rw [h19]; rfl) rfl ?_
        refine r_aload dX11_keeps_97 rfl ?_
        refine r_iload_n dX11_keeps_99 rfl ?_
        obtain ⟨q20, eq21, e⟩ := obind e
        refine r_callS (as := [_, _]) (rest := []) dX11_keeps_100 ml_X11_156 yS_X1_balance (c_X1_balance hn5 eq21) (by decide) rfl (Nat.le_of_ble_eq_true rfl) ?_
        cases e
        exact r_ireturn dX11_keeps_103 rfl rfl
      replace e := ite_f h19 e
      by_cases h22 : a3 = (5 : Int32)
      · replace e := ite_t h22 e
        refine r_table_in (tgt := 104) dX11_keeps_25 (by rw [h22]; decide) (by rw [h22]; decide) (by rw [h22]; rfl) rfl ?_
        refine r_aload dX11_keeps_104 rfl ?_
        refine r_iload_n dX11_keeps_106 rfl ?_
        obtain ⟨q23, eq24, e⟩ := obind e
        refine r_callS (as := [_, _]) (rest := []) dX11_keeps_107 ml_X11_159 yS_X1_hearten (c_X1_hearten hn5 eq24) (by decide) rfl (Nat.le_of_ble_eq_true rfl) ?_
        cases e
        exact r_ireturn dX11_keeps_110 rfl rfl
      replace e := ite_f h22 e
      have ho25 : (a3).toInt < 0 ∨ 5 < (a3).toInt := by
        have nh7 := lv_neT (a := 0) h7 (by decide)
        have nh10 := lv_neT (a := 1) h10 (by decide)
        have nh13 := lv_neT (a := 2) h13 (by decide)
        have nh16 := lv_neT (a := 3) h16 (by decide)
        have nh19 := lv_neT (a := 4) h19 (by decide)
        have nh22 := lv_neT (a := 5) h22 (by decide)
        omega
      refine r_table_out (tgt := 111) dX11_keeps_25 ho25 rfl ?_
      refine r_bipush (v := -99) dX11_keeps_111 cb_m99 ?_
      cases e
      exact r_ireturn dX11_keeps_113 rfl rfl
    · replace e := ite_t h6 e
      refine r_bipush (v := -99) dX11_keeps_21 cb_m99 ?_
      cases e
      exact r_ireturn dX11_keeps_23 rfl rfl
noncomputable def m_X11_heart (S : Sk) (a1 : Int32) (a2 : Int32) (a3 : Int32) (mm : Mm) : Option (Int32 × Sk × Mm) := (m_X11_asTold S a1 mm).bind (fun q1 => oM q1.1 (some ((-1 : Int32), q1.2.1, q1.2.2)) (fun c4 => gE c4 14 (gP (Lay q1.2.1) (if (m_X7_areTwo a2 a3 q1.2.2) = 0 then (some ((-1 : Int32), q1.2.1, q1.2.2)) else ((m_X7_heartOf a2 a3 q1.2.2).bind (fun q7 => some (q7, q1.2.1, q1.2.2)))))))
set_option maxHeartbeats 4000000 in
set_option maxRecDepth 100000 in
theorem c_X11_heart {l : Launch} {G : Gt} {S : Sk} {a1 : Int32} {a2 : Int32} {a3 : Int32} {mm : Mm} (hI : SI S) {q : Int32 × Sk × Mm} (e : m_X11_heart S a1 a2 a3 mm = some q) : CallOK l G M_X11_heart yX11_heart 5 [vr (some 0), vi a1, vi a2, vi a3] S mm (some (vi q.1)) q.2.1 q.2.2 := by
  have hS := hI.1
  refine call_of_run rfl rfl rfl (Nat.le_of_ble_eq_true rfl) ?_
  show Run l G M_X11_heart 5 0 [some (vr (some 0)), some (vi a1), some (vi a2), some (vi a3), none] [] S mm (some (vi q.1)) q.2.1 q.2.2
  unfold m_X11_heart at e
  refine r_aload_n dX11_heart_0 rfl ?_
  refine r_iload_n dX11_heart_1 rfl ?_
  obtain ⟨q1, eq2, e⟩ := obind e
  refine r_callV (as := [_]) (rest := []) dX11_heart_2 ml_X11_133 yV_X11_asTold (c_X11_asTold hI eq2) (by decide) rfl (lp_0 hS) (lq_0 hS) (Nat.le_of_ble_eq_true rfl) ?_
  refine r_astore dX11_heart_5 (by decide) rfl ?_
  refine r_aload dX11_heart_7 rfl ?_
  refine r_ifnull (tgt := 22) dX11_heart_9 rfl (fun h3 => ?_) (fun c4 h3 => ?_)
  · replace e := oM_none h3 e
    rw [h3]
    refine r_iconst (v := -1) dX11_heart_22 ci_m1 ?_
    cases e
    exact r_ireturn dX11_heart_23 rfl rfl
  · replace e := oM_some h3 e
    obtain ⟨he9, e⟩ := gE_some e
    subst he9
    rw [h3]
    refine r_aload dX11_heart_12 rfl ?_
    refine r_iload_n dX11_heart_14 rfl ?_
    refine r_iload_n dX11_heart_15 rfl ?_
    obtain ⟨hn5, e⟩ := gP_some e
    refine r_callV (as := [_, _]) (rest := []) dX11_heart_16 ml_X11_162 yV_X7_areTwo (c_X7_areTwo hn5) (by decide) rfl (lp_14 hn5) (lq_14 hn5) (Nat.le_of_ble_eq_true rfl) ?_
    refine r_if_ne (tgt := 24) dX11_heart_19 rfl (fun h6 => ?_) (fun h6 => ?_)
    · replace e := ite_f h6 e
      refine r_aload dX11_heart_24 rfl ?_
      refine r_iload_n dX11_heart_26 rfl ?_
      refine r_iload_n dX11_heart_27 rfl ?_
      obtain ⟨q7, eq8, e⟩ := obind e
      refine r_callV (as := [_, _]) (rest := []) dX11_heart_28 ml_X11_166 yV_X7_heartOf (c_X7_heartOf hn5 eq8) (by decide) rfl (lp_14 hn5) (lq_14 hn5) (Nat.le_of_ble_eq_true rfl) ?_
      cases e
      exact r_ireturn dX11_heart_31 rfl rfl
    · replace e := ite_t h6 e
      refine r_iconst (v := -1) dX11_heart_22 ci_m1 ?_
      cases e
      exact r_ireturn dX11_heart_23 rfl rfl
noncomputable def m_X11_fall (S : Sk) (a1 : Int32) (a2 : Int32) (mm : Mm) : Option (Int32 × Sk × Mm) := (m_X11_asTold S a1 mm).bind (fun q1 => oM q1.1 (some ((-2 : Int32), q1.2.1, q1.2.2)) (fun c4 => gE c4 14 (if a2 = (0 : Int32) then (gP (Lay q1.2.1) ((m_X7_brokenOaths (0 : Int32) q1.2.2).bind (fun q7 => (m_X7_swearersOf q7 q1.2.2).bind (fun q9 => some (q9, q1.2.1, q1.2.2))))) else (if a2 = (1 : Int32) then (gP (Lay q1.2.1) ((m_X1_strikes q1.2.2).bind (fun q13 => some ((m_J6_bitCount_0f7a4 q13), q1.2.1, q1.2.2)))) else (if a2 = (2 : Int32) then (gP (Lay q1.2.1) ((m_X1_strikes q1.2.2).bind (fun q17 => some (q17, q1.2.1, q1.2.2)))) else (if a2 = (3 : Int32) then (gP (Lay q1.2.1) ((m_X0_learn q1.2.2).bind (fun q21 => (m_X0_leastRing q21).bind (fun q23 => some (q23, q1.2.1, q21))))) else (if a2 = (4 : Int32) then (gP (Lay q1.2.1) ((m_X0_learn q1.2.2).bind (fun q27 => (m_X0_ringed q27).bind (fun q29 => some (q29, q1.2.1, q27))))) else (some ((-2 : Int32), q1.2.1, q1.2.2)))))))))
set_option maxHeartbeats 4000000 in
set_option maxRecDepth 100000 in
theorem c_X11_fall {l : Launch} {G : Gt} {S : Sk} {a1 : Int32} {a2 : Int32} {mm : Mm} (hI : SI S) {q : Int32 × Sk × Mm} (e : m_X11_fall S a1 a2 mm = some q) : CallOK l G M_X11_fall yX11_fall 5 [vr (some 0), vi a1, vi a2] S mm (some (vi q.1)) q.2.1 q.2.2 := by
  have hS := hI.1
  refine call_of_run rfl rfl rfl (Nat.le_of_ble_eq_true rfl) ?_
  show Run l G M_X11_fall 5 0 [some (vr (some 0)), some (vi a1), some (vi a2), none] [] S mm (some (vi q.1)) q.2.1 q.2.2
  unfold m_X11_fall at e
  refine r_aload_n dX11_fall_0 rfl ?_
  refine r_iload_n dX11_fall_1 rfl ?_
  obtain ⟨q1, eq2, e⟩ := obind e
  refine r_callV (as := [_]) (rest := []) dX11_fall_2 ml_X11_133 yV_X11_asTold (c_X11_asTold hI eq2) (by decide) rfl (lp_0 hS) (lq_0 hS) (Nat.le_of_ble_eq_true rfl) ?_
  refine r_astore_n dX11_fall_5 (by decide) rfl ?_
  refine r_aload_n dX11_fall_6 rfl ?_
  refine r_ifnonnull (tgt := 13) dX11_fall_7 rfl (fun c4 h3 => ?_) (fun h3 => ?_)
  · replace e := oM_some h3 e
    obtain ⟨he31, e⟩ := gE_some e
    subst he31
    rw [h3]
    refine r_iload_n dX11_fall_13 rfl ?_
    by_cases h5 : a2 = (0 : Int32)
    · replace e := ite_t h5 e
      refine r_table_in (tgt := 48) dX11_fall_14 (by rw [h5]; decide) (by rw [h5]; decide) (by rw [h5]; rfl) rfl ?_
      refine r_aload_n dX11_fall_48 rfl ?_
      refine r_aload_n dX11_fall_49 rfl ?_
      refine r_iconst (v := 0) dX11_fall_50 ci_0 ?_
      obtain ⟨hn6, e⟩ := gP_some e
      obtain ⟨q7, eq8, e⟩ := obind e
      refine r_callV (as := [_]) (rest := [_]) dX11_fall_51 ml_X11_169 yV_X7_brokenOaths (c_X7_brokenOaths hn6 eq8) (by decide) rfl (lp_14 hn6) (lq_14 hn6) (Nat.le_of_ble_eq_true rfl) ?_
      obtain ⟨q9, eq10, e⟩ := obind e
      refine r_callV (as := [_]) (rest := []) dX11_fall_54 ml_X11_172 yV_X7_swearersOf (c_X7_swearersOf hn6 eq10) (by decide) rfl (lp_14 hn6) (lq_14 hn6) (Nat.le_of_ble_eq_true rfl) ?_
      cases e
      exact r_ireturn dX11_fall_57 rfl rfl
    replace e := ite_f h5 e
    by_cases h11 : a2 = (1 : Int32)
    · replace e := ite_t h11 e
      refine r_table_in (tgt := 58) dX11_fall_14 (by rw [h11]; decide) (by rw [h11]; decide) (by rw [h11]; rfl) rfl ?_
      refine r_aload_n dX11_fall_58 rfl ?_
      obtain ⟨hn12, e⟩ := gP_some e
      obtain ⟨q13, eq14, e⟩ := obind e
      refine r_callS (as := [_]) (rest := []) dX11_fall_59 ml_X11_175 yS_X1_strikes (c_X1_strikes hn12 eq14) (by decide) rfl (Nat.le_of_ble_eq_true rfl) ?_
      refine r_callS (as := [_]) (rest := []) dX11_fall_62 ml_X11_179 yS_J6_bitCount_0f7a4 (c_J6_bitCount_0f7a4) (by decide) rfl (Nat.le_of_ble_eq_true rfl) ?_
      cases e
      exact r_ireturn dX11_fall_65 rfl rfl
    replace e := ite_f h11 e
    by_cases h15 : a2 = (2 : Int32)
    · replace e := ite_t h15 e
      refine r_table_in (tgt := 66) dX11_fall_14 (by rw [h15]; decide) (by rw [h15]; decide) (by rw [h15]; rfl) rfl ?_
      refine r_aload_n dX11_fall_66 rfl ?_
      obtain ⟨hn16, e⟩ := gP_some e
      obtain ⟨q17, eq18, e⟩ := obind e
      refine r_callS (as := [_]) (rest := []) dX11_fall_67 ml_X11_175 yS_X1_strikes (c_X1_strikes hn16 eq18) (by decide) rfl (Nat.le_of_ble_eq_true rfl) ?_
      cases e
      exact r_ireturn dX11_fall_70 rfl rfl
    replace e := ite_f h15 e
    by_cases h19 : a2 = (3 : Int32)
    · replace e := ite_t h19 e
      refine r_table_in (tgt := 71) dX11_fall_14 (by rw [h19]; decide) (by rw [h19]; decide) (by rw [h19]; rfl) rfl ?_
      refine r_aload_n dX11_fall_71 rfl ?_
      obtain ⟨hn20, e⟩ := gP_some e
      refine r_getR dX11_fall_72 fl_X11_37 rfl (lp_0 hn20) (lq_0 hn20) (lr_0_4 hn20) ?_
      refine r_aload_n dX11_fall_75 rfl ?_
      obtain ⟨q21, eq22, e⟩ := obind e
      refine r_callV (as := [_]) (rest := []) dX11_fall_76 ml_X11_184 yV_X0_learn (c_X0_learn hn20 eq22) (by decide) rfl (lp_25 hn20) (lq_25 hn20) (Nat.le_of_ble_eq_true rfl) ?_
      refine r_aload_n dX11_fall_79 rfl ?_
      refine r_getR dX11_fall_80 fl_X11_37 rfl (lp_0 hn20) (lq_0 hn20) (lr_0_4 hn20) ?_
      obtain ⟨q23, eq24, e⟩ := obind e
      refine r_callV (as := []) (rest := []) dX11_fall_83 ml_X11_188 yV_X0_leastRing (c_X0_leastRing hn20 eq24) (by decide) rfl (lp_25 hn20) (lq_25 hn20) (Nat.le_of_ble_eq_true rfl) ?_
      cases e
      exact r_ireturn dX11_fall_86 rfl rfl
    replace e := ite_f h19 e
    by_cases h25 : a2 = (4 : Int32)
    · replace e := ite_t h25 e
      refine r_table_in (tgt := 87) dX11_fall_14 (by rw [h25]; decide) (by rw [h25]; decide) (by rw [h25]; rfl) rfl ?_
      refine r_aload_n dX11_fall_87 rfl ?_
      obtain ⟨hn26, e⟩ := gP_some e
      refine r_getR dX11_fall_88 fl_X11_37 rfl (lp_0 hn26) (lq_0 hn26) (lr_0_4 hn26) ?_
      refine r_aload_n dX11_fall_91 rfl ?_
      obtain ⟨q27, eq28, e⟩ := obind e
      refine r_callV (as := [_]) (rest := []) dX11_fall_92 ml_X11_184 yV_X0_learn (c_X0_learn hn26 eq28) (by decide) rfl (lp_25 hn26) (lq_25 hn26) (Nat.le_of_ble_eq_true rfl) ?_
      refine r_aload_n dX11_fall_95 rfl ?_
      refine r_getR dX11_fall_96 fl_X11_37 rfl (lp_0 hn26) (lq_0 hn26) (lr_0_4 hn26) ?_
      obtain ⟨q29, eq30, e⟩ := obind e
      refine r_callV (as := []) (rest := []) dX11_fall_99 ml_X11_192 yV_X0_ringed (c_X0_ringed hn26 eq30) (by decide) rfl (lp_25 hn26) (lq_25 hn26) (Nat.le_of_ble_eq_true rfl) ?_
      cases e
      exact r_ireturn dX11_fall_102 rfl rfl
    replace e := ite_f h25 e
    have ho14 : (a2).toInt < 0 ∨ 4 < (a2).toInt := by
      have nh5 := lv_neT (a := 0) h5 (by decide)
      have nh11 := lv_neT (a := 1) h11 (by decide)
      have nh15 := lv_neT (a := 2) h15 (by decide)
      have nh19 := lv_neT (a := 3) h19 (by decide)
      have nh25 := lv_neT (a := 4) h25 (by decide)
      omega
    refine r_table_out (tgt := 103) dX11_fall_14 ho14 rfl ?_
    refine r_bipush (v := -2) dX11_fall_103 cb_m2 ?_
    cases e
    exact r_ireturn dX11_fall_105 rfl rfl
  · replace e := oM_none h3 e
    rw [h3]
    refine r_bipush (v := -2) dX11_fall_10 cb_m2 ?_
    cases e
    exact r_ireturn dX11_fall_12 rfl rfl
noncomputable def m_X11_want (S : Sk) (a1 : Int32) (a2 : Int32) (a3 : Int32) (mm : Mm) : Option (Int32) := (m_X9_rowsAt S (2 : Int32) a1 mm).bind (fun q1 => (m_X11_cellOrSize S q1 a2 a3 (a3 + (1 : Int32)) (2 : Int32) mm).bind (fun q3 => some q3))
set_option maxHeartbeats 4000000 in
set_option maxRecDepth 100000 in
theorem c_X11_want {l : Launch} {G : Gt} {S : Sk} {a1 : Int32} {a2 : Int32} {a3 : Int32} {mm : Mm} (hI : SI S) {q : Int32} (e : m_X11_want S a1 a2 a3 mm = some q) : CallOK l G M_X11_want yX11_want 2 [vr (some 0), vi a1, vi a2, vi a3] S mm (some (vi q)) S mm := by
  have hS := hI.1
  refine call_of_run rfl rfl rfl (Nat.le_of_ble_eq_true rfl) ?_
  show Run l G M_X11_want 2 0 [some (vr (some 0)), some (vi a1), some (vi a2), some (vi a3)] [] S mm (some (vi q)) S mm
  unfold m_X11_want at e
  refine r_aload_n dX11_want_0 rfl ?_
  refine r_getR dX11_want_1 fl_X11_10 rfl (lp_0 hS) (lq_0 hS) (lr_0_0 hS) ?_
  refine r_iconst (v := 2) dX11_want_4 ci_2 ?_
  refine r_iload_n dX11_want_5 rfl ?_
  obtain ⟨q1, eq2, e⟩ := obind e
  refine r_callV (as := [_, _]) (rest := []) dX11_want_6 ml_X11_115 yV_X9_rowsAt (c_X9_rowsAt hS eq2) (by decide) rfl (lp_1 hS) (lq_1 hS) (Nat.le_of_ble_eq_true rfl) ?_
  refine r_iload_n dX11_want_9 rfl ?_
  refine r_iload_n dX11_want_10 rfl ?_
  refine r_iload_n dX11_want_11 rfl ?_
  refine r_iconst (v := 1) dX11_want_12 ci_1 ?_
  refine r_iadd dX11_want_13 ?_
  refine r_iconst (v := 2) dX11_want_14 ci_2 ?_
  obtain ⟨q3, eq4, e⟩ := obind e
  refine r_callS (as := [_, _, _, _, _]) (rest := []) dX11_want_15 ml_X11_119 yS_X11_cellOrSize (c_X11_cellOrSize hI eq4) (by decide) rfl (Nat.le_of_ble_eq_true rfl) ?_
  cases e
  exact r_ireturn dX11_want_18 rfl rfl
noncomputable def m_X11_swearers (S : Sk) (a1 : Int32) (a2 : Int32) (a3 : Int32) (mm : Mm) : Option (Int32 × Sk × Mm) := (m_X11_asTold S a1 mm).bind (fun q1 => gP (Lay q1.2.1) ((m_X9_rowsAt q1.2.1 (2 : Int32) a2 q1.2.2).bind (fun q4 => oM q1.1 (some ((-1 : Int32), q1.2.1, q1.2.2)) (fun c7 => gE c7 14 (oM q4 (some ((-1 : Int32), q1.2.1, q1.2.2)) (fun c9 => gk q1.2.1 c9 6 ((m_X8_learn q1.2.1 c9 q1.2.2).bind (fun q11 => if q11.1 = 0 then (some ((-1 : Int32), q11.2.1, q11.2.2)) else (if a3 = (-1 : Int32) then (gP (Lay q11.2.1) (some (mI q11.2.2 34 0, q11.2.1, q11.2.2))) else (gP (Lay q11.2.1) (gP (SI q11.2.1) ((m_X8_swearerOf q11.2.1 a3 q11.2.2).bind (fun q17 => some (q17, q11.2.1, q11.2.2))))))))))))))
set_option maxHeartbeats 4000000 in
set_option maxRecDepth 100000 in
theorem c_X11_swearers {l : Launch} {G : Gt} {S : Sk} {a1 : Int32} {a2 : Int32} {a3 : Int32} {mm : Mm} (hI : SI S) {q : Int32 × Sk × Mm} (e : m_X11_swearers S a1 a2 a3 mm = some q) : CallOK l G M_X11_swearers yX11_swearers 17 [vr (some 0), vi a1, vi a2, vi a3] S mm (some (vi q.1)) q.2.1 q.2.2 := by
  have hS := hI.1
  refine call_of_run rfl rfl rfl (Nat.le_of_ble_eq_true rfl) ?_
  show Run l G M_X11_swearers 17 0 [some (vr (some 0)), some (vi a1), some (vi a2), some (vi a3), none, none] [] S mm (some (vi q.1)) q.2.1 q.2.2
  unfold m_X11_swearers at e
  refine r_aload_n dX11_swearers_0 rfl ?_
  refine r_iload_n dX11_swearers_1 rfl ?_
  obtain ⟨q1, eq2, e⟩ := obind e
  refine r_callV (as := [_]) (rest := []) dX11_swearers_2 ml_X11_133 yV_X11_asTold (c_X11_asTold hI eq2) (by decide) rfl (lp_0 hS) (lq_0 hS) (Nat.le_of_ble_eq_true rfl) ?_
  refine r_astore dX11_swearers_5 (by decide) rfl ?_
  refine r_aload_n dX11_swearers_7 rfl ?_
  obtain ⟨hn3, e⟩ := gP_some e
  refine r_getR dX11_swearers_8 fl_X11_10 rfl (lp_0 hn3) (lq_0 hn3) (lr_0_0 hn3) ?_
  refine r_iconst (v := 2) dX11_swearers_11 ci_2 ?_
  refine r_iload_n dX11_swearers_12 rfl ?_
  obtain ⟨q4, eq5, e⟩ := obind e
  refine r_callV (as := [_, _]) (rest := []) dX11_swearers_13 ml_X11_115 yV_X9_rowsAt (c_X9_rowsAt hn3 eq5) (by decide) rfl (lp_1 hn3) (lq_1 hn3) (Nat.le_of_ble_eq_true rfl) ?_
  refine r_astore dX11_swearers_16 (by decide) rfl ?_
  refine r_aload dX11_swearers_18 rfl ?_
  refine r_ifnull (tgt := 42) dX11_swearers_20 rfl (fun h6 => ?_) (fun c7 h6 => ?_)
  · replace e := oM_none h6 e
    rw [h6]
    refine r_iconst (v := -1) dX11_swearers_42 ci_m1 ?_
    cases e
    exact r_ireturn dX11_swearers_43 rfl rfl
  · replace e := oM_some h6 e
    obtain ⟨he20, e⟩ := gE_some e
    subst he20
    rw [h6]
    refine r_aload dX11_swearers_23 rfl ?_
    refine r_ifnull (tgt := 42) dX11_swearers_25 rfl (fun h8 => ?_) (fun c9 h8 => ?_)
    · replace e := oM_none h8 e
      rw [h8]
      refine r_iconst (v := -1) dX11_swearers_42 ci_m1 ?_
      cases e
      exact r_ireturn dX11_swearers_43 rfl rfl
    · replace e := oM_some h8 e
      rw [h8]
      refine r_aload_n dX11_swearers_28 rfl ?_
      refine r_getR dX11_swearers_29 fl_X11_51 rfl (lp_0 hn3) (lq_0 hn3) (lr_0_6 hn3) ?_
      refine r_aload dX11_swearers_32 rfl ?_
      refine r_aload dX11_swearers_34 rfl ?_
      obtain ⟨hn10, e⟩ := gk_some e
      obtain ⟨q11, eq12, e⟩ := obind e
      refine r_callV (as := [_, _]) (rest := []) dX11_swearers_36 ml_X11_195 yV_X8_learn (c_X8_learn hn3 hn10 eq12) (by decide) rfl (lp_34 hn3) (lq_34 hn3) (Nat.le_of_ble_eq_true rfl) ?_
      refine r_if_ne (tgt := 44) dX11_swearers_39 rfl (fun h13 => ?_) (fun h13 => ?_)
      · replace e := ite_f h13 e
        refine r_iload_n dX11_swearers_44 rfl ?_
        refine r_iconst (v := -1) dX11_swearers_45 ci_m1 ?_
        refine r_icmp_ne (tgt := 59) dX11_swearers_46 rfl (fun h14 => ?_) (fun h14 => ?_)
        · replace e := ite_f h14 e
          refine r_aload_n dX11_swearers_59 rfl ?_
          obtain ⟨hn15, e⟩ := gP_some e
          refine r_getR dX11_swearers_60 fl_X11_51 rfl (lp_0 hn15) (lq_0 hn15) (lr_0_6 hn15) ?_
          refine r_aload dX11_swearers_63 rfl ?_
          refine r_iload_n dX11_swearers_65 rfl ?_
          obtain ⟨hn16, e⟩ := gP_some e
          obtain ⟨q17, eq18, e⟩ := obind e
          refine r_callV (as := [_, _]) (rest := []) dX11_swearers_66 ml_X11_201 yV_X8_swearerOf (c_X8_swearerOf hn16 eq18) (by decide) rfl (lp_34 hn15) (lq_34 hn15) (Nat.le_of_ble_eq_true rfl) ?_
          cases e
          exact r_ireturn dX11_swearers_69 rfl rfl
        · replace e := ite_t h14 e
          refine r_aload_n dX11_swearers_49 rfl ?_
          obtain ⟨hn19, e⟩ := gP_some e
          refine r_getR dX11_swearers_50 fl_X11_51 rfl (lp_0 hn19) (lq_0 hn19) (lr_0_6 hn19) ?_
          refine r_getI dX11_swearers_53 fl_X11_198 rfl (lp_34 hn19) (lq_34 hn19) ?_
          refine r_goto (tgt := 69) dX11_swearers_56 rfl ?_
          cases e
          exact r_ireturn dX11_swearers_69 rfl rfl
      · replace e := ite_t h13 e
        refine r_iconst (v := -1) dX11_swearers_42 ci_m1 ?_
        cases e
        exact r_ireturn dX11_swearers_43 rfl rfl
noncomputable def m_X11_dare (S : Sk) (a1 : Int32) (a2 : Int32) (a3 : Int32) (a4 : Int32) (a5 : Int32) (mm : Mm) : Option (Int32 × Sk × Mm) := (m_X11_asTold S a1 mm).bind (fun q1 => oM q1.1 (some ((-9 : Int32), q1.2.1, q1.2.2)) (fun c4 => gE c4 14 (gP (Lay q1.2.1) (if (m_X7_areTwo a2 a3 q1.2.2) = 0 then (some ((-9 : Int32), q1.2.1, q1.2.2)) else (if a4 < 0 then (some ((-9 : Int32), q1.2.1, q1.2.2)) else (if a4 ≤ (3 : Int32) then ((m_X10_play q1.2.1 a2 a3 a4 q1.2.2).bind (fun q9 => if a5 = 0 then (gP (Lay q9.1) (some (mI q9.2 38 0, q9.1, q9.2))) else (gP (Lay q9.1) (some (mI q9.2 38 1, q9.1, q9.2))))) else (some ((-9 : Int32), q1.2.1, q1.2.2))))))))
set_option maxHeartbeats 4000000 in
set_option maxRecDepth 100000 in
theorem c_X11_dare {l : Launch} {G : Gt} {S : Sk} {a1 : Int32} {a2 : Int32} {a3 : Int32} {a4 : Int32} {a5 : Int32} {mm : Mm} (hI : SI S) {q : Int32 × Sk × Mm} (e : m_X11_dare S a1 a2 a3 a4 a5 mm = some q) : CallOK l G M_X11_dare yX11_dare 10 [vr (some 0), vi a1, vi a2, vi a3, vi a4, vi a5] S mm (some (vi q.1)) q.2.1 q.2.2 := by
  have hS := hI.1
  refine call_of_run rfl rfl rfl (Nat.le_of_ble_eq_true rfl) ?_
  show Run l G M_X11_dare 10 0 [some (vr (some 0)), some (vi a1), some (vi a2), some (vi a3), some (vi a4), some (vi a5), none] [] S mm (some (vi q.1)) q.2.1 q.2.2
  unfold m_X11_dare at e
  refine r_aload_n dX11_dare_0 rfl ?_
  refine r_iload_n dX11_dare_1 rfl ?_
  obtain ⟨q1, eq2, e⟩ := obind e
  refine r_callV (as := [_]) (rest := []) dX11_dare_2 ml_X11_133 yV_X11_asTold (c_X11_asTold hI eq2) (by decide) rfl (lp_0 hS) (lq_0 hS) (Nat.le_of_ble_eq_true rfl) ?_
  refine r_astore dX11_dare_5 (by decide) rfl ?_
  refine r_aload dX11_dare_7 rfl ?_
  refine r_ifnull (tgt := 33) dX11_dare_9 rfl (fun h3 => ?_) (fun c4 h3 => ?_)
  · replace e := oM_none h3 e
    rw [h3]
    refine r_bipush (v := -9) dX11_dare_33 cb_m9 ?_
    cases e
    exact r_ireturn dX11_dare_35 rfl rfl
  · replace e := oM_some h3 e
    obtain ⟨he14, e⟩ := gE_some e
    subst he14
    rw [h3]
    refine r_aload dX11_dare_12 rfl ?_
    refine r_iload_n dX11_dare_14 rfl ?_
    refine r_iload_n dX11_dare_15 rfl ?_
    obtain ⟨hn5, e⟩ := gP_some e
    refine r_callV (as := [_, _]) (rest := []) dX11_dare_16 ml_X11_162 yV_X7_areTwo (c_X7_areTwo hn5) (by decide) rfl (lp_14 hn5) (lq_14 hn5) (Nat.le_of_ble_eq_true rfl) ?_
    refine r_if_eq (tgt := 33) dX11_dare_19 rfl (fun h6 => ?_) (fun h6 => ?_)
    · replace e := ite_t h6 e
      refine r_bipush (v := -9) dX11_dare_33 cb_m9 ?_
      cases e
      exact r_ireturn dX11_dare_35 rfl rfl
    · replace e := ite_f h6 e
      refine r_iload dX11_dare_22 rfl ?_
      refine r_if_lt (tgt := 33) dX11_dare_24 rfl (fun h7 => ?_) (fun h7 => ?_)
      · replace e := ite_t h7 e
        refine r_bipush (v := -9) dX11_dare_33 cb_m9 ?_
        cases e
        exact r_ireturn dX11_dare_35 rfl rfl
      · replace e := ite_f h7 e
        refine r_iload dX11_dare_27 rfl ?_
        refine r_iconst (v := 3) dX11_dare_29 ci_3 ?_
        refine r_icmp_le (tgt := 36) dX11_dare_30 rfl (fun h8 => ?_) (fun h8 => ?_)
        · replace e := ite_t h8 e
          refine r_aload_n dX11_dare_36 rfl ?_
          refine r_getR dX11_dare_37 fl_X11_58 rfl (lp_0 hn5) (lq_0 hn5) (lr_0_7 hn5) ?_
          refine r_aload dX11_dare_40 rfl ?_
          refine r_iload_n dX11_dare_42 rfl ?_
          refine r_iload_n dX11_dare_43 rfl ?_
          refine r_iload dX11_dare_44 rfl ?_
          obtain ⟨q9, eq10, e⟩ := obind e
          refine r_callV (as := [_, _, _, _]) (rest := []) dX11_dare_46 ml_X11_204 yV_X10_play (c_X10_play hn5 eq10) (by decide) rfl (lp_38 hn5) (lq_38 hn5) (Nat.le_of_ble_eq_true rfl) ?_
          refine r_iload dX11_dare_49 rfl ?_
          refine r_if_eq (tgt := 64) dX11_dare_51 rfl (fun h11 => ?_) (fun h11 => ?_)
          · replace e := ite_t h11 e
            refine r_aload_n dX11_dare_64 rfl ?_
            obtain ⟨hn12, e⟩ := gP_some e
            refine r_getR dX11_dare_65 fl_X11_58 rfl (lp_0 hn12) (lq_0 hn12) (lr_0_7 hn12) ?_
            refine r_getI dX11_dare_68 fl_X11_211 rfl (lp_38 hn12) (lq_38 hn12) ?_
            cases e
            exact r_ireturn dX11_dare_71 rfl rfl
          · replace e := ite_f h11 e
            refine r_aload_n dX11_dare_54 rfl ?_
            obtain ⟨hn13, e⟩ := gP_some e
            refine r_getR dX11_dare_55 fl_X11_58 rfl (lp_0 hn13) (lq_0 hn13) (lr_0_7 hn13) ?_
            refine r_getI dX11_dare_58 fl_X11_208 rfl (lp_38 hn13) (lq_38 hn13) ?_
            refine r_goto (tgt := 71) dX11_dare_61 rfl ?_
            cases e
            exact r_ireturn dX11_dare_71 rfl rfl
        · replace e := ite_f h8 e
          refine r_bipush (v := -9) dX11_dare_33 cb_m9 ?_
          cases e
          exact r_ireturn dX11_dare_35 rfl rfl
noncomputable def m_X11_chance (S : Sk) (a1 : Int32) (a2 : Int32) (a3 : Int32) (a4 : Int32) (a5 : Int32) (a6 : Int32) (a7 : Int32) (mm : Mm) : Option (Int32 × Sk × Mm) := (m_X11_asTold S a1 mm).bind (fun q1 => oM q1.1 (some ((-1 : Int32), q1.2.1, q1.2.2)) (fun c4 => gE c4 14 (gP (Lay q1.2.1) (if (m_X7_areTwo a2 a3 q1.2.2) = 0 then (some ((-1 : Int32), q1.2.1, q1.2.2)) else (if a4 < 0 then (some ((-1 : Int32), q1.2.1, q1.2.2)) else (if a4 < (8 : Int32) then (if a5 < 0 then (some ((-1 : Int32), q1.2.1, q1.2.2)) else (if (10 : Int32) < a5 then (some ((-1 : Int32), q1.2.1, q1.2.2)) else (if a6 < 0 then (some ((-1 : Int32), q1.2.1, q1.2.2)) else (if a6 ≤ (6 : Int32) then (grd a4 8 ((m_X7_heartOf a2 a3 q1.2.2).bind (fun q14 => (m_X10_weigh ((mI q1.2.2 19 (ix a4)) - q14) a5 a6 q1.2.2).bind (fun q16 => if a7 = 0 then (some (mI q16 38 2, q1.2.1, q16)) else (some (mI q16 38 3, q1.2.1, q16)))))) else (some ((-1 : Int32), q1.2.1, q1.2.2)))))) else (some ((-1 : Int32), q1.2.1, q1.2.2))))))))
set_option maxHeartbeats 4000000 in
set_option maxRecDepth 100000 in
theorem c_X11_chance {l : Launch} {G : Gt} {S : Sk} {a1 : Int32} {a2 : Int32} {a3 : Int32} {a4 : Int32} {a5 : Int32} {a6 : Int32} {a7 : Int32} {mm : Mm} (hI : SI S) {q : Int32 × Sk × Mm} (e : m_X11_chance S a1 a2 a3 a4 a5 a6 a7 mm = some q) : CallOK l G M_X11_chance yX11_chance 5 [vr (some 0), vi a1, vi a2, vi a3, vi a4, vi a5, vi a6, vi a7] S mm (some (vi q.1)) q.2.1 q.2.2 := by
  have hS := hI.1
  refine call_of_run rfl rfl rfl (Nat.le_of_ble_eq_true rfl) ?_
  show Run l G M_X11_chance 5 0 [some (vr (some 0)), some (vi a1), some (vi a2), some (vi a3), some (vi a4), some (vi a5), some (vi a6), some (vi a7), none] [] S mm (some (vi q.1)) q.2.1 q.2.2
  unfold m_X11_chance at e
  refine r_aload_n dX11_chance_0 rfl ?_
  refine r_iload_n dX11_chance_1 rfl ?_
  obtain ⟨q1, eq2, e⟩ := obind e
  refine r_callV (as := [_]) (rest := []) dX11_chance_2 ml_X11_133 yV_X11_asTold (c_X11_asTold hI eq2) (by decide) rfl (lp_0 hS) (lq_0 hS) (Nat.le_of_ble_eq_true rfl) ?_
  refine r_astore dX11_chance_5 (by decide) rfl ?_
  refine r_aload dX11_chance_7 rfl ?_
  refine r_ifnull (tgt := 34) dX11_chance_9 rfl (fun h3 => ?_) (fun c4 h3 => ?_)
  · replace e := oM_none h3 e
    rw [h3]
    refine r_iconst (v := -1) dX11_chance_34 ci_m1 ?_
    cases e
    exact r_ireturn dX11_chance_35 rfl rfl
  · replace e := oM_some h3 e
    obtain ⟨he19, e⟩ := gE_some e
    subst he19
    rw [h3]
    refine r_aload dX11_chance_12 rfl ?_
    refine r_iload_n dX11_chance_14 rfl ?_
    refine r_iload_n dX11_chance_15 rfl ?_
    obtain ⟨hn5, e⟩ := gP_some e
    refine r_callV (as := [_, _]) (rest := []) dX11_chance_16 ml_X11_162 yV_X7_areTwo (c_X7_areTwo hn5) (by decide) rfl (lp_14 hn5) (lq_14 hn5) (Nat.le_of_ble_eq_true rfl) ?_
    refine r_if_eq (tgt := 34) dX11_chance_19 rfl (fun h6 => ?_) (fun h6 => ?_)
    · replace e := ite_t h6 e
      refine r_iconst (v := -1) dX11_chance_34 ci_m1 ?_
      cases e
      exact r_ireturn dX11_chance_35 rfl rfl
    · replace e := ite_f h6 e
      refine r_iload dX11_chance_22 rfl ?_
      refine r_if_lt (tgt := 34) dX11_chance_24 rfl (fun h7 => ?_) (fun h7 => ?_)
      · replace e := ite_t h7 e
        refine r_iconst (v := -1) dX11_chance_34 ci_m1 ?_
        cases e
        exact r_ireturn dX11_chance_35 rfl rfl
      · replace e := ite_f h7 e
        refine r_iload dX11_chance_27 rfl ?_
        refine r_bipush (v := 8) dX11_chance_29 cb_8 ?_
        refine r_icmp_lt (tgt := 36) dX11_chance_31 rfl (fun h8 => ?_) (fun h8 => ?_)
        · replace e := ite_t h8 e
          refine r_iload dX11_chance_36 rfl ?_
          refine r_if_lt (tgt := 60) dX11_chance_38 rfl (fun h9 => ?_) (fun h9 => ?_)
          · replace e := ite_t h9 e
            refine r_iconst (v := -1) dX11_chance_60 ci_m1 ?_
            cases e
            exact r_ireturn dX11_chance_61 rfl rfl
          · replace e := ite_f h9 e
            refine r_iload dX11_chance_41 rfl ?_
            refine r_bipush (v := 10) dX11_chance_43 cb_10 ?_
            refine r_icmp_gt (tgt := 60) dX11_chance_45 rfl (fun h10 => ?_) (fun h10 => ?_)
            · replace e := ite_t h10 e
              refine r_iconst (v := -1) dX11_chance_60 ci_m1 ?_
              cases e
              exact r_ireturn dX11_chance_61 rfl rfl
            · replace e := ite_f h10 e
              refine r_iload dX11_chance_48 rfl ?_
              refine r_if_lt (tgt := 60) dX11_chance_50 rfl (fun h11 => ?_) (fun h11 => ?_)
              · replace e := ite_t h11 e
                refine r_iconst (v := -1) dX11_chance_60 ci_m1 ?_
                cases e
                exact r_ireturn dX11_chance_61 rfl rfl
              · replace e := ite_f h11 e
                refine r_iload dX11_chance_53 rfl ?_
                refine r_bipush (v := 6) dX11_chance_55 cb_6 ?_
                refine r_icmp_le (tgt := 62) dX11_chance_57 rfl (fun h12 => ?_) (fun h12 => ?_)
                · replace e := ite_t h12 e
                  refine r_aload_n dX11_chance_62 rfl ?_
                  refine r_getR dX11_chance_63 fl_X11_58 rfl (lp_0 hn5) (lq_0 hn5) (lr_0_7 hn5) ?_
                  refine r_aload dX11_chance_66 rfl ?_
                  refine r_getR dX11_chance_68 fl_X11_214 rfl (lp_14 hn5) (lq_14 hn5) (lr_14_6 hn5) ?_
                  refine r_iload dX11_chance_71 rfl ?_
                  obtain ⟨hg13, e⟩ := grd_some e
                  refine r_iald dX11_chance_73 (lp_19 hn5) (lk_19 hn5) hg13 ?_
                  refine r_aload dX11_chance_74 rfl ?_
                  refine r_iload_n dX11_chance_76 rfl ?_
                  refine r_iload_n dX11_chance_77 rfl ?_
                  obtain ⟨q14, eq15, e⟩ := obind e
                  refine r_callV (as := [_, _]) (rest := [_, _]) dX11_chance_78 ml_X11_166 yV_X7_heartOf (c_X7_heartOf hn5 eq15) (by decide) rfl (lp_14 hn5) (lq_14 hn5) (Nat.le_of_ble_eq_true rfl) ?_
                  refine r_isub dX11_chance_81 ?_
                  refine r_iload dX11_chance_82 rfl ?_
                  refine r_iload dX11_chance_84 rfl ?_
                  obtain ⟨q16, eq17, e⟩ := obind e
                  refine r_callV (as := [_, _, _]) (rest := []) dX11_chance_86 ml_X11_218 yV_X10_weigh (c_X10_weigh hn5 eq17) (by decide) rfl (lp_38 hn5) (lq_38 hn5) (Nat.le_of_ble_eq_true rfl) ?_
                  refine r_iload dX11_chance_89 rfl ?_
                  refine r_if_eq (tgt := 104) dX11_chance_91 rfl (fun h18 => ?_) (fun h18 => ?_)
                  · replace e := ite_t h18 e
                    refine r_aload_n dX11_chance_104 rfl ?_
                    refine r_getR dX11_chance_105 fl_X11_58 rfl (lp_0 hn5) (lq_0 hn5) (lr_0_7 hn5) ?_
                    refine r_getI dX11_chance_108 fl_X11_225 rfl (lp_38 hn5) (lq_38 hn5) ?_
                    cases e
                    exact r_ireturn dX11_chance_111 rfl rfl
                  · replace e := ite_f h18 e
                    refine r_aload_n dX11_chance_94 rfl ?_
                    refine r_getR dX11_chance_95 fl_X11_58 rfl (lp_0 hn5) (lq_0 hn5) (lr_0_7 hn5) ?_
                    refine r_getI dX11_chance_98 fl_X11_222 rfl (lp_38 hn5) (lq_38 hn5) ?_
                    refine r_goto (tgt := 111) dX11_chance_101 rfl ?_
                    cases e
                    exact r_ireturn dX11_chance_111 rfl rfl
                · replace e := ite_f h12 e
                  refine r_iconst (v := -1) dX11_chance_60 ci_m1 ?_
                  cases e
                  exact r_ireturn dX11_chance_61 rfl rfl
        · replace e := ite_f h8 e
          refine r_iconst (v := -1) dX11_chance_34 ci_m1 ?_
          cases e
          exact r_ireturn dX11_chance_35 rfl rfl
noncomputable def m_X11_fact (S : Sk) (a1 : Int32) (a2 : Int32) (a3 : Int32) (mm : Mm) : Option (Int32) := (m_X9_rowsAt S (3 : Int32) a1 mm).bind (fun q1 => (m_X11_cellOrSize S q1 a2 a3 a3 (3 : Int32) mm).bind (fun q3 => some q3))
set_option maxHeartbeats 4000000 in
set_option maxRecDepth 100000 in
theorem c_X11_fact {l : Launch} {G : Gt} {S : Sk} {a1 : Int32} {a2 : Int32} {a3 : Int32} {mm : Mm} (hI : SI S) {q : Int32} (e : m_X11_fact S a1 a2 a3 mm = some q) : CallOK l G M_X11_fact yX11_fact 2 [vr (some 0), vi a1, vi a2, vi a3] S mm (some (vi q)) S mm := by
  have hS := hI.1
  refine call_of_run rfl rfl rfl (Nat.le_of_ble_eq_true rfl) ?_
  show Run l G M_X11_fact 2 0 [some (vr (some 0)), some (vi a1), some (vi a2), some (vi a3)] [] S mm (some (vi q)) S mm
  unfold m_X11_fact at e
  refine r_aload_n dX11_fact_0 rfl ?_
  refine r_getR dX11_fact_1 fl_X11_10 rfl (lp_0 hS) (lq_0 hS) (lr_0_0 hS) ?_
  refine r_iconst (v := 3) dX11_fact_4 ci_3 ?_
  refine r_iload_n dX11_fact_5 rfl ?_
  obtain ⟨q1, eq2, e⟩ := obind e
  refine r_callV (as := [_, _]) (rest := []) dX11_fact_6 ml_X11_115 yV_X9_rowsAt (c_X9_rowsAt hS eq2) (by decide) rfl (lp_1 hS) (lq_1 hS) (Nat.le_of_ble_eq_true rfl) ?_
  refine r_iload_n dX11_fact_9 rfl ?_
  refine r_iload_n dX11_fact_10 rfl ?_
  refine r_iload_n dX11_fact_11 rfl ?_
  refine r_iconst (v := 3) dX11_fact_12 ci_3 ?_
  obtain ⟨q3, eq4, e⟩ := obind e
  refine r_callS (as := [_, _, _, _, _]) (rest := []) dX11_fact_13 ml_X11_119 yS_X11_cellOrSize (c_X11_cellOrSize hI eq4) (by decide) rfl (Nat.le_of_ble_eq_true rfl) ?_
  cases e
  exact r_ireturn dX11_fact_16 rfl rfl
noncomputable def m_X11_fits (S : Sk) (a1 : Int32) (a2 : Int32) (a3 : Int32) (a4 : Int32) (mm : Mm) : Option (Int32 × Sk × Mm) := (m_X11_asTold S a1 mm).bind (fun q1 => gP (Lay q1.2.1) ((m_X9_rowsAt q1.2.1 (3 : Int32) a2 q1.2.2).bind (fun q4 => oM q1.1 (some ((-2 : Int32), q1.2.1, q1.2.2)) (fun c7 => gE c7 14 (oM q4 (some ((-2 : Int32), q1.2.1, q1.2.2)) (fun c9 => if (m_X7_isThere a3 q1.2.2) = 0 then (some ((-2 : Int32), q1.2.1, q1.2.2)) else (gP (SI q1.2.1) (gk q1.2.1 c9 6 ((m_X4_learn q1.2.1 c9 a3 q1.2.2).bind (fun q13 => (m_X4_tell q1.2.1 a4 q13).bind (fun q15 => some (q15, q1.2.1, q13))))))))))))
set_option maxHeartbeats 4000000 in
set_option maxRecDepth 100000 in
theorem c_X11_fits {l : Launch} {G : Gt} {S : Sk} {a1 : Int32} {a2 : Int32} {a3 : Int32} {a4 : Int32} {mm : Mm} (hI : SI S) {q : Int32 × Sk × Mm} (e : m_X11_fits S a1 a2 a3 a4 mm = some q) : CallOK l G M_X11_fits yX11_fits 5 [vr (some 0), vi a1, vi a2, vi a3, vi a4] S mm (some (vi q.1)) q.2.1 q.2.2 := by
  have hS := hI.1
  refine call_of_run rfl rfl rfl (Nat.le_of_ble_eq_true rfl) ?_
  show Run l G M_X11_fits 5 0 [some (vr (some 0)), some (vi a1), some (vi a2), some (vi a3), some (vi a4), none, none] [] S mm (some (vi q.1)) q.2.1 q.2.2
  unfold m_X11_fits at e
  refine r_aload_n dX11_fits_0 rfl ?_
  refine r_iload_n dX11_fits_1 rfl ?_
  obtain ⟨q1, eq2, e⟩ := obind e
  refine r_callV (as := [_]) (rest := []) dX11_fits_2 ml_X11_133 yV_X11_asTold (c_X11_asTold hI eq2) (by decide) rfl (lp_0 hS) (lq_0 hS) (Nat.le_of_ble_eq_true rfl) ?_
  refine r_astore dX11_fits_5 (by decide) rfl ?_
  refine r_aload_n dX11_fits_7 rfl ?_
  obtain ⟨hn3, e⟩ := gP_some e
  refine r_getR dX11_fits_8 fl_X11_10 rfl (lp_0 hn3) (lq_0 hn3) (lr_0_0 hn3) ?_
  refine r_iconst (v := 3) dX11_fits_11 ci_3 ?_
  refine r_iload_n dX11_fits_12 rfl ?_
  obtain ⟨q4, eq5, e⟩ := obind e
  refine r_callV (as := [_, _]) (rest := []) dX11_fits_13 ml_X11_115 yV_X9_rowsAt (c_X9_rowsAt hn3 eq5) (by decide) rfl (lp_1 hn3) (lq_1 hn3) (Nat.le_of_ble_eq_true rfl) ?_
  refine r_astore dX11_fits_16 (by decide) rfl ?_
  refine r_aload dX11_fits_18 rfl ?_
  refine r_ifnull (tgt := 37) dX11_fits_20 rfl (fun h6 => ?_) (fun c7 h6 => ?_)
  · replace e := oM_none h6 e
    rw [h6]
    refine r_bipush (v := -2) dX11_fits_37 cb_m2 ?_
    cases e
    exact r_ireturn dX11_fits_39 rfl rfl
  · replace e := oM_some h6 e
    obtain ⟨he17, e⟩ := gE_some e
    subst he17
    rw [h6]
    refine r_aload dX11_fits_23 rfl ?_
    refine r_ifnull (tgt := 37) dX11_fits_25 rfl (fun h8 => ?_) (fun c9 h8 => ?_)
    · replace e := oM_none h8 e
      rw [h8]
      refine r_bipush (v := -2) dX11_fits_37 cb_m2 ?_
      cases e
      exact r_ireturn dX11_fits_39 rfl rfl
    · replace e := oM_some h8 e
      rw [h8]
      refine r_aload dX11_fits_28 rfl ?_
      refine r_iload_n dX11_fits_30 rfl ?_
      refine r_callV (as := [_]) (rest := []) dX11_fits_31 ml_X11_137 yV_X7_isThere (c_X7_isThere hn3) (by decide) rfl (lp_14 hn3) (lq_14 hn3) (Nat.le_of_ble_eq_true rfl) ?_
      refine r_if_ne (tgt := 40) dX11_fits_34 rfl (fun h10 => ?_) (fun h10 => ?_)
      · replace e := ite_f h10 e
        refine r_aload_n dX11_fits_40 rfl ?_
        refine r_getR dX11_fits_41 fl_X11_65 rfl (lp_0 hn3) (lq_0 hn3) (lr_0_8 hn3) ?_
        refine r_aload dX11_fits_44 rfl ?_
        refine r_aload dX11_fits_46 rfl ?_
        refine r_iload_n dX11_fits_48 rfl ?_
        obtain ⟨hn11, e⟩ := gP_some e
        obtain ⟨hn12, e⟩ := gk_some e
        obtain ⟨q13, eq14, e⟩ := obind e
        refine r_callV (as := [_, _, _]) (rest := []) dX11_fits_49 ml_X11_228 yV_X4_learn (c_X4_learn hn11 hn12 eq14) (by decide) rfl (lp_40 hn3) (lq_40 hn3) (Nat.le_of_ble_eq_true rfl) ?_
        refine r_aload_n dX11_fits_52 rfl ?_
        refine r_getR dX11_fits_53 fl_X11_65 rfl (lp_0 hn11.1) (lq_0 hn11.1) (lr_0_8 hn11.1) ?_
        refine r_iload dX11_fits_56 rfl ?_
        obtain ⟨q15, eq16, e⟩ := obind e
        refine r_callV (as := [_]) (rest := []) dX11_fits_58 ml_X11_231 yV_X4_tell (c_X4_tell hn11.1 eq16) (by decide) rfl (lp_40 hn11.1) (lq_40 hn11.1) (Nat.le_of_ble_eq_true rfl) ?_
        cases e
        exact r_ireturn dX11_fits_61 rfl rfl
      · replace e := ite_t h10 e
        refine r_bipush (v := -2) dX11_fits_37 cb_m2 ?_
        cases e
        exact r_ireturn dX11_fits_39 rfl rfl
noncomputable def m_X11_drawn (S : Sk) (a1 : Int32) (a2 : Int32) (a3 : Int32) (a4 : Int32) (mm : Mm) : Option (Int32 × Sk × Mm) := (m_X9_countyAt S a1 mm).bind (fun q1 => oM q1 (some ((-1 : Int32), S, mm)) (fun c4 => if a3 < 0 then (some ((-1 : Int32), S, mm)) else (if a3 ≤ (60 : Int32) then (gk S c4 2 ((m_X3_runSeed S c4 a2 a3 mm).bind (fun q8 => gP (Lay q8.1) ((m_X3_tell a4 q8.2).bind (fun q11 => some (q11, q8.1, q8.2)))))) else (some ((-1 : Int32), S, mm)))))
set_option maxHeartbeats 4000000 in
set_option maxRecDepth 100000 in
theorem c_X11_drawn {l : Launch} {G : Gt} {S : Sk} {a1 : Int32} {a2 : Int32} {a3 : Int32} {a4 : Int32} {mm : Mm} (hI : SI S) {q : Int32 × Sk × Mm} (e : m_X11_drawn S a1 a2 a3 a4 mm = some q) : CallOK l G M_X11_drawn yX11_drawn 7 [vr (some 0), vi a1, vi a2, vi a3, vi a4] S mm (some (vi q.1)) q.2.1 q.2.2 := by
  have hS := hI.1
  refine call_of_run rfl rfl rfl (Nat.le_of_ble_eq_true rfl) ?_
  show Run l G M_X11_drawn 7 0 [some (vr (some 0)), some (vi a1), some (vi a2), some (vi a3), some (vi a4), none] [] S mm (some (vi q.1)) q.2.1 q.2.2
  unfold m_X11_drawn at e
  refine r_aload_n dX11_drawn_0 rfl ?_
  refine r_getR dX11_drawn_1 fl_X11_10 rfl (lp_0 hS) (lq_0 hS) (lr_0_0 hS) ?_
  refine r_iload_n dX11_drawn_4 rfl ?_
  obtain ⟨q1, eq2, e⟩ := obind e
  refine r_callV (as := [_]) (rest := []) dX11_drawn_5 ml_X11_105 yV_X9_countyAt (c_X9_countyAt hS eq2) (by decide) rfl (lp_1 hS) (lq_1 hS) (Nat.le_of_ble_eq_true rfl) ?_
  refine r_astore dX11_drawn_8 (by decide) rfl ?_
  refine r_aload dX11_drawn_10 rfl ?_
  refine r_ifnull (tgt := 25) dX11_drawn_12 rfl (fun h3 => ?_) (fun c4 h3 => ?_)
  · replace e := oM_none h3 e
    rw [h3]
    refine r_iconst (v := -1) dX11_drawn_25 ci_m1 ?_
    cases e
    exact r_ireturn dX11_drawn_26 rfl rfl
  · replace e := oM_some h3 e
    rw [h3]
    refine r_iload_n dX11_drawn_15 rfl ?_
    refine r_if_lt (tgt := 25) dX11_drawn_16 rfl (fun h5 => ?_) (fun h5 => ?_)
    · replace e := ite_t h5 e
      refine r_iconst (v := -1) dX11_drawn_25 ci_m1 ?_
      cases e
      exact r_ireturn dX11_drawn_26 rfl rfl
    · replace e := ite_f h5 e
      refine r_iload_n dX11_drawn_19 rfl ?_
      refine r_bipush (v := 60) dX11_drawn_20 cb_60 ?_
      refine r_icmp_le (tgt := 27) dX11_drawn_22 rfl (fun h6 => ?_) (fun h6 => ?_)
      · replace e := ite_t h6 e
        refine r_aload_n dX11_drawn_27 rfl ?_
        refine r_getR dX11_drawn_28 fl_X11_30 rfl (lp_0 hS) (lq_0 hS) (lr_0_3 hS) ?_
        refine r_aload dX11_drawn_31 rfl ?_
        refine r_iload_n dX11_drawn_33 rfl ?_
        refine r_iload_n dX11_drawn_34 rfl ?_
        obtain ⟨hn7, e⟩ := gk_some e
        obtain ⟨q8, eq9, e⟩ := obind e
        refine r_callV (as := [_, _, _]) (rest := []) dX11_drawn_35 ml_X11_232 yV_X3_runSeed (c_X3_runSeed hI hn7 eq9) (by decide) rfl (lp_13 hS) (lq_13 hS) (Nat.le_of_ble_eq_true rfl) ?_
        refine r_aload_n dX11_drawn_38 rfl ?_
        obtain ⟨hn10, e⟩ := gP_some e
        refine r_getR dX11_drawn_39 fl_X11_30 rfl (lp_0 hn10) (lq_0 hn10) (lr_0_3 hn10) ?_
        refine r_iload dX11_drawn_42 rfl ?_
        obtain ⟨q11, eq12, e⟩ := obind e
        refine r_callV (as := [_]) (rest := []) dX11_drawn_44 ml_X11_132 yV_X3_tell (c_X3_tell hn10 eq12) (by decide) rfl (lp_13 hn10) (lq_13 hn10) (Nat.le_of_ble_eq_true rfl) ?_
        cases e
        exact r_ireturn dX11_drawn_47 rfl rfl
      · replace e := ite_f h6 e
        refine r_iconst (v := -1) dX11_drawn_25 ci_m1 ?_
        cases e
        exact r_ireturn dX11_drawn_26 rfl rfl
noncomputable def m_X11_lone (S : Sk) (a1 : Int32) (a2 : Int32) (mm : Mm) : Option (Int32 × Sk × Mm) := (m_X9_countyAt S a1 mm).bind (fun q1 => (m_X11_asTold S a1 mm).bind (fun q3 => oM q1 (some ((-2 : Int32), q3.2.1, q3.2.2)) (fun c6 => oM q3.1 (some ((-2 : Int32), q3.2.1, q3.2.2)) (fun c8 => gE c8 14 (if (6 : Int32) ≤ a2 then (if (8 : Int32) ≤ a2 then (gP (Lay q3.2.1) ((m_X1_tell a2 q3.2.2).bind (fun q12 => some (q12.1, q3.2.1, q12.2)))) else (if a2 = (6 : Int32) then (gk q3.2.1 c6 2 (gP (SI q3.2.1) ((m_X2_peace c6 q3.2.2).bind (fun q21 => some ((m_J6_bitCount_0f7a4 q21), q3.2.1, q3.2.2))))) else (gk q3.2.1 c6 2 (gP (SI q3.2.1) ((m_X2_peace c6 q3.2.2).bind (fun q17 => some (q17, q3.2.1, q3.2.2))))))) else (gP (Lay q3.2.1) ((m_X0_learn q3.2.2).bind (fun q24 => (m_X0_tell q3.2.1 a2 q24).bind (fun q26 => some (q26, q3.2.1, q24))))))))))
set_option maxHeartbeats 4000000 in
set_option maxRecDepth 100000 in
theorem c_X11_lone {l : Launch} {G : Gt} {S : Sk} {a1 : Int32} {a2 : Int32} {mm : Mm} (hI : SI S) {q : Int32 × Sk × Mm} (e : m_X11_lone S a1 a2 mm = some q) : CallOK l G M_X11_lone yX11_lone 6 [vr (some 0), vi a1, vi a2] S mm (some (vi q.1)) q.2.1 q.2.2 := by
  have hS := hI.1
  refine call_of_run rfl rfl rfl (Nat.le_of_ble_eq_true rfl) ?_
  show Run l G M_X11_lone 6 0 [some (vr (some 0)), some (vi a1), some (vi a2), none, none] [] S mm (some (vi q.1)) q.2.1 q.2.2
  unfold m_X11_lone at e
  refine r_aload_n dX11_lone_0 rfl ?_
  refine r_getR dX11_lone_1 fl_X11_10 rfl (lp_0 hS) (lq_0 hS) (lr_0_0 hS) ?_
  refine r_iload_n dX11_lone_4 rfl ?_
  obtain ⟨q1, eq2, e⟩ := obind e
  refine r_callV (as := [_]) (rest := []) dX11_lone_5 ml_X11_105 yV_X9_countyAt (c_X9_countyAt hS eq2) (by decide) rfl (lp_1 hS) (lq_1 hS) (Nat.le_of_ble_eq_true rfl) ?_
  refine r_astore_n dX11_lone_8 (by decide) rfl ?_
  refine r_aload_n dX11_lone_9 rfl ?_
  refine r_iload_n dX11_lone_10 rfl ?_
  obtain ⟨q3, eq4, e⟩ := obind e
  refine r_callV (as := [_]) (rest := []) dX11_lone_11 ml_X11_133 yV_X11_asTold (c_X11_asTold hI eq4) (by decide) rfl (lp_0 hS) (lq_0 hS) (Nat.le_of_ble_eq_true rfl) ?_
  refine r_astore dX11_lone_14 (by decide) rfl ?_
  refine r_aload_n dX11_lone_16 rfl ?_
  refine r_ifnull (tgt := 25) dX11_lone_17 rfl (fun h5 => ?_) (fun c6 h5 => ?_)
  · replace e := oM_none h5 e
    rw [h5]
    refine r_bipush (v := -2) dX11_lone_25 cb_m2 ?_
    cases e
    exact r_ireturn dX11_lone_27 rfl rfl
  · replace e := oM_some h5 e
    rw [h5]
    refine r_aload dX11_lone_20 rfl ?_
    refine r_ifnonnull (tgt := 28) dX11_lone_22 rfl (fun c8 h7 => ?_) (fun h7 => ?_)
    · replace e := oM_some h7 e
      obtain ⟨he28, e⟩ := gE_some e
      subst he28
      rw [h7]
      refine r_iload_n dX11_lone_28 rfl ?_
      refine r_bipush (v := 6) dX11_lone_29 cb_6 ?_
      refine r_icmp_ge (tgt := 52) dX11_lone_31 rfl (fun h9 => ?_) (fun h9 => ?_)
      · replace e := ite_t h9 e
        refine r_iload_n dX11_lone_52 rfl ?_
        refine r_bipush (v := 8) dX11_lone_53 cb_8 ?_
        refine r_icmp_ge (tgt := 79) dX11_lone_55 rfl (fun h10 => ?_) (fun h10 => ?_)
        · replace e := ite_t h10 e
          refine r_aload_n dX11_lone_79 rfl ?_
          obtain ⟨hn11, e⟩ := gP_some e
          refine r_getR dX11_lone_80 fl_X11_44 rfl (lp_0 hn11) (lq_0 hn11) (lr_0_5 hn11) ?_
          refine r_aload dX11_lone_83 rfl ?_
          refine r_iload_n dX11_lone_85 rfl ?_
          obtain ⟨q12, eq13, e⟩ := obind e
          refine r_callV (as := [_, _]) (rest := []) dX11_lone_86 ml_X11_240 yV_X1_tell (c_X1_tell hn11 eq13) (by decide) rfl (lp_32 hn11) (lq_32 hn11) (Nat.le_of_ble_eq_true rfl) ?_
          cases e
          exact r_ireturn dX11_lone_89 rfl rfl
        · replace e := ite_f h10 e
          refine r_iload_n dX11_lone_58 rfl ?_
          refine r_bipush (v := 6) dX11_lone_59 cb_6 ?_
          refine r_icmp_ne (tgt := 74) dX11_lone_61 rfl (fun h14 => ?_) (fun h14 => ?_)
          · replace e := ite_f h14 e
            refine r_aload_n dX11_lone_74 rfl ?_
            obtain ⟨hn15, e⟩ := gk_some e
            obtain ⟨hn16, e⟩ := gP_some e
            obtain ⟨q17, eq18, e⟩ := obind e
            refine r_callV (as := []) (rest := []) dX11_lone_75 ml_X11_237 yV_X2_peace (c_X2_peace hn16 hn15 eq18) (by decide) rfl hn15.1 hn15.2 (Nat.le_of_ble_eq_true rfl) ?_
            cases e
            exact r_ireturn dX11_lone_78 rfl rfl
          · replace e := ite_t h14 e
            refine r_aload_n dX11_lone_64 rfl ?_
            obtain ⟨hn19, e⟩ := gk_some e
            obtain ⟨hn20, e⟩ := gP_some e
            obtain ⟨q21, eq22, e⟩ := obind e
            refine r_callV (as := []) (rest := []) dX11_lone_65 ml_X11_237 yV_X2_peace (c_X2_peace hn20 hn19 eq22) (by decide) rfl hn19.1 hn19.2 (Nat.le_of_ble_eq_true rfl) ?_
            refine r_callS (as := [_]) (rest := []) dX11_lone_68 ml_X11_179 yS_J6_bitCount_0f7a4 (c_J6_bitCount_0f7a4) (by decide) rfl (Nat.le_of_ble_eq_true rfl) ?_
            refine r_goto (tgt := 78) dX11_lone_71 rfl ?_
            cases e
            exact r_ireturn dX11_lone_78 rfl rfl
      · replace e := ite_f h9 e
        refine r_aload_n dX11_lone_34 rfl ?_
        obtain ⟨hn23, e⟩ := gP_some e
        refine r_getR dX11_lone_35 fl_X11_37 rfl (lp_0 hn23) (lq_0 hn23) (lr_0_4 hn23) ?_
        refine r_aload dX11_lone_38 rfl ?_
        obtain ⟨q24, eq25, e⟩ := obind e
        refine r_callV (as := [_]) (rest := []) dX11_lone_40 ml_X11_184 yV_X0_learn (c_X0_learn hn23 eq25) (by decide) rfl (lp_25 hn23) (lq_25 hn23) (Nat.le_of_ble_eq_true rfl) ?_
        refine r_aload_n dX11_lone_43 rfl ?_
        refine r_getR dX11_lone_44 fl_X11_37 rfl (lp_0 hn23) (lq_0 hn23) (lr_0_4 hn23) ?_
        refine r_iload_n dX11_lone_47 rfl ?_
        obtain ⟨q26, eq27, e⟩ := obind e
        refine r_callV (as := [_]) (rest := []) dX11_lone_48 ml_X11_236 yV_X0_tell (c_X0_tell hn23 eq27) (by decide) rfl (lp_25 hn23) (lq_25 hn23) (Nat.le_of_ble_eq_true rfl) ?_
        cases e
        exact r_ireturn dX11_lone_51 rfl rfl
    · replace e := oM_none h7 e
      rw [h7]
      refine r_bipush (v := -2) dX11_lone_25 cb_m2 ?_
      cases e
      exact r_ireturn dX11_lone_27 rfl rfl
noncomputable def m_X11_chain (S : Sk) (a1 : Int32) (a2 : Int32) (mm : Mm) : Option (Int32 × Sk × Mm) := (m_X11_asTold S a1 mm).bind (fun q1 => oM q1.1 (some ((-1 : Int32), q1.2.1, q1.2.2)) (fun c4 => gE c4 14 (gP (Lay q1.2.1) ((m_X0_learn q1.2.2).bind (fun q6 => (m_X0_findChain q6).bind (fun q8 => if a2 = (-1 : Int32) then (some (mI q8 25 0, q1.2.1, q8)) else ((m_X0_chained a2 q8).bind (fun q11 => some (q11, q1.2.1, q8)))))))))
set_option maxHeartbeats 4000000 in
set_option maxRecDepth 100000 in
theorem c_X11_chain {l : Launch} {G : Gt} {S : Sk} {a1 : Int32} {a2 : Int32} {mm : Mm} (hI : SI S) {q : Int32 × Sk × Mm} (e : m_X11_chain S a1 a2 mm = some q) : CallOK l G M_X11_chain yX11_chain 15 [vr (some 0), vi a1, vi a2] S mm (some (vi q.1)) q.2.1 q.2.2 := by
  have hS := hI.1
  refine call_of_run rfl rfl rfl (Nat.le_of_ble_eq_true rfl) ?_
  show Run l G M_X11_chain 15 0 [some (vr (some 0)), some (vi a1), some (vi a2), none] [] S mm (some (vi q.1)) q.2.1 q.2.2
  unfold m_X11_chain at e
  refine r_aload_n dX11_chain_0 rfl ?_
  refine r_iload_n dX11_chain_1 rfl ?_
  obtain ⟨q1, eq2, e⟩ := obind e
  refine r_callV (as := [_]) (rest := []) dX11_chain_2 ml_X11_133 yV_X11_asTold (c_X11_asTold hI eq2) (by decide) rfl (lp_0 hS) (lq_0 hS) (Nat.le_of_ble_eq_true rfl) ?_
  refine r_astore_n dX11_chain_5 (by decide) rfl ?_
  refine r_aload_n dX11_chain_6 rfl ?_
  refine r_ifnonnull (tgt := 12) dX11_chain_7 rfl (fun c4 h3 => ?_) (fun h3 => ?_)
  · replace e := oM_some h3 e
    obtain ⟨he13, e⟩ := gE_some e
    subst he13
    rw [h3]
    refine r_aload_n dX11_chain_12 rfl ?_
    obtain ⟨hn5, e⟩ := gP_some e
    refine r_getR dX11_chain_13 fl_X11_37 rfl (lp_0 hn5) (lq_0 hn5) (lr_0_4 hn5) ?_
    refine r_aload_n dX11_chain_16 rfl ?_
    obtain ⟨q6, eq7, e⟩ := obind e
    refine r_callV (as := [_]) (rest := []) dX11_chain_17 ml_X11_184 yV_X0_learn (c_X0_learn hn5 eq7) (by decide) rfl (lp_25 hn5) (lq_25 hn5) (Nat.le_of_ble_eq_true rfl) ?_
    refine r_aload_n dX11_chain_20 rfl ?_
    refine r_getR dX11_chain_21 fl_X11_37 rfl (lp_0 hn5) (lq_0 hn5) (lr_0_4 hn5) ?_
    obtain ⟨q8, eq9, e⟩ := obind e
    refine r_callV (as := []) (rest := []) dX11_chain_24 ml_X11_242 yV_X0_findChain (c_X0_findChain hn5 eq9) (by decide) rfl (lp_25 hn5) (lq_25 hn5) (Nat.le_of_ble_eq_true rfl) ?_
    refine r_iload_n dX11_chain_27 rfl ?_
    refine r_iconst (v := -1) dX11_chain_28 ci_m1 ?_
    refine r_icmp_ne (tgt := 42) dX11_chain_29 rfl (fun h10 => ?_) (fun h10 => ?_)
    · replace e := ite_f h10 e
      refine r_aload_n dX11_chain_42 rfl ?_
      refine r_getR dX11_chain_43 fl_X11_37 rfl (lp_0 hn5) (lq_0 hn5) (lr_0_4 hn5) ?_
      refine r_iload_n dX11_chain_46 rfl ?_
      obtain ⟨q11, eq12, e⟩ := obind e
      refine r_callV (as := [_]) (rest := []) dX11_chain_47 ml_X11_246 yV_X0_chained (c_X0_chained hn5 eq12) (by decide) rfl (lp_25 hn5) (lq_25 hn5) (Nat.le_of_ble_eq_true rfl) ?_
      cases e
      exact r_ireturn dX11_chain_50 rfl rfl
    · replace e := ite_t h10 e
      refine r_aload_n dX11_chain_32 rfl ?_
      refine r_getR dX11_chain_33 fl_X11_37 rfl (lp_0 hn5) (lq_0 hn5) (lr_0_4 hn5) ?_
      refine r_getI dX11_chain_36 fl_X11_245 rfl (lp_25 hn5) (lq_25 hn5) ?_
      refine r_goto (tgt := 50) dX11_chain_39 rfl ?_
      cases e
      exact r_ireturn dX11_chain_50 rfl rfl
  · replace e := oM_none h3 e
    rw [h3]
    refine r_iconst (v := -1) dX11_chain_10 ci_m1 ?_
    cases e
    exact r_ireturn dX11_chain_11 rfl rfl
noncomputable def m_X11_steps (S : Sk) (a1 : Int32) (a2 : Int32) (a3 : Int32) (mm : Mm) : Option (Int32 × Sk × Mm) := (m_X11_asTold S a1 mm).bind (fun q1 => oM q1.1 (some ((-1 : Int32), q1.2.1, q1.2.2)) (fun c4 => gE c4 14 (gP (Lay q1.2.1) (if (m_X7_isThere a2 q1.2.2) = 0 then (some ((-1 : Int32), q1.2.1, q1.2.2)) else (if (m_X7_isThere a3 q1.2.2) = 0 then (some ((-1 : Int32), q1.2.1, q1.2.2)) else ((m_X0_likingsBetween a2 a3 q1.2.2).bind (fun q8 => some (q8, q1.2.1, q1.2.2))))))))
set_option maxHeartbeats 4000000 in
set_option maxRecDepth 100000 in
theorem c_X11_steps {l : Launch} {G : Gt} {S : Sk} {a1 : Int32} {a2 : Int32} {a3 : Int32} {mm : Mm} (hI : SI S) {q : Int32 × Sk × Mm} (e : m_X11_steps S a1 a2 a3 mm = some q) : CallOK l G M_X11_steps yX11_steps 5 [vr (some 0), vi a1, vi a2, vi a3] S mm (some (vi q.1)) q.2.1 q.2.2 := by
  have hS := hI.1
  refine call_of_run rfl rfl rfl (Nat.le_of_ble_eq_true rfl) ?_
  show Run l G M_X11_steps 5 0 [some (vr (some 0)), some (vi a1), some (vi a2), some (vi a3), none] [] S mm (some (vi q.1)) q.2.1 q.2.2
  unfold m_X11_steps at e
  refine r_aload_n dX11_steps_0 rfl ?_
  refine r_iload_n dX11_steps_1 rfl ?_
  obtain ⟨q1, eq2, e⟩ := obind e
  refine r_callV (as := [_]) (rest := []) dX11_steps_2 ml_X11_133 yV_X11_asTold (c_X11_asTold hI eq2) (by decide) rfl (lp_0 hS) (lq_0 hS) (Nat.le_of_ble_eq_true rfl) ?_
  refine r_astore dX11_steps_5 (by decide) rfl ?_
  refine r_aload dX11_steps_7 rfl ?_
  refine r_ifnull (tgt := 30) dX11_steps_9 rfl (fun h3 => ?_) (fun c4 h3 => ?_)
  · replace e := oM_none h3 e
    rw [h3]
    refine r_iconst (v := -1) dX11_steps_30 ci_m1 ?_
    cases e
    exact r_ireturn dX11_steps_31 rfl rfl
  · replace e := oM_some h3 e
    obtain ⟨he10, e⟩ := gE_some e
    subst he10
    rw [h3]
    refine r_aload dX11_steps_12 rfl ?_
    refine r_iload_n dX11_steps_14 rfl ?_
    obtain ⟨hn5, e⟩ := gP_some e
    refine r_callV (as := [_]) (rest := []) dX11_steps_15 ml_X11_137 yV_X7_isThere (c_X7_isThere hn5) (by decide) rfl (lp_14 hn5) (lq_14 hn5) (Nat.le_of_ble_eq_true rfl) ?_
    refine r_if_eq (tgt := 30) dX11_steps_18 rfl (fun h6 => ?_) (fun h6 => ?_)
    · replace e := ite_t h6 e
      refine r_iconst (v := -1) dX11_steps_30 ci_m1 ?_
      cases e
      exact r_ireturn dX11_steps_31 rfl rfl
    · replace e := ite_f h6 e
      refine r_aload dX11_steps_21 rfl ?_
      refine r_iload_n dX11_steps_23 rfl ?_
      refine r_callV (as := [_]) (rest := []) dX11_steps_24 ml_X11_137 yV_X7_isThere (c_X7_isThere hn5) (by decide) rfl (lp_14 hn5) (lq_14 hn5) (Nat.le_of_ble_eq_true rfl) ?_
      refine r_if_ne (tgt := 32) dX11_steps_27 rfl (fun h7 => ?_) (fun h7 => ?_)
      · replace e := ite_f h7 e
        refine r_aload dX11_steps_32 rfl ?_
        refine r_iload_n dX11_steps_34 rfl ?_
        refine r_iload_n dX11_steps_35 rfl ?_
        obtain ⟨q8, eq9, e⟩ := obind e
        refine r_callS (as := [_, _, _]) (rest := []) dX11_steps_36 ml_X11_249 yS_X0_likingsBetween (c_X0_likingsBetween hn5 eq9) (by decide) rfl (Nat.le_of_ble_eq_true rfl) ?_
        cases e
        exact r_ireturn dX11_steps_39 rfl rfl
      · replace e := ite_t h7 e
        refine r_iconst (v := -1) dX11_steps_30 ci_m1 ?_
        cases e
        exact r_ireturn dX11_steps_31 rfl rfl
noncomputable def m_X11_after (S : Sk) (a1 : Int32) (a2 : Int32) (a3 : Int32) (mm : Mm) : Option (Int32 × Sk × Mm) := (m_X9_countyAt S a1 mm).bind (fun q1 => (m_X9_rowsAt S (1 : Int32) a2 mm).bind (fun q3 => oM q1 (some ((-2 : Int32), S, mm)) (fun c6 => oM q3 (some ((-2 : Int32), S, mm)) (fun c8 => gk S c8 6 (gk S c6 2 ((m_X3_run S c6 c8 (mI mm c8 1) mm).bind (fun q11 => gP (Lay q11.2.1) ((m_X3_tellAfter q11.2.1 a3 q11.2.2).bind (fun q14 => some (q14.1, q11.2.1, q14.2))))))))))
set_option maxHeartbeats 4000000 in
set_option maxRecDepth 100000 in
theorem c_X11_after {l : Launch} {G : Gt} {S : Sk} {a1 : Int32} {a2 : Int32} {a3 : Int32} {mm : Mm} (hI : SI S) {q : Int32 × Sk × Mm} (e : m_X11_after S a1 a2 a3 mm = some q) : CallOK l G M_X11_after yX11_after 6 [vr (some 0), vi a1, vi a2, vi a3] S mm (some (vi q.1)) q.2.1 q.2.2 := by
  have hS := hI.1
  refine call_of_run rfl rfl rfl (Nat.le_of_ble_eq_true rfl) ?_
  show Run l G M_X11_after 6 0 [some (vr (some 0)), some (vi a1), some (vi a2), some (vi a3), none, none] [] S mm (some (vi q.1)) q.2.1 q.2.2
  unfold m_X11_after at e
  refine r_aload_n dX11_after_0 rfl ?_
  refine r_getR dX11_after_1 fl_X11_10 rfl (lp_0 hS) (lq_0 hS) (lr_0_0 hS) ?_
  refine r_iload_n dX11_after_4 rfl ?_
  obtain ⟨q1, eq2, e⟩ := obind e
  refine r_callV (as := [_]) (rest := []) dX11_after_5 ml_X11_105 yV_X9_countyAt (c_X9_countyAt hS eq2) (by decide) rfl (lp_1 hS) (lq_1 hS) (Nat.le_of_ble_eq_true rfl) ?_
  refine r_astore dX11_after_8 (by decide) rfl ?_
  refine r_aload_n dX11_after_10 rfl ?_
  refine r_getR dX11_after_11 fl_X11_10 rfl (lp_0 hS) (lq_0 hS) (lr_0_0 hS) ?_
  refine r_iconst (v := 1) dX11_after_14 ci_1 ?_
  refine r_iload_n dX11_after_15 rfl ?_
  obtain ⟨q3, eq4, e⟩ := obind e
  refine r_callV (as := [_, _]) (rest := []) dX11_after_16 ml_X11_115 yV_X9_rowsAt (c_X9_rowsAt hS eq4) (by decide) rfl (lp_1 hS) (lq_1 hS) (Nat.le_of_ble_eq_true rfl) ?_
  refine r_astore dX11_after_19 (by decide) rfl ?_
  refine r_aload dX11_after_21 rfl ?_
  refine r_ifnull (tgt := 31) dX11_after_23 rfl (fun h5 => ?_) (fun c6 h5 => ?_)
  · replace e := oM_none h5 e
    rw [h5]
    refine r_bipush (v := -2) dX11_after_31 cb_m2 ?_
    cases e
    exact r_ireturn dX11_after_33 rfl rfl
  · replace e := oM_some h5 e
    rw [h5]
    refine r_aload dX11_after_26 rfl ?_
    refine r_ifnonnull (tgt := 34) dX11_after_28 rfl (fun c8 h7 => ?_) (fun h7 => ?_)
    · replace e := oM_some h7 e
      rw [h7]
      refine r_aload_n dX11_after_34 rfl ?_
      refine r_getR dX11_after_35 fl_X11_30 rfl (lp_0 hS) (lq_0 hS) (lr_0_3 hS) ?_
      refine r_aload dX11_after_38 rfl ?_
      refine r_aload dX11_after_40 rfl ?_
      refine r_aload dX11_after_42 rfl ?_
      obtain ⟨hn9, e⟩ := gk_some e
      refine r_getI dX11_after_44 fl_X11_123 rfl hn9.1 hn9.2 ?_
      obtain ⟨hn10, e⟩ := gk_some e
      obtain ⟨q11, eq12, e⟩ := obind e
      refine r_callV (as := [_, _, _]) (rest := []) dX11_after_47 ml_X11_128 yV_X3_run (c_X3_run hI hn10 hn9 eq12) (by decide) rfl (lp_13 hS) (lq_13 hS) (Nat.le_of_ble_eq_true rfl) ?_
      refine r_pop dX11_after_50 rfl ?_
      refine r_aload_n dX11_after_51 rfl ?_
      obtain ⟨hn13, e⟩ := gP_some e
      refine r_getR dX11_after_52 fl_X11_30 rfl (lp_0 hn13) (lq_0 hn13) (lr_0_3 hn13) ?_
      refine r_iload_n dX11_after_55 rfl ?_
      obtain ⟨q14, eq15, e⟩ := obind e
      refine r_callV (as := [_]) (rest := []) dX11_after_56 ml_X11_253 yV_X3_tellAfter (c_X3_tellAfter hn13 eq15) (by decide) rfl (lp_13 hn13) (lq_13 hn13) (Nat.le_of_ble_eq_true rfl) ?_
      cases e
      exact r_ireturn dX11_after_59 rfl rfl
    · replace e := oM_none h7 e
      rw [h7]
      refine r_bipush (v := -2) dX11_after_31 cb_m2 ?_
      cases e
      exact r_ireturn dX11_after_33 rfl rfl
noncomputable def m_X11_count (a1 : Int32) (mm : Mm) : Option (Int32) := bS (if a1 < 0 then (some (.inl ())) else (if a1 < (4 : Int32) then (grd a1 4 (some (.inr (mI mm 3 (ix a1))))) else (some (.inl ()))) : Option ((Unit) ⊕ (Int32))) (fun p1 => some (-2 : Int32))
set_option maxHeartbeats 4000000 in
set_option maxRecDepth 100000 in
theorem c_X11_count {l : Launch} {G : Gt} {S : Sk} {a1 : Int32} {mm : Mm} (hS : Lay S) {q : Int32} (e : m_X11_count a1 mm = some q) : CallOK l G M_X11_count yX11_count 0 [vr (some 0), vi a1] S mm (some (vi q)) S mm := by
  refine call_of_run rfl rfl rfl (Nat.le_of_ble_eq_true rfl) ?_
  show Run l G M_X11_count 0 0 [some (vr (some 0)), some (vi a1)] [] S mm (some (vi q)) S mm
  unfold m_X11_count at e
  refine r_iload_n dX11_count_0 rfl ?_
  obtain ⟨x4, ep3, elx4, erx4⟩ := bS_some e
  have J2 : ∀ p1 : Unit, x4 = .inl p1 → Run l G M_X11_count 0 9 [none, none] [] S mm (some (vi q)) S mm := by
    intro p1 hp1
    replace e := elx4 p1 hp1
    refine r_bipush (v := -2) dX11_count_9 cb_m2 ?_
    refine r_goto (tgt := 23) dX11_count_11 rfl ?_
    cases e
    exact r_ireturn dX11_count_23 rfl rfl
  refine r_if_lt (tgt := 9) dX11_count_1 rfl (fun h5 => ?_) (fun h5 => ?_)
  · replace ep3 := ite_t h5 ep3
    cases ep3
    exact r_weak (L' := [none, none]) trivial (J2 _ rfl)
  · replace ep3 := ite_f h5 ep3
    refine r_iload_n dX11_count_4 rfl ?_
    refine r_iconst (v := 4) dX11_count_5 ci_4 ?_
    refine r_icmp_lt (tgt := 14) dX11_count_6 rfl (fun h6 => ?_) (fun h6 => ?_)
    · replace ep3 := ite_t h6 ep3
      refine r_aload_n dX11_count_14 rfl ?_
      refine r_getR dX11_count_15 fl_X11_10 rfl (lp_0 hS) (lq_0 hS) (lr_0_0 hS) ?_
      refine r_getR dX11_count_18 fl_X11_256 rfl (lp_1 hS) (lq_1 hS) (lr_1_4 hS) ?_
      refine r_iload_n dX11_count_21 rfl ?_
      obtain ⟨hg7, ep3⟩ := grd_some ep3
      refine r_iald dX11_count_22 (lp_3 hS) (lk_3 hS) hg7 ?_
      cases ep3
      have e := congrArg some (erx4 _ rfl)
      cases e
      exact r_ireturn dX11_count_23 rfl rfl
    · replace ep3 := ite_f h6 ep3
      cases ep3
      exact r_weak (L' := [none, none]) trivial (J2 _ rfl)
noncomputable def m_X11_image (S : Sk) (a1 : Int32) (mm : Mm) : Option (Int32 × Sk × Mm) := if a1 < 0 then (some ((0 : Int32), S, mm)) else (if a1 < (3 : Int32) then (grd a1 3 ((oM (sR S 6 (ix a1)) ((m_X9_init (nwS S 9 0 7) S.1 (nwM S mm)).bind (fun q11 => gP (Lay q11.1) (gk q11.1 S.1 9 (grd a1 3 (some ((sRs q11.1 6 (ix a1) (some S.1)), q11.2)))))) (fun c9 => some (S, mm)) : Option (Sk × Mm)).bind (fun p4 => gP (Lay p4.1) (grd a1 3 (gO (sR p4.1 6 (ix a1)) (fun c18 => gk p4.1 c18 9 (gP (SI p4.1) ((m_X9_copyOf p4.1 c18 1 p4.2).bind (fun q22 => some ((1 : Int32), q22.1, q22.2)))))))))) else (some ((0 : Int32), S, mm)))
set_option maxHeartbeats 4000000 in
set_option maxRecDepth 100000 in
theorem c_X11_image {l : Launch} {G : Gt} {S : Sk} {a1 : Int32} {mm : Mm} (hS : Lay S) {q : Int32 × Sk × Mm} (e : m_X11_image S a1 mm = some q) : CallOK l G M_X11_image yX11_image 2 [vr (some 0), vi a1] S mm (some (vi q.1)) q.2.1 q.2.2 := by
  refine call_of_run rfl rfl rfl (Nat.le_of_ble_eq_true rfl) ?_
  show Run l G M_X11_image 2 0 [some (vr (some 0)), some (vi a1)] [] S mm (some (vi q.1)) q.2.1 q.2.2
  unfold m_X11_image at e
  refine r_iload_n dX11_image_0 rfl ?_
  refine r_if_lt (tgt := 9) dX11_image_1 rfl (fun h1 => ?_) (fun h1 => ?_)
  · replace e := ite_t h1 e
    refine r_iconst (v := 0) dX11_image_9 ci_0 ?_
    cases e
    exact r_ireturn dX11_image_10 rfl (nz_b (by first | exact Or.inl rfl | exact Or.inr rfl)).1
  · replace e := ite_f h1 e
    refine r_iload_n dX11_image_4 rfl ?_
    refine r_iconst (v := 3) dX11_image_5 ci_3 ?_
    refine r_icmp_lt (tgt := 11) dX11_image_6 rfl (fun h2 => ?_) (fun h2 => ?_)
    · replace e := ite_t h2 e
      refine r_aload_n dX11_image_11 rfl ?_
      refine r_getR dX11_image_12 fl_X11_16 rfl (lp_0 hS) (lq_0 hS) (lr_0_1 hS) ?_
      refine r_iload_n dX11_image_15 rfl ?_
      obtain ⟨hg3, e⟩ := grd_some e
      refine r_aald dX11_image_16 (lp_6 hS) (lk_6 hS) (by decide) (by decide) hg3 rfl ?_
      obtain ⟨p4, ep6, e⟩ := obind e
      have J5a : Run l G M_X11_image 2 33 [some (vr (some 0)), some (vi a1)] [] p4.1 p4.2 (some (vi q.1)) q.2.1 q.2.2 := by
        refine r_aload_n dX11_image_33 rfl ?_
        obtain ⟨hn16, e⟩ := gP_some e
        refine r_getR dX11_image_34 fl_X11_16 rfl (lp_0 hn16) (lq_0 hn16) (lr_0_1 hn16) ?_
        refine r_iload_n dX11_image_37 rfl ?_
        obtain ⟨hg17, e⟩ := grd_some e
        refine r_aald dX11_image_38 (lp_6 hn16) (lk_6 hn16) (by decide) (by decide) hg17 rfl ?_
        refine r_aload_n dX11_image_39 rfl ?_
        refine r_getR dX11_image_40 fl_X11_10 rfl (lp_0 hn16) (lq_0 hn16) (lr_0_0 hn16) ?_
        obtain ⟨c18, ho19, e⟩ := gO_some e
        rw [ho19]
        obtain ⟨hn20, e⟩ := gk_some e
        obtain ⟨hn21, e⟩ := gP_some e
        obtain ⟨q22, eq23, e⟩ := obind e
        refine r_callV (as := [_]) (rest := []) dX11_image_43 ml_X11_259 yV_X9_copyOf (c_X9_copyOf hn21 hn20 ⟨lp_1 hn21.1, lq_1 hn21.1⟩ eq23) (by decide) rfl hn20.1 hn20.2 (Nat.le_of_ble_eq_true rfl) ?_
        refine r_iconst (v := 1) dX11_image_46 ci_1 ?_
        cases e
        exact r_ireturn dX11_image_47 rfl (nz_b (by first | exact Or.inl rfl | exact Or.inr rfl)).1
      have J5 : ∀ pp : Sk × Mm, pp = p4 → Run l G M_X11_image 2 33 [some (vr (some 0)), some (vi a1)] [] pp.1 pp.2 (some (vi q.1)) q.2.1 q.2.2 := by
        intro pp hpp
        rw [hpp]
        exact J5a
      refine r_ifnonnull (tgt := 33) dX11_image_17 rfl (fun c9 h8 => ?_) (fun h8 => ?_)
      · replace ep6 := oM_some h8 ep6
        exact r_weak (L' := [some (vr (some 0)), some (vi a1)]) ⟨rfl, rfl, trivial⟩ (J5 _ (Option.some.inj ep6))
      · replace ep6 := oM_none h8 ep6
        refine r_aload_n dX11_image_20 rfl ?_
        refine r_getR dX11_image_21 fl_X11_16 rfl (lp_0 hS) (lq_0 hS) (lr_0_1 hS) ?_
        refine r_iload_n dX11_image_24 rfl ?_
        refine r_new dX11_image_25 nw_X11_7 ?_
        have hn10 : KD (nwS S 9 0 7) S.1 9 := kd_new
        refine r_dup dX11_image_28 rfl ?_
        obtain ⟨q11, eq12, ep6⟩ := obind ep6
        refine r_callIN (as := []) (rest := [_, _, _]) dX11_image_29 nl_X11_9 yI_X9_init (c_X9_init hn10 eq12) (by decide) rfl (Nat.le_of_ble_eq_true rfl) ?_
        obtain ⟨hn13, ep6⟩ := gP_some ep6
        obtain ⟨hn14, ep6⟩ := gk_some ep6
        obtain ⟨hg15, ep6⟩ := grd_some ep6
        refine r_aast dX11_image_32 (lp_6 hn13) (lk_6 hn13) (by decide) (by decide) hg15 (fun v hv => by cases hv; exact hn14) ?_
        exact r_weak (L' := [some (vr (some 0)), some (vi a1)]) ⟨rfl, rfl, trivial⟩ (J5 _ (Option.some.inj ep6))
    · replace e := ite_f h2 e
      refine r_iconst (v := 0) dX11_image_9 ci_0 ?_
      cases e
      exact r_ireturn dX11_image_10 rfl (nz_b (by first | exact Or.inl rfl | exact Or.inr rfl)).1
noncomputable def m_X11_again (S : Sk) (a1 : Int32) (mm : Mm) : Option (Int32 × Sk × Mm) := if a1 < 0 then (some ((0 : Int32), S, mm)) else (if (3 : Int32) ≤ a1 then (some ((0 : Int32), S, mm)) else (grd a1 3 (oM (sR S 6 (ix a1)) (some ((0 : Int32), S, mm)) (fun c5 => grd a1 3 (gk S c5 9 ((m_X9_copyOf S 1 c5 mm).bind (fun q8 => some ((1 : Int32), q8.1, q8.2))))))))
set_option maxHeartbeats 4000000 in
set_option maxRecDepth 100000 in
theorem c_X11_again {l : Launch} {G : Gt} {S : Sk} {a1 : Int32} {mm : Mm} (hI : SI S) {q : Int32 × Sk × Mm} (e : m_X11_again S a1 mm = some q) : CallOK l G M_X11_again yX11_again 2 [vr (some 0), vi a1] S mm (some (vi q.1)) q.2.1 q.2.2 := by
  have hS := hI.1
  refine call_of_run rfl rfl rfl (Nat.le_of_ble_eq_true rfl) ?_
  show Run l G M_X11_again 2 0 [some (vr (some 0)), some (vi a1)] [] S mm (some (vi q.1)) q.2.1 q.2.2
  unfold m_X11_again at e
  refine r_iload_n dX11_again_0 rfl ?_
  refine r_if_lt (tgt := 18) dX11_again_1 rfl (fun h1 => ?_) (fun h1 => ?_)
  · replace e := ite_t h1 e
    refine r_iconst (v := 0) dX11_again_18 ci_0 ?_
    cases e
    exact r_ireturn dX11_again_19 rfl (nz_b (by first | exact Or.inl rfl | exact Or.inr rfl)).1
  · replace e := ite_f h1 e
    refine r_iload_n dX11_again_4 rfl ?_
    refine r_iconst (v := 3) dX11_again_5 ci_3 ?_
    refine r_icmp_ge (tgt := 18) dX11_again_6 rfl (fun h2 => ?_) (fun h2 => ?_)
    · replace e := ite_t h2 e
      refine r_iconst (v := 0) dX11_again_18 ci_0 ?_
      cases e
      exact r_ireturn dX11_again_19 rfl (nz_b (by first | exact Or.inl rfl | exact Or.inr rfl)).1
    · replace e := ite_f h2 e
      refine r_aload_n dX11_again_9 rfl ?_
      refine r_getR dX11_again_10 fl_X11_16 rfl (lp_0 hS) (lq_0 hS) (lr_0_1 hS) ?_
      refine r_iload_n dX11_again_13 rfl ?_
      obtain ⟨hg3, e⟩ := grd_some e
      refine r_aald dX11_again_14 (lp_6 hS) (lk_6 hS) (by decide) (by decide) hg3 rfl ?_
      refine r_ifnonnull (tgt := 20) dX11_again_15 rfl (fun c5 h4 => ?_) (fun h4 => ?_)
      · replace e := oM_some h4 e
        refine r_aload_n dX11_again_20 rfl ?_
        refine r_getR dX11_again_21 fl_X11_10 rfl (lp_0 hS) (lq_0 hS) (lr_0_0 hS) ?_
        refine r_aload_n dX11_again_24 rfl ?_
        refine r_getR dX11_again_25 fl_X11_16 rfl (lp_0 hS) (lq_0 hS) (lr_0_1 hS) ?_
        refine r_iload_n dX11_again_28 rfl ?_
        obtain ⟨hg6, e⟩ := grd_some e
        refine r_aald dX11_again_29 (lp_6 hS) (lk_6 hS) (by decide) (by decide) hg6 h4 ?_
        obtain ⟨hn7, e⟩ := gk_some e
        obtain ⟨q8, eq9, e⟩ := obind e
        refine r_callV (as := [_]) (rest := []) dX11_again_30 ml_X11_259 yV_X9_copyOf (c_X9_copyOf hI ⟨lp_1 hS, lq_1 hS⟩ hn7 eq9) (by decide) rfl (lp_1 hS) (lq_1 hS) (Nat.le_of_ble_eq_true rfl) ?_
        refine r_iconst (v := 1) dX11_again_33 ci_1 ?_
        cases e
        exact r_ireturn dX11_again_34 rfl (nz_b (by first | exact Or.inl rfl | exact Or.inr rfl)).1
      · replace e := oM_none h4 e
        refine r_iconst (v := 0) dX11_again_18 ci_0 ?_
        cases e
        exact r_ireturn dX11_again_19 rfl (nz_b (by first | exact Or.inl rfl | exact Or.inr rfl)).1
