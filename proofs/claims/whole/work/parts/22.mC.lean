def m_X12_state (a1 : Int32) (a2 : Int32) (a3 : Int32) (a4 : Int32) (mm : Mm) : Option (Int32 × Mm) := (m_X12_layAll a1 a2 (sI mm 44 0 (0 : Int32))).bind (fun q1 => if q1.1 = 0 then (some ((-1 : Int32), q1.2)) else ((m_X12_deeds q1.2).bind (fun q4 => if (m_X12_in a3 (0 : Int32) q4) = 0 then (some ((-1 : Int32), q1.2)) else ((m_X12_play a3 q1.2).bind (fun q7 => if q7.1 = a3 then ((m_X12_ofState a4 q7.2).bind (fun q10 => some (q10, q7.2))) else (some ((-1 : Int32), q7.2)))))))
set_option maxHeartbeats 4000000 in
set_option maxRecDepth 100000 in
theorem c_X12_state {l : Launch} {G : Gt} {S : Sk} (hS : Lay S) {a1 : Int32} {a2 : Int32} {a3 : Int32} {a4 : Int32} {mm : Mm} {q : Int32 × Mm} (e : m_X12_state a1 a2 a3 a4 mm = some q) : CallOK l G M_X12_state yX12_state 9 [vr (some 44), vi a1, vi a2, vi a3, vi a4] S mm (some (vi q.1)) S q.2 := by
  refine call_of_run rfl rfl rfl (Nat.le_of_ble_eq_true rfl) ?_
  show Run l G M_X12_state 9 0 [some (vr (some 44)), some (vi a1), some (vi a2), some (vi a3), some (vi a4)] [] S mm (some (vi q.1)) S q.2
  unfold m_X12_state at e
  refine r_aload_n dX12_state_0 rfl ?_
  refine r_iconst (v := 0) dX12_state_1 ci_0 ?_
  refine r_putI dX12_state_2 fl_X12_90 ft_12_0 (Or.inl rfl) rfl rfl rfl (lp_44 hS) (lq_44 hS) ?_
  refine r_aload_n dX12_state_5 rfl ?_
  refine r_iload_n dX12_state_6 rfl ?_
  refine r_iload_n dX12_state_7 rfl ?_
  obtain ⟨q1, eq2, e⟩ := obind e
  refine r_callV (as := [_, _]) (rest := []) dX12_state_8 ml_X12_362 yV_X12_layAll (c_X12_layAll hS eq2) (by decide) rfl (lp_44 hS) (lq_44 hS) (Nat.le_of_ble_eq_true rfl) ?_
  refine r_if_eq (tgt := 44) dX12_state_11 rfl (fun h3 => ?_) (fun h3 => ?_)
  · replace e := ite_t h3 e
    refine r_iconst (v := -1) dX12_state_44 ci_m1 ?_
    cases e
    exact r_ireturn dX12_state_45 rfl rfl
  · replace e := ite_f h3 e
    refine r_iload_n dX12_state_14 rfl ?_
    refine r_iconst (v := 0) dX12_state_15 ci_0 ?_
    refine r_aload_n dX12_state_16 rfl ?_
    obtain ⟨q4, eq5, e⟩ := obind e
    refine r_callV (as := []) (rest := [_, _]) dX12_state_17 ml_X12_322 yV_X12_deeds (c_X12_deeds hS eq5) (by decide) rfl (lp_44 hS) (lq_44 hS) (Nat.le_of_ble_eq_true rfl) ?_
    refine r_callS (as := [_, _, _]) (rest := []) dX12_state_20 ml_X12_102 yS_X12_in (c_X12_in hS) (by decide) rfl (Nat.le_of_ble_eq_true rfl) ?_
    refine r_if_eq (tgt := 44) dX12_state_23 rfl (fun h6 => ?_) (fun h6 => ?_)
    · replace e := ite_t h6 e
      refine r_iconst (v := -1) dX12_state_44 ci_m1 ?_
      cases e
      exact r_ireturn dX12_state_45 rfl rfl
    · replace e := ite_f h6 e
      refine r_aload_n dX12_state_26 rfl ?_
      refine r_iload_n dX12_state_27 rfl ?_
      obtain ⟨q7, eq8, e⟩ := obind e
      refine r_callV (as := [_]) (rest := []) dX12_state_28 ml_X12_365 yV_X12_play (c_X12_play hS eq8) (by decide) rfl (lp_44 hS) (lq_44 hS) (Nat.le_of_ble_eq_true rfl) ?_
      refine r_iload_n dX12_state_31 rfl ?_
      refine r_icmp_ne (tgt := 44) dX12_state_32 rfl (fun h9 => ?_) (fun h9 => ?_)
      · replace e := ite_f h9 e
        refine r_iconst (v := -1) dX12_state_44 ci_m1 ?_
        cases e
        exact r_ireturn dX12_state_45 rfl rfl
      · replace e := ite_t h9 e
        refine r_aload_n dX12_state_35 rfl ?_
        refine r_iload dX12_state_36 rfl ?_
        obtain ⟨q10, eq11, e⟩ := obind e
        refine r_callV (as := [_]) (rest := []) dX12_state_38 ml_X12_374 yV_X12_ofState (c_X12_ofState hS eq11) (by decide) rfl (lp_44 hS) (lq_44 hS) (Nat.le_of_ble_eq_true rfl) ?_
        refine r_goto (tgt := 45) dX12_state_41 rfl ?_
        cases e
        exact r_ireturn dX12_state_45 rfl rfl
def m_X12_needOf (a1 : Int32) (mm : Mm) : Option (Int32) := grd a1 16 ((m_X12_of ((20 : Int32) + (mI mm 62 (ix a1))) mm).bind (fun q2 => grd a1 16 (grd a1 16 ((m_X12_heartOf (mI mm 60 (ix a1)) (mI mm 61 (ix a1)) mm).bind (fun q6 => some (m_X12_greater (0 : Int32) (q2 - q6)))))))
set_option maxHeartbeats 4000000 in
set_option maxRecDepth 100000 in
theorem c_X12_needOf {l : Launch} {G : Gt} {S : Sk} (hS : Lay S) {a1 : Int32} {mm : Mm} {q : Int32} (e : m_X12_needOf a1 mm = some q) : CallOK l G M_X12_needOf yX12_needOf 2 [vr (some 44), vi a1] S mm (some (vi q)) S mm := by
  refine call_of_run rfl rfl rfl (Nat.le_of_ble_eq_true rfl) ?_
  show Run l G M_X12_needOf 2 0 [some (vr (some 44)), some (vi a1)] [] S mm (some (vi q)) S mm
  unfold m_X12_needOf at e
  refine r_iconst (v := 0) dX12_needOf_0 ci_0 ?_
  refine r_aload_n dX12_needOf_1 rfl ?_
  refine r_bipush (v := 20) dX12_needOf_2 cb_20 ?_
  refine r_aload_n dX12_needOf_4 rfl ?_
  refine r_getR dX12_needOf_5 fl_X12_62 rfl (lp_44 hS) (lq_44 hS) (lr_44_37 hS) ?_
  refine r_iload_n dX12_needOf_8 rfl ?_
  obtain ⟨hg1, e⟩ := grd_some e
  refine r_iald dX12_needOf_9 (lp_62 hS) (lk_62 hS) hg1 ?_
  refine r_iadd dX12_needOf_10 ?_
  obtain ⟨q2, eq3, e⟩ := obind e
  refine r_callV (as := [_]) (rest := [_]) dX12_needOf_11 ml_X12_276 yV_X12_of (c_X12_of hS eq3) (by decide) rfl (lp_44 hS) (lq_44 hS) (Nat.le_of_ble_eq_true rfl) ?_
  refine r_aload_n dX12_needOf_14 rfl ?_
  refine r_aload_n dX12_needOf_15 rfl ?_
  refine r_getR dX12_needOf_16 fl_X12_56 rfl (lp_44 hS) (lq_44 hS) (lr_44_35 hS) ?_
  refine r_iload_n dX12_needOf_19 rfl ?_
  obtain ⟨hg4, e⟩ := grd_some e
  refine r_iald dX12_needOf_20 (lp_60 hS) (lk_60 hS) hg4 ?_
  refine r_aload_n dX12_needOf_21 rfl ?_
  refine r_getR dX12_needOf_22 fl_X12_59 rfl (lp_44 hS) (lq_44 hS) (lr_44_36 hS) ?_
  refine r_iload_n dX12_needOf_25 rfl ?_
  obtain ⟨hg5, e⟩ := grd_some e
  refine r_iald dX12_needOf_26 (lp_61 hS) (lk_61 hS) hg5 ?_
  obtain ⟨q6, eq7, e⟩ := obind e
  refine r_callV (as := [_, _]) (rest := [_, _]) dX12_needOf_27 ml_X12_292 yV_X12_heartOf (c_X12_heartOf hS eq7) (by decide) rfl (lp_44 hS) (lq_44 hS) (Nat.le_of_ble_eq_true rfl) ?_
  refine r_isub dX12_needOf_30 ?_
  refine r_callS (as := [_, _]) (rest := []) dX12_needOf_31 ml_X12_178 yS_X12_greater (c_X12_greater hS) (by decide) rfl (Nat.le_of_ble_eq_true rfl) ?_
  cases e
  exact r_ireturn dX12_needOf_34 rfl rfl
def m_X12_visitsBy_b3 (z1 : Int32 × Mm) : Option ((Int32 × Mm) ⊕ (Mm)) := if (6 : Int32) ≤ z1.1 then (some (.inr z1.2)) else (grd z1.1 6 (some (.inl (z1.1 + (1 : Int32), (sI z1.2 64 (ix z1.1) (0 : Int32))))))
def m_X12_visitsBy_b30 (a2 : Int32) (a3 : Int32) (z9 : Int32 × Int32 × Mm) : Option ((Int32 × Int32 × Mm) ⊕ ((Mm) ⊕ (Int32 × Mm))) := if (8 : Int32) ≤ z9.2.1 then (some (.inr (.inl z9.2.2))) else (bS (if (m_X12_has a3 z9.2.1) = 0 then (some (.inl (z9.1, z9.2.2))) else (if (mI z9.2.2 44 25) ≤ (xrem z9.1 (12 : Int32)) then (some (.inr (.inr (.inr ((-1 : Int32), z9.2.2))))) else (grd (xrem z9.1 (12 : Int32)) 16 (if (mI z9.2.2 61 (ix (xrem z9.1 (12 : Int32)))) = a2 then (grd (xrem z9.1 (12 : Int32)) 16 (if (mI z9.2.2 62 (ix (xrem z9.1 (12 : Int32)))) = z9.2.1 then (grd (xrem z9.1 (12 : Int32)) 16 (grd (xrem z9.1 (12 : Int32)) 16 (grd (mI z9.2.2 60 (ix (xrem z9.1 (12 : Int32)))) 6 ((m_X12_needOf (xrem z9.1 (12 : Int32)) z9.2.2).bind (fun q29 => grd (mI z9.2.2 60 (ix (xrem z9.1 (12 : Int32)))) 6 (some (.inl (z9.1 / (12 : Int32), (sI z9.2.2 64 (ix (mI z9.2.2 60 (ix (xrem z9.1 (12 : Int32))))) (m_X12_greater (mI z9.2.2 64 (ix (mI z9.2.2 60 (ix (xrem z9.1 (12 : Int32)))))) q29)))))))))) else (some (.inr (.inr (.inr ((-1 : Int32), z9.2.2))))))) else (some (.inr (.inr (.inr ((-1 : Int32), z9.2.2)))))))) : Option ((Int32 × Mm) ⊕ ((Int32 × Int32 × Mm) ⊕ ((Mm) ⊕ (Int32 × Mm))))) (fun p16 => some (.inl (p16.1, z9.2.1 + (1 : Int32), p16.2))))
def m_X12_visitsBy_b139 (p10 : Mm) (z32 : Int32 × Int32) : Option ((Int32 × Int32) ⊕ (Int32)) := if (6 : Int32) ≤ z32.2 then (some (.inr z32.1)) else (grd z32.2 6 (some (.inl (z32.1 + (mI p10 64 (ix z32.2)), z32.2 + (1 : Int32)))))
def m_X12_visitsBy (a1 : Int32) (a2 : Int32) (a3 : Int32) (mm : Mm) : Option (Int32 × Mm) := (whileF FU (m_X12_visitsBy_b3) ((0 : Int32), mm)).bind (fun p2 => bS (whileF FU (m_X12_visitsBy_b30 a2 a3) (a1, (0 : Int32), p2)) (fun p10 => (whileF FU (m_X12_visitsBy_b139 p10) ((0 : Int32), (0 : Int32))).bind (fun p33 => some (p33, p10))))
set_option maxHeartbeats 4000000 in
set_option maxRecDepth 100000 in
theorem c_X12_visitsBy {l : Launch} {G : Gt} {S : Sk} (hS : Lay S) {a1 : Int32} {a2 : Int32} {a3 : Int32} {mm : Mm} {q : Int32 × Mm} (e : m_X12_visitsBy a1 a2 a3 mm = some q) : CallOK l G M_X12_visitsBy yX12_visitsBy 3 [vr (some 44), vi a1, vi a2, vi a3] S mm (some (vi q.1)) S q.2 := by
  refine call_of_run rfl rfl rfl (Nat.le_of_ble_eq_true rfl) ?_
  show Run l G M_X12_visitsBy 3 0 [some (vr (some 44)), some (vi a1), some (vi a2), some (vi a3), none, none, none] [] S mm (some (vi q.1)) S q.2
  unfold m_X12_visitsBy at e
  refine r_iconst (v := 0) dX12_visitsBy_0 ci_0 ?_
  refine r_istore dX12_visitsBy_1 (by decide) rfl ?_
  obtain ⟨p2, eb6w, e⟩ := obind e
  have J3a : Run l G M_X12_visitsBy 3 24 [some (vr (some 44)), some (vi a1), some (vi a2), some (vi a3), none, none, none] [] S p2 (some (vi q.1)) S q.2 := by
    refine r_iload_n dX12_visitsBy_24 rfl ?_
    refine r_istore dX12_visitsBy_25 (by decide) rfl ?_
    refine r_iconst (v := 0) dX12_visitsBy_27 ci_0 ?_
    refine r_istore dX12_visitsBy_28 (by decide) rfl ?_
    obtain ⟨x12, eb14w, elx12, erx12⟩ := bS_some e
    have J11 : ∀ p10 : Mm, x12 = .inl p10 → Run l G M_X12_visitsBy 3 133 [some (vr (some 44)), none, none, none, none, none, none] [] S p10 (some (vi q.1)) S q.2 := by
      intro p10 hp10
      replace e := elx12 p10 hp10
      refine r_iconst (v := 0) dX12_visitsBy_133 ci_0 ?_
      refine r_istore dX12_visitsBy_134 (by decide) rfl ?_
      refine r_iconst (v := 0) dX12_visitsBy_136 ci_0 ?_
      refine r_istore dX12_visitsBy_137 (by decide) rfl ?_
      obtain ⟨p33, eb37w, e⟩ := obind e
      have J34a : Run l G M_X12_visitsBy 3 164 [none, none, none, none, none, some (vi p33), none] [] S p10 (some (vi q.1)) S q.2 := by
        refine r_iload dX12_visitsBy_164 rfl ?_
        cases e
        exact r_ireturn dX12_visitsBy_166 rfl rfl
      have J34 : ∀ pp : Int32, pp = p33 → Run l G M_X12_visitsBy 3 164 [none, none, none, none, none, some (vi pp), none] [] S p10 (some (vi q.1)) S q.2 := by
        intro pp hpp
        rw [hpp]
        exact J34a
      have J34w : Run l G M_X12_visitsBy 3 139 [some (vr (some 44)), none, none, none, none, some (vi (0 : Int32)), some (vi (0 : Int32))] [] S p10 (some (vi q.1)) S q.2 := by
        refine while_run (s := ((0 : Int32), (0 : Int32))) (Gs := fun (z32 : Int32 × Int32) => Run l G M_X12_visitsBy 3 139 [some (vr (some 44)), none, none, none, none, some (vi z32.1), some (vi z32.2)] [] S p10 (some (vi q.1)) S q.2) eb37w ?_
        intro z32 x35y eb37 hx36
        unfold m_X12_visitsBy_b139 at eb37
        refine r_iload dX12_visitsBy_139 rfl ?_
        refine r_bipush (v := 6) dX12_visitsBy_141 cb_6 ?_
        refine r_icmp_ge (tgt := 164) dX12_visitsBy_143 rfl (fun h38 => ?_) (fun h38 => ?_)
        · replace eb37 := ite_t h38 eb37
          cases eb37
          exact r_weak (L' := [none, none, none, none, none, some (vi z32.1), none]) ⟨rfl, trivial⟩ (J34 _ hx36)
        · replace eb37 := ite_f h38 eb37
          refine r_iload dX12_visitsBy_146 rfl ?_
          refine r_aload_n dX12_visitsBy_148 rfl ?_
          refine r_getR dX12_visitsBy_149 fl_X12_68 rfl (lp_44 hS) (lq_44 hS) (lr_44_40 hS) ?_
          refine r_iload dX12_visitsBy_152 rfl ?_
          obtain ⟨hg39, eb37⟩ := grd_some eb37
          refine r_iald dX12_visitsBy_154 (lp_64 hS) (lk_64 hS) hg39 ?_
          refine r_iadd dX12_visitsBy_155 ?_
          refine r_istore dX12_visitsBy_156 (by decide) rfl ?_
          refine r_iinc (v := _ + (1 : Int32)) dX12_visitsBy_158 rfl (congrArg (_ + ·) ci_1) (by decide) rfl ?_
          refine r_goto (tgt := 139) dX12_visitsBy_161 rfl ?_
          cases eb37
          exact r_weak (L' := [some (vr (some 44)), none, none, none, none, some (vi (z32.1 + (mI p10 64 (ix z32.2)))), some (vi (z32.2 + (1 : Int32)))]) ⟨rfl, rfl, rfl, trivial⟩ hx36
      exact r_weak (L' := [some (vr (some 44)), none, none, none, none, some (vi (0 : Int32)), some (vi (0 : Int32))]) ⟨rfl, rfl, rfl, trivial⟩ J34w
    have J11w : Run l G M_X12_visitsBy 3 30 [some (vr (some 44)), none, some (vi a2), some (vi a3), some (vi a1), some (vi (0 : Int32)), none] [] S p2 (some (vi q.1)) S q.2 := by
      refine while_run (s := (a1, (0 : Int32), p2)) (Gs := fun (z9 : Int32 × Int32 × Mm) => Run l G M_X12_visitsBy 3 30 [some (vr (some 44)), none, some (vi a2), some (vi a3), some (vi z9.1), some (vi z9.2.1), none] [] S z9.2.2 (some (vi q.1)) S q.2) eb14w ?_
      intro z9 x12y eb14 hx13
      unfold m_X12_visitsBy_b30 at eb14
      refine r_iload dX12_visitsBy_30 rfl ?_
      refine r_bipush (v := 8) dX12_visitsBy_32 cb_8 ?_
      refine r_icmp_ge (tgt := 133) dX12_visitsBy_34 rfl (fun h15 => ?_) (fun h15 => ?_)
      · replace eb14 := ite_t h15 eb14
        cases eb14
        exact r_weak (L' := [some (vr (some 44)), none, none, none, none, none, none]) ⟨rfl, trivial⟩ (J11 _ (Eq.symm hx13))
      · replace eb14 := ite_f h15 eb14
        refine r_iload_n dX12_visitsBy_37 rfl ?_
        refine r_iload dX12_visitsBy_38 rfl ?_
        refine r_callS (as := [_, _]) (rest := []) dX12_visitsBy_40 ml_X12_94 yS_X12_has (c_X12_has hS) (by decide) rfl (Nat.le_of_ble_eq_true rfl) ?_
        obtain ⟨x19, ep18, elx19, erx19⟩ := bS_some eb14
        have J17 : ∀ p16 : Int32 × Mm, x19 = .inl p16 → Run l G M_X12_visitsBy 3 127 [some (vr (some 44)), none, some (vi a2), some (vi a3), some (vi p16.1), some (vi z9.2.1), none] [] S p16.2 (some (vi q.1)) S q.2 := by
          intro p16 hp16
          replace eb14 := elx19 p16 hp16
          refine r_iinc (v := _ + (1 : Int32)) dX12_visitsBy_127 rfl (congrArg (_ + ·) ci_1) (by decide) rfl ?_
          refine r_goto (tgt := 30) dX12_visitsBy_130 rfl ?_
          cases eb14
          exact r_weak (L' := [some (vr (some 44)), none, some (vi a2), some (vi a3), some (vi p16.1), some (vi (z9.2.1 + (1 : Int32))), none]) ⟨rfl, rfl, rfl, rfl, rfl, trivial⟩ hx13
        refine r_if_eq (tgt := 127) dX12_visitsBy_43 rfl (fun h20 => ?_) (fun h20 => ?_)
        · replace ep18 := ite_t h20 ep18
          cases ep18
          exact r_weak (L' := [some (vr (some 44)), none, some (vi a2), some (vi a3), some (vi z9.1), some (vi z9.2.1), none]) ⟨rfl, rfl, rfl, rfl, rfl, trivial⟩ (J17 _ rfl)
        · replace ep18 := ite_f h20 ep18
          refine r_iload dX12_visitsBy_46 rfl ?_
          refine r_bipush (v := 12) dX12_visitsBy_48 cb_12 ?_
          refine r_irem dX12_visitsBy_50 (by decide) ?_
          refine r_istore dX12_visitsBy_51 (by decide) rfl ?_
          refine r_iload dX12_visitsBy_53 rfl ?_
          refine r_bipush (v := 12) dX12_visitsBy_55 cb_12 ?_
          refine r_idiv dX12_visitsBy_57 (by decide) ?_
          refine r_istore dX12_visitsBy_58 (by decide) rfl ?_
          refine r_iload dX12_visitsBy_60 rfl ?_
          refine r_aload_n dX12_visitsBy_62 rfl ?_
          refine r_getI dX12_visitsBy_63 fl_X12_280 rfl (lp_44 hS) (lq_44 hS) ?_
          refine r_icmp_ge (tgt := 92) dX12_visitsBy_66 rfl (fun h21 => ?_) (fun h21 => ?_)
          · replace ep18 := ite_t h21 ep18
            refine r_iconst (v := -1) dX12_visitsBy_92 ci_m1 ?_
            cases ep18
            have eb14 := congrArg some (erx19 _ rfl)
            cases eb14
            have e := congrArg some (erx12 _ (Eq.symm hx13))
            cases e
            exact r_ireturn dX12_visitsBy_93 rfl rfl
          · replace ep18 := ite_f h21 ep18
            refine r_aload_n dX12_visitsBy_69 rfl ?_
            refine r_getR dX12_visitsBy_70 fl_X12_59 rfl (lp_44 hS) (lq_44 hS) (lr_44_36 hS) ?_
            refine r_iload dX12_visitsBy_73 rfl ?_
            obtain ⟨hg22, ep18⟩ := grd_some ep18
            refine r_iald dX12_visitsBy_75 (lp_61 hS) (lk_61 hS) hg22 ?_
            refine r_iload_n dX12_visitsBy_76 rfl ?_
            refine r_icmp_ne (tgt := 92) dX12_visitsBy_77 rfl (fun h23 => ?_) (fun h23 => ?_)
            · replace ep18 := ite_f h23 ep18
              refine r_iconst (v := -1) dX12_visitsBy_92 ci_m1 ?_
              cases ep18
              have eb14 := congrArg some (erx19 _ rfl)
              cases eb14
              have e := congrArg some (erx12 _ (Eq.symm hx13))
              cases e
              exact r_ireturn dX12_visitsBy_93 rfl rfl
            · replace ep18 := ite_t h23 ep18
              refine r_aload_n dX12_visitsBy_80 rfl ?_
              refine r_getR dX12_visitsBy_81 fl_X12_62 rfl (lp_44 hS) (lq_44 hS) (lr_44_37 hS) ?_
              refine r_iload dX12_visitsBy_84 rfl ?_
              obtain ⟨hg24, ep18⟩ := grd_some ep18
              refine r_iald dX12_visitsBy_86 (lp_62 hS) (lk_62 hS) hg24 ?_
              refine r_iload dX12_visitsBy_87 rfl ?_
              refine r_icmp_eq (tgt := 94) dX12_visitsBy_89 rfl (fun h25 => ?_) (fun h25 => ?_)
              · replace ep18 := ite_t h25 ep18
                refine r_aload_n dX12_visitsBy_94 rfl ?_
                refine r_getR dX12_visitsBy_95 fl_X12_68 rfl (lp_44 hS) (lq_44 hS) (lr_44_40 hS) ?_
                refine r_aload_n dX12_visitsBy_98 rfl ?_
                refine r_getR dX12_visitsBy_99 fl_X12_56 rfl (lp_44 hS) (lq_44 hS) (lr_44_35 hS) ?_
                refine r_iload dX12_visitsBy_102 rfl ?_
                obtain ⟨hg26, ep18⟩ := grd_some ep18
                refine r_iald dX12_visitsBy_104 (lp_60 hS) (lk_60 hS) hg26 ?_
                refine r_aload_n dX12_visitsBy_105 rfl ?_
                refine r_getR dX12_visitsBy_106 fl_X12_68 rfl (lp_44 hS) (lq_44 hS) (lr_44_40 hS) ?_
                refine r_aload_n dX12_visitsBy_109 rfl ?_
                refine r_getR dX12_visitsBy_110 fl_X12_56 rfl (lp_44 hS) (lq_44 hS) (lr_44_35 hS) ?_
                refine r_iload dX12_visitsBy_113 rfl ?_
                obtain ⟨hg27, ep18⟩ := grd_some ep18
                refine r_iald dX12_visitsBy_115 (lp_60 hS) (lk_60 hS) hg27 ?_
                obtain ⟨hg28, ep18⟩ := grd_some ep18
                refine r_iald dX12_visitsBy_116 (lp_64 hS) (lk_64 hS) hg28 ?_
                refine r_aload_n dX12_visitsBy_117 rfl ?_
                refine r_iload dX12_visitsBy_118 rfl ?_
                obtain ⟨q29, eq30, ep18⟩ := obind ep18
                refine r_callV (as := [_]) (rest := [_, _, _]) dX12_visitsBy_120 ml_X12_377 yV_X12_needOf (c_X12_needOf hS eq30) (by decide) rfl (lp_44 hS) (lq_44 hS) (Nat.le_of_ble_eq_true rfl) ?_
                refine r_callS (as := [_, _]) (rest := [_, _]) dX12_visitsBy_123 ml_X12_178 yS_X12_greater (c_X12_greater hS) (by decide) rfl (Nat.le_of_ble_eq_true rfl) ?_
                obtain ⟨hg31, ep18⟩ := grd_some ep18
                refine r_iast dX12_visitsBy_126 (lp_64 hS) (lk_64 hS) hg31 ?_
                cases ep18
                exact r_weak (L' := [some (vr (some 44)), none, some (vi a2), some (vi a3), some (vi (z9.1 / (12 : Int32))), some (vi z9.2.1), none]) ⟨rfl, rfl, rfl, rfl, rfl, trivial⟩ (J17 _ rfl)
              · replace ep18 := ite_f h25 ep18
                refine r_iconst (v := -1) dX12_visitsBy_92 ci_m1 ?_
                cases ep18
                have eb14 := congrArg some (erx19 _ rfl)
                cases eb14
                have e := congrArg some (erx12 _ (Eq.symm hx13))
                cases e
                exact r_ireturn dX12_visitsBy_93 rfl rfl
    exact r_weak (L' := [some (vr (some 44)), none, some (vi a2), some (vi a3), some (vi a1), some (vi (0 : Int32)), none]) ⟨rfl, rfl, rfl, rfl, rfl, trivial⟩ J11w
  have J3 : ∀ pp : Mm, pp = p2 → Run l G M_X12_visitsBy 3 24 [some (vr (some 44)), some (vi a1), some (vi a2), some (vi a3), none, none, none] [] S pp (some (vi q.1)) S q.2 := by
    intro pp hpp
    rw [hpp]
    exact J3a
  have J3w : Run l G M_X12_visitsBy 3 3 [some (vr (some 44)), some (vi a1), some (vi a2), some (vi a3), some (vi (0 : Int32)), none, none] [] S mm (some (vi q.1)) S q.2 := by
    refine while_run (s := ((0 : Int32), mm)) (Gs := fun (z1 : Int32 × Mm) => Run l G M_X12_visitsBy 3 3 [some (vr (some 44)), some (vi a1), some (vi a2), some (vi a3), some (vi z1.1), none, none] [] S z1.2 (some (vi q.1)) S q.2) eb6w ?_
    intro z1 x4y eb6 hx5
    unfold m_X12_visitsBy_b3 at eb6
    refine r_iload dX12_visitsBy_3 rfl ?_
    refine r_bipush (v := 6) dX12_visitsBy_5 cb_6 ?_
    refine r_icmp_ge (tgt := 24) dX12_visitsBy_7 rfl (fun h7 => ?_) (fun h7 => ?_)
    · replace eb6 := ite_t h7 eb6
      cases eb6
      exact r_weak (L' := [some (vr (some 44)), some (vi a1), some (vi a2), some (vi a3), none, none, none]) ⟨rfl, rfl, rfl, rfl, trivial⟩ (J3 _ hx5)
    · replace eb6 := ite_f h7 eb6
      refine r_aload_n dX12_visitsBy_10 rfl ?_
      refine r_getR dX12_visitsBy_11 fl_X12_68 rfl (lp_44 hS) (lq_44 hS) (lr_44_40 hS) ?_
      refine r_iload dX12_visitsBy_14 rfl ?_
      refine r_iconst (v := 0) dX12_visitsBy_16 ci_0 ?_
      obtain ⟨hg8, eb6⟩ := grd_some eb6
      refine r_iast dX12_visitsBy_17 (lp_64 hS) (lk_64 hS) hg8 ?_
      refine r_iinc (v := _ + (1 : Int32)) dX12_visitsBy_18 rfl (congrArg (_ + ·) ci_1) (by decide) rfl ?_
      refine r_goto (tgt := 3) dX12_visitsBy_21 rfl ?_
      cases eb6
      exact r_weak (L' := [some (vr (some 44)), some (vi a1), some (vi a2), some (vi a3), some (vi (z1.1 + (1 : Int32))), none, none]) ⟨rfl, rfl, rfl, rfl, rfl, trivial⟩ hx5
  exact r_weak (L' := [some (vr (some 44)), some (vi a1), some (vi a2), some (vi a3), some (vi (0 : Int32)), none, none]) ⟨rfl, rfl, rfl, rfl, rfl, trivial⟩ J3w
def m_X12_fewestVisits_b34 (q1 : Int32) (z10 : Int32 × Int32) : Option ((Int32 × Int32) ⊕ (Int32)) := (m_X12_ones q1).bind (fun q16 => if q16 ≤ z10.2 then (some (.inr z10.1)) else (some (.inl (z10.1 * (12 : Int32), z10.2 + (1 : Int32)))))
def m_X12_fewestVisits_b62 (a1 : Int32) (q1 : Int32) (p11 : Int32) (z19 : Int32 × Int32 × Mm) : Option ((Int32 × Int32 × Mm) ⊕ (Int32 × Mm)) := if p11 ≤ z19.2.1 then (some (.inr (z19.1, z19.2.2))) else ((m_X12_visitsBy z19.2.1 a1 q1 z19.2.2).bind (fun q26 => some (.inl ((if q26.1 = (-1 : Int32) then z19.1 else (m_X12_lesser z19.1 q26.1)), z19.2.1 + (1 : Int32), q26.2))))
def m_X12_fewestVisits (a1 : Int32) (mm : Mm) : Option (Int32 × Mm) := (m_X12_swornFor a1 mm).bind (fun q1 => (m_X12_ones q1).bind (fun q3 => grd a1 6 (if (mI mm 57 (ix a1)) < q3 then (some ((-1 : Int32), mm)) else ((m_X12_isPeace q1 mm).bind (fun q7 => if q7 = 0 then (some ((-1 : Int32), mm)) else ((whileF FU (m_X12_fewestVisits_b34 q1) ((1 : Int32), (0 : Int32))).bind (fun p11 => (whileF FU (m_X12_fewestVisits_b62 a1 q1 p11) ((1000000 : Int32), (0 : Int32), mm)).bind (fun p20 => some (p20.1, p20.2)))))))))
set_option maxHeartbeats 4000000 in
set_option maxRecDepth 100000 in
theorem c_X12_fewestVisits {l : Launch} {G : Gt} {S : Sk} (hS : Lay S) {a1 : Int32} {mm : Mm} {q : Int32 × Mm} (e : m_X12_fewestVisits a1 mm = some q) : CallOK l G M_X12_fewestVisits yX12_fewestVisits 4 [vr (some 44), vi a1] S mm (some (vi q.1)) S q.2 := by
  refine call_of_run rfl rfl rfl (Nat.le_of_ble_eq_true rfl) ?_
  show Run l G M_X12_fewestVisits 4 0 [some (vr (some 44)), some (vi a1), none, none, none, none, none] [] S mm (some (vi q.1)) S q.2
  unfold m_X12_fewestVisits at e
  refine r_aload_n dX12_fewestVisits_0 rfl ?_
  refine r_iload_n dX12_fewestVisits_1 rfl ?_
  obtain ⟨q1, eq2, e⟩ := obind e
  refine r_callV (as := [_]) (rest := []) dX12_fewestVisits_2 ml_X12_368 yV_X12_swornFor (c_X12_swornFor hS eq2) (by decide) rfl (lp_44 hS) (lq_44 hS) (Nat.le_of_ble_eq_true rfl) ?_
  refine r_istore_n dX12_fewestVisits_5 (by decide) rfl ?_
  refine r_iload_n dX12_fewestVisits_6 rfl ?_
  obtain ⟨q3, eq4, e⟩ := obind e
  refine r_callS (as := [_]) (rest := []) dX12_fewestVisits_7 ml_X12_295 yS_X12_ones (c_X12_ones hS eq4) (by decide) rfl (Nat.le_of_ble_eq_true rfl) ?_
  refine r_aload_n dX12_fewestVisits_10 rfl ?_
  refine r_getR dX12_fewestVisits_11 fl_X12_47 rfl (lp_44 hS) (lq_44 hS) (lr_44_32 hS) ?_
  refine r_iload_n dX12_fewestVisits_14 rfl ?_
  obtain ⟨hg5, e⟩ := grd_some e
  refine r_iald dX12_fewestVisits_15 (lp_57 hS) (lk_57 hS) hg5 ?_
  refine r_icmp_gt (tgt := 27) dX12_fewestVisits_16 rfl (fun h6 => ?_) (fun h6 => ?_)
  · replace e := ite_t h6 e
    refine r_iconst (v := -1) dX12_fewestVisits_27 ci_m1 ?_
    cases e
    exact r_ireturn dX12_fewestVisits_28 rfl rfl
  · replace e := ite_f h6 e
    refine r_aload_n dX12_fewestVisits_19 rfl ?_
    refine r_iload_n dX12_fewestVisits_20 rfl ?_
    obtain ⟨q7, eq8, e⟩ := obind e
    refine r_callV (as := [_]) (rest := []) dX12_fewestVisits_21 ml_X12_298 yV_X12_isPeace (c_X12_isPeace hS eq8) (by decide) rfl (lp_44 hS) (lq_44 hS) (Nat.le_of_ble_eq_true rfl) ?_
    refine r_if_ne (tgt := 29) dX12_fewestVisits_24 rfl (fun h9 => ?_) (fun h9 => ?_)
    · replace e := ite_f h9 e
      refine r_iconst (v := 1) dX12_fewestVisits_29 ci_1 ?_
      refine r_istore_n dX12_fewestVisits_30 (by decide) rfl ?_
      refine r_iconst (v := 0) dX12_fewestVisits_31 ci_0 ?_
      refine r_istore dX12_fewestVisits_32 (by decide) rfl ?_
      obtain ⟨p11, eb15w, e⟩ := obind e
      have J12a : Run l G M_X12_fewestVisits 4 54 [some (vr (some 44)), some (vi a1), some (vi q1), some (vi p11), none, none, none] [] S mm (some (vi q.1)) S q.2 := by
        refine r_ldcw dX12_fewestVisits_54 ct_X12_380 ?_
        refine r_istore dX12_fewestVisits_57 (by decide) rfl ?_
        refine r_iconst (v := 0) dX12_fewestVisits_59 ci_0 ?_
        refine r_istore dX12_fewestVisits_60 (by decide) rfl ?_
        obtain ⟨p20, eb24w, e⟩ := obind e
        have J21a : Run l G M_X12_fewestVisits 4 104 [none, none, none, none, some (vi p20.1), none, none] [] S p20.2 (some (vi q.1)) S q.2 := by
          refine r_iload dX12_fewestVisits_104 rfl ?_
          cases e
          exact r_ireturn dX12_fewestVisits_106 rfl rfl
        have J21 : ∀ pp : Int32 × Mm, pp = p20 → Run l G M_X12_fewestVisits 4 104 [none, none, none, none, some (vi pp.1), none, none] [] S pp.2 (some (vi q.1)) S q.2 := by
          intro pp hpp
          rw [hpp]
          exact J21a
        have J21w : Run l G M_X12_fewestVisits 4 62 [some (vr (some 44)), some (vi a1), some (vi q1), some (vi p11), some (vi (1000000 : Int32)), some (vi (0 : Int32)), none] [] S mm (some (vi q.1)) S q.2 := by
          refine while_run (s := ((1000000 : Int32), (0 : Int32), mm)) (Gs := fun (z19 : Int32 × Int32 × Mm) => Run l G M_X12_fewestVisits 4 62 [some (vr (some 44)), some (vi a1), some (vi q1), some (vi p11), some (vi z19.1), some (vi z19.2.1), none] [] S z19.2.2 (some (vi q.1)) S q.2) eb24w ?_
          intro z19 x22y eb24 hx23
          unfold m_X12_fewestVisits_b62 at eb24
          refine r_iload dX12_fewestVisits_62 rfl ?_
          refine r_iload_n dX12_fewestVisits_64 rfl ?_
          refine r_icmp_ge (tgt := 104) dX12_fewestVisits_65 rfl (fun h25 => ?_) (fun h25 => ?_)
          · replace eb24 := ite_t h25 eb24
            cases eb24
            exact r_weak (L' := [none, none, none, none, some (vi z19.1), none, none]) ⟨rfl, trivial⟩ (J21 _ hx23)
          · replace eb24 := ite_f h25 eb24
            refine r_aload_n dX12_fewestVisits_68 rfl ?_
            refine r_iload dX12_fewestVisits_69 rfl ?_
            refine r_iload_n dX12_fewestVisits_71 rfl ?_
            refine r_iload_n dX12_fewestVisits_72 rfl ?_
            obtain ⟨q26, eq27, eb24⟩ := obind eb24
            refine r_callV (as := [_, _, _]) (rest := []) dX12_fewestVisits_73 ml_X12_381 yV_X12_visitsBy (c_X12_visitsBy hS eq27) (by decide) rfl (lp_44 hS) (lq_44 hS) (Nat.le_of_ble_eq_true rfl) ?_
            refine r_istore dX12_fewestVisits_76 (by decide) rfl ?_
            refine r_iload dX12_fewestVisits_78 rfl ?_
            refine r_iconst (v := -1) dX12_fewestVisits_80 ci_m1 ?_
            have J30 : ∀ (w29 : Int32), w29 = (if q26.1 = (-1 : Int32) then z19.1 else (m_X12_lesser z19.1 q26.1)) → Run l G M_X12_fewestVisits 4 96 [some (vr (some 44)), some (vi a1), some (vi q1), some (vi p11), none, some (vi z19.2.1), none] [vi w29] S q26.2 (some (vi q.1)) S q.2 := by
              intro w29 hw31
              subst hw31
              refine r_istore dX12_fewestVisits_96 (by decide) rfl ?_
              refine r_iinc (v := _ + (1 : Int32)) dX12_fewestVisits_98 rfl (congrArg (_ + ·) ci_1) (by decide) rfl ?_
              refine r_goto (tgt := 62) dX12_fewestVisits_101 rfl ?_
              cases eb24
              exact r_weak (L' := [some (vr (some 44)), some (vi a1), some (vi q1), some (vi p11), some (vi (if q26.1 = (-1 : Int32) then z19.1 else (m_X12_lesser z19.1 q26.1))), some (vi (z19.2.1 + (1 : Int32))), none]) ⟨rfl, rfl, rfl, rfl, rfl, rfl, trivial⟩ hx23
            refine r_icmp_ne (tgt := 89) dX12_fewestVisits_81 rfl (fun h28 => ?_) (fun h28 => ?_)
            · refine r_iload dX12_fewestVisits_89 rfl ?_
              refine r_iload dX12_fewestVisits_91 rfl ?_
              refine r_callS (as := [_, _]) (rest := []) dX12_fewestVisits_93 ml_X12_168 yS_X12_lesser (c_X12_lesser hS) (by decide) rfl (Nat.le_of_ble_eq_true rfl) ?_
              exact r_weak (L' := [some (vr (some 44)), some (vi a1), some (vi q1), some (vi p11), none, some (vi z19.2.1), none]) ⟨rfl, rfl, rfl, rfl, rfl, trivial⟩ (J30 _ (Eq.symm (if_neg h28)))
            · refine r_iload dX12_fewestVisits_84 rfl ?_
              refine r_goto (tgt := 96) dX12_fewestVisits_86 rfl ?_
              exact r_weak (L' := [some (vr (some 44)), some (vi a1), some (vi q1), some (vi p11), none, some (vi z19.2.1), none]) ⟨rfl, rfl, rfl, rfl, rfl, trivial⟩ (J30 _ (Eq.symm (if_pos h28)))
        exact r_weak (L' := [some (vr (some 44)), some (vi a1), some (vi q1), some (vi p11), some (vi (1000000 : Int32)), some (vi (0 : Int32)), none]) ⟨rfl, rfl, rfl, rfl, rfl, rfl, trivial⟩ J21w
      have J12 : ∀ pp : Int32, pp = p11 → Run l G M_X12_fewestVisits 4 54 [some (vr (some 44)), some (vi a1), some (vi q1), some (vi pp), none, none, none] [] S mm (some (vi q.1)) S q.2 := by
        intro pp hpp
        rw [hpp]
        exact J12a
      have J12w : Run l G M_X12_fewestVisits 4 34 [some (vr (some 44)), some (vi a1), some (vi q1), some (vi (1 : Int32)), some (vi (0 : Int32)), none, none] [] S mm (some (vi q.1)) S q.2 := by
        refine while_run (s := ((1 : Int32), (0 : Int32))) (Gs := fun (z10 : Int32 × Int32) => Run l G M_X12_fewestVisits 4 34 [some (vr (some 44)), some (vi a1), some (vi q1), some (vi z10.1), some (vi z10.2), none, none] [] S mm (some (vi q.1)) S q.2) eb15w ?_
        intro z10 x13y eb15 hx14
        unfold m_X12_fewestVisits_b34 at eb15
        refine r_iload dX12_fewestVisits_34 rfl ?_
        refine r_iload_n dX12_fewestVisits_36 rfl ?_
        obtain ⟨q16, eq17, eb15⟩ := obind eb15
        refine r_callS (as := [_]) (rest := [_]) dX12_fewestVisits_37 ml_X12_295 yS_X12_ones (c_X12_ones hS eq17) (by decide) rfl (Nat.le_of_ble_eq_true rfl) ?_
        refine r_icmp_ge (tgt := 54) dX12_fewestVisits_40 rfl (fun h18 => ?_) (fun h18 => ?_)
        · replace eb15 := ite_t h18 eb15
          cases eb15
          exact r_weak (L' := [some (vr (some 44)), some (vi a1), some (vi q1), some (vi z10.1), none, none, none]) ⟨rfl, rfl, rfl, rfl, trivial⟩ (J12 _ hx14)
        · replace eb15 := ite_f h18 eb15
          refine r_iload_n dX12_fewestVisits_43 rfl ?_
          refine r_bipush (v := 12) dX12_fewestVisits_44 cb_12 ?_
          refine r_imul dX12_fewestVisits_46 ?_
          refine r_istore_n dX12_fewestVisits_47 (by decide) rfl ?_
          refine r_iinc (v := _ + (1 : Int32)) dX12_fewestVisits_48 rfl (congrArg (_ + ·) ci_1) (by decide) rfl ?_
          refine r_goto (tgt := 34) dX12_fewestVisits_51 rfl ?_
          cases eb15
          exact r_weak (L' := [some (vr (some 44)), some (vi a1), some (vi q1), some (vi (z10.1 * (12 : Int32))), some (vi (z10.2 + (1 : Int32))), none, none]) ⟨rfl, rfl, rfl, rfl, rfl, trivial⟩ hx14
      exact r_weak (L' := [some (vr (some 44)), some (vi a1), some (vi q1), some (vi (1 : Int32)), some (vi (0 : Int32)), none, none]) ⟨rfl, rfl, rfl, rfl, rfl, trivial⟩ J12w
    · replace e := ite_t h9 e
      refine r_iconst (v := -1) dX12_fewestVisits_27 ci_m1 ?_
      cases e
      exact r_ireturn dX12_fewestVisits_28 rfl rfl
def m_X12_balance_b17 (a1 : Int32) (mm : Mm) (q1 : Int32) (z7 : Int32 × Int32) : Option ((Int32 × Int32) ⊕ (Int32)) := if (mI mm 44 25) ≤ z7.2 then (some (.inr z7.1)) else (grd z7.2 16 (some (.inl (z7.1 - (if (mI mm 60 (ix z7.2)) = a1 then (if (m_X12_has q1 z7.2) = 0 then (0 : Int32) else (1 : Int32)) else (0 : Int32)), z7.2 + (1 : Int32)))))
def m_X12_balance (a1 : Int32) (mm : Mm) : Option (Int32) := (m_X12_brokenOnes mm).bind (fun q1 => (m_X12_keptBy a1 mm).bind (fun q3 => (m_X12_ones q3).bind (fun q5 => (whileF FU (m_X12_balance_b17 a1 mm q1) (q5, (0 : Int32))).bind (fun p8 => some p8))))
set_option maxHeartbeats 4000000 in
set_option maxRecDepth 100000 in
theorem c_X12_balance {l : Launch} {G : Gt} {S : Sk} (hS : Lay S) {a1 : Int32} {mm : Mm} {q : Int32} (e : m_X12_balance a1 mm = some q) : CallOK l G M_X12_balance yX12_balance 5 [vr (some 44), vi a1] S mm (some (vi q)) S mm := by
  refine call_of_run rfl rfl rfl (Nat.le_of_ble_eq_true rfl) ?_
  show Run l G M_X12_balance 5 0 [some (vr (some 44)), some (vi a1), none, none, none] [] S mm (some (vi q)) S mm
  unfold m_X12_balance at e
  refine r_aload_n dX12_balance_0 rfl ?_
  obtain ⟨q1, eq2, e⟩ := obind e
  refine r_callV (as := []) (rest := []) dX12_balance_1 ml_X12_334 yV_X12_brokenOnes (c_X12_brokenOnes hS eq2) (by decide) rfl (lp_44 hS) (lq_44 hS) (Nat.le_of_ble_eq_true rfl) ?_
  refine r_istore_n dX12_balance_4 (by decide) rfl ?_
  refine r_aload_n dX12_balance_5 rfl ?_
  refine r_iload_n dX12_balance_6 rfl ?_
  obtain ⟨q3, eq4, e⟩ := obind e
  refine r_callV (as := [_]) (rest := []) dX12_balance_7 ml_X12_307 yV_X12_keptBy (c_X12_keptBy hS eq4) (by decide) rfl (lp_44 hS) (lq_44 hS) (Nat.le_of_ble_eq_true rfl) ?_
  obtain ⟨q5, eq6, e⟩ := obind e
  refine r_callS (as := [_]) (rest := []) dX12_balance_10 ml_X12_295 yS_X12_ones (c_X12_ones hS eq6) (by decide) rfl (Nat.le_of_ble_eq_true rfl) ?_
  refine r_istore_n dX12_balance_13 (by decide) rfl ?_
  refine r_iconst (v := 0) dX12_balance_14 ci_0 ?_
  refine r_istore dX12_balance_15 (by decide) rfl ?_
  obtain ⟨p8, eb12w, e⟩ := obind e
  have J9a : Run l G M_X12_balance 5 60 [none, none, none, some (vi p8), none] [] S mm (some (vi q)) S mm := by
    refine r_iload_n dX12_balance_60 rfl ?_
    cases e
    exact r_ireturn dX12_balance_61 rfl rfl
  have J9 : ∀ pp : Int32, pp = p8 → Run l G M_X12_balance 5 60 [none, none, none, some (vi pp), none] [] S mm (some (vi q)) S mm := by
    intro pp hpp
    rw [hpp]
    exact J9a
  have J9w : Run l G M_X12_balance 5 17 [some (vr (some 44)), some (vi a1), some (vi q1), some (vi q5), some (vi (0 : Int32))] [] S mm (some (vi q)) S mm := by
    refine while_run (s := (q5, (0 : Int32))) (Gs := fun (z7 : Int32 × Int32) => Run l G M_X12_balance 5 17 [some (vr (some 44)), some (vi a1), some (vi q1), some (vi z7.1), some (vi z7.2)] [] S mm (some (vi q)) S mm) eb12w ?_
    intro z7 x10y eb12 hx11
    unfold m_X12_balance_b17 at eb12
    refine r_iload dX12_balance_17 rfl ?_
    refine r_aload_n dX12_balance_19 rfl ?_
    refine r_getI dX12_balance_20 fl_X12_280 rfl (lp_44 hS) (lq_44 hS) ?_
    refine r_icmp_ge (tgt := 60) dX12_balance_23 rfl (fun h13 => ?_) (fun h13 => ?_)
    · replace eb12 := ite_t h13 eb12
      cases eb12
      exact r_weak (L' := [none, none, none, some (vi z7.1), none]) ⟨rfl, trivial⟩ (J9 _ hx11)
    · replace eb12 := ite_f h13 eb12
      refine r_iload_n dX12_balance_26 rfl ?_
      refine r_aload_n dX12_balance_27 rfl ?_
      refine r_getR dX12_balance_28 fl_X12_56 rfl (lp_44 hS) (lq_44 hS) (lr_44_35 hS) ?_
      refine r_iload dX12_balance_31 rfl ?_
      obtain ⟨hg14, eb12⟩ := grd_some eb12
      refine r_iald dX12_balance_33 (lp_60 hS) (lk_60 hS) hg14 ?_
      refine r_iload_n dX12_balance_34 rfl ?_
      have J18 : ∀ (w17 : Int32), w17 = (if (mI mm 60 (ix z7.2)) = a1 then (if (m_X12_has q1 z7.2) = 0 then (0 : Int32) else (1 : Int32)) else (0 : Int32)) → Run l G M_X12_balance 5 52 [some (vr (some 44)), some (vi a1), some (vi q1), none, some (vi z7.2)] [vi w17, vi z7.1] S mm (some (vi q)) S mm := by
        intro w17 hw19
        subst hw19
        refine r_isub dX12_balance_52 ?_
        refine r_istore_n dX12_balance_53 (by decide) rfl ?_
        refine r_iinc (v := _ + (1 : Int32)) dX12_balance_54 rfl (congrArg (_ + ·) ci_1) (by decide) rfl ?_
        refine r_goto (tgt := 17) dX12_balance_57 rfl ?_
        cases eb12
        exact r_weak (L' := [some (vr (some 44)), some (vi a1), some (vi q1), some (vi (z7.1 - (if (mI mm 60 (ix z7.2)) = a1 then (if (m_X12_has q1 z7.2) = 0 then (0 : Int32) else (1 : Int32)) else (0 : Int32)))), some (vi (z7.2 + (1 : Int32)))]) ⟨rfl, rfl, rfl, rfl, rfl, trivial⟩ hx11
      refine r_icmp_ne (tgt := 51) dX12_balance_35 rfl (fun h15 => ?_) (fun h15 => ?_)
      · refine r_iconst (v := 0) dX12_balance_51 ci_0 ?_
        exact r_weak (L' := [some (vr (some 44)), some (vi a1), some (vi q1), none, some (vi z7.2)]) ⟨rfl, rfl, rfl, rfl, trivial⟩ (J18 _ (Eq.symm (if_neg h15)))
      · refine r_iload_n dX12_balance_38 rfl ?_
        refine r_iload dX12_balance_39 rfl ?_
        refine r_callS (as := [_, _]) (rest := [_]) dX12_balance_41 ml_X12_94 yS_X12_has (c_X12_has hS) (by decide) rfl (Nat.le_of_ble_eq_true rfl) ?_
        refine r_if_eq (tgt := 51) dX12_balance_44 rfl (fun h16 => ?_) (fun h16 => ?_)
        · refine r_iconst (v := 0) dX12_balance_51 ci_0 ?_
          exact r_weak (L' := [some (vr (some 44)), some (vi a1), some (vi q1), none, some (vi z7.2)]) ⟨rfl, rfl, rfl, rfl, trivial⟩ (J18 _ (Eq.symm ((if_pos h15).trans (if_pos h16))))
        · refine r_iconst (v := 1) dX12_balance_47 ci_1 ?_
          refine r_goto (tgt := 52) dX12_balance_48 rfl ?_
          exact r_weak (L' := [some (vr (some 44)), some (vi a1), some (vi q1), none, some (vi z7.2)]) ⟨rfl, rfl, rfl, rfl, trivial⟩ (J18 _ (Eq.symm ((if_pos h15).trans (if_neg h16))))
  exact r_weak (L' := [some (vr (some 44)), some (vi a1), some (vi q1), some (vi q5), some (vi (0 : Int32))]) ⟨rfl, rfl, rfl, rfl, rfl, trivial⟩ J9w
def m_X12_hearten_b2 (a1 : Int32) (z1 : Int32 × Mm) : Option ((Int32 × Mm) ⊕ ((Mm) ⊕ (Int32 × Mm))) := (m_X12_of ((2 : Int32) + a1) z1.2).bind (fun q7 => if (9 : Int32) < (q7 + z1.1) then (some (.inr (.inl z1.2))) else ((m_X12_of ((2 : Int32) + a1) z1.2).bind (fun q10 => grd a1 6 ((m_X12_keptBy a1 (sI z1.2 56 (ix a1) (q10 + z1.1))).bind (fun q13 => (m_X12_swornFor a1 (sI z1.2 56 (ix a1) (q10 + z1.1))).bind (fun q15 => if q13 = q15 then (some (.inr (.inr (z1.1, (sI z1.2 56 (ix a1) (q10 + z1.1)))))) else (some (.inl (z1.1 + (1 : Int32), (sI z1.2 56 (ix a1) (q10 + z1.1)))))))))))
def m_X12_hearten (a1 : Int32) (mm : Mm) : Option (Int32 × Mm) := bS (whileF FU (m_X12_hearten_b2 a1) ((0 : Int32), mm)) (fun p2 => some ((-1 : Int32), p2))
set_option maxHeartbeats 4000000 in
set_option maxRecDepth 100000 in
theorem c_X12_hearten {l : Launch} {G : Gt} {S : Sk} (hS : Lay S) {a1 : Int32} {mm : Mm} {q : Int32 × Mm} (e : m_X12_hearten a1 mm = some q) : CallOK l G M_X12_hearten yX12_hearten 4 [vr (some 44), vi a1] S mm (some (vi q.1)) S q.2 := by
  refine call_of_run rfl rfl rfl (Nat.le_of_ble_eq_true rfl) ?_
  show Run l G M_X12_hearten 4 0 [some (vr (some 44)), some (vi a1), none] [] S mm (some (vi q.1)) S q.2
  unfold m_X12_hearten at e
  refine r_iconst (v := 0) dX12_hearten_0 ci_0 ?_
  refine r_istore_n dX12_hearten_1 (by decide) rfl ?_
  obtain ⟨x4, eb6w, elx4, erx4⟩ := bS_some e
  have J3 : ∀ p2 : Mm, x4 = .inl p2 → Run l G M_X12_hearten 4 52 [none, none, none] [] S p2 (some (vi q.1)) S q.2 := by
    intro p2 hp2
    replace e := elx4 p2 hp2
    refine r_iconst (v := -1) dX12_hearten_52 ci_m1 ?_
    cases e
    exact r_ireturn dX12_hearten_53 rfl rfl
  have J3w : Run l G M_X12_hearten 4 2 [some (vr (some 44)), some (vi a1), some (vi (0 : Int32))] [] S mm (some (vi q.1)) S q.2 := by
    refine while_run (s := ((0 : Int32), mm)) (Gs := fun (z1 : Int32 × Mm) => Run l G M_X12_hearten 4 2 [some (vr (some 44)), some (vi a1), some (vi z1.1)] [] S z1.2 (some (vi q.1)) S q.2) eb6w ?_
    intro z1 x4y eb6 hx5
    unfold m_X12_hearten_b2 at eb6
    refine r_aload_n dX12_hearten_2 rfl ?_
    refine r_iconst (v := 2) dX12_hearten_3 ci_2 ?_
    refine r_iload_n dX12_hearten_4 rfl ?_
    refine r_iadd dX12_hearten_5 ?_
    obtain ⟨q7, eq8, eb6⟩ := obind eb6
    refine r_callV (as := [_]) (rest := []) dX12_hearten_6 ml_X12_276 yV_X12_of (c_X12_of hS eq8) (by decide) rfl (lp_44 hS) (lq_44 hS) (Nat.le_of_ble_eq_true rfl) ?_
    refine r_iload_n dX12_hearten_9 rfl ?_
    refine r_iadd dX12_hearten_10 ?_
    refine r_bipush (v := 9) dX12_hearten_11 cb_9 ?_
    refine r_icmp_gt (tgt := 52) dX12_hearten_13 rfl (fun h9 => ?_) (fun h9 => ?_)
    · replace eb6 := ite_t h9 eb6
      cases eb6
      exact r_weak (L' := [none, none, none]) trivial (J3 _ (Eq.symm hx5))
    · replace eb6 := ite_f h9 eb6
      refine r_aload_n dX12_hearten_16 rfl ?_
      refine r_getR dX12_hearten_17 fl_X12_44 rfl (lp_44 hS) (lq_44 hS) (lr_44_31 hS) ?_
      refine r_iload_n dX12_hearten_20 rfl ?_
      refine r_aload_n dX12_hearten_21 rfl ?_
      refine r_iconst (v := 2) dX12_hearten_22 ci_2 ?_
      refine r_iload_n dX12_hearten_23 rfl ?_
      refine r_iadd dX12_hearten_24 ?_
      obtain ⟨q10, eq11, eb6⟩ := obind eb6
      refine r_callV (as := [_]) (rest := [_, _]) dX12_hearten_25 ml_X12_276 yV_X12_of (c_X12_of hS eq11) (by decide) rfl (lp_44 hS) (lq_44 hS) (Nat.le_of_ble_eq_true rfl) ?_
      refine r_iload_n dX12_hearten_28 rfl ?_
      refine r_iadd dX12_hearten_29 ?_
      obtain ⟨hg12, eb6⟩ := grd_some eb6
      refine r_iast dX12_hearten_30 (lp_56 hS) (lk_56 hS) hg12 ?_
      refine r_aload_n dX12_hearten_31 rfl ?_
      refine r_iload_n dX12_hearten_32 rfl ?_
      obtain ⟨q13, eq14, eb6⟩ := obind eb6
      refine r_callV (as := [_]) (rest := []) dX12_hearten_33 ml_X12_307 yV_X12_keptBy (c_X12_keptBy hS eq14) (by decide) rfl (lp_44 hS) (lq_44 hS) (Nat.le_of_ble_eq_true rfl) ?_
      refine r_aload_n dX12_hearten_36 rfl ?_
      refine r_iload_n dX12_hearten_37 rfl ?_
      obtain ⟨q15, eq16, eb6⟩ := obind eb6
      refine r_callV (as := [_]) (rest := [_]) dX12_hearten_38 ml_X12_368 yV_X12_swornFor (c_X12_swornFor hS eq16) (by decide) rfl (lp_44 hS) (lq_44 hS) (Nat.le_of_ble_eq_true rfl) ?_
      refine r_icmp_ne (tgt := 46) dX12_hearten_41 rfl (fun h17 => ?_) (fun h17 => ?_)
      · replace eb6 := ite_f h17 eb6
        refine r_iinc (v := _ + (1 : Int32)) dX12_hearten_46 rfl (congrArg (_ + ·) ci_1) (by decide) rfl ?_
        refine r_goto (tgt := 2) dX12_hearten_49 rfl ?_
        cases eb6
        exact r_weak (L' := [some (vr (some 44)), some (vi a1), some (vi (z1.1 + (1 : Int32)))]) ⟨rfl, rfl, rfl, trivial⟩ hx5
      · replace eb6 := ite_t h17 eb6
        refine r_iload_n dX12_hearten_44 rfl ?_
        cases eb6
        have e := congrArg some (erx4 _ (Eq.symm hx5))
        cases e
        exact r_ireturn dX12_hearten_45 rfl rfl
  exact r_weak (L' := [some (vr (some 44)), some (vi a1), some (vi (0 : Int32))]) ⟨rfl, rfl, rfl, trivial⟩ J3w
def m_X12_keeps (a1 : Int32) (a2 : Int32) (a3 : Int32) (mm : Mm) : Option (Int32 × Mm) := (m_X12_hand a1 (sI mm 44 0 (0 : Int32))).bind (fun q1 => if q1.1 = 0 then (some ((-99 : Int32), q1.2)) else ((m_X12_isOne a2 q1.2).bind (fun q4 => if q4 = 0 then (some ((-99 : Int32), q1.2)) else (if a3 = (0 : Int32) then ((m_X12_swornFor a2 q1.2).bind (fun q8 => some (q8, q1.2))) else (if a3 = (1 : Int32) then ((m_X12_openTo a2 q1.2).bind (fun q11 => some (q11, q1.2))) else (if a3 = (2 : Int32) then ((m_X12_keptBy a2 q1.2).bind (fun q14 => some (q14, q1.2))) else (if a3 = (3 : Int32) then ((m_X12_fewestVisits a2 q1.2).bind (fun q17 => some (q17.1, q17.2))) else (if a3 = (4 : Int32) then ((m_X12_balance a2 q1.2).bind (fun q20 => some (q20, q1.2))) else (if a3 = (5 : Int32) then ((m_X12_hearten a2 q1.2).bind (fun q23 => some (q23.1, q23.2))) else (some ((-99 : Int32), q1.2)))))))))))
set_option maxHeartbeats 4000000 in
set_option maxRecDepth 100000 in
theorem c_X12_keeps {l : Launch} {G : Gt} {S : Sk} (hS : Lay S) {a1 : Int32} {a2 : Int32} {a3 : Int32} {mm : Mm} {q : Int32 × Mm} (e : m_X12_keeps a1 a2 a3 mm = some q) : CallOK l G M_X12_keeps yX12_keeps 6 [vr (some 44), vi a1, vi a2, vi a3] S mm (some (vi q.1)) S q.2 := by
  refine call_of_run rfl rfl rfl (Nat.le_of_ble_eq_true rfl) ?_
  show Run l G M_X12_keeps 6 0 [some (vr (some 44)), some (vi a1), some (vi a2), some (vi a3)] [] S mm (some (vi q.1)) S q.2
  unfold m_X12_keeps at e
  refine r_aload_n dX12_keeps_0 rfl ?_
  refine r_iconst (v := 0) dX12_keeps_1 ci_0 ?_
  refine r_putI dX12_keeps_2 fl_X12_90 ft_12_0 (Or.inl rfl) rfl rfl rfl (lp_44 hS) (lq_44 hS) ?_
  refine r_aload_n dX12_keeps_5 rfl ?_
  refine r_iload_n dX12_keeps_6 rfl ?_
  obtain ⟨q1, eq2, e⟩ := obind e
  refine r_callV (as := [_]) (rest := []) dX12_keeps_7 ml_X12_310 yV_X12_hand (c_X12_hand hS eq2) (by decide) rfl (lp_44 hS) (lq_44 hS) (Nat.le_of_ble_eq_true rfl) ?_
  refine r_if_eq (tgt := 21) dX12_keeps_10 rfl (fun h3 => ?_) (fun h3 => ?_)
  · replace e := ite_t h3 e
    refine r_bipush (v := -99) dX12_keeps_21 cb_m99 ?_
    cases e
    exact r_ireturn dX12_keeps_23 rfl rfl
  · replace e := ite_f h3 e
    refine r_aload_n dX12_keeps_13 rfl ?_
    refine r_iload_n dX12_keeps_14 rfl ?_
    obtain ⟨q4, eq5, e⟩ := obind e
    refine r_callV (as := [_]) (rest := []) dX12_keeps_15 ml_X12_289 yV_X12_isOne (c_X12_isOne hS eq5) (by decide) rfl (lp_44 hS) (lq_44 hS) (Nat.le_of_ble_eq_true rfl) ?_
    refine r_if_ne (tgt := 24) dX12_keeps_18 rfl (fun h6 => ?_) (fun h6 => ?_)
    · replace e := ite_f h6 e
      refine r_iload_n dX12_keeps_24 rfl ?_
      by_cases h7 : a3 = (0 : Int32)
      · replace e := ite_t h7 e
        refine r_table_in (tgt := 64) dX12_keeps_25 (by rw [h7]; decide) (by rw [h7]; decide) (by rw [h7]; rfl) rfl ?_
        refine r_aload_n dX12_keeps_64 rfl ?_
        refine r_iload_n dX12_keeps_65 rfl ?_
        obtain ⟨q8, eq9, e⟩ := obind e
        refine r_callV (as := [_]) (rest := []) dX12_keeps_66 ml_X12_368 yV_X12_swornFor (c_X12_swornFor hS eq9) (by decide) rfl (lp_44 hS) (lq_44 hS) (Nat.le_of_ble_eq_true rfl) ?_
        cases e
        exact r_ireturn dX12_keeps_69 rfl rfl
      replace e := ite_f h7 e
      by_cases h10 : a3 = (1 : Int32)
      · replace e := ite_t h10 e
        refine r_table_in (tgt := 70) dX12_keeps_25 (by rw [h10]; decide) (by rw [h10]; decide) (by rw [h10]; rfl) rfl ?_
        refine r_aload_n dX12_keeps_70 rfl ?_
        refine r_iload_n dX12_keeps_71 rfl ?_
        obtain ⟨q11, eq12, e⟩ := obind e
        refine r_callV (as := [_]) (rest := []) dX12_keeps_72 ml_X12_301 yV_X12_openTo (c_X12_openTo hS eq12) (by decide) rfl (lp_44 hS) (lq_44 hS) (Nat.le_of_ble_eq_true rfl) ?_
        cases e
        exact r_ireturn dX12_keeps_75 rfl rfl
      replace e := ite_f h10 e
      by_cases h13 : a3 = (2 : Int32)
      · replace e := ite_t h13 e
        refine r_table_in (tgt := 76) dX12_keeps_25 (by rw [h13]; decide) (by rw [h13]; decide) (by rw [h13]; rfl) rfl ?_
        refine r_aload_n dX12_keeps_76 rfl ?_
        refine r_iload_n dX12_keeps_77 rfl ?_
        obtain ⟨q14, eq15, e⟩ := obind e
        refine r_callV (as := [_]) (rest := []) dX12_keeps_78 ml_X12_307 yV_X12_keptBy (c_X12_keptBy hS eq15) (by decide) rfl (lp_44 hS) (lq_44 hS) (Nat.le_of_ble_eq_true rfl) ?_
        cases e
        exact r_ireturn dX12_keeps_81 rfl rfl
      replace e := ite_f h13 e
      by_cases h16 : a3 = (3 : Int32)
      · replace e := ite_t h16 e
        refine r_table_in (tgt := 82) dX12_keeps_25 (by rw [h16]; decide) (by rw [h16]; decide) (by rw [h16]; rfl) rfl ?_
        refine r_aload_n dX12_keeps_82 rfl ?_
        refine r_iload_n dX12_keeps_83 rfl ?_
        obtain ⟨q17, eq18, e⟩ := obind e
        refine r_callV (as := [_]) (rest := []) dX12_keeps_84 ml_X12_385 yV_X12_fewestVisits (c_X12_fewestVisits hS eq18) (by decide) rfl (lp_44 hS) (lq_44 hS) (Nat.le_of_ble_eq_true rfl) ?_
        cases e
        exact r_ireturn dX12_keeps_87 rfl rfl
      replace e := ite_f h16 e
      by_cases h19 : a3 = (4 : Int32)
      · replace e := ite_t h19 e
        refine r_table_in (tgt := 88) dX12_keeps_25 (by rw [h19]; decide) (by rw [h19]; decide) (by rw [h19]; rfl) rfl ?_
        refine r_aload_n dX12_keeps_88 rfl ?_
        refine r_iload_n dX12_keeps_89 rfl ?_
        obtain ⟨q20, eq21, e⟩ := obind e
        refine r_callV (as := [_]) (rest := []) dX12_keeps_90 ml_X12_388 yV_X12_balance (c_X12_balance hS eq21) (by decide) rfl (lp_44 hS) (lq_44 hS) (Nat.le_of_ble_eq_true rfl) ?_
        cases e
        exact r_ireturn dX12_keeps_93 rfl rfl
      replace e := ite_f h19 e
      by_cases h22 : a3 = (5 : Int32)
      · replace e := ite_t h22 e
        refine r_table_in (tgt := 94) dX12_keeps_25 (by rw [h22]; decide) (by rw [h22]; decide) (by rw [h22]; rfl) rfl ?_
        refine r_aload_n dX12_keeps_94 rfl ?_
        refine r_iload_n dX12_keeps_95 rfl ?_
        obtain ⟨q23, eq24, e⟩ := obind e
        refine r_callV (as := [_]) (rest := []) dX12_keeps_96 ml_X12_391 yV_X12_hearten (c_X12_hearten hS eq24) (by decide) rfl (lp_44 hS) (lq_44 hS) (Nat.le_of_ble_eq_true rfl) ?_
        cases e
        exact r_ireturn dX12_keeps_99 rfl rfl
      replace e := ite_f h22 e
      have ho25 : (a3).toInt < 0 ∨ 5 < (a3).toInt := by
        have nh7 := lv_neT (a := 0) h7 (by decide)
        have nh10 := lv_neT (a := 1) h10 (by decide)
        have nh13 := lv_neT (a := 2) h13 (by decide)
        have nh16 := lv_neT (a := 3) h16 (by decide)
        have nh19 := lv_neT (a := 4) h19 (by decide)
        have nh22 := lv_neT (a := 5) h22 (by decide)
        omega
      refine r_table_out (tgt := 100) dX12_keeps_25 ho25 rfl ?_
      refine r_bipush (v := -99) dX12_keeps_100 cb_m99 ?_
      cases e
      exact r_ireturn dX12_keeps_102 rfl rfl
    · replace e := ite_t h6 e
      refine r_bipush (v := -99) dX12_keeps_21 cb_m99 ?_
      cases e
      exact r_ireturn dX12_keeps_23 rfl rfl
def m_X12_heart (a1 : Int32) (a2 : Int32) (a3 : Int32) (mm : Mm) : Option (Int32 × Mm) := (m_X12_hand a1 (sI mm 44 0 (0 : Int32))).bind (fun q1 => if q1.1 = 0 then (some ((-1 : Int32), q1.2)) else ((m_X12_areTwo a2 a3 q1.2).bind (fun q4 => if q4 = 0 then (some ((-1 : Int32), q1.2)) else ((m_X12_heartOf a2 a3 q1.2).bind (fun q7 => some (q7, q1.2))))))
set_option maxHeartbeats 4000000 in
set_option maxRecDepth 100000 in
theorem c_X12_heart {l : Launch} {G : Gt} {S : Sk} (hS : Lay S) {a1 : Int32} {a2 : Int32} {a3 : Int32} {mm : Mm} {q : Int32 × Mm} (e : m_X12_heart a1 a2 a3 mm = some q) : CallOK l G M_X12_heart yX12_heart 3 [vr (some 44), vi a1, vi a2, vi a3] S mm (some (vi q.1)) S q.2 := by
  refine call_of_run rfl rfl rfl (Nat.le_of_ble_eq_true rfl) ?_
  show Run l G M_X12_heart 3 0 [some (vr (some 44)), some (vi a1), some (vi a2), some (vi a3)] [] S mm (some (vi q.1)) S q.2
  unfold m_X12_heart at e
  refine r_aload_n dX12_heart_0 rfl ?_
  refine r_iconst (v := 0) dX12_heart_1 ci_0 ?_
  refine r_putI dX12_heart_2 fl_X12_90 ft_12_0 (Or.inl rfl) rfl rfl rfl (lp_44 hS) (lq_44 hS) ?_
  refine r_aload_n dX12_heart_5 rfl ?_
  refine r_iload_n dX12_heart_6 rfl ?_
  obtain ⟨q1, eq2, e⟩ := obind e
  refine r_callV (as := [_]) (rest := []) dX12_heart_7 ml_X12_310 yV_X12_hand (c_X12_hand hS eq2) (by decide) rfl (lp_44 hS) (lq_44 hS) (Nat.le_of_ble_eq_true rfl) ?_
  refine r_if_eq (tgt := 31) dX12_heart_10 rfl (fun h3 => ?_) (fun h3 => ?_)
  · replace e := ite_t h3 e
    refine r_iconst (v := -1) dX12_heart_31 ci_m1 ?_
    cases e
    exact r_ireturn dX12_heart_32 rfl rfl
  · replace e := ite_f h3 e
    refine r_aload_n dX12_heart_13 rfl ?_
    refine r_iload_n dX12_heart_14 rfl ?_
    refine r_iload_n dX12_heart_15 rfl ?_
    obtain ⟨q4, eq5, e⟩ := obind e
    refine r_callV (as := [_, _]) (rest := []) dX12_heart_16 ml_X12_343 yV_X12_areTwo (c_X12_areTwo hS eq5) (by decide) rfl (lp_44 hS) (lq_44 hS) (Nat.le_of_ble_eq_true rfl) ?_
    refine r_if_eq (tgt := 31) dX12_heart_19 rfl (fun h6 => ?_) (fun h6 => ?_)
    · replace e := ite_t h6 e
      refine r_iconst (v := -1) dX12_heart_31 ci_m1 ?_
      cases e
      exact r_ireturn dX12_heart_32 rfl rfl
    · replace e := ite_f h6 e
      refine r_aload_n dX12_heart_22 rfl ?_
      refine r_iload_n dX12_heart_23 rfl ?_
      refine r_iload_n dX12_heart_24 rfl ?_
      obtain ⟨q7, eq8, e⟩ := obind e
      refine r_callV (as := [_, _]) (rest := []) dX12_heart_25 ml_X12_292 yV_X12_heartOf (c_X12_heartOf hS eq8) (by decide) rfl (lp_44 hS) (lq_44 hS) (Nat.le_of_ble_eq_true rfl) ?_
      refine r_goto (tgt := 32) dX12_heart_28 rfl ?_
      cases e
      exact r_ireturn dX12_heart_32 rfl rfl
def m_X12_fallen_b9 (mm : Mm) (q1 : Int32) (z3 : Int32 × Int32) : Option ((Int32 × Int32) ⊕ (Int32)) := if (mI mm 44 25) ≤ z3.2 then (some (.inr z3.1)) else ((if (m_X12_has q1 z3.2) = 0 then (some (0 : Int32)) else (grd z3.2 16 (some (xshl (1 : Int32) (mI mm 60 (ix z3.2))))) : Option (Int32)).bind (fun p10 => some (.inl (z3.1 ||| p10, z3.2 + (1 : Int32)))))
def m_X12_fallen (mm : Mm) : Option (Int32) := (m_X12_brokenOnes mm).bind (fun q1 => (whileF FU (m_X12_fallen_b9 mm q1) ((0 : Int32), (0 : Int32))).bind (fun p4 => some p4))
set_option maxHeartbeats 4000000 in
set_option maxRecDepth 100000 in
theorem c_X12_fallen {l : Launch} {G : Gt} {S : Sk} (hS : Lay S) {mm : Mm} {q : Int32} (e : m_X12_fallen mm = some q) : CallOK l G M_X12_fallen yX12_fallen 5 [vr (some 44)] S mm (some (vi q)) S mm := by
  refine call_of_run rfl rfl rfl (Nat.le_of_ble_eq_true rfl) ?_
  show Run l G M_X12_fallen 5 0 [some (vr (some 44)), none, none, none] [] S mm (some (vi q)) S mm
  unfold m_X12_fallen at e
  refine r_aload_n dX12_fallen_0 rfl ?_
  obtain ⟨q1, eq2, e⟩ := obind e
  refine r_callV (as := []) (rest := []) dX12_fallen_1 ml_X12_334 yV_X12_brokenOnes (c_X12_brokenOnes hS eq2) (by decide) rfl (lp_44 hS) (lq_44 hS) (Nat.le_of_ble_eq_true rfl) ?_
  refine r_istore_n dX12_fallen_4 (by decide) rfl ?_
  refine r_iconst (v := 0) dX12_fallen_5 ci_0 ?_
  refine r_istore_n dX12_fallen_6 (by decide) rfl ?_
  refine r_iconst (v := 0) dX12_fallen_7 ci_0 ?_
  refine r_istore_n dX12_fallen_8 (by decide) rfl ?_
  obtain ⟨p4, eb8w, e⟩ := obind e
  have J5a : Run l G M_X12_fallen 5 46 [none, none, some (vi p4), none] [] S mm (some (vi q)) S mm := by
    refine r_iload_n dX12_fallen_46 rfl ?_
    cases e
    exact r_ireturn dX12_fallen_47 rfl rfl
  have J5 : ∀ pp : Int32, pp = p4 → Run l G M_X12_fallen 5 46 [none, none, some (vi pp), none] [] S mm (some (vi q)) S mm := by
    intro pp hpp
    rw [hpp]
    exact J5a
  have J5w : Run l G M_X12_fallen 5 9 [some (vr (some 44)), some (vi q1), some (vi (0 : Int32)), some (vi (0 : Int32))] [] S mm (some (vi q)) S mm := by
    refine while_run (s := ((0 : Int32), (0 : Int32))) (Gs := fun (z3 : Int32 × Int32) => Run l G M_X12_fallen 5 9 [some (vr (some 44)), some (vi q1), some (vi z3.1), some (vi z3.2)] [] S mm (some (vi q)) S mm) eb8w ?_
    intro z3 x6y eb8 hx7
    unfold m_X12_fallen_b9 at eb8
    refine r_iload_n dX12_fallen_9 rfl ?_
    refine r_aload_n dX12_fallen_10 rfl ?_
    refine r_getI dX12_fallen_11 fl_X12_280 rfl (lp_44 hS) (lq_44 hS) ?_
    refine r_icmp_ge (tgt := 46) dX12_fallen_14 rfl (fun h9 => ?_) (fun h9 => ?_)
    · replace eb8 := ite_t h9 eb8
      cases eb8
      exact r_weak (L' := [none, none, some (vi z3.1), none]) ⟨rfl, trivial⟩ (J5 _ hx7)
    · replace eb8 := ite_f h9 eb8
      refine r_iload_n dX12_fallen_17 rfl ?_
      refine r_iload_n dX12_fallen_18 rfl ?_
      refine r_iload_n dX12_fallen_19 rfl ?_
      refine r_callS (as := [_, _]) (rest := [_]) dX12_fallen_20 ml_X12_94 yS_X12_has (c_X12_has hS) (by decide) rfl (Nat.le_of_ble_eq_true rfl) ?_
      obtain ⟨p10, ep12, eb8⟩ := obind eb8
      have J11a : Run l G M_X12_fallen 5 38 [some (vr (some 44)), some (vi q1), none, some (vi z3.2)] [vi p10, vi z3.1] S mm (some (vi q)) S mm := by
        refine r_ior dX12_fallen_38 ?_
        refine r_istore_n dX12_fallen_39 (by decide) rfl ?_
        refine r_iinc (v := _ + (1 : Int32)) dX12_fallen_40 rfl (congrArg (_ + ·) ci_1) (by decide) rfl ?_
        refine r_goto (tgt := 9) dX12_fallen_43 rfl ?_
        cases eb8
        exact r_weak (L' := [some (vr (some 44)), some (vi q1), some (vi (z3.1 ||| p10)), some (vi (z3.2 + (1 : Int32)))]) ⟨rfl, rfl, rfl, rfl, trivial⟩ hx7
      have J11 : ∀ pp : Int32, pp = p10 → Run l G M_X12_fallen 5 38 [some (vr (some 44)), some (vi q1), none, some (vi z3.2)] [vi pp, vi z3.1] S mm (some (vi q)) S mm := by
        intro pp hpp
        rw [hpp]
        exact J11a
      refine r_if_eq (tgt := 37) dX12_fallen_23 rfl (fun h14 => ?_) (fun h14 => ?_)
      · replace ep12 := ite_t h14 ep12
        refine r_iconst (v := 0) dX12_fallen_37 ci_0 ?_
        exact r_weak (L' := [some (vr (some 44)), some (vi q1), none, some (vi z3.2)]) ⟨rfl, rfl, rfl, trivial⟩ (J11 _ (Option.some.inj ep12))
      · replace ep12 := ite_f h14 ep12
        refine r_iconst (v := 1) dX12_fallen_26 ci_1 ?_
        refine r_aload_n dX12_fallen_27 rfl ?_
        refine r_getR dX12_fallen_28 fl_X12_56 rfl (lp_44 hS) (lq_44 hS) (lr_44_35 hS) ?_
        refine r_iload_n dX12_fallen_31 rfl ?_
        obtain ⟨hg15, ep12⟩ := grd_some ep12
        refine r_iald dX12_fallen_32 (lp_60 hS) (lk_60 hS) hg15 ?_
        refine r_ishl dX12_fallen_33 ?_
        refine r_goto (tgt := 38) dX12_fallen_34 rfl ?_
        exact r_weak (L' := [some (vr (some 44)), some (vi q1), none, some (vi z3.2)]) ⟨rfl, rfl, rfl, trivial⟩ (J11 _ (Option.some.inj ep12))
  exact r_weak (L' := [some (vr (some 44)), some (vi q1), some (vi (0 : Int32)), some (vi (0 : Int32))]) ⟨rfl, rfl, rfl, rfl, trivial⟩ J5w
def m_X12_strikes_b4 (z1 : Int32 × Int32 × Mm) : Option ((Int32 × Int32 × Mm) ⊕ (Int32 × Mm)) := if (xshl (1 : Int32) (mI z1.2.2 44 25)) ≤ z1.2.1 then (some (.inr (z1.1, z1.2.2))) else ((if z1.1 = (-1 : Int32) then (some (1 : Int32)) else ((m_X12_ones z1.2.1).bind (fun q13 => (m_X12_ones z1.1).bind (fun q15 => if q15 ≤ q13 then (some (0 : Int32)) else (some (1 : Int32))))) : Option (Int32)).bind (fun p8 => (if p8 = 0 then (some z1.1) else ((m_X12_brokenOnes (sI z1.2.2 44 26 z1.2.1)).bind (fun q23 => if q23 = 0 then (some z1.2.1) else (some z1.1))) : Option (Int32)).bind (fun p18 => some (.inl (p18, z1.2.1 + (1 : Int32), (sI z1.2.2 44 26 z1.2.1))))))
def m_X12_strikes (mm : Mm) : Option (Int32 × Mm) := (whileF FU (m_X12_strikes_b4) ((-1 : Int32), (0 : Int32), mm)).bind (fun p2 => some (p2.1, p2.2))
set_option maxHeartbeats 4000000 in
set_option maxRecDepth 100000 in
theorem c_X12_strikes {l : Launch} {G : Gt} {S : Sk} (hS : Lay S) {mm : Mm} {q : Int32 × Mm} (e : m_X12_strikes mm = some q) : CallOK l G M_X12_strikes yX12_strikes 5 [vr (some 44)] S mm (some (vi q.1)) S q.2 := by
  refine call_of_run rfl rfl rfl (Nat.le_of_ble_eq_true rfl) ?_
  show Run l G M_X12_strikes 5 0 [some (vr (some 44)), none, none, none] [] S mm (some (vi q.1)) S q.2
  unfold m_X12_strikes at e
  refine r_iconst (v := -1) dX12_strikes_0 ci_m1 ?_
  refine r_istore_n dX12_strikes_1 (by decide) rfl ?_
  refine r_iconst (v := 0) dX12_strikes_2 ci_0 ?_
  refine r_istore_n dX12_strikes_3 (by decide) rfl ?_
  obtain ⟨p2, eb6w, e⟩ := obind e
  have J3a : Run l G M_X12_strikes 5 64 [none, some (vi p2.1), none, none] [] S p2.2 (some (vi q.1)) S q.2 := by
    refine r_iload_n dX12_strikes_64 rfl ?_
    cases e
    exact r_ireturn dX12_strikes_65 rfl rfl
  have J3 : ∀ pp : Int32 × Mm, pp = p2 → Run l G M_X12_strikes 5 64 [none, some (vi pp.1), none, none] [] S pp.2 (some (vi q.1)) S q.2 := by
    intro pp hpp
    rw [hpp]
    exact J3a
  have J3w : Run l G M_X12_strikes 5 4 [some (vr (some 44)), some (vi (-1 : Int32)), some (vi (0 : Int32)), none] [] S mm (some (vi q.1)) S q.2 := by
    refine while_run (s := ((-1 : Int32), (0 : Int32), mm)) (Gs := fun (z1 : Int32 × Int32 × Mm) => Run l G M_X12_strikes 5 4 [some (vr (some 44)), some (vi z1.1), some (vi z1.2.1), none] [] S z1.2.2 (some (vi q.1)) S q.2) eb6w ?_
    intro z1 x4y eb6 hx5
    unfold m_X12_strikes_b4 at eb6
    refine r_iload_n dX12_strikes_4 rfl ?_
    refine r_iconst (v := 1) dX12_strikes_5 ci_1 ?_
    refine r_aload_n dX12_strikes_6 rfl ?_
    refine r_getI dX12_strikes_7 fl_X12_280 rfl (lp_44 hS) (lq_44 hS) ?_
    refine r_ishl dX12_strikes_10 ?_
    refine r_icmp_ge (tgt := 64) dX12_strikes_11 rfl (fun h7 => ?_) (fun h7 => ?_)
    · replace eb6 := ite_t h7 eb6
      cases eb6
      exact r_weak (L' := [none, some (vi z1.1), none, none]) ⟨rfl, trivial⟩ (J3 _ hx5)
    · replace eb6 := ite_f h7 eb6
      refine r_aload_n dX12_strikes_14 rfl ?_
      refine r_iload_n dX12_strikes_15 rfl ?_
      refine r_putI dX12_strikes_16 fl_X12_261 ft_12_26 (Or.inl rfl) rfl rfl rfl (lp_44 hS) (lq_44 hS) ?_
      refine r_iload_n dX12_strikes_19 rfl ?_
      refine r_iconst (v := -1) dX12_strikes_20 ci_m1 ?_
      obtain ⟨p8, ep10, eb6⟩ := obind eb6
      have J9a : Run l G M_X12_strikes 5 40 [some (vr (some 44)), some (vi z1.1), some (vi z1.2.1), none] [vi p8] S (sI z1.2.2 44 26 z1.2.1) (some (vi q.1)) S q.2 := by
        refine r_istore_n dX12_strikes_40 (by decide) rfl ?_
        refine r_iload_n dX12_strikes_41 rfl ?_
        obtain ⟨p18, ep20, eb6⟩ := obind eb6
        have J19a : Run l G M_X12_strikes 5 57 [some (vr (some 44)), none, some (vi z1.2.1), none] [vi p18] S (sI z1.2.2 44 26 z1.2.1) (some (vi q.1)) S q.2 := by
          refine r_istore_n dX12_strikes_57 (by decide) rfl ?_
          refine r_iinc (v := _ + (1 : Int32)) dX12_strikes_58 rfl (congrArg (_ + ·) ci_1) (by decide) rfl ?_
          refine r_goto (tgt := 4) dX12_strikes_61 rfl ?_
          cases eb6
          exact r_weak (L' := [some (vr (some 44)), some (vi p18), some (vi (z1.2.1 + (1 : Int32))), none]) ⟨rfl, rfl, rfl, trivial⟩ hx5
        have J19 : ∀ pp : Int32, pp = p18 → Run l G M_X12_strikes 5 57 [some (vr (some 44)), none, some (vi z1.2.1), none] [vi pp] S (sI z1.2.2 44 26 z1.2.1) (some (vi q.1)) S q.2 := by
          intro pp hpp
          rw [hpp]
          exact J19a
        refine r_if_eq (tgt := 56) dX12_strikes_42 rfl (fun h22 => ?_) (fun h22 => ?_)
        · replace ep20 := ite_t h22 ep20
          refine r_iload_n dX12_strikes_56 rfl ?_
          exact r_weak (L' := [some (vr (some 44)), none, some (vi z1.2.1), none]) ⟨rfl, rfl, trivial⟩ (J19 _ (Option.some.inj ep20))
        · replace ep20 := ite_f h22 ep20
          refine r_aload_n dX12_strikes_45 rfl ?_
          obtain ⟨q23, eq24, ep20⟩ := obind ep20
          refine r_callV (as := []) (rest := []) dX12_strikes_46 ml_X12_334 yV_X12_brokenOnes (c_X12_brokenOnes hS eq24) (by decide) rfl (lp_44 hS) (lq_44 hS) (Nat.le_of_ble_eq_true rfl) ?_
          refine r_if_ne (tgt := 56) dX12_strikes_49 rfl (fun h25 => ?_) (fun h25 => ?_)
          · replace ep20 := ite_f h25 ep20
            refine r_iload_n dX12_strikes_56 rfl ?_
            exact r_weak (L' := [some (vr (some 44)), none, some (vi z1.2.1), none]) ⟨rfl, rfl, trivial⟩ (J19 _ (Option.some.inj ep20))
          · replace ep20 := ite_t h25 ep20
            refine r_iload_n dX12_strikes_52 rfl ?_
            refine r_goto (tgt := 57) dX12_strikes_53 rfl ?_
            exact r_weak (L' := [some (vr (some 44)), none, some (vi z1.2.1), none]) ⟨rfl, rfl, trivial⟩ (J19 _ (Option.some.inj ep20))
      have J9 : ∀ pp : Int32, pp = p8 → Run l G M_X12_strikes 5 40 [some (vr (some 44)), some (vi z1.1), some (vi z1.2.1), none] [vi pp] S (sI z1.2.2 44 26 z1.2.1) (some (vi q.1)) S q.2 := by
        intro pp hpp
        rw [hpp]
        exact J9a
      refine r_icmp_eq (tgt := 35) dX12_strikes_21 rfl (fun h12 => ?_) (fun h12 => ?_)
      · replace ep10 := ite_t h12 ep10
        refine r_iconst (v := 1) dX12_strikes_35 ci_1 ?_
        refine r_goto (tgt := 40) dX12_strikes_36 rfl ?_
        exact r_weak (L' := [some (vr (some 44)), some (vi z1.1), some (vi z1.2.1), none]) ⟨rfl, rfl, rfl, trivial⟩ (J9 _ (Option.some.inj ep10))
      · replace ep10 := ite_f h12 ep10
        refine r_iload_n dX12_strikes_24 rfl ?_
        obtain ⟨q13, eq14, ep10⟩ := obind ep10
        refine r_callS (as := [_]) (rest := []) dX12_strikes_25 ml_X12_295 yS_X12_ones (c_X12_ones hS eq14) (by decide) rfl (Nat.le_of_ble_eq_true rfl) ?_
        refine r_iload_n dX12_strikes_28 rfl ?_
        obtain ⟨q15, eq16, ep10⟩ := obind ep10
        refine r_callS (as := [_]) (rest := [_]) dX12_strikes_29 ml_X12_295 yS_X12_ones (c_X12_ones hS eq16) (by decide) rfl (Nat.le_of_ble_eq_true rfl) ?_
        refine r_icmp_ge (tgt := 39) dX12_strikes_32 rfl (fun h17 => ?_) (fun h17 => ?_)
        · replace ep10 := ite_t h17 ep10
          refine r_iconst (v := 0) dX12_strikes_39 ci_0 ?_
          exact r_weak (L' := [some (vr (some 44)), some (vi z1.1), some (vi z1.2.1), none]) ⟨rfl, rfl, rfl, trivial⟩ (J9 _ (Option.some.inj ep10))
        · replace ep10 := ite_f h17 ep10
          refine r_iconst (v := 1) dX12_strikes_35 ci_1 ?_
          refine r_goto (tgt := 40) dX12_strikes_36 rfl ?_
          exact r_weak (L' := [some (vr (some 44)), some (vi z1.1), some (vi z1.2.1), none]) ⟨rfl, rfl, rfl, trivial⟩ (J9 _ (Option.some.inj ep10))
  exact r_weak (L' := [some (vr (some 44)), some (vi (-1 : Int32)), some (vi (0 : Int32)), none]) ⟨rfl, rfl, rfl, trivial⟩ J3w
def m_X12_swornTo_b4 (a1 : Int32) (mm : Mm) (z1 : Int32 × Int32) : Option ((Int32 × Int32) ⊕ (Int32)) := if (mI mm 44 25) ≤ z1.2 then (some (.inr z1.1)) else (grd z1.2 16 ((if (m_X12_has a1 (mI mm 60 (ix z1.2))) = 0 then (some (0 : Int32)) else (grd z1.2 16 (some (xshl (1 : Int32) (mI mm 61 (ix z1.2))))) : Option (Int32)).bind (fun p9 => some (.inl (z1.1 ||| p9, z1.2 + (1 : Int32))))))
def m_X12_swornTo (a1 : Int32) (mm : Mm) : Option (Int32) := (whileF FU (m_X12_swornTo_b4 a1 mm) ((0 : Int32), (0 : Int32))).bind (fun p2 => some p2)
set_option maxHeartbeats 4000000 in
set_option maxRecDepth 100000 in
theorem c_X12_swornTo {l : Launch} {G : Gt} {S : Sk} (hS : Lay S) {a1 : Int32} {mm : Mm} {q : Int32} (e : m_X12_swornTo a1 mm = some q) : CallOK l G M_X12_swornTo yX12_swornTo 1 [vr (some 44), vi a1] S mm (some (vi q)) S mm := by
  refine call_of_run rfl rfl rfl (Nat.le_of_ble_eq_true rfl) ?_
  show Run l G M_X12_swornTo 1 0 [some (vr (some 44)), some (vi a1), none, none] [] S mm (some (vi q)) S mm
  unfold m_X12_swornTo at e
  refine r_iconst (v := 0) dX12_swornTo_0 ci_0 ?_
  refine r_istore_n dX12_swornTo_1 (by decide) rfl ?_
  refine r_iconst (v := 0) dX12_swornTo_2 ci_0 ?_
  refine r_istore_n dX12_swornTo_3 (by decide) rfl ?_
  obtain ⟨p2, eb6w, e⟩ := obind e
  have J3a : Run l G M_X12_swornTo 1 46 [none, none, some (vi p2), none] [] S mm (some (vi q)) S mm := by
    refine r_iload_n dX12_swornTo_46 rfl ?_
    cases e
    exact r_ireturn dX12_swornTo_47 rfl rfl
  have J3 : ∀ pp : Int32, pp = p2 → Run l G M_X12_swornTo 1 46 [none, none, some (vi pp), none] [] S mm (some (vi q)) S mm := by
    intro pp hpp
    rw [hpp]
    exact J3a
  have J3w : Run l G M_X12_swornTo 1 4 [some (vr (some 44)), some (vi a1), some (vi (0 : Int32)), some (vi (0 : Int32))] [] S mm (some (vi q)) S mm := by
    refine while_run (s := ((0 : Int32), (0 : Int32))) (Gs := fun (z1 : Int32 × Int32) => Run l G M_X12_swornTo 1 4 [some (vr (some 44)), some (vi a1), some (vi z1.1), some (vi z1.2)] [] S mm (some (vi q)) S mm) eb6w ?_
    intro z1 x4y eb6 hx5
    unfold m_X12_swornTo_b4 at eb6
    refine r_iload_n dX12_swornTo_4 rfl ?_
    refine r_aload_n dX12_swornTo_5 rfl ?_
    refine r_getI dX12_swornTo_6 fl_X12_280 rfl (lp_44 hS) (lq_44 hS) ?_
    refine r_icmp_ge (tgt := 46) dX12_swornTo_9 rfl (fun h7 => ?_) (fun h7 => ?_)
    · replace eb6 := ite_t h7 eb6
      cases eb6
      exact r_weak (L' := [none, none, some (vi z1.1), none]) ⟨rfl, trivial⟩ (J3 _ hx5)
    · replace eb6 := ite_f h7 eb6
      refine r_iload_n dX12_swornTo_12 rfl ?_
      refine r_iload_n dX12_swornTo_13 rfl ?_
      refine r_aload_n dX12_swornTo_14 rfl ?_
      refine r_getR dX12_swornTo_15 fl_X12_56 rfl (lp_44 hS) (lq_44 hS) (lr_44_35 hS) ?_
      refine r_iload_n dX12_swornTo_18 rfl ?_
      obtain ⟨hg8, eb6⟩ := grd_some eb6
      refine r_iald dX12_swornTo_19 (lp_60 hS) (lk_60 hS) hg8 ?_
      refine r_callS (as := [_, _]) (rest := [_]) dX12_swornTo_20 ml_X12_94 yS_X12_has (c_X12_has hS) (by decide) rfl (Nat.le_of_ble_eq_true rfl) ?_
      obtain ⟨p9, ep11, eb6⟩ := obind eb6
      have J10a : Run l G M_X12_swornTo 1 38 [some (vr (some 44)), some (vi a1), none, some (vi z1.2)] [vi p9, vi z1.1] S mm (some (vi q)) S mm := by
        refine r_ior dX12_swornTo_38 ?_
        refine r_istore_n dX12_swornTo_39 (by decide) rfl ?_
        refine r_iinc (v := _ + (1 : Int32)) dX12_swornTo_40 rfl (congrArg (_ + ·) ci_1) (by decide) rfl ?_
        refine r_goto (tgt := 4) dX12_swornTo_43 rfl ?_
        cases eb6
        exact r_weak (L' := [some (vr (some 44)), some (vi a1), some (vi (z1.1 ||| p9)), some (vi (z1.2 + (1 : Int32)))]) ⟨rfl, rfl, rfl, rfl, trivial⟩ hx5
      have J10 : ∀ pp : Int32, pp = p9 → Run l G M_X12_swornTo 1 38 [some (vr (some 44)), some (vi a1), none, some (vi z1.2)] [vi pp, vi z1.1] S mm (some (vi q)) S mm := by
        intro pp hpp
        rw [hpp]
        exact J10a
      refine r_if_eq (tgt := 37) dX12_swornTo_23 rfl (fun h13 => ?_) (fun h13 => ?_)
      · replace ep11 := ite_t h13 ep11
        refine r_iconst (v := 0) dX12_swornTo_37 ci_0 ?_
        exact r_weak (L' := [some (vr (some 44)), some (vi a1), none, some (vi z1.2)]) ⟨rfl, rfl, rfl, trivial⟩ (J10 _ (Option.some.inj ep11))
      · replace ep11 := ite_f h13 ep11
        refine r_iconst (v := 1) dX12_swornTo_26 ci_1 ?_
        refine r_aload_n dX12_swornTo_27 rfl ?_
        refine r_getR dX12_swornTo_28 fl_X12_59 rfl (lp_44 hS) (lq_44 hS) (lr_44_36 hS) ?_
        refine r_iload_n dX12_swornTo_31 rfl ?_
        obtain ⟨hg14, ep11⟩ := grd_some ep11
        refine r_iald dX12_swornTo_32 (lp_61 hS) (lk_61 hS) hg14 ?_
        refine r_ishl dX12_swornTo_33 ?_
        refine r_goto (tgt := 38) dX12_swornTo_34 rfl ?_
        exact r_weak (L' := [some (vr (some 44)), some (vi a1), none, some (vi z1.2)]) ⟨rfl, rfl, rfl, trivial⟩ (J10 _ (Option.some.inj ep11))
  exact r_weak (L' := [some (vr (some 44)), some (vi a1), some (vi (0 : Int32)), some (vi (0 : Int32))]) ⟨rfl, rfl, rfl, rfl, trivial⟩ J3w
def m_X12_ringOf_b6 (a1 : Int32) (mm : Mm) (z1 : Int32 × Int32) : Option ((Int32 × Int32) ⊕ ((Unit) ⊕ (Int32))) := if (6 : Int32) < z1.2 then (some (.inr (.inl ()))) else ((m_X12_swornTo z1.1 mm).bind (fun q8 => if (m_X12_has q8 a1) = 0 then (some (.inl (q8, z1.2 + (1 : Int32)))) else (some (.inr (.inr z1.2)))))
def m_X12_ringOf (a1 : Int32) (mm : Mm) : Option (Int32) := bS (whileF FU (m_X12_ringOf_b6 a1 mm) (xshl (1 : Int32) a1, (1 : Int32))) (fun p2 => some (-1 : Int32))
set_option maxHeartbeats 4000000 in
set_option maxRecDepth 100000 in
theorem c_X12_ringOf {l : Launch} {G : Gt} {S : Sk} (hS : Lay S) {a1 : Int32} {mm : Mm} {q : Int32} (e : m_X12_ringOf a1 mm = some q) : CallOK l G M_X12_ringOf yX12_ringOf 2 [vr (some 44), vi a1] S mm (some (vi q)) S mm := by
  refine call_of_run rfl rfl rfl (Nat.le_of_ble_eq_true rfl) ?_
  show Run l G M_X12_ringOf 2 0 [some (vr (some 44)), some (vi a1), none, none] [] S mm (some (vi q)) S mm
  unfold m_X12_ringOf at e
  refine r_iconst (v := 1) dX12_ringOf_0 ci_1 ?_
  refine r_iload_n dX12_ringOf_1 rfl ?_
  refine r_ishl dX12_ringOf_2 ?_
  refine r_istore_n dX12_ringOf_3 (by decide) rfl ?_
  refine r_iconst (v := 1) dX12_ringOf_4 ci_1 ?_
  refine r_istore_n dX12_ringOf_5 (by decide) rfl ?_
  obtain ⟨x4, eb6w, elx4, erx4⟩ := bS_some e
  have J3 : ∀ p2 : Unit, x4 = .inl p2 → Run l G M_X12_ringOf 2 34 [none, none, none, none] [] S mm (some (vi q)) S mm := by
    intro p2 hp2
    replace e := elx4 p2 hp2
    refine r_iconst (v := -1) dX12_ringOf_34 ci_m1 ?_
    cases e
    exact r_ireturn dX12_ringOf_35 rfl rfl
  have J3w : Run l G M_X12_ringOf 2 6 [some (vr (some 44)), some (vi a1), some (vi (xshl (1 : Int32) a1)), some (vi (1 : Int32))] [] S mm (some (vi q)) S mm := by
    refine while_run (s := (xshl (1 : Int32) a1, (1 : Int32))) (Gs := fun (z1 : Int32 × Int32) => Run l G M_X12_ringOf 2 6 [some (vr (some 44)), some (vi a1), some (vi z1.1), some (vi z1.2)] [] S mm (some (vi q)) S mm) eb6w ?_
    intro z1 x4y eb6 hx5
    unfold m_X12_ringOf_b6 at eb6
    refine r_iload_n dX12_ringOf_6 rfl ?_
    refine r_bipush (v := 6) dX12_ringOf_7 cb_6 ?_
    refine r_icmp_gt (tgt := 34) dX12_ringOf_9 rfl (fun h7 => ?_) (fun h7 => ?_)
    · replace eb6 := ite_t h7 eb6
      cases eb6
      exact r_weak (L' := [none, none, none, none]) trivial (J3 _ (Eq.symm hx5))
    · replace eb6 := ite_f h7 eb6
      refine r_aload_n dX12_ringOf_12 rfl ?_
      refine r_iload_n dX12_ringOf_13 rfl ?_
      obtain ⟨q8, eq9, eb6⟩ := obind eb6
      refine r_callV (as := [_]) (rest := []) dX12_ringOf_14 ml_X12_394 yV_X12_swornTo (c_X12_swornTo hS eq9) (by decide) rfl (lp_44 hS) (lq_44 hS) (Nat.le_of_ble_eq_true rfl) ?_
      refine r_istore_n dX12_ringOf_17 (by decide) rfl ?_
      refine r_iload_n dX12_ringOf_18 rfl ?_
      refine r_iload_n dX12_ringOf_19 rfl ?_
      refine r_callS (as := [_, _]) (rest := []) dX12_ringOf_20 ml_X12_94 yS_X12_has (c_X12_has hS) (by decide) rfl (Nat.le_of_ble_eq_true rfl) ?_
      refine r_if_eq (tgt := 28) dX12_ringOf_23 rfl (fun h10 => ?_) (fun h10 => ?_)
      · replace eb6 := ite_t h10 eb6
        refine r_iinc (v := _ + (1 : Int32)) dX12_ringOf_28 rfl (congrArg (_ + ·) ci_1) (by decide) rfl ?_
        refine r_goto (tgt := 6) dX12_ringOf_31 rfl ?_
        cases eb6
        exact r_weak (L' := [some (vr (some 44)), some (vi a1), some (vi q8), some (vi (z1.2 + (1 : Int32)))]) ⟨rfl, rfl, rfl, rfl, trivial⟩ hx5
      · replace eb6 := ite_f h10 eb6
        refine r_iload_n dX12_ringOf_26 rfl ?_
        cases eb6
        have e := congrArg some (erx4 _ (Eq.symm hx5))
        cases e
        exact r_ireturn dX12_ringOf_27 rfl rfl
  exact r_weak (L' := [some (vr (some 44)), some (vi a1), some (vi (xshl (1 : Int32) a1)), some (vi (1 : Int32))]) ⟨rfl, rfl, rfl, rfl, trivial⟩ J3w
def m_X12_ring_b7 (mm : Mm) (z1 : Int32 × Int32 × Int32) : Option ((Int32 × Int32 × Int32) ⊕ (Int32 × Int32)) := if (mI mm 44 24) ≤ z1.2.2 then (some (.inr (z1.1, z1.2.1))) else ((m_X12_ringOf z1.2.2 mm).bind (fun q8 => some (.inl ((if q8 = (-1 : Int32) then z1.1 else (if z1.1 = (-1 : Int32) then q8 else (if z1.1 ≤ q8 then z1.1 else q8))), z1.2.1 ||| (if q8 = (-1 : Int32) then (0 : Int32) else xshl (1 : Int32) z1.2.2), z1.2.2 + (1 : Int32)))))
def m_X12_ring (a1 : Int32) (mm : Mm) : Option (Int32) := (whileF FU (m_X12_ring_b7 mm) ((-1 : Int32), (0 : Int32), (0 : Int32))).bind (fun p2 => if a1 = 0 then (some p2.1) else (some p2.2))
set_option maxHeartbeats 4000000 in
set_option maxRecDepth 100000 in
theorem c_X12_ring {l : Launch} {G : Gt} {S : Sk} (hS : Lay S) {a1 : Int32} {mm : Mm} {q : Int32} (e : m_X12_ring a1 mm = some q) : CallOK l G M_X12_ring yX12_ring 3 [vr (some 44), vi a1] S mm (some (vi q)) S mm := by
  refine call_of_run rfl rfl rfl (Nat.le_of_ble_eq_true rfl) ?_
  show Run l G M_X12_ring 3 0 [some (vr (some 44)), some (vi a1), none, none, none, none] [] S mm (some (vi q)) S mm
  unfold m_X12_ring at e
  refine r_iconst (v := -1) dX12_ring_0 ci_m1 ?_
  refine r_istore_n dX12_ring_1 (by decide) rfl ?_
  refine r_iconst (v := 0) dX12_ring_2 ci_0 ?_
  refine r_istore_n dX12_ring_3 (by decide) rfl ?_
  refine r_iconst (v := 0) dX12_ring_4 ci_0 ?_
  refine r_istore dX12_ring_5 (by decide) rfl ?_
  obtain ⟨p2, eb6w, e⟩ := obind e
  have J3a : Run l G M_X12_ring 3 71 [none, some (vi a1), some (vi p2.1), some (vi p2.2), none, none] [] S mm (some (vi q)) S mm := by
    refine r_iload_n dX12_ring_71 rfl ?_
    refine r_if_eq (tgt := 79) dX12_ring_72 rfl (fun h20 => ?_) (fun h20 => ?_)
    · replace e := ite_t h20 e
      refine r_iload_n dX12_ring_79 rfl ?_
      cases e
      exact r_ireturn dX12_ring_80 rfl rfl
    · replace e := ite_f h20 e
      refine r_iload_n dX12_ring_75 rfl ?_
      refine r_goto (tgt := 80) dX12_ring_76 rfl ?_
      cases e
      exact r_ireturn dX12_ring_80 rfl rfl
  have J3 : ∀ pp : Int32 × Int32, pp = p2 → Run l G M_X12_ring 3 71 [none, some (vi a1), some (vi pp.1), some (vi pp.2), none, none] [] S mm (some (vi q)) S mm := by
    intro pp hpp
    rw [hpp]
    exact J3a
  have J3w : Run l G M_X12_ring 3 7 [some (vr (some 44)), some (vi a1), some (vi (-1 : Int32)), some (vi (0 : Int32)), some (vi (0 : Int32)), none] [] S mm (some (vi q)) S mm := by
    refine while_run (s := ((-1 : Int32), (0 : Int32), (0 : Int32))) (Gs := fun (z1 : Int32 × Int32 × Int32) => Run l G M_X12_ring 3 7 [some (vr (some 44)), some (vi a1), some (vi z1.1), some (vi z1.2.1), some (vi z1.2.2), none] [] S mm (some (vi q)) S mm) eb6w ?_
    intro z1 x4y eb6 hx5
    unfold m_X12_ring_b7 at eb6
    refine r_iload dX12_ring_7 rfl ?_
    refine r_aload_n dX12_ring_9 rfl ?_
    refine r_getI dX12_ring_10 fl_X12_283 rfl (lp_44 hS) (lq_44 hS) ?_
    refine r_icmp_ge (tgt := 71) dX12_ring_13 rfl (fun h7 => ?_) (fun h7 => ?_)
    · replace eb6 := ite_t h7 eb6
      cases eb6
      exact r_weak (L' := [none, some (vi a1), some (vi z1.1), some (vi z1.2.1), none, none]) ⟨rfl, rfl, rfl, trivial⟩ (J3 _ hx5)
    · replace eb6 := ite_f h7 eb6
      refine r_aload_n dX12_ring_16 rfl ?_
      refine r_iload dX12_ring_17 rfl ?_
      obtain ⟨q8, eq9, eb6⟩ := obind eb6
      refine r_callV (as := [_]) (rest := []) dX12_ring_19 ml_X12_397 yV_X12_ringOf (c_X12_ringOf hS eq9) (by decide) rfl (lp_44 hS) (lq_44 hS) (Nat.le_of_ble_eq_true rfl) ?_
      refine r_istore dX12_ring_22 (by decide) rfl ?_
      refine r_iload_n dX12_ring_24 rfl ?_
      refine r_iload dX12_ring_25 rfl ?_
      refine r_iconst (v := -1) dX12_ring_27 ci_m1 ?_
      have J12 : ∀ (w11 : Int32), w11 = (if q8 = (-1 : Int32) then (0 : Int32) else xshl (1 : Int32) z1.2.2) → Run l G M_X12_ring 3 39 [some (vr (some 44)), some (vi a1), some (vi z1.1), none, some (vi z1.2.2), some (vi q8)] [vi w11, vi z1.2.1] S mm (some (vi q)) S mm := by
        intro w11 hw19
        subst hw19
        refine r_ior dX12_ring_39 ?_
        refine r_istore_n dX12_ring_40 (by decide) rfl ?_
        refine r_iload dX12_ring_41 rfl ?_
        refine r_iconst (v := -1) dX12_ring_43 ci_m1 ?_
        have J17 : ∀ (w16 : Int32), w16 = (if q8 = (-1 : Int32) then z1.1 else (if z1.1 = (-1 : Int32) then q8 else (if z1.1 ≤ q8 then z1.1 else q8))) → Run l G M_X12_ring 3 64 [some (vr (some 44)), some (vi a1), none, some (vi (z1.2.1 ||| (if q8 = (-1 : Int32) then (0 : Int32) else xshl (1 : Int32) z1.2.2))), some (vi z1.2.2), none] [vi w16] S mm (some (vi q)) S mm := by
          intro w16 hw18
          subst hw18
          refine r_istore_n dX12_ring_64 (by decide) rfl ?_
          refine r_iinc (v := _ + (1 : Int32)) dX12_ring_65 rfl (congrArg (_ + ·) ci_1) (by decide) rfl ?_
          refine r_goto (tgt := 7) dX12_ring_68 rfl ?_
          cases eb6
          exact r_weak (L' := [some (vr (some 44)), some (vi a1), some (vi (if q8 = (-1 : Int32) then z1.1 else (if z1.1 = (-1 : Int32) then q8 else (if z1.1 ≤ q8 then z1.1 else q8)))), some (vi (z1.2.1 ||| (if q8 = (-1 : Int32) then (0 : Int32) else xshl (1 : Int32) z1.2.2))), some (vi (z1.2.2 + (1 : Int32))), none]) ⟨rfl, rfl, rfl, rfl, rfl, trivial⟩ hx5
        refine r_icmp_eq (tgt := 63) dX12_ring_44 rfl (fun h13 => ?_) (fun h13 => ?_)
        · refine r_iload_n dX12_ring_63 rfl ?_
          exact r_weak (L' := [some (vr (some 44)), some (vi a1), none, some (vi (z1.2.1 ||| (if q8 = (-1 : Int32) then (0 : Int32) else xshl (1 : Int32) z1.2.2))), some (vi z1.2.2), none]) ⟨rfl, rfl, rfl, rfl, trivial⟩ (J17 _ (Eq.symm (if_pos h13)))
        · refine r_iload_n dX12_ring_47 rfl ?_
          refine r_iconst (v := -1) dX12_ring_48 ci_m1 ?_
          refine r_icmp_eq (tgt := 58) dX12_ring_49 rfl (fun h14 => ?_) (fun h14 => ?_)
          · refine r_iload dX12_ring_58 rfl ?_
            refine r_goto (tgt := 64) dX12_ring_60 rfl ?_
            exact r_weak (L' := [some (vr (some 44)), some (vi a1), none, some (vi (z1.2.1 ||| (if q8 = (-1 : Int32) then (0 : Int32) else xshl (1 : Int32) z1.2.2))), some (vi z1.2.2), none]) ⟨rfl, rfl, rfl, rfl, trivial⟩ (J17 _ (Eq.symm ((if_neg h13).trans (if_pos h14))))
          · refine r_iload dX12_ring_52 rfl ?_
            refine r_iload_n dX12_ring_54 rfl ?_
            refine r_icmp_ge (tgt := 63) dX12_ring_55 rfl (fun h15 => ?_) (fun h15 => ?_)
            · refine r_iload_n dX12_ring_63 rfl ?_
              exact r_weak (L' := [some (vr (some 44)), some (vi a1), none, some (vi (z1.2.1 ||| (if q8 = (-1 : Int32) then (0 : Int32) else xshl (1 : Int32) z1.2.2))), some (vi z1.2.2), none]) ⟨rfl, rfl, rfl, rfl, trivial⟩ (J17 _ (Eq.symm ((if_neg h13).trans ((if_neg h14).trans (if_pos h15)))))
            · refine r_iload dX12_ring_58 rfl ?_
              refine r_goto (tgt := 64) dX12_ring_60 rfl ?_
              exact r_weak (L' := [some (vr (some 44)), some (vi a1), none, some (vi (z1.2.1 ||| (if q8 = (-1 : Int32) then (0 : Int32) else xshl (1 : Int32) z1.2.2))), some (vi z1.2.2), none]) ⟨rfl, rfl, rfl, rfl, trivial⟩ (J17 _ (Eq.symm ((if_neg h13).trans ((if_neg h14).trans (if_neg h15)))))
      refine r_icmp_ne (tgt := 35) dX12_ring_28 rfl (fun h10 => ?_) (fun h10 => ?_)
      · refine r_iconst (v := 1) dX12_ring_35 ci_1 ?_
        refine r_iload dX12_ring_36 rfl ?_
        refine r_ishl dX12_ring_38 ?_
        exact r_weak (L' := [some (vr (some 44)), some (vi a1), some (vi z1.1), none, some (vi z1.2.2), some (vi q8)]) ⟨rfl, rfl, rfl, rfl, rfl, trivial⟩ (J12 _ (Eq.symm (if_neg h10)))
      · refine r_iconst (v := 0) dX12_ring_31 ci_0 ?_
        refine r_goto (tgt := 39) dX12_ring_32 rfl ?_
        exact r_weak (L' := [some (vr (some 44)), some (vi a1), some (vi z1.1), none, some (vi z1.2.2), some (vi q8)]) ⟨rfl, rfl, rfl, rfl, rfl, trivial⟩ (J12 _ (Eq.symm (if_pos h10)))
  exact r_weak (L' := [some (vr (some 44)), some (vi a1), some (vi (-1 : Int32)), some (vi (0 : Int32)), some (vi (0 : Int32)), none]) ⟨rfl, rfl, rfl, rfl, rfl, trivial⟩ J3w
def m_X12_fall (a1 : Int32) (a2 : Int32) (mm : Mm) : Option (Int32 × Mm) := (m_X12_hand a1 (sI mm 44 0 (0 : Int32))).bind (fun q1 => if q1.1 = 0 then (some ((-2 : Int32), q1.2)) else (if a2 = (0 : Int32) then ((m_X12_fallen q1.2).bind (fun q5 => some (q5, q1.2))) else (if a2 = (1 : Int32) then ((m_X12_strikes q1.2).bind (fun q8 => (m_X12_ones q8.1).bind (fun q10 => some (q10, q8.2)))) else (if a2 = (2 : Int32) then ((m_X12_strikes q1.2).bind (fun q13 => some (q13.1, q13.2))) else (if a2 = (3 : Int32) then ((m_X12_ring (if a2 = (4 : Int32) then (1 : Int32) else (0 : Int32)) q1.2).bind (fun q19 => some (q19, q1.2))) else (if a2 = (4 : Int32) then ((m_X12_ring (if a2 = (4 : Int32) then (1 : Int32) else (0 : Int32)) q1.2).bind (fun q26 => some (q26, q1.2))) else (some ((-2 : Int32), q1.2))))))))
set_option maxHeartbeats 4000000 in
set_option maxRecDepth 100000 in
theorem c_X12_fall {l : Launch} {G : Gt} {S : Sk} (hS : Lay S) {a1 : Int32} {a2 : Int32} {mm : Mm} {q : Int32 × Mm} (e : m_X12_fall a1 a2 mm = some q) : CallOK l G M_X12_fall yX12_fall 6 [vr (some 44), vi a1, vi a2] S mm (some (vi q.1)) S q.2 := by
  refine call_of_run rfl rfl rfl (Nat.le_of_ble_eq_true rfl) ?_
  show Run l G M_X12_fall 6 0 [some (vr (some 44)), some (vi a1), some (vi a2)] [] S mm (some (vi q.1)) S q.2
  unfold m_X12_fall at e
  refine r_aload_n dX12_fall_0 rfl ?_
  refine r_iconst (v := 0) dX12_fall_1 ci_0 ?_
  refine r_putI dX12_fall_2 fl_X12_90 ft_12_0 (Or.inl rfl) rfl rfl rfl (lp_44 hS) (lq_44 hS) ?_
  refine r_aload_n dX12_fall_5 rfl ?_
  refine r_iload_n dX12_fall_6 rfl ?_
  obtain ⟨q1, eq2, e⟩ := obind e
  refine r_callV (as := [_]) (rest := []) dX12_fall_7 ml_X12_310 yV_X12_hand (c_X12_hand hS eq2) (by decide) rfl (lp_44 hS) (lq_44 hS) (Nat.le_of_ble_eq_true rfl) ?_
  refine r_if_ne (tgt := 16) dX12_fall_10 rfl (fun h3 => ?_) (fun h3 => ?_)
  · replace e := ite_f h3 e
    refine r_iload_n dX12_fall_16 rfl ?_
    by_cases h4 : a2 = (0 : Int32)
    · replace e := ite_t h4 e
      refine r_table_in (tgt := 52) dX12_fall_17 (by rw [h4]; decide) (by rw [h4]; decide) (by rw [h4]; rfl) rfl ?_
      refine r_aload_n dX12_fall_52 rfl ?_
      obtain ⟨q5, eq6, e⟩ := obind e
      refine r_callV (as := []) (rest := []) dX12_fall_53 ml_X12_400 yV_X12_fallen (c_X12_fallen hS eq6) (by decide) rfl (lp_44 hS) (lq_44 hS) (Nat.le_of_ble_eq_true rfl) ?_
      cases e
      exact r_ireturn dX12_fall_56 rfl rfl
    replace e := ite_f h4 e
    by_cases h7 : a2 = (1 : Int32)
    · replace e := ite_t h7 e
      refine r_table_in (tgt := 57) dX12_fall_17 (by rw [h7]; decide) (by rw [h7]; decide) (by rw [h7]; rfl) rfl ?_
      refine r_aload_n dX12_fall_57 rfl ?_
      obtain ⟨q8, eq9, e⟩ := obind e
      refine r_callV (as := []) (rest := []) dX12_fall_58 ml_X12_403 yV_X12_strikes (c_X12_strikes hS eq9) (by decide) rfl (lp_44 hS) (lq_44 hS) (Nat.le_of_ble_eq_true rfl) ?_
      obtain ⟨q10, eq11, e⟩ := obind e
      refine r_callS (as := [_]) (rest := []) dX12_fall_61 ml_X12_295 yS_X12_ones (c_X12_ones hS eq11) (by decide) rfl (Nat.le_of_ble_eq_true rfl) ?_
      cases e
      exact r_ireturn dX12_fall_64 rfl rfl
    replace e := ite_f h7 e
    by_cases h12 : a2 = (2 : Int32)
    · replace e := ite_t h12 e
      refine r_table_in (tgt := 65) dX12_fall_17 (by rw [h12]; decide) (by rw [h12]; decide) (by rw [h12]; rfl) rfl ?_
      refine r_aload_n dX12_fall_65 rfl ?_
      obtain ⟨q13, eq14, e⟩ := obind e
      refine r_callV (as := []) (rest := []) dX12_fall_66 ml_X12_403 yV_X12_strikes (c_X12_strikes hS eq14) (by decide) rfl (lp_44 hS) (lq_44 hS) (Nat.le_of_ble_eq_true rfl) ?_
      cases e
      exact r_ireturn dX12_fall_69 rfl rfl
    replace e := ite_f h12 e
    by_cases h15 : a2 = (3 : Int32)
    · replace e := ite_t h15 e
      refine r_table_in (tgt := 70) dX12_fall_17 (by rw [h15]; decide) (by rw [h15]; decide) (by rw [h15]; rfl) rfl ?_
      refine r_aload_n dX12_fall_70 rfl ?_
      refine r_iload_n dX12_fall_71 rfl ?_
      refine r_iconst (v := 4) dX12_fall_72 ci_4 ?_
      have J18 : ∀ (w17 : Int32), w17 = (if a2 = (4 : Int32) then (1 : Int32) else (0 : Int32)) → Run l G M_X12_fall 6 81 [none, none, none] [vi w17, vr (some 44)] S q1.2 (some (vi q.1)) S q.2 := by
        intro w17 hw21
        subst hw21
        obtain ⟨q19, eq20, e⟩ := obind e
        refine r_callV (as := [_]) (rest := []) dX12_fall_81 ml_X12_406 yV_X12_ring (c_X12_ring hS eq20) (by decide) rfl (lp_44 hS) (lq_44 hS) (Nat.le_of_ble_eq_true rfl) ?_
        cases e
        exact r_ireturn dX12_fall_84 rfl rfl
      refine r_icmp_ne (tgt := 80) dX12_fall_73 rfl (fun h16 => ?_) (fun h16 => ?_)
      · refine r_iconst (v := 0) dX12_fall_80 ci_0 ?_
        exact r_weak (L' := [none, none, none]) trivial (J18 _ (Eq.symm (if_neg h16)))
      · refine r_iconst (v := 1) dX12_fall_76 ci_1 ?_
        refine r_goto (tgt := 81) dX12_fall_77 rfl ?_
        exact r_weak (L' := [none, none, none]) trivial (J18 _ (Eq.symm (if_pos h16)))
    replace e := ite_f h15 e
    by_cases h22 : a2 = (4 : Int32)
    · replace e := ite_t h22 e
      refine r_table_in (tgt := 70) dX12_fall_17 (by rw [h22]; decide) (by rw [h22]; decide) (by rw [h22]; rfl) rfl ?_
      refine r_aload_n dX12_fall_70 rfl ?_
      refine r_iload_n dX12_fall_71 rfl ?_
      refine r_iconst (v := 4) dX12_fall_72 ci_4 ?_
      have J25 : ∀ (w24 : Int32), w24 = (if a2 = (4 : Int32) then (1 : Int32) else (0 : Int32)) → Run l G M_X12_fall 6 81 [none, none, none] [vi w24, vr (some 44)] S q1.2 (some (vi q.1)) S q.2 := by
        intro w24 hw28
        subst hw28
        obtain ⟨q26, eq27, e⟩ := obind e
        refine r_callV (as := [_]) (rest := []) dX12_fall_81 ml_X12_406 yV_X12_ring (c_X12_ring hS eq27) (by decide) rfl (lp_44 hS) (lq_44 hS) (Nat.le_of_ble_eq_true rfl) ?_
        cases e
        exact r_ireturn dX12_fall_84 rfl rfl
      refine r_icmp_ne (tgt := 80) dX12_fall_73 rfl (fun h23 => ?_) (fun h23 => ?_)
      · refine r_iconst (v := 0) dX12_fall_80 ci_0 ?_
        exact r_weak (L' := [none, none, none]) trivial (J25 _ (Eq.symm (if_neg h23)))
      · refine r_iconst (v := 1) dX12_fall_76 ci_1 ?_
        refine r_goto (tgt := 81) dX12_fall_77 rfl ?_
        exact r_weak (L' := [none, none, none]) trivial (J25 _ (Eq.symm (if_pos h23)))
    replace e := ite_f h22 e
    have ho17 : (a2).toInt < 0 ∨ 4 < (a2).toInt := by
      have nh4 := lv_neT (a := 0) h4 (by decide)
      have nh7 := lv_neT (a := 1) h7 (by decide)
      have nh12 := lv_neT (a := 2) h12 (by decide)
      have nh15 := lv_neT (a := 3) h15 (by decide)
      have nh22 := lv_neT (a := 4) h22 (by decide)
      omega
    refine r_table_out (tgt := 85) dX12_fall_17 ho17 rfl ?_
    refine r_bipush (v := -2) dX12_fall_85 cb_m2 ?_
    cases e
    exact r_ireturn dX12_fall_87 rfl rfl
  · replace e := ite_t h3 e
    refine r_bipush (v := -2) dX12_fall_13 cb_m2 ?_
    cases e
    exact r_ireturn dX12_fall_15 rfl rfl
def m_X12_allWants (mm : Mm) : Option (Int32) := grd ((13 : Int32) * (mI mm 44 41)) 104 (some (mI mm 52 (ix ((13 : Int32) * (mI mm 44 41)))))
set_option maxHeartbeats 4000000 in
set_option maxRecDepth 100000 in
theorem c_X12_allWants {l : Launch} {G : Gt} {S : Sk} (hS : Lay S) {mm : Mm} {q : Int32} (e : m_X12_allWants mm = some q) : CallOK l G M_X12_allWants yX12_allWants 0 [vr (some 44)] S mm (some (vi q)) S mm := by
  refine call_of_run rfl rfl rfl (Nat.le_of_ble_eq_true rfl) ?_
  show Run l G M_X12_allWants 0 0 [some (vr (some 44))] [] S mm (some (vi q)) S mm
  unfold m_X12_allWants at e
  refine r_aload_n dX12_allWants_0 rfl ?_
  refine r_getR dX12_allWants_1 fl_X12_32 rfl (lp_44 hS) (lq_44 hS) (lr_44_8 hS) ?_
  refine r_bipush (v := 13) dX12_allWants_4 cb_13 ?_
  refine r_aload_n dX12_allWants_6 rfl ?_
  refine r_getI dX12_allWants_7 fl_X12_410 rfl (lp_44 hS) (lq_44 hS) ?_
  refine r_imul dX12_allWants_10 ?_
  obtain ⟨hg1, e⟩ := grd_some e
  refine r_iald dX12_allWants_11 (lp_52 hS) (lk_52 hS) hg1 ?_
  cases e
  exact r_ireturn dX12_allWants_12 rfl rfl
def m_X12_wantOf (a1 : Int32) (a2 : Int32) (mm : Mm) : Option (Int32) := grd (((((13 : Int32) * (mI mm 44 41)) + (1 : Int32)) + ((2 : Int32) * a1)) + a2) 104 (some (mI mm 52 (ix (((((13 : Int32) * (mI mm 44 41)) + (1 : Int32)) + ((2 : Int32) * a1)) + a2))))
set_option maxHeartbeats 4000000 in
set_option maxRecDepth 100000 in
theorem c_X12_wantOf {l : Launch} {G : Gt} {S : Sk} (hS : Lay S) {a1 : Int32} {a2 : Int32} {mm : Mm} {q : Int32} (e : m_X12_wantOf a1 a2 mm = some q) : CallOK l G M_X12_wantOf yX12_wantOf 0 [vr (some 44), vi a1, vi a2] S mm (some (vi q)) S mm := by
  refine call_of_run rfl rfl rfl (Nat.le_of_ble_eq_true rfl) ?_
  show Run l G M_X12_wantOf 0 0 [some (vr (some 44)), some (vi a1), some (vi a2)] [] S mm (some (vi q)) S mm
  unfold m_X12_wantOf at e
  refine r_aload_n dX12_wantOf_0 rfl ?_
  refine r_getR dX12_wantOf_1 fl_X12_32 rfl (lp_44 hS) (lq_44 hS) (lr_44_8 hS) ?_
  refine r_bipush (v := 13) dX12_wantOf_4 cb_13 ?_
  refine r_aload_n dX12_wantOf_6 rfl ?_
  refine r_getI dX12_wantOf_7 fl_X12_410 rfl (lp_44 hS) (lq_44 hS) ?_
  refine r_imul dX12_wantOf_10 ?_
  refine r_iconst (v := 1) dX12_wantOf_11 ci_1 ?_
  refine r_iadd dX12_wantOf_12 ?_
  refine r_iconst (v := 2) dX12_wantOf_13 ci_2 ?_
  refine r_iload_n dX12_wantOf_14 rfl ?_
  refine r_imul dX12_wantOf_15 ?_
  refine r_iadd dX12_wantOf_16 ?_
  refine r_iload_n dX12_wantOf_17 rfl ?_
  refine r_iadd dX12_wantOf_18 ?_
  obtain ⟨hg1, e⟩ := grd_some e
  refine r_iald dX12_wantOf_19 (lp_52 hS) (lk_52 hS) hg1 ?_
  cases e
  exact r_ireturn dX12_wantOf_20 rfl rfl
def m_X12_hasWants (a1 : Int32) (mm : Mm) : Option (Int32 × Mm) := (m_X12_is (2 : Int32) a1 (sI mm 44 41 a1)).bind (fun q1 => gbz q1 (some (q1, (sI mm 44 41 a1))))
set_option maxHeartbeats 4000000 in
set_option maxRecDepth 100000 in
theorem c_X12_hasWants {l : Launch} {G : Gt} {S : Sk} (hS : Lay S) {a1 : Int32} {mm : Mm} {q : Int32 × Mm} (e : m_X12_hasWants a1 mm = some q) : CallOK l G M_X12_hasWants yX12_hasWants 2 [vr (some 44), vi a1] S mm (some (vi q.1)) S q.2 := by
  refine call_of_run rfl rfl rfl (Nat.le_of_ble_eq_true rfl) ?_
  show Run l G M_X12_hasWants 2 0 [some (vr (some 44)), some (vi a1)] [] S mm (some (vi q.1)) S q.2
  unfold m_X12_hasWants at e
  refine r_aload_n dX12_hasWants_0 rfl ?_
  refine r_iload_n dX12_hasWants_1 rfl ?_
  refine r_putI dX12_hasWants_2 fl_X12_410 ft_12_41 (Or.inl rfl) rfl rfl rfl (lp_44 hS) (lq_44 hS) ?_
  refine r_aload_n dX12_hasWants_5 rfl ?_
  refine r_iconst (v := 2) dX12_hasWants_6 ci_2 ?_
  refine r_iload_n dX12_hasWants_7 rfl ?_
  obtain ⟨q1, eq2, e⟩ := obind e
  refine r_callV (as := [_, _]) (rest := []) dX12_hasWants_8 ml_X12_249 yV_X12_is (c_X12_is hS eq2) (by decide) rfl (lp_44 hS) (lq_44 hS) (Nat.le_of_ble_eq_true rfl) ?_
  obtain ⟨hbz, e⟩ := gbz_some e
  cases e
  exact r_ireturn dX12_hasWants_11 rfl (nz_b hbz).1
def m_X12_want (a1 : Int32) (a2 : Int32) (a3 : Int32) (mm : Mm) : Option (Int32 × Mm) := (m_X12_hasWants a1 (sI mm 44 0 (0 : Int32))).bind (fun q1 => if q1.1 = 0 then (some ((-2 : Int32), q1.2)) else (if a2 = (-1 : Int32) then (if a3 = 0 then ((m_X12_allWants q1.2).bind (fun q12 => some (q12, q1.2))) else (some ((-2 : Int32), q1.2))) else ((m_X12_allWants q1.2).bind (fun q5 => if (m_X12_in a2 (0 : Int32) (q5 - (1 : Int32))) = 0 then (some ((-2 : Int32), q1.2)) else (if (m_X12_in a3 (0 : Int32) (1 : Int32)) = 0 then (some ((-2 : Int32), q1.2)) else ((m_X12_wantOf a2 a3 q1.2).bind (fun q9 => some (q9, q1.2))))))))
set_option maxHeartbeats 4000000 in
set_option maxRecDepth 100000 in
theorem c_X12_want {l : Launch} {G : Gt} {S : Sk} (hS : Lay S) {a1 : Int32} {a2 : Int32} {a3 : Int32} {mm : Mm} {q : Int32 × Mm} (e : m_X12_want a1 a2 a3 mm = some q) : CallOK l G M_X12_want yX12_want 3 [vr (some 44), vi a1, vi a2, vi a3] S mm (some (vi q.1)) S q.2 := by
  refine call_of_run rfl rfl rfl (Nat.le_of_ble_eq_true rfl) ?_
  show Run l G M_X12_want 3 0 [some (vr (some 44)), some (vi a1), some (vi a2), some (vi a3)] [] S mm (some (vi q.1)) S q.2
  unfold m_X12_want at e
  refine r_aload_n dX12_want_0 rfl ?_
  refine r_iconst (v := 0) dX12_want_1 ci_0 ?_
  refine r_putI dX12_want_2 fl_X12_90 ft_12_0 (Or.inl rfl) rfl rfl rfl (lp_44 hS) (lq_44 hS) ?_
  refine r_aload_n dX12_want_5 rfl ?_
  refine r_iload_n dX12_want_6 rfl ?_
  obtain ⟨q1, eq2, e⟩ := obind e
  refine r_callV (as := [_]) (rest := []) dX12_want_7 ml_X12_413 yV_X12_hasWants (c_X12_hasWants hS eq2) (by decide) rfl (lp_44 hS) (lq_44 hS) (Nat.le_of_ble_eq_true rfl) ?_
  refine r_if_ne (tgt := 16) dX12_want_10 rfl (fun h3 => ?_) (fun h3 => ?_)
  · replace e := ite_f h3 e
    refine r_iload_n dX12_want_16 rfl ?_
    refine r_iconst (v := -1) dX12_want_17 ci_m1 ?_
    refine r_icmp_ne (tgt := 35) dX12_want_18 rfl (fun h4 => ?_) (fun h4 => ?_)
    · replace e := ite_f h4 e
      refine r_iload_n dX12_want_35 rfl ?_
      refine r_iconst (v := 0) dX12_want_36 ci_0 ?_
      refine r_aload_n dX12_want_37 rfl ?_
      obtain ⟨q5, eq6, e⟩ := obind e
      refine r_callV (as := []) (rest := [_, _]) dX12_want_38 ml_X12_416 yV_X12_allWants (c_X12_allWants hS eq6) (by decide) rfl (lp_44 hS) (lq_44 hS) (Nat.le_of_ble_eq_true rfl) ?_
      refine r_iconst (v := 1) dX12_want_41 ci_1 ?_
      refine r_isub dX12_want_42 ?_
      refine r_callS (as := [_, _, _]) (rest := []) dX12_want_43 ml_X12_102 yS_X12_in (c_X12_in hS) (by decide) rfl (Nat.le_of_ble_eq_true rfl) ?_
      refine r_if_eq (tgt := 67) dX12_want_46 rfl (fun h7 => ?_) (fun h7 => ?_)
      · replace e := ite_t h7 e
        refine r_bipush (v := -2) dX12_want_67 cb_m2 ?_
        cases e
        exact r_ireturn dX12_want_69 rfl rfl
      · replace e := ite_f h7 e
        refine r_iload_n dX12_want_49 rfl ?_
        refine r_iconst (v := 0) dX12_want_50 ci_0 ?_
        refine r_iconst (v := 1) dX12_want_51 ci_1 ?_
        refine r_callS (as := [_, _, _]) (rest := []) dX12_want_52 ml_X12_102 yS_X12_in (c_X12_in hS) (by decide) rfl (Nat.le_of_ble_eq_true rfl) ?_
        refine r_if_eq (tgt := 67) dX12_want_55 rfl (fun h8 => ?_) (fun h8 => ?_)
        · replace e := ite_t h8 e
          refine r_bipush (v := -2) dX12_want_67 cb_m2 ?_
          cases e
          exact r_ireturn dX12_want_69 rfl rfl
        · replace e := ite_f h8 e
          refine r_aload_n dX12_want_58 rfl ?_
          refine r_iload_n dX12_want_59 rfl ?_
          refine r_iload_n dX12_want_60 rfl ?_
          obtain ⟨q9, eq10, e⟩ := obind e
          refine r_callV (as := [_, _]) (rest := []) dX12_want_61 ml_X12_419 yV_X12_wantOf (c_X12_wantOf hS eq10) (by decide) rfl (lp_44 hS) (lq_44 hS) (Nat.le_of_ble_eq_true rfl) ?_
          refine r_goto (tgt := 69) dX12_want_64 rfl ?_
          cases e
          exact r_ireturn dX12_want_69 rfl rfl
    · replace e := ite_t h4 e
      refine r_iload_n dX12_want_21 rfl ?_
      refine r_if_ne (tgt := 32) dX12_want_22 rfl (fun h11 => ?_) (fun h11 => ?_)
      · replace e := ite_f h11 e
        refine r_bipush (v := -2) dX12_want_32 cb_m2 ?_
        cases e
        exact r_ireturn dX12_want_34 rfl rfl
      · replace e := ite_t h11 e
        refine r_aload_n dX12_want_25 rfl ?_
        obtain ⟨q12, eq13, e⟩ := obind e
        refine r_callV (as := []) (rest := []) dX12_want_26 ml_X12_416 yV_X12_allWants (c_X12_allWants hS eq13) (by decide) rfl (lp_44 hS) (lq_44 hS) (Nat.le_of_ble_eq_true rfl) ?_
        refine r_goto (tgt := 34) dX12_want_29 rfl ?_
        cases e
        exact r_ireturn dX12_want_34 rfl rfl
  · replace e := ite_t h3 e
    refine r_bipush (v := -2) dX12_want_13 cb_m2 ?_
    cases e
    exact r_ireturn dX12_want_15 rfl rfl
def m_X12_layRow_b12 (z3 : Int32 × Int32 × Int32 × Mm) : Option ((Int32 × Int32 × Int32 × Mm) ⊕ ((Mm) ⊕ (Int32 × Mm))) := if z3.2.2.1 < 0 then (some (.inr (.inl z3.2.2.2))) else (grd z3.2.2.1 6 (grd z3.2.2.1 6 (bS (if (6 : Int32) ≤ (mI (sI z3.2.2.2 65 (ix z3.2.2.1) (xrem z3.1 (7 : Int32))) 65 (ix z3.2.2.1)) then (some (.inl ())) else (grd z3.2.2.1 6 (if (mI (sI z3.2.2.2 65 (ix z3.2.2.1) (xrem z3.1 (7 : Int32))) 44 24) ≤ (mI (sI z3.2.2.2 65 (ix z3.2.2.1) (xrem z3.1 (7 : Int32))) 65 (ix z3.2.2.1)) then (some (.inr (.inr (.inr ((0 : Int32), (sI z3.2.2.2 65 (ix z3.2.2.1) (xrem z3.1 (7 : Int32)))))))) else (grd z3.2.2.1 6 (if (m_X12_has z3.2.1 (mI (sI z3.2.2.2 65 (ix z3.2.2.1) (xrem z3.1 (7 : Int32))) 65 (ix z3.2.2.1))) = 0 then (grd z3.2.2.1 6 ((m_X12_wantOf z3.2.2.1 (0 : Int32) (sI z3.2.2.2 65 (ix z3.2.2.1) (xrem z3.1 (7 : Int32)))).bind (fun q22 => if (mI (sI z3.2.2.2 65 (ix z3.2.2.1) (xrem z3.1 (7 : Int32))) 65 (ix z3.2.2.1)) = q22 then (some (.inr (.inr (.inr ((0 : Int32), (sI z3.2.2.2 65 (ix z3.2.2.1) (xrem z3.1 (7 : Int32)))))))) else (some (.inl ()))))) else (some (.inr (.inr (.inr ((0 : Int32), (sI z3.2.2.2 65 (ix z3.2.2.1) (xrem z3.1 (7 : Int32)))))))))))) : Option ((Unit) ⊕ ((Int32 × Int32 × Int32 × Mm) ⊕ ((Mm) ⊕ (Int32 × Mm))))) (fun p12 => grd z3.2.2.1 6 ((if (6 : Int32) ≤ (mI (sI z3.2.2.2 65 (ix z3.2.2.1) (xrem z3.1 (7 : Int32))) 65 (ix z3.2.2.1)) then (some (0 : Int32)) else (grd z3.2.2.1 6 (some (xshl (1 : Int32) (mI (sI z3.2.2.2 65 (ix z3.2.2.1) (xrem z3.1 (7 : Int32))) 65 (ix z3.2.2.1))))) : Option (Int32)).bind (fun p26 => some (.inl (z3.1 / (7 : Int32), z3.2.1 ||| p26, z3.2.2.1 + (-1 : Int32), (sI z3.2.2.2 65 (ix z3.2.2.1) (xrem z3.1 (7 : Int32)))))))))))
def m_X12_layRow (a1 : Int32) (mm : Mm) : Option (Int32 × Mm) := (m_X12_allWants mm).bind (fun q1 => bS (whileF FU (m_X12_layRow_b12) (a1, (0 : Int32), q1 - (1 : Int32), mm)) (fun p4 => some ((1 : Int32), p4)))
set_option maxHeartbeats 4000000 in
set_option maxRecDepth 100000 in
theorem c_X12_layRow {l : Launch} {G : Gt} {S : Sk} (hS : Lay S) {a1 : Int32} {mm : Mm} {q : Int32 × Mm} (e : m_X12_layRow a1 mm = some q) : CallOK l G M_X12_layRow yX12_layRow 1 [vr (some 44), vi a1] S mm (some (vi q.1)) S q.2 := by
  refine call_of_run rfl rfl rfl (Nat.le_of_ble_eq_true rfl) ?_
  show Run l G M_X12_layRow 1 0 [some (vr (some 44)), some (vi a1), none, none, none] [] S mm (some (vi q.1)) S q.2
  unfold m_X12_layRow at e
  refine r_iload_n dX12_layRow_0 rfl ?_
  refine r_istore_n dX12_layRow_1 (by decide) rfl ?_
  refine r_iconst (v := 0) dX12_layRow_2 ci_0 ?_
  refine r_istore_n dX12_layRow_3 (by decide) rfl ?_
  refine r_aload_n dX12_layRow_4 rfl ?_
  obtain ⟨q1, eq2, e⟩ := obind e
  refine r_callV (as := []) (rest := []) dX12_layRow_5 ml_X12_416 yV_X12_allWants (c_X12_allWants hS eq2) (by decide) rfl (lp_44 hS) (lq_44 hS) (Nat.le_of_ble_eq_true rfl) ?_
  refine r_iconst (v := 1) dX12_layRow_8 ci_1 ?_
  refine r_isub dX12_layRow_9 ?_
  refine r_istore dX12_layRow_10 (by decide) rfl ?_
  obtain ⟨x6, eb8w, elx6, erx6⟩ := bS_some e
  have J5 : ∀ p4 : Mm, x6 = .inl p4 → Run l G M_X12_layRow 1 126 [none, none, none, none, none] [] S p4 (some (vi q.1)) S q.2 := by
    intro p4 hp4
    replace e := elx6 p4 hp4
    refine r_iconst (v := 1) dX12_layRow_126 ci_1 ?_
    cases e
    exact r_ireturn dX12_layRow_127 rfl (nz_b (by first | exact Or.inl rfl | exact Or.inr rfl)).1
  have J5w : Run l G M_X12_layRow 1 12 [some (vr (some 44)), none, some (vi a1), some (vi (0 : Int32)), some (vi (q1 - (1 : Int32)))] [] S mm (some (vi q.1)) S q.2 := by
    refine while_run (s := (a1, (0 : Int32), q1 - (1 : Int32), mm)) (Gs := fun (z3 : Int32 × Int32 × Int32 × Mm) => Run l G M_X12_layRow 1 12 [some (vr (some 44)), none, some (vi z3.1), some (vi z3.2.1), some (vi z3.2.2.1)] [] S z3.2.2.2 (some (vi q.1)) S q.2) eb8w ?_
    intro z3 x6y eb8 hx7
    unfold m_X12_layRow_b12 at eb8
    refine r_iload dX12_layRow_12 rfl ?_
    refine r_if_lt (tgt := 126) dX12_layRow_14 rfl (fun h9 => ?_) (fun h9 => ?_)
    · replace eb8 := ite_t h9 eb8
      cases eb8
      exact r_weak (L' := [none, none, none, none, none]) trivial (J5 _ (Eq.symm hx7))
    · replace eb8 := ite_f h9 eb8
      refine r_aload_n dX12_layRow_17 rfl ?_
      refine r_getR dX12_layRow_18 fl_X12_71 rfl (lp_44 hS) (lq_44 hS) (lr_44_42 hS) ?_
      refine r_iload dX12_layRow_21 rfl ?_
      refine r_iload_n dX12_layRow_23 rfl ?_
      refine r_bipush (v := 7) dX12_layRow_24 cb_7 ?_
      refine r_irem dX12_layRow_26 (by decide) ?_
      obtain ⟨hg10, eb8⟩ := grd_some eb8
      refine r_iast dX12_layRow_27 (lp_65 hS) (lk_65 hS) hg10 ?_
      refine r_iload_n dX12_layRow_28 rfl ?_
      refine r_bipush (v := 7) dX12_layRow_29 cb_7 ?_
      refine r_idiv dX12_layRow_31 (by decide) ?_
      refine r_istore_n dX12_layRow_32 (by decide) rfl ?_
      refine r_aload_n dX12_layRow_33 rfl ?_
      refine r_getR dX12_layRow_34 fl_X12_71 rfl (lp_44 hS) (lq_44 hS) (lr_44_42 hS) ?_
      refine r_iload dX12_layRow_37 rfl ?_
      obtain ⟨hg11, eb8⟩ := grd_some eb8
      refine r_iald dX12_layRow_39 (lp_65 hS) (lk_65 hS) hg11 ?_
      refine r_bipush (v := 6) dX12_layRow_40 cb_6 ?_
      obtain ⟨x15, ep14, elx15, erx15⟩ := bS_some eb8
      have J13 : ∀ p12 : Unit, x15 = .inl p12 → Run l G M_X12_layRow 1 92 [some (vr (some 44)), none, some (vi (z3.1 / (7 : Int32))), some (vi z3.2.1), some (vi z3.2.2.1)] [] S (sI z3.2.2.2 65 (ix z3.2.2.1) (xrem z3.1 (7 : Int32))) (some (vi q.1)) S q.2 := by
        intro p12 hp12
        replace eb8 := elx15 p12 hp12
        refine r_iload_n dX12_layRow_92 rfl ?_
        refine r_aload_n dX12_layRow_93 rfl ?_
        refine r_getR dX12_layRow_94 fl_X12_71 rfl (lp_44 hS) (lq_44 hS) (lr_44_42 hS) ?_
        refine r_iload dX12_layRow_97 rfl ?_
        obtain ⟨hg25, eb8⟩ := grd_some eb8
        refine r_iald dX12_layRow_99 (lp_65 hS) (lk_65 hS) hg25 ?_
        refine r_bipush (v := 6) dX12_layRow_100 cb_6 ?_
        obtain ⟨p26, ep28, eb8⟩ := obind eb8
        have J27a : Run l G M_X12_layRow 1 118 [some (vr (some 44)), none, some (vi (z3.1 / (7 : Int32))), none, some (vi z3.2.2.1)] [vi p26, vi z3.2.1] S (sI z3.2.2.2 65 (ix z3.2.2.1) (xrem z3.1 (7 : Int32))) (some (vi q.1)) S q.2 := by
          refine r_ior dX12_layRow_118 ?_
          refine r_istore_n dX12_layRow_119 (by decide) rfl ?_
          refine r_iinc (v := _ + (-1 : Int32)) dX12_layRow_120 rfl (congrArg (_ + ·) ci_m1) (by decide) rfl ?_
          refine r_goto (tgt := 12) dX12_layRow_123 rfl ?_
          cases eb8
          exact r_weak (L' := [some (vr (some 44)), none, some (vi (z3.1 / (7 : Int32))), some (vi (z3.2.1 ||| p26)), some (vi (z3.2.2.1 + (-1 : Int32)))]) ⟨rfl, rfl, rfl, rfl, trivial⟩ hx7
        have J27 : ∀ pp : Int32, pp = p26 → Run l G M_X12_layRow 1 118 [some (vr (some 44)), none, some (vi (z3.1 / (7 : Int32))), none, some (vi z3.2.2.1)] [vi pp, vi z3.2.1] S (sI z3.2.2.2 65 (ix z3.2.2.1) (xrem z3.1 (7 : Int32))) (some (vi q.1)) S q.2 := by
          intro pp hpp
          rw [hpp]
          exact J27a
        refine r_icmp_ge (tgt := 117) dX12_layRow_102 rfl (fun h30 => ?_) (fun h30 => ?_)
        · replace ep28 := ite_t h30 ep28
          refine r_iconst (v := 0) dX12_layRow_117 ci_0 ?_
          exact r_weak (L' := [some (vr (some 44)), none, some (vi (z3.1 / (7 : Int32))), none, some (vi z3.2.2.1)]) ⟨rfl, rfl, rfl, trivial⟩ (J27 _ (Option.some.inj ep28))
        · replace ep28 := ite_f h30 ep28
          refine r_iconst (v := 1) dX12_layRow_105 ci_1 ?_
          refine r_aload_n dX12_layRow_106 rfl ?_
          refine r_getR dX12_layRow_107 fl_X12_71 rfl (lp_44 hS) (lq_44 hS) (lr_44_42 hS) ?_
          refine r_iload dX12_layRow_110 rfl ?_
          obtain ⟨hg31, ep28⟩ := grd_some ep28
          refine r_iald dX12_layRow_112 (lp_65 hS) (lk_65 hS) hg31 ?_
          refine r_ishl dX12_layRow_113 ?_
          refine r_goto (tgt := 118) dX12_layRow_114 rfl ?_
          exact r_weak (L' := [some (vr (some 44)), none, some (vi (z3.1 / (7 : Int32))), none, some (vi z3.2.2.1)]) ⟨rfl, rfl, rfl, trivial⟩ (J27 _ (Option.some.inj ep28))
      refine r_icmp_ge (tgt := 92) dX12_layRow_42 rfl (fun h16 => ?_) (fun h16 => ?_)
      · replace ep14 := ite_t h16 ep14
        cases ep14
        exact r_weak (L' := [some (vr (some 44)), none, some (vi (z3.1 / (7 : Int32))), some (vi z3.2.1), some (vi z3.2.2.1)]) ⟨rfl, rfl, rfl, rfl, trivial⟩ (J13 _ rfl)
      · replace ep14 := ite_f h16 ep14
        refine r_aload_n dX12_layRow_45 rfl ?_
        refine r_getR dX12_layRow_46 fl_X12_71 rfl (lp_44 hS) (lq_44 hS) (lr_44_42 hS) ?_
        refine r_iload dX12_layRow_49 rfl ?_
        obtain ⟨hg17, ep14⟩ := grd_some ep14
        refine r_iald dX12_layRow_51 (lp_65 hS) (lk_65 hS) hg17 ?_
        refine r_aload_n dX12_layRow_52 rfl ?_
        refine r_getI dX12_layRow_53 fl_X12_283 rfl (lp_44 hS) (lq_44 hS) ?_
        refine r_icmp_ge (tgt := 90) dX12_layRow_56 rfl (fun h18 => ?_) (fun h18 => ?_)
        · replace ep14 := ite_t h18 ep14
          refine r_iconst (v := 0) dX12_layRow_90 ci_0 ?_
          cases ep14
          have eb8 := congrArg some (erx15 _ rfl)
          cases eb8
          have e := congrArg some (erx6 _ (Eq.symm hx7))
          cases e
          exact r_ireturn dX12_layRow_91 rfl (nz_b (by first | exact Or.inl rfl | exact Or.inr rfl)).1
        · replace ep14 := ite_f h18 ep14
          refine r_iload_n dX12_layRow_59 rfl ?_
          refine r_aload_n dX12_layRow_60 rfl ?_
          refine r_getR dX12_layRow_61 fl_X12_71 rfl (lp_44 hS) (lq_44 hS) (lr_44_42 hS) ?_
          refine r_iload dX12_layRow_64 rfl ?_
          obtain ⟨hg19, ep14⟩ := grd_some ep14
          refine r_iald dX12_layRow_66 (lp_65 hS) (lk_65 hS) hg19 ?_
          refine r_callS (as := [_, _]) (rest := []) dX12_layRow_67 ml_X12_94 yS_X12_has (c_X12_has hS) (by decide) rfl (Nat.le_of_ble_eq_true rfl) ?_
          refine r_if_ne (tgt := 90) dX12_layRow_70 rfl (fun h20 => ?_) (fun h20 => ?_)
          · replace ep14 := ite_f h20 ep14
            refine r_iconst (v := 0) dX12_layRow_90 ci_0 ?_
            cases ep14
            have eb8 := congrArg some (erx15 _ rfl)
            cases eb8
            have e := congrArg some (erx6 _ (Eq.symm hx7))
            cases e
            exact r_ireturn dX12_layRow_91 rfl (nz_b (by first | exact Or.inl rfl | exact Or.inr rfl)).1
          · replace ep14 := ite_t h20 ep14
            refine r_aload_n dX12_layRow_73 rfl ?_
            refine r_getR dX12_layRow_74 fl_X12_71 rfl (lp_44 hS) (lq_44 hS) (lr_44_42 hS) ?_
            refine r_iload dX12_layRow_77 rfl ?_
            obtain ⟨hg21, ep14⟩ := grd_some ep14
            refine r_iald dX12_layRow_79 (lp_65 hS) (lk_65 hS) hg21 ?_
            refine r_aload_n dX12_layRow_80 rfl ?_
            refine r_iload dX12_layRow_81 rfl ?_
            refine r_iconst (v := 0) dX12_layRow_83 ci_0 ?_
            obtain ⟨q22, eq23, ep14⟩ := obind ep14
            refine r_callV (as := [_, _]) (rest := [_]) dX12_layRow_84 ml_X12_419 yV_X12_wantOf (c_X12_wantOf hS eq23) (by decide) rfl (lp_44 hS) (lq_44 hS) (Nat.le_of_ble_eq_true rfl) ?_
            refine r_icmp_ne (tgt := 92) dX12_layRow_87 rfl (fun h24 => ?_) (fun h24 => ?_)
            · replace ep14 := ite_f h24 ep14
              cases ep14
              exact r_weak (L' := [some (vr (some 44)), none, some (vi (z3.1 / (7 : Int32))), some (vi z3.2.1), some (vi z3.2.2.1)]) ⟨rfl, rfl, rfl, rfl, trivial⟩ (J13 _ rfl)
            · replace ep14 := ite_t h24 ep14
              refine r_iconst (v := 0) dX12_layRow_90 ci_0 ?_
              cases ep14
              have eb8 := congrArg some (erx15 _ rfl)
              cases eb8
              have e := congrArg some (erx6 _ (Eq.symm hx7))
              cases e
              exact r_ireturn dX12_layRow_91 rfl (nz_b (by first | exact Or.inl rfl | exact Or.inr rfl)).1
  exact r_weak (L' := [some (vr (some 44)), none, some (vi a1), some (vi (0 : Int32)), some (vi (q1 - (1 : Int32)))]) ⟨rfl, rfl, rfl, rfl, trivial⟩ J5w
def m_X12_keptWants_b7 (z1 : Int32 × Mm) : Option ((Int32 × Mm) ⊕ (Mm)) := (m_X12_allWants z1.2).bind (fun q7 => if q7 ≤ z1.1 then (some (.inr z1.2)) else (grd z1.1 6 ((if (6 : Int32) ≤ (mI z1.2 65 (ix z1.1)) then (some z1.2) else (grd z1.1 6 ((m_X12_wantOf z1.1 (0 : Int32) z1.2).bind (fun q17 => (m_X12_wantOf z1.1 (1 : Int32) z1.2).bind (fun q19 => (m_X12_addOath (mI z1.2 65 (ix z1.1)) q17 q19 z1.2).bind (fun q21 => some q21))))) : Option (Mm)).bind (fun p11 => some (.inl (z1.1 + (1 : Int32), p11))))))
def m_X12_keptWants_b58 (p2 : Mm) (z23 : Int32 × Int32) : Option ((Int32 × Int32) ⊕ (Int32)) := (m_X12_allWants p2).bind (fun q29 => if q29 ≤ z23.2 then (some (.inr z23.1)) else ((m_X12_wantOf z23.2 (0 : Int32) p2).bind (fun q32 => (m_X12_keptBy q32 p2).bind (fun q34 => (m_X12_wantOf z23.2 (1 : Int32) p2).bind (fun q36 => some (.inl (z23.1 + (if (m_X12_has q34 q36) = 0 then (0 : Int32) else (1 : Int32)), z23.2 + (1 : Int32))))))))
def m_X12_keptWants (mm : Mm) : Option (Int32 × Mm) := (whileF FU (m_X12_keptWants_b7) ((0 : Int32), (sI mm 44 25 (0 : Int32)))).bind (fun p2 => (whileF FU (m_X12_keptWants_b58 p2) ((0 : Int32), (0 : Int32))).bind (fun p24 => some (p24, p2)))
set_option maxHeartbeats 4000000 in
set_option maxRecDepth 100000 in
theorem c_X12_keptWants {l : Launch} {G : Gt} {S : Sk} (hS : Lay S) {mm : Mm} {q : Int32 × Mm} (e : m_X12_keptWants mm = some q) : CallOK l G M_X12_keptWants yX12_keptWants 4 [vr (some 44)] S mm (some (vi q.1)) S q.2 := by
  refine call_of_run rfl rfl rfl (Nat.le_of_ble_eq_true rfl) ?_
  show Run l G M_X12_keptWants 4 0 [some (vr (some 44)), none, none] [] S mm (some (vi q.1)) S q.2
  unfold m_X12_keptWants at e
  refine r_aload_n dX12_keptWants_0 rfl ?_
  refine r_iconst (v := 0) dX12_keptWants_1 ci_0 ?_
  refine r_putI dX12_keptWants_2 fl_X12_280 ft_12_25 (Or.inl rfl) rfl rfl rfl (lp_44 hS) (lq_44 hS) ?_
  refine r_iconst (v := 0) dX12_keptWants_5 ci_0 ?_
  refine r_istore_n dX12_keptWants_6 (by decide) rfl ?_
  obtain ⟨p2, eb6w, e⟩ := obind e
  have J3a : Run l G M_X12_keptWants 4 54 [some (vr (some 44)), none, none] [] S p2 (some (vi q.1)) S q.2 := by
    refine r_iconst (v := 0) dX12_keptWants_54 ci_0 ?_
    refine r_istore_n dX12_keptWants_55 (by decide) rfl ?_
    refine r_iconst (v := 0) dX12_keptWants_56 ci_0 ?_
    refine r_istore_n dX12_keptWants_57 (by decide) rfl ?_
    obtain ⟨p24, eb28w, e⟩ := obind e
    have J25a : Run l G M_X12_keptWants 4 102 [none, some (vi p24), none] [] S p2 (some (vi q.1)) S q.2 := by
      refine r_iload_n dX12_keptWants_102 rfl ?_
      cases e
      exact r_ireturn dX12_keptWants_103 rfl rfl
    have J25 : ∀ pp : Int32, pp = p24 → Run l G M_X12_keptWants 4 102 [none, some (vi pp), none] [] S p2 (some (vi q.1)) S q.2 := by
      intro pp hpp
      rw [hpp]
      exact J25a
    have J25w : Run l G M_X12_keptWants 4 58 [some (vr (some 44)), some (vi (0 : Int32)), some (vi (0 : Int32))] [] S p2 (some (vi q.1)) S q.2 := by
      refine while_run (s := ((0 : Int32), (0 : Int32))) (Gs := fun (z23 : Int32 × Int32) => Run l G M_X12_keptWants 4 58 [some (vr (some 44)), some (vi z23.1), some (vi z23.2)] [] S p2 (some (vi q.1)) S q.2) eb28w ?_
      intro z23 x26y eb28 hx27
      unfold m_X12_keptWants_b58 at eb28
      refine r_iload_n dX12_keptWants_58 rfl ?_
      refine r_aload_n dX12_keptWants_59 rfl ?_
      obtain ⟨q29, eq30, eb28⟩ := obind eb28
      refine r_callV (as := []) (rest := [_]) dX12_keptWants_60 ml_X12_416 yV_X12_allWants (c_X12_allWants hS eq30) (by decide) rfl (lp_44 hS) (lq_44 hS) (Nat.le_of_ble_eq_true rfl) ?_
      refine r_icmp_ge (tgt := 102) dX12_keptWants_63 rfl (fun h31 => ?_) (fun h31 => ?_)
      · replace eb28 := ite_t h31 eb28
        cases eb28
        exact r_weak (L' := [none, some (vi z23.1), none]) ⟨rfl, trivial⟩ (J25 _ hx27)
      · replace eb28 := ite_f h31 eb28
        refine r_iload_n dX12_keptWants_66 rfl ?_
        refine r_aload_n dX12_keptWants_67 rfl ?_
        refine r_aload_n dX12_keptWants_68 rfl ?_
        refine r_iload_n dX12_keptWants_69 rfl ?_
        refine r_iconst (v := 0) dX12_keptWants_70 ci_0 ?_
        obtain ⟨q32, eq33, eb28⟩ := obind eb28
        refine r_callV (as := [_, _]) (rest := [_, _]) dX12_keptWants_71 ml_X12_419 yV_X12_wantOf (c_X12_wantOf hS eq33) (by decide) rfl (lp_44 hS) (lq_44 hS) (Nat.le_of_ble_eq_true rfl) ?_
        obtain ⟨q34, eq35, eb28⟩ := obind eb28
        refine r_callV (as := [_]) (rest := [_]) dX12_keptWants_74 ml_X12_307 yV_X12_keptBy (c_X12_keptBy hS eq35) (by decide) rfl (lp_44 hS) (lq_44 hS) (Nat.le_of_ble_eq_true rfl) ?_
        refine r_aload_n dX12_keptWants_77 rfl ?_
        refine r_iload_n dX12_keptWants_78 rfl ?_
        refine r_iconst (v := 1) dX12_keptWants_79 ci_1 ?_
        obtain ⟨q36, eq37, eb28⟩ := obind eb28
        refine r_callV (as := [_, _]) (rest := [_, _]) dX12_keptWants_80 ml_X12_419 yV_X12_wantOf (c_X12_wantOf hS eq37) (by decide) rfl (lp_44 hS) (lq_44 hS) (Nat.le_of_ble_eq_true rfl) ?_
        refine r_callS (as := [_, _]) (rest := [_]) dX12_keptWants_83 ml_X12_94 yS_X12_has (c_X12_has hS) (by decide) rfl (Nat.le_of_ble_eq_true rfl) ?_
        have J40 : ∀ (w39 : Int32), w39 = (if (m_X12_has q34 q36) = 0 then (0 : Int32) else (1 : Int32)) → Run l G M_X12_keptWants 4 94 [some (vr (some 44)), none, some (vi z23.2)] [vi w39, vi z23.1] S p2 (some (vi q.1)) S q.2 := by
          intro w39 hw41
          subst hw41
          refine r_iadd dX12_keptWants_94 ?_
          refine r_istore_n dX12_keptWants_95 (by decide) rfl ?_
          refine r_iinc (v := _ + (1 : Int32)) dX12_keptWants_96 rfl (congrArg (_ + ·) ci_1) (by decide) rfl ?_
          refine r_goto (tgt := 58) dX12_keptWants_99 rfl ?_
          cases eb28
          exact r_weak (L' := [some (vr (some 44)), some (vi (z23.1 + (if (m_X12_has q34 q36) = 0 then (0 : Int32) else (1 : Int32)))), some (vi (z23.2 + (1 : Int32)))]) ⟨rfl, rfl, rfl, trivial⟩ hx27
        refine r_if_eq (tgt := 93) dX12_keptWants_86 rfl (fun h38 => ?_) (fun h38 => ?_)
        · refine r_iconst (v := 0) dX12_keptWants_93 ci_0 ?_
          exact r_weak (L' := [some (vr (some 44)), none, some (vi z23.2)]) ⟨rfl, rfl, trivial⟩ (J40 _ (Eq.symm (if_pos h38)))
        · refine r_iconst (v := 1) dX12_keptWants_89 ci_1 ?_
          refine r_goto (tgt := 94) dX12_keptWants_90 rfl ?_
          exact r_weak (L' := [some (vr (some 44)), none, some (vi z23.2)]) ⟨rfl, rfl, trivial⟩ (J40 _ (Eq.symm (if_neg h38)))
    exact r_weak (L' := [some (vr (some 44)), some (vi (0 : Int32)), some (vi (0 : Int32))]) ⟨rfl, rfl, rfl, trivial⟩ J25w
  have J3 : ∀ pp : Mm, pp = p2 → Run l G M_X12_keptWants 4 54 [some (vr (some 44)), none, none] [] S pp (some (vi q.1)) S q.2 := by
    intro pp hpp
    rw [hpp]
    exact J3a
  have J3w : Run l G M_X12_keptWants 4 7 [some (vr (some 44)), some (vi (0 : Int32)), none] [] S (sI mm 44 25 (0 : Int32)) (some (vi q.1)) S q.2 := by
    refine while_run (s := ((0 : Int32), (sI mm 44 25 (0 : Int32)))) (Gs := fun (z1 : Int32 × Mm) => Run l G M_X12_keptWants 4 7 [some (vr (some 44)), some (vi z1.1), none] [] S z1.2 (some (vi q.1)) S q.2) eb6w ?_
    intro z1 x4y eb6 hx5
    unfold m_X12_keptWants_b7 at eb6
    refine r_iload_n dX12_keptWants_7 rfl ?_
    refine r_aload_n dX12_keptWants_8 rfl ?_
    obtain ⟨q7, eq8, eb6⟩ := obind eb6
    refine r_callV (as := []) (rest := [_]) dX12_keptWants_9 ml_X12_416 yV_X12_allWants (c_X12_allWants hS eq8) (by decide) rfl (lp_44 hS) (lq_44 hS) (Nat.le_of_ble_eq_true rfl) ?_
    refine r_icmp_ge (tgt := 54) dX12_keptWants_12 rfl (fun h9 => ?_) (fun h9 => ?_)
    · replace eb6 := ite_t h9 eb6
      cases eb6
      exact r_weak (L' := [some (vr (some 44)), none, none]) ⟨rfl, trivial⟩ (J3 _ hx5)
    · replace eb6 := ite_f h9 eb6
      refine r_aload_n dX12_keptWants_15 rfl ?_
      refine r_getR dX12_keptWants_16 fl_X12_71 rfl (lp_44 hS) (lq_44 hS) (lr_44_42 hS) ?_
      refine r_iload_n dX12_keptWants_19 rfl ?_
      obtain ⟨hg10, eb6⟩ := grd_some eb6
      refine r_iald dX12_keptWants_20 (lp_65 hS) (lk_65 hS) hg10 ?_
      refine r_bipush (v := 6) dX12_keptWants_21 cb_6 ?_
      obtain ⟨p11, ep13, eb6⟩ := obind eb6
      have J12a : Run l G M_X12_keptWants 4 48 [some (vr (some 44)), some (vi z1.1), none] [] S p11 (some (vi q.1)) S q.2 := by
        refine r_iinc (v := _ + (1 : Int32)) dX12_keptWants_48 rfl (congrArg (_ + ·) ci_1) (by decide) rfl ?_
        refine r_goto (tgt := 7) dX12_keptWants_51 rfl ?_
        cases eb6
        exact r_weak (L' := [some (vr (some 44)), some (vi (z1.1 + (1 : Int32))), none]) ⟨rfl, rfl, trivial⟩ hx5
      have J12 : ∀ pp : Mm, pp = p11 → Run l G M_X12_keptWants 4 48 [some (vr (some 44)), some (vi z1.1), none] [] S pp (some (vi q.1)) S q.2 := by
        intro pp hpp
        rw [hpp]
        exact J12a
      refine r_icmp_ge (tgt := 48) dX12_keptWants_23 rfl (fun h15 => ?_) (fun h15 => ?_)
      · replace ep13 := ite_t h15 ep13
        exact r_weak (L' := [some (vr (some 44)), some (vi z1.1), none]) ⟨rfl, rfl, trivial⟩ (J12 _ (Option.some.inj ep13))
      · replace ep13 := ite_f h15 ep13
        refine r_aload_n dX12_keptWants_26 rfl ?_
        refine r_aload_n dX12_keptWants_27 rfl ?_
        refine r_getR dX12_keptWants_28 fl_X12_71 rfl (lp_44 hS) (lq_44 hS) (lr_44_42 hS) ?_
        refine r_iload_n dX12_keptWants_31 rfl ?_
        obtain ⟨hg16, ep13⟩ := grd_some ep13
        refine r_iald dX12_keptWants_32 (lp_65 hS) (lk_65 hS) hg16 ?_
        refine r_aload_n dX12_keptWants_33 rfl ?_
        refine r_iload_n dX12_keptWants_34 rfl ?_
        refine r_iconst (v := 0) dX12_keptWants_35 ci_0 ?_
        obtain ⟨q17, eq18, ep13⟩ := obind ep13
        refine r_callV (as := [_, _]) (rest := [_, _]) dX12_keptWants_36 ml_X12_419 yV_X12_wantOf (c_X12_wantOf hS eq18) (by decide) rfl (lp_44 hS) (lq_44 hS) (Nat.le_of_ble_eq_true rfl) ?_
        refine r_aload_n dX12_keptWants_39 rfl ?_
        refine r_iload_n dX12_keptWants_40 rfl ?_
        refine r_iconst (v := 1) dX12_keptWants_41 ci_1 ?_
        obtain ⟨q19, eq20, ep13⟩ := obind ep13
        refine r_callV (as := [_, _]) (rest := [_, _, _]) dX12_keptWants_42 ml_X12_419 yV_X12_wantOf (c_X12_wantOf hS eq20) (by decide) rfl (lp_44 hS) (lq_44 hS) (Nat.le_of_ble_eq_true rfl) ?_
        obtain ⟨q21, eq22, ep13⟩ := obind ep13
        refine r_callV (as := [_, _, _]) (rest := []) dX12_keptWants_45 ml_X12_331 yV_X12_addOath (c_X12_addOath hS eq22) (by decide) rfl (lp_44 hS) (lq_44 hS) (Nat.le_of_ble_eq_true rfl) ?_
        exact r_weak (L' := [some (vr (some 44)), some (vi z1.1), none]) ⟨rfl, rfl, trivial⟩ (J12 _ (Option.some.inj ep13))
  exact r_weak (L' := [some (vr (some 44)), some (vi (0 : Int32)), none]) ⟨rfl, rfl, trivial⟩ J3w
def m_X12_power_b4 (a0 : Int32) (a1 : Int32) (z1 : Int32 × Int32) : Option ((Int32 × Int32) ⊕ (Int32)) := if a1 ≤ z1.2 then (some (.inr z1.1)) else (some (.inl (z1.1 * a0, z1.2 + (1 : Int32))))
def m_X12_power (a0 : Int32) (a1 : Int32) : Option (Int32) := (whileF FU (m_X12_power_b4 a0 a1) ((1 : Int32), (0 : Int32))).bind (fun p2 => some p2)
set_option maxHeartbeats 4000000 in
set_option maxRecDepth 100000 in
theorem c_X12_power {l : Launch} {G : Gt} {S : Sk} (hS : Lay S) {a0 : Int32} {a1 : Int32} {mm : Mm} {q : Int32} (e : m_X12_power a0 a1 = some q) : CallOK l G M_X12_power yX12_power 0 [vi a0, vi a1] S mm (some (vi q)) S mm := by
  refine call_of_run rfl rfl rfl (Nat.le_of_ble_eq_true rfl) ?_
  show Run l G M_X12_power 0 0 [some (vi a0), some (vi a1), none, none] [] S mm (some (vi q)) S mm
  unfold m_X12_power at e
  refine r_iconst (v := 1) dX12_power_0 ci_1 ?_
  refine r_istore_n dX12_power_1 (by decide) rfl ?_
  refine r_iconst (v := 0) dX12_power_2 ci_0 ?_
  refine r_istore_n dX12_power_3 (by decide) rfl ?_
  obtain ⟨p2, eb6w, e⟩ := obind e
  have J3a : Run l G M_X12_power 0 19 [none, none, some (vi p2), none] [] S mm (some (vi q)) S mm := by
    refine r_iload_n dX12_power_19 rfl ?_
    cases e
    exact r_ireturn dX12_power_20 rfl rfl
  have J3 : ∀ pp : Int32, pp = p2 → Run l G M_X12_power 0 19 [none, none, some (vi pp), none] [] S mm (some (vi q)) S mm := by
    intro pp hpp
    rw [hpp]
    exact J3a
  have J3w : Run l G M_X12_power 0 4 [some (vi a0), some (vi a1), some (vi (1 : Int32)), some (vi (0 : Int32))] [] S mm (some (vi q)) S mm := by
    refine while_run (s := ((1 : Int32), (0 : Int32))) (Gs := fun (z1 : Int32 × Int32) => Run l G M_X12_power 0 4 [some (vi a0), some (vi a1), some (vi z1.1), some (vi z1.2)] [] S mm (some (vi q)) S mm) eb6w ?_
    intro z1 x4y eb6 hx5
    unfold m_X12_power_b4 at eb6
    refine r_iload_n dX12_power_4 rfl ?_
    refine r_iload_n dX12_power_5 rfl ?_
    refine r_icmp_ge (tgt := 19) dX12_power_6 rfl (fun h7 => ?_) (fun h7 => ?_)
    · replace eb6 := ite_t h7 eb6
      cases eb6
      exact r_weak (L' := [none, none, some (vi z1.1), none]) ⟨rfl, trivial⟩ (J3 _ hx5)
    · replace eb6 := ite_f h7 eb6
      refine r_iload_n dX12_power_9 rfl ?_
      refine r_iload_n dX12_power_10 rfl ?_
      refine r_imul dX12_power_11 ?_
      refine r_istore_n dX12_power_12 (by decide) rfl ?_
      refine r_iinc (v := _ + (1 : Int32)) dX12_power_13 rfl (congrArg (_ + ·) ci_1) (by decide) rfl ?_
      refine r_goto (tgt := 4) dX12_power_16 rfl ?_
      cases eb6
      exact r_weak (L' := [some (vi a0), some (vi a1), some (vi (z1.1 * a0)), some (vi (z1.2 + (1 : Int32)))]) ⟨rfl, rfl, rfl, rfl, trivial⟩ hx5
  exact r_weak (L' := [some (vi a0), some (vi a1), some (vi (1 : Int32)), some (vi (0 : Int32))]) ⟨rfl, rfl, rfl, rfl, trivial⟩ J3w
def m_X12_swearers_b40 (q4 : Int32 × Mm) (z10 : Int32) : Option ((Int32) ⊕ ((Unit) ⊕ (Int32 × Mm))) := (m_X12_allWants q4.2).bind (fun q16 => if q16 ≤ z10 then (some (.inr (.inl ()))) else ((m_X12_wantOf z10 (0 : Int32) q4.2).bind (fun q19 => (m_X12_isOne q19 q4.2).bind (fun q21 => if q21 = 0 then (some (.inr (.inr ((-1 : Int32), q4.2)))) else (some (.inl (z10 + (1 : Int32))))))))
def m_X12_swearers_b117 (z28 : Int32 × Int32 × Mm) (p37 : Int32 × Mm) (z44 : Int32 × Mm) : Option ((Int32 × Mm) ⊕ (Mm)) := if (6 : Int32) ≤ z44.1 then (some (.inr z44.2)) else (if p37.1 ≤ z28.1 then (some (.inr z44.2)) else (grd z44.1 6 (grd z44.1 6 (some (.inl (z44.1 + (1 : Int32), (sI z44.2 66 (ix z44.1) (mI z44.2 65 (ix z44.1)))))))))
def m_X12_swearers_b88 (q26 : Int32) (z28 : Int32 × Int32 × Mm) : Option ((Int32 × Int32 × Mm) ⊕ (Int32 × Mm)) := if q26 ≤ z28.2.1 then (some (.inr (z28.1, z28.2.2))) else ((m_X12_layRow z28.2.1 z28.2.2).bind (fun q35 => (if q35.1 = 0 then (some ((-1 : Int32), q35.2)) else ((m_X12_keptWants q35.2).bind (fun q42 => some (q42.1, q42.2))) : Option (Int32 × Mm)).bind (fun p37 => (whileF FU (m_X12_swearers_b117 z28 p37) ((0 : Int32), p37.2)).bind (fun p45 => some (.inl ((m_X12_greater z28.1 p37.1), z28.2.1 + (1 : Int32), p45))))))
def m_X12_swearers (a1 : Int32) (a2 : Int32) (a3 : Int32) (mm : Mm) : Option (Int32 × Mm) := (m_X12_hasWants a2 (sI mm 44 0 (0 : Int32))).bind (fun q1 => if q1.1 = 0 then (some ((-1 : Int32), q1.2)) else ((m_X12_hand a1 q1.2).bind (fun q4 => if q4.1 = 0 then (some ((-1 : Int32), q4.2)) else ((m_X12_allWants q4.2).bind (fun q7 => if (m_X12_in a3 (-1 : Int32) (q7 - (1 : Int32))) = 0 then (some ((-1 : Int32), q4.2)) else (bS (whileF FU (m_X12_swearers_b40 q4) (0 : Int32)) (fun p11 => (m_X12_allWants q4.2).bind (fun q24 => (m_X12_power (7 : Int32) q24).bind (fun q26 => (whileF FU (m_X12_swearers_b88 q26) ((-1 : Int32), (0 : Int32), q4.2)).bind (fun p29 => if a3 = (-1 : Int32) then (some (p29.1, p29.2)) else (grd a3 6 (some (mI p29.2 66 (ix a3), p29.2)))))))))))))
set_option maxHeartbeats 4000000 in
set_option maxRecDepth 100000 in
theorem c_X12_swearers {l : Launch} {G : Gt} {S : Sk} (hS : Lay S) {a1 : Int32} {a2 : Int32} {a3 : Int32} {mm : Mm} {q : Int32 × Mm} (e : m_X12_swearers a1 a2 a3 mm = some q) : CallOK l G M_X12_swearers yX12_swearers 5 [vr (some 44), vi a1, vi a2, vi a3] S mm (some (vi q.1)) S q.2 := by
  refine call_of_run rfl rfl rfl (Nat.le_of_ble_eq_true rfl) ?_
  show Run l G M_X12_swearers 5 0 [some (vr (some 44)), some (vi a1), some (vi a2), some (vi a3), none, none, none, none, none] [] S mm (some (vi q.1)) S q.2
  unfold m_X12_swearers at e
  refine r_aload_n dX12_swearers_0 rfl ?_
  refine r_iconst (v := 0) dX12_swearers_1 ci_0 ?_
  refine r_putI dX12_swearers_2 fl_X12_90 ft_12_0 (Or.inl rfl) rfl rfl rfl (lp_44 hS) (lq_44 hS) ?_
  refine r_aload_n dX12_swearers_5 rfl ?_
  refine r_iload_n dX12_swearers_6 rfl ?_
  obtain ⟨q1, eq2, e⟩ := obind e
  refine r_callV (as := [_]) (rest := []) dX12_swearers_7 ml_X12_413 yV_X12_hasWants (c_X12_hasWants hS eq2) (by decide) rfl (lp_44 hS) (lq_44 hS) (Nat.le_of_ble_eq_true rfl) ?_
  refine r_if_eq (tgt := 35) dX12_swearers_10 rfl (fun h3 => ?_) (fun h3 => ?_)
  · replace e := ite_t h3 e
    refine r_iconst (v := -1) dX12_swearers_35 ci_m1 ?_
    cases e
    exact r_ireturn dX12_swearers_36 rfl rfl
  · replace e := ite_f h3 e
    refine r_aload_n dX12_swearers_13 rfl ?_
    refine r_iload_n dX12_swearers_14 rfl ?_
    obtain ⟨q4, eq5, e⟩ := obind e
    refine r_callV (as := [_]) (rest := []) dX12_swearers_15 ml_X12_310 yV_X12_hand (c_X12_hand hS eq5) (by decide) rfl (lp_44 hS) (lq_44 hS) (Nat.le_of_ble_eq_true rfl) ?_
    refine r_if_eq (tgt := 35) dX12_swearers_18 rfl (fun h6 => ?_) (fun h6 => ?_)
    · replace e := ite_t h6 e
      refine r_iconst (v := -1) dX12_swearers_35 ci_m1 ?_
      cases e
      exact r_ireturn dX12_swearers_36 rfl rfl
    · replace e := ite_f h6 e
      refine r_iload_n dX12_swearers_21 rfl ?_
      refine r_iconst (v := -1) dX12_swearers_22 ci_m1 ?_
      refine r_aload_n dX12_swearers_23 rfl ?_
      obtain ⟨q7, eq8, e⟩ := obind e
      refine r_callV (as := []) (rest := [_, _]) dX12_swearers_24 ml_X12_416 yV_X12_allWants (c_X12_allWants hS eq8) (by decide) rfl (lp_44 hS) (lq_44 hS) (Nat.le_of_ble_eq_true rfl) ?_
      refine r_iconst (v := 1) dX12_swearers_27 ci_1 ?_
      refine r_isub dX12_swearers_28 ?_
      refine r_callS (as := [_, _, _]) (rest := []) dX12_swearers_29 ml_X12_102 yS_X12_in (c_X12_in hS) (by decide) rfl (Nat.le_of_ble_eq_true rfl) ?_
      refine r_if_ne (tgt := 37) dX12_swearers_32 rfl (fun h9 => ?_) (fun h9 => ?_)
      · replace e := ite_f h9 e
        refine r_iconst (v := 0) dX12_swearers_37 ci_0 ?_
        refine r_istore dX12_swearers_38 (by decide) rfl ?_
        obtain ⟨x13, eb15w, elx13, erx13⟩ := bS_some e
        have J12 : ∀ p11 : Unit, x13 = .inl p11 → Run l G M_X12_swearers 5 71 [some (vr (some 44)), none, none, some (vi a3), none, none, none, none, none] [] S q4.2 (some (vi q.1)) S q.2 := by
          intro p11 hp11
          replace e := elx13 p11 hp11
          refine r_iconst (v := -1) dX12_swearers_71 ci_m1 ?_
          refine r_istore dX12_swearers_72 (by decide) rfl ?_
          refine r_bipush (v := 7) dX12_swearers_74 cb_7 ?_
          refine r_aload_n dX12_swearers_76 rfl ?_
          obtain ⟨q24, eq25, e⟩ := obind e
          refine r_callV (as := []) (rest := [_]) dX12_swearers_77 ml_X12_416 yV_X12_allWants (c_X12_allWants hS eq25) (by decide) rfl (lp_44 hS) (lq_44 hS) (Nat.le_of_ble_eq_true rfl) ?_
          obtain ⟨q26, eq27, e⟩ := obind e
          refine r_callS (as := [_, _]) (rest := []) dX12_swearers_80 ml_X12_422 yS_X12_power (c_X12_power hS eq27) (by decide) rfl (Nat.le_of_ble_eq_true rfl) ?_
          refine r_istore dX12_swearers_83 (by decide) rfl ?_
          refine r_iconst (v := 0) dX12_swearers_85 ci_0 ?_
          refine r_istore dX12_swearers_86 (by decide) rfl ?_
          obtain ⟨p29, eb33w, e⟩ := obind e
          have J30a : Run l G M_X12_swearers 5 166 [some (vr (some 44)), none, none, some (vi a3), some (vi p29.1), none, none, none, none] [] S p29.2 (some (vi q.1)) S q.2 := by
            refine r_iload_n dX12_swearers_166 rfl ?_
            refine r_iconst (v := -1) dX12_swearers_167 ci_m1 ?_
            refine r_icmp_ne (tgt := 176) dX12_swearers_168 rfl (fun h54 => ?_) (fun h54 => ?_)
            · replace e := ite_f h54 e
              refine r_aload_n dX12_swearers_176 rfl ?_
              refine r_getR dX12_swearers_177 fl_X12_74 rfl (lp_44 hS) (lq_44 hS) (lr_44_43 hS) ?_
              refine r_iload_n dX12_swearers_180 rfl ?_
              obtain ⟨hg55, e⟩ := grd_some e
              refine r_iald dX12_swearers_181 (lp_66 hS) (lk_66 hS) hg55 ?_
              cases e
              exact r_ireturn dX12_swearers_182 rfl rfl
            · replace e := ite_t h54 e
              refine r_iload dX12_swearers_171 rfl ?_
              refine r_goto (tgt := 182) dX12_swearers_173 rfl ?_
              cases e
              exact r_ireturn dX12_swearers_182 rfl rfl
          have J30 : ∀ pp : Int32 × Mm, pp = p29 → Run l G M_X12_swearers 5 166 [some (vr (some 44)), none, none, some (vi a3), some (vi pp.1), none, none, none, none] [] S pp.2 (some (vi q.1)) S q.2 := by
            intro pp hpp
            rw [hpp]
            exact J30a
          have J30w : Run l G M_X12_swearers 5 88 [some (vr (some 44)), none, none, some (vi a3), some (vi (-1 : Int32)), some (vi q26), some (vi (0 : Int32)), none, none] [] S q4.2 (some (vi q.1)) S q.2 := by
            refine while_run (s := ((-1 : Int32), (0 : Int32), q4.2)) (Gs := fun (z28 : Int32 × Int32 × Mm) => Run l G M_X12_swearers 5 88 [some (vr (some 44)), none, none, some (vi a3), some (vi z28.1), some (vi q26), some (vi z28.2.1), none, none] [] S z28.2.2 (some (vi q.1)) S q.2) eb33w ?_
            intro z28 x31y eb33 hx32
            unfold m_X12_swearers_b88 at eb33
            refine r_iload dX12_swearers_88 rfl ?_
            refine r_iload dX12_swearers_90 rfl ?_
            refine r_icmp_ge (tgt := 166) dX12_swearers_92 rfl (fun h34 => ?_) (fun h34 => ?_)
            · replace eb33 := ite_t h34 eb33
              cases eb33
              exact r_weak (L' := [some (vr (some 44)), none, none, some (vi a3), some (vi z28.1), none, none, none, none]) ⟨rfl, rfl, rfl, trivial⟩ (J30 _ hx32)
            · replace eb33 := ite_f h34 eb33
              refine r_aload_n dX12_swearers_95 rfl ?_
              refine r_iload dX12_swearers_96 rfl ?_
              obtain ⟨q35, eq36, eb33⟩ := obind eb33
              refine r_callV (as := [_]) (rest := []) dX12_swearers_98 ml_X12_425 yV_X12_layRow (c_X12_layRow hS eq36) (by decide) rfl (lp_44 hS) (lq_44 hS) (Nat.le_of_ble_eq_true rfl) ?_
              obtain ⟨p37, ep39, eb33⟩ := obind eb33
              have J38a : Run l G M_X12_swearers 5 112 [some (vr (some 44)), none, none, some (vi a3), some (vi z28.1), some (vi q26), some (vi z28.2.1), none, none] [vi p37.1] S p37.2 (some (vi q.1)) S q.2 := by
                refine r_istore dX12_swearers_112 (by decide) rfl ?_
                refine r_iconst (v := 0) dX12_swearers_114 ci_0 ?_
                refine r_istore dX12_swearers_115 (by decide) rfl ?_
                obtain ⟨p45, eb49w, eb33⟩ := obind eb33
                have J46a : Run l G M_X12_swearers 5 151 [some (vr (some 44)), none, none, some (vi a3), some (vi z28.1), some (vi q26), some (vi z28.2.1), some (vi p37.1), none] [] S p45 (some (vi q.1)) S q.2 := by
                  refine r_iload dX12_swearers_151 rfl ?_
                  refine r_iload dX12_swearers_153 rfl ?_
                  refine r_callS (as := [_, _]) (rest := []) dX12_swearers_155 ml_X12_178 yS_X12_greater (c_X12_greater hS) (by decide) rfl (Nat.le_of_ble_eq_true rfl) ?_
                  refine r_istore dX12_swearers_158 (by decide) rfl ?_
                  refine r_iinc (v := _ + (1 : Int32)) dX12_swearers_160 rfl (congrArg (_ + ·) ci_1) (by decide) rfl ?_
                  refine r_goto (tgt := 88) dX12_swearers_163 rfl ?_
                  cases eb33
                  exact r_weak (L' := [some (vr (some 44)), none, none, some (vi a3), some (vi (m_X12_greater z28.1 p37.1)), some (vi q26), some (vi (z28.2.1 + (1 : Int32))), none, none]) ⟨rfl, rfl, rfl, rfl, rfl, trivial⟩ hx32
                have J46 : ∀ pp : Mm, pp = p45 → Run l G M_X12_swearers 5 151 [some (vr (some 44)), none, none, some (vi a3), some (vi z28.1), some (vi q26), some (vi z28.2.1), some (vi p37.1), none] [] S pp (some (vi q.1)) S q.2 := by
                  intro pp hpp
                  rw [hpp]
                  exact J46a
                have J46w : Run l G M_X12_swearers 5 117 [some (vr (some 44)), none, none, some (vi a3), some (vi z28.1), some (vi q26), some (vi z28.2.1), some (vi p37.1), some (vi (0 : Int32))] [] S p37.2 (some (vi q.1)) S q.2 := by
                  refine while_run (s := ((0 : Int32), p37.2)) (Gs := fun (z44 : Int32 × Mm) => Run l G M_X12_swearers 5 117 [some (vr (some 44)), none, none, some (vi a3), some (vi z28.1), some (vi q26), some (vi z28.2.1), some (vi p37.1), some (vi z44.1)] [] S z44.2 (some (vi q.1)) S q.2) eb49w ?_
                  intro z44 x47y eb49 hx48
                  unfold m_X12_swearers_b117 at eb49
                  refine r_iload dX12_swearers_117 rfl ?_
                  refine r_bipush (v := 6) dX12_swearers_119 cb_6 ?_
                  refine r_icmp_ge (tgt := 151) dX12_swearers_121 rfl (fun h50 => ?_) (fun h50 => ?_)
                  · replace eb49 := ite_t h50 eb49
                    cases eb49
                    exact r_weak (L' := [some (vr (some 44)), none, none, some (vi a3), some (vi z28.1), some (vi q26), some (vi z28.2.1), some (vi p37.1), none]) ⟨rfl, rfl, rfl, rfl, rfl, rfl, trivial⟩ (J46 _ hx48)
                  · replace eb49 := ite_f h50 eb49
                    refine r_iload dX12_swearers_124 rfl ?_
                    refine r_iload dX12_swearers_126 rfl ?_
                    refine r_icmp_le (tgt := 151) dX12_swearers_128 rfl (fun h51 => ?_) (fun h51 => ?_)
                    · replace eb49 := ite_t h51 eb49
                      cases eb49
                      exact r_weak (L' := [some (vr (some 44)), none, none, some (vi a3), some (vi z28.1), some (vi q26), some (vi z28.2.1), some (vi p37.1), none]) ⟨rfl, rfl, rfl, rfl, rfl, rfl, trivial⟩ (J46 _ hx48)
                    · replace eb49 := ite_f h51 eb49
                      refine r_aload_n dX12_swearers_131 rfl ?_
                      refine r_getR dX12_swearers_132 fl_X12_74 rfl (lp_44 hS) (lq_44 hS) (lr_44_43 hS) ?_
                      refine r_iload dX12_swearers_135 rfl ?_
                      refine r_aload_n dX12_swearers_137 rfl ?_
                      refine r_getR dX12_swearers_138 fl_X12_71 rfl (lp_44 hS) (lq_44 hS) (lr_44_42 hS) ?_
                      refine r_iload dX12_swearers_141 rfl ?_
                      obtain ⟨hg52, eb49⟩ := grd_some eb49
                      refine r_iald dX12_swearers_143 (lp_65 hS) (lk_65 hS) hg52 ?_
                      obtain ⟨hg53, eb49⟩ := grd_some eb49
                      refine r_iast dX12_swearers_144 (lp_66 hS) (lk_66 hS) hg53 ?_
                      refine r_iinc (v := _ + (1 : Int32)) dX12_swearers_145 rfl (congrArg (_ + ·) ci_1) (by decide) rfl ?_
                      refine r_goto (tgt := 117) dX12_swearers_148 rfl ?_
                      cases eb49
                      exact r_weak (L' := [some (vr (some 44)), none, none, some (vi a3), some (vi z28.1), some (vi q26), some (vi z28.2.1), some (vi p37.1), some (vi (z44.1 + (1 : Int32)))]) ⟨rfl, rfl, rfl, rfl, rfl, rfl, rfl, trivial⟩ hx48
                exact r_weak (L' := [some (vr (some 44)), none, none, some (vi a3), some (vi z28.1), some (vi q26), some (vi z28.2.1), some (vi p37.1), some (vi (0 : Int32))]) ⟨rfl, rfl, rfl, rfl, rfl, rfl, rfl, trivial⟩ J46w
              have J38 : ∀ pp : Int32 × Mm, pp = p37 → Run l G M_X12_swearers 5 112 [some (vr (some 44)), none, none, some (vi a3), some (vi z28.1), some (vi q26), some (vi z28.2.1), none, none] [vi pp.1] S pp.2 (some (vi q.1)) S q.2 := by
                intro pp hpp
                rw [hpp]
                exact J38a
              refine r_if_eq (tgt := 111) dX12_swearers_101 rfl (fun h41 => ?_) (fun h41 => ?_)
              · replace ep39 := ite_t h41 ep39
                refine r_iconst (v := -1) dX12_swearers_111 ci_m1 ?_
                exact r_weak (L' := [some (vr (some 44)), none, none, some (vi a3), some (vi z28.1), some (vi q26), some (vi z28.2.1), none, none]) ⟨rfl, rfl, rfl, rfl, rfl, trivial⟩ (J38 _ (Option.some.inj ep39))
              · replace ep39 := ite_f h41 ep39
                refine r_aload_n dX12_swearers_104 rfl ?_
                obtain ⟨q42, eq43, ep39⟩ := obind ep39
                refine r_callV (as := []) (rest := []) dX12_swearers_105 ml_X12_428 yV_X12_keptWants (c_X12_keptWants hS eq43) (by decide) rfl (lp_44 hS) (lq_44 hS) (Nat.le_of_ble_eq_true rfl) ?_
                refine r_goto (tgt := 112) dX12_swearers_108 rfl ?_
                exact r_weak (L' := [some (vr (some 44)), none, none, some (vi a3), some (vi z28.1), some (vi q26), some (vi z28.2.1), none, none]) ⟨rfl, rfl, rfl, rfl, rfl, trivial⟩ (J38 _ (Option.some.inj ep39))
          exact r_weak (L' := [some (vr (some 44)), none, none, some (vi a3), some (vi (-1 : Int32)), some (vi q26), some (vi (0 : Int32)), none, none]) ⟨rfl, rfl, rfl, rfl, rfl, trivial⟩ J30w
        have J12w : Run l G M_X12_swearers 5 40 [some (vr (some 44)), none, none, some (vi a3), some (vi (0 : Int32)), none, none, none, none] [] S q4.2 (some (vi q.1)) S q.2 := by
          refine while_run (s := (0 : Int32)) (Gs := fun (z10 : Int32) => Run l G M_X12_swearers 5 40 [some (vr (some 44)), none, none, some (vi a3), some (vi z10), none, none, none, none] [] S q4.2 (some (vi q.1)) S q.2) eb15w ?_
          intro z10 x13y eb15 hx14
          unfold m_X12_swearers_b40 at eb15
          refine r_iload dX12_swearers_40 rfl ?_
          refine r_aload_n dX12_swearers_42 rfl ?_
          obtain ⟨q16, eq17, eb15⟩ := obind eb15
          refine r_callV (as := []) (rest := [_]) dX12_swearers_43 ml_X12_416 yV_X12_allWants (c_X12_allWants hS eq17) (by decide) rfl (lp_44 hS) (lq_44 hS) (Nat.le_of_ble_eq_true rfl) ?_
          refine r_icmp_ge (tgt := 71) dX12_swearers_46 rfl (fun h18 => ?_) (fun h18 => ?_)
          · replace eb15 := ite_t h18 eb15
            cases eb15
            exact r_weak (L' := [some (vr (some 44)), none, none, some (vi a3), none, none, none, none, none]) ⟨rfl, rfl, trivial⟩ (J12 _ (Eq.symm hx14))
          · replace eb15 := ite_f h18 eb15
            refine r_aload_n dX12_swearers_49 rfl ?_
            refine r_aload_n dX12_swearers_50 rfl ?_
            refine r_iload dX12_swearers_51 rfl ?_
            refine r_iconst (v := 0) dX12_swearers_53 ci_0 ?_
            obtain ⟨q19, eq20, eb15⟩ := obind eb15
            refine r_callV (as := [_, _]) (rest := [_]) dX12_swearers_54 ml_X12_419 yV_X12_wantOf (c_X12_wantOf hS eq20) (by decide) rfl (lp_44 hS) (lq_44 hS) (Nat.le_of_ble_eq_true rfl) ?_
            obtain ⟨q21, eq22, eb15⟩ := obind eb15
            refine r_callV (as := [_]) (rest := []) dX12_swearers_57 ml_X12_289 yV_X12_isOne (c_X12_isOne hS eq22) (by decide) rfl (lp_44 hS) (lq_44 hS) (Nat.le_of_ble_eq_true rfl) ?_
            refine r_if_ne (tgt := 65) dX12_swearers_60 rfl (fun h23 => ?_) (fun h23 => ?_)
            · replace eb15 := ite_f h23 eb15
              refine r_iinc (v := _ + (1 : Int32)) dX12_swearers_65 rfl (congrArg (_ + ·) ci_1) (by decide) rfl ?_
              refine r_goto (tgt := 40) dX12_swearers_68 rfl ?_
              cases eb15
              exact r_weak (L' := [some (vr (some 44)), none, none, some (vi a3), some (vi (z10 + (1 : Int32))), none, none, none, none]) ⟨rfl, rfl, rfl, trivial⟩ hx14
            · replace eb15 := ite_t h23 eb15
              refine r_iconst (v := -1) dX12_swearers_63 ci_m1 ?_
              cases eb15
              have e := congrArg some (erx13 _ (Eq.symm hx14))
              cases e
              exact r_ireturn dX12_swearers_64 rfl rfl
        exact r_weak (L' := [some (vr (some 44)), none, none, some (vi a3), some (vi (0 : Int32)), none, none, none, none]) ⟨rfl, rfl, rfl, trivial⟩ J12w
      · replace e := ite_t h9 e
        refine r_iconst (v := -1) dX12_swearers_35 ci_m1 ?_
        cases e
        exact r_ireturn dX12_swearers_36 rfl rfl
def m_X12_endOf_b18 (a1 : Int32) (a2 : Int32) (z3 : Int32 × Int32 × Mm) : Option ((Int32 × Int32 × Mm) ⊕ (Mm)) := if z3.2.1 < 0 then (some (.inr z3.2.2)) else ((if (8 : Int32) ≤ (xrem z3.1 (9 : Int32)) then (some z3.2.2) else ((m_X12_addOath (if (xrem z3.2.1 (2 : Int32)) = 0 then a1 else a2) (if (xrem z3.2.1 (2 : Int32)) = 0 then a2 else a1) (xrem z3.1 (9 : Int32)) z3.2.2).bind (fun q21 => some q21)) : Option (Mm)).bind (fun p10 => some (.inl (z3.1 / (9 : Int32), z3.2.1 + (-1 : Int32), p10))))
def m_X12_endOf (a1 : Int32) (a2 : Int32) (a3 : Int32) (a4 : Int32) (mm : Mm) : Option (Int32 × Mm) := (m_X12_of (1 : Int32) mm).bind (fun q1 => (whileF FU (m_X12_endOf_b18 a1 a2) (a4, a3 - (1 : Int32), (sI mm 44 25 q1))).bind (fun p4 => (m_X12_keptBy a2 p4).bind (fun q25 => (m_X12_ones q25).bind (fun q27 => (m_X12_keptBy a1 p4).bind (fun q29 => (m_X12_ones q29).bind (fun q31 => some (q27 - q31, p4)))))))
set_option maxHeartbeats 4000000 in
set_option maxRecDepth 100000 in
theorem c_X12_endOf {l : Launch} {G : Gt} {S : Sk} (hS : Lay S) {a1 : Int32} {a2 : Int32} {a3 : Int32} {a4 : Int32} {mm : Mm} {q : Int32 × Mm} (e : m_X12_endOf a1 a2 a3 a4 mm = some q) : CallOK l G M_X12_endOf yX12_endOf 4 [vr (some 44), vi a1, vi a2, vi a3, vi a4] S mm (some (vi q.1)) S q.2 := by
  refine call_of_run rfl rfl rfl (Nat.le_of_ble_eq_true rfl) ?_
  show Run l G M_X12_endOf 4 0 [some (vr (some 44)), some (vi a1), some (vi a2), some (vi a3), some (vi a4), none, none, none] [] S mm (some (vi q.1)) S q.2
  unfold m_X12_endOf at e
  refine r_aload_n dX12_endOf_0 rfl ?_
  refine r_aload_n dX12_endOf_1 rfl ?_
  refine r_iconst (v := 1) dX12_endOf_2 ci_1 ?_
  obtain ⟨q1, eq2, e⟩ := obind e
  refine r_callV (as := [_]) (rest := [_]) dX12_endOf_3 ml_X12_276 yV_X12_of (c_X12_of hS eq2) (by decide) rfl (lp_44 hS) (lq_44 hS) (Nat.le_of_ble_eq_true rfl) ?_
  refine r_putI dX12_endOf_6 fl_X12_280 ft_12_25 (Or.inl rfl) rfl rfl rfl (lp_44 hS) (lq_44 hS) ?_
  refine r_iload dX12_endOf_9 rfl ?_
  refine r_istore dX12_endOf_11 (by decide) rfl ?_
  refine r_iload_n dX12_endOf_13 rfl ?_
  refine r_iconst (v := 1) dX12_endOf_14 ci_1 ?_
  refine r_isub dX12_endOf_15 ?_
  refine r_istore dX12_endOf_16 (by decide) rfl ?_
  obtain ⟨p4, eb8w, e⟩ := obind e
  have J5a : Run l G M_X12_endOf 4 80 [some (vr (some 44)), some (vi a1), some (vi a2), none, none, none, none, none] [] S p4 (some (vi q.1)) S q.2 := by
    refine r_aload_n dX12_endOf_80 rfl ?_
    refine r_iload_n dX12_endOf_81 rfl ?_
    obtain ⟨q25, eq26, e⟩ := obind e
    refine r_callV (as := [_]) (rest := []) dX12_endOf_82 ml_X12_307 yV_X12_keptBy (c_X12_keptBy hS eq26) (by decide) rfl (lp_44 hS) (lq_44 hS) (Nat.le_of_ble_eq_true rfl) ?_
    obtain ⟨q27, eq28, e⟩ := obind e
    refine r_callS (as := [_]) (rest := []) dX12_endOf_85 ml_X12_295 yS_X12_ones (c_X12_ones hS eq28) (by decide) rfl (Nat.le_of_ble_eq_true rfl) ?_
    refine r_aload_n dX12_endOf_88 rfl ?_
    refine r_iload_n dX12_endOf_89 rfl ?_
    obtain ⟨q29, eq30, e⟩ := obind e
    refine r_callV (as := [_]) (rest := [_]) dX12_endOf_90 ml_X12_307 yV_X12_keptBy (c_X12_keptBy hS eq30) (by decide) rfl (lp_44 hS) (lq_44 hS) (Nat.le_of_ble_eq_true rfl) ?_
    obtain ⟨q31, eq32, e⟩ := obind e
    refine r_callS (as := [_]) (rest := [_]) dX12_endOf_93 ml_X12_295 yS_X12_ones (c_X12_ones hS eq32) (by decide) rfl (Nat.le_of_ble_eq_true rfl) ?_
    refine r_isub dX12_endOf_96 ?_
    cases e
    exact r_ireturn dX12_endOf_97 rfl rfl
  have J5 : ∀ pp : Mm, pp = p4 → Run l G M_X12_endOf 4 80 [some (vr (some 44)), some (vi a1), some (vi a2), none, none, none, none, none] [] S pp (some (vi q.1)) S q.2 := by
    intro pp hpp
    rw [hpp]
    exact J5a
  have J5w : Run l G M_X12_endOf 4 18 [some (vr (some 44)), some (vi a1), some (vi a2), none, none, some (vi a4), some (vi (a3 - (1 : Int32))), none] [] S (sI mm 44 25 q1) (some (vi q.1)) S q.2 := by
    refine while_run (s := (a4, a3 - (1 : Int32), (sI mm 44 25 q1))) (Gs := fun (z3 : Int32 × Int32 × Mm) => Run l G M_X12_endOf 4 18 [some (vr (some 44)), some (vi a1), some (vi a2), none, none, some (vi z3.1), some (vi z3.2.1), none] [] S z3.2.2 (some (vi q.1)) S q.2) eb8w ?_
    intro z3 x6y eb8 hx7
    unfold m_X12_endOf_b18 at eb8
    refine r_iload dX12_endOf_18 rfl ?_
    refine r_if_lt (tgt := 80) dX12_endOf_20 rfl (fun h9 => ?_) (fun h9 => ?_)
    · replace eb8 := ite_t h9 eb8
      cases eb8
      exact r_weak (L' := [some (vr (some 44)), some (vi a1), some (vi a2), none, none, none, none, none]) ⟨rfl, rfl, rfl, trivial⟩ (J5 _ hx7)
    · replace eb8 := ite_f h9 eb8
      refine r_iload dX12_endOf_23 rfl ?_
      refine r_bipush (v := 9) dX12_endOf_25 cb_9 ?_
      refine r_irem dX12_endOf_27 (by decide) ?_
      refine r_istore dX12_endOf_28 (by decide) rfl ?_
      refine r_iload dX12_endOf_30 rfl ?_
      refine r_bipush (v := 9) dX12_endOf_32 cb_9 ?_
      refine r_idiv dX12_endOf_34 (by decide) ?_
      refine r_istore dX12_endOf_35 (by decide) rfl ?_
      refine r_iload dX12_endOf_37 rfl ?_
      refine r_bipush (v := 8) dX12_endOf_39 cb_8 ?_
      obtain ⟨p10, ep12, eb8⟩ := obind eb8
      have J11a : Run l G M_X12_endOf 4 74 [some (vr (some 44)), some (vi a1), some (vi a2), none, none, some (vi (z3.1 / (9 : Int32))), some (vi z3.2.1), none] [] S p10 (some (vi q.1)) S q.2 := by
        refine r_iinc (v := _ + (-1 : Int32)) dX12_endOf_74 rfl (congrArg (_ + ·) ci_m1) (by decide) rfl ?_
        refine r_goto (tgt := 18) dX12_endOf_77 rfl ?_
        cases eb8
        exact r_weak (L' := [some (vr (some 44)), some (vi a1), some (vi a2), none, none, some (vi (z3.1 / (9 : Int32))), some (vi (z3.2.1 + (-1 : Int32))), none]) ⟨rfl, rfl, rfl, rfl, rfl, trivial⟩ hx7
      have J11 : ∀ pp : Mm, pp = p10 → Run l G M_X12_endOf 4 74 [some (vr (some 44)), some (vi a1), some (vi a2), none, none, some (vi (z3.1 / (9 : Int32))), some (vi z3.2.1), none] [] S pp (some (vi q.1)) S q.2 := by
        intro pp hpp
        rw [hpp]
        exact J11a
      refine r_icmp_ge (tgt := 74) dX12_endOf_41 rfl (fun h14 => ?_) (fun h14 => ?_)
      · replace ep12 := ite_t h14 ep12
        exact r_weak (L' := [some (vr (some 44)), some (vi a1), some (vi a2), none, none, some (vi (z3.1 / (9 : Int32))), some (vi z3.2.1), none]) ⟨rfl, rfl, rfl, rfl, rfl, trivial⟩ (J11 _ (Option.some.inj ep12))
      · replace ep12 := ite_f h14 ep12
        refine r_aload_n dX12_endOf_44 rfl ?_
        refine r_iload dX12_endOf_45 rfl ?_
        refine r_iconst (v := 2) dX12_endOf_47 ci_2 ?_
        refine r_irem dX12_endOf_48 (by decide) ?_
        have J17 : ∀ (w16 : Int32), w16 = (if (xrem z3.2.1 (2 : Int32)) = 0 then a1 else a2) → Run l G M_X12_endOf 4 57 [some (vr (some 44)), some (vi a1), some (vi a2), none, none, some (vi (z3.1 / (9 : Int32))), some (vi z3.2.1), some (vi (xrem z3.1 (9 : Int32)))] [vi w16, vr (some 44)] S z3.2.2 (some (vi q.1)) S q.2 := by
          intro w16 hw24
          subst hw24
          refine r_iload dX12_endOf_57 rfl ?_
          refine r_iconst (v := 2) dX12_endOf_59 ci_2 ?_
          refine r_irem dX12_endOf_60 (by decide) ?_
          have J20 : ∀ (w19 : Int32), w19 = (if (xrem z3.2.1 (2 : Int32)) = 0 then a2 else a1) → Run l G M_X12_endOf 4 69 [some (vr (some 44)), some (vi a1), some (vi a2), none, none, some (vi (z3.1 / (9 : Int32))), some (vi z3.2.1), some (vi (xrem z3.1 (9 : Int32)))] [vi w19, vi (if (xrem z3.2.1 (2 : Int32)) = 0 then a1 else a2), vr (some 44)] S z3.2.2 (some (vi q.1)) S q.2 := by
            intro w19 hw23
            subst hw23
            refine r_iload dX12_endOf_69 rfl ?_
            obtain ⟨q21, eq22, ep12⟩ := obind ep12
            refine r_callV (as := [_, _, _]) (rest := []) dX12_endOf_71 ml_X12_331 yV_X12_addOath (c_X12_addOath hS eq22) (by decide) rfl (lp_44 hS) (lq_44 hS) (Nat.le_of_ble_eq_true rfl) ?_
            exact r_weak (L' := [some (vr (some 44)), some (vi a1), some (vi a2), none, none, some (vi (z3.1 / (9 : Int32))), some (vi z3.2.1), none]) ⟨rfl, rfl, rfl, rfl, rfl, trivial⟩ (J11 _ (Option.some.inj ep12))
          refine r_if_ne (tgt := 68) dX12_endOf_61 rfl (fun h18 => ?_) (fun h18 => ?_)
          · refine r_iload_n dX12_endOf_68 rfl ?_
            exact r_weak (L' := [some (vr (some 44)), some (vi a1), some (vi a2), none, none, some (vi (z3.1 / (9 : Int32))), some (vi z3.2.1), some (vi (xrem z3.1 (9 : Int32)))]) ⟨rfl, rfl, rfl, rfl, rfl, rfl, trivial⟩ (J20 _ (Eq.symm (if_neg h18)))
          · refine r_iload_n dX12_endOf_64 rfl ?_
            refine r_goto (tgt := 69) dX12_endOf_65 rfl ?_
            exact r_weak (L' := [some (vr (some 44)), some (vi a1), some (vi a2), none, none, some (vi (z3.1 / (9 : Int32))), some (vi z3.2.1), some (vi (xrem z3.1 (9 : Int32)))]) ⟨rfl, rfl, rfl, rfl, rfl, rfl, trivial⟩ (J20 _ (Eq.symm (if_pos h18)))
        refine r_if_ne (tgt := 56) dX12_endOf_49 rfl (fun h15 => ?_) (fun h15 => ?_)
        · refine r_iload_n dX12_endOf_56 rfl ?_
          exact r_weak (L' := [some (vr (some 44)), some (vi a1), some (vi a2), none, none, some (vi (z3.1 / (9 : Int32))), some (vi z3.2.1), some (vi (xrem z3.1 (9 : Int32)))]) ⟨rfl, rfl, rfl, rfl, rfl, rfl, trivial⟩ (J17 _ (Eq.symm (if_neg h15)))
        · refine r_iload_n dX12_endOf_52 rfl ?_
          refine r_goto (tgt := 57) dX12_endOf_53 rfl ?_
          exact r_weak (L' := [some (vr (some 44)), some (vi a1), some (vi a2), none, none, some (vi (z3.1 / (9 : Int32))), some (vi z3.2.1), some (vi (xrem z3.1 (9 : Int32)))]) ⟨rfl, rfl, rfl, rfl, rfl, rfl, trivial⟩ (J17 _ (Eq.symm (if_pos h15)))
  exact r_weak (L' := [some (vr (some 44)), some (vi a1), some (vi a2), none, none, some (vi a4), some (vi (a3 - (1 : Int32))), none]) ⟨rfl, rfl, rfl, rfl, rfl, trivial⟩ J5w
def m_X12_fold_b10 (a1 : Int32) (a2 : Int32) (z1 : Int32 × Int32 × Mm) : Option ((Int32 × Int32 × Mm) ⊕ (Int32 × Mm)) := if (9 : Int32) ≤ z1.2.1 then (some (.inr (z1.1, z1.2.2))) else (grd (a1 + z1.2.1) 729 (some (.inl ((if (mI z1.2.2 44 45) = (-1 : Int32) then mI z1.2.2 67 (ix (a1 + z1.2.1)) else (if a2 = 0 then (if z1.1 ≤ (mI z1.2.2 67 (ix (a1 + z1.2.1))) then z1.1 else mI z1.2.2 67 (ix (a1 + z1.2.1))) else (if (mI z1.2.2 67 (ix (a1 + z1.2.1))) ≤ z1.1 then z1.1 else mI z1.2.2 67 (ix (a1 + z1.2.1))))), z1.2.1 + (1 : Int32), (if (mI z1.2.2 44 45) = (-1 : Int32) then (sI z1.2.2 44 45 z1.2.1) else (if a2 = 0 then (if z1.1 ≤ (mI z1.2.2 67 (ix (a1 + z1.2.1))) then z1.2.2 else (sI z1.2.2 44 45 z1.2.1)) else (if (mI z1.2.2 67 (ix (a1 + z1.2.1))) ≤ z1.1 then z1.2.2 else (sI z1.2.2 44 45 z1.2.1))))))))
def m_X12_fold (a1 : Int32) (a2 : Int32) (mm : Mm) : Option (Int32 × Mm) := (whileF FU (m_X12_fold_b10 a1 a2) ((0 : Int32), (0 : Int32), (sI mm 44 45 (-1 : Int32)))).bind (fun p2 => some (p2.1, p2.2))
set_option maxHeartbeats 4000000 in
set_option maxRecDepth 100000 in
theorem c_X12_fold {l : Launch} {G : Gt} {S : Sk} (hS : Lay S) {a1 : Int32} {a2 : Int32} {mm : Mm} {q : Int32 × Mm} (e : m_X12_fold a1 a2 mm = some q) : CallOK l G M_X12_fold yX12_fold 0 [vr (some 44), vi a1, vi a2] S mm (some (vi q.1)) S q.2 := by
  refine call_of_run rfl rfl rfl (Nat.le_of_ble_eq_true rfl) ?_
  show Run l G M_X12_fold 0 0 [some (vr (some 44)), some (vi a1), some (vi a2), none, none, none] [] S mm (some (vi q.1)) S q.2
  unfold m_X12_fold at e
  refine r_iconst (v := 0) dX12_fold_0 ci_0 ?_
  refine r_istore_n dX12_fold_1 (by decide) rfl ?_
  refine r_aload_n dX12_fold_2 rfl ?_
  refine r_iconst (v := -1) dX12_fold_3 ci_m1 ?_
  refine r_putI dX12_fold_4 fl_X12_431 ft_12_45 (Or.inl rfl) rfl rfl rfl (lp_44 hS) (lq_44 hS) ?_
  refine r_iconst (v := 0) dX12_fold_7 ci_0 ?_
  refine r_istore dX12_fold_8 (by decide) rfl ?_
  obtain ⟨p2, eb6w, e⟩ := obind e
  have J3a : Run l G M_X12_fold 0 70 [none, none, none, some (vi p2.1), none, none] [] S p2.2 (some (vi q.1)) S q.2 := by
    refine r_iload_n dX12_fold_70 rfl ?_
    cases e
    exact r_ireturn dX12_fold_71 rfl rfl
  have J3 : ∀ pp : Int32 × Mm, pp = p2 → Run l G M_X12_fold 0 70 [none, none, none, some (vi pp.1), none, none] [] S pp.2 (some (vi q.1)) S q.2 := by
    intro pp hpp
    rw [hpp]
    exact J3a
  have J3w : Run l G M_X12_fold 0 10 [some (vr (some 44)), some (vi a1), some (vi a2), some (vi (0 : Int32)), some (vi (0 : Int32)), none] [] S (sI mm 44 45 (-1 : Int32)) (some (vi q.1)) S q.2 := by
    refine while_run (s := ((0 : Int32), (0 : Int32), (sI mm 44 45 (-1 : Int32)))) (Gs := fun (z1 : Int32 × Int32 × Mm) => Run l G M_X12_fold 0 10 [some (vr (some 44)), some (vi a1), some (vi a2), some (vi z1.1), some (vi z1.2.1), none] [] S z1.2.2 (some (vi q.1)) S q.2) eb6w ?_
    intro z1 x4y eb6 hx5
    unfold m_X12_fold_b10 at eb6
    refine r_iload dX12_fold_10 rfl ?_
    refine r_bipush (v := 9) dX12_fold_12 cb_9 ?_
    refine r_icmp_ge (tgt := 70) dX12_fold_14 rfl (fun h7 => ?_) (fun h7 => ?_)
    · replace eb6 := ite_t h7 eb6
      cases eb6
      exact r_weak (L' := [none, none, none, some (vi z1.1), none, none]) ⟨rfl, trivial⟩ (J3 _ hx5)
    · replace eb6 := ite_f h7 eb6
      refine r_aload_n dX12_fold_17 rfl ?_
      refine r_getR dX12_fold_18 fl_X12_77 rfl (lp_44 hS) (lq_44 hS) (lr_44_44 hS) ?_
      refine r_iload_n dX12_fold_21 rfl ?_
      refine r_iload dX12_fold_22 rfl ?_
      refine r_iadd dX12_fold_24 ?_
      obtain ⟨hg8, eb6⟩ := grd_some eb6
      refine r_iald dX12_fold_25 (lp_67 hS) (lk_67 hS) hg8 ?_
      refine r_istore dX12_fold_26 (by decide) rfl ?_
      refine r_aload_n dX12_fold_28 rfl ?_
      refine r_getI dX12_fold_29 fl_X12_431 rfl (lp_44 hS) (lq_44 hS) ?_
      refine r_iconst (v := -1) dX12_fold_32 ci_m1 ?_
      have J15 : ∀ (w13 : Int32) (w14 : Mm), w13 = (if (mI z1.2.2 44 45) = (-1 : Int32) then mI z1.2.2 67 (ix (a1 + z1.2.1)) else (if a2 = 0 then (if z1.1 ≤ (mI z1.2.2 67 (ix (a1 + z1.2.1))) then z1.1 else mI z1.2.2 67 (ix (a1 + z1.2.1))) else (if (mI z1.2.2 67 (ix (a1 + z1.2.1))) ≤ z1.1 then z1.1 else mI z1.2.2 67 (ix (a1 + z1.2.1))))) → w14 = (if (mI z1.2.2 44 45) = (-1 : Int32) then (sI z1.2.2 44 45 z1.2.1) else (if a2 = 0 then (if z1.1 ≤ (mI z1.2.2 67 (ix (a1 + z1.2.1))) then z1.2.2 else (sI z1.2.2 44 45 z1.2.1)) else (if (mI z1.2.2 67 (ix (a1 + z1.2.1))) ≤ z1.1 then z1.2.2 else (sI z1.2.2 44 45 z1.2.1)))) → Run l G M_X12_fold 0 64 [some (vr (some 44)), some (vi a1), some (vi a2), some (vi w13), some (vi z1.2.1), none] [] S w14 (some (vi q.1)) S q.2 := by
        intro w13 w14 hw16 hw17
        subst hw16
        subst hw17
        refine r_iinc (v := _ + (1 : Int32)) dX12_fold_64 rfl (congrArg (_ + ·) ci_1) (by decide) rfl ?_
        refine r_goto (tgt := 10) dX12_fold_67 rfl ?_
        cases eb6
        exact r_weak (L' := [some (vr (some 44)), some (vi a1), some (vi a2), some (vi (if (mI z1.2.2 44 45) = (-1 : Int32) then mI z1.2.2 67 (ix (a1 + z1.2.1)) else (if a2 = 0 then (if z1.1 ≤ (mI z1.2.2 67 (ix (a1 + z1.2.1))) then z1.1 else mI z1.2.2 67 (ix (a1 + z1.2.1))) else (if (mI z1.2.2 67 (ix (a1 + z1.2.1))) ≤ z1.1 then z1.1 else mI z1.2.2 67 (ix (a1 + z1.2.1)))))), some (vi (z1.2.1 + (1 : Int32))), none]) ⟨rfl, rfl, rfl, rfl, rfl, trivial⟩ hx5
      refine r_icmp_eq (tgt := 55) dX12_fold_33 rfl (fun h9 => ?_) (fun h9 => ?_)
      · refine r_iload dX12_fold_55 rfl ?_
        refine r_istore_n dX12_fold_57 (by decide) rfl ?_
        refine r_aload_n dX12_fold_58 rfl ?_
        refine r_iload dX12_fold_59 rfl ?_
        refine r_putI dX12_fold_61 fl_X12_431 ft_12_45 (Or.inl rfl) rfl rfl rfl (lp_44 hS) (lq_44 hS) ?_
        exact r_weak (L' := [some (vr (some 44)), some (vi a1), some (vi a2), some (vi (mI z1.2.2 67 (ix (a1 + z1.2.1)))), some (vi z1.2.1), none]) ⟨rfl, rfl, rfl, rfl, rfl, trivial⟩ (J15 _ _ (Eq.symm (if_pos h9)) (Eq.symm (if_pos h9)))
      · refine r_iload_n dX12_fold_36 rfl ?_
        refine r_if_eq (tgt := 49) dX12_fold_37 rfl (fun h10 => ?_) (fun h10 => ?_)
        · refine r_iload dX12_fold_49 rfl ?_
          refine r_iload_n dX12_fold_51 rfl ?_
          refine r_icmp_ge (tgt := 64) dX12_fold_52 rfl (fun h11 => ?_) (fun h11 => ?_)
          · exact r_weak (L' := [some (vr (some 44)), some (vi a1), some (vi a2), some (vi z1.1), some (vi z1.2.1), none]) ⟨rfl, rfl, rfl, rfl, rfl, trivial⟩ (J15 _ _ (Eq.symm ((if_neg h9).trans ((if_pos h10).trans (if_pos h11)))) (Eq.symm ((if_neg h9).trans ((if_pos h10).trans (if_pos h11)))))
          · refine r_iload dX12_fold_55 rfl ?_
            refine r_istore_n dX12_fold_57 (by decide) rfl ?_
            refine r_aload_n dX12_fold_58 rfl ?_
            refine r_iload dX12_fold_59 rfl ?_
            refine r_putI dX12_fold_61 fl_X12_431 ft_12_45 (Or.inl rfl) rfl rfl rfl (lp_44 hS) (lq_44 hS) ?_
            exact r_weak (L' := [some (vr (some 44)), some (vi a1), some (vi a2), some (vi (mI z1.2.2 67 (ix (a1 + z1.2.1)))), some (vi z1.2.1), none]) ⟨rfl, rfl, rfl, rfl, rfl, trivial⟩ (J15 _ _ (Eq.symm ((if_neg h9).trans ((if_pos h10).trans (if_neg h11)))) (Eq.symm ((if_neg h9).trans ((if_pos h10).trans (if_neg h11)))))
        · refine r_iload dX12_fold_40 rfl ?_
          refine r_iload_n dX12_fold_42 rfl ?_
          refine r_icmp_le (tgt := 64) dX12_fold_43 rfl (fun h12 => ?_) (fun h12 => ?_)
          · exact r_weak (L' := [some (vr (some 44)), some (vi a1), some (vi a2), some (vi z1.1), some (vi z1.2.1), none]) ⟨rfl, rfl, rfl, rfl, rfl, trivial⟩ (J15 _ _ (Eq.symm ((if_neg h9).trans ((if_neg h10).trans (if_pos h12)))) (Eq.symm ((if_neg h9).trans ((if_neg h10).trans (if_pos h12)))))
          · refine r_goto (tgt := 55) dX12_fold_46 rfl ?_
            refine r_iload dX12_fold_55 rfl ?_
            refine r_istore_n dX12_fold_57 (by decide) rfl ?_
            refine r_aload_n dX12_fold_58 rfl ?_
            refine r_iload dX12_fold_59 rfl ?_
            refine r_putI dX12_fold_61 fl_X12_431 ft_12_45 (Or.inl rfl) rfl rfl rfl (lp_44 hS) (lq_44 hS) ?_
            exact r_weak (L' := [some (vr (some 44)), some (vi a1), some (vi a2), some (vi (mI z1.2.2 67 (ix (a1 + z1.2.1)))), some (vi z1.2.1), none]) ⟨rfl, rfl, rfl, rfl, rfl, trivial⟩ (J15 _ _ (Eq.symm ((if_neg h9).trans ((if_neg h10).trans (if_neg h12)))) (Eq.symm ((if_neg h9).trans ((if_neg h10).trans (if_neg h12)))))
  exact r_weak (L' := [some (vr (some 44)), some (vi a1), some (vi a2), some (vi (0 : Int32)), some (vi (0 : Int32)), none]) ⟨rfl, rfl, rfl, rfl, rfl, trivial⟩ J3w
def m_X12_dare_b47 (a2 : Int32) (a3 : Int32) (a4 : Int32) (q8 : Int32) (z10 : Int32 × Mm) : Option ((Int32 × Mm) ⊕ (Mm)) := if q8 ≤ z10.1 then (some (.inr z10.2)) else ((m_X12_endOf a2 a3 a4 z10.1 z10.2).bind (fun q17 => grd z10.1 729 (some (.inl (z10.1 + (1 : Int32), (sI q17.2 67 (ix z10.1) q17.1))))))
def m_X12_dare_b103 (z20 : Int32 × Int32 × Mm) (z27 : Int32 × Mm) : Option ((Int32 × Mm) ⊕ (Mm)) := if (z20.1 / (9 : Int32)) ≤ z27.1 then (some (.inr z27.2)) else ((m_X12_fold ((9 : Int32) * z27.1) (if (xrem z20.2.1 (2 : Int32)) = 0 then (1 : Int32) else (0 : Int32)) z27.2).bind (fun q37 => grd z27.1 729 (some (.inl (z27.1 + (1 : Int32), (sI q37.2 67 (ix z27.1) q37.1))))))
def m_X12_dare_b88 (z20 : Int32 × Int32 × Mm) : Option ((Int32 × Int32 × Mm) ⊕ (Mm)) := if z20.2.1 < 0 then (some (.inr z20.2.2)) else ((whileF FU (m_X12_dare_b103 z20) ((0 : Int32), z20.2.2)).bind (fun p28 => some (.inl (z20.1 / (9 : Int32), z20.2.1 + (-1 : Int32), p28))))
def m_X12_dare (a1 : Int32) (a2 : Int32) (a3 : Int32) (a4 : Int32) (a5 : Int32) (mm : Mm) : Option (Int32 × Mm) := if (m_X12_in a4 (0 : Int32) (3 : Int32)) = 0 then (some ((-9 : Int32), (sI mm 44 0 (0 : Int32)))) else ((m_X12_hand a1 (sI mm 44 0 (0 : Int32))).bind (fun q2 => if q2.1 = 0 then (some ((-9 : Int32), q2.2)) else ((m_X12_areTwo a2 a3 q2.2).bind (fun q5 => if q5 = 0 then (some ((-9 : Int32), q2.2)) else ((m_X12_power (9 : Int32) a4).bind (fun q8 => (whileF FU (m_X12_dare_b47 a2 a3 a4 q8) ((0 : Int32), q2.2)).bind (fun p11 => (whileF FU (m_X12_dare_b88) (q8, a4 - (1 : Int32), (sI p11 44 45 (-1 : Int32)))).bind (fun p21 => if a5 = 0 then (some (mI p21 67 (ix (0 : Int32)), p21)) else (some (mI p21 44 45, p21))))))))))
set_option maxHeartbeats 4000000 in
set_option maxRecDepth 100000 in
theorem c_X12_dare {l : Launch} {G : Gt} {S : Sk} (hS : Lay S) {a1 : Int32} {a2 : Int32} {a3 : Int32} {a4 : Int32} {a5 : Int32} {mm : Mm} {q : Int32 × Mm} (e : m_X12_dare a1 a2 a3 a4 a5 mm = some q) : CallOK l G M_X12_dare yX12_dare 5 [vr (some 44), vi a1, vi a2, vi a3, vi a4, vi a5] S mm (some (vi q.1)) S q.2 := by
  refine call_of_run rfl rfl rfl (Nat.le_of_ble_eq_true rfl) ?_
  show Run l G M_X12_dare 5 0 [some (vr (some 44)), some (vi a1), some (vi a2), some (vi a3), some (vi a4), some (vi a5), none, none, none] [] S mm (some (vi q.1)) S q.2
  unfold m_X12_dare at e
  refine r_aload_n dX12_dare_0 rfl ?_
  refine r_iconst (v := 0) dX12_dare_1 ci_0 ?_
  refine r_putI dX12_dare_2 fl_X12_90 ft_12_0 (Or.inl rfl) rfl rfl rfl (lp_44 hS) (lq_44 hS) ?_
  refine r_iload dX12_dare_5 rfl ?_
  refine r_iconst (v := 0) dX12_dare_7 ci_0 ?_
  refine r_iconst (v := 3) dX12_dare_8 ci_3 ?_
  refine r_callS (as := [_, _, _]) (rest := []) dX12_dare_9 ml_X12_102 yS_X12_in (c_X12_in hS) (by decide) rfl (Nat.le_of_ble_eq_true rfl) ?_
  refine r_if_eq (tgt := 32) dX12_dare_12 rfl (fun h1 => ?_) (fun h1 => ?_)
  · replace e := ite_t h1 e
    refine r_bipush (v := -9) dX12_dare_32 cb_m9 ?_
    cases e
    exact r_ireturn dX12_dare_34 rfl rfl
  · replace e := ite_f h1 e
    refine r_aload_n dX12_dare_15 rfl ?_
    refine r_iload_n dX12_dare_16 rfl ?_
    obtain ⟨q2, eq3, e⟩ := obind e
    refine r_callV (as := [_]) (rest := []) dX12_dare_17 ml_X12_310 yV_X12_hand (c_X12_hand hS eq3) (by decide) rfl (lp_44 hS) (lq_44 hS) (Nat.le_of_ble_eq_true rfl) ?_
    refine r_if_eq (tgt := 32) dX12_dare_20 rfl (fun h4 => ?_) (fun h4 => ?_)
    · replace e := ite_t h4 e
      refine r_bipush (v := -9) dX12_dare_32 cb_m9 ?_
      cases e
      exact r_ireturn dX12_dare_34 rfl rfl
    · replace e := ite_f h4 e
      refine r_aload_n dX12_dare_23 rfl ?_
      refine r_iload_n dX12_dare_24 rfl ?_
      refine r_iload_n dX12_dare_25 rfl ?_
      obtain ⟨q5, eq6, e⟩ := obind e
      refine r_callV (as := [_, _]) (rest := []) dX12_dare_26 ml_X12_343 yV_X12_areTwo (c_X12_areTwo hS eq6) (by decide) rfl (lp_44 hS) (lq_44 hS) (Nat.le_of_ble_eq_true rfl) ?_
      refine r_if_ne (tgt := 35) dX12_dare_29 rfl (fun h7 => ?_) (fun h7 => ?_)
      · replace e := ite_f h7 e
        refine r_bipush (v := 9) dX12_dare_35 cb_9 ?_
        refine r_iload dX12_dare_37 rfl ?_
        obtain ⟨q8, eq9, e⟩ := obind e
        refine r_callS (as := [_, _]) (rest := []) dX12_dare_39 ml_X12_422 yS_X12_power (c_X12_power hS eq9) (by decide) rfl (Nat.le_of_ble_eq_true rfl) ?_
        refine r_istore dX12_dare_42 (by decide) rfl ?_
        refine r_iconst (v := 0) dX12_dare_44 ci_0 ?_
        refine r_istore dX12_dare_45 (by decide) rfl ?_
        obtain ⟨p11, eb15w, e⟩ := obind e
        have J12a : Run l G M_X12_dare 5 77 [some (vr (some 44)), none, none, none, some (vi a4), some (vi a5), some (vi q8), none, none] [] S p11 (some (vi q.1)) S q.2 := by
          refine r_aload_n dX12_dare_77 rfl ?_
          refine r_iconst (v := -1) dX12_dare_78 ci_m1 ?_
          refine r_putI dX12_dare_79 fl_X12_431 ft_12_45 (Or.inl rfl) rfl rfl rfl (lp_44 hS) (lq_44 hS) ?_
          refine r_iload dX12_dare_82 rfl ?_
          refine r_iconst (v := 1) dX12_dare_84 ci_1 ?_
          refine r_isub dX12_dare_85 ?_
          refine r_istore dX12_dare_86 (by decide) rfl ?_
          obtain ⟨p21, eb25w, e⟩ := obind e
          have J22a : Run l G M_X12_dare 5 150 [some (vr (some 44)), none, none, none, none, some (vi a5), none, none, none] [] S p21 (some (vi q.1)) S q.2 := by
            refine r_iload dX12_dare_150 rfl ?_
            refine r_if_eq (tgt := 162) dX12_dare_152 rfl (fun h41 => ?_) (fun h41 => ?_)
            · replace e := ite_t h41 e
              refine r_aload_n dX12_dare_162 rfl ?_
              refine r_getR dX12_dare_163 fl_X12_77 rfl (lp_44 hS) (lq_44 hS) (lr_44_44 hS) ?_
              refine r_iconst (v := 0) dX12_dare_166 ci_0 ?_
              refine r_iald dX12_dare_167 (lp_67 hS) (lk_67 hS) (vp_in_iff.mpr ⟨by decide, by decide⟩) ?_
              cases e
              exact r_ireturn dX12_dare_168 rfl rfl
            · replace e := ite_f h41 e
              refine r_aload_n dX12_dare_155 rfl ?_
              refine r_getI dX12_dare_156 fl_X12_431 rfl (lp_44 hS) (lq_44 hS) ?_
              refine r_goto (tgt := 168) dX12_dare_159 rfl ?_
              cases e
              exact r_ireturn dX12_dare_168 rfl rfl
          have J22 : ∀ pp : Mm, pp = p21 → Run l G M_X12_dare 5 150 [some (vr (some 44)), none, none, none, none, some (vi a5), none, none, none] [] S pp (some (vi q.1)) S q.2 := by
            intro pp hpp
            rw [hpp]
            exact J22a
          have J22w : Run l G M_X12_dare 5 88 [some (vr (some 44)), none, none, none, none, some (vi a5), some (vi q8), some (vi (a4 - (1 : Int32))), none] [] S (sI p11 44 45 (-1 : Int32)) (some (vi q.1)) S q.2 := by
            refine while_run (s := (q8, a4 - (1 : Int32), (sI p11 44 45 (-1 : Int32)))) (Gs := fun (z20 : Int32 × Int32 × Mm) => Run l G M_X12_dare 5 88 [some (vr (some 44)), none, none, none, none, some (vi a5), some (vi z20.1), some (vi z20.2.1), none] [] S z20.2.2 (some (vi q.1)) S q.2) eb25w ?_
            intro z20 x23y eb25 hx24
            unfold m_X12_dare_b88 at eb25
            refine r_iload dX12_dare_88 rfl ?_
            refine r_if_lt (tgt := 150) dX12_dare_90 rfl (fun h26 => ?_) (fun h26 => ?_)
            · replace eb25 := ite_t h26 eb25
              cases eb25
              exact r_weak (L' := [some (vr (some 44)), none, none, none, none, some (vi a5), none, none, none]) ⟨rfl, rfl, trivial⟩ (J22 _ hx24)
            · replace eb25 := ite_f h26 eb25
              refine r_iload dX12_dare_93 rfl ?_
              refine r_bipush (v := 9) dX12_dare_95 cb_9 ?_
              refine r_idiv dX12_dare_97 (by decide) ?_
              refine r_istore dX12_dare_98 (by decide) rfl ?_
              refine r_iconst (v := 0) dX12_dare_100 ci_0 ?_
              refine r_istore dX12_dare_101 (by decide) rfl ?_
              obtain ⟨p28, eb32w, eb25⟩ := obind eb25
              have J29a : Run l G M_X12_dare 5 144 [some (vr (some 44)), none, none, none, none, some (vi a5), some (vi (z20.1 / (9 : Int32))), some (vi z20.2.1), none] [] S p28 (some (vi q.1)) S q.2 := by
                refine r_iinc (v := _ + (-1 : Int32)) dX12_dare_144 rfl (congrArg (_ + ·) ci_m1) (by decide) rfl ?_
                refine r_goto (tgt := 88) dX12_dare_147 rfl ?_
                cases eb25
                exact r_weak (L' := [some (vr (some 44)), none, none, none, none, some (vi a5), some (vi (z20.1 / (9 : Int32))), some (vi (z20.2.1 + (-1 : Int32))), none]) ⟨rfl, rfl, rfl, rfl, trivial⟩ hx24
              have J29 : ∀ pp : Mm, pp = p28 → Run l G M_X12_dare 5 144 [some (vr (some 44)), none, none, none, none, some (vi a5), some (vi (z20.1 / (9 : Int32))), some (vi z20.2.1), none] [] S pp (some (vi q.1)) S q.2 := by
                intro pp hpp
                rw [hpp]
                exact J29a
              have J29w : Run l G M_X12_dare 5 103 [some (vr (some 44)), none, none, none, none, some (vi a5), some (vi (z20.1 / (9 : Int32))), some (vi z20.2.1), some (vi (0 : Int32))] [] S z20.2.2 (some (vi q.1)) S q.2 := by
                refine while_run (s := ((0 : Int32), z20.2.2)) (Gs := fun (z27 : Int32 × Mm) => Run l G M_X12_dare 5 103 [some (vr (some 44)), none, none, none, none, some (vi a5), some (vi (z20.1 / (9 : Int32))), some (vi z20.2.1), some (vi z27.1)] [] S z27.2 (some (vi q.1)) S q.2) eb32w ?_
                intro z27 x30y eb32 hx31
                unfold m_X12_dare_b103 at eb32
                refine r_iload dX12_dare_103 rfl ?_
                refine r_iload dX12_dare_105 rfl ?_
                refine r_icmp_ge (tgt := 144) dX12_dare_107 rfl (fun h33 => ?_) (fun h33 => ?_)
                · replace eb32 := ite_t h33 eb32
                  cases eb32
                  exact r_weak (L' := [some (vr (some 44)), none, none, none, none, some (vi a5), some (vi (z20.1 / (9 : Int32))), some (vi z20.2.1), none]) ⟨rfl, rfl, rfl, rfl, trivial⟩ (J29 _ hx31)
                · replace eb32 := ite_f h33 eb32
                  refine r_aload_n dX12_dare_110 rfl ?_
                  refine r_getR dX12_dare_111 fl_X12_77 rfl (lp_44 hS) (lq_44 hS) (lr_44_44 hS) ?_
                  refine r_iload dX12_dare_114 rfl ?_
                  refine r_aload_n dX12_dare_116 rfl ?_
                  refine r_bipush (v := 9) dX12_dare_117 cb_9 ?_
                  refine r_iload dX12_dare_119 rfl ?_
                  refine r_imul dX12_dare_121 ?_
                  refine r_iload dX12_dare_122 rfl ?_
                  refine r_iconst (v := 2) dX12_dare_124 ci_2 ?_
                  refine r_irem dX12_dare_125 (by decide) ?_
                  have J36 : ∀ (w35 : Int32), w35 = (if (xrem z20.2.1 (2 : Int32)) = 0 then (1 : Int32) else (0 : Int32)) → Run l G M_X12_dare 5 134 [some (vr (some 44)), none, none, none, none, some (vi a5), some (vi (z20.1 / (9 : Int32))), some (vi z20.2.1), some (vi z27.1)] [vi w35, vi ((9 : Int32) * z27.1), vr (some 44), vi z27.1, vr (some 67)] S z27.2 (some (vi q.1)) S q.2 := by
                    intro w35 hw40
                    subst hw40
                    obtain ⟨q37, eq38, eb32⟩ := obind eb32
                    refine r_callV (as := [_, _]) (rest := [_, _]) dX12_dare_134 ml_X12_438 yV_X12_fold (c_X12_fold hS eq38) (by decide) rfl (lp_44 hS) (lq_44 hS) (Nat.le_of_ble_eq_true rfl) ?_
                    obtain ⟨hg39, eb32⟩ := grd_some eb32
                    refine r_iast dX12_dare_137 (lp_67 hS) (lk_67 hS) hg39 ?_
                    refine r_iinc (v := _ + (1 : Int32)) dX12_dare_138 rfl (congrArg (_ + ·) ci_1) (by decide) rfl ?_
                    refine r_goto (tgt := 103) dX12_dare_141 rfl ?_
                    cases eb32
                    exact r_weak (L' := [some (vr (some 44)), none, none, none, none, some (vi a5), some (vi (z20.1 / (9 : Int32))), some (vi z20.2.1), some (vi (z27.1 + (1 : Int32)))]) ⟨rfl, rfl, rfl, rfl, rfl, trivial⟩ hx31
                  refine r_if_ne (tgt := 133) dX12_dare_126 rfl (fun h34 => ?_) (fun h34 => ?_)
                  · refine r_iconst (v := 0) dX12_dare_133 ci_0 ?_
                    exact r_weak (L' := [some (vr (some 44)), none, none, none, none, some (vi a5), some (vi (z20.1 / (9 : Int32))), some (vi z20.2.1), some (vi z27.1)]) ⟨rfl, rfl, rfl, rfl, rfl, trivial⟩ (J36 _ (Eq.symm (if_neg h34)))
                  · refine r_iconst (v := 1) dX12_dare_129 ci_1 ?_
                    refine r_goto (tgt := 134) dX12_dare_130 rfl ?_
                    exact r_weak (L' := [some (vr (some 44)), none, none, none, none, some (vi a5), some (vi (z20.1 / (9 : Int32))), some (vi z20.2.1), some (vi z27.1)]) ⟨rfl, rfl, rfl, rfl, rfl, trivial⟩ (J36 _ (Eq.symm (if_pos h34)))
              exact r_weak (L' := [some (vr (some 44)), none, none, none, none, some (vi a5), some (vi (z20.1 / (9 : Int32))), some (vi z20.2.1), some (vi (0 : Int32))]) ⟨rfl, rfl, rfl, rfl, rfl, trivial⟩ J29w
          exact r_weak (L' := [some (vr (some 44)), none, none, none, none, some (vi a5), some (vi q8), some (vi (a4 - (1 : Int32))), none]) ⟨rfl, rfl, rfl, rfl, trivial⟩ J22w
        have J12 : ∀ pp : Mm, pp = p11 → Run l G M_X12_dare 5 77 [some (vr (some 44)), none, none, none, some (vi a4), some (vi a5), some (vi q8), none, none] [] S pp (some (vi q.1)) S q.2 := by
          intro pp hpp
          rw [hpp]
          exact J12a
        have J12w : Run l G M_X12_dare 5 47 [some (vr (some 44)), none, some (vi a2), some (vi a3), some (vi a4), some (vi a5), some (vi q8), some (vi (0 : Int32)), none] [] S q2.2 (some (vi q.1)) S q.2 := by
          refine while_run (s := ((0 : Int32), q2.2)) (Gs := fun (z10 : Int32 × Mm) => Run l G M_X12_dare 5 47 [some (vr (some 44)), none, some (vi a2), some (vi a3), some (vi a4), some (vi a5), some (vi q8), some (vi z10.1), none] [] S z10.2 (some (vi q.1)) S q.2) eb15w ?_
          intro z10 x13y eb15 hx14
          unfold m_X12_dare_b47 at eb15
          refine r_iload dX12_dare_47 rfl ?_
          refine r_iload dX12_dare_49 rfl ?_
          refine r_icmp_ge (tgt := 77) dX12_dare_51 rfl (fun h16 => ?_) (fun h16 => ?_)
          · replace eb15 := ite_t h16 eb15
            cases eb15
            exact r_weak (L' := [some (vr (some 44)), none, none, none, some (vi a4), some (vi a5), some (vi q8), none, none]) ⟨rfl, rfl, rfl, rfl, trivial⟩ (J12 _ hx14)
          · replace eb15 := ite_f h16 eb15
            refine r_aload_n dX12_dare_54 rfl ?_
            refine r_getR dX12_dare_55 fl_X12_77 rfl (lp_44 hS) (lq_44 hS) (lr_44_44 hS) ?_
            refine r_iload dX12_dare_58 rfl ?_
            refine r_aload_n dX12_dare_60 rfl ?_
            refine r_iload_n dX12_dare_61 rfl ?_
            refine r_iload_n dX12_dare_62 rfl ?_
            refine r_iload dX12_dare_63 rfl ?_
            refine r_iload dX12_dare_65 rfl ?_
            obtain ⟨q17, eq18, eb15⟩ := obind eb15
            refine r_callV (as := [_, _, _, _]) (rest := [_, _]) dX12_dare_67 ml_X12_434 yV_X12_endOf (c_X12_endOf hS eq18) (by decide) rfl (lp_44 hS) (lq_44 hS) (Nat.le_of_ble_eq_true rfl) ?_
            obtain ⟨hg19, eb15⟩ := grd_some eb15
            refine r_iast dX12_dare_70 (lp_67 hS) (lk_67 hS) hg19 ?_
            refine r_iinc (v := _ + (1 : Int32)) dX12_dare_71 rfl (congrArg (_ + ·) ci_1) (by decide) rfl ?_
            refine r_goto (tgt := 47) dX12_dare_74 rfl ?_
            cases eb15
            exact r_weak (L' := [some (vr (some 44)), none, some (vi a2), some (vi a3), some (vi a4), some (vi a5), some (vi q8), some (vi (z10.1 + (1 : Int32))), none]) ⟨rfl, rfl, rfl, rfl, rfl, rfl, rfl, trivial⟩ hx14
        exact r_weak (L' := [some (vr (some 44)), none, some (vi a2), some (vi a3), some (vi a4), some (vi a5), some (vi q8), some (vi (0 : Int32)), none]) ⟨rfl, rfl, rfl, rfl, rfl, rfl, rfl, trivial⟩ J12w
      · replace e := ite_t h7 e
        refine r_bipush (v := -9) dX12_dare_32 cb_m9 ?_
        cases e
        exact r_ireturn dX12_dare_34 rfl rfl
def m_X12_common_b4 (z1 : Int32 × Int32) : Option ((Int32 × Int32) ⊕ (Int32)) := if z1.2 = 0 then (some (.inr z1.1)) else (gdz z1.2 (some (.inl (z1.2, xrem z1.1 z1.2))))
def m_X12_common (a0 : Int32) (a1 : Int32) : Option (Int32) := (whileF FU (m_X12_common_b4) (a0, a1)).bind (fun p2 => some p2)
set_option maxHeartbeats 4000000 in
set_option maxRecDepth 100000 in
theorem c_X12_common {l : Launch} {G : Gt} {S : Sk} (hS : Lay S) {a0 : Int32} {a1 : Int32} {mm : Mm} {q : Int32} (e : m_X12_common a0 a1 = some q) : CallOK l G M_X12_common yX12_common 0 [vi a0, vi a1] S mm (some (vi q)) S mm := by
  refine call_of_run rfl rfl rfl (Nat.le_of_ble_eq_true rfl) ?_
  show Run l G M_X12_common 0 0 [some (vi a0), some (vi a1), none, none, none] [] S mm (some (vi q)) S mm
  unfold m_X12_common at e
  refine r_iload_n dX12_common_0 rfl ?_
  refine r_istore_n dX12_common_1 (by decide) rfl ?_
  refine r_iload_n dX12_common_2 rfl ?_
  refine r_istore_n dX12_common_3 (by decide) rfl ?_
  obtain ⟨p2, eb6w, e⟩ := obind e
  have J3a : Run l G M_X12_common 0 21 [none, none, some (vi p2), none, none] [] S mm (some (vi q)) S mm := by
    refine r_iload_n dX12_common_21 rfl ?_
    cases e
    exact r_ireturn dX12_common_22 rfl rfl
  have J3 : ∀ pp : Int32, pp = p2 → Run l G M_X12_common 0 21 [none, none, some (vi pp), none, none] [] S mm (some (vi q)) S mm := by
    intro pp hpp
    rw [hpp]
    exact J3a
  have J3w : Run l G M_X12_common 0 4 [none, none, some (vi a0), some (vi a1), none] [] S mm (some (vi q)) S mm := by
    refine while_run (s := (a0, a1)) (Gs := fun (z1 : Int32 × Int32) => Run l G M_X12_common 0 4 [none, none, some (vi z1.1), some (vi z1.2), none] [] S mm (some (vi q)) S mm) eb6w ?_
    intro z1 x4y eb6 hx5
    unfold m_X12_common_b4 at eb6
    refine r_iload_n dX12_common_4 rfl ?_
    refine r_if_eq (tgt := 21) dX12_common_5 rfl (fun h7 => ?_) (fun h7 => ?_)
    · replace eb6 := ite_t h7 eb6
      cases eb6
      exact r_weak (L' := [none, none, some (vi z1.1), none, none]) ⟨rfl, trivial⟩ (J3 _ hx5)
    · replace eb6 := ite_f h7 eb6
      refine r_iload_n dX12_common_8 rfl ?_
      refine r_iload_n dX12_common_9 rfl ?_
      obtain ⟨hz8, eb6⟩ := gdz_some eb6
      refine r_irem dX12_common_10 hz8 ?_
      refine r_istore dX12_common_11 (by decide) rfl ?_
      refine r_iload_n dX12_common_13 rfl ?_
      refine r_istore_n dX12_common_14 (by decide) rfl ?_
      refine r_iload dX12_common_15 rfl ?_
      refine r_istore_n dX12_common_17 (by decide) rfl ?_
      refine r_goto (tgt := 4) dX12_common_18 rfl ?_
      cases eb6
      exact r_weak (L' := [none, none, some (vi z1.2), some (vi (xrem z1.1 z1.2)), none]) ⟨rfl, rfl, trivial⟩ hx5
  exact r_weak (L' := [none, none, some (vi a0), some (vi a1), none]) ⟨rfl, rfl, trivial⟩ J3w
def m_X12_part (a0 : Int32) (a1 : Int32) (a2 : Int32) : Option (Int32) := (m_X12_common a1 a0).bind (fun q4 => gdz q4 (some ((if a2 = 0 then a0 else a1) / q4)))
set_option maxHeartbeats 4000000 in
set_option maxRecDepth 100000 in
theorem c_X12_part {l : Launch} {G : Gt} {S : Sk} (hS : Lay S) {a0 : Int32} {a1 : Int32} {a2 : Int32} {mm : Mm} {q : Int32} (e : m_X12_part a0 a1 a2 = some q) : CallOK l G M_X12_part yX12_part 1 [vi a0, vi a1, vi a2] S mm (some (vi q)) S mm := by
  refine call_of_run rfl rfl rfl (Nat.le_of_ble_eq_true rfl) ?_
  show Run l G M_X12_part 1 0 [some (vi a0), some (vi a1), some (vi a2)] [] S mm (some (vi q)) S mm
  unfold m_X12_part at e
  refine r_iload_n dX12_part_0 rfl ?_
  have J3 : ∀ (w2 : Int32), w2 = (if a2 = 0 then a0 else a1) → Run l G M_X12_part 1 9 [some (vi a0), some (vi a1), none] [vi w2] S mm (some (vi q)) S mm := by
    intro w2 hw7
    subst hw7
    refine r_iload_n dX12_part_9 rfl ?_
    refine r_iload_n dX12_part_10 rfl ?_
    obtain ⟨q4, eq5, e⟩ := obind e
    refine r_callS (as := [_, _]) (rest := [_]) dX12_part_11 ml_X12_442 yS_X12_common (c_X12_common hS eq5) (by decide) rfl (Nat.le_of_ble_eq_true rfl) ?_
    obtain ⟨hz6, e⟩ := gdz_some e
    refine r_idiv dX12_part_14 hz6 ?_
    cases e
    exact r_ireturn dX12_part_15 rfl rfl
  refine r_if_eq (tgt := 8) dX12_part_1 rfl (fun h1 => ?_) (fun h1 => ?_)
  · refine r_iload_n dX12_part_8 rfl ?_
    exact r_weak (L' := [some (vi a0), some (vi a1), none]) ⟨rfl, rfl, trivial⟩ (J3 _ (Eq.symm (if_pos h1)))
  · refine r_iload_n dX12_part_4 rfl ?_
    refine r_goto (tgt := 9) dX12_part_5 rfl ?_
    exact r_weak (L' := [some (vi a0), some (vi a1), none]) ⟨rfl, rfl, trivial⟩ (J3 _ (Eq.symm (if_neg h1)))
def m_X12_chance_b84 (a5 : Int32) (a6 : Int32) (q10 : Int32) (q12 : Int32) (z14 : Int32 × Int32 × Int32) : Option ((Int32 × Int32 × Int32) ⊕ (Int32)) := if a6 < z14.2.2 then (some (.inr z14.1)) else ((if z14.2.2 < (q10 - q12) then (some (0 : Int32)) else ((m_X12_power a5 z14.2.2).bind (fun q26 => (m_X12_power ((10 : Int32) - a5) (a6 - z14.2.2)).bind (fun q28 => some ((z14.2.1 * q26) * q28)))) : Option (Int32)).bind (fun p21 => gdz (z14.2.2 + (1 : Int32)) (some (.inl (z14.1 + p21, (z14.2.1 * (a6 - z14.2.2)) / (z14.2.2 + (1 : Int32)), z14.2.2 + (1 : Int32))))))
def m_X12_chance (a1 : Int32) (a2 : Int32) (a3 : Int32) (a4 : Int32) (a5 : Int32) (a6 : Int32) (a7 : Int32) (mm : Mm) : Option (Int32 × Mm) := if (m_X12_in a4 (0 : Int32) (7 : Int32)) = 0 then (some ((-1 : Int32), (sI mm 44 0 (0 : Int32)))) else (if (m_X12_in a5 (0 : Int32) (10 : Int32)) = 0 then (some ((-1 : Int32), (sI mm 44 0 (0 : Int32)))) else (if (m_X12_in a6 (0 : Int32) (6 : Int32)) = 0 then (some ((-1 : Int32), (sI mm 44 0 (0 : Int32)))) else ((m_X12_hand a1 (sI mm 44 0 (0 : Int32))).bind (fun q4 => if q4.1 = 0 then (some ((-1 : Int32), q4.2)) else ((m_X12_areTwo a2 a3 q4.2).bind (fun q7 => if q7 = 0 then (some ((-1 : Int32), q4.2)) else ((m_X12_of ((20 : Int32) + a4) q4.2).bind (fun q10 => (m_X12_heartOf a2 a3 q4.2).bind (fun q12 => (whileF FU (m_X12_chance_b84 a5 a6 q10 q12) ((0 : Int32), (1 : Int32), (0 : Int32))).bind (fun p15 => (m_X12_power (10 : Int32) a6).bind (fun q31 => (m_X12_part p15 q31 a7).bind (fun q33 => some (q33, q4.2)))))))))))))
set_option maxHeartbeats 4000000 in
set_option maxRecDepth 100000 in
theorem c_X12_chance {l : Launch} {G : Gt} {S : Sk} (hS : Lay S) {a1 : Int32} {a2 : Int32} {a3 : Int32} {a4 : Int32} {a5 : Int32} {a6 : Int32} {a7 : Int32} {mm : Mm} {q : Int32 × Mm} (e : m_X12_chance a1 a2 a3 a4 a5 a6 a7 mm = some q) : CallOK l G M_X12_chance yX12_chance 3 [vr (some 44), vi a1, vi a2, vi a3, vi a4, vi a5, vi a6, vi a7] S mm (some (vi q.1)) S q.2 := by
  refine call_of_run rfl rfl rfl (Nat.le_of_ble_eq_true rfl) ?_
  show Run l G M_X12_chance 3 0 [some (vr (some 44)), some (vi a1), some (vi a2), some (vi a3), some (vi a4), some (vi a5), some (vi a6), some (vi a7), none, none, none, none] [] S mm (some (vi q.1)) S q.2
  unfold m_X12_chance at e
  refine r_aload_n dX12_chance_0 rfl ?_
  refine r_iconst (v := 0) dX12_chance_1 ci_0 ?_
  refine r_putI dX12_chance_2 fl_X12_90 ft_12_0 (Or.inl rfl) rfl rfl rfl (lp_44 hS) (lq_44 hS) ?_
  refine r_iload dX12_chance_5 rfl ?_
  refine r_iconst (v := 0) dX12_chance_7 ci_0 ?_
  refine r_bipush (v := 7) dX12_chance_8 cb_7 ?_
  refine r_callS (as := [_, _, _]) (rest := []) dX12_chance_10 ml_X12_102 yS_X12_in (c_X12_in hS) (by decide) rfl (Nat.le_of_ble_eq_true rfl) ?_
  refine r_if_eq (tgt := 55) dX12_chance_13 rfl (fun h1 => ?_) (fun h1 => ?_)
  · replace e := ite_t h1 e
    refine r_iconst (v := -1) dX12_chance_55 ci_m1 ?_
    cases e
    exact r_ireturn dX12_chance_56 rfl rfl
  · replace e := ite_f h1 e
    refine r_iload dX12_chance_16 rfl ?_
    refine r_iconst (v := 0) dX12_chance_18 ci_0 ?_
    refine r_bipush (v := 10) dX12_chance_19 cb_10 ?_
    refine r_callS (as := [_, _, _]) (rest := []) dX12_chance_21 ml_X12_102 yS_X12_in (c_X12_in hS) (by decide) rfl (Nat.le_of_ble_eq_true rfl) ?_
    refine r_if_eq (tgt := 55) dX12_chance_24 rfl (fun h2 => ?_) (fun h2 => ?_)
    · replace e := ite_t h2 e
      refine r_iconst (v := -1) dX12_chance_55 ci_m1 ?_
      cases e
      exact r_ireturn dX12_chance_56 rfl rfl
    · replace e := ite_f h2 e
      refine r_iload dX12_chance_27 rfl ?_
      refine r_iconst (v := 0) dX12_chance_29 ci_0 ?_
      refine r_bipush (v := 6) dX12_chance_30 cb_6 ?_
      refine r_callS (as := [_, _, _]) (rest := []) dX12_chance_32 ml_X12_102 yS_X12_in (c_X12_in hS) (by decide) rfl (Nat.le_of_ble_eq_true rfl) ?_
      refine r_if_eq (tgt := 55) dX12_chance_35 rfl (fun h3 => ?_) (fun h3 => ?_)
      · replace e := ite_t h3 e
        refine r_iconst (v := -1) dX12_chance_55 ci_m1 ?_
        cases e
        exact r_ireturn dX12_chance_56 rfl rfl
      · replace e := ite_f h3 e
        refine r_aload_n dX12_chance_38 rfl ?_
        refine r_iload_n dX12_chance_39 rfl ?_
        obtain ⟨q4, eq5, e⟩ := obind e
        refine r_callV (as := [_]) (rest := []) dX12_chance_40 ml_X12_310 yV_X12_hand (c_X12_hand hS eq5) (by decide) rfl (lp_44 hS) (lq_44 hS) (Nat.le_of_ble_eq_true rfl) ?_
        refine r_if_eq (tgt := 55) dX12_chance_43 rfl (fun h6 => ?_) (fun h6 => ?_)
        · replace e := ite_t h6 e
          refine r_iconst (v := -1) dX12_chance_55 ci_m1 ?_
          cases e
          exact r_ireturn dX12_chance_56 rfl rfl
        · replace e := ite_f h6 e
          refine r_aload_n dX12_chance_46 rfl ?_
          refine r_iload_n dX12_chance_47 rfl ?_
          refine r_iload_n dX12_chance_48 rfl ?_
          obtain ⟨q7, eq8, e⟩ := obind e
          refine r_callV (as := [_, _]) (rest := []) dX12_chance_49 ml_X12_343 yV_X12_areTwo (c_X12_areTwo hS eq8) (by decide) rfl (lp_44 hS) (lq_44 hS) (Nat.le_of_ble_eq_true rfl) ?_
          refine r_if_ne (tgt := 57) dX12_chance_52 rfl (fun h9 => ?_) (fun h9 => ?_)
          · replace e := ite_f h9 e
            refine r_aload_n dX12_chance_57 rfl ?_
            refine r_bipush (v := 20) dX12_chance_58 cb_20 ?_
            refine r_iload dX12_chance_60 rfl ?_
            refine r_iadd dX12_chance_62 ?_
            obtain ⟨q10, eq11, e⟩ := obind e
            refine r_callV (as := [_]) (rest := []) dX12_chance_63 ml_X12_276 yV_X12_of (c_X12_of hS eq11) (by decide) rfl (lp_44 hS) (lq_44 hS) (Nat.le_of_ble_eq_true rfl) ?_
            refine r_aload_n dX12_chance_66 rfl ?_
            refine r_iload_n dX12_chance_67 rfl ?_
            refine r_iload_n dX12_chance_68 rfl ?_
            obtain ⟨q12, eq13, e⟩ := obind e
            refine r_callV (as := [_, _]) (rest := [_]) dX12_chance_69 ml_X12_292 yV_X12_heartOf (c_X12_heartOf hS eq13) (by decide) rfl (lp_44 hS) (lq_44 hS) (Nat.le_of_ble_eq_true rfl) ?_
            refine r_isub dX12_chance_72 ?_
            refine r_istore dX12_chance_73 (by decide) rfl ?_
            refine r_iconst (v := 0) dX12_chance_75 ci_0 ?_
            refine r_istore dX12_chance_76 (by decide) rfl ?_
            refine r_iconst (v := 1) dX12_chance_78 ci_1 ?_
            refine r_istore dX12_chance_79 (by decide) rfl ?_
            refine r_iconst (v := 0) dX12_chance_81 ci_0 ?_
            refine r_istore dX12_chance_82 (by decide) rfl ?_
            obtain ⟨p15, eb19w, e⟩ := obind e
            have J16a : Run l G M_X12_chance 3 152 [none, none, none, none, none, none, some (vi a6), some (vi a7), none, some (vi p15), none, none] [] S q4.2 (some (vi q.1)) S q.2 := by
              refine r_iload dX12_chance_152 rfl ?_
              refine r_bipush (v := 10) dX12_chance_154 cb_10 ?_
              refine r_iload dX12_chance_156 rfl ?_
              obtain ⟨q31, eq32, e⟩ := obind e
              refine r_callS (as := [_, _]) (rest := [_]) dX12_chance_158 ml_X12_422 yS_X12_power (c_X12_power hS eq32) (by decide) rfl (Nat.le_of_ble_eq_true rfl) ?_
              refine r_iload dX12_chance_161 rfl ?_
              obtain ⟨q33, eq34, e⟩ := obind e
              refine r_callS (as := [_, _, _]) (rest := []) dX12_chance_163 ml_X12_445 yS_X12_part (c_X12_part hS eq34) (by decide) rfl (Nat.le_of_ble_eq_true rfl) ?_
              cases e
              exact r_ireturn dX12_chance_166 rfl rfl
            have J16 : ∀ pp : Int32, pp = p15 → Run l G M_X12_chance 3 152 [none, none, none, none, none, none, some (vi a6), some (vi a7), none, some (vi pp), none, none] [] S q4.2 (some (vi q.1)) S q.2 := by
              intro pp hpp
              rw [hpp]
              exact J16a
            have J16w : Run l G M_X12_chance 3 84 [none, none, none, none, none, some (vi a5), some (vi a6), some (vi a7), some (vi (q10 - q12)), some (vi (0 : Int32)), some (vi (1 : Int32)), some (vi (0 : Int32))] [] S q4.2 (some (vi q.1)) S q.2 := by
              refine while_run (s := ((0 : Int32), (1 : Int32), (0 : Int32))) (Gs := fun (z14 : Int32 × Int32 × Int32) => Run l G M_X12_chance 3 84 [none, none, none, none, none, some (vi a5), some (vi a6), some (vi a7), some (vi (q10 - q12)), some (vi z14.1), some (vi z14.2.1), some (vi z14.2.2)] [] S q4.2 (some (vi q.1)) S q.2) eb19w ?_
              intro z14 x17y eb19 hx18
              unfold m_X12_chance_b84 at eb19
              refine r_iload dX12_chance_84 rfl ?_
              refine r_iload dX12_chance_86 rfl ?_
              refine r_icmp_gt (tgt := 152) dX12_chance_88 rfl (fun h20 => ?_) (fun h20 => ?_)
              · replace eb19 := ite_t h20 eb19
                cases eb19
                exact r_weak (L' := [none, none, none, none, none, none, some (vi a6), some (vi a7), none, some (vi z14.1), none, none]) ⟨rfl, rfl, rfl, trivial⟩ (J16 _ hx18)
              · replace eb19 := ite_f h20 eb19
                refine r_iload dX12_chance_91 rfl ?_
                refine r_iload dX12_chance_93 rfl ?_
                refine r_iload dX12_chance_95 rfl ?_
                obtain ⟨p21, ep23, eb19⟩ := obind eb19
                have J22a : Run l G M_X12_chance 3 128 [none, none, none, none, none, some (vi a5), some (vi a6), some (vi a7), some (vi (q10 - q12)), none, some (vi z14.2.1), some (vi z14.2.2)] [vi p21, vi z14.1] S q4.2 (some (vi q.1)) S q.2 := by
                  refine r_iadd dX12_chance_128 ?_
                  refine r_istore dX12_chance_129 (by decide) rfl ?_
                  refine r_iload dX12_chance_131 rfl ?_
                  refine r_iload dX12_chance_133 rfl ?_
                  refine r_iload dX12_chance_135 rfl ?_
                  refine r_isub dX12_chance_137 ?_
                  refine r_imul dX12_chance_138 ?_
                  refine r_iload dX12_chance_139 rfl ?_
                  refine r_iconst (v := 1) dX12_chance_141 ci_1 ?_
                  refine r_iadd dX12_chance_142 ?_
                  obtain ⟨hz30, eb19⟩ := gdz_some eb19
                  refine r_idiv dX12_chance_143 hz30 ?_
                  refine r_istore dX12_chance_144 (by decide) rfl ?_
                  refine r_iinc (v := _ + (1 : Int32)) dX12_chance_146 rfl (congrArg (_ + ·) ci_1) (by decide) rfl ?_
                  refine r_goto (tgt := 84) dX12_chance_149 rfl ?_
                  cases eb19
                  exact r_weak (L' := [none, none, none, none, none, some (vi a5), some (vi a6), some (vi a7), some (vi (q10 - q12)), some (vi (z14.1 + p21)), some (vi ((z14.2.1 * (a6 - z14.2.2)) / (z14.2.2 + (1 : Int32)))), some (vi (z14.2.2 + (1 : Int32)))]) ⟨rfl, rfl, rfl, rfl, rfl, rfl, rfl, trivial⟩ hx18
                have J22 : ∀ pp : Int32, pp = p21 → Run l G M_X12_chance 3 128 [none, none, none, none, none, some (vi a5), some (vi a6), some (vi a7), some (vi (q10 - q12)), none, some (vi z14.2.1), some (vi z14.2.2)] [vi pp, vi z14.1] S q4.2 (some (vi q.1)) S q.2 := by
                  intro pp hpp
                  rw [hpp]
                  exact J22a
                refine r_icmp_lt (tgt := 127) dX12_chance_97 rfl (fun h25 => ?_) (fun h25 => ?_)
                · replace ep23 := ite_t h25 ep23
                  refine r_iconst (v := 0) dX12_chance_127 ci_0 ?_
                  exact r_weak (L' := [none, none, none, none, none, some (vi a5), some (vi a6), some (vi a7), some (vi (q10 - q12)), none, some (vi z14.2.1), some (vi z14.2.2)]) ⟨rfl, rfl, rfl, rfl, rfl, rfl, trivial⟩ (J22 _ (Option.some.inj ep23))
                · replace ep23 := ite_f h25 ep23
                  refine r_iload dX12_chance_100 rfl ?_
                  refine r_iload dX12_chance_102 rfl ?_
                  refine r_iload dX12_chance_104 rfl ?_
                  obtain ⟨q26, eq27, ep23⟩ := obind ep23
                  refine r_callS (as := [_, _]) (rest := [_, _]) dX12_chance_106 ml_X12_422 yS_X12_power (c_X12_power hS eq27) (by decide) rfl (Nat.le_of_ble_eq_true rfl) ?_
                  refine r_imul dX12_chance_109 ?_
                  refine r_bipush (v := 10) dX12_chance_110 cb_10 ?_
                  refine r_iload dX12_chance_112 rfl ?_
                  refine r_isub dX12_chance_114 ?_
                  refine r_iload dX12_chance_115 rfl ?_
                  refine r_iload dX12_chance_117 rfl ?_
                  refine r_isub dX12_chance_119 ?_
                  obtain ⟨q28, eq29, ep23⟩ := obind ep23
                  refine r_callS (as := [_, _]) (rest := [_, _]) dX12_chance_120 ml_X12_422 yS_X12_power (c_X12_power hS eq29) (by decide) rfl (Nat.le_of_ble_eq_true rfl) ?_
                  refine r_imul dX12_chance_123 ?_
                  refine r_goto (tgt := 128) dX12_chance_124 rfl ?_
                  exact r_weak (L' := [none, none, none, none, none, some (vi a5), some (vi a6), some (vi a7), some (vi (q10 - q12)), none, some (vi z14.2.1), some (vi z14.2.2)]) ⟨rfl, rfl, rfl, rfl, rfl, rfl, trivial⟩ (J22 _ (Option.some.inj ep23))
            exact r_weak (L' := [none, none, none, none, none, some (vi a5), some (vi a6), some (vi a7), some (vi (q10 - q12)), some (vi (0 : Int32)), some (vi (1 : Int32)), some (vi (0 : Int32))]) ⟨rfl, rfl, rfl, rfl, rfl, rfl, rfl, trivial⟩ J16w
          · replace e := ite_t h9 e
            refine r_iconst (v := -1) dX12_chance_55 ci_m1 ?_
            cases e
            exact r_ireturn dX12_chance_56 rfl rfl
def m_X12_facts (mm : Mm) : Option (Int32) := grd ((25 : Int32) * (mI mm 44 46)) 200 (some (mI mm 53 (ix ((25 : Int32) * (mI mm 44 46)))))
set_option maxHeartbeats 4000000 in
set_option maxRecDepth 100000 in
theorem c_X12_facts {l : Launch} {G : Gt} {S : Sk} (hS : Lay S) {mm : Mm} {q : Int32} (e : m_X12_facts mm = some q) : CallOK l G M_X12_facts yX12_facts 0 [vr (some 44)] S mm (some (vi q)) S mm := by
  refine call_of_run rfl rfl rfl (Nat.le_of_ble_eq_true rfl) ?_
  show Run l G M_X12_facts 0 0 [some (vr (some 44))] [] S mm (some (vi q)) S mm
  unfold m_X12_facts at e
  refine r_aload_n dX12_facts_0 rfl ?_
  refine r_getR dX12_facts_1 fl_X12_35 rfl (lp_44 hS) (lq_44 hS) (lr_44_9 hS) ?_
  refine r_bipush (v := 25) dX12_facts_4 cb_25 ?_
  refine r_aload_n dX12_facts_6 rfl ?_
  refine r_getI dX12_facts_7 fl_X12_449 rfl (lp_44 hS) (lq_44 hS) ?_
  refine r_imul dX12_facts_10 ?_
  obtain ⟨hg1, e⟩ := grd_some e
  refine r_iald dX12_facts_11 (lp_53 hS) (lk_53 hS) hg1 ?_
  cases e
  exact r_ireturn dX12_facts_12 rfl rfl
def m_X12_factOf (a1 : Int32) (a2 : Int32) (mm : Mm) : Option (Int32) := grd (((((25 : Int32) * (mI mm 44 46)) + (1 : Int32)) + ((3 : Int32) * a1)) + a2) 200 (some (mI mm 53 (ix (((((25 : Int32) * (mI mm 44 46)) + (1 : Int32)) + ((3 : Int32) * a1)) + a2))))
set_option maxHeartbeats 4000000 in
set_option maxRecDepth 100000 in
theorem c_X12_factOf {l : Launch} {G : Gt} {S : Sk} (hS : Lay S) {a1 : Int32} {a2 : Int32} {mm : Mm} {q : Int32} (e : m_X12_factOf a1 a2 mm = some q) : CallOK l G M_X12_factOf yX12_factOf 0 [vr (some 44), vi a1, vi a2] S mm (some (vi q)) S mm := by
  refine call_of_run rfl rfl rfl (Nat.le_of_ble_eq_true rfl) ?_
  show Run l G M_X12_factOf 0 0 [some (vr (some 44)), some (vi a1), some (vi a2)] [] S mm (some (vi q)) S mm
  unfold m_X12_factOf at e
  refine r_aload_n dX12_factOf_0 rfl ?_
  refine r_getR dX12_factOf_1 fl_X12_35 rfl (lp_44 hS) (lq_44 hS) (lr_44_9 hS) ?_
  refine r_bipush (v := 25) dX12_factOf_4 cb_25 ?_
  refine r_aload_n dX12_factOf_6 rfl ?_
  refine r_getI dX12_factOf_7 fl_X12_449 rfl (lp_44 hS) (lq_44 hS) ?_
  refine r_imul dX12_factOf_10 ?_
  refine r_iconst (v := 1) dX12_factOf_11 ci_1 ?_
  refine r_iadd dX12_factOf_12 ?_
  refine r_iconst (v := 3) dX12_factOf_13 ci_3 ?_
  refine r_iload_n dX12_factOf_14 rfl ?_
  refine r_imul dX12_factOf_15 ?_
  refine r_iadd dX12_factOf_16 ?_
  refine r_iload_n dX12_factOf_17 rfl ?_
  refine r_iadd dX12_factOf_18 ?_
  obtain ⟨hg1, e⟩ := grd_some e
  refine r_iald dX12_factOf_19 (lp_53 hS) (lk_53 hS) hg1 ?_
  cases e
  exact r_ireturn dX12_factOf_20 rfl rfl
def m_X12_hasLog (a1 : Int32) (mm : Mm) : Option (Int32 × Mm) := (m_X12_is (3 : Int32) a1 (sI mm 44 46 a1)).bind (fun q1 => gbz q1 (some (q1, (sI mm 44 46 a1))))
set_option maxHeartbeats 4000000 in
set_option maxRecDepth 100000 in
theorem c_X12_hasLog {l : Launch} {G : Gt} {S : Sk} (hS : Lay S) {a1 : Int32} {mm : Mm} {q : Int32 × Mm} (e : m_X12_hasLog a1 mm = some q) : CallOK l G M_X12_hasLog yX12_hasLog 2 [vr (some 44), vi a1] S mm (some (vi q.1)) S q.2 := by
  refine call_of_run rfl rfl rfl (Nat.le_of_ble_eq_true rfl) ?_
  show Run l G M_X12_hasLog 2 0 [some (vr (some 44)), some (vi a1)] [] S mm (some (vi q.1)) S q.2
  unfold m_X12_hasLog at e
  refine r_aload_n dX12_hasLog_0 rfl ?_
  refine r_iload_n dX12_hasLog_1 rfl ?_
  refine r_putI dX12_hasLog_2 fl_X12_449 ft_12_46 (Or.inl rfl) rfl rfl rfl (lp_44 hS) (lq_44 hS) ?_
  refine r_aload_n dX12_hasLog_5 rfl ?_
  refine r_iconst (v := 3) dX12_hasLog_6 ci_3 ?_
  refine r_iload_n dX12_hasLog_7 rfl ?_
  obtain ⟨q1, eq2, e⟩ := obind e
  refine r_callV (as := [_, _]) (rest := []) dX12_hasLog_8 ml_X12_249 yV_X12_is (c_X12_is hS eq2) (by decide) rfl (lp_44 hS) (lq_44 hS) (Nat.le_of_ble_eq_true rfl) ?_
  obtain ⟨hbz, e⟩ := gbz_some e
  cases e
  exact r_ireturn dX12_hasLog_11 rfl (nz_b hbz).1
def m_X12_fact (a1 : Int32) (a2 : Int32) (a3 : Int32) (mm : Mm) : Option (Int32 × Mm) := (m_X12_hasLog a1 (sI mm 44 0 (0 : Int32))).bind (fun q1 => if q1.1 = 0 then (some ((-2 : Int32), q1.2)) else (if a2 = (-1 : Int32) then (if a3 = 0 then ((m_X12_facts q1.2).bind (fun q12 => some (q12, q1.2))) else (some ((-2 : Int32), q1.2))) else ((m_X12_facts q1.2).bind (fun q5 => if (m_X12_in a2 (0 : Int32) (q5 - (1 : Int32))) = 0 then (some ((-2 : Int32), q1.2)) else (if (m_X12_in a3 (0 : Int32) (2 : Int32)) = 0 then (some ((-2 : Int32), q1.2)) else ((m_X12_factOf a2 a3 q1.2).bind (fun q9 => some (q9, q1.2))))))))
set_option maxHeartbeats 4000000 in
set_option maxRecDepth 100000 in
theorem c_X12_fact {l : Launch} {G : Gt} {S : Sk} (hS : Lay S) {a1 : Int32} {a2 : Int32} {a3 : Int32} {mm : Mm} {q : Int32 × Mm} (e : m_X12_fact a1 a2 a3 mm = some q) : CallOK l G M_X12_fact yX12_fact 3 [vr (some 44), vi a1, vi a2, vi a3] S mm (some (vi q.1)) S q.2 := by
  refine call_of_run rfl rfl rfl (Nat.le_of_ble_eq_true rfl) ?_
  show Run l G M_X12_fact 3 0 [some (vr (some 44)), some (vi a1), some (vi a2), some (vi a3)] [] S mm (some (vi q.1)) S q.2
  unfold m_X12_fact at e
  refine r_aload_n dX12_fact_0 rfl ?_
  refine r_iconst (v := 0) dX12_fact_1 ci_0 ?_
  refine r_putI dX12_fact_2 fl_X12_90 ft_12_0 (Or.inl rfl) rfl rfl rfl (lp_44 hS) (lq_44 hS) ?_
  refine r_aload_n dX12_fact_5 rfl ?_
  refine r_iload_n dX12_fact_6 rfl ?_
  obtain ⟨q1, eq2, e⟩ := obind e
  refine r_callV (as := [_]) (rest := []) dX12_fact_7 ml_X12_452 yV_X12_hasLog (c_X12_hasLog hS eq2) (by decide) rfl (lp_44 hS) (lq_44 hS) (Nat.le_of_ble_eq_true rfl) ?_
  refine r_if_ne (tgt := 16) dX12_fact_10 rfl (fun h3 => ?_) (fun h3 => ?_)
  · replace e := ite_f h3 e
    refine r_iload_n dX12_fact_16 rfl ?_
    refine r_iconst (v := -1) dX12_fact_17 ci_m1 ?_
    refine r_icmp_ne (tgt := 35) dX12_fact_18 rfl (fun h4 => ?_) (fun h4 => ?_)
    · replace e := ite_f h4 e
      refine r_iload_n dX12_fact_35 rfl ?_
      refine r_iconst (v := 0) dX12_fact_36 ci_0 ?_
      refine r_aload_n dX12_fact_37 rfl ?_
      obtain ⟨q5, eq6, e⟩ := obind e
      refine r_callV (as := []) (rest := [_, _]) dX12_fact_38 ml_X12_455 yV_X12_facts (c_X12_facts hS eq6) (by decide) rfl (lp_44 hS) (lq_44 hS) (Nat.le_of_ble_eq_true rfl) ?_
      refine r_iconst (v := 1) dX12_fact_41 ci_1 ?_
      refine r_isub dX12_fact_42 ?_
      refine r_callS (as := [_, _, _]) (rest := []) dX12_fact_43 ml_X12_102 yS_X12_in (c_X12_in hS) (by decide) rfl (Nat.le_of_ble_eq_true rfl) ?_
      refine r_if_eq (tgt := 67) dX12_fact_46 rfl (fun h7 => ?_) (fun h7 => ?_)
      · replace e := ite_t h7 e
        refine r_bipush (v := -2) dX12_fact_67 cb_m2 ?_
        cases e
        exact r_ireturn dX12_fact_69 rfl rfl
      · replace e := ite_f h7 e
        refine r_iload_n dX12_fact_49 rfl ?_
        refine r_iconst (v := 0) dX12_fact_50 ci_0 ?_
        refine r_iconst (v := 2) dX12_fact_51 ci_2 ?_
        refine r_callS (as := [_, _, _]) (rest := []) dX12_fact_52 ml_X12_102 yS_X12_in (c_X12_in hS) (by decide) rfl (Nat.le_of_ble_eq_true rfl) ?_
        refine r_if_eq (tgt := 67) dX12_fact_55 rfl (fun h8 => ?_) (fun h8 => ?_)
        · replace e := ite_t h8 e
          refine r_bipush (v := -2) dX12_fact_67 cb_m2 ?_
          cases e
          exact r_ireturn dX12_fact_69 rfl rfl
        · replace e := ite_f h8 e
          refine r_aload_n dX12_fact_58 rfl ?_
          refine r_iload_n dX12_fact_59 rfl ?_
          refine r_iload_n dX12_fact_60 rfl ?_
          obtain ⟨q9, eq10, e⟩ := obind e
          refine r_callV (as := [_, _]) (rest := []) dX12_fact_61 ml_X12_458 yV_X12_factOf (c_X12_factOf hS eq10) (by decide) rfl (lp_44 hS) (lq_44 hS) (Nat.le_of_ble_eq_true rfl) ?_
          refine r_goto (tgt := 69) dX12_fact_64 rfl ?_
          cases e
          exact r_ireturn dX12_fact_69 rfl rfl
    · replace e := ite_t h4 e
      refine r_iload_n dX12_fact_21 rfl ?_
      refine r_if_ne (tgt := 32) dX12_fact_22 rfl (fun h11 => ?_) (fun h11 => ?_)
      · replace e := ite_f h11 e
        refine r_bipush (v := -2) dX12_fact_32 cb_m2 ?_
        cases e
        exact r_ireturn dX12_fact_34 rfl rfl
      · replace e := ite_t h11 e
        refine r_aload_n dX12_fact_25 rfl ?_
        obtain ⟨q12, eq13, e⟩ := obind e
        refine r_callV (as := []) (rest := []) dX12_fact_26 ml_X12_455 yV_X12_facts (c_X12_facts hS eq13) (by decide) rfl (lp_44 hS) (lq_44 hS) (Nat.le_of_ble_eq_true rfl) ?_
        refine r_goto (tgt := 34) dX12_fact_29 rfl ?_
        cases e
        exact r_ireturn dX12_fact_34 rfl rfl
  · replace e := ite_t h3 e
    refine r_bipush (v := -2) dX12_fact_13 cb_m2 ?_
    cases e
    exact r_ireturn dX12_fact_15 rfl rfl
def m_X12_isSo_b2 (mm : Mm) (z1 : Int32) : Option ((Int32) ⊕ ((Unit) ⊕ (Int32))) := (m_X12_facts mm).bind (fun q7 => if q7 ≤ z1 then (some (.inr (.inl ()))) else ((m_X12_factOf z1 (1 : Int32) mm).bind (fun q10 => (m_X12_isOne q10 mm).bind (fun q12 => if q12 = 0 then (some (.inr (.inr (0 : Int32)))) else ((m_X12_keptBy q10 mm).bind (fun q15 => (m_X12_factOf z1 (2 : Int32) mm).bind (fun q17 => (m_X12_factOf z1 (0 : Int32) mm).bind (fun q19 => if (m_X12_has q15 q17) = (if q19 = (1 : Int32) then (1 : Int32) else (0 : Int32)) then (some (.inl (z1 + (1 : Int32)))) else (some (.inr (.inr (0 : Int32))))))))))))
def m_X12_isSo (mm : Mm) : Option (Int32) := bS (whileF FU (m_X12_isSo_b2 mm) (0 : Int32)) (fun p2 => some (1 : Int32))
set_option maxHeartbeats 4000000 in
set_option maxRecDepth 100000 in
theorem c_X12_isSo {l : Launch} {G : Gt} {S : Sk} (hS : Lay S) {mm : Mm} {q : Int32} (e : m_X12_isSo mm = some q) : CallOK l G M_X12_isSo yX12_isSo 4 [vr (some 44)] S mm (some (vi q)) S mm := by
  refine call_of_run rfl rfl rfl (Nat.le_of_ble_eq_true rfl) ?_
  show Run l G M_X12_isSo 4 0 [some (vr (some 44)), none, none] [] S mm (some (vi q)) S mm
  unfold m_X12_isSo at e
  refine r_iconst (v := 0) dX12_isSo_0 ci_0 ?_
  refine r_istore_n dX12_isSo_1 (by decide) rfl ?_
  obtain ⟨x4, eb6w, elx4, erx4⟩ := bS_some e
  have J3 : ∀ p2 : Unit, x4 = .inl p2 → Run l G M_X12_isSo 4 65 [none, none, none] [] S mm (some (vi q)) S mm := by
    intro p2 hp2
    replace e := elx4 p2 hp2
    refine r_iconst (v := 1) dX12_isSo_65 ci_1 ?_
    cases e
    exact r_ireturn dX12_isSo_66 rfl (nz_b (by first | exact Or.inl rfl | exact Or.inr rfl)).1
  have J3w : Run l G M_X12_isSo 4 2 [some (vr (some 44)), some (vi (0 : Int32)), none] [] S mm (some (vi q)) S mm := by
    refine while_run (s := (0 : Int32)) (Gs := fun (z1 : Int32) => Run l G M_X12_isSo 4 2 [some (vr (some 44)), some (vi z1), none] [] S mm (some (vi q)) S mm) eb6w ?_
    intro z1 x4y eb6 hx5
    unfold m_X12_isSo_b2 at eb6
    refine r_iload_n dX12_isSo_2 rfl ?_
    refine r_aload_n dX12_isSo_3 rfl ?_
    obtain ⟨q7, eq8, eb6⟩ := obind eb6
    refine r_callV (as := []) (rest := [_]) dX12_isSo_4 ml_X12_455 yV_X12_facts (c_X12_facts hS eq8) (by decide) rfl (lp_44 hS) (lq_44 hS) (Nat.le_of_ble_eq_true rfl) ?_
    refine r_icmp_ge (tgt := 65) dX12_isSo_7 rfl (fun h9 => ?_) (fun h9 => ?_)
    · replace eb6 := ite_t h9 eb6
      cases eb6
      exact r_weak (L' := [none, none, none]) trivial (J3 _ (Eq.symm hx5))
    · replace eb6 := ite_f h9 eb6
      refine r_aload_n dX12_isSo_10 rfl ?_
      refine r_iload_n dX12_isSo_11 rfl ?_
      refine r_iconst (v := 1) dX12_isSo_12 ci_1 ?_
      obtain ⟨q10, eq11, eb6⟩ := obind eb6
      refine r_callV (as := [_, _]) (rest := []) dX12_isSo_13 ml_X12_458 yV_X12_factOf (c_X12_factOf hS eq11) (by decide) rfl (lp_44 hS) (lq_44 hS) (Nat.le_of_ble_eq_true rfl) ?_
      refine r_istore_n dX12_isSo_16 (by decide) rfl ?_
      refine r_aload_n dX12_isSo_17 rfl ?_
      refine r_iload_n dX12_isSo_18 rfl ?_
      obtain ⟨q12, eq13, eb6⟩ := obind eb6
      refine r_callV (as := [_]) (rest := []) dX12_isSo_19 ml_X12_289 yV_X12_isOne (c_X12_isOne hS eq13) (by decide) rfl (lp_44 hS) (lq_44 hS) (Nat.le_of_ble_eq_true rfl) ?_
      refine r_if_eq (tgt := 57) dX12_isSo_22 rfl (fun h14 => ?_) (fun h14 => ?_)
      · replace eb6 := ite_t h14 eb6
        refine r_iconst (v := 0) dX12_isSo_57 ci_0 ?_
        cases eb6
        have e := congrArg some (erx4 _ (Eq.symm hx5))
        cases e
        exact r_ireturn dX12_isSo_58 rfl (nz_b (by first | exact Or.inl rfl | exact Or.inr rfl)).1
      · replace eb6 := ite_f h14 eb6
        refine r_aload_n dX12_isSo_25 rfl ?_
        refine r_iload_n dX12_isSo_26 rfl ?_
        obtain ⟨q15, eq16, eb6⟩ := obind eb6
        refine r_callV (as := [_]) (rest := []) dX12_isSo_27 ml_X12_307 yV_X12_keptBy (c_X12_keptBy hS eq16) (by decide) rfl (lp_44 hS) (lq_44 hS) (Nat.le_of_ble_eq_true rfl) ?_
        refine r_aload_n dX12_isSo_30 rfl ?_
        refine r_iload_n dX12_isSo_31 rfl ?_
        refine r_iconst (v := 2) dX12_isSo_32 ci_2 ?_
        obtain ⟨q17, eq18, eb6⟩ := obind eb6
        refine r_callV (as := [_, _]) (rest := [_]) dX12_isSo_33 ml_X12_458 yV_X12_factOf (c_X12_factOf hS eq18) (by decide) rfl (lp_44 hS) (lq_44 hS) (Nat.le_of_ble_eq_true rfl) ?_
        refine r_callS (as := [_, _]) (rest := []) dX12_isSo_36 ml_X12_94 yS_X12_has (c_X12_has hS) (by decide) rfl (Nat.le_of_ble_eq_true rfl) ?_
        refine r_aload_n dX12_isSo_39 rfl ?_
        refine r_iload_n dX12_isSo_40 rfl ?_
        refine r_iconst (v := 0) dX12_isSo_41 ci_0 ?_
        obtain ⟨q19, eq20, eb6⟩ := obind eb6
        refine r_callV (as := [_, _]) (rest := [_]) dX12_isSo_42 ml_X12_458 yV_X12_factOf (c_X12_factOf hS eq20) (by decide) rfl (lp_44 hS) (lq_44 hS) (Nat.le_of_ble_eq_true rfl) ?_
        refine r_iconst (v := 1) dX12_isSo_45 ci_1 ?_
        have J23 : ∀ (w22 : Int32), w22 = (if q19 = (1 : Int32) then (1 : Int32) else (0 : Int32)) → Run l G M_X12_isSo 4 54 [some (vr (some 44)), some (vi z1), none] [vi w22, vi (m_X12_has q15 q17)] S mm (some (vi q)) S mm := by
          intro w22 hw25
          subst hw25
          refine r_icmp_eq (tgt := 59) dX12_isSo_54 rfl (fun h24 => ?_) (fun h24 => ?_)
          · replace eb6 := ite_t h24 eb6
            refine r_iinc (v := _ + (1 : Int32)) dX12_isSo_59 rfl (congrArg (_ + ·) ci_1) (by decide) rfl ?_
            refine r_goto (tgt := 2) dX12_isSo_62 rfl ?_
            cases eb6
            exact r_weak (L' := [some (vr (some 44)), some (vi (z1 + (1 : Int32))), none]) ⟨rfl, rfl, trivial⟩ hx5
          · replace eb6 := ite_f h24 eb6
            refine r_iconst (v := 0) dX12_isSo_57 ci_0 ?_
            cases eb6
            have e := congrArg some (erx4 _ (Eq.symm hx5))
            cases e
            exact r_ireturn dX12_isSo_58 rfl (nz_b (by first | exact Or.inl rfl | exact Or.inr rfl)).1
        refine r_icmp_ne (tgt := 53) dX12_isSo_46 rfl (fun h21 => ?_) (fun h21 => ?_)
        · refine r_iconst (v := 0) dX12_isSo_53 ci_0 ?_
          exact r_weak (L' := [some (vr (some 44)), some (vi z1), none]) ⟨rfl, rfl, trivial⟩ (J23 _ (Eq.symm (if_neg h21)))
        · refine r_iconst (v := 1) dX12_isSo_49 ci_1 ?_
          refine r_goto (tgt := 54) dX12_isSo_50 rfl ?_
          exact r_weak (L' := [some (vr (some 44)), some (vi z1), none]) ⟨rfl, rfl, trivial⟩ (J23 _ (Eq.symm (if_pos h21)))
  exact r_weak (L' := [some (vr (some 44)), some (vi (0 : Int32)), none]) ⟨rfl, rfl, trivial⟩ J3w
