def m_X12_noteFit_b94 (q4 : Int32) (z6 : Int32 × Mm) : Option ((Int32 × Mm) ⊕ (Mm)) := if (8 : Int32) ≤ z6.1 then (some (.inr z6.2)) else (grd z6.1 8 (grd z6.1 8 (some (.inl (z6.1 + (1 : Int32), (sI z6.2 68 (ix z6.1) ((mI z6.2 68 (ix z6.1)) + (if (m_X12_has q4 z6.1) = 0 then (0 : Int32) else (1 : Int32)))))))))
def m_X12_noteFit (a1 : Int32) (a2 : Int32) (a3 : Int32) (a4 : Int32) (mm : Mm) : Option (Mm) := (m_X12_keptBy a1 (sI (sI (sI (sI (sI (sI mm 44 48 (if (mI mm 44 47) = a4 then ((10 : Int32) * a2) + a3 else mI mm 44 48)) 44 47 ((mI (sI mm 44 48 (if (mI mm 44 47) = a4 then ((10 : Int32) * a2) + a3 else mI mm 44 48)) 44 47) + (1 : Int32))) 44 49 (m_X12_lesser (mI (sI (sI mm 44 48 (if (mI mm 44 47) = a4 then ((10 : Int32) * a2) + a3 else mI mm 44 48)) 44 47 ((mI (sI mm 44 48 (if (mI mm 44 47) = a4 then ((10 : Int32) * a2) + a3 else mI mm 44 48)) 44 47) + (1 : Int32))) 44 49) a2)) 44 50 (m_X12_greater (mI (sI (sI (sI mm 44 48 (if (mI mm 44 47) = a4 then ((10 : Int32) * a2) + a3 else mI mm 44 48)) 44 47 ((mI (sI mm 44 48 (if (mI mm 44 47) = a4 then ((10 : Int32) * a2) + a3 else mI mm 44 48)) 44 47) + (1 : Int32))) 44 49 (m_X12_lesser (mI (sI (sI mm 44 48 (if (mI mm 44 47) = a4 then ((10 : Int32) * a2) + a3 else mI mm 44 48)) 44 47 ((mI (sI mm 44 48 (if (mI mm 44 47) = a4 then ((10 : Int32) * a2) + a3 else mI mm 44 48)) 44 47) + (1 : Int32))) 44 49) a2)) 44 50) a2)) 44 51 ((mI (sI (sI (sI (sI mm 44 48 (if (mI mm 44 47) = a4 then ((10 : Int32) * a2) + a3 else mI mm 44 48)) 44 47 ((mI (sI mm 44 48 (if (mI mm 44 47) = a4 then ((10 : Int32) * a2) + a3 else mI mm 44 48)) 44 47) + (1 : Int32))) 44 49 (m_X12_lesser (mI (sI (sI mm 44 48 (if (mI mm 44 47) = a4 then ((10 : Int32) * a2) + a3 else mI mm 44 48)) 44 47 ((mI (sI mm 44 48 (if (mI mm 44 47) = a4 then ((10 : Int32) * a2) + a3 else mI mm 44 48)) 44 47) + (1 : Int32))) 44 49) a2)) 44 50 (m_X12_greater (mI (sI (sI (sI mm 44 48 (if (mI mm 44 47) = a4 then ((10 : Int32) * a2) + a3 else mI mm 44 48)) 44 47 ((mI (sI mm 44 48 (if (mI mm 44 47) = a4 then ((10 : Int32) * a2) + a3 else mI mm 44 48)) 44 47) + (1 : Int32))) 44 49 (m_X12_lesser (mI (sI (sI mm 44 48 (if (mI mm 44 47) = a4 then ((10 : Int32) * a2) + a3 else mI mm 44 48)) 44 47 ((mI (sI mm 44 48 (if (mI mm 44 47) = a4 then ((10 : Int32) * a2) + a3 else mI mm 44 48)) 44 47) + (1 : Int32))) 44 49) a2)) 44 50) a2)) 44 51) ||| (xshl (1 : Int32) a2))) 44 52 ((mI (sI (sI (sI (sI (sI mm 44 48 (if (mI mm 44 47) = a4 then ((10 : Int32) * a2) + a3 else mI mm 44 48)) 44 47 ((mI (sI mm 44 48 (if (mI mm 44 47) = a4 then ((10 : Int32) * a2) + a3 else mI mm 44 48)) 44 47) + (1 : Int32))) 44 49 (m_X12_lesser (mI (sI (sI mm 44 48 (if (mI mm 44 47) = a4 then ((10 : Int32) * a2) + a3 else mI mm 44 48)) 44 47 ((mI (sI mm 44 48 (if (mI mm 44 47) = a4 then ((10 : Int32) * a2) + a3 else mI mm 44 48)) 44 47) + (1 : Int32))) 44 49) a2)) 44 50 (m_X12_greater (mI (sI (sI (sI mm 44 48 (if (mI mm 44 47) = a4 then ((10 : Int32) * a2) + a3 else mI mm 44 48)) 44 47 ((mI (sI mm 44 48 (if (mI mm 44 47) = a4 then ((10 : Int32) * a2) + a3 else mI mm 44 48)) 44 47) + (1 : Int32))) 44 49 (m_X12_lesser (mI (sI (sI mm 44 48 (if (mI mm 44 47) = a4 then ((10 : Int32) * a2) + a3 else mI mm 44 48)) 44 47 ((mI (sI mm 44 48 (if (mI mm 44 47) = a4 then ((10 : Int32) * a2) + a3 else mI mm 44 48)) 44 47) + (1 : Int32))) 44 49) a2)) 44 50) a2)) 44 51 ((mI (sI (sI (sI (sI mm 44 48 (if (mI mm 44 47) = a4 then ((10 : Int32) * a2) + a3 else mI mm 44 48)) 44 47 ((mI (sI mm 44 48 (if (mI mm 44 47) = a4 then ((10 : Int32) * a2) + a3 else mI mm 44 48)) 44 47) + (1 : Int32))) 44 49 (m_X12_lesser (mI (sI (sI mm 44 48 (if (mI mm 44 47) = a4 then ((10 : Int32) * a2) + a3 else mI mm 44 48)) 44 47 ((mI (sI mm 44 48 (if (mI mm 44 47) = a4 then ((10 : Int32) * a2) + a3 else mI mm 44 48)) 44 47) + (1 : Int32))) 44 49) a2)) 44 50 (m_X12_greater (mI (sI (sI (sI mm 44 48 (if (mI mm 44 47) = a4 then ((10 : Int32) * a2) + a3 else mI mm 44 48)) 44 47 ((mI (sI mm 44 48 (if (mI mm 44 47) = a4 then ((10 : Int32) * a2) + a3 else mI mm 44 48)) 44 47) + (1 : Int32))) 44 49 (m_X12_lesser (mI (sI (sI mm 44 48 (if (mI mm 44 47) = a4 then ((10 : Int32) * a2) + a3 else mI mm 44 48)) 44 47 ((mI (sI mm 44 48 (if (mI mm 44 47) = a4 then ((10 : Int32) * a2) + a3 else mI mm 44 48)) 44 47) + (1 : Int32))) 44 49) a2)) 44 50) a2)) 44 51) ||| (xshl (1 : Int32) a2))) 44 52) ||| (xshl (1 : Int32) a3)))).bind (fun q4 => (whileF FU (m_X12_noteFit_b94 q4) ((0 : Int32), (sI (sI (sI (sI (sI (sI mm 44 48 (if (mI mm 44 47) = a4 then ((10 : Int32) * a2) + a3 else mI mm 44 48)) 44 47 ((mI (sI mm 44 48 (if (mI mm 44 47) = a4 then ((10 : Int32) * a2) + a3 else mI mm 44 48)) 44 47) + (1 : Int32))) 44 49 (m_X12_lesser (mI (sI (sI mm 44 48 (if (mI mm 44 47) = a4 then ((10 : Int32) * a2) + a3 else mI mm 44 48)) 44 47 ((mI (sI mm 44 48 (if (mI mm 44 47) = a4 then ((10 : Int32) * a2) + a3 else mI mm 44 48)) 44 47) + (1 : Int32))) 44 49) a2)) 44 50 (m_X12_greater (mI (sI (sI (sI mm 44 48 (if (mI mm 44 47) = a4 then ((10 : Int32) * a2) + a3 else mI mm 44 48)) 44 47 ((mI (sI mm 44 48 (if (mI mm 44 47) = a4 then ((10 : Int32) * a2) + a3 else mI mm 44 48)) 44 47) + (1 : Int32))) 44 49 (m_X12_lesser (mI (sI (sI mm 44 48 (if (mI mm 44 47) = a4 then ((10 : Int32) * a2) + a3 else mI mm 44 48)) 44 47 ((mI (sI mm 44 48 (if (mI mm 44 47) = a4 then ((10 : Int32) * a2) + a3 else mI mm 44 48)) 44 47) + (1 : Int32))) 44 49) a2)) 44 50) a2)) 44 51 ((mI (sI (sI (sI (sI mm 44 48 (if (mI mm 44 47) = a4 then ((10 : Int32) * a2) + a3 else mI mm 44 48)) 44 47 ((mI (sI mm 44 48 (if (mI mm 44 47) = a4 then ((10 : Int32) * a2) + a3 else mI mm 44 48)) 44 47) + (1 : Int32))) 44 49 (m_X12_lesser (mI (sI (sI mm 44 48 (if (mI mm 44 47) = a4 then ((10 : Int32) * a2) + a3 else mI mm 44 48)) 44 47 ((mI (sI mm 44 48 (if (mI mm 44 47) = a4 then ((10 : Int32) * a2) + a3 else mI mm 44 48)) 44 47) + (1 : Int32))) 44 49) a2)) 44 50 (m_X12_greater (mI (sI (sI (sI mm 44 48 (if (mI mm 44 47) = a4 then ((10 : Int32) * a2) + a3 else mI mm 44 48)) 44 47 ((mI (sI mm 44 48 (if (mI mm 44 47) = a4 then ((10 : Int32) * a2) + a3 else mI mm 44 48)) 44 47) + (1 : Int32))) 44 49 (m_X12_lesser (mI (sI (sI mm 44 48 (if (mI mm 44 47) = a4 then ((10 : Int32) * a2) + a3 else mI mm 44 48)) 44 47 ((mI (sI mm 44 48 (if (mI mm 44 47) = a4 then ((10 : Int32) * a2) + a3 else mI mm 44 48)) 44 47) + (1 : Int32))) 44 49) a2)) 44 50) a2)) 44 51) ||| (xshl (1 : Int32) a2))) 44 52 ((mI (sI (sI (sI (sI (sI mm 44 48 (if (mI mm 44 47) = a4 then ((10 : Int32) * a2) + a3 else mI mm 44 48)) 44 47 ((mI (sI mm 44 48 (if (mI mm 44 47) = a4 then ((10 : Int32) * a2) + a3 else mI mm 44 48)) 44 47) + (1 : Int32))) 44 49 (m_X12_lesser (mI (sI (sI mm 44 48 (if (mI mm 44 47) = a4 then ((10 : Int32) * a2) + a3 else mI mm 44 48)) 44 47 ((mI (sI mm 44 48 (if (mI mm 44 47) = a4 then ((10 : Int32) * a2) + a3 else mI mm 44 48)) 44 47) + (1 : Int32))) 44 49) a2)) 44 50 (m_X12_greater (mI (sI (sI (sI mm 44 48 (if (mI mm 44 47) = a4 then ((10 : Int32) * a2) + a3 else mI mm 44 48)) 44 47 ((mI (sI mm 44 48 (if (mI mm 44 47) = a4 then ((10 : Int32) * a2) + a3 else mI mm 44 48)) 44 47) + (1 : Int32))) 44 49 (m_X12_lesser (mI (sI (sI mm 44 48 (if (mI mm 44 47) = a4 then ((10 : Int32) * a2) + a3 else mI mm 44 48)) 44 47 ((mI (sI mm 44 48 (if (mI mm 44 47) = a4 then ((10 : Int32) * a2) + a3 else mI mm 44 48)) 44 47) + (1 : Int32))) 44 49) a2)) 44 50) a2)) 44 51 ((mI (sI (sI (sI (sI mm 44 48 (if (mI mm 44 47) = a4 then ((10 : Int32) * a2) + a3 else mI mm 44 48)) 44 47 ((mI (sI mm 44 48 (if (mI mm 44 47) = a4 then ((10 : Int32) * a2) + a3 else mI mm 44 48)) 44 47) + (1 : Int32))) 44 49 (m_X12_lesser (mI (sI (sI mm 44 48 (if (mI mm 44 47) = a4 then ((10 : Int32) * a2) + a3 else mI mm 44 48)) 44 47 ((mI (sI mm 44 48 (if (mI mm 44 47) = a4 then ((10 : Int32) * a2) + a3 else mI mm 44 48)) 44 47) + (1 : Int32))) 44 49) a2)) 44 50 (m_X12_greater (mI (sI (sI (sI mm 44 48 (if (mI mm 44 47) = a4 then ((10 : Int32) * a2) + a3 else mI mm 44 48)) 44 47 ((mI (sI mm 44 48 (if (mI mm 44 47) = a4 then ((10 : Int32) * a2) + a3 else mI mm 44 48)) 44 47) + (1 : Int32))) 44 49 (m_X12_lesser (mI (sI (sI mm 44 48 (if (mI mm 44 47) = a4 then ((10 : Int32) * a2) + a3 else mI mm 44 48)) 44 47 ((mI (sI mm 44 48 (if (mI mm 44 47) = a4 then ((10 : Int32) * a2) + a3 else mI mm 44 48)) 44 47) + (1 : Int32))) 44 49) a2)) 44 50) a2)) 44 51) ||| (xshl (1 : Int32) a2))) 44 52) ||| (xshl (1 : Int32) a3))))).bind (fun p7 => some p7))
set_option maxHeartbeats 4000000 in
set_option maxRecDepth 100000 in
theorem c_X12_noteFit {l : Launch} {G : Gt} {S : Sk} (hS : Lay S) {a1 : Int32} {a2 : Int32} {a3 : Int32} {a4 : Int32} {mm : Mm} {q : Mm} (e : m_X12_noteFit a1 a2 a3 a4 mm = some q) : CallOK l G M_X12_noteFit yX12_noteFit 4 [vr (some 44), vi a1, vi a2, vi a3, vi a4] S mm (none) S q := by
  refine call_of_run rfl rfl rfl (Nat.le_of_ble_eq_true rfl) ?_
  show Run l G M_X12_noteFit 4 0 [some (vr (some 44)), some (vi a1), some (vi a2), some (vi a3), some (vi a4), none, none] [] S mm (none) S q
  unfold m_X12_noteFit at e
  refine r_aload_n dX12_noteFit_0 rfl ?_
  refine r_aload_n dX12_noteFit_1 rfl ?_
  refine r_getI dX12_noteFit_2 fl_X12_461 rfl (lp_44 hS) (lq_44 hS) ?_
  refine r_iload dX12_noteFit_5 rfl ?_
  have J3 : ∀ (w2 : Int32), w2 = (if (mI mm 44 47) = a4 then ((10 : Int32) * a2) + a3 else mI mm 44 48) → Run l G M_X12_noteFit 4 23 [some (vr (some 44)), some (vi a1), some (vi a2), some (vi a3), none, none, none] [vi w2, vr (some 44)] S mm (none) S q := by
    intro w2 hw19
    subst hw19
    refine r_putI dX12_noteFit_23 fl_X12_464 ft_12_48 (Or.inl rfl) rfl rfl rfl (lp_44 hS) (lq_44 hS) ?_
    refine r_aload_n dX12_noteFit_26 rfl ?_
    refine r_dup dX12_noteFit_27 rfl ?_
    refine r_getI dX12_noteFit_28 fl_X12_461 rfl (lp_44 hS) (lq_44 hS) ?_
    refine r_iconst (v := 1) dX12_noteFit_31 ci_1 ?_
    refine r_iadd dX12_noteFit_32 ?_
    refine r_putI dX12_noteFit_33 fl_X12_461 ft_12_47 (Or.inl rfl) rfl rfl rfl (lp_44 hS) (lq_44 hS) ?_
    refine r_aload_n dX12_noteFit_36 rfl ?_
    refine r_aload_n dX12_noteFit_37 rfl ?_
    refine r_getI dX12_noteFit_38 fl_X12_467 rfl (lp_44 hS) (lq_44 hS) ?_
    refine r_iload_n dX12_noteFit_41 rfl ?_
    refine r_callS (as := [_, _]) (rest := [_]) dX12_noteFit_42 ml_X12_168 yS_X12_lesser (c_X12_lesser hS) (by decide) rfl (Nat.le_of_ble_eq_true rfl) ?_
    refine r_putI dX12_noteFit_45 fl_X12_467 ft_12_49 (Or.inl rfl) rfl rfl rfl (lp_44 hS) (lq_44 hS) ?_
    refine r_aload_n dX12_noteFit_48 rfl ?_
    refine r_aload_n dX12_noteFit_49 rfl ?_
    refine r_getI dX12_noteFit_50 fl_X12_470 rfl (lp_44 hS) (lq_44 hS) ?_
    refine r_iload_n dX12_noteFit_53 rfl ?_
    refine r_callS (as := [_, _]) (rest := [_]) dX12_noteFit_54 ml_X12_178 yS_X12_greater (c_X12_greater hS) (by decide) rfl (Nat.le_of_ble_eq_true rfl) ?_
    refine r_putI dX12_noteFit_57 fl_X12_470 ft_12_50 (Or.inl rfl) rfl rfl rfl (lp_44 hS) (lq_44 hS) ?_
    refine r_aload_n dX12_noteFit_60 rfl ?_
    refine r_dup dX12_noteFit_61 rfl ?_
    refine r_getI dX12_noteFit_62 fl_X12_473 rfl (lp_44 hS) (lq_44 hS) ?_
    refine r_iconst (v := 1) dX12_noteFit_65 ci_1 ?_
    refine r_iload_n dX12_noteFit_66 rfl ?_
    refine r_ishl dX12_noteFit_67 ?_
    refine r_ior dX12_noteFit_68 ?_
    refine r_putI dX12_noteFit_69 fl_X12_473 ft_12_51 (Or.inl rfl) rfl rfl rfl (lp_44 hS) (lq_44 hS) ?_
    refine r_aload_n dX12_noteFit_72 rfl ?_
    refine r_dup dX12_noteFit_73 rfl ?_
    refine r_getI dX12_noteFit_74 fl_X12_476 rfl (lp_44 hS) (lq_44 hS) ?_
    refine r_iconst (v := 1) dX12_noteFit_77 ci_1 ?_
    refine r_iload_n dX12_noteFit_78 rfl ?_
    refine r_ishl dX12_noteFit_79 ?_
    refine r_ior dX12_noteFit_80 ?_
    refine r_putI dX12_noteFit_81 fl_X12_476 ft_12_52 (Or.inl rfl) rfl rfl rfl (lp_44 hS) (lq_44 hS) ?_
    refine r_aload_n dX12_noteFit_84 rfl ?_
    refine r_iload_n dX12_noteFit_85 rfl ?_
    obtain ⟨q4, eq5, e⟩ := obind e
    refine r_callV (as := [_]) (rest := []) dX12_noteFit_86 ml_X12_307 yV_X12_keptBy (c_X12_keptBy hS eq5) (by decide) rfl (lp_44 hS) (lq_44 hS) (Nat.le_of_ble_eq_true rfl) ?_
    refine r_istore dX12_noteFit_89 (by decide) rfl ?_
    refine r_iconst (v := 0) dX12_noteFit_91 ci_0 ?_
    refine r_istore dX12_noteFit_92 (by decide) rfl ?_
    obtain ⟨p7, eb11w, e⟩ := obind e
    have J8a : Run l G M_X12_noteFit 4 132 [none, none, none, none, none, none, none] [] S p7 (none) S q := by
      cases e
      exact r_return dX12_noteFit_132 rfl
    have J8 : ∀ pp : Mm, pp = p7 → Run l G M_X12_noteFit 4 132 [none, none, none, none, none, none, none] [] S pp (none) S q := by
      intro pp hpp
      rw [hpp]
      exact J8a
    have J8w : Run l G M_X12_noteFit 4 94 [some (vr (some 44)), none, none, none, none, some (vi q4), some (vi (0 : Int32))] [] S (sI (sI (sI (sI (sI (sI mm 44 48 (if (mI mm 44 47) = a4 then ((10 : Int32) * a2) + a3 else mI mm 44 48)) 44 47 ((mI (sI mm 44 48 (if (mI mm 44 47) = a4 then ((10 : Int32) * a2) + a3 else mI mm 44 48)) 44 47) + (1 : Int32))) 44 49 (m_X12_lesser (mI (sI (sI mm 44 48 (if (mI mm 44 47) = a4 then ((10 : Int32) * a2) + a3 else mI mm 44 48)) 44 47 ((mI (sI mm 44 48 (if (mI mm 44 47) = a4 then ((10 : Int32) * a2) + a3 else mI mm 44 48)) 44 47) + (1 : Int32))) 44 49) a2)) 44 50 (m_X12_greater (mI (sI (sI (sI mm 44 48 (if (mI mm 44 47) = a4 then ((10 : Int32) * a2) + a3 else mI mm 44 48)) 44 47 ((mI (sI mm 44 48 (if (mI mm 44 47) = a4 then ((10 : Int32) * a2) + a3 else mI mm 44 48)) 44 47) + (1 : Int32))) 44 49 (m_X12_lesser (mI (sI (sI mm 44 48 (if (mI mm 44 47) = a4 then ((10 : Int32) * a2) + a3 else mI mm 44 48)) 44 47 ((mI (sI mm 44 48 (if (mI mm 44 47) = a4 then ((10 : Int32) * a2) + a3 else mI mm 44 48)) 44 47) + (1 : Int32))) 44 49) a2)) 44 50) a2)) 44 51 ((mI (sI (sI (sI (sI mm 44 48 (if (mI mm 44 47) = a4 then ((10 : Int32) * a2) + a3 else mI mm 44 48)) 44 47 ((mI (sI mm 44 48 (if (mI mm 44 47) = a4 then ((10 : Int32) * a2) + a3 else mI mm 44 48)) 44 47) + (1 : Int32))) 44 49 (m_X12_lesser (mI (sI (sI mm 44 48 (if (mI mm 44 47) = a4 then ((10 : Int32) * a2) + a3 else mI mm 44 48)) 44 47 ((mI (sI mm 44 48 (if (mI mm 44 47) = a4 then ((10 : Int32) * a2) + a3 else mI mm 44 48)) 44 47) + (1 : Int32))) 44 49) a2)) 44 50 (m_X12_greater (mI (sI (sI (sI mm 44 48 (if (mI mm 44 47) = a4 then ((10 : Int32) * a2) + a3 else mI mm 44 48)) 44 47 ((mI (sI mm 44 48 (if (mI mm 44 47) = a4 then ((10 : Int32) * a2) + a3 else mI mm 44 48)) 44 47) + (1 : Int32))) 44 49 (m_X12_lesser (mI (sI (sI mm 44 48 (if (mI mm 44 47) = a4 then ((10 : Int32) * a2) + a3 else mI mm 44 48)) 44 47 ((mI (sI mm 44 48 (if (mI mm 44 47) = a4 then ((10 : Int32) * a2) + a3 else mI mm 44 48)) 44 47) + (1 : Int32))) 44 49) a2)) 44 50) a2)) 44 51) ||| (xshl (1 : Int32) a2))) 44 52 ((mI (sI (sI (sI (sI (sI mm 44 48 (if (mI mm 44 47) = a4 then ((10 : Int32) * a2) + a3 else mI mm 44 48)) 44 47 ((mI (sI mm 44 48 (if (mI mm 44 47) = a4 then ((10 : Int32) * a2) + a3 else mI mm 44 48)) 44 47) + (1 : Int32))) 44 49 (m_X12_lesser (mI (sI (sI mm 44 48 (if (mI mm 44 47) = a4 then ((10 : Int32) * a2) + a3 else mI mm 44 48)) 44 47 ((mI (sI mm 44 48 (if (mI mm 44 47) = a4 then ((10 : Int32) * a2) + a3 else mI mm 44 48)) 44 47) + (1 : Int32))) 44 49) a2)) 44 50 (m_X12_greater (mI (sI (sI (sI mm 44 48 (if (mI mm 44 47) = a4 then ((10 : Int32) * a2) + a3 else mI mm 44 48)) 44 47 ((mI (sI mm 44 48 (if (mI mm 44 47) = a4 then ((10 : Int32) * a2) + a3 else mI mm 44 48)) 44 47) + (1 : Int32))) 44 49 (m_X12_lesser (mI (sI (sI mm 44 48 (if (mI mm 44 47) = a4 then ((10 : Int32) * a2) + a3 else mI mm 44 48)) 44 47 ((mI (sI mm 44 48 (if (mI mm 44 47) = a4 then ((10 : Int32) * a2) + a3 else mI mm 44 48)) 44 47) + (1 : Int32))) 44 49) a2)) 44 50) a2)) 44 51 ((mI (sI (sI (sI (sI mm 44 48 (if (mI mm 44 47) = a4 then ((10 : Int32) * a2) + a3 else mI mm 44 48)) 44 47 ((mI (sI mm 44 48 (if (mI mm 44 47) = a4 then ((10 : Int32) * a2) + a3 else mI mm 44 48)) 44 47) + (1 : Int32))) 44 49 (m_X12_lesser (mI (sI (sI mm 44 48 (if (mI mm 44 47) = a4 then ((10 : Int32) * a2) + a3 else mI mm 44 48)) 44 47 ((mI (sI mm 44 48 (if (mI mm 44 47) = a4 then ((10 : Int32) * a2) + a3 else mI mm 44 48)) 44 47) + (1 : Int32))) 44 49) a2)) 44 50 (m_X12_greater (mI (sI (sI (sI mm 44 48 (if (mI mm 44 47) = a4 then ((10 : Int32) * a2) + a3 else mI mm 44 48)) 44 47 ((mI (sI mm 44 48 (if (mI mm 44 47) = a4 then ((10 : Int32) * a2) + a3 else mI mm 44 48)) 44 47) + (1 : Int32))) 44 49 (m_X12_lesser (mI (sI (sI mm 44 48 (if (mI mm 44 47) = a4 then ((10 : Int32) * a2) + a3 else mI mm 44 48)) 44 47 ((mI (sI mm 44 48 (if (mI mm 44 47) = a4 then ((10 : Int32) * a2) + a3 else mI mm 44 48)) 44 47) + (1 : Int32))) 44 49) a2)) 44 50) a2)) 44 51) ||| (xshl (1 : Int32) a2))) 44 52) ||| (xshl (1 : Int32) a3))) (none) S q := by
      refine while_run (s := ((0 : Int32), (sI (sI (sI (sI (sI (sI mm 44 48 (if (mI mm 44 47) = a4 then ((10 : Int32) * a2) + a3 else mI mm 44 48)) 44 47 ((mI (sI mm 44 48 (if (mI mm 44 47) = a4 then ((10 : Int32) * a2) + a3 else mI mm 44 48)) 44 47) + (1 : Int32))) 44 49 (m_X12_lesser (mI (sI (sI mm 44 48 (if (mI mm 44 47) = a4 then ((10 : Int32) * a2) + a3 else mI mm 44 48)) 44 47 ((mI (sI mm 44 48 (if (mI mm 44 47) = a4 then ((10 : Int32) * a2) + a3 else mI mm 44 48)) 44 47) + (1 : Int32))) 44 49) a2)) 44 50 (m_X12_greater (mI (sI (sI (sI mm 44 48 (if (mI mm 44 47) = a4 then ((10 : Int32) * a2) + a3 else mI mm 44 48)) 44 47 ((mI (sI mm 44 48 (if (mI mm 44 47) = a4 then ((10 : Int32) * a2) + a3 else mI mm 44 48)) 44 47) + (1 : Int32))) 44 49 (m_X12_lesser (mI (sI (sI mm 44 48 (if (mI mm 44 47) = a4 then ((10 : Int32) * a2) + a3 else mI mm 44 48)) 44 47 ((mI (sI mm 44 48 (if (mI mm 44 47) = a4 then ((10 : Int32) * a2) + a3 else mI mm 44 48)) 44 47) + (1 : Int32))) 44 49) a2)) 44 50) a2)) 44 51 ((mI (sI (sI (sI (sI mm 44 48 (if (mI mm 44 47) = a4 then ((10 : Int32) * a2) + a3 else mI mm 44 48)) 44 47 ((mI (sI mm 44 48 (if (mI mm 44 47) = a4 then ((10 : Int32) * a2) + a3 else mI mm 44 48)) 44 47) + (1 : Int32))) 44 49 (m_X12_lesser (mI (sI (sI mm 44 48 (if (mI mm 44 47) = a4 then ((10 : Int32) * a2) + a3 else mI mm 44 48)) 44 47 ((mI (sI mm 44 48 (if (mI mm 44 47) = a4 then ((10 : Int32) * a2) + a3 else mI mm 44 48)) 44 47) + (1 : Int32))) 44 49) a2)) 44 50 (m_X12_greater (mI (sI (sI (sI mm 44 48 (if (mI mm 44 47) = a4 then ((10 : Int32) * a2) + a3 else mI mm 44 48)) 44 47 ((mI (sI mm 44 48 (if (mI mm 44 47) = a4 then ((10 : Int32) * a2) + a3 else mI mm 44 48)) 44 47) + (1 : Int32))) 44 49 (m_X12_lesser (mI (sI (sI mm 44 48 (if (mI mm 44 47) = a4 then ((10 : Int32) * a2) + a3 else mI mm 44 48)) 44 47 ((mI (sI mm 44 48 (if (mI mm 44 47) = a4 then ((10 : Int32) * a2) + a3 else mI mm 44 48)) 44 47) + (1 : Int32))) 44 49) a2)) 44 50) a2)) 44 51) ||| (xshl (1 : Int32) a2))) 44 52 ((mI (sI (sI (sI (sI (sI mm 44 48 (if (mI mm 44 47) = a4 then ((10 : Int32) * a2) + a3 else mI mm 44 48)) 44 47 ((mI (sI mm 44 48 (if (mI mm 44 47) = a4 then ((10 : Int32) * a2) + a3 else mI mm 44 48)) 44 47) + (1 : Int32))) 44 49 (m_X12_lesser (mI (sI (sI mm 44 48 (if (mI mm 44 47) = a4 then ((10 : Int32) * a2) + a3 else mI mm 44 48)) 44 47 ((mI (sI mm 44 48 (if (mI mm 44 47) = a4 then ((10 : Int32) * a2) + a3 else mI mm 44 48)) 44 47) + (1 : Int32))) 44 49) a2)) 44 50 (m_X12_greater (mI (sI (sI (sI mm 44 48 (if (mI mm 44 47) = a4 then ((10 : Int32) * a2) + a3 else mI mm 44 48)) 44 47 ((mI (sI mm 44 48 (if (mI mm 44 47) = a4 then ((10 : Int32) * a2) + a3 else mI mm 44 48)) 44 47) + (1 : Int32))) 44 49 (m_X12_lesser (mI (sI (sI mm 44 48 (if (mI mm 44 47) = a4 then ((10 : Int32) * a2) + a3 else mI mm 44 48)) 44 47 ((mI (sI mm 44 48 (if (mI mm 44 47) = a4 then ((10 : Int32) * a2) + a3 else mI mm 44 48)) 44 47) + (1 : Int32))) 44 49) a2)) 44 50) a2)) 44 51 ((mI (sI (sI (sI (sI mm 44 48 (if (mI mm 44 47) = a4 then ((10 : Int32) * a2) + a3 else mI mm 44 48)) 44 47 ((mI (sI mm 44 48 (if (mI mm 44 47) = a4 then ((10 : Int32) * a2) + a3 else mI mm 44 48)) 44 47) + (1 : Int32))) 44 49 (m_X12_lesser (mI (sI (sI mm 44 48 (if (mI mm 44 47) = a4 then ((10 : Int32) * a2) + a3 else mI mm 44 48)) 44 47 ((mI (sI mm 44 48 (if (mI mm 44 47) = a4 then ((10 : Int32) * a2) + a3 else mI mm 44 48)) 44 47) + (1 : Int32))) 44 49) a2)) 44 50 (m_X12_greater (mI (sI (sI (sI mm 44 48 (if (mI mm 44 47) = a4 then ((10 : Int32) * a2) + a3 else mI mm 44 48)) 44 47 ((mI (sI mm 44 48 (if (mI mm 44 47) = a4 then ((10 : Int32) * a2) + a3 else mI mm 44 48)) 44 47) + (1 : Int32))) 44 49 (m_X12_lesser (mI (sI (sI mm 44 48 (if (mI mm 44 47) = a4 then ((10 : Int32) * a2) + a3 else mI mm 44 48)) 44 47 ((mI (sI mm 44 48 (if (mI mm 44 47) = a4 then ((10 : Int32) * a2) + a3 else mI mm 44 48)) 44 47) + (1 : Int32))) 44 49) a2)) 44 50) a2)) 44 51) ||| (xshl (1 : Int32) a2))) 44 52) ||| (xshl (1 : Int32) a3))))) (Gs := fun (z6 : Int32 × Mm) => Run l G M_X12_noteFit 4 94 [some (vr (some 44)), none, none, none, none, some (vi q4), some (vi z6.1)] [] S z6.2 (none) S q) eb11w ?_
      intro z6 x9y eb11 hx10
      unfold m_X12_noteFit_b94 at eb11
      refine r_iload dX12_noteFit_94 rfl ?_
      refine r_bipush (v := 8) dX12_noteFit_96 cb_8 ?_
      refine r_icmp_ge (tgt := 132) dX12_noteFit_98 rfl (fun h12 => ?_) (fun h12 => ?_)
      · replace eb11 := ite_t h12 eb11
        cases eb11
        exact r_weak (L' := [none, none, none, none, none, none, none]) trivial (J8 _ hx10)
      · replace eb11 := ite_f h12 eb11
        refine r_aload_n dX12_noteFit_101 rfl ?_
        refine r_getR dX12_noteFit_102 fl_X12_80 rfl (lp_44 hS) (lq_44 hS) (lr_44_53 hS) ?_
        refine r_iload dX12_noteFit_105 rfl ?_
        refine r_dup2 dX12_noteFit_107 rfl rfl ?_
        obtain ⟨hg13, eb11⟩ := grd_some eb11
        refine r_iald dX12_noteFit_108 (lp_68 hS) (lk_68 hS) hg13 ?_
        refine r_iload dX12_noteFit_109 rfl ?_
        refine r_iload dX12_noteFit_111 rfl ?_
        refine r_callS (as := [_, _]) (rest := [_, _, _]) dX12_noteFit_113 ml_X12_94 yS_X12_has (c_X12_has hS) (by decide) rfl (Nat.le_of_ble_eq_true rfl) ?_
        have J16 : ∀ (w15 : Int32), w15 = (if (m_X12_has q4 z6.1) = 0 then (0 : Int32) else (1 : Int32)) → Run l G M_X12_noteFit 4 124 [some (vr (some 44)), none, none, none, none, some (vi q4), some (vi z6.1)] [vi w15, vi (mI z6.2 68 (ix z6.1)), vi z6.1, vr (some 68)] S z6.2 (none) S q := by
          intro w15 hw18
          subst hw18
          refine r_iadd dX12_noteFit_124 ?_
          obtain ⟨hg17, eb11⟩ := grd_some eb11
          refine r_iast dX12_noteFit_125 (lp_68 hS) (lk_68 hS) hg17 ?_
          refine r_iinc (v := _ + (1 : Int32)) dX12_noteFit_126 rfl (congrArg (_ + ·) ci_1) (by decide) rfl ?_
          refine r_goto (tgt := 94) dX12_noteFit_129 rfl ?_
          cases eb11
          exact r_weak (L' := [some (vr (some 44)), none, none, none, none, some (vi q4), some (vi (z6.1 + (1 : Int32)))]) ⟨rfl, rfl, rfl, trivial⟩ hx10
        refine r_if_eq (tgt := 123) dX12_noteFit_116 rfl (fun h14 => ?_) (fun h14 => ?_)
        · refine r_iconst (v := 0) dX12_noteFit_123 ci_0 ?_
          exact r_weak (L' := [some (vr (some 44)), none, none, none, none, some (vi q4), some (vi z6.1)]) ⟨rfl, rfl, rfl, trivial⟩ (J16 _ (Eq.symm (if_pos h14)))
        · refine r_iconst (v := 1) dX12_noteFit_119 ci_1 ?_
          refine r_goto (tgt := 124) dX12_noteFit_120 rfl ?_
          exact r_weak (L' := [some (vr (some 44)), none, none, none, none, some (vi q4), some (vi z6.1)]) ⟨rfl, rfl, rfl, trivial⟩ (J16 _ (Eq.symm (if_neg h14)))
    exact r_weak (L' := [some (vr (some 44)), none, none, none, none, some (vi q4), some (vi (0 : Int32))]) ⟨rfl, rfl, rfl, trivial⟩ J8w
  refine r_icmp_ne (tgt := 19) dX12_noteFit_7 rfl (fun h1 => ?_) (fun h1 => ?_)
  · refine r_aload_n dX12_noteFit_19 rfl ?_
    refine r_getI dX12_noteFit_20 fl_X12_464 rfl (lp_44 hS) (lq_44 hS) ?_
    exact r_weak (L' := [some (vr (some 44)), some (vi a1), some (vi a2), some (vi a3), none, none, none]) ⟨rfl, rfl, rfl, rfl, trivial⟩ (J3 _ (Eq.symm (if_neg h1)))
  · refine r_bipush (v := 10) dX12_noteFit_10 cb_10 ?_
    refine r_iload_n dX12_noteFit_12 rfl ?_
    refine r_imul dX12_noteFit_13 ?_
    refine r_iload_n dX12_noteFit_14 rfl ?_
    refine r_iadd dX12_noteFit_15 ?_
    refine r_goto (tgt := 23) dX12_noteFit_16 rfl ?_
    exact r_weak (L' := [some (vr (some 44)), some (vi a1), some (vi a2), some (vi a3), none, none, none]) ⟨rfl, rfl, rfl, rfl, trivial⟩ (J3 _ (Eq.symm (if_pos h1)))
def m_X12_findFits_b35 (z1 : Int32 × Mm) : Option ((Int32 × Mm) ⊕ (Mm)) := if (8 : Int32) ≤ z1.1 then (some (.inr z1.2)) else (grd z1.1 8 (some (.inl (z1.1 + (1 : Int32), (sI z1.2 68 (ix z1.1) (0 : Int32))))))
def m_X12_findFits_b65 (a1 : Int32) (a2 : Int32) (z9 : Int32 × Mm) (z16 : Int32 × Mm) : Option ((Int32 × Mm) ⊕ (Mm)) := if (5 : Int32) ≤ z16.1 then (some (.inr z16.2)) else (grd a1 6 (grd a1 6 ((m_X12_isSo (sI (sI z16.2 56 (ix a1) z9.1) 57 (ix a1) z16.1)).bind (fun q25 => (if q25 = 0 then (some (sI (sI z16.2 56 (ix a1) z9.1) 57 (ix a1) z16.1)) else ((m_X12_noteFit a1 z9.1 z16.1 a2 (sI (sI z16.2 56 (ix a1) z9.1) 57 (ix a1) z16.1)).bind (fun q32 => some q32)) : Option (Mm)).bind (fun p27 => some (.inl (z16.1 + (1 : Int32), p27)))))))
def m_X12_findFits_b56 (a1 : Int32) (a2 : Int32) (z9 : Int32 × Mm) : Option ((Int32 × Mm) ⊕ (Mm)) := if (10 : Int32) ≤ z9.1 then (some (.inr z9.2)) else ((whileF FU (m_X12_findFits_b65 a1 a2 z9) ((0 : Int32), z9.2)).bind (fun p17 => some (.inl (z9.1 + (1 : Int32), p17))))
def m_X12_findFits (a1 : Int32) (a2 : Int32) (mm : Mm) : Option (Mm) := (whileF FU (m_X12_findFits_b35) ((0 : Int32), (sI (sI (sI (sI (sI (sI mm 44 47 (0 : Int32)) 44 48 (-2 : Int32)) 44 49 (1000000 : Int32)) 44 50 (-1 : Int32)) 44 51 (0 : Int32)) 44 52 (0 : Int32)))).bind (fun p2 => (whileF FU (m_X12_findFits_b56 a1 a2) ((0 : Int32), p2)).bind (fun p10 => some p10))
set_option maxHeartbeats 4000000 in
set_option maxRecDepth 100000 in
theorem c_X12_findFits {l : Launch} {G : Gt} {S : Sk} (hS : Lay S) {a1 : Int32} {a2 : Int32} {mm : Mm} {q : Mm} (e : m_X12_findFits a1 a2 mm = some q) : CallOK l G M_X12_findFits yX12_findFits 5 [vr (some 44), vi a1, vi a2] S mm (none) S q := by
  refine call_of_run rfl rfl rfl (Nat.le_of_ble_eq_true rfl) ?_
  show Run l G M_X12_findFits 5 0 [some (vr (some 44)), some (vi a1), some (vi a2), none, none] [] S mm (none) S q
  unfold m_X12_findFits at e
  refine r_aload_n dX12_findFits_0 rfl ?_
  refine r_iconst (v := 0) dX12_findFits_1 ci_0 ?_
  refine r_putI dX12_findFits_2 fl_X12_461 ft_12_47 (Or.inl rfl) rfl rfl rfl (lp_44 hS) (lq_44 hS) ?_
  refine r_aload_n dX12_findFits_5 rfl ?_
  refine r_bipush (v := -2) dX12_findFits_6 cb_m2 ?_
  refine r_putI dX12_findFits_8 fl_X12_464 ft_12_48 (Or.inl rfl) rfl rfl rfl (lp_44 hS) (lq_44 hS) ?_
  refine r_aload_n dX12_findFits_11 rfl ?_
  refine r_ldcw dX12_findFits_12 ct_X12_380 ?_
  refine r_putI dX12_findFits_15 fl_X12_467 ft_12_49 (Or.inl rfl) rfl rfl rfl (lp_44 hS) (lq_44 hS) ?_
  refine r_aload_n dX12_findFits_18 rfl ?_
  refine r_iconst (v := -1) dX12_findFits_19 ci_m1 ?_
  refine r_putI dX12_findFits_20 fl_X12_470 ft_12_50 (Or.inl rfl) rfl rfl rfl (lp_44 hS) (lq_44 hS) ?_
  refine r_aload_n dX12_findFits_23 rfl ?_
  refine r_iconst (v := 0) dX12_findFits_24 ci_0 ?_
  refine r_putI dX12_findFits_25 fl_X12_473 ft_12_51 (Or.inl rfl) rfl rfl rfl (lp_44 hS) (lq_44 hS) ?_
  refine r_aload_n dX12_findFits_28 rfl ?_
  refine r_iconst (v := 0) dX12_findFits_29 ci_0 ?_
  refine r_putI dX12_findFits_30 fl_X12_476 ft_12_52 (Or.inl rfl) rfl rfl rfl (lp_44 hS) (lq_44 hS) ?_
  refine r_iconst (v := 0) dX12_findFits_33 ci_0 ?_
  refine r_istore_n dX12_findFits_34 (by decide) rfl ?_
  obtain ⟨p2, eb6w, e⟩ := obind e
  have J3a : Run l G M_X12_findFits 5 54 [some (vr (some 44)), some (vi a1), some (vi a2), none, none] [] S p2 (none) S q := by
    refine r_iconst (v := 0) dX12_findFits_54 ci_0 ?_
    refine r_istore_n dX12_findFits_55 (by decide) rfl ?_
    obtain ⟨p10, eb14w, e⟩ := obind e
    have J11a : Run l G M_X12_findFits 5 114 [none, none, none, none, none] [] S p10 (none) S q := by
      cases e
      exact r_return dX12_findFits_114 rfl
    have J11 : ∀ pp : Mm, pp = p10 → Run l G M_X12_findFits 5 114 [none, none, none, none, none] [] S pp (none) S q := by
      intro pp hpp
      rw [hpp]
      exact J11a
    have J11w : Run l G M_X12_findFits 5 56 [some (vr (some 44)), some (vi a1), some (vi a2), some (vi (0 : Int32)), none] [] S p2 (none) S q := by
      refine while_run (s := ((0 : Int32), p2)) (Gs := fun (z9 : Int32 × Mm) => Run l G M_X12_findFits 5 56 [some (vr (some 44)), some (vi a1), some (vi a2), some (vi z9.1), none] [] S z9.2 (none) S q) eb14w ?_
      intro z9 x12y eb14 hx13
      unfold m_X12_findFits_b56 at eb14
      refine r_iload_n dX12_findFits_56 rfl ?_
      refine r_bipush (v := 10) dX12_findFits_57 cb_10 ?_
      refine r_icmp_ge (tgt := 114) dX12_findFits_59 rfl (fun h15 => ?_) (fun h15 => ?_)
      · replace eb14 := ite_t h15 eb14
        cases eb14
        exact r_weak (L' := [none, none, none, none, none]) trivial (J11 _ hx13)
      · replace eb14 := ite_f h15 eb14
        refine r_iconst (v := 0) dX12_findFits_62 ci_0 ?_
        refine r_istore dX12_findFits_63 (by decide) rfl ?_
        obtain ⟨p17, eb21w, eb14⟩ := obind eb14
        have J18a : Run l G M_X12_findFits 5 108 [some (vr (some 44)), some (vi a1), some (vi a2), some (vi z9.1), none] [] S p17 (none) S q := by
          refine r_iinc (v := _ + (1 : Int32)) dX12_findFits_108 rfl (congrArg (_ + ·) ci_1) (by decide) rfl ?_
          refine r_goto (tgt := 56) dX12_findFits_111 rfl ?_
          cases eb14
          exact r_weak (L' := [some (vr (some 44)), some (vi a1), some (vi a2), some (vi (z9.1 + (1 : Int32))), none]) ⟨rfl, rfl, rfl, rfl, trivial⟩ hx13
        have J18 : ∀ pp : Mm, pp = p17 → Run l G M_X12_findFits 5 108 [some (vr (some 44)), some (vi a1), some (vi a2), some (vi z9.1), none] [] S pp (none) S q := by
          intro pp hpp
          rw [hpp]
          exact J18a
        have J18w : Run l G M_X12_findFits 5 65 [some (vr (some 44)), some (vi a1), some (vi a2), some (vi z9.1), some (vi (0 : Int32))] [] S z9.2 (none) S q := by
          refine while_run (s := ((0 : Int32), z9.2)) (Gs := fun (z16 : Int32 × Mm) => Run l G M_X12_findFits 5 65 [some (vr (some 44)), some (vi a1), some (vi a2), some (vi z9.1), some (vi z16.1)] [] S z16.2 (none) S q) eb21w ?_
          intro z16 x19y eb21 hx20
          unfold m_X12_findFits_b65 at eb21
          refine r_iload dX12_findFits_65 rfl ?_
          refine r_iconst (v := 5) dX12_findFits_67 ci_5 ?_
          refine r_icmp_ge (tgt := 108) dX12_findFits_68 rfl (fun h22 => ?_) (fun h22 => ?_)
          · replace eb21 := ite_t h22 eb21
            cases eb21
            exact r_weak (L' := [some (vr (some 44)), some (vi a1), some (vi a2), some (vi z9.1), none]) ⟨rfl, rfl, rfl, rfl, trivial⟩ (J18 _ hx20)
          · replace eb21 := ite_f h22 eb21
            refine r_aload_n dX12_findFits_71 rfl ?_
            refine r_getR dX12_findFits_72 fl_X12_44 rfl (lp_44 hS) (lq_44 hS) (lr_44_31 hS) ?_
            refine r_iload_n dX12_findFits_75 rfl ?_
            refine r_iload_n dX12_findFits_76 rfl ?_
            obtain ⟨hg23, eb21⟩ := grd_some eb21
            refine r_iast dX12_findFits_77 (lp_56 hS) (lk_56 hS) hg23 ?_
            refine r_aload_n dX12_findFits_78 rfl ?_
            refine r_getR dX12_findFits_79 fl_X12_47 rfl (lp_44 hS) (lq_44 hS) (lr_44_32 hS) ?_
            refine r_iload_n dX12_findFits_82 rfl ?_
            refine r_iload dX12_findFits_83 rfl ?_
            obtain ⟨hg24, eb21⟩ := grd_some eb21
            refine r_iast dX12_findFits_85 (lp_57 hS) (lk_57 hS) hg24 ?_
            refine r_aload_n dX12_findFits_86 rfl ?_
            obtain ⟨q25, eq26, eb21⟩ := obind eb21
            refine r_callV (as := []) (rest := []) dX12_findFits_87 ml_X12_479 yV_X12_isSo (c_X12_isSo hS eq26) (by decide) rfl (lp_44 hS) (lq_44 hS) (Nat.le_of_ble_eq_true rfl) ?_
            obtain ⟨p27, ep29, eb21⟩ := obind eb21
            have J28a : Run l G M_X12_findFits 5 102 [some (vr (some 44)), some (vi a1), some (vi a2), some (vi z9.1), some (vi z16.1)] [] S p27 (none) S q := by
              refine r_iinc (v := _ + (1 : Int32)) dX12_findFits_102 rfl (congrArg (_ + ·) ci_1) (by decide) rfl ?_
              refine r_goto (tgt := 65) dX12_findFits_105 rfl ?_
              cases eb21
              exact r_weak (L' := [some (vr (some 44)), some (vi a1), some (vi a2), some (vi z9.1), some (vi (z16.1 + (1 : Int32)))]) ⟨rfl, rfl, rfl, rfl, rfl, trivial⟩ hx20
            have J28 : ∀ pp : Mm, pp = p27 → Run l G M_X12_findFits 5 102 [some (vr (some 44)), some (vi a1), some (vi a2), some (vi z9.1), some (vi z16.1)] [] S pp (none) S q := by
              intro pp hpp
              rw [hpp]
              exact J28a
            refine r_if_eq (tgt := 102) dX12_findFits_90 rfl (fun h31 => ?_) (fun h31 => ?_)
            · replace ep29 := ite_t h31 ep29
              exact r_weak (L' := [some (vr (some 44)), some (vi a1), some (vi a2), some (vi z9.1), some (vi z16.1)]) ⟨rfl, rfl, rfl, rfl, rfl, trivial⟩ (J28 _ (Option.some.inj ep29))
            · replace ep29 := ite_f h31 ep29
              refine r_aload_n dX12_findFits_93 rfl ?_
              refine r_iload_n dX12_findFits_94 rfl ?_
              refine r_iload_n dX12_findFits_95 rfl ?_
              refine r_iload dX12_findFits_96 rfl ?_
              refine r_iload_n dX12_findFits_98 rfl ?_
              obtain ⟨q32, eq33, ep29⟩ := obind ep29
              refine r_callV (as := [_, _, _, _]) (rest := []) dX12_findFits_99 ml_X12_482 yV_X12_noteFit (c_X12_noteFit hS eq33) (by decide) rfl (lp_44 hS) (lq_44 hS) (Nat.le_of_ble_eq_true rfl) ?_
              exact r_weak (L' := [some (vr (some 44)), some (vi a1), some (vi a2), some (vi z9.1), some (vi z16.1)]) ⟨rfl, rfl, rfl, rfl, rfl, trivial⟩ (J28 _ (Option.some.inj ep29))
        exact r_weak (L' := [some (vr (some 44)), some (vi a1), some (vi a2), some (vi z9.1), some (vi (0 : Int32))]) ⟨rfl, rfl, rfl, rfl, rfl, trivial⟩ J18w
    exact r_weak (L' := [some (vr (some 44)), some (vi a1), some (vi a2), some (vi (0 : Int32)), none]) ⟨rfl, rfl, rfl, rfl, trivial⟩ J11w
  have J3 : ∀ pp : Mm, pp = p2 → Run l G M_X12_findFits 5 54 [some (vr (some 44)), some (vi a1), some (vi a2), none, none] [] S pp (none) S q := by
    intro pp hpp
    rw [hpp]
    exact J3a
  have J3w : Run l G M_X12_findFits 5 35 [some (vr (some 44)), some (vi a1), some (vi a2), some (vi (0 : Int32)), none] [] S (sI (sI (sI (sI (sI (sI mm 44 47 (0 : Int32)) 44 48 (-2 : Int32)) 44 49 (1000000 : Int32)) 44 50 (-1 : Int32)) 44 51 (0 : Int32)) 44 52 (0 : Int32)) (none) S q := by
    refine while_run (s := ((0 : Int32), (sI (sI (sI (sI (sI (sI mm 44 47 (0 : Int32)) 44 48 (-2 : Int32)) 44 49 (1000000 : Int32)) 44 50 (-1 : Int32)) 44 51 (0 : Int32)) 44 52 (0 : Int32)))) (Gs := fun (z1 : Int32 × Mm) => Run l G M_X12_findFits 5 35 [some (vr (some 44)), some (vi a1), some (vi a2), some (vi z1.1), none] [] S z1.2 (none) S q) eb6w ?_
    intro z1 x4y eb6 hx5
    unfold m_X12_findFits_b35 at eb6
    refine r_iload_n dX12_findFits_35 rfl ?_
    refine r_bipush (v := 8) dX12_findFits_36 cb_8 ?_
    refine r_icmp_ge (tgt := 54) dX12_findFits_38 rfl (fun h7 => ?_) (fun h7 => ?_)
    · replace eb6 := ite_t h7 eb6
      cases eb6
      exact r_weak (L' := [some (vr (some 44)), some (vi a1), some (vi a2), none, none]) ⟨rfl, rfl, rfl, trivial⟩ (J3 _ hx5)
    · replace eb6 := ite_f h7 eb6
      refine r_aload_n dX12_findFits_41 rfl ?_
      refine r_getR dX12_findFits_42 fl_X12_80 rfl (lp_44 hS) (lq_44 hS) (lr_44_53 hS) ?_
      refine r_iload_n dX12_findFits_45 rfl ?_
      refine r_iconst (v := 0) dX12_findFits_46 ci_0 ?_
      obtain ⟨hg8, eb6⟩ := grd_some eb6
      refine r_iast dX12_findFits_47 (lp_68 hS) (lk_68 hS) hg8 ?_
      refine r_iinc (v := _ + (1 : Int32)) dX12_findFits_48 rfl (congrArg (_ + ·) ci_1) (by decide) rfl ?_
      refine r_goto (tgt := 35) dX12_findFits_51 rfl ?_
      cases eb6
      exact r_weak (L' := [some (vr (some 44)), some (vi a1), some (vi a2), some (vi (z1.1 + (1 : Int32))), none]) ⟨rfl, rfl, rfl, rfl, trivial⟩ hx5
  exact r_weak (L' := [some (vr (some 44)), some (vi a1), some (vi a2), some (vi (0 : Int32)), none]) ⟨rfl, rfl, rfl, rfl, trivial⟩ J3w
def m_X12_sure_b2 (a0 : Int32) (z1 : Int32) : Option ((Int32) ⊕ ((Unit) ⊕ (Int32))) := if (10 : Int32) ≤ z1 then (some (.inr (.inl ()))) else (if a0 = (xshl (1 : Int32) z1) then (some (.inr (.inr z1))) else (some (.inl (z1 + (1 : Int32)))))
def m_X12_sure (a0 : Int32) : Option (Int32) := bS (whileF FU (m_X12_sure_b2 a0) (0 : Int32)) (fun p2 => some (-1 : Int32))
set_option maxHeartbeats 4000000 in
set_option maxRecDepth 100000 in
theorem c_X12_sure {l : Launch} {G : Gt} {S : Sk} (hS : Lay S) {a0 : Int32} {mm : Mm} {q : Int32} (e : m_X12_sure a0 = some q) : CallOK l G M_X12_sure yX12_sure 0 [vi a0] S mm (some (vi q)) S mm := by
  refine call_of_run rfl rfl rfl (Nat.le_of_ble_eq_true rfl) ?_
  show Run l G M_X12_sure 0 0 [some (vi a0), none] [] S mm (some (vi q)) S mm
  unfold m_X12_sure at e
  refine r_iconst (v := 0) dX12_sure_0 ci_0 ?_
  refine r_istore_n dX12_sure_1 (by decide) rfl ?_
  obtain ⟨x4, eb6w, elx4, erx4⟩ := bS_some e
  have J3 : ∀ p2 : Unit, x4 = .inl p2 → Run l G M_X12_sure 0 23 [none, none] [] S mm (some (vi q)) S mm := by
    intro p2 hp2
    replace e := elx4 p2 hp2
    refine r_iconst (v := -1) dX12_sure_23 ci_m1 ?_
    cases e
    exact r_ireturn dX12_sure_24 rfl rfl
  have J3w : Run l G M_X12_sure 0 2 [some (vi a0), some (vi (0 : Int32))] [] S mm (some (vi q)) S mm := by
    refine while_run (s := (0 : Int32)) (Gs := fun (z1 : Int32) => Run l G M_X12_sure 0 2 [some (vi a0), some (vi z1)] [] S mm (some (vi q)) S mm) eb6w ?_
    intro z1 x4y eb6 hx5
    unfold m_X12_sure_b2 at eb6
    refine r_iload_n dX12_sure_2 rfl ?_
    refine r_bipush (v := 10) dX12_sure_3 cb_10 ?_
    refine r_icmp_ge (tgt := 23) dX12_sure_5 rfl (fun h7 => ?_) (fun h7 => ?_)
    · replace eb6 := ite_t h7 eb6
      cases eb6
      exact r_weak (L' := [none, none]) trivial (J3 _ (Eq.symm hx5))
    · replace eb6 := ite_f h7 eb6
      refine r_iload_n dX12_sure_8 rfl ?_
      refine r_iconst (v := 1) dX12_sure_9 ci_1 ?_
      refine r_iload_n dX12_sure_10 rfl ?_
      refine r_ishl dX12_sure_11 ?_
      refine r_icmp_ne (tgt := 17) dX12_sure_12 rfl (fun h8 => ?_) (fun h8 => ?_)
      · replace eb6 := ite_f h8 eb6
        refine r_iinc (v := _ + (1 : Int32)) dX12_sure_17 rfl (congrArg (_ + ·) ci_1) (by decide) rfl ?_
        refine r_goto (tgt := 2) dX12_sure_20 rfl ?_
        cases eb6
        exact r_weak (L' := [some (vi a0), some (vi (z1 + (1 : Int32)))]) ⟨rfl, rfl, trivial⟩ hx5
      · replace eb6 := ite_t h8 eb6
        refine r_iload_n dX12_sure_15 rfl ?_
        cases eb6
        have e := congrArg some (erx4 _ (Eq.symm hx5))
        cases e
        exact r_ireturn dX12_sure_16 rfl rfl
  exact r_weak (L' := [some (vi a0), some (vi (0 : Int32))]) ⟨rfl, rfl, trivial⟩ J3w
def m_X12_askWhat_b8 (mm : Mm) (z1 : Int32 × Int32 × Int32) : Option ((Int32 × Int32 × Int32) ⊕ (Int32)) := if (8 : Int32) ≤ z1.2.2 then (some (.inr z1.1)) else (if (mI mm 44 47) ≤ 0 then (some (.inr z1.1)) else (grd z1.2.2 8 (grd z1.2.2 8 (some (.inl ((if z1.2.1 ≤ (m_X12_greater (mI mm 68 (ix z1.2.2)) ((mI mm 44 47) - (mI mm 68 (ix z1.2.2)))) then z1.1 else z1.2.2), (m_X12_lesser z1.2.1 (m_X12_greater (mI mm 68 (ix z1.2.2)) ((mI mm 44 47) - (mI mm 68 (ix z1.2.2))))), z1.2.2 + (1 : Int32)))))))
def m_X12_askWhat (mm : Mm) : Option (Int32) := (whileF FU (m_X12_askWhat_b8 mm) ((-1 : Int32), (1000000 : Int32), (0 : Int32))).bind (fun p2 => some p2)
set_option maxHeartbeats 4000000 in
set_option maxRecDepth 100000 in
theorem c_X12_askWhat {l : Launch} {G : Gt} {S : Sk} (hS : Lay S) {mm : Mm} {q : Int32} (e : m_X12_askWhat mm = some q) : CallOK l G M_X12_askWhat yX12_askWhat 1 [vr (some 44)] S mm (some (vi q)) S mm := by
  refine call_of_run rfl rfl rfl (Nat.le_of_ble_eq_true rfl) ?_
  show Run l G M_X12_askWhat 1 0 [some (vr (some 44)), none, none, none, none] [] S mm (some (vi q)) S mm
  unfold m_X12_askWhat at e
  refine r_iconst (v := -1) dX12_askWhat_0 ci_m1 ?_
  refine r_istore_n dX12_askWhat_1 (by decide) rfl ?_
  refine r_ldcw dX12_askWhat_2 ct_X12_380 ?_
  refine r_istore_n dX12_askWhat_5 (by decide) rfl ?_
  refine r_iconst (v := 0) dX12_askWhat_6 ci_0 ?_
  refine r_istore_n dX12_askWhat_7 (by decide) rfl ?_
  obtain ⟨p2, eb6w, e⟩ := obind e
  have J3a : Run l G M_X12_askWhat 1 68 [none, some (vi p2), none, none, none] [] S mm (some (vi q)) S mm := by
    refine r_iload_n dX12_askWhat_68 rfl ?_
    cases e
    exact r_ireturn dX12_askWhat_69 rfl rfl
  have J3 : ∀ pp : Int32, pp = p2 → Run l G M_X12_askWhat 1 68 [none, some (vi pp), none, none, none] [] S mm (some (vi q)) S mm := by
    intro pp hpp
    rw [hpp]
    exact J3a
  have J3w : Run l G M_X12_askWhat 1 8 [some (vr (some 44)), some (vi (-1 : Int32)), some (vi (1000000 : Int32)), some (vi (0 : Int32)), none] [] S mm (some (vi q)) S mm := by
    refine while_run (s := ((-1 : Int32), (1000000 : Int32), (0 : Int32))) (Gs := fun (z1 : Int32 × Int32 × Int32) => Run l G M_X12_askWhat 1 8 [some (vr (some 44)), some (vi z1.1), some (vi z1.2.1), some (vi z1.2.2), none] [] S mm (some (vi q)) S mm) eb6w ?_
    intro z1 x4y eb6 hx5
    unfold m_X12_askWhat_b8 at eb6
    refine r_iload_n dX12_askWhat_8 rfl ?_
    refine r_bipush (v := 8) dX12_askWhat_9 cb_8 ?_
    refine r_icmp_ge (tgt := 68) dX12_askWhat_11 rfl (fun h7 => ?_) (fun h7 => ?_)
    · replace eb6 := ite_t h7 eb6
      cases eb6
      exact r_weak (L' := [none, some (vi z1.1), none, none, none]) ⟨rfl, trivial⟩ (J3 _ hx5)
    · replace eb6 := ite_f h7 eb6
      refine r_aload_n dX12_askWhat_14 rfl ?_
      refine r_getI dX12_askWhat_15 fl_X12_461 rfl (lp_44 hS) (lq_44 hS) ?_
      refine r_if_le (tgt := 68) dX12_askWhat_18 rfl (fun h8 => ?_) (fun h8 => ?_)
      · replace eb6 := ite_t h8 eb6
        cases eb6
        exact r_weak (L' := [none, some (vi z1.1), none, none, none]) ⟨rfl, trivial⟩ (J3 _ hx5)
      · replace eb6 := ite_f h8 eb6
        refine r_aload_n dX12_askWhat_21 rfl ?_
        refine r_getR dX12_askWhat_22 fl_X12_80 rfl (lp_44 hS) (lq_44 hS) (lr_44_53 hS) ?_
        refine r_iload_n dX12_askWhat_25 rfl ?_
        obtain ⟨hg9, eb6⟩ := grd_some eb6
        refine r_iald dX12_askWhat_26 (lp_68 hS) (lk_68 hS) hg9 ?_
        refine r_aload_n dX12_askWhat_27 rfl ?_
        refine r_getI dX12_askWhat_28 fl_X12_461 rfl (lp_44 hS) (lq_44 hS) ?_
        refine r_aload_n dX12_askWhat_31 rfl ?_
        refine r_getR dX12_askWhat_32 fl_X12_80 rfl (lp_44 hS) (lq_44 hS) (lr_44_53 hS) ?_
        refine r_iload_n dX12_askWhat_35 rfl ?_
        obtain ⟨hg10, eb6⟩ := grd_some eb6
        refine r_iald dX12_askWhat_36 (lp_68 hS) (lk_68 hS) hg10 ?_
        refine r_isub dX12_askWhat_37 ?_
        refine r_callS (as := [_, _]) (rest := []) dX12_askWhat_38 ml_X12_178 yS_X12_greater (c_X12_greater hS) (by decide) rfl (Nat.le_of_ble_eq_true rfl) ?_
        refine r_istore dX12_askWhat_41 (by decide) rfl ?_
        refine r_iload dX12_askWhat_43 rfl ?_
        refine r_iload_n dX12_askWhat_45 rfl ?_
        have J13 : ∀ (w12 : Int32), w12 = (if z1.2.1 ≤ (m_X12_greater (mI mm 68 (ix z1.2.2)) ((mI mm 44 47) - (mI mm 68 (ix z1.2.2)))) then z1.1 else z1.2.2) → Run l G M_X12_askWhat 1 54 [some (vr (some 44)), none, some (vi z1.2.1), some (vi z1.2.2), some (vi (m_X12_greater (mI mm 68 (ix z1.2.2)) ((mI mm 44 47) - (mI mm 68 (ix z1.2.2)))))] [vi w12] S mm (some (vi q)) S mm := by
          intro w12 hw14
          subst hw14
          refine r_istore_n dX12_askWhat_54 (by decide) rfl ?_
          refine r_iload_n dX12_askWhat_55 rfl ?_
          refine r_iload dX12_askWhat_56 rfl ?_
          refine r_callS (as := [_, _]) (rest := []) dX12_askWhat_58 ml_X12_168 yS_X12_lesser (c_X12_lesser hS) (by decide) rfl (Nat.le_of_ble_eq_true rfl) ?_
          refine r_istore_n dX12_askWhat_61 (by decide) rfl ?_
          refine r_iinc (v := _ + (1 : Int32)) dX12_askWhat_62 rfl (congrArg (_ + ·) ci_1) (by decide) rfl ?_
          refine r_goto (tgt := 8) dX12_askWhat_65 rfl ?_
          cases eb6
          exact r_weak (L' := [some (vr (some 44)), some (vi (if z1.2.1 ≤ (m_X12_greater (mI mm 68 (ix z1.2.2)) ((mI mm 44 47) - (mI mm 68 (ix z1.2.2)))) then z1.1 else z1.2.2)), some (vi (m_X12_lesser z1.2.1 (m_X12_greater (mI mm 68 (ix z1.2.2)) ((mI mm 44 47) - (mI mm 68 (ix z1.2.2)))))), some (vi (z1.2.2 + (1 : Int32))), none]) ⟨rfl, rfl, rfl, rfl, trivial⟩ hx5
        refine r_icmp_ge (tgt := 53) dX12_askWhat_46 rfl (fun h11 => ?_) (fun h11 => ?_)
        · refine r_iload_n dX12_askWhat_53 rfl ?_
          exact r_weak (L' := [some (vr (some 44)), none, some (vi z1.2.1), some (vi z1.2.2), some (vi (m_X12_greater (mI mm 68 (ix z1.2.2)) ((mI mm 44 47) - (mI mm 68 (ix z1.2.2)))))]) ⟨rfl, rfl, rfl, rfl, trivial⟩ (J13 _ (Eq.symm (if_pos h11)))
        · refine r_iload_n dX12_askWhat_49 rfl ?_
          refine r_goto (tgt := 54) dX12_askWhat_50 rfl ?_
          exact r_weak (L' := [some (vr (some 44)), none, some (vi z1.2.1), some (vi z1.2.2), some (vi (m_X12_greater (mI mm 68 (ix z1.2.2)) ((mI mm 44 47) - (mI mm 68 (ix z1.2.2)))))]) ⟨rfl, rfl, rfl, rfl, trivial⟩ (J13 _ (Eq.symm (if_neg h11)))
  exact r_weak (L' := [some (vr (some 44)), some (vi (-1 : Int32)), some (vi (1000000 : Int32)), some (vi (0 : Int32)), none]) ⟨rfl, rfl, rfl, rfl, trivial⟩ J3w
def m_X12_fits (a1 : Int32) (a2 : Int32) (a3 : Int32) (a4 : Int32) (mm : Mm) : Option (Int32 × Mm) := (m_X12_hasLog a2 (sI mm 44 0 (0 : Int32))).bind (fun q1 => if q1.1 = 0 then (some ((-2 : Int32), q1.2)) else ((m_X12_hand a1 q1.2).bind (fun q4 => if q4.1 = 0 then (some ((-2 : Int32), q4.2)) else ((m_X12_isOne a3 q4.2).bind (fun q7 => if q7 = 0 then (some ((-2 : Int32), q4.2)) else ((m_X12_findFits a3 (a4 - (10 : Int32)) q4.2).bind (fun q10 => if a4 < (10 : Int32) then (if a4 = (0 : Int32) then (some (mI q10 44 47, q10)) else (if a4 = (1 : Int32) then ((m_X12_sure (mI q10 44 51)).bind (fun q15 => some (q15, q10))) else (if a4 = (2 : Int32) then ((m_X12_sure (mI q10 44 52)).bind (fun q18 => some (q18, q10))) else (if a4 = (3 : Int32) then ((m_X12_askWhat q10).bind (fun q21 => some (q21, q10))) else (if a4 = (4 : Int32) then (if (mI q10 44 47) = 0 then (some ((-1 : Int32), q10)) else (some (mI q10 44 49, q10))) else (if a4 = (5 : Int32) then (some (mI q10 44 50, q10)) else (some ((-2 : Int32), q10)))))))) else (some (mI q10 44 48, q10)))))))))
set_option maxHeartbeats 4000000 in
set_option maxRecDepth 100000 in
theorem c_X12_fits {l : Launch} {G : Gt} {S : Sk} (hS : Lay S) {a1 : Int32} {a2 : Int32} {a3 : Int32} {a4 : Int32} {mm : Mm} {q : Int32 × Mm} (e : m_X12_fits a1 a2 a3 a4 mm = some q) : CallOK l G M_X12_fits yX12_fits 6 [vr (some 44), vi a1, vi a2, vi a3, vi a4] S mm (some (vi q.1)) S q.2 := by
  refine call_of_run rfl rfl rfl (Nat.le_of_ble_eq_true rfl) ?_
  show Run l G M_X12_fits 6 0 [some (vr (some 44)), some (vi a1), some (vi a2), some (vi a3), some (vi a4)] [] S mm (some (vi q.1)) S q.2
  unfold m_X12_fits at e
  refine r_aload_n dX12_fits_0 rfl ?_
  refine r_iconst (v := 0) dX12_fits_1 ci_0 ?_
  refine r_putI dX12_fits_2 fl_X12_90 ft_12_0 (Or.inl rfl) rfl rfl rfl (lp_44 hS) (lq_44 hS) ?_
  refine r_aload_n dX12_fits_5 rfl ?_
  refine r_iload_n dX12_fits_6 rfl ?_
  obtain ⟨q1, eq2, e⟩ := obind e
  refine r_callV (as := [_]) (rest := []) dX12_fits_7 ml_X12_452 yV_X12_hasLog (c_X12_hasLog hS eq2) (by decide) rfl (lp_44 hS) (lq_44 hS) (Nat.le_of_ble_eq_true rfl) ?_
  refine r_if_eq (tgt := 29) dX12_fits_10 rfl (fun h3 => ?_) (fun h3 => ?_)
  · replace e := ite_t h3 e
    refine r_bipush (v := -2) dX12_fits_29 cb_m2 ?_
    cases e
    exact r_ireturn dX12_fits_31 rfl rfl
  · replace e := ite_f h3 e
    refine r_aload_n dX12_fits_13 rfl ?_
    refine r_iload_n dX12_fits_14 rfl ?_
    obtain ⟨q4, eq5, e⟩ := obind e
    refine r_callV (as := [_]) (rest := []) dX12_fits_15 ml_X12_310 yV_X12_hand (c_X12_hand hS eq5) (by decide) rfl (lp_44 hS) (lq_44 hS) (Nat.le_of_ble_eq_true rfl) ?_
    refine r_if_eq (tgt := 29) dX12_fits_18 rfl (fun h6 => ?_) (fun h6 => ?_)
    · replace e := ite_t h6 e
      refine r_bipush (v := -2) dX12_fits_29 cb_m2 ?_
      cases e
      exact r_ireturn dX12_fits_31 rfl rfl
    · replace e := ite_f h6 e
      refine r_aload_n dX12_fits_21 rfl ?_
      refine r_iload_n dX12_fits_22 rfl ?_
      obtain ⟨q7, eq8, e⟩ := obind e
      refine r_callV (as := [_]) (rest := []) dX12_fits_23 ml_X12_289 yV_X12_isOne (c_X12_isOne hS eq8) (by decide) rfl (lp_44 hS) (lq_44 hS) (Nat.le_of_ble_eq_true rfl) ?_
      refine r_if_ne (tgt := 32) dX12_fits_26 rfl (fun h9 => ?_) (fun h9 => ?_)
      · replace e := ite_f h9 e
        refine r_aload_n dX12_fits_32 rfl ?_
        refine r_iload_n dX12_fits_33 rfl ?_
        refine r_iload dX12_fits_34 rfl ?_
        refine r_bipush (v := 10) dX12_fits_36 cb_10 ?_
        refine r_isub dX12_fits_38 ?_
        obtain ⟨q10, eq11, e⟩ := obind e
        refine r_callV (as := [_, _]) (rest := []) dX12_fits_39 ml_X12_486 yV_X12_findFits (c_X12_findFits hS eq11) (by decide) rfl (lp_44 hS) (lq_44 hS) (Nat.le_of_ble_eq_true rfl) ?_
        refine r_iload dX12_fits_42 rfl ?_
        refine r_bipush (v := 10) dX12_fits_44 cb_10 ?_
        refine r_icmp_lt (tgt := 54) dX12_fits_46 rfl (fun h12 => ?_) (fun h12 => ?_)
        · replace e := ite_t h12 e
          refine r_iload dX12_fits_54 rfl ?_
          by_cases h13 : a4 = (0 : Int32)
          · replace e := ite_t h13 e
            refine r_table_in (tgt := 96) dX12_fits_56 (by rw [h13]; decide) (by rw [h13]; decide) (by rw [h13]; rfl) rfl ?_
            refine r_aload_n dX12_fits_96 rfl ?_
            refine r_getI dX12_fits_97 fl_X12_461 rfl (lp_44 hS) (lq_44 hS) ?_
            cases e
            exact r_ireturn dX12_fits_100 rfl rfl
          replace e := ite_f h13 e
          by_cases h14 : a4 = (1 : Int32)
          · replace e := ite_t h14 e
            refine r_table_in (tgt := 101) dX12_fits_56 (by rw [h14]; decide) (by rw [h14]; decide) (by rw [h14]; rfl) rfl ?_
            refine r_aload_n dX12_fits_101 rfl ?_
            refine r_getI dX12_fits_102 fl_X12_473 rfl (lp_44 hS) (lq_44 hS) ?_
            obtain ⟨q15, eq16, e⟩ := obind e
            refine r_callS (as := [_]) (rest := []) dX12_fits_105 ml_X12_489 yS_X12_sure (c_X12_sure hS eq16) (by decide) rfl (Nat.le_of_ble_eq_true rfl) ?_
            cases e
            exact r_ireturn dX12_fits_108 rfl rfl
          replace e := ite_f h14 e
          by_cases h17 : a4 = (2 : Int32)
          · replace e := ite_t h17 e
            refine r_table_in (tgt := 109) dX12_fits_56 (by rw [h17]; decide) (by rw [h17]; decide) (by rw [h17]; rfl) rfl ?_
            refine r_aload_n dX12_fits_109 rfl ?_
            refine r_getI dX12_fits_110 fl_X12_476 rfl (lp_44 hS) (lq_44 hS) ?_
            obtain ⟨q18, eq19, e⟩ := obind e
            refine r_callS (as := [_]) (rest := []) dX12_fits_113 ml_X12_489 yS_X12_sure (c_X12_sure hS eq19) (by decide) rfl (Nat.le_of_ble_eq_true rfl) ?_
            cases e
            exact r_ireturn dX12_fits_116 rfl rfl
          replace e := ite_f h17 e
          by_cases h20 : a4 = (3 : Int32)
          · replace e := ite_t h20 e
            refine r_table_in (tgt := 117) dX12_fits_56 (by rw [h20]; decide) (by rw [h20]; decide) (by rw [h20]; rfl) rfl ?_
            refine r_aload_n dX12_fits_117 rfl ?_
            obtain ⟨q21, eq22, e⟩ := obind e
            refine r_callV (as := []) (rest := []) dX12_fits_118 ml_X12_492 yV_X12_askWhat (c_X12_askWhat hS eq22) (by decide) rfl (lp_44 hS) (lq_44 hS) (Nat.le_of_ble_eq_true rfl) ?_
            cases e
            exact r_ireturn dX12_fits_121 rfl rfl
          replace e := ite_f h20 e
          by_cases h23 : a4 = (4 : Int32)
          · replace e := ite_t h23 e
            refine r_table_in (tgt := 122) dX12_fits_56 (by rw [h23]; decide) (by rw [h23]; decide) (by rw [h23]; rfl) rfl ?_
            refine r_aload_n dX12_fits_122 rfl ?_
            refine r_getI dX12_fits_123 fl_X12_461 rfl (lp_44 hS) (lq_44 hS) ?_
            refine r_if_ne (tgt := 133) dX12_fits_126 rfl (fun h24 => ?_) (fun h24 => ?_)
            · replace e := ite_f h24 e
              refine r_aload_n dX12_fits_133 rfl ?_
              refine r_getI dX12_fits_134 fl_X12_467 rfl (lp_44 hS) (lq_44 hS) ?_
              cases e
              exact r_ireturn dX12_fits_137 rfl rfl
            · replace e := ite_t h24 e
              refine r_iconst (v := -1) dX12_fits_129 ci_m1 ?_
              refine r_goto (tgt := 137) dX12_fits_130 rfl ?_
              cases e
              exact r_ireturn dX12_fits_137 rfl rfl
          replace e := ite_f h23 e
          by_cases h25 : a4 = (5 : Int32)
          · replace e := ite_t h25 e
            refine r_table_in (tgt := 138) dX12_fits_56 (by rw [h25]; decide) (by rw [h25]; decide) (by rw [h25]; rfl) rfl ?_
            refine r_aload_n dX12_fits_138 rfl ?_
            refine r_getI dX12_fits_139 fl_X12_470 rfl (lp_44 hS) (lq_44 hS) ?_
            cases e
            exact r_ireturn dX12_fits_142 rfl rfl
          replace e := ite_f h25 e
          have ho56 : (a4).toInt < 0 ∨ 5 < (a4).toInt := by
            have nh13 := lv_neT (a := 0) h13 (by decide)
            have nh14 := lv_neT (a := 1) h14 (by decide)
            have nh17 := lv_neT (a := 2) h17 (by decide)
            have nh20 := lv_neT (a := 3) h20 (by decide)
            have nh23 := lv_neT (a := 4) h23 (by decide)
            have nh25 := lv_neT (a := 5) h25 (by decide)
            omega
          refine r_table_out (tgt := 143) dX12_fits_56 ho56 rfl ?_
          refine r_bipush (v := -2) dX12_fits_143 cb_m2 ?_
          cases e
          exact r_ireturn dX12_fits_145 rfl rfl
        · replace e := ite_f h12 e
          refine r_aload_n dX12_fits_49 rfl ?_
          refine r_getI dX12_fits_50 fl_X12_464 rfl (lp_44 hS) (lq_44 hS) ?_
          cases e
          exact r_ireturn dX12_fits_53 rfl rfl
      · replace e := ite_t h9 e
        refine r_bipush (v := -2) dX12_fits_29 cb_m2 ?_
        cases e
        exact r_ireturn dX12_fits_31 rfl rfl
def m_X12_draw (a1 : Int32) (mm : Mm) : Option (Int32 × Mm) := gdz a1 (some (xrem (xushr (mI (sI mm 44 54 (((mI mm 44 54) * (1103515245 : Int32)) + (12345 : Int32))) 44 54) (16 : Int32)) a1, (sI mm 44 54 (((mI mm 44 54) * (1103515245 : Int32)) + (12345 : Int32)))))
set_option maxHeartbeats 4000000 in
set_option maxRecDepth 100000 in
theorem c_X12_draw {l : Launch} {G : Gt} {S : Sk} (hS : Lay S) {a1 : Int32} {mm : Mm} {q : Int32 × Mm} (e : m_X12_draw a1 mm = some q) : CallOK l G M_X12_draw yX12_draw 0 [vr (some 44), vi a1] S mm (some (vi q.1)) S q.2 := by
  refine call_of_run rfl rfl rfl (Nat.le_of_ble_eq_true rfl) ?_
  show Run l G M_X12_draw 0 0 [some (vr (some 44)), some (vi a1)] [] S mm (some (vi q.1)) S q.2
  unfold m_X12_draw at e
  refine r_aload_n dX12_draw_0 rfl ?_
  refine r_aload_n dX12_draw_1 rfl ?_
  refine r_getI dX12_draw_2 fl_X12_495 rfl (lp_44 hS) (lq_44 hS) ?_
  refine r_ldcw dX12_draw_5 ct_X12_498 ?_
  refine r_imul dX12_draw_8 ?_
  refine r_sipush (v := 12345) dX12_draw_9 cs_12345 ?_
  refine r_iadd dX12_draw_12 ?_
  refine r_putI dX12_draw_13 fl_X12_495 ft_12_54 (Or.inl rfl) rfl rfl rfl (lp_44 hS) (lq_44 hS) ?_
  refine r_aload_n dX12_draw_16 rfl ?_
  refine r_getI dX12_draw_17 fl_X12_495 rfl (lp_44 hS) (lq_44 hS) ?_
  refine r_bipush (v := 16) dX12_draw_20 cb_16 ?_
  refine r_iushr dX12_draw_22 ?_
  refine r_iload_n dX12_draw_23 rfl ?_
  obtain ⟨hz1, e⟩ := gdz_some e
  refine r_irem dX12_draw_24 hz1 ?_
  cases e
  exact r_ireturn dX12_draw_25 rfl rfl
def m_X12_drawDeed (mm : Mm) : Option (Mm) := (m_X12_draw (10 : Int32) mm).bind (fun q1 => if q1.1 = (9 : Int32) then ((m_X12_does (0 : Int32) (-1 : Int32) (-1 : Int32) (-1 : Int32) q1.2).bind (fun q38 => some q38.2)) else (if (if q1.1 = (8 : Int32) then (1 : Int32) else (2 : Int32)) ≤ (mI q1.2 44 24) then ((m_X12_draw (mI q1.2 44 24) q1.2).bind (fun q8 => if q1.1 = (8 : Int32) then ((m_X12_draw (2 : Int32) q8.2).bind (fun q29 => (m_X12_does (if q29.1 = 0 then (1 : Int32) else (2 : Int32)) q8.1 (-1 : Int32) (-1 : Int32) q29.2).bind (fun q34 => some q34.2))) else ((m_X12_draw ((mI q8.2 44 24) - (1 : Int32)) q8.2).bind (fun q11 => gdz (mI q11.2 44 24) ((if (4 : Int32) ≤ q1.1 then (some ((-1 : Int32), q11.2)) else ((m_X12_draw (8 : Int32) q11.2).bind (fun q19 => some (q19.1, q19.2))) : Option (Int32 × Mm)).bind (fun p14 => (m_X12_does (if (4 : Int32) ≤ q1.1 then (if (6 : Int32) ≤ q1.1 then (if q1.1 = (6 : Int32) then (4 : Int32) else (5 : Int32)) else (3 : Int32)) else (6 : Int32)) q8.1 (xrem ((q8.1 + (1 : Int32)) + q11.1) (mI q11.2 44 24)) p14.1 p14.2).bind (fun q26 => some q26.2))))))) else (some q1.2)))
set_option maxHeartbeats 4000000 in
set_option maxRecDepth 100000 in
theorem c_X12_drawDeed {l : Launch} {G : Gt} {S : Sk} (hS : Lay S) {mm : Mm} {q : Mm} (e : m_X12_drawDeed mm = some q) : CallOK l G M_X12_drawDeed yX12_drawDeed 7 [vr (some 44)] S mm (none) S q := by
  refine call_of_run rfl rfl rfl (Nat.le_of_ble_eq_true rfl) ?_
  show Run l G M_X12_drawDeed 7 0 [some (vr (some 44)), none, none, none, none] [] S mm (none) S q
  unfold m_X12_drawDeed at e
  refine r_aload_n dX12_drawDeed_0 rfl ?_
  refine r_bipush (v := 10) dX12_drawDeed_1 cb_10 ?_
  obtain ⟨q1, eq2, e⟩ := obind e
  refine r_callV (as := [_]) (rest := []) dX12_drawDeed_3 ml_X12_499 yV_X12_draw (c_X12_draw hS eq2) (by decide) rfl (lp_44 hS) (lq_44 hS) (Nat.le_of_ble_eq_true rfl) ?_
  refine r_istore_n dX12_drawDeed_6 (by decide) rfl ?_
  refine r_iload_n dX12_drawDeed_7 rfl ?_
  refine r_bipush (v := 9) dX12_drawDeed_8 cb_9 ?_
  refine r_icmp_ne (tgt := 23) dX12_drawDeed_10 rfl (fun h3 => ?_) (fun h3 => ?_)
  · replace e := ite_f h3 e
    refine r_aload_n dX12_drawDeed_23 rfl ?_
    refine r_getI dX12_drawDeed_24 fl_X12_283 rfl (lp_44 hS) (lq_44 hS) ?_
    refine r_iload_n dX12_drawDeed_27 rfl ?_
    refine r_bipush (v := 8) dX12_drawDeed_28 cb_8 ?_
    have J6 : ∀ (w5 : Int32), w5 = (if q1.1 = (8 : Int32) then (1 : Int32) else (2 : Int32)) → Run l G M_X12_drawDeed 7 38 [some (vr (some 44)), some (vi q1.1), none, none, none] [vi w5, vi (mI q1.2 44 24)] S q1.2 (none) S q := by
      intro w5 hw37
      subst hw37
      refine r_icmp_ge (tgt := 42) dX12_drawDeed_38 rfl (fun h7 => ?_) (fun h7 => ?_)
      · replace e := ite_t h7 e
        refine r_aload_n dX12_drawDeed_42 rfl ?_
        refine r_aload_n dX12_drawDeed_43 rfl ?_
        refine r_getI dX12_drawDeed_44 fl_X12_283 rfl (lp_44 hS) (lq_44 hS) ?_
        obtain ⟨q8, eq9, e⟩ := obind e
        refine r_callV (as := [_]) (rest := []) dX12_drawDeed_47 ml_X12_499 yV_X12_draw (c_X12_draw hS eq9) (by decide) rfl (lp_44 hS) (lq_44 hS) (Nat.le_of_ble_eq_true rfl) ?_
        refine r_istore_n dX12_drawDeed_50 (by decide) rfl ?_
        refine r_iload_n dX12_drawDeed_51 rfl ?_
        refine r_bipush (v := 8) dX12_drawDeed_52 cb_8 ?_
        refine r_icmp_ne (tgt := 79) dX12_drawDeed_54 rfl (fun h10 => ?_) (fun h10 => ?_)
        · replace e := ite_f h10 e
          refine r_iload_n dX12_drawDeed_79 rfl ?_
          refine r_iconst (v := 1) dX12_drawDeed_80 ci_1 ?_
          refine r_iadd dX12_drawDeed_81 ?_
          refine r_aload_n dX12_drawDeed_82 rfl ?_
          refine r_aload_n dX12_drawDeed_83 rfl ?_
          refine r_getI dX12_drawDeed_84 fl_X12_283 rfl (lp_44 hS) (lq_44 hS) ?_
          refine r_iconst (v := 1) dX12_drawDeed_87 ci_1 ?_
          refine r_isub dX12_drawDeed_88 ?_
          obtain ⟨q11, eq12, e⟩ := obind e
          refine r_callV (as := [_]) (rest := [_]) dX12_drawDeed_89 ml_X12_499 yV_X12_draw (c_X12_draw hS eq12) (by decide) rfl (lp_44 hS) (lq_44 hS) (Nat.le_of_ble_eq_true rfl) ?_
          refine r_iadd dX12_drawDeed_92 ?_
          refine r_aload_n dX12_drawDeed_93 rfl ?_
          refine r_getI dX12_drawDeed_94 fl_X12_283 rfl (lp_44 hS) (lq_44 hS) ?_
          obtain ⟨hz13, e⟩ := gdz_some e
          refine r_irem dX12_drawDeed_97 hz13 ?_
          refine r_istore_n dX12_drawDeed_98 (by decide) rfl ?_
          refine r_iload_n dX12_drawDeed_99 rfl ?_
          refine r_iconst (v := 4) dX12_drawDeed_100 ci_4 ?_
          obtain ⟨p14, ep16, e⟩ := obind e
          have J15a : Run l G M_X12_drawDeed 7 114 [some (vr (some 44)), some (vi q1.1), some (vi q8.1), some (vi (xrem ((q8.1 + (1 : Int32)) + q11.1) (mI q11.2 44 24))), none] [vi p14.1] S p14.2 (none) S q := by
            refine r_istore dX12_drawDeed_114 (by decide) rfl ?_
            refine r_aload_n dX12_drawDeed_116 rfl ?_
            refine r_iload_n dX12_drawDeed_117 rfl ?_
            refine r_iconst (v := 4) dX12_drawDeed_118 ci_4 ?_
            have J25 : ∀ (w24 : Int32), w24 = (if (4 : Int32) ≤ q1.1 then (if (6 : Int32) ≤ q1.1 then (if q1.1 = (6 : Int32) then (4 : Int32) else (5 : Int32)) else (3 : Int32)) else (6 : Int32)) → Run l G M_X12_drawDeed 7 148 [none, none, some (vi q8.1), some (vi (xrem ((q8.1 + (1 : Int32)) + q11.1) (mI q11.2 44 24))), some (vi p14.1)] [vi w24, vr (some 44)] S p14.2 (none) S q := by
              intro w24 hw28
              subst hw28
              refine r_iload_n dX12_drawDeed_148 rfl ?_
              refine r_iload_n dX12_drawDeed_149 rfl ?_
              refine r_iload dX12_drawDeed_150 rfl ?_
              obtain ⟨q26, eq27, e⟩ := obind e
              refine r_callV (as := [_, _, _, _]) (rest := []) dX12_drawDeed_152 ml_X12_356 yV_X12_does (c_X12_does hS eq27) (by decide) rfl (lp_44 hS) (lq_44 hS) (Nat.le_of_ble_eq_true rfl) ?_
              refine r_pop dX12_drawDeed_155 rfl ?_
              cases e
              exact r_return dX12_drawDeed_156 rfl
            refine r_icmp_ge (tgt := 127) dX12_drawDeed_119 rfl (fun h21 => ?_) (fun h21 => ?_)
            · refine r_iload_n dX12_drawDeed_127 rfl ?_
              refine r_bipush (v := 6) dX12_drawDeed_128 cb_6 ?_
              refine r_icmp_ge (tgt := 137) dX12_drawDeed_130 rfl (fun h22 => ?_) (fun h22 => ?_)
              · refine r_iload_n dX12_drawDeed_137 rfl ?_
                refine r_bipush (v := 6) dX12_drawDeed_138 cb_6 ?_
                refine r_icmp_ne (tgt := 147) dX12_drawDeed_140 rfl (fun h23 => ?_) (fun h23 => ?_)
                · refine r_iconst (v := 5) dX12_drawDeed_147 ci_5 ?_
                  exact r_weak (L' := [none, none, some (vi q8.1), some (vi (xrem ((q8.1 + (1 : Int32)) + q11.1) (mI q11.2 44 24))), some (vi p14.1)]) ⟨rfl, rfl, rfl, trivial⟩ (J25 _ (Eq.symm ((if_pos h21).trans ((if_pos h22).trans (if_neg h23)))))
                · refine r_iconst (v := 4) dX12_drawDeed_143 ci_4 ?_
                  refine r_goto (tgt := 148) dX12_drawDeed_144 rfl ?_
                  exact r_weak (L' := [none, none, some (vi q8.1), some (vi (xrem ((q8.1 + (1 : Int32)) + q11.1) (mI q11.2 44 24))), some (vi p14.1)]) ⟨rfl, rfl, rfl, trivial⟩ (J25 _ (Eq.symm ((if_pos h21).trans ((if_pos h22).trans (if_pos h23)))))
              · refine r_iconst (v := 3) dX12_drawDeed_133 ci_3 ?_
                refine r_goto (tgt := 148) dX12_drawDeed_134 rfl ?_
                exact r_weak (L' := [none, none, some (vi q8.1), some (vi (xrem ((q8.1 + (1 : Int32)) + q11.1) (mI q11.2 44 24))), some (vi p14.1)]) ⟨rfl, rfl, rfl, trivial⟩ (J25 _ (Eq.symm ((if_pos h21).trans (if_neg h22))))
            · refine r_bipush (v := 6) dX12_drawDeed_122 cb_6 ?_
              refine r_goto (tgt := 148) dX12_drawDeed_124 rfl ?_
              exact r_weak (L' := [none, none, some (vi q8.1), some (vi (xrem ((q8.1 + (1 : Int32)) + q11.1) (mI q11.2 44 24))), some (vi p14.1)]) ⟨rfl, rfl, rfl, trivial⟩ (J25 _ (Eq.symm (if_neg h21)))
          have J15 : ∀ pp : Int32 × Mm, pp = p14 → Run l G M_X12_drawDeed 7 114 [some (vr (some 44)), some (vi q1.1), some (vi q8.1), some (vi (xrem ((q8.1 + (1 : Int32)) + q11.1) (mI q11.2 44 24))), none] [vi pp.1] S pp.2 (none) S q := by
            intro pp hpp
            rw [hpp]
            exact J15a
          refine r_icmp_ge (tgt := 113) dX12_drawDeed_101 rfl (fun h18 => ?_) (fun h18 => ?_)
          · replace ep16 := ite_t h18 ep16
            refine r_iconst (v := -1) dX12_drawDeed_113 ci_m1 ?_
            exact r_weak (L' := [some (vr (some 44)), some (vi q1.1), some (vi q8.1), some (vi (xrem ((q8.1 + (1 : Int32)) + q11.1) (mI q11.2 44 24))), none]) ⟨rfl, rfl, rfl, rfl, trivial⟩ (J15 _ (Option.some.inj ep16))
          · replace ep16 := ite_f h18 ep16
            refine r_aload_n dX12_drawDeed_104 rfl ?_
            refine r_bipush (v := 8) dX12_drawDeed_105 cb_8 ?_
            obtain ⟨q19, eq20, ep16⟩ := obind ep16
            refine r_callV (as := [_]) (rest := []) dX12_drawDeed_107 ml_X12_499 yV_X12_draw (c_X12_draw hS eq20) (by decide) rfl (lp_44 hS) (lq_44 hS) (Nat.le_of_ble_eq_true rfl) ?_
            refine r_goto (tgt := 114) dX12_drawDeed_110 rfl ?_
            exact r_weak (L' := [some (vr (some 44)), some (vi q1.1), some (vi q8.1), some (vi (xrem ((q8.1 + (1 : Int32)) + q11.1) (mI q11.2 44 24))), none]) ⟨rfl, rfl, rfl, rfl, trivial⟩ (J15 _ (Option.some.inj ep16))
        · replace e := ite_t h10 e
          refine r_aload_n dX12_drawDeed_57 rfl ?_
          refine r_aload_n dX12_drawDeed_58 rfl ?_
          refine r_iconst (v := 2) dX12_drawDeed_59 ci_2 ?_
          obtain ⟨q29, eq30, e⟩ := obind e
          refine r_callV (as := [_]) (rest := [_]) dX12_drawDeed_60 ml_X12_499 yV_X12_draw (c_X12_draw hS eq30) (by decide) rfl (lp_44 hS) (lq_44 hS) (Nat.le_of_ble_eq_true rfl) ?_
          have J33 : ∀ (w32 : Int32), w32 = (if q29.1 = 0 then (1 : Int32) else (2 : Int32)) → Run l G M_X12_drawDeed 7 71 [none, none, some (vi q8.1), none, none] [vi w32, vr (some 44)] S q29.2 (none) S q := by
            intro w32 hw36
            subst hw36
            refine r_iload_n dX12_drawDeed_71 rfl ?_
            refine r_iconst (v := -1) dX12_drawDeed_72 ci_m1 ?_
            refine r_iconst (v := -1) dX12_drawDeed_73 ci_m1 ?_
            obtain ⟨q34, eq35, e⟩ := obind e
            refine r_callV (as := [_, _, _, _]) (rest := []) dX12_drawDeed_74 ml_X12_356 yV_X12_does (c_X12_does hS eq35) (by decide) rfl (lp_44 hS) (lq_44 hS) (Nat.le_of_ble_eq_true rfl) ?_
            refine r_pop dX12_drawDeed_77 rfl ?_
            cases e
            exact r_return dX12_drawDeed_78 rfl
          refine r_if_ne (tgt := 70) dX12_drawDeed_63 rfl (fun h31 => ?_) (fun h31 => ?_)
          · refine r_iconst (v := 2) dX12_drawDeed_70 ci_2 ?_
            exact r_weak (L' := [none, none, some (vi q8.1), none, none]) ⟨rfl, trivial⟩ (J33 _ (Eq.symm (if_neg h31)))
          · refine r_iconst (v := 1) dX12_drawDeed_66 ci_1 ?_
            refine r_goto (tgt := 71) dX12_drawDeed_67 rfl ?_
            exact r_weak (L' := [none, none, some (vi q8.1), none, none]) ⟨rfl, trivial⟩ (J33 _ (Eq.symm (if_pos h31)))
      · replace e := ite_f h7 e
        cases e
        exact r_return dX12_drawDeed_41 rfl
    refine r_icmp_ne (tgt := 37) dX12_drawDeed_30 rfl (fun h4 => ?_) (fun h4 => ?_)
    · refine r_iconst (v := 2) dX12_drawDeed_37 ci_2 ?_
      exact r_weak (L' := [some (vr (some 44)), some (vi q1.1), none, none, none]) ⟨rfl, rfl, trivial⟩ (J6 _ (Eq.symm (if_neg h4)))
    · refine r_iconst (v := 1) dX12_drawDeed_33 ci_1 ?_
      refine r_goto (tgt := 38) dX12_drawDeed_34 rfl ?_
      exact r_weak (L' := [some (vr (some 44)), some (vi q1.1), none, none, none]) ⟨rfl, rfl, trivial⟩ (J6 _ (Eq.symm (if_pos h4)))
  · replace e := ite_t h3 e
    refine r_aload_n dX12_drawDeed_13 rfl ?_
    refine r_iconst (v := 0) dX12_drawDeed_14 ci_0 ?_
    refine r_iconst (v := -1) dX12_drawDeed_15 ci_m1 ?_
    refine r_iconst (v := -1) dX12_drawDeed_16 ci_m1 ?_
    refine r_iconst (v := -1) dX12_drawDeed_17 ci_m1 ?_
    obtain ⟨q38, eq39, e⟩ := obind e
    refine r_callV (as := [_, _, _, _]) (rest := []) dX12_drawDeed_18 ml_X12_356 yV_X12_does (c_X12_does hS eq39) (by decide) rfl (lp_44 hS) (lq_44 hS) (Nat.le_of_ble_eq_true rfl) ?_
    refine r_pop dX12_drawDeed_21 rfl ?_
    cases e
    exact r_return dX12_drawDeed_22 rfl
def m_X12_drawn_b33 (a3 : Int32) (z5 : Int32 × Mm) : Option ((Int32 × Mm) ⊕ (Mm)) := if a3 ≤ z5.1 then (some (.inr z5.2)) else ((m_X12_drawDeed z5.2).bind (fun q12 => some (.inl (z5.1 + (1 : Int32), q12))))
def m_X12_drawn (a1 : Int32) (a2 : Int32) (a3 : Int32) (a4 : Int32) (mm : Mm) : Option (Int32 × Mm) := if (m_X12_in a3 (0 : Int32) (60 : Int32)) = 0 then (some ((-1 : Int32), (sI mm 44 0 (0 : Int32)))) else ((m_X12_hand a1 (sI mm 44 0 (0 : Int32))).bind (fun q2 => if q2.1 = 0 then (some ((-1 : Int32), q2.2)) else ((whileF FU (m_X12_drawn_b33 a3) ((0 : Int32), (sI q2.2 44 54 a2))).bind (fun p6 => (m_X12_ofState a4 p6).bind (fun q14 => some (q14, p6))))))
set_option maxHeartbeats 4000000 in
set_option maxRecDepth 100000 in
theorem c_X12_drawn {l : Launch} {G : Gt} {S : Sk} (hS : Lay S) {a1 : Int32} {a2 : Int32} {a3 : Int32} {a4 : Int32} {mm : Mm} {q : Int32 × Mm} (e : m_X12_drawn a1 a2 a3 a4 mm = some q) : CallOK l G M_X12_drawn yX12_drawn 8 [vr (some 44), vi a1, vi a2, vi a3, vi a4] S mm (some (vi q.1)) S q.2 := by
  refine call_of_run rfl rfl rfl (Nat.le_of_ble_eq_true rfl) ?_
  show Run l G M_X12_drawn 8 0 [some (vr (some 44)), some (vi a1), some (vi a2), some (vi a3), some (vi a4), none] [] S mm (some (vi q.1)) S q.2
  unfold m_X12_drawn at e
  refine r_aload_n dX12_drawn_0 rfl ?_
  refine r_iconst (v := 0) dX12_drawn_1 ci_0 ?_
  refine r_putI dX12_drawn_2 fl_X12_90 ft_12_0 (Or.inl rfl) rfl rfl rfl (lp_44 hS) (lq_44 hS) ?_
  refine r_iload_n dX12_drawn_5 rfl ?_
  refine r_iconst (v := 0) dX12_drawn_6 ci_0 ?_
  refine r_bipush (v := 60) dX12_drawn_7 cb_60 ?_
  refine r_callS (as := [_, _, _]) (rest := []) dX12_drawn_9 ml_X12_102 yS_X12_in (c_X12_in hS) (by decide) rfl (Nat.le_of_ble_eq_true rfl) ?_
  refine r_if_eq (tgt := 23) dX12_drawn_12 rfl (fun h1 => ?_) (fun h1 => ?_)
  · replace e := ite_t h1 e
    refine r_iconst (v := -1) dX12_drawn_23 ci_m1 ?_
    cases e
    exact r_ireturn dX12_drawn_24 rfl rfl
  · replace e := ite_f h1 e
    refine r_aload_n dX12_drawn_15 rfl ?_
    refine r_iload_n dX12_drawn_16 rfl ?_
    obtain ⟨q2, eq3, e⟩ := obind e
    refine r_callV (as := [_]) (rest := []) dX12_drawn_17 ml_X12_310 yV_X12_hand (c_X12_hand hS eq3) (by decide) rfl (lp_44 hS) (lq_44 hS) (Nat.le_of_ble_eq_true rfl) ?_
    refine r_if_ne (tgt := 25) dX12_drawn_20 rfl (fun h4 => ?_) (fun h4 => ?_)
    · replace e := ite_f h4 e
      refine r_aload_n dX12_drawn_25 rfl ?_
      refine r_iload_n dX12_drawn_26 rfl ?_
      refine r_putI dX12_drawn_27 fl_X12_495 ft_12_54 (Or.inl rfl) rfl rfl rfl (lp_44 hS) (lq_44 hS) ?_
      refine r_iconst (v := 0) dX12_drawn_30 ci_0 ?_
      refine r_istore dX12_drawn_31 (by decide) rfl ?_
      obtain ⟨p6, eb10w, e⟩ := obind e
      have J7a : Run l G M_X12_drawn 8 49 [some (vr (some 44)), none, none, none, some (vi a4), none] [] S p6 (some (vi q.1)) S q.2 := by
        refine r_aload_n dX12_drawn_49 rfl ?_
        refine r_iload dX12_drawn_50 rfl ?_
        obtain ⟨q14, eq15, e⟩ := obind e
        refine r_callV (as := [_]) (rest := []) dX12_drawn_52 ml_X12_374 yV_X12_ofState (c_X12_ofState hS eq15) (by decide) rfl (lp_44 hS) (lq_44 hS) (Nat.le_of_ble_eq_true rfl) ?_
        cases e
        exact r_ireturn dX12_drawn_55 rfl rfl
      have J7 : ∀ pp : Mm, pp = p6 → Run l G M_X12_drawn 8 49 [some (vr (some 44)), none, none, none, some (vi a4), none] [] S pp (some (vi q.1)) S q.2 := by
        intro pp hpp
        rw [hpp]
        exact J7a
      have J7w : Run l G M_X12_drawn 8 33 [some (vr (some 44)), none, none, some (vi a3), some (vi a4), some (vi (0 : Int32))] [] S (sI q2.2 44 54 a2) (some (vi q.1)) S q.2 := by
        refine while_run (s := ((0 : Int32), (sI q2.2 44 54 a2))) (Gs := fun (z5 : Int32 × Mm) => Run l G M_X12_drawn 8 33 [some (vr (some 44)), none, none, some (vi a3), some (vi a4), some (vi z5.1)] [] S z5.2 (some (vi q.1)) S q.2) eb10w ?_
        intro z5 x8y eb10 hx9
        unfold m_X12_drawn_b33 at eb10
        refine r_iload dX12_drawn_33 rfl ?_
        refine r_iload_n dX12_drawn_35 rfl ?_
        refine r_icmp_ge (tgt := 49) dX12_drawn_36 rfl (fun h11 => ?_) (fun h11 => ?_)
        · replace eb10 := ite_t h11 eb10
          cases eb10
          exact r_weak (L' := [some (vr (some 44)), none, none, none, some (vi a4), none]) ⟨rfl, rfl, trivial⟩ (J7 _ hx9)
        · replace eb10 := ite_f h11 eb10
          refine r_aload_n dX12_drawn_39 rfl ?_
          obtain ⟨q12, eq13, eb10⟩ := obind eb10
          refine r_callV (as := []) (rest := []) dX12_drawn_40 ml_X12_502 yV_X12_drawDeed (c_X12_drawDeed hS eq13) (by decide) rfl (lp_44 hS) (lq_44 hS) (Nat.le_of_ble_eq_true rfl) ?_
          refine r_iinc (v := _ + (1 : Int32)) dX12_drawn_43 rfl (congrArg (_ + ·) ci_1) (by decide) rfl ?_
          refine r_goto (tgt := 33) dX12_drawn_46 rfl ?_
          cases eb10
          exact r_weak (L' := [some (vr (some 44)), none, none, some (vi a3), some (vi a4), some (vi (z5.1 + (1 : Int32)))]) ⟨rfl, rfl, rfl, rfl, trivial⟩ hx9
      exact r_weak (L' := [some (vr (some 44)), none, none, some (vi a3), some (vi a4), some (vi (0 : Int32))]) ⟨rfl, rfl, rfl, rfl, trivial⟩ J7w
    · replace e := ite_t h4 e
      refine r_iconst (v := -1) dX12_drawn_23 ci_m1 ?_
      cases e
      exact r_ireturn dX12_drawn_24 rfl rfl
def m_X12_forNone_b11 (mm : Mm) (z1 : Int32 × Int32) : Option ((Int32 × Int32) ⊕ (Int32)) := if (mI mm 44 25) ≤ z1.2 then (some (.inr z1.1)) else (grd z1.2 16 (some (.inl (z1.1 &&& ((xshl (1 : Int32) (mI mm 61 (ix z1.2))) ^^^ (-1 : Int32)), z1.2 + (1 : Int32)))))
def m_X12_forNone (mm : Mm) : Option (Int32) := (whileF FU (m_X12_forNone_b11 mm) ((xshl (1 : Int32) (mI mm 44 24)) - (1 : Int32), (0 : Int32))).bind (fun p2 => some p2)
set_option maxHeartbeats 4000000 in
set_option maxRecDepth 100000 in
theorem c_X12_forNone {l : Launch} {G : Gt} {S : Sk} (hS : Lay S) {mm : Mm} {q : Int32} (e : m_X12_forNone mm = some q) : CallOK l G M_X12_forNone yX12_forNone 0 [vr (some 44)] S mm (some (vi q)) S mm := by
  refine call_of_run rfl rfl rfl (Nat.le_of_ble_eq_true rfl) ?_
  show Run l G M_X12_forNone 0 0 [some (vr (some 44)), none, none] [] S mm (some (vi q)) S mm
  unfold m_X12_forNone at e
  refine r_iconst (v := 1) dX12_forNone_0 ci_1 ?_
  refine r_aload_n dX12_forNone_1 rfl ?_
  refine r_getI dX12_forNone_2 fl_X12_283 rfl (lp_44 hS) (lq_44 hS) ?_
  refine r_ishl dX12_forNone_5 ?_
  refine r_iconst (v := 1) dX12_forNone_6 ci_1 ?_
  refine r_isub dX12_forNone_7 ?_
  refine r_istore_n dX12_forNone_8 (by decide) rfl ?_
  refine r_iconst (v := 0) dX12_forNone_9 ci_0 ?_
  refine r_istore_n dX12_forNone_10 (by decide) rfl ?_
  obtain ⟨p2, eb6w, e⟩ := obind e
  have J3a : Run l G M_X12_forNone 0 38 [none, some (vi p2), none] [] S mm (some (vi q)) S mm := by
    refine r_iload_n dX12_forNone_38 rfl ?_
    cases e
    exact r_ireturn dX12_forNone_39 rfl rfl
  have J3 : ∀ pp : Int32, pp = p2 → Run l G M_X12_forNone 0 38 [none, some (vi pp), none] [] S mm (some (vi q)) S mm := by
    intro pp hpp
    rw [hpp]
    exact J3a
  have J3w : Run l G M_X12_forNone 0 11 [some (vr (some 44)), some (vi ((xshl (1 : Int32) (mI mm 44 24)) - (1 : Int32))), some (vi (0 : Int32))] [] S mm (some (vi q)) S mm := by
    refine while_run (s := ((xshl (1 : Int32) (mI mm 44 24)) - (1 : Int32), (0 : Int32))) (Gs := fun (z1 : Int32 × Int32) => Run l G M_X12_forNone 0 11 [some (vr (some 44)), some (vi z1.1), some (vi z1.2)] [] S mm (some (vi q)) S mm) eb6w ?_
    intro z1 x4y eb6 hx5
    unfold m_X12_forNone_b11 at eb6
    refine r_iload_n dX12_forNone_11 rfl ?_
    refine r_aload_n dX12_forNone_12 rfl ?_
    refine r_getI dX12_forNone_13 fl_X12_280 rfl (lp_44 hS) (lq_44 hS) ?_
    refine r_icmp_ge (tgt := 38) dX12_forNone_16 rfl (fun h7 => ?_) (fun h7 => ?_)
    · replace eb6 := ite_t h7 eb6
      cases eb6
      exact r_weak (L' := [none, some (vi z1.1), none]) ⟨rfl, trivial⟩ (J3 _ hx5)
    · replace eb6 := ite_f h7 eb6
      refine r_iload_n dX12_forNone_19 rfl ?_
      refine r_iconst (v := 1) dX12_forNone_20 ci_1 ?_
      refine r_aload_n dX12_forNone_21 rfl ?_
      refine r_getR dX12_forNone_22 fl_X12_59 rfl (lp_44 hS) (lq_44 hS) (lr_44_36 hS) ?_
      refine r_iload_n dX12_forNone_25 rfl ?_
      obtain ⟨hg8, eb6⟩ := grd_some eb6
      refine r_iald dX12_forNone_26 (lp_61 hS) (lk_61 hS) hg8 ?_
      refine r_ishl dX12_forNone_27 ?_
      refine r_iconst (v := -1) dX12_forNone_28 ci_m1 ?_
      refine r_ixor dX12_forNone_29 ?_
      refine r_iand dX12_forNone_30 ?_
      refine r_istore_n dX12_forNone_31 (by decide) rfl ?_
      refine r_iinc (v := _ + (1 : Int32)) dX12_forNone_32 rfl (congrArg (_ + ·) ci_1) (by decide) rfl ?_
      refine r_goto (tgt := 11) dX12_forNone_35 rfl ?_
      cases eb6
      exact r_weak (L' := [some (vr (some 44)), some (vi (z1.1 &&& ((xshl (1 : Int32) (mI mm 61 (ix z1.2))) ^^^ (-1 : Int32)))), some (vi (z1.2 + (1 : Int32)))]) ⟨rfl, rfl, rfl, trivial⟩ hx5
  exact r_weak (L' := [some (vr (some 44)), some (vi ((xshl (1 : Int32) (mI mm 44 24)) - (1 : Int32))), some (vi (0 : Int32))]) ⟨rfl, rfl, rfl, trivial⟩ J3w
def m_X12_silent_b11 (mm : Mm) (z1 : Int32 × Int32) : Option ((Int32 × Int32) ⊕ (Int32)) := if (mI mm 44 25) ≤ z1.2 then (some (.inr z1.1)) else (grd z1.2 16 (some (.inl (z1.1 &&& ((xshl (1 : Int32) (mI mm 60 (ix z1.2))) ^^^ (-1 : Int32)), z1.2 + (1 : Int32)))))
def m_X12_silent (mm : Mm) : Option (Int32) := (whileF FU (m_X12_silent_b11 mm) ((xshl (1 : Int32) (mI mm 44 24)) - (1 : Int32), (0 : Int32))).bind (fun p2 => some p2)
set_option maxHeartbeats 4000000 in
set_option maxRecDepth 100000 in
theorem c_X12_silent {l : Launch} {G : Gt} {S : Sk} (hS : Lay S) {mm : Mm} {q : Int32} (e : m_X12_silent mm = some q) : CallOK l G M_X12_silent yX12_silent 0 [vr (some 44)] S mm (some (vi q)) S mm := by
  refine call_of_run rfl rfl rfl (Nat.le_of_ble_eq_true rfl) ?_
  show Run l G M_X12_silent 0 0 [some (vr (some 44)), none, none] [] S mm (some (vi q)) S mm
  unfold m_X12_silent at e
  refine r_iconst (v := 1) dX12_silent_0 ci_1 ?_
  refine r_aload_n dX12_silent_1 rfl ?_
  refine r_getI dX12_silent_2 fl_X12_283 rfl (lp_44 hS) (lq_44 hS) ?_
  refine r_ishl dX12_silent_5 ?_
  refine r_iconst (v := 1) dX12_silent_6 ci_1 ?_
  refine r_isub dX12_silent_7 ?_
  refine r_istore_n dX12_silent_8 (by decide) rfl ?_
  refine r_iconst (v := 0) dX12_silent_9 ci_0 ?_
  refine r_istore_n dX12_silent_10 (by decide) rfl ?_
  obtain ⟨p2, eb6w, e⟩ := obind e
  have J3a : Run l G M_X12_silent 0 38 [none, some (vi p2), none] [] S mm (some (vi q)) S mm := by
    refine r_iload_n dX12_silent_38 rfl ?_
    cases e
    exact r_ireturn dX12_silent_39 rfl rfl
  have J3 : ∀ pp : Int32, pp = p2 → Run l G M_X12_silent 0 38 [none, some (vi pp), none] [] S mm (some (vi q)) S mm := by
    intro pp hpp
    rw [hpp]
    exact J3a
  have J3w : Run l G M_X12_silent 0 11 [some (vr (some 44)), some (vi ((xshl (1 : Int32) (mI mm 44 24)) - (1 : Int32))), some (vi (0 : Int32))] [] S mm (some (vi q)) S mm := by
    refine while_run (s := ((xshl (1 : Int32) (mI mm 44 24)) - (1 : Int32), (0 : Int32))) (Gs := fun (z1 : Int32 × Int32) => Run l G M_X12_silent 0 11 [some (vr (some 44)), some (vi z1.1), some (vi z1.2)] [] S mm (some (vi q)) S mm) eb6w ?_
    intro z1 x4y eb6 hx5
    unfold m_X12_silent_b11 at eb6
    refine r_iload_n dX12_silent_11 rfl ?_
    refine r_aload_n dX12_silent_12 rfl ?_
    refine r_getI dX12_silent_13 fl_X12_280 rfl (lp_44 hS) (lq_44 hS) ?_
    refine r_icmp_ge (tgt := 38) dX12_silent_16 rfl (fun h7 => ?_) (fun h7 => ?_)
    · replace eb6 := ite_t h7 eb6
      cases eb6
      exact r_weak (L' := [none, some (vi z1.1), none]) ⟨rfl, trivial⟩ (J3 _ hx5)
    · replace eb6 := ite_f h7 eb6
      refine r_iload_n dX12_silent_19 rfl ?_
      refine r_iconst (v := 1) dX12_silent_20 ci_1 ?_
      refine r_aload_n dX12_silent_21 rfl ?_
      refine r_getR dX12_silent_22 fl_X12_56 rfl (lp_44 hS) (lq_44 hS) (lr_44_35 hS) ?_
      refine r_iload_n dX12_silent_25 rfl ?_
      obtain ⟨hg8, eb6⟩ := grd_some eb6
      refine r_iald dX12_silent_26 (lp_60 hS) (lk_60 hS) hg8 ?_
      refine r_ishl dX12_silent_27 ?_
      refine r_iconst (v := -1) dX12_silent_28 ci_m1 ?_
      refine r_ixor dX12_silent_29 ?_
      refine r_iand dX12_silent_30 ?_
      refine r_istore_n dX12_silent_31 (by decide) rfl ?_
      refine r_iinc (v := _ + (1 : Int32)) dX12_silent_32 rfl (congrArg (_ + ·) ci_1) (by decide) rfl ?_
      refine r_goto (tgt := 11) dX12_silent_35 rfl ?_
      cases eb6
      exact r_weak (L' := [some (vr (some 44)), some (vi (z1.1 &&& ((xshl (1 : Int32) (mI mm 60 (ix z1.2))) ^^^ (-1 : Int32)))), some (vi (z1.2 + (1 : Int32)))]) ⟨rfl, rfl, rfl, trivial⟩ hx5
  exact r_weak (L' := [some (vr (some 44)), some (vi ((xshl (1 : Int32) (mI mm 44 24)) - (1 : Int32))), some (vi (0 : Int32))]) ⟨rfl, rfl, rfl, trivial⟩ J3w
def m_X12_mostly_b22 (a1 : Int32) (mm : Mm) (z1 : Int32 × Int32 × Int32) (z8 : Int32 × Int32) : Option ((Int32 × Int32) ⊕ (Int32)) := if (mI mm 44 25) ≤ z8.2 then (some (.inr z8.1)) else (if (2 : Int32) ≤ a1 then (some (.inr z8.1)) else ((if a1 = 0 then (grd z8.2 16 (some (mI mm 60 (ix z8.2)))) else (grd z8.2 16 (some (mI mm 61 (ix z8.2)))) : Option (Int32)).bind (fun p16 => some (.inl (z8.1 + (if p16 = z1.2.2 then (1 : Int32) else (0 : Int32)), z8.2 + (1 : Int32))))))
def m_X12_mostly_b81 (a1 : Int32) (mm : Mm) (z1 : Int32 × Int32 × Int32) (z27 : Int32 × Int32) : Option ((Int32 × Int32) ⊕ (Int32)) := if (mI mm 44 24) ≤ z27.2 then (some (.inr z27.1)) else (if a1 = (2 : Int32) then (grd z27.2 6 (some (.inl (z27.1 + (if (m_X12_has (mI mm 58 (ix z27.2)) z1.2.2) = 0 then (0 : Int32) else (1 : Int32)), z27.2 + (1 : Int32))))) else (some (.inr z27.1)))
def m_X12_mostly_b7 (a1 : Int32) (mm : Mm) (z1 : Int32 × Int32 × Int32) : Option ((Int32 × Int32 × Int32) ⊕ (Int32)) := if (mI mm 44 24) ≤ z1.2.2 then (some (.inr z1.1)) else ((whileF FU (m_X12_mostly_b22 a1 mm z1) ((0 : Int32), (0 : Int32))).bind (fun p9 => (whileF FU (m_X12_mostly_b81 a1 mm z1) (p9, (0 : Int32))).bind (fun p28 => some (.inl ((if p28 ≤ z1.2.1 then z1.1 else z1.2.2), (m_X12_greater z1.2.1 p28), z1.2.2 + (1 : Int32))))))
def m_X12_mostly (a1 : Int32) (mm : Mm) : Option (Int32) := (whileF FU (m_X12_mostly_b7 a1 mm) ((-1 : Int32), (0 : Int32), (0 : Int32))).bind (fun p2 => some p2)
set_option maxHeartbeats 4000000 in
set_option maxRecDepth 100000 in
theorem c_X12_mostly {l : Launch} {G : Gt} {S : Sk} (hS : Lay S) {a1 : Int32} {mm : Mm} {q : Int32} (e : m_X12_mostly a1 mm = some q) : CallOK l G M_X12_mostly yX12_mostly 1 [vr (some 44), vi a1] S mm (some (vi q)) S mm := by
  refine call_of_run rfl rfl rfl (Nat.le_of_ble_eq_true rfl) ?_
  show Run l G M_X12_mostly 1 0 [some (vr (some 44)), some (vi a1), none, none, none, none, none] [] S mm (some (vi q)) S mm
  unfold m_X12_mostly at e
  refine r_iconst (v := -1) dX12_mostly_0 ci_m1 ?_
  refine r_istore_n dX12_mostly_1 (by decide) rfl ?_
  refine r_iconst (v := 0) dX12_mostly_2 ci_0 ?_
  refine r_istore_n dX12_mostly_3 (by decide) rfl ?_
  refine r_iconst (v := 0) dX12_mostly_4 ci_0 ?_
  refine r_istore dX12_mostly_5 (by decide) rfl ?_
  obtain ⟨p2, eb6w, e⟩ := obind e
  have J3a : Run l G M_X12_mostly 1 152 [none, none, some (vi p2), none, none, none, none] [] S mm (some (vi q)) S mm := by
    refine r_iload_n dX12_mostly_152 rfl ?_
    cases e
    exact r_ireturn dX12_mostly_153 rfl rfl
  have J3 : ∀ pp : Int32, pp = p2 → Run l G M_X12_mostly 1 152 [none, none, some (vi pp), none, none, none, none] [] S mm (some (vi q)) S mm := by
    intro pp hpp
    rw [hpp]
    exact J3a
  have J3w : Run l G M_X12_mostly 1 7 [some (vr (some 44)), some (vi a1), some (vi (-1 : Int32)), some (vi (0 : Int32)), some (vi (0 : Int32)), none, none] [] S mm (some (vi q)) S mm := by
    refine while_run (s := ((-1 : Int32), (0 : Int32), (0 : Int32))) (Gs := fun (z1 : Int32 × Int32 × Int32) => Run l G M_X12_mostly 1 7 [some (vr (some 44)), some (vi a1), some (vi z1.1), some (vi z1.2.1), some (vi z1.2.2), none, none] [] S mm (some (vi q)) S mm) eb6w ?_
    intro z1 x4y eb6 hx5
    unfold m_X12_mostly_b7 at eb6
    refine r_iload dX12_mostly_7 rfl ?_
    refine r_aload_n dX12_mostly_9 rfl ?_
    refine r_getI dX12_mostly_10 fl_X12_283 rfl (lp_44 hS) (lq_44 hS) ?_
    refine r_icmp_ge (tgt := 152) dX12_mostly_13 rfl (fun h7 => ?_) (fun h7 => ?_)
    · replace eb6 := ite_t h7 eb6
      cases eb6
      exact r_weak (L' := [none, none, some (vi z1.1), none, none, none, none]) ⟨rfl, trivial⟩ (J3 _ hx5)
    · replace eb6 := ite_f h7 eb6
      refine r_iconst (v := 0) dX12_mostly_16 ci_0 ?_
      refine r_istore dX12_mostly_17 (by decide) rfl ?_
      refine r_iconst (v := 0) dX12_mostly_19 ci_0 ?_
      refine r_istore dX12_mostly_20 (by decide) rfl ?_
      obtain ⟨p9, eb13w, eb6⟩ := obind eb6
      have J10a : Run l G M_X12_mostly 1 78 [some (vr (some 44)), some (vi a1), some (vi z1.1), some (vi z1.2.1), some (vi z1.2.2), some (vi p9), none] [] S mm (some (vi q)) S mm := by
        refine r_iconst (v := 0) dX12_mostly_78 ci_0 ?_
        refine r_istore dX12_mostly_79 (by decide) rfl ?_
        obtain ⟨p28, eb32w, eb6⟩ := obind eb6
        have J29a : Run l G M_X12_mostly 1 126 [some (vr (some 44)), some (vi a1), some (vi z1.1), some (vi z1.2.1), some (vi z1.2.2), some (vi p28), none] [] S mm (some (vi q)) S mm := by
          refine r_iload dX12_mostly_126 rfl ?_
          refine r_iload_n dX12_mostly_128 rfl ?_
          have J42 : ∀ (w41 : Int32), w41 = (if p28 ≤ z1.2.1 then z1.1 else z1.2.2) → Run l G M_X12_mostly 1 138 [some (vr (some 44)), some (vi a1), none, some (vi z1.2.1), some (vi z1.2.2), some (vi p28), none] [vi w41] S mm (some (vi q)) S mm := by
            intro w41 hw43
            subst hw43
            refine r_istore_n dX12_mostly_138 (by decide) rfl ?_
            refine r_iload_n dX12_mostly_139 rfl ?_
            refine r_iload dX12_mostly_140 rfl ?_
            refine r_callS (as := [_, _]) (rest := []) dX12_mostly_142 ml_X12_178 yS_X12_greater (c_X12_greater hS) (by decide) rfl (Nat.le_of_ble_eq_true rfl) ?_
            refine r_istore_n dX12_mostly_145 (by decide) rfl ?_
            refine r_iinc (v := _ + (1 : Int32)) dX12_mostly_146 rfl (congrArg (_ + ·) ci_1) (by decide) rfl ?_
            refine r_goto (tgt := 7) dX12_mostly_149 rfl ?_
            cases eb6
            exact r_weak (L' := [some (vr (some 44)), some (vi a1), some (vi (if p28 ≤ z1.2.1 then z1.1 else z1.2.2)), some (vi (m_X12_greater z1.2.1 p28)), some (vi (z1.2.2 + (1 : Int32))), none, none]) ⟨rfl, rfl, rfl, rfl, rfl, trivial⟩ hx5
          refine r_icmp_le (tgt := 137) dX12_mostly_129 rfl (fun h40 => ?_) (fun h40 => ?_)
          · refine r_iload_n dX12_mostly_137 rfl ?_
            exact r_weak (L' := [some (vr (some 44)), some (vi a1), none, some (vi z1.2.1), some (vi z1.2.2), some (vi p28), none]) ⟨rfl, rfl, rfl, rfl, rfl, trivial⟩ (J42 _ (Eq.symm (if_pos h40)))
          · refine r_iload dX12_mostly_132 rfl ?_
            refine r_goto (tgt := 138) dX12_mostly_134 rfl ?_
            exact r_weak (L' := [some (vr (some 44)), some (vi a1), none, some (vi z1.2.1), some (vi z1.2.2), some (vi p28), none]) ⟨rfl, rfl, rfl, rfl, rfl, trivial⟩ (J42 _ (Eq.symm (if_neg h40)))
        have J29 : ∀ pp : Int32, pp = p28 → Run l G M_X12_mostly 1 126 [some (vr (some 44)), some (vi a1), some (vi z1.1), some (vi z1.2.1), some (vi z1.2.2), some (vi pp), none] [] S mm (some (vi q)) S mm := by
          intro pp hpp
          rw [hpp]
          exact J29a
        have J29w : Run l G M_X12_mostly 1 81 [some (vr (some 44)), some (vi a1), some (vi z1.1), some (vi z1.2.1), some (vi z1.2.2), some (vi p9), some (vi (0 : Int32))] [] S mm (some (vi q)) S mm := by
          refine while_run (s := (p9, (0 : Int32))) (Gs := fun (z27 : Int32 × Int32) => Run l G M_X12_mostly 1 81 [some (vr (some 44)), some (vi a1), some (vi z1.1), some (vi z1.2.1), some (vi z1.2.2), some (vi z27.1), some (vi z27.2)] [] S mm (some (vi q)) S mm) eb32w ?_
          intro z27 x30y eb32 hx31
          unfold m_X12_mostly_b81 at eb32
          refine r_iload dX12_mostly_81 rfl ?_
          refine r_aload_n dX12_mostly_83 rfl ?_
          refine r_getI dX12_mostly_84 fl_X12_283 rfl (lp_44 hS) (lq_44 hS) ?_
          refine r_icmp_ge (tgt := 126) dX12_mostly_87 rfl (fun h33 => ?_) (fun h33 => ?_)
          · replace eb32 := ite_t h33 eb32
            cases eb32
            exact r_weak (L' := [some (vr (some 44)), some (vi a1), some (vi z1.1), some (vi z1.2.1), some (vi z1.2.2), some (vi z27.1), none]) ⟨rfl, rfl, rfl, rfl, rfl, rfl, trivial⟩ (J29 _ hx31)
          · replace eb32 := ite_f h33 eb32
            refine r_iload_n dX12_mostly_90 rfl ?_
            refine r_iconst (v := 2) dX12_mostly_91 ci_2 ?_
            refine r_icmp_ne (tgt := 126) dX12_mostly_92 rfl (fun h34 => ?_) (fun h34 => ?_)
            · replace eb32 := ite_f h34 eb32
              cases eb32
              exact r_weak (L' := [some (vr (some 44)), some (vi a1), some (vi z1.1), some (vi z1.2.1), some (vi z1.2.2), some (vi z27.1), none]) ⟨rfl, rfl, rfl, rfl, rfl, rfl, trivial⟩ (J29 _ hx31)
            · replace eb32 := ite_t h34 eb32
              refine r_iload dX12_mostly_95 rfl ?_
              refine r_aload_n dX12_mostly_97 rfl ?_
              refine r_getR dX12_mostly_98 fl_X12_50 rfl (lp_44 hS) (lq_44 hS) (lr_44_33 hS) ?_
              refine r_iload dX12_mostly_101 rfl ?_
              obtain ⟨hg35, eb32⟩ := grd_some eb32
              refine r_iald dX12_mostly_103 (lp_58 hS) (lk_58 hS) hg35 ?_
              refine r_iload dX12_mostly_104 rfl ?_
              refine r_callS (as := [_, _]) (rest := [_]) dX12_mostly_106 ml_X12_94 yS_X12_has (c_X12_has hS) (by decide) rfl (Nat.le_of_ble_eq_true rfl) ?_
              have J38 : ∀ (w37 : Int32), w37 = (if (m_X12_has (mI mm 58 (ix z27.2)) z1.2.2) = 0 then (0 : Int32) else (1 : Int32)) → Run l G M_X12_mostly 1 117 [some (vr (some 44)), some (vi a1), some (vi z1.1), some (vi z1.2.1), some (vi z1.2.2), none, some (vi z27.2)] [vi w37, vi z27.1] S mm (some (vi q)) S mm := by
                intro w37 hw39
                subst hw39
                refine r_iadd dX12_mostly_117 ?_
                refine r_istore dX12_mostly_118 (by decide) rfl ?_
                refine r_iinc (v := _ + (1 : Int32)) dX12_mostly_120 rfl (congrArg (_ + ·) ci_1) (by decide) rfl ?_
                refine r_goto (tgt := 81) dX12_mostly_123 rfl ?_
                cases eb32
                exact r_weak (L' := [some (vr (some 44)), some (vi a1), some (vi z1.1), some (vi z1.2.1), some (vi z1.2.2), some (vi (z27.1 + (if (m_X12_has (mI mm 58 (ix z27.2)) z1.2.2) = 0 then (0 : Int32) else (1 : Int32)))), some (vi (z27.2 + (1 : Int32)))]) ⟨rfl, rfl, rfl, rfl, rfl, rfl, rfl, trivial⟩ hx31
              refine r_if_eq (tgt := 116) dX12_mostly_109 rfl (fun h36 => ?_) (fun h36 => ?_)
              · refine r_iconst (v := 0) dX12_mostly_116 ci_0 ?_
                exact r_weak (L' := [some (vr (some 44)), some (vi a1), some (vi z1.1), some (vi z1.2.1), some (vi z1.2.2), none, some (vi z27.2)]) ⟨rfl, rfl, rfl, rfl, rfl, rfl, trivial⟩ (J38 _ (Eq.symm (if_pos h36)))
              · refine r_iconst (v := 1) dX12_mostly_112 ci_1 ?_
                refine r_goto (tgt := 117) dX12_mostly_113 rfl ?_
                exact r_weak (L' := [some (vr (some 44)), some (vi a1), some (vi z1.1), some (vi z1.2.1), some (vi z1.2.2), none, some (vi z27.2)]) ⟨rfl, rfl, rfl, rfl, rfl, rfl, trivial⟩ (J38 _ (Eq.symm (if_neg h36)))
        exact r_weak (L' := [some (vr (some 44)), some (vi a1), some (vi z1.1), some (vi z1.2.1), some (vi z1.2.2), some (vi p9), some (vi (0 : Int32))]) ⟨rfl, rfl, rfl, rfl, rfl, rfl, rfl, trivial⟩ J29w
      have J10 : ∀ pp : Int32, pp = p9 → Run l G M_X12_mostly 1 78 [some (vr (some 44)), some (vi a1), some (vi z1.1), some (vi z1.2.1), some (vi z1.2.2), some (vi pp), none] [] S mm (some (vi q)) S mm := by
        intro pp hpp
        rw [hpp]
        exact J10a
      have J10w : Run l G M_X12_mostly 1 22 [some (vr (some 44)), some (vi a1), some (vi z1.1), some (vi z1.2.1), some (vi z1.2.2), some (vi (0 : Int32)), some (vi (0 : Int32))] [] S mm (some (vi q)) S mm := by
        refine while_run (s := ((0 : Int32), (0 : Int32))) (Gs := fun (z8 : Int32 × Int32) => Run l G M_X12_mostly 1 22 [some (vr (some 44)), some (vi a1), some (vi z1.1), some (vi z1.2.1), some (vi z1.2.2), some (vi z8.1), some (vi z8.2)] [] S mm (some (vi q)) S mm) eb13w ?_
        intro z8 x11y eb13 hx12
        unfold m_X12_mostly_b22 at eb13
        refine r_iload dX12_mostly_22 rfl ?_
        refine r_aload_n dX12_mostly_24 rfl ?_
        refine r_getI dX12_mostly_25 fl_X12_280 rfl (lp_44 hS) (lq_44 hS) ?_
        refine r_icmp_ge (tgt := 78) dX12_mostly_28 rfl (fun h14 => ?_) (fun h14 => ?_)
        · replace eb13 := ite_t h14 eb13
          cases eb13
          exact r_weak (L' := [some (vr (some 44)), some (vi a1), some (vi z1.1), some (vi z1.2.1), some (vi z1.2.2), some (vi z8.1), none]) ⟨rfl, rfl, rfl, rfl, rfl, rfl, trivial⟩ (J10 _ hx12)
        · replace eb13 := ite_f h14 eb13
          refine r_iload_n dX12_mostly_31 rfl ?_
          refine r_iconst (v := 2) dX12_mostly_32 ci_2 ?_
          refine r_icmp_ge (tgt := 78) dX12_mostly_33 rfl (fun h15 => ?_) (fun h15 => ?_)
          · replace eb13 := ite_t h15 eb13
            cases eb13
            exact r_weak (L' := [some (vr (some 44)), some (vi a1), some (vi z1.1), some (vi z1.2.1), some (vi z1.2.2), some (vi z8.1), none]) ⟨rfl, rfl, rfl, rfl, rfl, rfl, trivial⟩ (J10 _ hx12)
          · replace eb13 := ite_f h15 eb13
            refine r_iload dX12_mostly_36 rfl ?_
            refine r_iload_n dX12_mostly_38 rfl ?_
            obtain ⟨p16, ep18, eb13⟩ := obind eb13
            have J17a : Run l G M_X12_mostly 1 59 [some (vr (some 44)), some (vi a1), some (vi z1.1), some (vi z1.2.1), some (vi z1.2.2), none, some (vi z8.2)] [vi p16, vi z8.1] S mm (some (vi q)) S mm := by
              refine r_iload dX12_mostly_59 rfl ?_
              have J25 : ∀ (w24 : Int32), w24 = (if p16 = z1.2.2 then (1 : Int32) else (0 : Int32)) → Run l G M_X12_mostly 1 69 [some (vr (some 44)), some (vi a1), some (vi z1.1), some (vi z1.2.1), some (vi z1.2.2), none, some (vi z8.2)] [vi w24, vi z8.1] S mm (some (vi q)) S mm := by
                intro w24 hw26
                subst hw26
                refine r_iadd dX12_mostly_69 ?_
                refine r_istore dX12_mostly_70 (by decide) rfl ?_
                refine r_iinc (v := _ + (1 : Int32)) dX12_mostly_72 rfl (congrArg (_ + ·) ci_1) (by decide) rfl ?_
                refine r_goto (tgt := 22) dX12_mostly_75 rfl ?_
                cases eb13
                exact r_weak (L' := [some (vr (some 44)), some (vi a1), some (vi z1.1), some (vi z1.2.1), some (vi z1.2.2), some (vi (z8.1 + (if p16 = z1.2.2 then (1 : Int32) else (0 : Int32)))), some (vi (z8.2 + (1 : Int32)))]) ⟨rfl, rfl, rfl, rfl, rfl, rfl, rfl, trivial⟩ hx12
              refine r_icmp_ne (tgt := 68) dX12_mostly_61 rfl (fun h23 => ?_) (fun h23 => ?_)
              · refine r_iconst (v := 0) dX12_mostly_68 ci_0 ?_
                exact r_weak (L' := [some (vr (some 44)), some (vi a1), some (vi z1.1), some (vi z1.2.1), some (vi z1.2.2), none, some (vi z8.2)]) ⟨rfl, rfl, rfl, rfl, rfl, rfl, trivial⟩ (J25 _ (Eq.symm (if_neg h23)))
              · refine r_iconst (v := 1) dX12_mostly_64 ci_1 ?_
                refine r_goto (tgt := 69) dX12_mostly_65 rfl ?_
                exact r_weak (L' := [some (vr (some 44)), some (vi a1), some (vi z1.1), some (vi z1.2.1), some (vi z1.2.2), none, some (vi z8.2)]) ⟨rfl, rfl, rfl, rfl, rfl, rfl, trivial⟩ (J25 _ (Eq.symm (if_pos h23)))
            have J17 : ∀ pp : Int32, pp = p16 → Run l G M_X12_mostly 1 59 [some (vr (some 44)), some (vi a1), some (vi z1.1), some (vi z1.2.1), some (vi z1.2.2), none, some (vi z8.2)] [vi pp, vi z8.1] S mm (some (vi q)) S mm := by
              intro pp hpp
              rw [hpp]
              exact J17a
            refine r_if_ne (tgt := 52) dX12_mostly_39 rfl (fun h20 => ?_) (fun h20 => ?_)
            · replace ep18 := ite_f h20 ep18
              refine r_aload_n dX12_mostly_52 rfl ?_
              refine r_getR dX12_mostly_53 fl_X12_59 rfl (lp_44 hS) (lq_44 hS) (lr_44_36 hS) ?_
              refine r_iload dX12_mostly_56 rfl ?_
              obtain ⟨hg21, ep18⟩ := grd_some ep18
              refine r_iald dX12_mostly_58 (lp_61 hS) (lk_61 hS) hg21 ?_
              exact r_weak (L' := [some (vr (some 44)), some (vi a1), some (vi z1.1), some (vi z1.2.1), some (vi z1.2.2), none, some (vi z8.2)]) ⟨rfl, rfl, rfl, rfl, rfl, rfl, trivial⟩ (J17 _ (Option.some.inj ep18))
            · replace ep18 := ite_t h20 ep18
              refine r_aload_n dX12_mostly_42 rfl ?_
              refine r_getR dX12_mostly_43 fl_X12_56 rfl (lp_44 hS) (lq_44 hS) (lr_44_35 hS) ?_
              refine r_iload dX12_mostly_46 rfl ?_
              obtain ⟨hg22, ep18⟩ := grd_some ep18
              refine r_iald dX12_mostly_48 (lp_60 hS) (lk_60 hS) hg22 ?_
              refine r_goto (tgt := 59) dX12_mostly_49 rfl ?_
              exact r_weak (L' := [some (vr (some 44)), some (vi a1), some (vi z1.1), some (vi z1.2.1), some (vi z1.2.2), none, some (vi z8.2)]) ⟨rfl, rfl, rfl, rfl, rfl, rfl, trivial⟩ (J17 _ (Option.some.inj ep18))
      exact r_weak (L' := [some (vr (some 44)), some (vi a1), some (vi z1.1), some (vi z1.2.1), some (vi z1.2.2), some (vi (0 : Int32)), some (vi (0 : Int32))]) ⟨rfl, rfl, rfl, rfl, rfl, rfl, rfl, trivial⟩ J10w
  exact r_weak (L' := [some (vr (some 44)), some (vi a1), some (vi (-1 : Int32)), some (vi (0 : Int32)), some (vi (0 : Int32)), none, none]) ⟨rfl, rfl, rfl, rfl, rfl, trivial⟩ J3w
def m_X12_hasSworn_b5 (a1 : Int32) (a2 : Int32) (mm : Mm) (z1 : Int32 × Int32) : Option ((Int32 × Int32) ⊕ (Int32)) := if (mI mm 44 25) ≤ z1.2 then (some (.inr z1.1)) else ((if z1.1 = 0 then (grd z1.2 16 (if (mI mm 60 (ix z1.2)) = a1 then (grd z1.2 16 (if (mI mm 61 (ix z1.2)) = a2 then (some (1 : Int32)) else (some (0 : Int32)))) else (some (0 : Int32)))) else (some (1 : Int32)) : Option (Int32)).bind (fun p8 => some (.inl (p8, z1.2 + (1 : Int32)))))
def m_X12_hasSworn (a1 : Int32) (a2 : Int32) (mm : Mm) : Option (Int32) := (whileF FU (m_X12_hasSworn_b5 a1 a2 mm) ((0 : Int32), (0 : Int32))).bind (fun p2 => gbz p2 (some p2))
set_option maxHeartbeats 4000000 in
set_option maxRecDepth 100000 in
theorem c_X12_hasSworn {l : Launch} {G : Gt} {S : Sk} (hS : Lay S) {a1 : Int32} {a2 : Int32} {mm : Mm} {q : Int32} (e : m_X12_hasSworn a1 a2 mm = some q) : CallOK l G M_X12_hasSworn yX12_hasSworn 0 [vr (some 44), vi a1, vi a2] S mm (some (vi q)) S mm := by
  refine call_of_run rfl rfl rfl (Nat.le_of_ble_eq_true rfl) ?_
  show Run l G M_X12_hasSworn 0 0 [some (vr (some 44)), some (vi a1), some (vi a2), none, none] [] S mm (some (vi q)) S mm
  unfold m_X12_hasSworn at e
  refine r_iconst (v := 0) dX12_hasSworn_0 ci_0 ?_
  refine r_istore_n dX12_hasSworn_1 (by decide) rfl ?_
  refine r_iconst (v := 0) dX12_hasSworn_2 ci_0 ?_
  refine r_istore dX12_hasSworn_3 (by decide) rfl ?_
  obtain ⟨p2, eb6w, e⟩ := obind e
  have J3a : Run l G M_X12_hasSworn 0 52 [none, none, none, some (vi p2), none] [] S mm (some (vi q)) S mm := by
    refine r_iload_n dX12_hasSworn_52 rfl ?_
    obtain ⟨hbz, e⟩ := gbz_some e
    cases e
    exact r_ireturn dX12_hasSworn_53 rfl (nz_b hbz).1
  have J3 : ∀ pp : Int32, pp = p2 → Run l G M_X12_hasSworn 0 52 [none, none, none, some (vi pp), none] [] S mm (some (vi q)) S mm := by
    intro pp hpp
    rw [hpp]
    exact J3a
  have J3w : Run l G M_X12_hasSworn 0 5 [some (vr (some 44)), some (vi a1), some (vi a2), some (vi (0 : Int32)), some (vi (0 : Int32))] [] S mm (some (vi q)) S mm := by
    refine while_run (s := ((0 : Int32), (0 : Int32))) (Gs := fun (z1 : Int32 × Int32) => Run l G M_X12_hasSworn 0 5 [some (vr (some 44)), some (vi a1), some (vi a2), some (vi z1.1), some (vi z1.2)] [] S mm (some (vi q)) S mm) eb6w ?_
    intro z1 x4y eb6 hx5
    unfold m_X12_hasSworn_b5 at eb6
    refine r_iload dX12_hasSworn_5 rfl ?_
    refine r_aload_n dX12_hasSworn_7 rfl ?_
    refine r_getI dX12_hasSworn_8 fl_X12_280 rfl (lp_44 hS) (lq_44 hS) ?_
    refine r_icmp_ge (tgt := 52) dX12_hasSworn_11 rfl (fun h7 => ?_) (fun h7 => ?_)
    · replace eb6 := ite_t h7 eb6
      cases eb6
      exact r_weak (L' := [none, none, none, some (vi z1.1), none]) ⟨rfl, trivial⟩ (J3 _ hx5)
    · replace eb6 := ite_f h7 eb6
      refine r_iload_n dX12_hasSworn_14 rfl ?_
      obtain ⟨p8, ep10, eb6⟩ := obind eb6
      have J9a : Run l G M_X12_hasSworn 0 45 [some (vr (some 44)), some (vi a1), some (vi a2), none, some (vi z1.2)] [vi p8] S mm (some (vi q)) S mm := by
        refine r_istore_n dX12_hasSworn_45 (by decide) rfl ?_
        refine r_iinc (v := _ + (1 : Int32)) dX12_hasSworn_46 rfl (congrArg (_ + ·) ci_1) (by decide) rfl ?_
        refine r_goto (tgt := 5) dX12_hasSworn_49 rfl ?_
        cases eb6
        exact r_weak (L' := [some (vr (some 44)), some (vi a1), some (vi a2), some (vi p8), some (vi (z1.2 + (1 : Int32)))]) ⟨rfl, rfl, rfl, rfl, rfl, trivial⟩ hx5
      have J9 : ∀ pp : Int32, pp = p8 → Run l G M_X12_hasSworn 0 45 [some (vr (some 44)), some (vi a1), some (vi a2), none, some (vi z1.2)] [vi pp] S mm (some (vi q)) S mm := by
        intro pp hpp
        rw [hpp]
        exact J9a
      refine r_if_ne (tgt := 40) dX12_hasSworn_15 rfl (fun h12 => ?_) (fun h12 => ?_)
      · replace ep10 := ite_f h12 ep10
        refine r_iconst (v := 1) dX12_hasSworn_40 ci_1 ?_
        refine r_goto (tgt := 45) dX12_hasSworn_41 rfl ?_
        exact r_weak (L' := [some (vr (some 44)), some (vi a1), some (vi a2), none, some (vi z1.2)]) ⟨rfl, rfl, rfl, rfl, trivial⟩ (J9 _ (Option.some.inj ep10))
      · replace ep10 := ite_t h12 ep10
        refine r_aload_n dX12_hasSworn_18 rfl ?_
        refine r_getR dX12_hasSworn_19 fl_X12_56 rfl (lp_44 hS) (lq_44 hS) (lr_44_35 hS) ?_
        refine r_iload dX12_hasSworn_22 rfl ?_
        obtain ⟨hg13, ep10⟩ := grd_some ep10
        refine r_iald dX12_hasSworn_24 (lp_60 hS) (lk_60 hS) hg13 ?_
        refine r_iload_n dX12_hasSworn_25 rfl ?_
        refine r_icmp_ne (tgt := 44) dX12_hasSworn_26 rfl (fun h14 => ?_) (fun h14 => ?_)
        · replace ep10 := ite_f h14 ep10
          refine r_iconst (v := 0) dX12_hasSworn_44 ci_0 ?_
          exact r_weak (L' := [some (vr (some 44)), some (vi a1), some (vi a2), none, some (vi z1.2)]) ⟨rfl, rfl, rfl, rfl, trivial⟩ (J9 _ (Option.some.inj ep10))
        · replace ep10 := ite_t h14 ep10
          refine r_aload_n dX12_hasSworn_29 rfl ?_
          refine r_getR dX12_hasSworn_30 fl_X12_59 rfl (lp_44 hS) (lq_44 hS) (lr_44_36 hS) ?_
          refine r_iload dX12_hasSworn_33 rfl ?_
          obtain ⟨hg15, ep10⟩ := grd_some ep10
          refine r_iald dX12_hasSworn_35 (lp_61 hS) (lk_61 hS) hg15 ?_
          refine r_iload_n dX12_hasSworn_36 rfl ?_
          refine r_icmp_ne (tgt := 44) dX12_hasSworn_37 rfl (fun h16 => ?_) (fun h16 => ?_)
          · replace ep10 := ite_f h16 ep10
            refine r_iconst (v := 0) dX12_hasSworn_44 ci_0 ?_
            exact r_weak (L' := [some (vr (some 44)), some (vi a1), some (vi a2), none, some (vi z1.2)]) ⟨rfl, rfl, rfl, rfl, trivial⟩ (J9 _ (Option.some.inj ep10))
          · replace ep10 := ite_t h16 ep10
            refine r_iconst (v := 1) dX12_hasSworn_40 ci_1 ?_
            refine r_goto (tgt := 45) dX12_hasSworn_41 rfl ?_
            exact r_weak (L' := [some (vr (some 44)), some (vi a1), some (vi a2), none, some (vi z1.2)]) ⟨rfl, rfl, rfl, rfl, trivial⟩ (J9 _ (Option.some.inj ep10))
  exact r_weak (L' := [some (vr (some 44)), some (vi a1), some (vi a2), some (vi (0 : Int32)), some (vi (0 : Int32))]) ⟨rfl, rfl, rfl, rfl, rfl, trivial⟩ J3w
def m_X12_mutual_b14 (mm : Mm) (z1 : Int32 × Int32) (z8 : Int32 × Int32) : Option ((Int32 × Int32) ⊕ (Int32)) := if z1.2 ≤ z8.2 then (some (.inr z8.1)) else ((m_X12_hasSworn z1.2 z8.2 mm).bind (fun q15 => (if q15 = 0 then (some (0 : Int32)) else ((m_X12_hasSworn z8.2 z1.2 mm).bind (fun q22 => if q22 = 0 then (some (0 : Int32)) else (some (1 : Int32)))) : Option (Int32)).bind (fun p17 => some (.inl (z8.1 + p17, z8.2 + (1 : Int32))))))
def m_X12_mutual_b4 (mm : Mm) (z1 : Int32 × Int32) : Option ((Int32 × Int32) ⊕ (Int32)) := if (mI mm 44 24) ≤ z1.2 then (some (.inr z1.1)) else ((whileF FU (m_X12_mutual_b14 mm z1) (z1.1, (0 : Int32))).bind (fun p9 => some (.inl (p9, z1.2 + (1 : Int32)))))
def m_X12_mutual (mm : Mm) : Option (Int32) := (whileF FU (m_X12_mutual_b4 mm) ((0 : Int32), (0 : Int32))).bind (fun p2 => some p2)
set_option maxHeartbeats 4000000 in
set_option maxRecDepth 100000 in
theorem c_X12_mutual {l : Launch} {G : Gt} {S : Sk} (hS : Lay S) {mm : Mm} {q : Int32} (e : m_X12_mutual mm = some q) : CallOK l G M_X12_mutual yX12_mutual 1 [vr (some 44)] S mm (some (vi q)) S mm := by
  refine call_of_run rfl rfl rfl (Nat.le_of_ble_eq_true rfl) ?_
  show Run l G M_X12_mutual 1 0 [some (vr (some 44)), none, none, none] [] S mm (some (vi q)) S mm
  unfold m_X12_mutual at e
  refine r_iconst (v := 0) dX12_mutual_0 ci_0 ?_
  refine r_istore_n dX12_mutual_1 (by decide) rfl ?_
  refine r_iconst (v := 0) dX12_mutual_2 ci_0 ?_
  refine r_istore_n dX12_mutual_3 (by decide) rfl ?_
  obtain ⟨p2, eb6w, e⟩ := obind e
  have J3a : Run l G M_X12_mutual 1 57 [none, some (vi p2), none, none] [] S mm (some (vi q)) S mm := by
    refine r_iload_n dX12_mutual_57 rfl ?_
    cases e
    exact r_ireturn dX12_mutual_58 rfl rfl
  have J3 : ∀ pp : Int32, pp = p2 → Run l G M_X12_mutual 1 57 [none, some (vi pp), none, none] [] S mm (some (vi q)) S mm := by
    intro pp hpp
    rw [hpp]
    exact J3a
  have J3w : Run l G M_X12_mutual 1 4 [some (vr (some 44)), some (vi (0 : Int32)), some (vi (0 : Int32)), none] [] S mm (some (vi q)) S mm := by
    refine while_run (s := ((0 : Int32), (0 : Int32))) (Gs := fun (z1 : Int32 × Int32) => Run l G M_X12_mutual 1 4 [some (vr (some 44)), some (vi z1.1), some (vi z1.2), none] [] S mm (some (vi q)) S mm) eb6w ?_
    intro z1 x4y eb6 hx5
    unfold m_X12_mutual_b4 at eb6
    refine r_iload_n dX12_mutual_4 rfl ?_
    refine r_aload_n dX12_mutual_5 rfl ?_
    refine r_getI dX12_mutual_6 fl_X12_283 rfl (lp_44 hS) (lq_44 hS) ?_
    refine r_icmp_ge (tgt := 57) dX12_mutual_9 rfl (fun h7 => ?_) (fun h7 => ?_)
    · replace eb6 := ite_t h7 eb6
      cases eb6
      exact r_weak (L' := [none, some (vi z1.1), none, none]) ⟨rfl, trivial⟩ (J3 _ hx5)
    · replace eb6 := ite_f h7 eb6
      refine r_iconst (v := 0) dX12_mutual_12 ci_0 ?_
      refine r_istore_n dX12_mutual_13 (by decide) rfl ?_
      obtain ⟨p9, eb13w, eb6⟩ := obind eb6
      have J10a : Run l G M_X12_mutual 1 51 [some (vr (some 44)), some (vi p9), some (vi z1.2), none] [] S mm (some (vi q)) S mm := by
        refine r_iinc (v := _ + (1 : Int32)) dX12_mutual_51 rfl (congrArg (_ + ·) ci_1) (by decide) rfl ?_
        refine r_goto (tgt := 4) dX12_mutual_54 rfl ?_
        cases eb6
        exact r_weak (L' := [some (vr (some 44)), some (vi p9), some (vi (z1.2 + (1 : Int32))), none]) ⟨rfl, rfl, rfl, trivial⟩ hx5
      have J10 : ∀ pp : Int32, pp = p9 → Run l G M_X12_mutual 1 51 [some (vr (some 44)), some (vi pp), some (vi z1.2), none] [] S mm (some (vi q)) S mm := by
        intro pp hpp
        rw [hpp]
        exact J10a
      have J10w : Run l G M_X12_mutual 1 14 [some (vr (some 44)), some (vi z1.1), some (vi z1.2), some (vi (0 : Int32))] [] S mm (some (vi q)) S mm := by
        refine while_run (s := (z1.1, (0 : Int32))) (Gs := fun (z8 : Int32 × Int32) => Run l G M_X12_mutual 1 14 [some (vr (some 44)), some (vi z8.1), some (vi z1.2), some (vi z8.2)] [] S mm (some (vi q)) S mm) eb13w ?_
        intro z8 x11y eb13 hx12
        unfold m_X12_mutual_b14 at eb13
        refine r_iload_n dX12_mutual_14 rfl ?_
        refine r_iload_n dX12_mutual_15 rfl ?_
        refine r_icmp_ge (tgt := 51) dX12_mutual_16 rfl (fun h14 => ?_) (fun h14 => ?_)
        · replace eb13 := ite_t h14 eb13
          cases eb13
          exact r_weak (L' := [some (vr (some 44)), some (vi z8.1), some (vi z1.2), none]) ⟨rfl, rfl, rfl, trivial⟩ (J10 _ hx12)
        · replace eb13 := ite_f h14 eb13
          refine r_iload_n dX12_mutual_19 rfl ?_
          refine r_aload_n dX12_mutual_20 rfl ?_
          refine r_iload_n dX12_mutual_21 rfl ?_
          refine r_iload_n dX12_mutual_22 rfl ?_
          obtain ⟨q15, eq16, eb13⟩ := obind eb13
          refine r_callV (as := [_, _]) (rest := [_]) dX12_mutual_23 ml_X12_505 yV_X12_hasSworn (c_X12_hasSworn hS eq16) (by decide) rfl (lp_44 hS) (lq_44 hS) (Nat.le_of_ble_eq_true rfl) ?_
          obtain ⟨p17, ep19, eb13⟩ := obind eb13
          have J18a : Run l G M_X12_mutual 1 43 [some (vr (some 44)), none, some (vi z1.2), some (vi z8.2)] [vi p17, vi z8.1] S mm (some (vi q)) S mm := by
            refine r_iadd dX12_mutual_43 ?_
            refine r_istore_n dX12_mutual_44 (by decide) rfl ?_
            refine r_iinc (v := _ + (1 : Int32)) dX12_mutual_45 rfl (congrArg (_ + ·) ci_1) (by decide) rfl ?_
            refine r_goto (tgt := 14) dX12_mutual_48 rfl ?_
            cases eb13
            exact r_weak (L' := [some (vr (some 44)), some (vi (z8.1 + p17)), some (vi z1.2), some (vi (z8.2 + (1 : Int32)))]) ⟨rfl, rfl, rfl, rfl, trivial⟩ hx12
          have J18 : ∀ pp : Int32, pp = p17 → Run l G M_X12_mutual 1 43 [some (vr (some 44)), none, some (vi z1.2), some (vi z8.2)] [vi pp, vi z8.1] S mm (some (vi q)) S mm := by
            intro pp hpp
            rw [hpp]
            exact J18a
          refine r_if_eq (tgt := 42) dX12_mutual_26 rfl (fun h21 => ?_) (fun h21 => ?_)
          · replace ep19 := ite_t h21 ep19
            refine r_iconst (v := 0) dX12_mutual_42 ci_0 ?_
            exact r_weak (L' := [some (vr (some 44)), none, some (vi z1.2), some (vi z8.2)]) ⟨rfl, rfl, rfl, trivial⟩ (J18 _ (Option.some.inj ep19))
          · replace ep19 := ite_f h21 ep19
            refine r_aload_n dX12_mutual_29 rfl ?_
            refine r_iload_n dX12_mutual_30 rfl ?_
            refine r_iload_n dX12_mutual_31 rfl ?_
            obtain ⟨q22, eq23, ep19⟩ := obind ep19
            refine r_callV (as := [_, _]) (rest := [_]) dX12_mutual_32 ml_X12_505 yV_X12_hasSworn (c_X12_hasSworn hS eq23) (by decide) rfl (lp_44 hS) (lq_44 hS) (Nat.le_of_ble_eq_true rfl) ?_
            refine r_if_eq (tgt := 42) dX12_mutual_35 rfl (fun h24 => ?_) (fun h24 => ?_)
            · replace ep19 := ite_t h24 ep19
              refine r_iconst (v := 0) dX12_mutual_42 ci_0 ?_
              exact r_weak (L' := [some (vr (some 44)), none, some (vi z1.2), some (vi z8.2)]) ⟨rfl, rfl, rfl, trivial⟩ (J18 _ (Option.some.inj ep19))
            · replace ep19 := ite_f h24 ep19
              refine r_iconst (v := 1) dX12_mutual_38 ci_1 ?_
              refine r_goto (tgt := 43) dX12_mutual_39 rfl ?_
              exact r_weak (L' := [some (vr (some 44)), none, some (vi z1.2), some (vi z8.2)]) ⟨rfl, rfl, rfl, trivial⟩ (J18 _ (Option.some.inj ep19))
      exact r_weak (L' := [some (vr (some 44)), some (vi z1.1), some (vi z1.2), some (vi (0 : Int32))]) ⟨rfl, rfl, rfl, rfl, trivial⟩ J10w
  exact r_weak (L' := [some (vr (some 44)), some (vi (0 : Int32)), some (vi (0 : Int32)), none]) ⟨rfl, rfl, rfl, trivial⟩ J3w
def m_X12_hardest_b4 (mm : Mm) (z1 : Int32 × Int32) : Option ((Int32 × Int32) ⊕ (Int32)) := if (8 : Int32) ≤ z1.2 then (some (.inr z1.1)) else ((m_X12_of ((20 : Int32) + z1.2) mm).bind (fun q8 => (m_X12_of ((20 : Int32) + z1.1) mm).bind (fun q10 => some (.inl ((if q8 ≤ q10 then z1.1 else z1.2), z1.2 + (1 : Int32))))))
def m_X12_hardest (mm : Mm) : Option (Int32) := (whileF FU (m_X12_hardest_b4 mm) ((0 : Int32), (1 : Int32))).bind (fun p2 => some p2)
set_option maxHeartbeats 4000000 in
set_option maxRecDepth 100000 in
theorem c_X12_hardest {l : Launch} {G : Gt} {S : Sk} (hS : Lay S) {mm : Mm} {q : Int32} (e : m_X12_hardest mm = some q) : CallOK l G M_X12_hardest yX12_hardest 1 [vr (some 44)] S mm (some (vi q)) S mm := by
  refine call_of_run rfl rfl rfl (Nat.le_of_ble_eq_true rfl) ?_
  show Run l G M_X12_hardest 1 0 [some (vr (some 44)), none, none] [] S mm (some (vi q)) S mm
  unfold m_X12_hardest at e
  refine r_iconst (v := 0) dX12_hardest_0 ci_0 ?_
  refine r_istore_n dX12_hardest_1 (by decide) rfl ?_
  refine r_iconst (v := 1) dX12_hardest_2 ci_1 ?_
  refine r_istore_n dX12_hardest_3 (by decide) rfl ?_
  obtain ⟨p2, eb6w, e⟩ := obind e
  have J3a : Run l G M_X12_hardest 1 41 [none, some (vi p2), none] [] S mm (some (vi q)) S mm := by
    refine r_iload_n dX12_hardest_41 rfl ?_
    cases e
    exact r_ireturn dX12_hardest_42 rfl rfl
  have J3 : ∀ pp : Int32, pp = p2 → Run l G M_X12_hardest 1 41 [none, some (vi pp), none] [] S mm (some (vi q)) S mm := by
    intro pp hpp
    rw [hpp]
    exact J3a
  have J3w : Run l G M_X12_hardest 1 4 [some (vr (some 44)), some (vi (0 : Int32)), some (vi (1 : Int32))] [] S mm (some (vi q)) S mm := by
    refine while_run (s := ((0 : Int32), (1 : Int32))) (Gs := fun (z1 : Int32 × Int32) => Run l G M_X12_hardest 1 4 [some (vr (some 44)), some (vi z1.1), some (vi z1.2)] [] S mm (some (vi q)) S mm) eb6w ?_
    intro z1 x4y eb6 hx5
    unfold m_X12_hardest_b4 at eb6
    refine r_iload_n dX12_hardest_4 rfl ?_
    refine r_bipush (v := 8) dX12_hardest_5 cb_8 ?_
    refine r_icmp_ge (tgt := 41) dX12_hardest_7 rfl (fun h7 => ?_) (fun h7 => ?_)
    · replace eb6 := ite_t h7 eb6
      cases eb6
      exact r_weak (L' := [none, some (vi z1.1), none]) ⟨rfl, trivial⟩ (J3 _ hx5)
    · replace eb6 := ite_f h7 eb6
      refine r_aload_n dX12_hardest_10 rfl ?_
      refine r_bipush (v := 20) dX12_hardest_11 cb_20 ?_
      refine r_iload_n dX12_hardest_13 rfl ?_
      refine r_iadd dX12_hardest_14 ?_
      obtain ⟨q8, eq9, eb6⟩ := obind eb6
      refine r_callV (as := [_]) (rest := []) dX12_hardest_15 ml_X12_276 yV_X12_of (c_X12_of hS eq9) (by decide) rfl (lp_44 hS) (lq_44 hS) (Nat.le_of_ble_eq_true rfl) ?_
      refine r_aload_n dX12_hardest_18 rfl ?_
      refine r_bipush (v := 20) dX12_hardest_19 cb_20 ?_
      refine r_iload_n dX12_hardest_21 rfl ?_
      refine r_iadd dX12_hardest_22 ?_
      obtain ⟨q10, eq11, eb6⟩ := obind eb6
      refine r_callV (as := [_]) (rest := [_]) dX12_hardest_23 ml_X12_276 yV_X12_of (c_X12_of hS eq11) (by decide) rfl (lp_44 hS) (lq_44 hS) (Nat.le_of_ble_eq_true rfl) ?_
      have J14 : ∀ (w13 : Int32), w13 = (if q8 ≤ q10 then z1.1 else z1.2) → Run l G M_X12_hardest 1 34 [some (vr (some 44)), none, some (vi z1.2)] [vi w13] S mm (some (vi q)) S mm := by
        intro w13 hw15
        subst hw15
        refine r_istore_n dX12_hardest_34 (by decide) rfl ?_
        refine r_iinc (v := _ + (1 : Int32)) dX12_hardest_35 rfl (congrArg (_ + ·) ci_1) (by decide) rfl ?_
        refine r_goto (tgt := 4) dX12_hardest_38 rfl ?_
        cases eb6
        exact r_weak (L' := [some (vr (some 44)), some (vi (if q8 ≤ q10 then z1.1 else z1.2)), some (vi (z1.2 + (1 : Int32)))]) ⟨rfl, rfl, rfl, trivial⟩ hx5
      refine r_icmp_le (tgt := 33) dX12_hardest_26 rfl (fun h12 => ?_) (fun h12 => ?_)
      · refine r_iload_n dX12_hardest_33 rfl ?_
        exact r_weak (L' := [some (vr (some 44)), none, some (vi z1.2)]) ⟨rfl, rfl, trivial⟩ (J14 _ (Eq.symm (if_pos h12)))
      · refine r_iload_n dX12_hardest_29 rfl ?_
        refine r_goto (tgt := 34) dX12_hardest_30 rfl ?_
        exact r_weak (L' := [some (vr (some 44)), none, some (vi z1.2)]) ⟨rfl, rfl, trivial⟩ (J14 _ (Eq.symm (if_neg h12)))
  exact r_weak (L' := [some (vr (some 44)), some (vi (0 : Int32)), some (vi (1 : Int32))]) ⟨rfl, rfl, rfl, trivial⟩ J3w
def m_X12_safe (mm : Mm) : Option (Int32) := (m_X12_brokenOnes mm).bind (fun q1 => some (((xshl (1 : Int32) (mI mm 44 25)) - (1 : Int32)) &&& (q1 ^^^ (-1 : Int32))))
set_option maxHeartbeats 4000000 in
set_option maxRecDepth 100000 in
theorem c_X12_safe {l : Launch} {G : Gt} {S : Sk} (hS : Lay S) {mm : Mm} {q : Int32} (e : m_X12_safe mm = some q) : CallOK l G M_X12_safe yX12_safe 5 [vr (some 44)] S mm (some (vi q)) S mm := by
  refine call_of_run rfl rfl rfl (Nat.le_of_ble_eq_true rfl) ?_
  show Run l G M_X12_safe 5 0 [some (vr (some 44))] [] S mm (some (vi q)) S mm
  unfold m_X12_safe at e
  refine r_iconst (v := 1) dX12_safe_0 ci_1 ?_
  refine r_aload_n dX12_safe_1 rfl ?_
  refine r_getI dX12_safe_2 fl_X12_280 rfl (lp_44 hS) (lq_44 hS) ?_
  refine r_ishl dX12_safe_5 ?_
  refine r_iconst (v := 1) dX12_safe_6 ci_1 ?_
  refine r_isub dX12_safe_7 ?_
  refine r_aload_n dX12_safe_8 rfl ?_
  obtain ⟨q1, eq2, e⟩ := obind e
  refine r_callV (as := []) (rest := [_]) dX12_safe_9 ml_X12_334 yV_X12_brokenOnes (c_X12_brokenOnes hS eq2) (by decide) rfl (lp_44 hS) (lq_44 hS) (Nat.le_of_ble_eq_true rfl) ?_
  refine r_iconst (v := -1) dX12_safe_12 ci_m1 ?_
  refine r_ixor dX12_safe_13 ?_
  refine r_iand dX12_safe_14 ?_
  cases e
  exact r_ireturn dX12_safe_15 rfl rfl
def m_X12_spoilers_b14 (q1 : Int32) (z3 : Int32 × Int32 × Mm) : Option ((Int32 × Int32 × Mm) ⊕ (Int32 × Mm)) := if (mI z3.2.2 44 25) ≤ z3.2.1 then (some (.inr (z3.1, z3.2.2))) else ((m_X12_brokenOnes (sI z3.2.2 44 26 (xshl (1 : Int32) z3.2.1))).bind (fun q10 => (m_X12_ones q10).bind (fun q12 => (m_X12_ones (q1 &&& ((xshl (1 : Int32) z3.2.1) ^^^ (-1 : Int32)))).bind (fun q14 => some (.inl (z3.1 ||| (if q14 ≤ q12 then (0 : Int32) else xshl (1 : Int32) z3.2.1), z3.2.1 + (1 : Int32), (sI z3.2.2 44 26 (xshl (1 : Int32) z3.2.1))))))))
def m_X12_spoilers (mm : Mm) : Option (Int32 × Mm) := (m_X12_brokenOnes (sI mm 44 26 (0 : Int32))).bind (fun q1 => (whileF FU (m_X12_spoilers_b14 q1) ((0 : Int32), (0 : Int32), (sI mm 44 26 (0 : Int32)))).bind (fun p4 => some (p4.1, (sI p4.2 44 26 (0 : Int32)))))
set_option maxHeartbeats 4000000 in
set_option maxRecDepth 100000 in
theorem c_X12_spoilers {l : Launch} {G : Gt} {S : Sk} (hS : Lay S) {mm : Mm} {q : Int32 × Mm} (e : m_X12_spoilers mm = some q) : CallOK l G M_X12_spoilers yX12_spoilers 5 [vr (some 44)] S mm (some (vi q.1)) S q.2 := by
  refine call_of_run rfl rfl rfl (Nat.le_of_ble_eq_true rfl) ?_
  show Run l G M_X12_spoilers 5 0 [some (vr (some 44)), none, none, none] [] S mm (some (vi q.1)) S q.2
  unfold m_X12_spoilers at e
  refine r_aload_n dX12_spoilers_0 rfl ?_
  refine r_iconst (v := 0) dX12_spoilers_1 ci_0 ?_
  refine r_putI dX12_spoilers_2 fl_X12_261 ft_12_26 (Or.inl rfl) rfl rfl rfl (lp_44 hS) (lq_44 hS) ?_
  refine r_aload_n dX12_spoilers_5 rfl ?_
  obtain ⟨q1, eq2, e⟩ := obind e
  refine r_callV (as := []) (rest := []) dX12_spoilers_6 ml_X12_334 yV_X12_brokenOnes (c_X12_brokenOnes hS eq2) (by decide) rfl (lp_44 hS) (lq_44 hS) (Nat.le_of_ble_eq_true rfl) ?_
  refine r_istore_n dX12_spoilers_9 (by decide) rfl ?_
  refine r_iconst (v := 0) dX12_spoilers_10 ci_0 ?_
  refine r_istore_n dX12_spoilers_11 (by decide) rfl ?_
  refine r_iconst (v := 0) dX12_spoilers_12 ci_0 ?_
  refine r_istore_n dX12_spoilers_13 (by decide) rfl ?_
  obtain ⟨p4, eb8w, e⟩ := obind e
  have J5a : Run l G M_X12_spoilers 5 65 [some (vr (some 44)), none, some (vi p4.1), none] [] S p4.2 (some (vi q.1)) S q.2 := by
    refine r_aload_n dX12_spoilers_65 rfl ?_
    refine r_iconst (v := 0) dX12_spoilers_66 ci_0 ?_
    refine r_putI dX12_spoilers_67 fl_X12_261 ft_12_26 (Or.inl rfl) rfl rfl rfl (lp_44 hS) (lq_44 hS) ?_
    refine r_iload_n dX12_spoilers_70 rfl ?_
    cases e
    exact r_ireturn dX12_spoilers_71 rfl rfl
  have J5 : ∀ pp : Int32 × Mm, pp = p4 → Run l G M_X12_spoilers 5 65 [some (vr (some 44)), none, some (vi pp.1), none] [] S pp.2 (some (vi q.1)) S q.2 := by
    intro pp hpp
    rw [hpp]
    exact J5a
  have J5w : Run l G M_X12_spoilers 5 14 [some (vr (some 44)), some (vi q1), some (vi (0 : Int32)), some (vi (0 : Int32))] [] S (sI mm 44 26 (0 : Int32)) (some (vi q.1)) S q.2 := by
    refine while_run (s := ((0 : Int32), (0 : Int32), (sI mm 44 26 (0 : Int32)))) (Gs := fun (z3 : Int32 × Int32 × Mm) => Run l G M_X12_spoilers 5 14 [some (vr (some 44)), some (vi q1), some (vi z3.1), some (vi z3.2.1)] [] S z3.2.2 (some (vi q.1)) S q.2) eb8w ?_
    intro z3 x6y eb8 hx7
    unfold m_X12_spoilers_b14 at eb8
    refine r_iload_n dX12_spoilers_14 rfl ?_
    refine r_aload_n dX12_spoilers_15 rfl ?_
    refine r_getI dX12_spoilers_16 fl_X12_280 rfl (lp_44 hS) (lq_44 hS) ?_
    refine r_icmp_ge (tgt := 65) dX12_spoilers_19 rfl (fun h9 => ?_) (fun h9 => ?_)
    · replace eb8 := ite_t h9 eb8
      cases eb8
      exact r_weak (L' := [some (vr (some 44)), none, some (vi z3.1), none]) ⟨rfl, rfl, trivial⟩ (J5 _ hx7)
    · replace eb8 := ite_f h9 eb8
      refine r_aload_n dX12_spoilers_22 rfl ?_
      refine r_iconst (v := 1) dX12_spoilers_23 ci_1 ?_
      refine r_iload_n dX12_spoilers_24 rfl ?_
      refine r_ishl dX12_spoilers_25 ?_
      refine r_putI dX12_spoilers_26 fl_X12_261 ft_12_26 (Or.inl rfl) rfl rfl rfl (lp_44 hS) (lq_44 hS) ?_
      refine r_iload_n dX12_spoilers_29 rfl ?_
      refine r_aload_n dX12_spoilers_30 rfl ?_
      obtain ⟨q10, eq11, eb8⟩ := obind eb8
      refine r_callV (as := []) (rest := [_]) dX12_spoilers_31 ml_X12_334 yV_X12_brokenOnes (c_X12_brokenOnes hS eq11) (by decide) rfl (lp_44 hS) (lq_44 hS) (Nat.le_of_ble_eq_true rfl) ?_
      obtain ⟨q12, eq13, eb8⟩ := obind eb8
      refine r_callS (as := [_]) (rest := [_]) dX12_spoilers_34 ml_X12_295 yS_X12_ones (c_X12_ones hS eq13) (by decide) rfl (Nat.le_of_ble_eq_true rfl) ?_
      refine r_iload_n dX12_spoilers_37 rfl ?_
      refine r_iconst (v := 1) dX12_spoilers_38 ci_1 ?_
      refine r_iload_n dX12_spoilers_39 rfl ?_
      refine r_ishl dX12_spoilers_40 ?_
      refine r_iconst (v := -1) dX12_spoilers_41 ci_m1 ?_
      refine r_ixor dX12_spoilers_42 ?_
      refine r_iand dX12_spoilers_43 ?_
      obtain ⟨q14, eq15, eb8⟩ := obind eb8
      refine r_callS (as := [_]) (rest := [_, _]) dX12_spoilers_44 ml_X12_295 yS_X12_ones (c_X12_ones hS eq15) (by decide) rfl (Nat.le_of_ble_eq_true rfl) ?_
      have J18 : ∀ (w17 : Int32), w17 = (if q14 ≤ q12 then (0 : Int32) else xshl (1 : Int32) z3.2.1) → Run l G M_X12_spoilers 5 57 [some (vr (some 44)), some (vi q1), none, some (vi z3.2.1)] [vi w17, vi z3.1] S (sI z3.2.2 44 26 (xshl (1 : Int32) z3.2.1)) (some (vi q.1)) S q.2 := by
        intro w17 hw19
        subst hw19
        refine r_ior dX12_spoilers_57 ?_
        refine r_istore_n dX12_spoilers_58 (by decide) rfl ?_
        refine r_iinc (v := _ + (1 : Int32)) dX12_spoilers_59 rfl (congrArg (_ + ·) ci_1) (by decide) rfl ?_
        refine r_goto (tgt := 14) dX12_spoilers_62 rfl ?_
        cases eb8
        exact r_weak (L' := [some (vr (some 44)), some (vi q1), some (vi (z3.1 ||| (if q14 ≤ q12 then (0 : Int32) else xshl (1 : Int32) z3.2.1))), some (vi (z3.2.1 + (1 : Int32)))]) ⟨rfl, rfl, rfl, rfl, trivial⟩ hx7
      refine r_icmp_ge (tgt := 56) dX12_spoilers_47 rfl (fun h16 => ?_) (fun h16 => ?_)
      · refine r_iconst (v := 0) dX12_spoilers_56 ci_0 ?_
        exact r_weak (L' := [some (vr (some 44)), some (vi q1), none, some (vi z3.2.1)]) ⟨rfl, rfl, rfl, trivial⟩ (J18 _ (Eq.symm (if_pos h16)))
      · refine r_iconst (v := 1) dX12_spoilers_50 ci_1 ?_
        refine r_iload_n dX12_spoilers_51 rfl ?_
        refine r_ishl dX12_spoilers_52 ?_
        refine r_goto (tgt := 57) dX12_spoilers_53 rfl ?_
        exact r_weak (L' := [some (vr (some 44)), some (vi q1), none, some (vi z3.2.1)]) ⟨rfl, rfl, rfl, trivial⟩ (J18 _ (Eq.symm (if_neg h16)))
  exact r_weak (L' := [some (vr (some 44)), some (vi q1), some (vi (0 : Int32)), some (vi (0 : Int32))]) ⟨rfl, rfl, rfl, rfl, trivial⟩ J5w
def m_X12_moreOaths_b10 (a1 : Int32) (q1 : Int32) (z3 : Int32 × Int32 × Mm) : Option ((Int32 × Int32 × Mm) ⊕ ((Int32 × Mm) ⊕ (Int32 × Mm))) := if (288 : Int32) ≤ z3.2.1 then (some (.inr (.inl (z3.1, z3.2.2)))) else ((m_X12_areTwo (z3.2.1 / (48 : Int32)) (xrem (z3.2.1 / (8 : Int32)) (6 : Int32)) z3.2.2).bind (fun q10 => bS (if q10 = 0 then (some (.inl (z3.1, z3.2.2))) else ((m_X12_isThere (z3.2.1 / (48 : Int32)) (xrem (z3.2.1 / (8 : Int32)) (6 : Int32)) (xrem z3.2.1 (8 : Int32)) z3.2.2).bind (fun q17 => if q17 = 0 then ((m_X12_addOath (z3.2.1 / (48 : Int32)) (xrem (z3.2.1 / (8 : Int32)) (6 : Int32)) (xrem z3.2.1 (8 : Int32)) z3.2.2).bind (fun q20 => (m_X12_brokenOnes q20).bind (fun q22 => bS (if (if (q22 &&& (q1 ^^^ (-1 : Int32))) = 0 then (1 : Int32) else (0 : Int32)) = 0 then (some (.inl ())) else (if a1 = 0 then (some (.inl ())) else (some (.inr (.inr (.inr (.inr ((((100 : Int32) * (z3.2.1 / (48 : Int32))) + ((10 : Int32) * (xrem (z3.2.1 / (8 : Int32)) (6 : Int32)))) + (xrem z3.2.1 (8 : Int32)), (sI q20 44 25 ((mI q20 44 25) - (1 : Int32)))))))))) : Option ((Unit) ⊕ ((Int32 × Mm) ⊕ ((Int32 × Int32 × Mm) ⊕ ((Int32 × Mm) ⊕ (Int32 × Mm)))))) (fun p27 => some (.inl (z3.1 + (if (if (q22 &&& (q1 ^^^ (-1 : Int32))) = 0 then (1 : Int32) else (0 : Int32)) = 0 then (0 : Int32) else (1 : Int32)), (sI q20 44 25 ((mI q20 44 25) - (1 : Int32))))))))) else (some (.inl (z3.1, z3.2.2))))) : Option ((Int32 × Mm) ⊕ ((Int32 × Int32 × Mm) ⊕ ((Int32 × Mm) ⊕ (Int32 × Mm))))) (fun p12 => some (.inl (p12.1, z3.2.1 + (1 : Int32), p12.2)))))
def m_X12_moreOaths (a1 : Int32) (mm : Mm) : Option (Int32 × Mm) := (m_X12_brokenOnes mm).bind (fun q1 => bS (whileF FU (m_X12_moreOaths_b10 a1 q1) ((0 : Int32), (0 : Int32), mm)) (fun p4 => if a1 = 0 then (some (p4.1, p4.2)) else (some ((-1 : Int32), p4.2))))
set_option maxHeartbeats 4000000 in
set_option maxRecDepth 100000 in
theorem c_X12_moreOaths {l : Launch} {G : Gt} {S : Sk} (hS : Lay S) {a1 : Int32} {mm : Mm} {q : Int32 × Mm} (e : m_X12_moreOaths a1 mm = some q) : CallOK l G M_X12_moreOaths yX12_moreOaths 5 [vr (some 44), vi a1] S mm (some (vi q.1)) S q.2 := by
  refine call_of_run rfl rfl rfl (Nat.le_of_ble_eq_true rfl) ?_
  show Run l G M_X12_moreOaths 5 0 [some (vr (some 44)), some (vi a1), none, none, none, none, none, none] [] S mm (some (vi q.1)) S q.2
  unfold m_X12_moreOaths at e
  refine r_aload_n dX12_moreOaths_0 rfl ?_
  obtain ⟨q1, eq2, e⟩ := obind e
  refine r_callV (as := []) (rest := []) dX12_moreOaths_1 ml_X12_334 yV_X12_brokenOnes (c_X12_brokenOnes hS eq2) (by decide) rfl (lp_44 hS) (lq_44 hS) (Nat.le_of_ble_eq_true rfl) ?_
  refine r_istore_n dX12_moreOaths_4 (by decide) rfl ?_
  refine r_iconst (v := 0) dX12_moreOaths_5 ci_0 ?_
  refine r_istore_n dX12_moreOaths_6 (by decide) rfl ?_
  refine r_iconst (v := 0) dX12_moreOaths_7 ci_0 ?_
  refine r_istore dX12_moreOaths_8 (by decide) rfl ?_
  obtain ⟨x6, eb8w, elx6, erx6⟩ := bS_some e
  have J5 : ∀ p4 : Int32 × Mm, x6 = .inl p4 → Run l G M_X12_moreOaths 5 149 [none, some (vi a1), none, some (vi p4.1), none, none, none, none] [] S p4.2 (some (vi q.1)) S q.2 := by
    intro p4 hp4
    replace e := elx6 p4 hp4
    refine r_iload_n dX12_moreOaths_149 rfl ?_
    refine r_if_eq (tgt := 157) dX12_moreOaths_150 rfl (fun h38 => ?_) (fun h38 => ?_)
    · replace e := ite_t h38 e
      refine r_iload_n dX12_moreOaths_157 rfl ?_
      cases e
      exact r_ireturn dX12_moreOaths_158 rfl rfl
    · replace e := ite_f h38 e
      refine r_iconst (v := -1) dX12_moreOaths_153 ci_m1 ?_
      refine r_goto (tgt := 158) dX12_moreOaths_154 rfl ?_
      cases e
      exact r_ireturn dX12_moreOaths_158 rfl rfl
  have J5w : Run l G M_X12_moreOaths 5 10 [some (vr (some 44)), some (vi a1), some (vi q1), some (vi (0 : Int32)), some (vi (0 : Int32)), none, none, none] [] S mm (some (vi q.1)) S q.2 := by
    refine while_run (s := ((0 : Int32), (0 : Int32), mm)) (Gs := fun (z3 : Int32 × Int32 × Mm) => Run l G M_X12_moreOaths 5 10 [some (vr (some 44)), some (vi a1), some (vi q1), some (vi z3.1), some (vi z3.2.1), none, none, none] [] S z3.2.2 (some (vi q.1)) S q.2) eb8w ?_
    intro z3 x6y eb8 hx7
    unfold m_X12_moreOaths_b10 at eb8
    refine r_iload dX12_moreOaths_10 rfl ?_
    refine r_sipush (v := 288) dX12_moreOaths_12 cs_288 ?_
    refine r_icmp_ge (tgt := 149) dX12_moreOaths_15 rfl (fun h9 => ?_) (fun h9 => ?_)
    · replace eb8 := ite_t h9 eb8
      cases eb8
      exact r_weak (L' := [none, some (vi a1), none, some (vi z3.1), none, none, none, none]) ⟨rfl, rfl, trivial⟩ (J5 _ (Eq.symm hx7))
    · replace eb8 := ite_f h9 eb8
      refine r_iload dX12_moreOaths_18 rfl ?_
      refine r_bipush (v := 48) dX12_moreOaths_20 cb_48 ?_
      refine r_idiv dX12_moreOaths_22 (by decide) ?_
      refine r_istore dX12_moreOaths_23 (by decide) rfl ?_
      refine r_iload dX12_moreOaths_25 rfl ?_
      refine r_bipush (v := 8) dX12_moreOaths_27 cb_8 ?_
      refine r_idiv dX12_moreOaths_29 (by decide) ?_
      refine r_bipush (v := 6) dX12_moreOaths_30 cb_6 ?_
      refine r_irem dX12_moreOaths_32 (by decide) ?_
      refine r_istore dX12_moreOaths_33 (by decide) rfl ?_
      refine r_aload_n dX12_moreOaths_35 rfl ?_
      refine r_iload dX12_moreOaths_36 rfl ?_
      refine r_iload dX12_moreOaths_38 rfl ?_
      obtain ⟨q10, eq11, eb8⟩ := obind eb8
      refine r_callV (as := [_, _]) (rest := []) dX12_moreOaths_40 ml_X12_343 yV_X12_areTwo (c_X12_areTwo hS eq11) (by decide) rfl (lp_44 hS) (lq_44 hS) (Nat.le_of_ble_eq_true rfl) ?_
      obtain ⟨x15, ep14, elx15, erx15⟩ := bS_some eb8
      have J13 : ∀ p12 : Int32 × Mm, x15 = .inl p12 → Run l G M_X12_moreOaths 5 143 [some (vr (some 44)), some (vi a1), some (vi q1), some (vi p12.1), some (vi z3.2.1), none, none, none] [] S p12.2 (some (vi q.1)) S q.2 := by
        intro p12 hp12
        replace eb8 := elx15 p12 hp12
        refine r_iinc (v := _ + (1 : Int32)) dX12_moreOaths_143 rfl (congrArg (_ + ·) ci_1) (by decide) rfl ?_
        refine r_goto (tgt := 10) dX12_moreOaths_146 rfl ?_
        cases eb8
        exact r_weak (L' := [some (vr (some 44)), some (vi a1), some (vi q1), some (vi p12.1), some (vi (z3.2.1 + (1 : Int32))), none, none, none]) ⟨rfl, rfl, rfl, rfl, rfl, trivial⟩ hx7
      refine r_if_eq (tgt := 143) dX12_moreOaths_43 rfl (fun h16 => ?_) (fun h16 => ?_)
      · replace ep14 := ite_t h16 ep14
        cases ep14
        exact r_weak (L' := [some (vr (some 44)), some (vi a1), some (vi q1), some (vi z3.1), some (vi z3.2.1), none, none, none]) ⟨rfl, rfl, rfl, rfl, rfl, trivial⟩ (J13 _ rfl)
      · replace ep14 := ite_f h16 ep14
        refine r_aload_n dX12_moreOaths_46 rfl ?_
        refine r_iload dX12_moreOaths_47 rfl ?_
        refine r_iload dX12_moreOaths_49 rfl ?_
        refine r_iload dX12_moreOaths_51 rfl ?_
        refine r_bipush (v := 8) dX12_moreOaths_53 cb_8 ?_
        refine r_irem dX12_moreOaths_55 (by decide) ?_
        obtain ⟨q17, eq18, ep14⟩ := obind ep14
        refine r_callV (as := [_, _, _]) (rest := []) dX12_moreOaths_56 ml_X12_328 yV_X12_isThere (c_X12_isThere hS eq18) (by decide) rfl (lp_44 hS) (lq_44 hS) (Nat.le_of_ble_eq_true rfl) ?_
        refine r_if_ne (tgt := 143) dX12_moreOaths_59 rfl (fun h19 => ?_) (fun h19 => ?_)
        · replace ep14 := ite_f h19 ep14
          cases ep14
          exact r_weak (L' := [some (vr (some 44)), some (vi a1), some (vi q1), some (vi z3.1), some (vi z3.2.1), none, none, none]) ⟨rfl, rfl, rfl, rfl, rfl, trivial⟩ (J13 _ rfl)
        · replace ep14 := ite_t h19 ep14
          refine r_aload_n dX12_moreOaths_62 rfl ?_
          refine r_iload dX12_moreOaths_63 rfl ?_
          refine r_iload dX12_moreOaths_65 rfl ?_
          refine r_iload dX12_moreOaths_67 rfl ?_
          refine r_bipush (v := 8) dX12_moreOaths_69 cb_8 ?_
          refine r_irem dX12_moreOaths_71 (by decide) ?_
          obtain ⟨q20, eq21, ep14⟩ := obind ep14
          refine r_callV (as := [_, _, _]) (rest := []) dX12_moreOaths_72 ml_X12_331 yV_X12_addOath (c_X12_addOath hS eq21) (by decide) rfl (lp_44 hS) (lq_44 hS) (Nat.le_of_ble_eq_true rfl) ?_
          refine r_aload_n dX12_moreOaths_75 rfl ?_
          obtain ⟨q22, eq23, ep14⟩ := obind ep14
          refine r_callV (as := []) (rest := []) dX12_moreOaths_76 ml_X12_334 yV_X12_brokenOnes (c_X12_brokenOnes hS eq23) (by decide) rfl (lp_44 hS) (lq_44 hS) (Nat.le_of_ble_eq_true rfl) ?_
          refine r_iload_n dX12_moreOaths_79 rfl ?_
          refine r_iconst (v := -1) dX12_moreOaths_80 ci_m1 ?_
          refine r_ixor dX12_moreOaths_81 ?_
          refine r_iand dX12_moreOaths_82 ?_
          have J26 : ∀ (w25 : Int32), w25 = (if (q22 &&& (q1 ^^^ (-1 : Int32))) = 0 then (1 : Int32) else (0 : Int32)) → Run l G M_X12_moreOaths 5 91 [some (vr (some 44)), some (vi a1), some (vi q1), some (vi z3.1), some (vi z3.2.1), some (vi (z3.2.1 / (48 : Int32))), some (vi (xrem (z3.2.1 / (8 : Int32)) (6 : Int32))), none] [vi w25] S q20 (some (vi q.1)) S q.2 := by
            intro w25 hw37
            subst hw37
            refine r_istore dX12_moreOaths_91 (by decide) rfl ?_
            refine r_aload_n dX12_moreOaths_93 rfl ?_
            refine r_dup dX12_moreOaths_94 rfl ?_
            refine r_getI dX12_moreOaths_95 fl_X12_280 rfl (lp_44 hS) (lq_44 hS) ?_
            refine r_iconst (v := 1) dX12_moreOaths_98 ci_1 ?_
            refine r_isub dX12_moreOaths_99 ?_
            refine r_putI dX12_moreOaths_100 fl_X12_280 ft_12_25 (Or.inl rfl) rfl rfl rfl (lp_44 hS) (lq_44 hS) ?_
            refine r_iload dX12_moreOaths_103 rfl ?_
            obtain ⟨x30, ep29, elx30, erx30⟩ := bS_some ep14
            have J28 : ∀ p27 : Unit, x30 = .inl p27 → Run l G M_X12_moreOaths 5 130 [some (vr (some 44)), some (vi a1), some (vi q1), some (vi z3.1), some (vi z3.2.1), none, none, some (vi (if (q22 &&& (q1 ^^^ (-1 : Int32))) = 0 then (1 : Int32) else (0 : Int32)))] [] S (sI q20 44 25 ((mI q20 44 25) - (1 : Int32))) (some (vi q.1)) S q.2 := by
              intro p27 hp27
              replace ep14 := elx30 p27 hp27
              refine r_iload_n dX12_moreOaths_130 rfl ?_
              refine r_iload dX12_moreOaths_131 rfl ?_
              have J35 : ∀ (w34 : Int32), w34 = (if (if (q22 &&& (q1 ^^^ (-1 : Int32))) = 0 then (1 : Int32) else (0 : Int32)) = 0 then (0 : Int32) else (1 : Int32)) → Run l G M_X12_moreOaths 5 141 [some (vr (some 44)), some (vi a1), some (vi q1), none, some (vi z3.2.1), none, none, none] [vi w34, vi z3.1] S (sI q20 44 25 ((mI q20 44 25) - (1 : Int32))) (some (vi q.1)) S q.2 := by
                intro w34 hw36
                subst hw36
                refine r_iadd dX12_moreOaths_141 ?_
                refine r_istore_n dX12_moreOaths_142 (by decide) rfl ?_
                cases ep14
                exact r_weak (L' := [some (vr (some 44)), some (vi a1), some (vi q1), some (vi (z3.1 + (if (if (q22 &&& (q1 ^^^ (-1 : Int32))) = 0 then (1 : Int32) else (0 : Int32)) = 0 then (0 : Int32) else (1 : Int32)))), some (vi z3.2.1), none, none, none]) ⟨rfl, rfl, rfl, rfl, rfl, trivial⟩ (J13 _ rfl)
              refine r_if_eq (tgt := 140) dX12_moreOaths_133 rfl (fun h33 => ?_) (fun h33 => ?_)
              · refine r_iconst (v := 0) dX12_moreOaths_140 ci_0 ?_
                exact r_weak (L' := [some (vr (some 44)), some (vi a1), some (vi q1), none, some (vi z3.2.1), none, none, none]) ⟨rfl, rfl, rfl, rfl, trivial⟩ (J35 _ (Eq.symm (if_pos h33)))
              · refine r_iconst (v := 1) dX12_moreOaths_136 ci_1 ?_
                refine r_goto (tgt := 141) dX12_moreOaths_137 rfl ?_
                exact r_weak (L' := [some (vr (some 44)), some (vi a1), some (vi q1), none, some (vi z3.2.1), none, none, none]) ⟨rfl, rfl, rfl, rfl, trivial⟩ (J35 _ (Eq.symm (if_neg h33)))
            refine r_if_eq (tgt := 130) dX12_moreOaths_105 rfl (fun h31 => ?_) (fun h31 => ?_)
            · replace ep29 := ite_t h31 ep29
              cases ep29
              exact r_weak (L' := [some (vr (some 44)), some (vi a1), some (vi q1), some (vi z3.1), some (vi z3.2.1), none, none, some (vi (if (q22 &&& (q1 ^^^ (-1 : Int32))) = 0 then (1 : Int32) else (0 : Int32)))]) ⟨rfl, rfl, rfl, rfl, rfl, rfl, trivial⟩ (J28 _ rfl)
            · replace ep29 := ite_f h31 ep29
              refine r_iload_n dX12_moreOaths_108 rfl ?_
              refine r_if_eq (tgt := 130) dX12_moreOaths_109 rfl (fun h32 => ?_) (fun h32 => ?_)
              · replace ep29 := ite_t h32 ep29
                cases ep29
                exact r_weak (L' := [some (vr (some 44)), some (vi a1), some (vi q1), some (vi z3.1), some (vi z3.2.1), none, none, some (vi (if (q22 &&& (q1 ^^^ (-1 : Int32))) = 0 then (1 : Int32) else (0 : Int32)))]) ⟨rfl, rfl, rfl, rfl, rfl, rfl, trivial⟩ (J28 _ rfl)
              · replace ep29 := ite_f h32 ep29
                refine r_bipush (v := 100) dX12_moreOaths_112 cb_100 ?_
                refine r_iload dX12_moreOaths_114 rfl ?_
                refine r_imul dX12_moreOaths_116 ?_
                refine r_bipush (v := 10) dX12_moreOaths_117 cb_10 ?_
                refine r_iload dX12_moreOaths_119 rfl ?_
                refine r_imul dX12_moreOaths_121 ?_
                refine r_iadd dX12_moreOaths_122 ?_
                refine r_iload dX12_moreOaths_123 rfl ?_
                refine r_bipush (v := 8) dX12_moreOaths_125 cb_8 ?_
                refine r_irem dX12_moreOaths_127 (by decide) ?_
                refine r_iadd dX12_moreOaths_128 ?_
                cases ep29
                have ep14 := congrArg some (erx30 _ rfl)
                cases ep14
                have eb8 := congrArg some (erx15 _ rfl)
                cases eb8
                have e := congrArg some (erx6 _ (Eq.symm hx7))
                cases e
                exact r_ireturn dX12_moreOaths_129 rfl rfl
          refine r_if_ne (tgt := 90) dX12_moreOaths_83 rfl (fun h24 => ?_) (fun h24 => ?_)
          · refine r_iconst (v := 0) dX12_moreOaths_90 ci_0 ?_
            exact r_weak (L' := [some (vr (some 44)), some (vi a1), some (vi q1), some (vi z3.1), some (vi z3.2.1), some (vi (z3.2.1 / (48 : Int32))), some (vi (xrem (z3.2.1 / (8 : Int32)) (6 : Int32))), none]) ⟨rfl, rfl, rfl, rfl, rfl, rfl, rfl, trivial⟩ (J26 _ (Eq.symm (if_neg h24)))
          · refine r_iconst (v := 1) dX12_moreOaths_86 ci_1 ?_
            refine r_goto (tgt := 91) dX12_moreOaths_87 rfl ?_
            exact r_weak (L' := [some (vr (some 44)), some (vi a1), some (vi q1), some (vi z3.1), some (vi z3.2.1), some (vi (z3.2.1 / (48 : Int32))), some (vi (xrem (z3.2.1 / (8 : Int32)) (6 : Int32))), none]) ⟨rfl, rfl, rfl, rfl, rfl, rfl, rfl, trivial⟩ (J26 _ (Eq.symm (if_pos h24)))
  exact r_weak (L' := [some (vr (some 44)), some (vi a1), some (vi q1), some (vi (0 : Int32)), some (vi (0 : Int32)), none, none, none]) ⟨rfl, rfl, rfl, rfl, rfl, trivial⟩ J5w
def m_X12_weak_b4 (mm : Mm) (z1 : Int32 × Int32) : Option ((Int32 × Int32) ⊕ (Int32)) := if (mI mm 44 24) ≤ z1.2 then (some (.inr z1.1)) else ((m_X12_swornFor z1.2 mm).bind (fun q8 => (m_X12_ones q8).bind (fun q10 => (if q10 ≤ 0 then (some z1.1) else (if z1.1 = (-1 : Int32) then (some z1.2) else ((m_X12_keptBy z1.2 mm).bind (fun q18 => (m_X12_ones q18).bind (fun q20 => (m_X12_swornFor z1.1 mm).bind (fun q22 => (m_X12_ones q22).bind (fun q24 => (m_X12_keptBy z1.1 mm).bind (fun q26 => (m_X12_ones q26).bind (fun q28 => if (q28 * q10) ≤ (q20 * q24) then (some z1.1) else (some z1.2))))))))) : Option (Int32)).bind (fun p12 => some (.inl (p12, z1.2 + (1 : Int32)))))))
def m_X12_weak (mm : Mm) : Option (Int32) := (whileF FU (m_X12_weak_b4 mm) ((-1 : Int32), (0 : Int32))).bind (fun p2 => some p2)
set_option maxHeartbeats 4000000 in
set_option maxRecDepth 100000 in
theorem c_X12_weak {l : Launch} {G : Gt} {S : Sk} (hS : Lay S) {mm : Mm} {q : Int32} (e : m_X12_weak mm = some q) : CallOK l G M_X12_weak yX12_weak 4 [vr (some 44)] S mm (some (vi q)) S mm := by
  refine call_of_run rfl rfl rfl (Nat.le_of_ble_eq_true rfl) ?_
  show Run l G M_X12_weak 4 0 [some (vr (some 44)), none, none, none] [] S mm (some (vi q)) S mm
  unfold m_X12_weak at e
  refine r_iconst (v := -1) dX12_weak_0 ci_m1 ?_
  refine r_istore_n dX12_weak_1 (by decide) rfl ?_
  refine r_iconst (v := 0) dX12_weak_2 ci_0 ?_
  refine r_istore_n dX12_weak_3 (by decide) rfl ?_
  obtain ⟨p2, eb6w, e⟩ := obind e
  have J3a : Run l G M_X12_weak 4 68 [none, some (vi p2), none, none] [] S mm (some (vi q)) S mm := by
    refine r_iload_n dX12_weak_68 rfl ?_
    cases e
    exact r_ireturn dX12_weak_69 rfl rfl
  have J3 : ∀ pp : Int32, pp = p2 → Run l G M_X12_weak 4 68 [none, some (vi pp), none, none] [] S mm (some (vi q)) S mm := by
    intro pp hpp
    rw [hpp]
    exact J3a
  have J3w : Run l G M_X12_weak 4 4 [some (vr (some 44)), some (vi (-1 : Int32)), some (vi (0 : Int32)), none] [] S mm (some (vi q)) S mm := by
    refine while_run (s := ((-1 : Int32), (0 : Int32))) (Gs := fun (z1 : Int32 × Int32) => Run l G M_X12_weak 4 4 [some (vr (some 44)), some (vi z1.1), some (vi z1.2), none] [] S mm (some (vi q)) S mm) eb6w ?_
    intro z1 x4y eb6 hx5
    unfold m_X12_weak_b4 at eb6
    refine r_iload_n dX12_weak_4 rfl ?_
    refine r_aload_n dX12_weak_5 rfl ?_
    refine r_getI dX12_weak_6 fl_X12_283 rfl (lp_44 hS) (lq_44 hS) ?_
    refine r_icmp_ge (tgt := 68) dX12_weak_9 rfl (fun h7 => ?_) (fun h7 => ?_)
    · replace eb6 := ite_t h7 eb6
      cases eb6
      exact r_weak (L' := [none, some (vi z1.1), none, none]) ⟨rfl, trivial⟩ (J3 _ hx5)
    · replace eb6 := ite_f h7 eb6
      refine r_aload_n dX12_weak_12 rfl ?_
      refine r_iload_n dX12_weak_13 rfl ?_
      obtain ⟨q8, eq9, eb6⟩ := obind eb6
      refine r_callV (as := [_]) (rest := []) dX12_weak_14 ml_X12_368 yV_X12_swornFor (c_X12_swornFor hS eq9) (by decide) rfl (lp_44 hS) (lq_44 hS) (Nat.le_of_ble_eq_true rfl) ?_
      obtain ⟨q10, eq11, eb6⟩ := obind eb6
      refine r_callS (as := [_]) (rest := []) dX12_weak_17 ml_X12_295 yS_X12_ones (c_X12_ones hS eq11) (by decide) rfl (Nat.le_of_ble_eq_true rfl) ?_
      refine r_istore_n dX12_weak_20 (by decide) rfl ?_
      refine r_iload_n dX12_weak_21 rfl ?_
      obtain ⟨p12, ep14, eb6⟩ := obind eb6
      have J13a : Run l G M_X12_weak 4 62 [some (vr (some 44)), some (vi p12), some (vi z1.2), none] [] S mm (some (vi q)) S mm := by
        refine r_iinc (v := _ + (1 : Int32)) dX12_weak_62 rfl (congrArg (_ + ·) ci_1) (by decide) rfl ?_
        refine r_goto (tgt := 4) dX12_weak_65 rfl ?_
        cases eb6
        exact r_weak (L' := [some (vr (some 44)), some (vi p12), some (vi (z1.2 + (1 : Int32))), none]) ⟨rfl, rfl, rfl, trivial⟩ hx5
      have J13 : ∀ pp : Int32, pp = p12 → Run l G M_X12_weak 4 62 [some (vr (some 44)), some (vi pp), some (vi z1.2), none] [] S mm (some (vi q)) S mm := by
        intro pp hpp
        rw [hpp]
        exact J13a
      refine r_if_le (tgt := 62) dX12_weak_22 rfl (fun h16 => ?_) (fun h16 => ?_)
      · replace ep14 := ite_t h16 ep14
        exact r_weak (L' := [some (vr (some 44)), some (vi z1.1), some (vi z1.2), none]) ⟨rfl, rfl, rfl, trivial⟩ (J13 _ (Option.some.inj ep14))
      · replace ep14 := ite_f h16 ep14
        refine r_iload_n dX12_weak_25 rfl ?_
        refine r_iconst (v := -1) dX12_weak_26 ci_m1 ?_
        refine r_icmp_eq (tgt := 60) dX12_weak_27 rfl (fun h17 => ?_) (fun h17 => ?_)
        · replace ep14 := ite_t h17 ep14
          refine r_iload_n dX12_weak_60 rfl ?_
          refine r_istore_n dX12_weak_61 (by decide) rfl ?_
          exact r_weak (L' := [some (vr (some 44)), some (vi z1.2), some (vi z1.2), none]) ⟨rfl, rfl, rfl, trivial⟩ (J13 _ (Option.some.inj ep14))
        · replace ep14 := ite_f h17 ep14
          refine r_aload_n dX12_weak_30 rfl ?_
          refine r_iload_n dX12_weak_31 rfl ?_
          obtain ⟨q18, eq19, ep14⟩ := obind ep14
          refine r_callV (as := [_]) (rest := []) dX12_weak_32 ml_X12_307 yV_X12_keptBy (c_X12_keptBy hS eq19) (by decide) rfl (lp_44 hS) (lq_44 hS) (Nat.le_of_ble_eq_true rfl) ?_
          obtain ⟨q20, eq21, ep14⟩ := obind ep14
          refine r_callS (as := [_]) (rest := []) dX12_weak_35 ml_X12_295 yS_X12_ones (c_X12_ones hS eq21) (by decide) rfl (Nat.le_of_ble_eq_true rfl) ?_
          refine r_aload_n dX12_weak_38 rfl ?_
          refine r_iload_n dX12_weak_39 rfl ?_
          obtain ⟨q22, eq23, ep14⟩ := obind ep14
          refine r_callV (as := [_]) (rest := [_]) dX12_weak_40 ml_X12_368 yV_X12_swornFor (c_X12_swornFor hS eq23) (by decide) rfl (lp_44 hS) (lq_44 hS) (Nat.le_of_ble_eq_true rfl) ?_
          obtain ⟨q24, eq25, ep14⟩ := obind ep14
          refine r_callS (as := [_]) (rest := [_]) dX12_weak_43 ml_X12_295 yS_X12_ones (c_X12_ones hS eq25) (by decide) rfl (Nat.le_of_ble_eq_true rfl) ?_
          refine r_imul dX12_weak_46 ?_
          refine r_aload_n dX12_weak_47 rfl ?_
          refine r_iload_n dX12_weak_48 rfl ?_
          obtain ⟨q26, eq27, ep14⟩ := obind ep14
          refine r_callV (as := [_]) (rest := [_]) dX12_weak_49 ml_X12_307 yV_X12_keptBy (c_X12_keptBy hS eq27) (by decide) rfl (lp_44 hS) (lq_44 hS) (Nat.le_of_ble_eq_true rfl) ?_
          obtain ⟨q28, eq29, ep14⟩ := obind ep14
          refine r_callS (as := [_]) (rest := [_]) dX12_weak_52 ml_X12_295 yS_X12_ones (c_X12_ones hS eq29) (by decide) rfl (Nat.le_of_ble_eq_true rfl) ?_
          refine r_iload_n dX12_weak_55 rfl ?_
          refine r_imul dX12_weak_56 ?_
          refine r_icmp_ge (tgt := 62) dX12_weak_57 rfl (fun h30 => ?_) (fun h30 => ?_)
          · replace ep14 := ite_t h30 ep14
            exact r_weak (L' := [some (vr (some 44)), some (vi z1.1), some (vi z1.2), none]) ⟨rfl, rfl, rfl, trivial⟩ (J13 _ (Option.some.inj ep14))
          · replace ep14 := ite_f h30 ep14
            refine r_iload_n dX12_weak_60 rfl ?_
            refine r_istore_n dX12_weak_61 (by decide) rfl ?_
            exact r_weak (L' := [some (vr (some 44)), some (vi z1.2), some (vi z1.2), none]) ⟨rfl, rfl, rfl, trivial⟩ (J13 _ (Option.some.inj ep14))
  exact r_weak (L' := [some (vr (some 44)), some (vi (-1 : Int32)), some (vi (0 : Int32)), none]) ⟨rfl, rfl, rfl, trivial⟩ J3w
def m_X12_ofWeak (a1 : Int32) (mm : Mm) : Option (Int32) := (m_X12_weak mm).bind (fun q1 => bS (if q1 = (-1 : Int32) then (some (.inl ())) else (if a1 = (13 : Int32) then (some (.inl ())) else ((m_X12_keptBy q1 mm).bind (fun q9 => (m_X12_ones q9).bind (fun q11 => (m_X12_swornFor q1 mm).bind (fun q13 => (m_X12_ones q13).bind (fun q15 => (m_X12_part q11 q15 (if a1 = (15 : Int32) then (1 : Int32) else (0 : Int32))).bind (fun q20 => some (.inr q20)))))))) : Option ((Unit) ⊕ (Int32))) (fun p3 => some q1))
set_option maxHeartbeats 4000000 in
set_option maxRecDepth 100000 in
theorem c_X12_ofWeak {l : Launch} {G : Gt} {S : Sk} (hS : Lay S) {a1 : Int32} {mm : Mm} {q : Int32} (e : m_X12_ofWeak a1 mm = some q) : CallOK l G M_X12_ofWeak yX12_ofWeak 5 [vr (some 44), vi a1] S mm (some (vi q)) S mm := by
  refine call_of_run rfl rfl rfl (Nat.le_of_ble_eq_true rfl) ?_
  show Run l G M_X12_ofWeak 5 0 [some (vr (some 44)), some (vi a1), none] [] S mm (some (vi q)) S mm
  unfold m_X12_ofWeak at e
  refine r_aload_n dX12_ofWeak_0 rfl ?_
  obtain ⟨q1, eq2, e⟩ := obind e
  refine r_callV (as := []) (rest := []) dX12_ofWeak_1 ml_X12_508 yV_X12_weak (c_X12_weak hS eq2) (by decide) rfl (lp_44 hS) (lq_44 hS) (Nat.le_of_ble_eq_true rfl) ?_
  refine r_istore_n dX12_ofWeak_4 (by decide) rfl ?_
  refine r_iload_n dX12_ofWeak_5 rfl ?_
  refine r_iconst (v := -1) dX12_ofWeak_6 ci_m1 ?_
  obtain ⟨x6, ep5, elx6, erx6⟩ := bS_some e
  have J4 : ∀ p3 : Unit, x6 = .inl p3 → Run l G M_X12_ofWeak 5 16 [none, none, some (vi q1)] [] S mm (some (vi q)) S mm := by
    intro p3 hp3
    replace e := elx6 p3 hp3
    refine r_iload_n dX12_ofWeak_16 rfl ?_
    refine r_goto (tgt := 50) dX12_ofWeak_17 rfl ?_
    cases e
    exact r_ireturn dX12_ofWeak_50 rfl rfl
  refine r_icmp_eq (tgt := 16) dX12_ofWeak_7 rfl (fun h7 => ?_) (fun h7 => ?_)
  · replace ep5 := ite_t h7 ep5
    cases ep5
    exact r_weak (L' := [none, none, some (vi q1)]) ⟨rfl, trivial⟩ (J4 _ rfl)
  · replace ep5 := ite_f h7 ep5
    refine r_iload_n dX12_ofWeak_10 rfl ?_
    refine r_bipush (v := 13) dX12_ofWeak_11 cb_13 ?_
    refine r_icmp_ne (tgt := 20) dX12_ofWeak_13 rfl (fun h8 => ?_) (fun h8 => ?_)
    · replace ep5 := ite_f h8 ep5
      refine r_aload_n dX12_ofWeak_20 rfl ?_
      refine r_iload_n dX12_ofWeak_21 rfl ?_
      obtain ⟨q9, eq10, ep5⟩ := obind ep5
      refine r_callV (as := [_]) (rest := []) dX12_ofWeak_22 ml_X12_307 yV_X12_keptBy (c_X12_keptBy hS eq10) (by decide) rfl (lp_44 hS) (lq_44 hS) (Nat.le_of_ble_eq_true rfl) ?_
      obtain ⟨q11, eq12, ep5⟩ := obind ep5
      refine r_callS (as := [_]) (rest := []) dX12_ofWeak_25 ml_X12_295 yS_X12_ones (c_X12_ones hS eq12) (by decide) rfl (Nat.le_of_ble_eq_true rfl) ?_
      refine r_aload_n dX12_ofWeak_28 rfl ?_
      refine r_iload_n dX12_ofWeak_29 rfl ?_
      obtain ⟨q13, eq14, ep5⟩ := obind ep5
      refine r_callV (as := [_]) (rest := [_]) dX12_ofWeak_30 ml_X12_368 yV_X12_swornFor (c_X12_swornFor hS eq14) (by decide) rfl (lp_44 hS) (lq_44 hS) (Nat.le_of_ble_eq_true rfl) ?_
      obtain ⟨q15, eq16, ep5⟩ := obind ep5
      refine r_callS (as := [_]) (rest := [_]) dX12_ofWeak_33 ml_X12_295 yS_X12_ones (c_X12_ones hS eq16) (by decide) rfl (Nat.le_of_ble_eq_true rfl) ?_
      refine r_iload_n dX12_ofWeak_36 rfl ?_
      refine r_bipush (v := 15) dX12_ofWeak_37 cb_15 ?_
      have J19 : ∀ (w18 : Int32), w18 = (if a1 = (15 : Int32) then (1 : Int32) else (0 : Int32)) → Run l G M_X12_ofWeak 5 47 [none, none, none] [vi w18, vi q15, vi q11] S mm (some (vi q)) S mm := by
        intro w18 hw22
        subst hw22
        obtain ⟨q20, eq21, ep5⟩ := obind ep5
        refine r_callS (as := [_, _, _]) (rest := []) dX12_ofWeak_47 ml_X12_445 yS_X12_part (c_X12_part hS eq21) (by decide) rfl (Nat.le_of_ble_eq_true rfl) ?_
        cases ep5
        have e := congrArg some (erx6 _ rfl)
        cases e
        exact r_ireturn dX12_ofWeak_50 rfl rfl
      refine r_icmp_ne (tgt := 46) dX12_ofWeak_39 rfl (fun h17 => ?_) (fun h17 => ?_)
      · refine r_iconst (v := 0) dX12_ofWeak_46 ci_0 ?_
        exact r_weak (L' := [none, none, none]) trivial (J19 _ (Eq.symm (if_neg h17)))
      · refine r_iconst (v := 1) dX12_ofWeak_42 ci_1 ?_
        refine r_goto (tgt := 47) dX12_ofWeak_43 rfl ?_
        exact r_weak (L' := [none, none, none]) trivial (J19 _ (Eq.symm (if_pos h17)))
    · replace ep5 := ite_t h8 ep5
      cases ep5
      exact r_weak (L' := [none, none, some (vi q1)]) ⟨rfl, trivial⟩ (J4 _ rfl)
def m_X12_ofLone (a1 : Int32) (mm : Mm) : Option (Int32) := if a1 = (0 : Int32) then ((m_X12_forNone mm).bind (fun q2 => some q2)) else (if a1 = (1 : Int32) then ((m_X12_silent mm).bind (fun q5 => some q5)) else (if a1 = (2 : Int32) then ((m_X12_mostly (a1 - (2 : Int32)) mm).bind (fun q8 => some q8)) else (if a1 = (3 : Int32) then ((m_X12_mostly (a1 - (2 : Int32)) mm).bind (fun q11 => some q11)) else (if a1 = (4 : Int32) then ((m_X12_mutual mm).bind (fun q14 => some q14)) else ((m_X12_mostly (2 : Int32) mm).bind (fun q16 => some q16))))))
set_option maxHeartbeats 4000000 in
set_option maxRecDepth 100000 in
theorem c_X12_ofLone {l : Launch} {G : Gt} {S : Sk} (hS : Lay S) {a1 : Int32} {mm : Mm} {q : Int32} (e : m_X12_ofLone a1 mm = some q) : CallOK l G M_X12_ofLone yX12_ofLone 2 [vr (some 44), vi a1] S mm (some (vi q)) S mm := by
  refine call_of_run rfl rfl rfl (Nat.le_of_ble_eq_true rfl) ?_
  show Run l G M_X12_ofLone 2 0 [some (vr (some 44)), some (vi a1)] [] S mm (some (vi q)) S mm
  unfold m_X12_ofLone at e
  refine r_iload_n dX12_ofLone_0 rfl ?_
  by_cases h1 : a1 = (0 : Int32)
  · replace e := ite_t h1 e
    refine r_table_in (tgt := 36) dX12_ofLone_1 (by rw [h1]; decide) (by rw [h1]; decide) (by rw [h1]; rfl) rfl ?_
    refine r_aload_n dX12_ofLone_36 rfl ?_
    obtain ⟨q2, eq3, e⟩ := obind e
    refine r_callV (as := []) (rest := []) dX12_ofLone_37 ml_X12_511 yV_X12_forNone (c_X12_forNone hS eq3) (by decide) rfl (lp_44 hS) (lq_44 hS) (Nat.le_of_ble_eq_true rfl) ?_
    cases e
    exact r_ireturn dX12_ofLone_40 rfl rfl
  replace e := ite_f h1 e
  by_cases h4 : a1 = (1 : Int32)
  · replace e := ite_t h4 e
    refine r_table_in (tgt := 41) dX12_ofLone_1 (by rw [h4]; decide) (by rw [h4]; decide) (by rw [h4]; rfl) rfl ?_
    refine r_aload_n dX12_ofLone_41 rfl ?_
    obtain ⟨q5, eq6, e⟩ := obind e
    refine r_callV (as := []) (rest := []) dX12_ofLone_42 ml_X12_514 yV_X12_silent (c_X12_silent hS eq6) (by decide) rfl (lp_44 hS) (lq_44 hS) (Nat.le_of_ble_eq_true rfl) ?_
    cases e
    exact r_ireturn dX12_ofLone_45 rfl rfl
  replace e := ite_f h4 e
  by_cases h7 : a1 = (2 : Int32)
  · replace e := ite_t h7 e
    refine r_table_in (tgt := 46) dX12_ofLone_1 (by rw [h7]; decide) (by rw [h7]; decide) (by rw [h7]; rfl) rfl ?_
    refine r_aload_n dX12_ofLone_46 rfl ?_
    refine r_iload_n dX12_ofLone_47 rfl ?_
    refine r_iconst (v := 2) dX12_ofLone_48 ci_2 ?_
    refine r_isub dX12_ofLone_49 ?_
    obtain ⟨q8, eq9, e⟩ := obind e
    refine r_callV (as := [_]) (rest := []) dX12_ofLone_50 ml_X12_517 yV_X12_mostly (c_X12_mostly hS eq9) (by decide) rfl (lp_44 hS) (lq_44 hS) (Nat.le_of_ble_eq_true rfl) ?_
    cases e
    exact r_ireturn dX12_ofLone_53 rfl rfl
  replace e := ite_f h7 e
  by_cases h10 : a1 = (3 : Int32)
  · replace e := ite_t h10 e
    refine r_table_in (tgt := 46) dX12_ofLone_1 (by rw [h10]; decide) (by rw [h10]; decide) (by rw [h10]; rfl) rfl ?_
    refine r_aload_n dX12_ofLone_46 rfl ?_
    refine r_iload_n dX12_ofLone_47 rfl ?_
    refine r_iconst (v := 2) dX12_ofLone_48 ci_2 ?_
    refine r_isub dX12_ofLone_49 ?_
    obtain ⟨q11, eq12, e⟩ := obind e
    refine r_callV (as := [_]) (rest := []) dX12_ofLone_50 ml_X12_517 yV_X12_mostly (c_X12_mostly hS eq12) (by decide) rfl (lp_44 hS) (lq_44 hS) (Nat.le_of_ble_eq_true rfl) ?_
    cases e
    exact r_ireturn dX12_ofLone_53 rfl rfl
  replace e := ite_f h10 e
  by_cases h13 : a1 = (4 : Int32)
  · replace e := ite_t h13 e
    refine r_table_in (tgt := 54) dX12_ofLone_1 (by rw [h13]; decide) (by rw [h13]; decide) (by rw [h13]; rfl) rfl ?_
    refine r_aload_n dX12_ofLone_54 rfl ?_
    obtain ⟨q14, eq15, e⟩ := obind e
    refine r_callV (as := []) (rest := []) dX12_ofLone_55 ml_X12_520 yV_X12_mutual (c_X12_mutual hS eq15) (by decide) rfl (lp_44 hS) (lq_44 hS) (Nat.le_of_ble_eq_true rfl) ?_
    cases e
    exact r_ireturn dX12_ofLone_58 rfl rfl
  replace e := ite_f h13 e
  have ho1 : (a1).toInt < 0 ∨ 4 < (a1).toInt := by
    have nh1 := lv_neT (a := 0) h1 (by decide)
    have nh4 := lv_neT (a := 1) h4 (by decide)
    have nh7 := lv_neT (a := 2) h7 (by decide)
    have nh10 := lv_neT (a := 3) h10 (by decide)
    have nh13 := lv_neT (a := 4) h13 (by decide)
    omega
  refine r_table_out (tgt := 59) dX12_ofLone_1 ho1 rfl ?_
  refine r_aload_n dX12_ofLone_59 rfl ?_
  refine r_iconst (v := 2) dX12_ofLone_60 ci_2 ?_
  obtain ⟨q16, eq17, e⟩ := obind e
  refine r_callV (as := [_]) (rest := []) dX12_ofLone_61 ml_X12_517 yV_X12_mostly (c_X12_mostly hS eq17) (by decide) rfl (lp_44 hS) (lq_44 hS) (Nat.le_of_ble_eq_true rfl) ?_
  cases e
  exact r_ireturn dX12_ofLone_64 rfl rfl
def m_X12_lone (a1 : Int32) (a2 : Int32) (mm : Mm) : Option (Int32 × Mm) := (m_X12_hand a1 (sI mm 44 0 (0 : Int32))).bind (fun q1 => if q1.1 = 0 then (some ((-2 : Int32), q1.2)) else (if (m_X12_in a2 (0 : Int32) (5 : Int32)) = 0 then (if a2 = (6 : Int32) then ((m_X12_mostOf (255 : Int32) (8 : Int32) q1.2).bind (fun q6 => (m_X12_ones q6).bind (fun q8 => some (q8, q1.2)))) else (if a2 = (7 : Int32) then ((m_X12_mostOf (255 : Int32) (8 : Int32) q1.2).bind (fun q11 => some (q11, q1.2))) else (if a2 = (8 : Int32) then ((m_X12_hardest q1.2).bind (fun q14 => some (q14, q1.2))) else (if a2 = (9 : Int32) then ((m_X12_safe q1.2).bind (fun q17 => some (q17, q1.2))) else (if a2 = (10 : Int32) then ((m_X12_spoilers q1.2).bind (fun q20 => some (q20.1, q20.2))) else (if a2 = (11 : Int32) then ((m_X12_moreOaths (if a2 = (12 : Int32) then (1 : Int32) else (0 : Int32)) q1.2).bind (fun q26 => some (q26.1, q26.2))) else (if a2 = (12 : Int32) then ((m_X12_moreOaths (if a2 = (12 : Int32) then (1 : Int32) else (0 : Int32)) q1.2).bind (fun q33 => some (q33.1, q33.2))) else (if a2 = (13 : Int32) then ((m_X12_ofWeak a2 q1.2).bind (fun q37 => some (q37, q1.2))) else (if a2 = (14 : Int32) then ((m_X12_ofWeak a2 q1.2).bind (fun q40 => some (q40, q1.2))) else (if a2 = (15 : Int32) then ((m_X12_ofWeak a2 q1.2).bind (fun q43 => some (q43, q1.2))) else (some ((-2 : Int32), q1.2)))))))))))) else ((m_X12_ofLone a2 q1.2).bind (fun q45 => some (q45, q1.2)))))
set_option maxHeartbeats 4000000 in
set_option maxRecDepth 100000 in
theorem c_X12_lone {l : Launch} {G : Gt} {S : Sk} (hS : Lay S) {a1 : Int32} {a2 : Int32} {mm : Mm} {q : Int32 × Mm} (e : m_X12_lone a1 a2 mm = some q) : CallOK l G M_X12_lone yX12_lone 6 [vr (some 44), vi a1, vi a2] S mm (some (vi q.1)) S q.2 := by
  refine call_of_run rfl rfl rfl (Nat.le_of_ble_eq_true rfl) ?_
  show Run l G M_X12_lone 6 0 [some (vr (some 44)), some (vi a1), some (vi a2)] [] S mm (some (vi q.1)) S q.2
  unfold m_X12_lone at e
  refine r_aload_n dX12_lone_0 rfl ?_
  refine r_iconst (v := 0) dX12_lone_1 ci_0 ?_
  refine r_putI dX12_lone_2 fl_X12_90 ft_12_0 (Or.inl rfl) rfl rfl rfl (lp_44 hS) (lq_44 hS) ?_
  refine r_aload_n dX12_lone_5 rfl ?_
  refine r_iload_n dX12_lone_6 rfl ?_
  obtain ⟨q1, eq2, e⟩ := obind e
  refine r_callV (as := [_]) (rest := []) dX12_lone_7 ml_X12_310 yV_X12_hand (c_X12_hand hS eq2) (by decide) rfl (lp_44 hS) (lq_44 hS) (Nat.le_of_ble_eq_true rfl) ?_
  refine r_if_ne (tgt := 16) dX12_lone_10 rfl (fun h3 => ?_) (fun h3 => ?_)
  · replace e := ite_f h3 e
    refine r_iload_n dX12_lone_16 rfl ?_
    refine r_iconst (v := 0) dX12_lone_17 ci_0 ?_
    refine r_iconst (v := 5) dX12_lone_18 ci_5 ?_
    refine r_callS (as := [_, _, _]) (rest := []) dX12_lone_19 ml_X12_102 yS_X12_in (c_X12_in hS) (by decide) rfl (Nat.le_of_ble_eq_true rfl) ?_
    refine r_if_eq (tgt := 31) dX12_lone_22 rfl (fun h4 => ?_) (fun h4 => ?_)
    · replace e := ite_t h4 e
      refine r_iload_n dX12_lone_31 rfl ?_
      by_cases h5 : a2 = (6 : Int32)
      · replace e := ite_t h5 e
        refine r_table_in (tgt := 88) dX12_lone_32 (by rw [h5]; decide) (by rw [h5]; decide) (by rw [h5]; rfl) rfl ?_
        refine r_aload_n dX12_lone_88 rfl ?_
        refine r_sipush (v := 255) dX12_lone_89 cs_255 ?_
        refine r_bipush (v := 8) dX12_lone_92 cb_8 ?_
        obtain ⟨q6, eq7, e⟩ := obind e
        refine r_callV (as := [_, _]) (rest := []) dX12_lone_94 ml_X12_304 yV_X12_mostOf (c_X12_mostOf hS eq7) (by decide) rfl (lp_44 hS) (lq_44 hS) (Nat.le_of_ble_eq_true rfl) ?_
        obtain ⟨q8, eq9, e⟩ := obind e
        refine r_callS (as := [_]) (rest := []) dX12_lone_97 ml_X12_295 yS_X12_ones (c_X12_ones hS eq9) (by decide) rfl (Nat.le_of_ble_eq_true rfl) ?_
        cases e
        exact r_ireturn dX12_lone_100 rfl rfl
      replace e := ite_f h5 e
      by_cases h10 : a2 = (7 : Int32)
      · replace e := ite_t h10 e
        refine r_table_in (tgt := 101) dX12_lone_32 (by rw [h10]; decide) (by rw [h10]; decide) (by rw [h10]; rfl) rfl ?_
        refine r_aload_n dX12_lone_101 rfl ?_
        refine r_sipush (v := 255) dX12_lone_102 cs_255 ?_
        refine r_bipush (v := 8) dX12_lone_105 cb_8 ?_
        obtain ⟨q11, eq12, e⟩ := obind e
        refine r_callV (as := [_, _]) (rest := []) dX12_lone_107 ml_X12_304 yV_X12_mostOf (c_X12_mostOf hS eq12) (by decide) rfl (lp_44 hS) (lq_44 hS) (Nat.le_of_ble_eq_true rfl) ?_
        cases e
        exact r_ireturn dX12_lone_110 rfl rfl
      replace e := ite_f h10 e
      by_cases h13 : a2 = (8 : Int32)
      · replace e := ite_t h13 e
        refine r_table_in (tgt := 111) dX12_lone_32 (by rw [h13]; decide) (by rw [h13]; decide) (by rw [h13]; rfl) rfl ?_
        refine r_aload_n dX12_lone_111 rfl ?_
        obtain ⟨q14, eq15, e⟩ := obind e
        refine r_callV (as := []) (rest := []) dX12_lone_112 ml_X12_526 yV_X12_hardest (c_X12_hardest hS eq15) (by decide) rfl (lp_44 hS) (lq_44 hS) (Nat.le_of_ble_eq_true rfl) ?_
        cases e
        exact r_ireturn dX12_lone_115 rfl rfl
      replace e := ite_f h13 e
      by_cases h16 : a2 = (9 : Int32)
      · replace e := ite_t h16 e
        refine r_table_in (tgt := 116) dX12_lone_32 (by rw [h16]; decide) (by rw [h16]; decide) (by rw [h16]; rfl) rfl ?_
        refine r_aload_n dX12_lone_116 rfl ?_
        obtain ⟨q17, eq18, e⟩ := obind e
        refine r_callV (as := []) (rest := []) dX12_lone_117 ml_X12_529 yV_X12_safe (c_X12_safe hS eq18) (by decide) rfl (lp_44 hS) (lq_44 hS) (Nat.le_of_ble_eq_true rfl) ?_
        cases e
        exact r_ireturn dX12_lone_120 rfl rfl
      replace e := ite_f h16 e
      by_cases h19 : a2 = (10 : Int32)
      · replace e := ite_t h19 e
        refine r_table_in (tgt := 121) dX12_lone_32 (by rw [h19]; decide) (by rw [h19]; decide) (by rw [h19]; rfl) rfl ?_
        refine r_aload_n dX12_lone_121 rfl ?_
        obtain ⟨q20, eq21, e⟩ := obind e
        refine r_callV (as := []) (rest := []) dX12_lone_122 ml_X12_532 yV_X12_spoilers (c_X12_spoilers hS eq21) (by decide) rfl (lp_44 hS) (lq_44 hS) (Nat.le_of_ble_eq_true rfl) ?_
        cases e
        exact r_ireturn dX12_lone_125 rfl rfl
      replace e := ite_f h19 e
      by_cases h22 : a2 = (11 : Int32)
      · replace e := ite_t h22 e
        refine r_table_in (tgt := 126) dX12_lone_32 (by rw [h22]; decide) (by rw [h22]; decide) (by rw [h22]; rfl) rfl ?_
        refine r_aload_n dX12_lone_126 rfl ?_
        refine r_iload_n dX12_lone_127 rfl ?_
        refine r_bipush (v := 12) dX12_lone_128 cb_12 ?_
        have J25 : ∀ (w24 : Int32), w24 = (if a2 = (12 : Int32) then (1 : Int32) else (0 : Int32)) → Run l G M_X12_lone 6 138 [none, none, none] [vi w24, vr (some 44)] S q1.2 (some (vi q.1)) S q.2 := by
          intro w24 hw28
          subst hw28
          obtain ⟨q26, eq27, e⟩ := obind e
          refine r_callV (as := [_]) (rest := []) dX12_lone_138 ml_X12_535 yV_X12_moreOaths (c_X12_moreOaths hS eq27) (by decide) rfl (lp_44 hS) (lq_44 hS) (Nat.le_of_ble_eq_true rfl) ?_
          cases e
          exact r_ireturn dX12_lone_141 rfl rfl
        refine r_icmp_ne (tgt := 137) dX12_lone_130 rfl (fun h23 => ?_) (fun h23 => ?_)
        · refine r_iconst (v := 0) dX12_lone_137 ci_0 ?_
          exact r_weak (L' := [none, none, none]) trivial (J25 _ (Eq.symm (if_neg h23)))
        · refine r_iconst (v := 1) dX12_lone_133 ci_1 ?_
          refine r_goto (tgt := 138) dX12_lone_134 rfl ?_
          exact r_weak (L' := [none, none, none]) trivial (J25 _ (Eq.symm (if_pos h23)))
      replace e := ite_f h22 e
      by_cases h29 : a2 = (12 : Int32)
      · replace e := ite_t h29 e
        refine r_table_in (tgt := 126) dX12_lone_32 (by rw [h29]; decide) (by rw [h29]; decide) (by rw [h29]; rfl) rfl ?_
        refine r_aload_n dX12_lone_126 rfl ?_
        refine r_iload_n dX12_lone_127 rfl ?_
        refine r_bipush (v := 12) dX12_lone_128 cb_12 ?_
        have J32 : ∀ (w31 : Int32), w31 = (if a2 = (12 : Int32) then (1 : Int32) else (0 : Int32)) → Run l G M_X12_lone 6 138 [none, none, none] [vi w31, vr (some 44)] S q1.2 (some (vi q.1)) S q.2 := by
          intro w31 hw35
          subst hw35
          obtain ⟨q33, eq34, e⟩ := obind e
          refine r_callV (as := [_]) (rest := []) dX12_lone_138 ml_X12_535 yV_X12_moreOaths (c_X12_moreOaths hS eq34) (by decide) rfl (lp_44 hS) (lq_44 hS) (Nat.le_of_ble_eq_true rfl) ?_
          cases e
          exact r_ireturn dX12_lone_141 rfl rfl
        refine r_icmp_ne (tgt := 137) dX12_lone_130 rfl (fun h30 => ?_) (fun h30 => ?_)
        · refine r_iconst (v := 0) dX12_lone_137 ci_0 ?_
          exact r_weak (L' := [none, none, none]) trivial (J32 _ (Eq.symm (if_neg h30)))
        · refine r_iconst (v := 1) dX12_lone_133 ci_1 ?_
          refine r_goto (tgt := 138) dX12_lone_134 rfl ?_
          exact r_weak (L' := [none, none, none]) trivial (J32 _ (Eq.symm (if_pos h30)))
      replace e := ite_f h29 e
      by_cases h36 : a2 = (13 : Int32)
      · replace e := ite_t h36 e
        refine r_table_in (tgt := 142) dX12_lone_32 (by rw [h36]; decide) (by rw [h36]; decide) (by rw [h36]; rfl) rfl ?_
        refine r_aload_n dX12_lone_142 rfl ?_
        refine r_iload_n dX12_lone_143 rfl ?_
        obtain ⟨q37, eq38, e⟩ := obind e
        refine r_callV (as := [_]) (rest := []) dX12_lone_144 ml_X12_538 yV_X12_ofWeak (c_X12_ofWeak hS eq38) (by decide) rfl (lp_44 hS) (lq_44 hS) (Nat.le_of_ble_eq_true rfl) ?_
        cases e
        exact r_ireturn dX12_lone_147 rfl rfl
      replace e := ite_f h36 e
      by_cases h39 : a2 = (14 : Int32)
      · replace e := ite_t h39 e
        refine r_table_in (tgt := 142) dX12_lone_32 (by rw [h39]; decide) (by rw [h39]; decide) (by rw [h39]; rfl) rfl ?_
        refine r_aload_n dX12_lone_142 rfl ?_
        refine r_iload_n dX12_lone_143 rfl ?_
        obtain ⟨q40, eq41, e⟩ := obind e
        refine r_callV (as := [_]) (rest := []) dX12_lone_144 ml_X12_538 yV_X12_ofWeak (c_X12_ofWeak hS eq41) (by decide) rfl (lp_44 hS) (lq_44 hS) (Nat.le_of_ble_eq_true rfl) ?_
        cases e
        exact r_ireturn dX12_lone_147 rfl rfl
      replace e := ite_f h39 e
      by_cases h42 : a2 = (15 : Int32)
      · replace e := ite_t h42 e
        refine r_table_in (tgt := 142) dX12_lone_32 (by rw [h42]; decide) (by rw [h42]; decide) (by rw [h42]; rfl) rfl ?_
        refine r_aload_n dX12_lone_142 rfl ?_
        refine r_iload_n dX12_lone_143 rfl ?_
        obtain ⟨q43, eq44, e⟩ := obind e
        refine r_callV (as := [_]) (rest := []) dX12_lone_144 ml_X12_538 yV_X12_ofWeak (c_X12_ofWeak hS eq44) (by decide) rfl (lp_44 hS) (lq_44 hS) (Nat.le_of_ble_eq_true rfl) ?_
        cases e
        exact r_ireturn dX12_lone_147 rfl rfl
      replace e := ite_f h42 e
      have ho32 : (a2).toInt < 6 ∨ 15 < (a2).toInt := by
        have nh5 := lv_neT (a := 6) h5 (by decide)
        have nh10 := lv_neT (a := 7) h10 (by decide)
        have nh13 := lv_neT (a := 8) h13 (by decide)
        have nh16 := lv_neT (a := 9) h16 (by decide)
        have nh19 := lv_neT (a := 10) h19 (by decide)
        have nh22 := lv_neT (a := 11) h22 (by decide)
        have nh29 := lv_neT (a := 12) h29 (by decide)
        have nh36 := lv_neT (a := 13) h36 (by decide)
        have nh39 := lv_neT (a := 14) h39 (by decide)
        have nh42 := lv_neT (a := 15) h42 (by decide)
        omega
      refine r_table_out (tgt := 148) dX12_lone_32 ho32 rfl ?_
      refine r_bipush (v := -2) dX12_lone_148 cb_m2 ?_
      cases e
      exact r_ireturn dX12_lone_150 rfl rfl
    · replace e := ite_f h4 e
      refine r_aload_n dX12_lone_25 rfl ?_
      refine r_iload_n dX12_lone_26 rfl ?_
      obtain ⟨q45, eq46, e⟩ := obind e
      refine r_callV (as := [_]) (rest := []) dX12_lone_27 ml_X12_523 yV_X12_ofLone (c_X12_ofLone hS eq46) (by decide) rfl (lp_44 hS) (lq_44 hS) (Nat.le_of_ble_eq_true rfl) ?_
      cases e
      exact r_ireturn dX12_lone_30 rfl rfl
  · replace e := ite_t h3 e
    refine r_bipush (v := -2) dX12_lone_13 cb_m2 ?_
    cases e
    exact r_ireturn dX12_lone_15 rfl rfl
def m_X12_chainBy (a1 : Int32) (a2 : Int32) (a3 : Int32) (mm : Mm) : Option (Int32) := bS (if (m_X12_has a1 a3) = 0 then (bS (if (6 : Int32) ≤ a2 then (some (.inl ())) else ((m_X12_hasSworn a2 a3 mm).bind (fun q11 => if q11 = 0 then (some (.inr (.inl ()))) else (some (.inl ())))) : Option ((Unit) ⊕ ((Unit) ⊕ (Int32)))) (fun p6 => grd (((64 : Int32) * a3) + (a1 ||| (xshl (1 : Int32) a3))) 448 (some (.inr ((1 : Int32) + (mI mm 69 (ix (((64 : Int32) * a3) + (a1 ||| (xshl (1 : Int32) a3)))))))))) else (some (.inl ())) : Option ((Unit) ⊕ (Int32))) (fun p1 => some (0 : Int32))
set_option maxHeartbeats 4000000 in
set_option maxRecDepth 100000 in
theorem c_X12_chainBy {l : Launch} {G : Gt} {S : Sk} (hS : Lay S) {a1 : Int32} {a2 : Int32} {a3 : Int32} {mm : Mm} {q : Int32} (e : m_X12_chainBy a1 a2 a3 mm = some q) : CallOK l G M_X12_chainBy yX12_chainBy 1 [vr (some 44), vi a1, vi a2, vi a3] S mm (some (vi q)) S mm := by
  refine call_of_run rfl rfl rfl (Nat.le_of_ble_eq_true rfl) ?_
  show Run l G M_X12_chainBy 1 0 [some (vr (some 44)), some (vi a1), some (vi a2), some (vi a3)] [] S mm (some (vi q)) S mm
  unfold m_X12_chainBy at e
  refine r_iload_n dX12_chainBy_0 rfl ?_
  refine r_iload_n dX12_chainBy_1 rfl ?_
  refine r_callS (as := [_, _]) (rest := []) dX12_chainBy_2 ml_X12_94 yS_X12_has (c_X12_has hS) (by decide) rfl (Nat.le_of_ble_eq_true rfl) ?_
  obtain ⟨x4, ep3, elx4, erx4⟩ := bS_some e
  have J2 : ∀ p1 : Unit, x4 = .inl p1 → Run l G M_X12_chainBy 1 23 [none, none, none, none] [] S mm (some (vi q)) S mm := by
    intro p1 hp1
    replace e := elx4 p1 hp1
    refine r_iconst (v := 0) dX12_chainBy_23 ci_0 ?_
    refine r_goto (tgt := 44) dX12_chainBy_24 rfl ?_
    cases e
    exact r_ireturn dX12_chainBy_44 rfl rfl
  refine r_if_ne (tgt := 23) dX12_chainBy_5 rfl (fun h5 => ?_) (fun h5 => ?_)
  · replace ep3 := ite_f h5 ep3
    cases ep3
    exact r_weak (L' := [none, none, none, none]) trivial (J2 _ rfl)
  · replace ep3 := ite_t h5 ep3
    refine r_iload_n dX12_chainBy_8 rfl ?_
    refine r_bipush (v := 6) dX12_chainBy_9 cb_6 ?_
    obtain ⟨x9, ep8, elx9, erx9⟩ := bS_some ep3
    have J7 : ∀ p6 : Unit, x9 = .inl p6 → Run l G M_X12_chainBy 1 27 [some (vr (some 44)), some (vi a1), none, some (vi a3)] [] S mm (some (vi q)) S mm := by
      intro p6 hp6
      replace ep3 := elx9 p6 hp6
      refine r_iconst (v := 1) dX12_chainBy_27 ci_1 ?_
      refine r_aload_n dX12_chainBy_28 rfl ?_
      refine r_getR dX12_chainBy_29 fl_X12_83 rfl (lp_44 hS) (lq_44 hS) (lr_44_55 hS) ?_
      refine r_bipush (v := 64) dX12_chainBy_32 cb_64 ?_
      refine r_iload_n dX12_chainBy_34 rfl ?_
      refine r_imul dX12_chainBy_35 ?_
      refine r_iload_n dX12_chainBy_36 rfl ?_
      refine r_iconst (v := 1) dX12_chainBy_37 ci_1 ?_
      refine r_iload_n dX12_chainBy_38 rfl ?_
      refine r_ishl dX12_chainBy_39 ?_
      refine r_ior dX12_chainBy_40 ?_
      refine r_iadd dX12_chainBy_41 ?_
      obtain ⟨hg14, ep3⟩ := grd_some ep3
      refine r_iald dX12_chainBy_42 (lp_69 hS) (lk_69 hS) hg14 ?_
      refine r_iadd dX12_chainBy_43 ?_
      cases ep3
      have e := congrArg some (erx4 _ rfl)
      cases e
      exact r_ireturn dX12_chainBy_44 rfl rfl
    refine r_icmp_ge (tgt := 27) dX12_chainBy_11 rfl (fun h10 => ?_) (fun h10 => ?_)
    · replace ep8 := ite_t h10 ep8
      cases ep8
      exact r_weak (L' := [some (vr (some 44)), some (vi a1), none, some (vi a3)]) ⟨rfl, rfl, rfl, trivial⟩ (J7 _ rfl)
    · replace ep8 := ite_f h10 ep8
      refine r_aload_n dX12_chainBy_14 rfl ?_
      refine r_iload_n dX12_chainBy_15 rfl ?_
      refine r_iload_n dX12_chainBy_16 rfl ?_
      obtain ⟨q11, eq12, ep8⟩ := obind ep8
      refine r_callV (as := [_, _]) (rest := []) dX12_chainBy_17 ml_X12_505 yV_X12_hasSworn (c_X12_hasSworn hS eq12) (by decide) rfl (lp_44 hS) (lq_44 hS) (Nat.le_of_ble_eq_true rfl) ?_
      refine r_if_ne (tgt := 27) dX12_chainBy_20 rfl (fun h13 => ?_) (fun h13 => ?_)
      · replace ep8 := ite_f h13 ep8
        cases ep8
        exact r_weak (L' := [some (vr (some 44)), some (vi a1), none, some (vi a3)]) ⟨rfl, rfl, rfl, trivial⟩ (J7 _ rfl)
      · replace ep8 := ite_t h13 ep8
        cases ep8
        have ep3 := congrArg some (erx9 _ rfl)
        cases ep3
        exact r_weak (L' := [none, none, none, none]) trivial (J2 _ rfl)
def m_X12_chain_b44 (z4 : Int32 × Mm) (z11 : Int32 × Mm) (z18 : Int32 × Int32) : Option ((Int32 × Int32) ⊕ (Int32)) := if (mI z11.2 44 24) ≤ z18.2 then (some (.inr z18.1)) else ((m_X12_chainBy z4.1 z11.1 z18.2 z11.2).bind (fun q25 => some (.inl ((m_X12_greater z18.1 q25), z18.2 + (1 : Int32)))))
def m_X12_chain_b31 (z4 : Int32 × Mm) (z11 : Int32 × Mm) : Option ((Int32 × Mm) ⊕ (Mm)) := if (6 : Int32) < z11.1 then (some (.inr z11.2)) else ((whileF FU (m_X12_chain_b44 z4 z11) ((0 : Int32), (0 : Int32))).bind (fun p19 => grd (((64 : Int32) * z11.1) + z4.1) 448 (some (.inl (z11.1 + (1 : Int32), (sI z11.2 69 (ix (((64 : Int32) * z11.1) + z4.1)) p19))))))
def m_X12_chain_b24 (z4 : Int32 × Mm) : Option ((Int32 × Mm) ⊕ (Mm)) := if z4.1 < 0 then (some (.inr z4.2)) else ((whileF FU (m_X12_chain_b31 z4) ((0 : Int32), z4.2)).bind (fun p12 => some (.inl (z4.1 + (-1 : Int32), p12))))
def m_X12_chain_b156 (p5 : Mm) (z34 : Int32 × Int32 × Int32) (z41 : Int32) : Option ((Int32) ⊕ (Int32)) := (m_X12_chainBy z34.1 z34.2.1 z41 p5).bind (fun q47 => grd (((64 : Int32) * z34.2.1) + z34.1) 448 (if q47 = (mI p5 69 (ix (((64 : Int32) * z34.2.1) + z34.1))) then (some (.inr z41)) else (some (.inl (z41 + (1 : Int32))))))
def m_X12_chain_b147 (a2 : Int32) (p5 : Mm) (z34 : Int32 × Int32 × Int32) : Option ((Int32 × Int32 × Int32) ⊕ (Int32)) := if a2 < z34.2.2 then (some (.inr z34.2.1)) else ((whileF FU (m_X12_chain_b156 p5 z34) (0 : Int32)).bind (fun p42 => some (.inl (z34.1 ||| (xshl (1 : Int32) p42), p42, z34.2.2 + (1 : Int32)))))
def m_X12_chain (a1 : Int32) (a2 : Int32) (mm : Mm) : Option (Int32 × Mm) := (m_X12_hand a1 (sI mm 44 0 (0 : Int32))).bind (fun q1 => if q1.1 = 0 then (some ((-1 : Int32), q1.2)) else ((whileF FU (m_X12_chain_b24) ((xshl (1 : Int32) (mI q1.2 44 24)) - (1 : Int32), q1.2)).bind (fun p5 => bS (if a2 = (-1 : Int32) then (some (.inl ())) else (if (m_X12_in a2 (0 : Int32) ((mI p5 69 (ix (384 : Int32))) - (1 : Int32))) = 0 then (some (.inl ())) else ((whileF FU (m_X12_chain_b147 a2 p5) ((0 : Int32), (6 : Int32), (0 : Int32))).bind (fun p35 => some (.inr (p35, p5))))) : Option ((Unit) ⊕ (Int32 × Mm))) (fun p28 => if a2 = (-1 : Int32) then (some (mI p5 69 (ix (384 : Int32)), p5)) else (some ((-1 : Int32), p5))))))
set_option maxHeartbeats 4000000 in
set_option maxRecDepth 100000 in
theorem c_X12_chain {l : Launch} {G : Gt} {S : Sk} (hS : Lay S) {a1 : Int32} {a2 : Int32} {mm : Mm} {q : Int32 × Mm} (e : m_X12_chain a1 a2 mm = some q) : CallOK l G M_X12_chain yX12_chain 3 [vr (some 44), vi a1, vi a2] S mm (some (vi q.1)) S q.2 := by
  refine call_of_run rfl rfl rfl (Nat.le_of_ble_eq_true rfl) ?_
  show Run l G M_X12_chain 3 0 [some (vr (some 44)), some (vi a1), some (vi a2), none, none, none, none, none] [] S mm (some (vi q.1)) S q.2
  unfold m_X12_chain at e
  refine r_aload_n dX12_chain_0 rfl ?_
  refine r_iconst (v := 0) dX12_chain_1 ci_0 ?_
  refine r_putI dX12_chain_2 fl_X12_90 ft_12_0 (Or.inl rfl) rfl rfl rfl (lp_44 hS) (lq_44 hS) ?_
  refine r_aload_n dX12_chain_5 rfl ?_
  refine r_iload_n dX12_chain_6 rfl ?_
  obtain ⟨q1, eq2, e⟩ := obind e
  refine r_callV (as := [_]) (rest := []) dX12_chain_7 ml_X12_310 yV_X12_hand (c_X12_hand hS eq2) (by decide) rfl (lp_44 hS) (lq_44 hS) (Nat.le_of_ble_eq_true rfl) ?_
  refine r_if_ne (tgt := 15) dX12_chain_10 rfl (fun h3 => ?_) (fun h3 => ?_)
  · replace e := ite_f h3 e
    refine r_iconst (v := 1) dX12_chain_15 ci_1 ?_
    refine r_aload_n dX12_chain_16 rfl ?_
    refine r_getI dX12_chain_17 fl_X12_283 rfl (lp_44 hS) (lq_44 hS) ?_
    refine r_ishl dX12_chain_20 ?_
    refine r_iconst (v := 1) dX12_chain_21 ci_1 ?_
    refine r_isub dX12_chain_22 ?_
    refine r_istore_n dX12_chain_23 (by decide) rfl ?_
    obtain ⟨p5, eb9w, e⟩ := obind e
    have J6a : Run l G M_X12_chain 3 101 [some (vr (some 44)), none, some (vi a2), none, none, none, none, none] [] S p5 (some (vi q.1)) S q.2 := by
      refine r_aload_n dX12_chain_101 rfl ?_
      refine r_getR dX12_chain_102 fl_X12_83 rfl (lp_44 hS) (lq_44 hS) (lr_44_55 hS) ?_
      refine r_sipush (v := 384) dX12_chain_105 cs_384 ?_
      refine r_iald dX12_chain_108 (lp_69 hS) (lk_69 hS) (vp_in_iff.mpr ⟨by decide, by decide⟩) ?_
      refine r_istore_n dX12_chain_109 (by decide) rfl ?_
      refine r_iload_n dX12_chain_110 rfl ?_
      refine r_iconst (v := -1) dX12_chain_111 ci_m1 ?_
      obtain ⟨x31, ep30, elx31, erx31⟩ := bS_some e
      have J29 : ∀ p28 : Unit, x31 = .inl p28 → Run l G M_X12_chain 3 126 [none, none, some (vi a2), some (vi (mI p5 69 (ix (384 : Int32)))), none, none, none, none] [] S p5 (some (vi q.1)) S q.2 := by
        intro p28 hp28
        replace e := elx31 p28 hp28
        refine r_iload_n dX12_chain_126 rfl ?_
        refine r_iconst (v := -1) dX12_chain_127 ci_m1 ?_
        refine r_icmp_ne (tgt := 135) dX12_chain_128 rfl (fun h51 => ?_) (fun h51 => ?_)
        · replace e := ite_f h51 e
          refine r_iconst (v := -1) dX12_chain_135 ci_m1 ?_
          cases e
          exact r_ireturn dX12_chain_136 rfl rfl
        · replace e := ite_t h51 e
          refine r_iload_n dX12_chain_131 rfl ?_
          refine r_goto (tgt := 136) dX12_chain_132 rfl ?_
          cases e
          exact r_ireturn dX12_chain_136 rfl rfl
      refine r_icmp_eq (tgt := 126) dX12_chain_112 rfl (fun h32 => ?_) (fun h32 => ?_)
      · replace ep30 := ite_t h32 ep30
        cases ep30
        exact r_weak (L' := [none, none, some (vi a2), some (vi (mI p5 69 (ix (384 : Int32)))), none, none, none, none]) ⟨rfl, rfl, trivial⟩ (J29 _ rfl)
      · replace ep30 := ite_f h32 ep30
        refine r_iload_n dX12_chain_115 rfl ?_
        refine r_iconst (v := 0) dX12_chain_116 ci_0 ?_
        refine r_iload_n dX12_chain_117 rfl ?_
        refine r_iconst (v := 1) dX12_chain_118 ci_1 ?_
        refine r_isub dX12_chain_119 ?_
        refine r_callS (as := [_, _, _]) (rest := []) dX12_chain_120 ml_X12_102 yS_X12_in (c_X12_in hS) (by decide) rfl (Nat.le_of_ble_eq_true rfl) ?_
        refine r_if_ne (tgt := 137) dX12_chain_123 rfl (fun h33 => ?_) (fun h33 => ?_)
        · replace ep30 := ite_f h33 ep30
          refine r_iconst (v := 0) dX12_chain_137 ci_0 ?_
          refine r_istore dX12_chain_138 (by decide) rfl ?_
          refine r_bipush (v := 6) dX12_chain_140 cb_6 ?_
          refine r_istore dX12_chain_142 (by decide) rfl ?_
          refine r_iconst (v := 0) dX12_chain_144 ci_0 ?_
          refine r_istore dX12_chain_145 (by decide) rfl ?_
          obtain ⟨p35, eb39w, ep30⟩ := obind ep30
          have J36a : Run l G M_X12_chain 3 207 [none, none, none, none, none, some (vi p35), none, none] [] S p5 (some (vi q.1)) S q.2 := by
            refine r_iload dX12_chain_207 rfl ?_
            cases ep30
            have e := congrArg some (erx31 _ rfl)
            cases e
            exact r_ireturn dX12_chain_209 rfl rfl
          have J36 : ∀ pp : Int32, pp = p35 → Run l G M_X12_chain 3 207 [none, none, none, none, none, some (vi pp), none, none] [] S p5 (some (vi q.1)) S q.2 := by
            intro pp hpp
            rw [hpp]
            exact J36a
          have J36w : Run l G M_X12_chain 3 147 [some (vr (some 44)), none, some (vi a2), none, some (vi (0 : Int32)), some (vi (6 : Int32)), some (vi (0 : Int32)), none] [] S p5 (some (vi q.1)) S q.2 := by
            refine while_run (s := ((0 : Int32), (6 : Int32), (0 : Int32))) (Gs := fun (z34 : Int32 × Int32 × Int32) => Run l G M_X12_chain 3 147 [some (vr (some 44)), none, some (vi a2), none, some (vi z34.1), some (vi z34.2.1), some (vi z34.2.2), none] [] S p5 (some (vi q.1)) S q.2) eb39w ?_
            intro z34 x37y eb39 hx38
            unfold m_X12_chain_b147 at eb39
            refine r_iload dX12_chain_147 rfl ?_
            refine r_iload_n dX12_chain_149 rfl ?_
            refine r_icmp_gt (tgt := 207) dX12_chain_150 rfl (fun h40 => ?_) (fun h40 => ?_)
            · replace eb39 := ite_t h40 eb39
              cases eb39
              exact r_weak (L' := [none, none, none, none, none, some (vi z34.2.1), none, none]) ⟨rfl, trivial⟩ (J36 _ hx38)
            · replace eb39 := ite_f h40 eb39
              refine r_iconst (v := 0) dX12_chain_153 ci_0 ?_
              refine r_istore dX12_chain_154 (by decide) rfl ?_
              obtain ⟨p42, eb46w, eb39⟩ := obind eb39
              have J43a : Run l G M_X12_chain 3 188 [some (vr (some 44)), none, some (vi a2), none, some (vi z34.1), none, some (vi z34.2.2), some (vi p42)] [] S p5 (some (vi q.1)) S q.2 := by
                refine r_iload dX12_chain_188 rfl ?_
                refine r_iconst (v := 1) dX12_chain_190 ci_1 ?_
                refine r_iload dX12_chain_191 rfl ?_
                refine r_ishl dX12_chain_193 ?_
                refine r_ior dX12_chain_194 ?_
                refine r_istore dX12_chain_195 (by decide) rfl ?_
                refine r_iload dX12_chain_197 rfl ?_
                refine r_istore dX12_chain_199 (by decide) rfl ?_
                refine r_iinc (v := _ + (1 : Int32)) dX12_chain_201 rfl (congrArg (_ + ·) ci_1) (by decide) rfl ?_
                refine r_goto (tgt := 147) dX12_chain_204 rfl ?_
                cases eb39
                exact r_weak (L' := [some (vr (some 44)), none, some (vi a2), none, some (vi (z34.1 ||| (xshl (1 : Int32) p42))), some (vi p42), some (vi (z34.2.2 + (1 : Int32))), none]) ⟨rfl, rfl, rfl, rfl, rfl, trivial⟩ hx38
              have J43 : ∀ pp : Int32, pp = p42 → Run l G M_X12_chain 3 188 [some (vr (some 44)), none, some (vi a2), none, some (vi z34.1), none, some (vi z34.2.2), some (vi pp)] [] S p5 (some (vi q.1)) S q.2 := by
                intro pp hpp
                rw [hpp]
                exact J43a
              have J43w : Run l G M_X12_chain 3 156 [some (vr (some 44)), none, some (vi a2), none, some (vi z34.1), some (vi z34.2.1), some (vi z34.2.2), some (vi (0 : Int32))] [] S p5 (some (vi q.1)) S q.2 := by
                refine while_run (s := (0 : Int32)) (Gs := fun (z41 : Int32) => Run l G M_X12_chain 3 156 [some (vr (some 44)), none, some (vi a2), none, some (vi z34.1), some (vi z34.2.1), some (vi z34.2.2), some (vi z41)] [] S p5 (some (vi q.1)) S q.2) eb46w ?_
                intro z41 x44y eb46 hx45
                unfold m_X12_chain_b156 at eb46
                refine r_aload_n dX12_chain_156 rfl ?_
                refine r_iload dX12_chain_157 rfl ?_
                refine r_iload dX12_chain_159 rfl ?_
                refine r_iload dX12_chain_161 rfl ?_
                obtain ⟨q47, eq48, eb46⟩ := obind eb46
                refine r_callV (as := [_, _, _]) (rest := []) dX12_chain_163 ml_X12_541 yV_X12_chainBy (c_X12_chainBy hS eq48) (by decide) rfl (lp_44 hS) (lq_44 hS) (Nat.le_of_ble_eq_true rfl) ?_
                refine r_aload_n dX12_chain_166 rfl ?_
                refine r_getR dX12_chain_167 fl_X12_83 rfl (lp_44 hS) (lq_44 hS) (lr_44_55 hS) ?_
                refine r_bipush (v := 64) dX12_chain_170 cb_64 ?_
                refine r_iload dX12_chain_172 rfl ?_
                refine r_imul dX12_chain_174 ?_
                refine r_iload dX12_chain_175 rfl ?_
                refine r_iadd dX12_chain_177 ?_
                obtain ⟨hg49, eb46⟩ := grd_some eb46
                refine r_iald dX12_chain_178 (lp_69 hS) (lk_69 hS) hg49 ?_
                refine r_icmp_eq (tgt := 188) dX12_chain_179 rfl (fun h50 => ?_) (fun h50 => ?_)
                · replace eb46 := ite_t h50 eb46
                  cases eb46
                  exact r_weak (L' := [some (vr (some 44)), none, some (vi a2), none, some (vi z34.1), none, some (vi z34.2.2), some (vi z41)]) ⟨rfl, rfl, rfl, rfl, rfl, trivial⟩ (J43 _ hx45)
                · replace eb46 := ite_f h50 eb46
                  refine r_iinc (v := _ + (1 : Int32)) dX12_chain_182 rfl (congrArg (_ + ·) ci_1) (by decide) rfl ?_
                  refine r_goto (tgt := 156) dX12_chain_185 rfl ?_
                  cases eb46
                  exact r_weak (L' := [some (vr (some 44)), none, some (vi a2), none, some (vi z34.1), some (vi z34.2.1), some (vi z34.2.2), some (vi (z41 + (1 : Int32)))]) ⟨rfl, rfl, rfl, rfl, rfl, rfl, trivial⟩ hx45
              exact r_weak (L' := [some (vr (some 44)), none, some (vi a2), none, some (vi z34.1), some (vi z34.2.1), some (vi z34.2.2), some (vi (0 : Int32))]) ⟨rfl, rfl, rfl, rfl, rfl, rfl, trivial⟩ J43w
          exact r_weak (L' := [some (vr (some 44)), none, some (vi a2), none, some (vi (0 : Int32)), some (vi (6 : Int32)), some (vi (0 : Int32)), none]) ⟨rfl, rfl, rfl, rfl, rfl, trivial⟩ J36w
        · replace ep30 := ite_t h33 ep30
          cases ep30
          exact r_weak (L' := [none, none, some (vi a2), some (vi (mI p5 69 (ix (384 : Int32)))), none, none, none, none]) ⟨rfl, rfl, trivial⟩ (J29 _ rfl)
    have J6 : ∀ pp : Mm, pp = p5 → Run l G M_X12_chain 3 101 [some (vr (some 44)), none, some (vi a2), none, none, none, none, none] [] S pp (some (vi q.1)) S q.2 := by
      intro pp hpp
      rw [hpp]
      exact J6a
    have J6w : Run l G M_X12_chain 3 24 [some (vr (some 44)), none, some (vi a2), some (vi ((xshl (1 : Int32) (mI q1.2 44 24)) - (1 : Int32))), none, none, none, none] [] S q1.2 (some (vi q.1)) S q.2 := by
      refine while_run (s := ((xshl (1 : Int32) (mI q1.2 44 24)) - (1 : Int32), q1.2)) (Gs := fun (z4 : Int32 × Mm) => Run l G M_X12_chain 3 24 [some (vr (some 44)), none, some (vi a2), some (vi z4.1), none, none, none, none] [] S z4.2 (some (vi q.1)) S q.2) eb9w ?_
      intro z4 x7y eb9 hx8
      unfold m_X12_chain_b24 at eb9
      refine r_iload_n dX12_chain_24 rfl ?_
      refine r_if_lt (tgt := 101) dX12_chain_25 rfl (fun h10 => ?_) (fun h10 => ?_)
      · replace eb9 := ite_t h10 eb9
        cases eb9
        exact r_weak (L' := [some (vr (some 44)), none, some (vi a2), none, none, none, none, none]) ⟨rfl, rfl, trivial⟩ (J6 _ hx8)
      · replace eb9 := ite_f h10 eb9
        refine r_iconst (v := 0) dX12_chain_28 ci_0 ?_
        refine r_istore dX12_chain_29 (by decide) rfl ?_
        obtain ⟨p12, eb16w, eb9⟩ := obind eb9
        have J13a : Run l G M_X12_chain 3 95 [some (vr (some 44)), none, some (vi a2), some (vi z4.1), none, none, none, none] [] S p12 (some (vi q.1)) S q.2 := by
          refine r_iinc (v := _ + (-1 : Int32)) dX12_chain_95 rfl (congrArg (_ + ·) ci_m1) (by decide) rfl ?_
          refine r_goto (tgt := 24) dX12_chain_98 rfl ?_
          cases eb9
          exact r_weak (L' := [some (vr (some 44)), none, some (vi a2), some (vi (z4.1 + (-1 : Int32))), none, none, none, none]) ⟨rfl, rfl, rfl, trivial⟩ hx8
        have J13 : ∀ pp : Mm, pp = p12 → Run l G M_X12_chain 3 95 [some (vr (some 44)), none, some (vi a2), some (vi z4.1), none, none, none, none] [] S pp (some (vi q.1)) S q.2 := by
          intro pp hpp
          rw [hpp]
          exact J13a
        have J13w : Run l G M_X12_chain 3 31 [some (vr (some 44)), none, some (vi a2), some (vi z4.1), some (vi (0 : Int32)), none, none, none] [] S z4.2 (some (vi q.1)) S q.2 := by
          refine while_run (s := ((0 : Int32), z4.2)) (Gs := fun (z11 : Int32 × Mm) => Run l G M_X12_chain 3 31 [some (vr (some 44)), none, some (vi a2), some (vi z4.1), some (vi z11.1), none, none, none] [] S z11.2 (some (vi q.1)) S q.2) eb16w ?_
          intro z11 x14y eb16 hx15
          unfold m_X12_chain_b31 at eb16
          refine r_iload dX12_chain_31 rfl ?_
          refine r_bipush (v := 6) dX12_chain_33 cb_6 ?_
          refine r_icmp_gt (tgt := 95) dX12_chain_35 rfl (fun h17 => ?_) (fun h17 => ?_)
          · replace eb16 := ite_t h17 eb16
            cases eb16
            exact r_weak (L' := [some (vr (some 44)), none, some (vi a2), some (vi z4.1), none, none, none, none]) ⟨rfl, rfl, rfl, trivial⟩ (J13 _ hx15)
          · replace eb16 := ite_f h17 eb16
            refine r_iconst (v := 0) dX12_chain_38 ci_0 ?_
            refine r_istore dX12_chain_39 (by decide) rfl ?_
            refine r_iconst (v := 0) dX12_chain_41 ci_0 ?_
            refine r_istore dX12_chain_42 (by decide) rfl ?_
            obtain ⟨p19, eb23w, eb16⟩ := obind eb16
            have J20a : Run l G M_X12_chain 3 75 [some (vr (some 44)), none, some (vi a2), some (vi z4.1), some (vi z11.1), some (vi p19), none, none] [] S z11.2 (some (vi q.1)) S q.2 := by
              refine r_aload_n dX12_chain_75 rfl ?_
              refine r_getR dX12_chain_76 fl_X12_83 rfl (lp_44 hS) (lq_44 hS) (lr_44_55 hS) ?_
              refine r_bipush (v := 64) dX12_chain_79 cb_64 ?_
              refine r_iload dX12_chain_81 rfl ?_
              refine r_imul dX12_chain_83 ?_
              refine r_iload_n dX12_chain_84 rfl ?_
              refine r_iadd dX12_chain_85 ?_
              refine r_iload dX12_chain_86 rfl ?_
              obtain ⟨hg27, eb16⟩ := grd_some eb16
              refine r_iast dX12_chain_88 (lp_69 hS) (lk_69 hS) hg27 ?_
              refine r_iinc (v := _ + (1 : Int32)) dX12_chain_89 rfl (congrArg (_ + ·) ci_1) (by decide) rfl ?_
              refine r_goto (tgt := 31) dX12_chain_92 rfl ?_
              cases eb16
              exact r_weak (L' := [some (vr (some 44)), none, some (vi a2), some (vi z4.1), some (vi (z11.1 + (1 : Int32))), none, none, none]) ⟨rfl, rfl, rfl, rfl, trivial⟩ hx15
            have J20 : ∀ pp : Int32, pp = p19 → Run l G M_X12_chain 3 75 [some (vr (some 44)), none, some (vi a2), some (vi z4.1), some (vi z11.1), some (vi pp), none, none] [] S z11.2 (some (vi q.1)) S q.2 := by
              intro pp hpp
              rw [hpp]
              exact J20a
            have J20w : Run l G M_X12_chain 3 44 [some (vr (some 44)), none, some (vi a2), some (vi z4.1), some (vi z11.1), some (vi (0 : Int32)), some (vi (0 : Int32)), none] [] S z11.2 (some (vi q.1)) S q.2 := by
              refine while_run (s := ((0 : Int32), (0 : Int32))) (Gs := fun (z18 : Int32 × Int32) => Run l G M_X12_chain 3 44 [some (vr (some 44)), none, some (vi a2), some (vi z4.1), some (vi z11.1), some (vi z18.1), some (vi z18.2), none] [] S z11.2 (some (vi q.1)) S q.2) eb23w ?_
              intro z18 x21y eb23 hx22
              unfold m_X12_chain_b44 at eb23
              refine r_iload dX12_chain_44 rfl ?_
              refine r_aload_n dX12_chain_46 rfl ?_
              refine r_getI dX12_chain_47 fl_X12_283 rfl (lp_44 hS) (lq_44 hS) ?_
              refine r_icmp_ge (tgt := 75) dX12_chain_50 rfl (fun h24 => ?_) (fun h24 => ?_)
              · replace eb23 := ite_t h24 eb23
                cases eb23
                exact r_weak (L' := [some (vr (some 44)), none, some (vi a2), some (vi z4.1), some (vi z11.1), some (vi z18.1), none, none]) ⟨rfl, rfl, rfl, rfl, rfl, trivial⟩ (J20 _ hx22)
              · replace eb23 := ite_f h24 eb23
                refine r_iload dX12_chain_53 rfl ?_
                refine r_aload_n dX12_chain_55 rfl ?_
                refine r_iload_n dX12_chain_56 rfl ?_
                refine r_iload dX12_chain_57 rfl ?_
                refine r_iload dX12_chain_59 rfl ?_
                obtain ⟨q25, eq26, eb23⟩ := obind eb23
                refine r_callV (as := [_, _, _]) (rest := [_]) dX12_chain_61 ml_X12_541 yV_X12_chainBy (c_X12_chainBy hS eq26) (by decide) rfl (lp_44 hS) (lq_44 hS) (Nat.le_of_ble_eq_true rfl) ?_
                refine r_callS (as := [_, _]) (rest := []) dX12_chain_64 ml_X12_178 yS_X12_greater (c_X12_greater hS) (by decide) rfl (Nat.le_of_ble_eq_true rfl) ?_
                refine r_istore dX12_chain_67 (by decide) rfl ?_
                refine r_iinc (v := _ + (1 : Int32)) dX12_chain_69 rfl (congrArg (_ + ·) ci_1) (by decide) rfl ?_
                refine r_goto (tgt := 44) dX12_chain_72 rfl ?_
                cases eb23
                exact r_weak (L' := [some (vr (some 44)), none, some (vi a2), some (vi z4.1), some (vi z11.1), some (vi (m_X12_greater z18.1 q25)), some (vi (z18.2 + (1 : Int32))), none]) ⟨rfl, rfl, rfl, rfl, rfl, rfl, trivial⟩ hx22
            exact r_weak (L' := [some (vr (some 44)), none, some (vi a2), some (vi z4.1), some (vi z11.1), some (vi (0 : Int32)), some (vi (0 : Int32)), none]) ⟨rfl, rfl, rfl, rfl, rfl, rfl, trivial⟩ J20w
        exact r_weak (L' := [some (vr (some 44)), none, some (vi a2), some (vi z4.1), some (vi (0 : Int32)), none, none, none]) ⟨rfl, rfl, rfl, rfl, trivial⟩ J13w
    exact r_weak (L' := [some (vr (some 44)), none, some (vi a2), some (vi ((xshl (1 : Int32) (mI q1.2 44 24)) - (1 : Int32))), none, none, none, none]) ⟨rfl, rfl, rfl, trivial⟩ J6w
  · replace e := ite_t h3 e
    refine r_iconst (v := -1) dX12_chain_13 ci_m1 ?_
    cases e
    exact r_ireturn dX12_chain_14 rfl rfl
def m_X12_steps_b65 (q1 : Int32 × Mm) (z10 : Int32 × Int32) (z18 : Int32 × Int32) : Option ((Int32 × Int32) ⊕ (Int32)) := if (mI q1.2 44 24) ≤ z18.2 then (some (.inr z18.1)) else ((if (m_X12_has z10.1 z18.2) = 0 then (some (0 : Int32)) else (grd z18.2 6 (some (mI q1.2 58 (ix z18.2)))) : Option (Int32)).bind (fun p25 => some (.inl (z18.1 ||| p25, z18.2 + (1 : Int32)))))
def m_X12_steps_b39 (a3 : Int32) (q1 : Int32 × Mm) (z10 : Int32 × Int32) : Option ((Int32 × Int32) ⊕ ((Unit) ⊕ (Int32 × Mm))) := if (6 : Int32) ≤ z10.2 then (some (.inr (.inl ()))) else (if (m_X12_has z10.1 a3) = 0 then ((whileF FU (m_X12_steps_b65 q1 z10) (z10.1, (0 : Int32))).bind (fun p19 => some (.inl (p19, z10.2 + (1 : Int32))))) else (some (.inr (.inr (z10.2, q1.2)))))
def m_X12_steps (a1 : Int32) (a2 : Int32) (a3 : Int32) (mm : Mm) : Option (Int32 × Mm) := (m_X12_hand a1 (sI mm 44 0 (0 : Int32))).bind (fun q1 => if q1.1 = 0 then (some ((-1 : Int32), q1.2)) else ((m_X12_isOne a2 q1.2).bind (fun q4 => if q4 = 0 then (some ((-1 : Int32), q1.2)) else ((m_X12_isOne a3 q1.2).bind (fun q7 => if q7 = 0 then (some ((-1 : Int32), q1.2)) else (bS (whileF FU (m_X12_steps_b39 a3 q1) (xshl (1 : Int32) a2, (0 : Int32))) (fun p11 => some ((-1 : Int32), q1.2))))))))
set_option maxHeartbeats 4000000 in
set_option maxRecDepth 100000 in
theorem c_X12_steps {l : Launch} {G : Gt} {S : Sk} (hS : Lay S) {a1 : Int32} {a2 : Int32} {a3 : Int32} {mm : Mm} {q : Int32 × Mm} (e : m_X12_steps a1 a2 a3 mm = some q) : CallOK l G M_X12_steps yX12_steps 3 [vr (some 44), vi a1, vi a2, vi a3] S mm (some (vi q.1)) S q.2 := by
  refine call_of_run rfl rfl rfl (Nat.le_of_ble_eq_true rfl) ?_
  show Run l G M_X12_steps 3 0 [some (vr (some 44)), some (vi a1), some (vi a2), some (vi a3), none, none, none, none] [] S mm (some (vi q.1)) S q.2
  unfold m_X12_steps at e
  refine r_aload_n dX12_steps_0 rfl ?_
  refine r_iconst (v := 0) dX12_steps_1 ci_0 ?_
  refine r_putI dX12_steps_2 fl_X12_90 ft_12_0 (Or.inl rfl) rfl rfl rfl (lp_44 hS) (lq_44 hS) ?_
  refine r_aload_n dX12_steps_5 rfl ?_
  refine r_iload_n dX12_steps_6 rfl ?_
  obtain ⟨q1, eq2, e⟩ := obind e
  refine r_callV (as := [_]) (rest := []) dX12_steps_7 ml_X12_310 yV_X12_hand (c_X12_hand hS eq2) (by decide) rfl (lp_44 hS) (lq_44 hS) (Nat.le_of_ble_eq_true rfl) ?_
  refine r_if_eq (tgt := 29) dX12_steps_10 rfl (fun h3 => ?_) (fun h3 => ?_)
  · replace e := ite_t h3 e
    refine r_iconst (v := -1) dX12_steps_29 ci_m1 ?_
    cases e
    exact r_ireturn dX12_steps_30 rfl rfl
  · replace e := ite_f h3 e
    refine r_aload_n dX12_steps_13 rfl ?_
    refine r_iload_n dX12_steps_14 rfl ?_
    obtain ⟨q4, eq5, e⟩ := obind e
    refine r_callV (as := [_]) (rest := []) dX12_steps_15 ml_X12_289 yV_X12_isOne (c_X12_isOne hS eq5) (by decide) rfl (lp_44 hS) (lq_44 hS) (Nat.le_of_ble_eq_true rfl) ?_
    refine r_if_eq (tgt := 29) dX12_steps_18 rfl (fun h6 => ?_) (fun h6 => ?_)
    · replace e := ite_t h6 e
      refine r_iconst (v := -1) dX12_steps_29 ci_m1 ?_
      cases e
      exact r_ireturn dX12_steps_30 rfl rfl
    · replace e := ite_f h6 e
      refine r_aload_n dX12_steps_21 rfl ?_
      refine r_iload_n dX12_steps_22 rfl ?_
      obtain ⟨q7, eq8, e⟩ := obind e
      refine r_callV (as := [_]) (rest := []) dX12_steps_23 ml_X12_289 yV_X12_isOne (c_X12_isOne hS eq8) (by decide) rfl (lp_44 hS) (lq_44 hS) (Nat.le_of_ble_eq_true rfl) ?_
      refine r_if_ne (tgt := 31) dX12_steps_26 rfl (fun h9 => ?_) (fun h9 => ?_)
      · replace e := ite_f h9 e
        refine r_iconst (v := 1) dX12_steps_31 ci_1 ?_
        refine r_iload_n dX12_steps_32 rfl ?_
        refine r_ishl dX12_steps_33 ?_
        refine r_istore dX12_steps_34 (by decide) rfl ?_
        refine r_iconst (v := 0) dX12_steps_36 ci_0 ?_
        refine r_istore dX12_steps_37 (by decide) rfl ?_
        obtain ⟨x13, eb15w, elx13, erx13⟩ := bS_some e
        have J12 : ∀ p11 : Unit, x13 = .inl p11 → Run l G M_X12_steps 3 116 [none, none, none, none, none, none, none, none] [] S q1.2 (some (vi q.1)) S q.2 := by
          intro p11 hp11
          replace e := elx13 p11 hp11
          refine r_iconst (v := -1) dX12_steps_116 ci_m1 ?_
          cases e
          exact r_ireturn dX12_steps_117 rfl rfl
        have J12w : Run l G M_X12_steps 3 39 [some (vr (some 44)), none, none, some (vi a3), some (vi (xshl (1 : Int32) a2)), some (vi (0 : Int32)), none, none] [] S q1.2 (some (vi q.1)) S q.2 := by
          refine while_run (s := (xshl (1 : Int32) a2, (0 : Int32))) (Gs := fun (z10 : Int32 × Int32) => Run l G M_X12_steps 3 39 [some (vr (some 44)), none, none, some (vi a3), some (vi z10.1), some (vi z10.2), none, none] [] S q1.2 (some (vi q.1)) S q.2) eb15w ?_
          intro z10 x13y eb15 hx14
          unfold m_X12_steps_b39 at eb15
          refine r_iload dX12_steps_39 rfl ?_
          refine r_bipush (v := 6) dX12_steps_41 cb_6 ?_
          refine r_icmp_ge (tgt := 116) dX12_steps_43 rfl (fun h16 => ?_) (fun h16 => ?_)
          · replace eb15 := ite_t h16 eb15
            cases eb15
            exact r_weak (L' := [none, none, none, none, none, none, none, none]) trivial (J12 _ (Eq.symm hx14))
          · replace eb15 := ite_f h16 eb15
            refine r_iload dX12_steps_46 rfl ?_
            refine r_iload_n dX12_steps_48 rfl ?_
            refine r_callS (as := [_, _]) (rest := []) dX12_steps_49 ml_X12_94 yS_X12_has (c_X12_has hS) (by decide) rfl (Nat.le_of_ble_eq_true rfl) ?_
            refine r_if_eq (tgt := 58) dX12_steps_52 rfl (fun h17 => ?_) (fun h17 => ?_)
            · replace eb15 := ite_t h17 eb15
              refine r_iload dX12_steps_58 rfl ?_
              refine r_istore dX12_steps_60 (by decide) rfl ?_
              refine r_iconst (v := 0) dX12_steps_62 ci_0 ?_
              refine r_istore dX12_steps_63 (by decide) rfl ?_
              obtain ⟨p19, eb23w, eb15⟩ := obind eb15
              have J20a : Run l G M_X12_steps 3 106 [some (vr (some 44)), none, none, some (vi a3), none, some (vi z10.2), some (vi p19), none] [] S q1.2 (some (vi q.1)) S q.2 := by
                refine r_iload dX12_steps_106 rfl ?_
                refine r_istore dX12_steps_108 (by decide) rfl ?_
                refine r_iinc (v := _ + (1 : Int32)) dX12_steps_110 rfl (congrArg (_ + ·) ci_1) (by decide) rfl ?_
                refine r_goto (tgt := 39) dX12_steps_113 rfl ?_
                cases eb15
                exact r_weak (L' := [some (vr (some 44)), none, none, some (vi a3), some (vi p19), some (vi (z10.2 + (1 : Int32))), none, none]) ⟨rfl, rfl, rfl, rfl, trivial⟩ hx14
              have J20 : ∀ pp : Int32, pp = p19 → Run l G M_X12_steps 3 106 [some (vr (some 44)), none, none, some (vi a3), none, some (vi z10.2), some (vi pp), none] [] S q1.2 (some (vi q.1)) S q.2 := by
                intro pp hpp
                rw [hpp]
                exact J20a
              have J20w : Run l G M_X12_steps 3 65 [some (vr (some 44)), none, none, some (vi a3), some (vi z10.1), some (vi z10.2), some (vi z10.1), some (vi (0 : Int32))] [] S q1.2 (some (vi q.1)) S q.2 := by
                refine while_run (s := (z10.1, (0 : Int32))) (Gs := fun (z18 : Int32 × Int32) => Run l G M_X12_steps 3 65 [some (vr (some 44)), none, none, some (vi a3), some (vi z10.1), some (vi z10.2), some (vi z18.1), some (vi z18.2)] [] S q1.2 (some (vi q.1)) S q.2) eb23w ?_
                intro z18 x21y eb23 hx22
                unfold m_X12_steps_b65 at eb23
                refine r_iload dX12_steps_65 rfl ?_
                refine r_aload_n dX12_steps_67 rfl ?_
                refine r_getI dX12_steps_68 fl_X12_283 rfl (lp_44 hS) (lq_44 hS) ?_
                refine r_icmp_ge (tgt := 106) dX12_steps_71 rfl (fun h24 => ?_) (fun h24 => ?_)
                · replace eb23 := ite_t h24 eb23
                  cases eb23
                  exact r_weak (L' := [some (vr (some 44)), none, none, some (vi a3), none, some (vi z10.2), some (vi z18.1), none]) ⟨rfl, rfl, rfl, rfl, trivial⟩ (J20 _ hx22)
                · replace eb23 := ite_f h24 eb23
                  refine r_iload dX12_steps_74 rfl ?_
                  refine r_iload dX12_steps_76 rfl ?_
                  refine r_iload dX12_steps_78 rfl ?_
                  refine r_callS (as := [_, _]) (rest := [_]) dX12_steps_80 ml_X12_94 yS_X12_has (c_X12_has hS) (by decide) rfl (Nat.le_of_ble_eq_true rfl) ?_
                  obtain ⟨p25, ep27, eb23⟩ := obind eb23
                  have J26a : Run l G M_X12_steps 3 97 [some (vr (some 44)), none, none, some (vi a3), some (vi z10.1), some (vi z10.2), none, some (vi z18.2)] [vi p25, vi z18.1] S q1.2 (some (vi q.1)) S q.2 := by
                    refine r_ior dX12_steps_97 ?_
                    refine r_istore dX12_steps_98 (by decide) rfl ?_
                    refine r_iinc (v := _ + (1 : Int32)) dX12_steps_100 rfl (congrArg (_ + ·) ci_1) (by decide) rfl ?_
                    refine r_goto (tgt := 65) dX12_steps_103 rfl ?_
                    cases eb23
                    exact r_weak (L' := [some (vr (some 44)), none, none, some (vi a3), some (vi z10.1), some (vi z10.2), some (vi (z18.1 ||| p25)), some (vi (z18.2 + (1 : Int32)))]) ⟨rfl, rfl, rfl, rfl, rfl, rfl, trivial⟩ hx22
                  have J26 : ∀ pp : Int32, pp = p25 → Run l G M_X12_steps 3 97 [some (vr (some 44)), none, none, some (vi a3), some (vi z10.1), some (vi z10.2), none, some (vi z18.2)] [vi pp, vi z18.1] S q1.2 (some (vi q.1)) S q.2 := by
                    intro pp hpp
                    rw [hpp]
                    exact J26a
                  refine r_if_eq (tgt := 96) dX12_steps_83 rfl (fun h29 => ?_) (fun h29 => ?_)
                  · replace ep27 := ite_t h29 ep27
                    refine r_iconst (v := 0) dX12_steps_96 ci_0 ?_
                    exact r_weak (L' := [some (vr (some 44)), none, none, some (vi a3), some (vi z10.1), some (vi z10.2), none, some (vi z18.2)]) ⟨rfl, rfl, rfl, rfl, rfl, trivial⟩ (J26 _ (Option.some.inj ep27))
                  · replace ep27 := ite_f h29 ep27
                    refine r_aload_n dX12_steps_86 rfl ?_
                    refine r_getR dX12_steps_87 fl_X12_50 rfl (lp_44 hS) (lq_44 hS) (lr_44_33 hS) ?_
                    refine r_iload dX12_steps_90 rfl ?_
                    obtain ⟨hg30, ep27⟩ := grd_some ep27
                    refine r_iald dX12_steps_92 (lp_58 hS) (lk_58 hS) hg30 ?_
                    refine r_goto (tgt := 97) dX12_steps_93 rfl ?_
                    exact r_weak (L' := [some (vr (some 44)), none, none, some (vi a3), some (vi z10.1), some (vi z10.2), none, some (vi z18.2)]) ⟨rfl, rfl, rfl, rfl, rfl, trivial⟩ (J26 _ (Option.some.inj ep27))
              exact r_weak (L' := [some (vr (some 44)), none, none, some (vi a3), some (vi z10.1), some (vi z10.2), some (vi z10.1), some (vi (0 : Int32))]) ⟨rfl, rfl, rfl, rfl, rfl, rfl, trivial⟩ J20w
            · replace eb15 := ite_f h17 eb15
              refine r_iload dX12_steps_55 rfl ?_
              cases eb15
              have e := congrArg some (erx13 _ (Eq.symm hx14))
              cases e
              exact r_ireturn dX12_steps_57 rfl rfl
        exact r_weak (L' := [some (vr (some 44)), none, none, some (vi a3), some (vi (xshl (1 : Int32) a2)), some (vi (0 : Int32)), none, none]) ⟨rfl, rfl, rfl, rfl, trivial⟩ J12w
      · replace e := ite_t h9 e
        refine r_iconst (v := -1) dX12_steps_29 ci_m1 ?_
        cases e
        exact r_ireturn dX12_steps_30 rfl rfl
def m_X12_visitedMost_b4 (mm : Mm) (z1 : Int32 × Int32) : Option ((Int32 × Int32) ⊕ (Int32)) := if (mI mm 44 24) ≤ z1.2 then (some (.inr z1.1)) else ((m_X12_visitsTo z1.2 mm).bind (fun q8 => (if z1.1 = (-1 : Int32) then (some (0 : Int32)) else ((m_X12_visitsTo z1.1 mm).bind (fun q15 => some q15)) : Option (Int32)).bind (fun p10 => some (.inl ((if q8 ≤ p10 then z1.1 else z1.2), z1.2 + (1 : Int32))))))
def m_X12_visitedMost (mm : Mm) : Option (Int32) := (whileF FU (m_X12_visitedMost_b4 mm) ((-1 : Int32), (0 : Int32))).bind (fun p2 => some p2)
set_option maxHeartbeats 4000000 in
set_option maxRecDepth 100000 in
theorem c_X12_visitedMost {l : Launch} {G : Gt} {S : Sk} (hS : Lay S) {mm : Mm} {q : Int32} (e : m_X12_visitedMost mm = some q) : CallOK l G M_X12_visitedMost yX12_visitedMost 1 [vr (some 44)] S mm (some (vi q)) S mm := by
  refine call_of_run rfl rfl rfl (Nat.le_of_ble_eq_true rfl) ?_
  show Run l G M_X12_visitedMost 1 0 [some (vr (some 44)), none, none] [] S mm (some (vi q)) S mm
  unfold m_X12_visitedMost at e
  refine r_iconst (v := -1) dX12_visitedMost_0 ci_m1 ?_
  refine r_istore_n dX12_visitedMost_1 (by decide) rfl ?_
  refine r_iconst (v := 0) dX12_visitedMost_2 ci_0 ?_
  refine r_istore_n dX12_visitedMost_3 (by decide) rfl ?_
  obtain ⟨p2, eb6w, e⟩ := obind e
  have J3a : Run l G M_X12_visitedMost 1 46 [none, some (vi p2), none] [] S mm (some (vi q)) S mm := by
    refine r_iload_n dX12_visitedMost_46 rfl ?_
    cases e
    exact r_ireturn dX12_visitedMost_47 rfl rfl
  have J3 : ∀ pp : Int32, pp = p2 → Run l G M_X12_visitedMost 1 46 [none, some (vi pp), none] [] S mm (some (vi q)) S mm := by
    intro pp hpp
    rw [hpp]
    exact J3a
  have J3w : Run l G M_X12_visitedMost 1 4 [some (vr (some 44)), some (vi (-1 : Int32)), some (vi (0 : Int32))] [] S mm (some (vi q)) S mm := by
    refine while_run (s := ((-1 : Int32), (0 : Int32))) (Gs := fun (z1 : Int32 × Int32) => Run l G M_X12_visitedMost 1 4 [some (vr (some 44)), some (vi z1.1), some (vi z1.2)] [] S mm (some (vi q)) S mm) eb6w ?_
    intro z1 x4y eb6 hx5
    unfold m_X12_visitedMost_b4 at eb6
    refine r_iload_n dX12_visitedMost_4 rfl ?_
    refine r_aload_n dX12_visitedMost_5 rfl ?_
    refine r_getI dX12_visitedMost_6 fl_X12_283 rfl (lp_44 hS) (lq_44 hS) ?_
    refine r_icmp_ge (tgt := 46) dX12_visitedMost_9 rfl (fun h7 => ?_) (fun h7 => ?_)
    · replace eb6 := ite_t h7 eb6
      cases eb6
      exact r_weak (L' := [none, some (vi z1.1), none]) ⟨rfl, trivial⟩ (J3 _ hx5)
    · replace eb6 := ite_f h7 eb6
      refine r_aload_n dX12_visitedMost_12 rfl ?_
      refine r_iload_n dX12_visitedMost_13 rfl ?_
      obtain ⟨q8, eq9, eb6⟩ := obind eb6
      refine r_callV (as := [_]) (rest := []) dX12_visitedMost_14 ml_X12_371 yV_X12_visitsTo (c_X12_visitsTo hS eq9) (by decide) rfl (lp_44 hS) (lq_44 hS) (Nat.le_of_ble_eq_true rfl) ?_
      refine r_iload_n dX12_visitedMost_17 rfl ?_
      refine r_iconst (v := -1) dX12_visitedMost_18 ci_m1 ?_
      obtain ⟨p10, ep12, eb6⟩ := obind eb6
      have J11a : Run l G M_X12_visitedMost 1 31 [some (vr (some 44)), some (vi z1.1), some (vi z1.2)] [vi p10, vi q8] S mm (some (vi q)) S mm := by
        have J19 : ∀ (w18 : Int32), w18 = (if q8 ≤ p10 then z1.1 else z1.2) → Run l G M_X12_visitedMost 1 39 [some (vr (some 44)), none, some (vi z1.2)] [vi w18] S mm (some (vi q)) S mm := by
          intro w18 hw20
          subst hw20
          refine r_istore_n dX12_visitedMost_39 (by decide) rfl ?_
          refine r_iinc (v := _ + (1 : Int32)) dX12_visitedMost_40 rfl (congrArg (_ + ·) ci_1) (by decide) rfl ?_
          refine r_goto (tgt := 4) dX12_visitedMost_43 rfl ?_
          cases eb6
          exact r_weak (L' := [some (vr (some 44)), some (vi (if q8 ≤ p10 then z1.1 else z1.2)), some (vi (z1.2 + (1 : Int32)))]) ⟨rfl, rfl, rfl, trivial⟩ hx5
        refine r_icmp_le (tgt := 38) dX12_visitedMost_31 rfl (fun h17 => ?_) (fun h17 => ?_)
        · refine r_iload_n dX12_visitedMost_38 rfl ?_
          exact r_weak (L' := [some (vr (some 44)), none, some (vi z1.2)]) ⟨rfl, rfl, trivial⟩ (J19 _ (Eq.symm (if_pos h17)))
        · refine r_iload_n dX12_visitedMost_34 rfl ?_
          refine r_goto (tgt := 39) dX12_visitedMost_35 rfl ?_
          exact r_weak (L' := [some (vr (some 44)), none, some (vi z1.2)]) ⟨rfl, rfl, trivial⟩ (J19 _ (Eq.symm (if_neg h17)))
      have J11 : ∀ pp : Int32, pp = p10 → Run l G M_X12_visitedMost 1 31 [some (vr (some 44)), some (vi z1.1), some (vi z1.2)] [vi pp, vi q8] S mm (some (vi q)) S mm := by
        intro pp hpp
        rw [hpp]
        exact J11a
      refine r_icmp_ne (tgt := 26) dX12_visitedMost_19 rfl (fun h14 => ?_) (fun h14 => ?_)
      · replace ep12 := ite_f h14 ep12
        refine r_aload_n dX12_visitedMost_26 rfl ?_
        refine r_iload_n dX12_visitedMost_27 rfl ?_
        obtain ⟨q15, eq16, ep12⟩ := obind ep12
        refine r_callV (as := [_]) (rest := [_]) dX12_visitedMost_28 ml_X12_371 yV_X12_visitsTo (c_X12_visitsTo hS eq16) (by decide) rfl (lp_44 hS) (lq_44 hS) (Nat.le_of_ble_eq_true rfl) ?_
        exact r_weak (L' := [some (vr (some 44)), some (vi z1.1), some (vi z1.2)]) ⟨rfl, rfl, rfl, trivial⟩ (J11 _ (Option.some.inj ep12))
      · replace ep12 := ite_t h14 ep12
        refine r_iconst (v := 0) dX12_visitedMost_22 ci_0 ?_
        refine r_goto (tgt := 31) dX12_visitedMost_23 rfl ?_
        exact r_weak (L' := [some (vr (some 44)), some (vi z1.1), some (vi z1.2)]) ⟨rfl, rfl, rfl, trivial⟩ (J11 _ (Option.some.inj ep12))
  exact r_weak (L' := [some (vr (some 44)), some (vi (-1 : Int32)), some (vi (0 : Int32))]) ⟨rfl, rfl, rfl, trivial⟩ J3w
def m_X12_likings_b4 (mm : Mm) (z1 : Int32 × Int32) : Option ((Int32 × Int32) ⊕ (Int32)) := if (mI mm 44 24) ≤ z1.2 then (some (.inr z1.1)) else (grd z1.2 6 ((m_X12_ones (mI mm 58 (ix z1.2))).bind (fun q9 => some (.inl (z1.1 + q9, z1.2 + (1 : Int32))))))
def m_X12_likings (mm : Mm) : Option (Int32) := (whileF FU (m_X12_likings_b4 mm) ((0 : Int32), (0 : Int32))).bind (fun p2 => some p2)
set_option maxHeartbeats 4000000 in
set_option maxRecDepth 100000 in
theorem c_X12_likings {l : Launch} {G : Gt} {S : Sk} (hS : Lay S) {mm : Mm} {q : Int32} (e : m_X12_likings mm = some q) : CallOK l G M_X12_likings yX12_likings 2 [vr (some 44)] S mm (some (vi q)) S mm := by
  refine call_of_run rfl rfl rfl (Nat.le_of_ble_eq_true rfl) ?_
  show Run l G M_X12_likings 2 0 [some (vr (some 44)), none, none] [] S mm (some (vi q)) S mm
  unfold m_X12_likings at e
  refine r_iconst (v := 0) dX12_likings_0 ci_0 ?_
  refine r_istore_n dX12_likings_1 (by decide) rfl ?_
  refine r_iconst (v := 0) dX12_likings_2 ci_0 ?_
  refine r_istore_n dX12_likings_3 (by decide) rfl ?_
  obtain ⟨p2, eb6w, e⟩ := obind e
  have J3a : Run l G M_X12_likings 2 30 [none, some (vi p2), none] [] S mm (some (vi q)) S mm := by
    refine r_iload_n dX12_likings_30 rfl ?_
    cases e
    exact r_ireturn dX12_likings_31 rfl rfl
  have J3 : ∀ pp : Int32, pp = p2 → Run l G M_X12_likings 2 30 [none, some (vi pp), none] [] S mm (some (vi q)) S mm := by
    intro pp hpp
    rw [hpp]
    exact J3a
  have J3w : Run l G M_X12_likings 2 4 [some (vr (some 44)), some (vi (0 : Int32)), some (vi (0 : Int32))] [] S mm (some (vi q)) S mm := by
    refine while_run (s := ((0 : Int32), (0 : Int32))) (Gs := fun (z1 : Int32 × Int32) => Run l G M_X12_likings 2 4 [some (vr (some 44)), some (vi z1.1), some (vi z1.2)] [] S mm (some (vi q)) S mm) eb6w ?_
    intro z1 x4y eb6 hx5
    unfold m_X12_likings_b4 at eb6
    refine r_iload_n dX12_likings_4 rfl ?_
    refine r_aload_n dX12_likings_5 rfl ?_
    refine r_getI dX12_likings_6 fl_X12_283 rfl (lp_44 hS) (lq_44 hS) ?_
    refine r_icmp_ge (tgt := 30) dX12_likings_9 rfl (fun h7 => ?_) (fun h7 => ?_)
    · replace eb6 := ite_t h7 eb6
      cases eb6
      exact r_weak (L' := [none, some (vi z1.1), none]) ⟨rfl, trivial⟩ (J3 _ hx5)
    · replace eb6 := ite_f h7 eb6
      refine r_iload_n dX12_likings_12 rfl ?_
      refine r_aload_n dX12_likings_13 rfl ?_
      refine r_getR dX12_likings_14 fl_X12_50 rfl (lp_44 hS) (lq_44 hS) (lr_44_33 hS) ?_
      refine r_iload_n dX12_likings_17 rfl ?_
      obtain ⟨hg8, eb6⟩ := grd_some eb6
      refine r_iald dX12_likings_18 (lp_58 hS) (lk_58 hS) hg8 ?_
      obtain ⟨q9, eq10, eb6⟩ := obind eb6
      refine r_callS (as := [_]) (rest := [_]) dX12_likings_19 ml_X12_295 yS_X12_ones (c_X12_ones hS eq10) (by decide) rfl (Nat.le_of_ble_eq_true rfl) ?_
      refine r_iadd dX12_likings_22 ?_
      refine r_istore_n dX12_likings_23 (by decide) rfl ?_
      refine r_iinc (v := _ + (1 : Int32)) dX12_likings_24 rfl (congrArg (_ + ·) ci_1) (by decide) rfl ?_
      refine r_goto (tgt := 4) dX12_likings_27 rfl ?_
      cases eb6
      exact r_weak (L' := [some (vr (some 44)), some (vi (z1.1 + q9)), some (vi (z1.2 + (1 : Int32)))]) ⟨rfl, rfl, rfl, trivial⟩ hx5
  exact r_weak (L' := [some (vr (some 44)), some (vi (0 : Int32)), some (vi (0 : Int32))]) ⟨rfl, rfl, rfl, trivial⟩ J3w
def m_X12_after_b44 (z5 : Int32 × Int32 × Int32 × Int32 × Int32 × Int32 × Mm) : Option ((Int32 × Int32 × Int32 × Int32 × Int32 × Int32 × Mm) ⊕ (Int32 × Int32 × Int32 × Mm)) := if z5.2.2.2.2.1 = 0 then (some (.inr (z5.1, z5.2.1, z5.2.2.2.1, z5.2.2.2.2.2.2))) else ((m_X12_deeds z5.2.2.2.2.2.2).bind (fun q12 => if q12 ≤ z5.2.2.2.2.2.1 then (some (.inr (z5.1, z5.2.1, z5.2.2.2.1, z5.2.2.2.2.2.2))) else ((m_X12_doesDeed z5.2.2.2.2.2.1 z5.2.2.2.2.2.2).bind (fun q15 => (if q15.1 = 0 then (some (-1 : Int32)) else ((m_X12_deedOf z5.2.2.2.2.2.1 (0 : Int32) q15.2).bind (fun q22 => some q22)) : Option (Int32)).bind (fun p17 => some (.inl ((if z5.1 = (-1 : Int32) then (if (mI q15.2 44 27) = 0 then z5.1 else z5.2.2.2.2.2.1) else z5.1), (if p17 = 0 then (if ((mI q15.2 44 29) - (mI z5.2.2.2.2.2.2 44 29)) ≤ z5.2.2.1 then z5.2.1 else mI q15.2 44 28) else z5.2.1), (if p17 = 0 then (if ((mI q15.2 44 29) - (mI z5.2.2.2.2.2.2 44 29)) ≤ z5.2.2.1 then z5.2.2.1 else (mI q15.2 44 29) - (mI z5.2.2.2.2.2.2 44 29)) else z5.2.2.1), z5.2.2.2.1 + (if p17 = (6 : Int32) then (1 : Int32) else (0 : Int32)), q15.1, z5.2.2.2.2.2.1 + (1 : Int32), q15.2)))))))
def m_X12_after (a1 : Int32) (a2 : Int32) (a3 : Int32) (mm : Mm) : Option (Int32 × Mm) := (m_X12_layAll a1 a2 (sI mm 44 0 (0 : Int32))).bind (fun q1 => if q1.1 = 0 then (some ((-2 : Int32), q1.2)) else (if (m_X12_in a3 (0 : Int32) (4 : Int32)) = 0 then (some ((-2 : Int32), q1.2)) else ((whileF FU (m_X12_after_b44) ((-1 : Int32), (-1 : Int32), (-1 : Int32), (0 : Int32), (1 : Int32), (0 : Int32), q1.2)).bind (fun p6 => if a3 = (0 : Int32) then (some (p6.1, p6.2.2.2)) else (if a3 = (1 : Int32) then ((m_X12_visitedMost p6.2.2.2).bind (fun q42 => some (q42, p6.2.2.2))) else (if a3 = (2 : Int32) then (some (p6.2.1, p6.2.2.2)) else (if a3 = (3 : Int32) then ((m_X12_likings p6.2.2.2).bind (fun q46 => some (q46, p6.2.2.2))) else (some (p6.2.2.1, p6.2.2.2)))))))))
set_option maxHeartbeats 4000000 in
set_option maxRecDepth 100000 in
theorem c_X12_after {l : Launch} {G : Gt} {S : Sk} (hS : Lay S) {a1 : Int32} {a2 : Int32} {a3 : Int32} {mm : Mm} {q : Int32 × Mm} (e : m_X12_after a1 a2 a3 mm = some q) : CallOK l G M_X12_after yX12_after 8 [vr (some 44), vi a1, vi a2, vi a3] S mm (some (vi q.1)) S q.2 := by
  refine call_of_run rfl rfl rfl (Nat.le_of_ble_eq_true rfl) ?_
  show Run l G M_X12_after 8 0 [some (vr (some 44)), some (vi a1), some (vi a2), some (vi a3), none, none, none, none, none, none, none, none] [] S mm (some (vi q.1)) S q.2
  unfold m_X12_after at e
  refine r_aload_n dX12_after_0 rfl ?_
  refine r_iconst (v := 0) dX12_after_1 ci_0 ?_
  refine r_putI dX12_after_2 fl_X12_90 ft_12_0 (Or.inl rfl) rfl rfl rfl (lp_44 hS) (lq_44 hS) ?_
  refine r_aload_n dX12_after_5 rfl ?_
  refine r_iload_n dX12_after_6 rfl ?_
  refine r_iload_n dX12_after_7 rfl ?_
  obtain ⟨q1, eq2, e⟩ := obind e
  refine r_callV (as := [_, _]) (rest := []) dX12_after_8 ml_X12_362 yV_X12_layAll (c_X12_layAll hS eq2) (by decide) rfl (lp_44 hS) (lq_44 hS) (Nat.le_of_ble_eq_true rfl) ?_
  refine r_if_eq (tgt := 23) dX12_after_11 rfl (fun h3 => ?_) (fun h3 => ?_)
  · replace e := ite_t h3 e
    refine r_bipush (v := -2) dX12_after_23 cb_m2 ?_
    cases e
    exact r_ireturn dX12_after_25 rfl rfl
  · replace e := ite_f h3 e
    refine r_iload_n dX12_after_14 rfl ?_
    refine r_iconst (v := 0) dX12_after_15 ci_0 ?_
    refine r_iconst (v := 4) dX12_after_16 ci_4 ?_
    refine r_callS (as := [_, _, _]) (rest := []) dX12_after_17 ml_X12_102 yS_X12_in (c_X12_in hS) (by decide) rfl (Nat.le_of_ble_eq_true rfl) ?_
    refine r_if_ne (tgt := 26) dX12_after_20 rfl (fun h4 => ?_) (fun h4 => ?_)
    · replace e := ite_f h4 e
      refine r_iconst (v := -1) dX12_after_26 ci_m1 ?_
      refine r_istore dX12_after_27 (by decide) rfl ?_
      refine r_iconst (v := -1) dX12_after_29 ci_m1 ?_
      refine r_istore dX12_after_30 (by decide) rfl ?_
      refine r_iconst (v := -1) dX12_after_32 ci_m1 ?_
      refine r_istore dX12_after_33 (by decide) rfl ?_
      refine r_iconst (v := 0) dX12_after_35 ci_0 ?_
      refine r_istore dX12_after_36 (by decide) rfl ?_
      refine r_iconst (v := 1) dX12_after_38 ci_1 ?_
      refine r_istore dX12_after_39 (by decide) rfl ?_
      refine r_iconst (v := 0) dX12_after_41 ci_0 ?_
      refine r_istore dX12_after_42 (by decide) rfl ?_
      obtain ⟨p6, eb10w, e⟩ := obind e
      have J7a : Run l G M_X12_after 8 167 [some (vr (some 44)), none, none, some (vi a3), some (vi p6.1), some (vi p6.2.1), none, some (vi p6.2.2.1), none, none, none, none] [] S p6.2.2.2 (some (vi q.1)) S q.2 := by
        refine r_iload_n dX12_after_167 rfl ?_
        by_cases h40 : a3 = (0 : Int32)
        · replace e := ite_t h40 e
          refine r_table_in (tgt := 200) dX12_after_168 (by rw [h40]; decide) (by rw [h40]; decide) (by rw [h40]; rfl) rfl ?_
          refine r_iload dX12_after_200 rfl ?_
          cases e
          exact r_ireturn dX12_after_202 rfl rfl
        replace e := ite_f h40 e
        by_cases h41 : a3 = (1 : Int32)
        · replace e := ite_t h41 e
          refine r_table_in (tgt := 203) dX12_after_168 (by rw [h41]; decide) (by rw [h41]; decide) (by rw [h41]; rfl) rfl ?_
          refine r_aload_n dX12_after_203 rfl ?_
          obtain ⟨q42, eq43, e⟩ := obind e
          refine r_callV (as := []) (rest := []) dX12_after_204 ml_X12_544 yV_X12_visitedMost (c_X12_visitedMost hS eq43) (by decide) rfl (lp_44 hS) (lq_44 hS) (Nat.le_of_ble_eq_true rfl) ?_
          cases e
          exact r_ireturn dX12_after_207 rfl rfl
        replace e := ite_f h41 e
        by_cases h44 : a3 = (2 : Int32)
        · replace e := ite_t h44 e
          refine r_table_in (tgt := 208) dX12_after_168 (by rw [h44]; decide) (by rw [h44]; decide) (by rw [h44]; rfl) rfl ?_
          refine r_iload dX12_after_208 rfl ?_
          cases e
          exact r_ireturn dX12_after_210 rfl rfl
        replace e := ite_f h44 e
        by_cases h45 : a3 = (3 : Int32)
        · replace e := ite_t h45 e
          refine r_table_in (tgt := 211) dX12_after_168 (by rw [h45]; decide) (by rw [h45]; decide) (by rw [h45]; rfl) rfl ?_
          refine r_aload_n dX12_after_211 rfl ?_
          obtain ⟨q46, eq47, e⟩ := obind e
          refine r_callV (as := []) (rest := []) dX12_after_212 ml_X12_547 yV_X12_likings (c_X12_likings hS eq47) (by decide) rfl (lp_44 hS) (lq_44 hS) (Nat.le_of_ble_eq_true rfl) ?_
          cases e
          exact r_ireturn dX12_after_215 rfl rfl
        replace e := ite_f h45 e
        have ho168 : (a3).toInt < 0 ∨ 3 < (a3).toInt := by
          have nh40 := lv_neT (a := 0) h40 (by decide)
          have nh41 := lv_neT (a := 1) h41 (by decide)
          have nh44 := lv_neT (a := 2) h44 (by decide)
          have nh45 := lv_neT (a := 3) h45 (by decide)
          omega
        refine r_table_out (tgt := 216) dX12_after_168 ho168 rfl ?_
        refine r_iload dX12_after_216 rfl ?_
        cases e
        exact r_ireturn dX12_after_218 rfl rfl
      have J7 : ∀ pp : Int32 × Int32 × Int32 × Mm, pp = p6 → Run l G M_X12_after 8 167 [some (vr (some 44)), none, none, some (vi a3), some (vi pp.1), some (vi pp.2.1), none, some (vi pp.2.2.1), none, none, none, none] [] S pp.2.2.2 (some (vi q.1)) S q.2 := by
        intro pp hpp
        rw [hpp]
        exact J7a
      have J7w : Run l G M_X12_after 8 44 [some (vr (some 44)), none, none, some (vi a3), some (vi (-1 : Int32)), some (vi (-1 : Int32)), some (vi (-1 : Int32)), some (vi (0 : Int32)), some (vi (1 : Int32)), some (vi (0 : Int32)), none, none] [] S q1.2 (some (vi q.1)) S q.2 := by
        refine while_run (s := ((-1 : Int32), (-1 : Int32), (-1 : Int32), (0 : Int32), (1 : Int32), (0 : Int32), q1.2)) (Gs := fun (z5 : Int32 × Int32 × Int32 × Int32 × Int32 × Int32 × Mm) => Run l G M_X12_after 8 44 [some (vr (some 44)), none, none, some (vi a3), some (vi z5.1), some (vi z5.2.1), some (vi z5.2.2.1), some (vi z5.2.2.2.1), some (vi z5.2.2.2.2.1), some (vi z5.2.2.2.2.2.1), none, none] [] S z5.2.2.2.2.2.2 (some (vi q.1)) S q.2) eb10w ?_
        intro z5 x8y eb10 hx9
        unfold m_X12_after_b44 at eb10
        refine r_iload dX12_after_44 rfl ?_
        refine r_if_eq (tgt := 167) dX12_after_46 rfl (fun h11 => ?_) (fun h11 => ?_)
        · replace eb10 := ite_t h11 eb10
          cases eb10
          exact r_weak (L' := [some (vr (some 44)), none, none, some (vi a3), some (vi z5.1), some (vi z5.2.1), none, some (vi z5.2.2.2.1), none, none, none, none]) ⟨rfl, rfl, rfl, rfl, rfl, trivial⟩ (J7 _ hx9)
        · replace eb10 := ite_f h11 eb10
          refine r_iload dX12_after_49 rfl ?_
          refine r_aload_n dX12_after_51 rfl ?_
          obtain ⟨q12, eq13, eb10⟩ := obind eb10
          refine r_callV (as := []) (rest := [_]) dX12_after_52 ml_X12_322 yV_X12_deeds (c_X12_deeds hS eq13) (by decide) rfl (lp_44 hS) (lq_44 hS) (Nat.le_of_ble_eq_true rfl) ?_
          refine r_icmp_ge (tgt := 167) dX12_after_55 rfl (fun h14 => ?_) (fun h14 => ?_)
          · replace eb10 := ite_t h14 eb10
            cases eb10
            exact r_weak (L' := [some (vr (some 44)), none, none, some (vi a3), some (vi z5.1), some (vi z5.2.1), none, some (vi z5.2.2.2.1), none, none, none, none]) ⟨rfl, rfl, rfl, rfl, rfl, trivial⟩ (J7 _ hx9)
          · replace eb10 := ite_f h14 eb10
            refine r_aload_n dX12_after_58 rfl ?_
            refine r_getI dX12_after_59 fl_X12_270 rfl (lp_44 hS) (lq_44 hS) ?_
            refine r_istore dX12_after_62 (by decide) rfl ?_
            refine r_aload_n dX12_after_64 rfl ?_
            refine r_iload dX12_after_65 rfl ?_
            obtain ⟨q15, eq16, eb10⟩ := obind eb10
            refine r_callV (as := [_]) (rest := []) dX12_after_67 ml_X12_359 yV_X12_doesDeed (c_X12_doesDeed hS eq16) (by decide) rfl (lp_44 hS) (lq_44 hS) (Nat.le_of_ble_eq_true rfl) ?_
            refine r_istore dX12_after_70 (by decide) rfl ?_
            refine r_iload dX12_after_72 rfl ?_
            obtain ⟨p17, ep19, eb10⟩ := obind eb10
            have J18a : Run l G M_X12_after 8 88 [some (vr (some 44)), none, none, some (vi a3), some (vi z5.1), some (vi z5.2.1), some (vi z5.2.2.1), some (vi z5.2.2.2.1), some (vi q15.1), some (vi z5.2.2.2.2.2.1), some (vi (mI z5.2.2.2.2.2.2 44 29)), none] [vi p17] S q15.2 (some (vi q.1)) S q.2 := by
              refine r_istore dX12_after_88 (by decide) rfl ?_
              refine r_iload dX12_after_90 rfl ?_
              refine r_iconst (v := -1) dX12_after_92 ci_m1 ?_
              have J27 : ∀ (w26 : Int32), w26 = (if z5.1 = (-1 : Int32) then (if (mI q15.2 44 27) = 0 then z5.1 else z5.2.2.2.2.2.1) else z5.1) → Run l G M_X12_after 8 110 [some (vr (some 44)), none, none, some (vi a3), none, some (vi z5.2.1), some (vi z5.2.2.1), some (vi z5.2.2.2.1), some (vi q15.1), some (vi z5.2.2.2.2.2.1), some (vi (mI z5.2.2.2.2.2.2 44 29)), some (vi p17)] [vi w26] S q15.2 (some (vi q.1)) S q.2 := by
                intro w26 hw39
                subst hw39
                refine r_istore dX12_after_110 (by decide) rfl ?_
                refine r_iload dX12_after_112 rfl ?_
                refine r_iload dX12_after_114 rfl ?_
                refine r_bipush (v := 6) dX12_after_116 cb_6 ?_
                have J30 : ∀ (w29 : Int32), w29 = (if p17 = (6 : Int32) then (1 : Int32) else (0 : Int32)) → Run l G M_X12_after 8 126 [some (vr (some 44)), none, none, some (vi a3), some (vi (if z5.1 = (-1 : Int32) then (if (mI q15.2 44 27) = 0 then z5.1 else z5.2.2.2.2.2.1) else z5.1)), some (vi z5.2.1), some (vi z5.2.2.1), none, some (vi q15.1), some (vi z5.2.2.2.2.2.1), some (vi (mI z5.2.2.2.2.2.2 44 29)), some (vi p17)] [vi w29, vi z5.2.2.2.1] S q15.2 (some (vi q.1)) S q.2 := by
                  intro w29 hw38
                  subst hw38
                  refine r_iadd dX12_after_126 ?_
                  refine r_istore dX12_after_127 (by decide) rfl ?_
                  refine r_iload dX12_after_129 rfl ?_
                  have J35 : ∀ (w33 : Int32) (w34 : Int32), w33 = (if p17 = 0 then (if ((mI q15.2 44 29) - (mI z5.2.2.2.2.2.2 44 29)) ≤ z5.2.2.1 then z5.2.1 else mI q15.2 44 28) else z5.2.1) → w34 = (if p17 = 0 then (if ((mI q15.2 44 29) - (mI z5.2.2.2.2.2.2 44 29)) ≤ z5.2.2.1 then z5.2.2.1 else (mI q15.2 44 29) - (mI z5.2.2.2.2.2.2 44 29)) else z5.2.2.1) → Run l G M_X12_after 8 161 [some (vr (some 44)), none, none, some (vi a3), some (vi (if z5.1 = (-1 : Int32) then (if (mI q15.2 44 27) = 0 then z5.1 else z5.2.2.2.2.2.1) else z5.1)), some (vi w33), some (vi w34), some (vi (z5.2.2.2.1 + (if p17 = (6 : Int32) then (1 : Int32) else (0 : Int32)))), some (vi q15.1), some (vi z5.2.2.2.2.2.1), none, none] [] S q15.2 (some (vi q.1)) S q.2 := by
                    intro w33 w34 hw36 hw37
                    subst hw36
                    subst hw37
                    refine r_iinc (v := _ + (1 : Int32)) dX12_after_161 rfl (congrArg (_ + ·) ci_1) (by decide) rfl ?_
                    refine r_goto (tgt := 44) dX12_after_164 rfl ?_
                    cases eb10
                    exact r_weak (L' := [some (vr (some 44)), none, none, some (vi a3), some (vi (if z5.1 = (-1 : Int32) then (if (mI q15.2 44 27) = 0 then z5.1 else z5.2.2.2.2.2.1) else z5.1)), some (vi (if p17 = 0 then (if ((mI q15.2 44 29) - (mI z5.2.2.2.2.2.2 44 29)) ≤ z5.2.2.1 then z5.2.1 else mI q15.2 44 28) else z5.2.1)), some (vi (if p17 = 0 then (if ((mI q15.2 44 29) - (mI z5.2.2.2.2.2.2 44 29)) ≤ z5.2.2.1 then z5.2.2.1 else (mI q15.2 44 29) - (mI z5.2.2.2.2.2.2 44 29)) else z5.2.2.1)), some (vi (z5.2.2.2.1 + (if p17 = (6 : Int32) then (1 : Int32) else (0 : Int32)))), some (vi q15.1), some (vi (z5.2.2.2.2.2.1 + (1 : Int32))), none, none]) ⟨rfl, rfl, rfl, rfl, rfl, rfl, rfl, rfl, trivial⟩ hx9
                  refine r_if_ne (tgt := 161) dX12_after_131 rfl (fun h31 => ?_) (fun h31 => ?_)
                  · exact r_weak (L' := [some (vr (some 44)), none, none, some (vi a3), some (vi (if z5.1 = (-1 : Int32) then (if (mI q15.2 44 27) = 0 then z5.1 else z5.2.2.2.2.2.1) else z5.1)), some (vi z5.2.1), some (vi z5.2.2.1), some (vi (z5.2.2.2.1 + (if p17 = (6 : Int32) then (1 : Int32) else (0 : Int32)))), some (vi q15.1), some (vi z5.2.2.2.2.2.1), none, none]) ⟨rfl, rfl, rfl, rfl, rfl, rfl, rfl, rfl, trivial⟩ (J35 _ _ (Eq.symm (if_neg h31)) (Eq.symm (if_neg h31)))
                  · refine r_aload_n dX12_after_134 rfl ?_
                    refine r_getI dX12_after_135 fl_X12_270 rfl (lp_44 hS) (lq_44 hS) ?_
                    refine r_iload dX12_after_138 rfl ?_
                    refine r_isub dX12_after_140 ?_
                    refine r_iload dX12_after_141 rfl ?_
                    refine r_icmp_le (tgt := 161) dX12_after_143 rfl (fun h32 => ?_) (fun h32 => ?_)
                    · exact r_weak (L' := [some (vr (some 44)), none, none, some (vi a3), some (vi (if z5.1 = (-1 : Int32) then (if (mI q15.2 44 27) = 0 then z5.1 else z5.2.2.2.2.2.1) else z5.1)), some (vi z5.2.1), some (vi z5.2.2.1), some (vi (z5.2.2.2.1 + (if p17 = (6 : Int32) then (1 : Int32) else (0 : Int32)))), some (vi q15.1), some (vi z5.2.2.2.2.2.1), none, none]) ⟨rfl, rfl, rfl, rfl, rfl, rfl, rfl, rfl, trivial⟩ (J35 _ _ (Eq.symm ((if_pos h31).trans (if_pos h32))) (Eq.symm ((if_pos h31).trans (if_pos h32))))
                    · refine r_aload_n dX12_after_146 rfl ?_
                      refine r_getI dX12_after_147 fl_X12_267 rfl (lp_44 hS) (lq_44 hS) ?_
                      refine r_istore dX12_after_150 (by decide) rfl ?_
                      refine r_aload_n dX12_after_152 rfl ?_
                      refine r_getI dX12_after_153 fl_X12_270 rfl (lp_44 hS) (lq_44 hS) ?_
                      refine r_iload dX12_after_156 rfl ?_
                      refine r_isub dX12_after_158 ?_
                      refine r_istore dX12_after_159 (by decide) rfl ?_
                      exact r_weak (L' := [some (vr (some 44)), none, none, some (vi a3), some (vi (if z5.1 = (-1 : Int32) then (if (mI q15.2 44 27) = 0 then z5.1 else z5.2.2.2.2.2.1) else z5.1)), some (vi (mI q15.2 44 28)), some (vi ((mI q15.2 44 29) - (mI z5.2.2.2.2.2.2 44 29))), some (vi (z5.2.2.2.1 + (if p17 = (6 : Int32) then (1 : Int32) else (0 : Int32)))), some (vi q15.1), some (vi z5.2.2.2.2.2.1), none, none]) ⟨rfl, rfl, rfl, rfl, rfl, rfl, rfl, rfl, trivial⟩ (J35 _ _ (Eq.symm ((if_pos h31).trans (if_neg h32))) (Eq.symm ((if_pos h31).trans (if_neg h32))))
                refine r_icmp_ne (tgt := 125) dX12_after_118 rfl (fun h28 => ?_) (fun h28 => ?_)
                · refine r_iconst (v := 0) dX12_after_125 ci_0 ?_
                  exact r_weak (L' := [some (vr (some 44)), none, none, some (vi a3), some (vi (if z5.1 = (-1 : Int32) then (if (mI q15.2 44 27) = 0 then z5.1 else z5.2.2.2.2.2.1) else z5.1)), some (vi z5.2.1), some (vi z5.2.2.1), none, some (vi q15.1), some (vi z5.2.2.2.2.2.1), some (vi (mI z5.2.2.2.2.2.2 44 29)), some (vi p17)]) ⟨rfl, rfl, rfl, rfl, rfl, rfl, rfl, rfl, rfl, trivial⟩ (J30 _ (Eq.symm (if_neg h28)))
                · refine r_iconst (v := 1) dX12_after_121 ci_1 ?_
                  refine r_goto (tgt := 126) dX12_after_122 rfl ?_
                  exact r_weak (L' := [some (vr (some 44)), none, none, some (vi a3), some (vi (if z5.1 = (-1 : Int32) then (if (mI q15.2 44 27) = 0 then z5.1 else z5.2.2.2.2.2.1) else z5.1)), some (vi z5.2.1), some (vi z5.2.2.1), none, some (vi q15.1), some (vi z5.2.2.2.2.2.1), some (vi (mI z5.2.2.2.2.2.2 44 29)), some (vi p17)]) ⟨rfl, rfl, rfl, rfl, rfl, rfl, rfl, rfl, rfl, trivial⟩ (J30 _ (Eq.symm (if_pos h28)))
              refine r_icmp_ne (tgt := 108) dX12_after_93 rfl (fun h24 => ?_) (fun h24 => ?_)
              · refine r_iload dX12_after_108 rfl ?_
                exact r_weak (L' := [some (vr (some 44)), none, none, some (vi a3), none, some (vi z5.2.1), some (vi z5.2.2.1), some (vi z5.2.2.2.1), some (vi q15.1), some (vi z5.2.2.2.2.2.1), some (vi (mI z5.2.2.2.2.2.2 44 29)), some (vi p17)]) ⟨rfl, rfl, rfl, rfl, rfl, rfl, rfl, rfl, rfl, trivial⟩ (J27 _ (Eq.symm (if_neg h24)))
              · refine r_aload_n dX12_after_96 rfl ?_
                refine r_getI dX12_after_97 fl_X12_264 rfl (lp_44 hS) (lq_44 hS) ?_
                refine r_if_eq (tgt := 108) dX12_after_100 rfl (fun h25 => ?_) (fun h25 => ?_)
                · refine r_iload dX12_after_108 rfl ?_
                  exact r_weak (L' := [some (vr (some 44)), none, none, some (vi a3), none, some (vi z5.2.1), some (vi z5.2.2.1), some (vi z5.2.2.2.1), some (vi q15.1), some (vi z5.2.2.2.2.2.1), some (vi (mI z5.2.2.2.2.2.2 44 29)), some (vi p17)]) ⟨rfl, rfl, rfl, rfl, rfl, rfl, rfl, rfl, rfl, trivial⟩ (J27 _ (Eq.symm ((if_pos h24).trans (if_pos h25))))
                · refine r_iload dX12_after_103 rfl ?_
                  refine r_goto (tgt := 110) dX12_after_105 rfl ?_
                  exact r_weak (L' := [some (vr (some 44)), none, none, some (vi a3), none, some (vi z5.2.1), some (vi z5.2.2.1), some (vi z5.2.2.2.1), some (vi q15.1), some (vi z5.2.2.2.2.2.1), some (vi (mI z5.2.2.2.2.2.2 44 29)), some (vi p17)]) ⟨rfl, rfl, rfl, rfl, rfl, rfl, rfl, rfl, rfl, trivial⟩ (J27 _ (Eq.symm ((if_pos h24).trans (if_neg h25))))
            have J18 : ∀ pp : Int32, pp = p17 → Run l G M_X12_after 8 88 [some (vr (some 44)), none, none, some (vi a3), some (vi z5.1), some (vi z5.2.1), some (vi z5.2.2.1), some (vi z5.2.2.2.1), some (vi q15.1), some (vi z5.2.2.2.2.2.1), some (vi (mI z5.2.2.2.2.2.2 44 29)), none] [vi pp] S q15.2 (some (vi q.1)) S q.2 := by
              intro pp hpp
              rw [hpp]
              exact J18a
            refine r_if_eq (tgt := 87) dX12_after_74 rfl (fun h21 => ?_) (fun h21 => ?_)
            · replace ep19 := ite_t h21 ep19
              refine r_iconst (v := -1) dX12_after_87 ci_m1 ?_
              exact r_weak (L' := [some (vr (some 44)), none, none, some (vi a3), some (vi z5.1), some (vi z5.2.1), some (vi z5.2.2.1), some (vi z5.2.2.2.1), some (vi q15.1), some (vi z5.2.2.2.2.2.1), some (vi (mI z5.2.2.2.2.2.2 44 29)), none]) ⟨rfl, rfl, rfl, rfl, rfl, rfl, rfl, rfl, rfl, trivial⟩ (J18 _ (Option.some.inj ep19))
            · replace ep19 := ite_f h21 ep19
              refine r_aload_n dX12_after_77 rfl ?_
              refine r_iload dX12_after_78 rfl ?_
              refine r_iconst (v := 0) dX12_after_80 ci_0 ?_
              obtain ⟨q22, eq23, ep19⟩ := obind ep19
              refine r_callV (as := [_, _]) (rest := []) dX12_after_81 ml_X12_325 yV_X12_deedOf (c_X12_deedOf hS eq23) (by decide) rfl (lp_44 hS) (lq_44 hS) (Nat.le_of_ble_eq_true rfl) ?_
              refine r_goto (tgt := 88) dX12_after_84 rfl ?_
              exact r_weak (L' := [some (vr (some 44)), none, none, some (vi a3), some (vi z5.1), some (vi z5.2.1), some (vi z5.2.2.1), some (vi z5.2.2.2.1), some (vi q15.1), some (vi z5.2.2.2.2.2.1), some (vi (mI z5.2.2.2.2.2.2 44 29)), none]) ⟨rfl, rfl, rfl, rfl, rfl, rfl, rfl, rfl, rfl, trivial⟩ (J18 _ (Option.some.inj ep19))
      exact r_weak (L' := [some (vr (some 44)), none, none, some (vi a3), some (vi (-1 : Int32)), some (vi (-1 : Int32)), some (vi (-1 : Int32)), some (vi (0 : Int32)), some (vi (1 : Int32)), some (vi (0 : Int32)), none, none]) ⟨rfl, rfl, rfl, rfl, rfl, rfl, rfl, rfl, trivial⟩ J7w
    · replace e := ite_t h4 e
      refine r_bipush (v := -2) dX12_after_23 cb_m2 ?_
      cases e
      exact r_ireturn dX12_after_25 rfl rfl
def m_X12_count (a1 : Int32) (mm : Mm) : Option (Int32 × Mm) := if (m_X12_in a1 (0 : Int32) (3 : Int32)) = 0 then (some ((-2 : Int32), (sI mm 44 0 (0 : Int32)))) else (grd a1 16 (some (mI (sI mm 44 0 (0 : Int32)) 49 (ix a1), (sI mm 44 0 (0 : Int32)))))
set_option maxHeartbeats 4000000 in
set_option maxRecDepth 100000 in
theorem c_X12_count {l : Launch} {G : Gt} {S : Sk} (hS : Lay S) {a1 : Int32} {mm : Mm} {q : Int32 × Mm} (e : m_X12_count a1 mm = some q) : CallOK l G M_X12_count yX12_count 1 [vr (some 44), vi a1] S mm (some (vi q.1)) S q.2 := by
  refine call_of_run rfl rfl rfl (Nat.le_of_ble_eq_true rfl) ?_
  show Run l G M_X12_count 1 0 [some (vr (some 44)), some (vi a1)] [] S mm (some (vi q.1)) S q.2
  unfold m_X12_count at e
  refine r_aload_n dX12_count_0 rfl ?_
  refine r_iconst (v := 0) dX12_count_1 ci_0 ?_
  refine r_putI dX12_count_2 fl_X12_90 ft_12_0 (Or.inl rfl) rfl rfl rfl (lp_44 hS) (lq_44 hS) ?_
  refine r_iload_n dX12_count_5 rfl ?_
  refine r_iconst (v := 0) dX12_count_6 ci_0 ?_
  refine r_iconst (v := 3) dX12_count_7 ci_3 ?_
  refine r_callS (as := [_, _, _]) (rest := []) dX12_count_8 ml_X12_102 yS_X12_in (c_X12_in hS) (by decide) rfl (Nat.le_of_ble_eq_true rfl) ?_
  refine r_if_eq (tgt := 23) dX12_count_11 rfl (fun h1 => ?_) (fun h1 => ?_)
  · replace e := ite_t h1 e
    refine r_bipush (v := -2) dX12_count_23 cb_m2 ?_
    cases e
    exact r_ireturn dX12_count_25 rfl rfl
  · replace e := ite_f h1 e
    refine r_aload_n dX12_count_14 rfl ?_
    refine r_getR dX12_count_15 fl_X12_23 rfl (lp_44 hS) (lq_44 hS) (lr_44_5 hS) ?_
    refine r_iload_n dX12_count_18 rfl ?_
    obtain ⟨hg2, e⟩ := grd_some e
    refine r_iald dX12_count_19 (lp_49 hS) (lk_49 hS) hg2 ?_
    refine r_goto (tgt := 25) dX12_count_20 rfl ?_
    cases e
    exact r_ireturn dX12_count_25 rfl rfl
def m_X12_image (S : Sk) (a1 : Int32) (mm : Mm) : Option (Int32 × Mm) := if (m_X12_in a1 (0 : Int32) (2 : Int32)) = 0 then (some ((0 : Int32), (sI mm 44 0 (0 : Int32)))) else ((m_X12_copyAll S (0 : Int32) (a1 + (1 : Int32)) (sI mm 44 0 (0 : Int32))).bind (fun q2 => grd a1 3 (some ((1 : Int32), (sI q2 70 (ix a1) (vp_nar .boolean (1 : Int32)))))))
set_option maxHeartbeats 4000000 in
set_option maxRecDepth 100000 in
theorem c_X12_image {l : Launch} {G : Gt} {S : Sk} (hS : Lay S) {a1 : Int32} {mm : Mm} {q : Int32 × Mm} (e : m_X12_image S a1 mm = some q) : CallOK l G M_X12_image yX12_image 2 [vr (some 44), vi a1] S mm (some (vi q.1)) S q.2 := by
  refine call_of_run rfl rfl rfl (Nat.le_of_ble_eq_true rfl) ?_
  show Run l G M_X12_image 2 0 [some (vr (some 44)), some (vi a1)] [] S mm (some (vi q.1)) S q.2
  unfold m_X12_image at e
  refine r_aload_n dX12_image_0 rfl ?_
  refine r_iconst (v := 0) dX12_image_1 ci_0 ?_
  refine r_putI dX12_image_2 fl_X12_90 ft_12_0 (Or.inl rfl) rfl rfl rfl (lp_44 hS) (lq_44 hS) ?_
  refine r_iload_n dX12_image_5 rfl ?_
  refine r_iconst (v := 0) dX12_image_6 ci_0 ?_
  refine r_iconst (v := 2) dX12_image_7 ci_2 ?_
  refine r_callS (as := [_, _, _]) (rest := []) dX12_image_8 ml_X12_102 yS_X12_in (c_X12_in hS) (by decide) rfl (Nat.le_of_ble_eq_true rfl) ?_
  refine r_if_ne (tgt := 16) dX12_image_11 rfl (fun h1 => ?_) (fun h1 => ?_)
  · replace e := ite_f h1 e
    refine r_aload_n dX12_image_16 rfl ?_
    refine r_iconst (v := 0) dX12_image_17 ci_0 ?_
    refine r_iload_n dX12_image_18 rfl ?_
    refine r_iconst (v := 1) dX12_image_19 ci_1 ?_
    refine r_iadd dX12_image_20 ?_
    obtain ⟨q2, eq3, e⟩ := obind e
    refine r_callV (as := [_, _]) (rest := []) dX12_image_21 ml_X12_550 yV_X12_copyAll (c_X12_copyAll hS eq3) (by decide) rfl (lp_44 hS) (lq_44 hS) (Nat.le_of_ble_eq_true rfl) ?_
    refine r_aload_n dX12_image_24 rfl ?_
    refine r_getR dX12_image_25 fl_X12_86 rfl (lp_44 hS) (lq_44 hS) (lr_44_56 hS) ?_
    refine r_iload_n dX12_image_28 rfl ?_
    refine r_iconst (v := 1) dX12_image_29 ci_1 ?_
    obtain ⟨hg4, e⟩ := grd_some e
    refine r_zast dX12_image_30 (lp_70 hS) (lk_70 hS) hg4 ?_
    refine r_iconst (v := 1) dX12_image_31 ci_1 ?_
    cases e
    exact r_ireturn dX12_image_32 rfl (nz_b (by first | exact Or.inl rfl | exact Or.inr rfl)).1
  · replace e := ite_t h1 e
    refine r_iconst (v := 0) dX12_image_14 ci_0 ?_
    cases e
    exact r_ireturn dX12_image_15 rfl (nz_b (by first | exact Or.inl rfl | exact Or.inr rfl)).1
def m_X12_again (S : Sk) (a1 : Int32) (mm : Mm) : Option (Int32 × Mm) := if (m_X12_in a1 (0 : Int32) (2 : Int32)) = 0 then (some ((0 : Int32), (sI mm 44 0 (0 : Int32)))) else (grd a1 3 (if (mI (sI mm 44 0 (0 : Int32)) 70 (ix a1)) = 0 then (some ((0 : Int32), (sI mm 44 0 (0 : Int32)))) else ((m_X12_copyAll S (a1 + (1 : Int32)) (0 : Int32) (sI mm 44 0 (0 : Int32))).bind (fun q4 => some ((1 : Int32), q4)))))
set_option maxHeartbeats 4000000 in
set_option maxRecDepth 100000 in
theorem c_X12_again {l : Launch} {G : Gt} {S : Sk} (hS : Lay S) {a1 : Int32} {mm : Mm} {q : Int32 × Mm} (e : m_X12_again S a1 mm = some q) : CallOK l G M_X12_again yX12_again 2 [vr (some 44), vi a1] S mm (some (vi q.1)) S q.2 := by
  refine call_of_run rfl rfl rfl (Nat.le_of_ble_eq_true rfl) ?_
  show Run l G M_X12_again 2 0 [some (vr (some 44)), some (vi a1)] [] S mm (some (vi q.1)) S q.2
  unfold m_X12_again at e
  refine r_aload_n dX12_again_0 rfl ?_
  refine r_iconst (v := 0) dX12_again_1 ci_0 ?_
  refine r_putI dX12_again_2 fl_X12_90 ft_12_0 (Or.inl rfl) rfl rfl rfl (lp_44 hS) (lq_44 hS) ?_
  refine r_iload_n dX12_again_5 rfl ?_
  refine r_iconst (v := 0) dX12_again_6 ci_0 ?_
  refine r_iconst (v := 2) dX12_again_7 ci_2 ?_
  refine r_callS (as := [_, _, _]) (rest := []) dX12_again_8 ml_X12_102 yS_X12_in (c_X12_in hS) (by decide) rfl (Nat.le_of_ble_eq_true rfl) ?_
  refine r_if_eq (tgt := 23) dX12_again_11 rfl (fun h1 => ?_) (fun h1 => ?_)
  · replace e := ite_t h1 e
    refine r_iconst (v := 0) dX12_again_23 ci_0 ?_
    cases e
    exact r_ireturn dX12_again_24 rfl (nz_b (by first | exact Or.inl rfl | exact Or.inr rfl)).1
  · replace e := ite_f h1 e
    refine r_aload_n dX12_again_14 rfl ?_
    refine r_getR dX12_again_15 fl_X12_86 rfl (lp_44 hS) (lq_44 hS) (lr_44_56 hS) ?_
    refine r_iload_n dX12_again_18 rfl ?_
    obtain ⟨hg2, e⟩ := grd_some e
    refine r_zald dX12_again_19 (lp_70 hS) (lk_70 hS) hg2 ?_
    refine r_if_ne (tgt := 25) dX12_again_20 rfl (fun h3 => ?_) (fun h3 => ?_)
    · replace e := ite_f h3 e
      refine r_aload_n dX12_again_25 rfl ?_
      refine r_iload_n dX12_again_26 rfl ?_
      refine r_iconst (v := 1) dX12_again_27 ci_1 ?_
      refine r_iadd dX12_again_28 ?_
      refine r_iconst (v := 0) dX12_again_29 ci_0 ?_
      obtain ⟨q4, eq5, e⟩ := obind e
      refine r_callV (as := [_, _]) (rest := []) dX12_again_30 ml_X12_550 yV_X12_copyAll (c_X12_copyAll hS eq5) (by decide) rfl (lp_44 hS) (lq_44 hS) (Nat.le_of_ble_eq_true rfl) ?_
      refine r_iconst (v := 1) dX12_again_33 ci_1 ?_
      cases e
      exact r_ireturn dX12_again_34 rfl (nz_b (by first | exact Or.inl rfl | exact Or.inr rfl)).1
    · replace e := ite_t h3 e
      refine r_iconst (v := 0) dX12_again_23 ci_0 ?_
      cases e
      exact r_ireturn dX12_again_24 rfl (nz_b (by first | exact Or.inl rfl | exact Or.inr rfl)).1
