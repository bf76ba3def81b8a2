/-! the law's entry: what the Statement gives, as KS -/
def tmS (i : Nat) : Term := Term.string "SwornCounty$Reader" (sIdx.getD i 0)
def FN : List Cond := flatC (Jvm.Cond.and given_1 narrow_1)
theorem fn_ex : ∀ i, i < 23 → Cond.exactly (tmS i) "java/lang/String" ∈ FN := by decide +kernel
theorem fn_co : ∀ i, i < 23 → Cond.eq (.field (tmS i) "java/lang/String" "coder" "B") (.int 0) ∈ FN := by decide +kernel
theorem fn_ar : ∀ i, i < 23 → Cond.arrayOf (.field (tmS i) "java/lang/String" "value" "[B") .byte ∈ FN := by decide +kernel
theorem fn_le : ∀ i, i < 23 → Cond.eq (.length (.field (tmS i) "java/lang/String" "value" "[B")) (.int (Int32.ofNat (sLen.getD i 0))) ∈ FN := by decide +kernel
theorem fn_el : ∀ i, i < 23 → ∀ j, j < sLen.getD i 0 → Cond.eq (.elem (.field (tmS i) "java/lang/String" "value" "[B") (.int (Int32.ofNat j))) (.int ((sByt.getD i []).getD j 0)) ∈ FN := by decide +kernel
def neP : List (List Nat) := [[], [64], [74, 75], [85, 86, 87], [96, 97, 98, 99], [104, 105, 106, 107, 108], [119, 120, 121, 122, 123, 124], [133, 134, 135, 136, 137, 138, 139], [148, 149, 150, 151, 152, 153, 154, 155], [165, 166, 167, 168, 169, 170, 171, 172, 173], [183, 184, 185, 186, 187, 188, 189, 190, 191, 192], [200, 201, 202, 203, 204, 205, 206, 207, 208, 209, 210], [220, 221, 222, 223, 224, 225, 226, 227, 228, 229, 230, 231], [240, 241, 242, 243, 244, 245, 246, 247, 248, 249, 250, 251, 252], [261, 262, 263, 264, 265, 266, 267, 268, 269, 270, 271, 272, 273, 274], [284, 285, 286, 287, 288, 289, 290, 291, 292, 293, 294, 295, 296, 297, 298], [305, 306, 307, 308, 309, 310, 311, 312, 313, 314, 315, 316, 317, 318, 319, 320], [327, 328, 329, 330, 331, 332, 333, 334, 335, 336, 337, 338, 339, 340, 341, 342, 343], [350, 351, 352, 353, 354, 355, 356, 357, 358, 359, 360, 361, 362, 363, 364, 365, 366, 367], [374, 375, 376, 377, 378, 379, 380, 381, 382, 383, 384, 385, 386, 387, 388, 389, 390, 391, 392], [400, 401, 402, 403, 404, 405, 406, 407, 408, 409, 410, 411, 412, 413, 414, 415, 416, 417, 418, 419], [425, 426, 427, 428, 429, 430, 431, 432, 433, 434, 435, 436, 437, 438, 439, 440, 441, 442, 443, 444, 445], [452, 453, 454, 455, 456, 457, 458, 459, 460, 461, 462, 463, 464, 465, 466, 467, 468, 469, 470, 471, 472, 473]]
theorem fn_ne1 : ∀ j, j < 1 → FN[(neP.getD 1 []).getD j 0]? = some (Cond.not (Cond.eq (tmS j) (tmS 1))) := by decide +kernel
theorem fn_ne2 : ∀ j, j < 2 → FN[(neP.getD 2 []).getD j 0]? = some (Cond.not (Cond.eq (tmS j) (tmS 2))) := by decide +kernel
theorem fn_ne3 : ∀ j, j < 3 → FN[(neP.getD 3 []).getD j 0]? = some (Cond.not (Cond.eq (tmS j) (tmS 3))) := by decide +kernel
theorem fn_ne4 : ∀ j, j < 4 → FN[(neP.getD 4 []).getD j 0]? = some (Cond.not (Cond.eq (tmS j) (tmS 4))) := by decide +kernel
theorem fn_ne5 : ∀ j, j < 5 → FN[(neP.getD 5 []).getD j 0]? = some (Cond.not (Cond.eq (tmS j) (tmS 5))) := by decide +kernel
theorem fn_ne6 : ∀ j, j < 6 → FN[(neP.getD 6 []).getD j 0]? = some (Cond.not (Cond.eq (tmS j) (tmS 6))) := by decide +kernel
theorem fn_ne7 : ∀ j, j < 7 → FN[(neP.getD 7 []).getD j 0]? = some (Cond.not (Cond.eq (tmS j) (tmS 7))) := by decide +kernel
theorem fn_ne8 : ∀ j, j < 8 → FN[(neP.getD 8 []).getD j 0]? = some (Cond.not (Cond.eq (tmS j) (tmS 8))) := by decide +kernel
theorem fn_ne9 : ∀ j, j < 9 → FN[(neP.getD 9 []).getD j 0]? = some (Cond.not (Cond.eq (tmS j) (tmS 9))) := by decide +kernel
theorem fn_ne10 : ∀ j, j < 10 → FN[(neP.getD 10 []).getD j 0]? = some (Cond.not (Cond.eq (tmS j) (tmS 10))) := by decide +kernel
theorem fn_ne11 : ∀ j, j < 11 → FN[(neP.getD 11 []).getD j 0]? = some (Cond.not (Cond.eq (tmS j) (tmS 11))) := by decide +kernel
theorem fn_ne12 : ∀ j, j < 12 → FN[(neP.getD 12 []).getD j 0]? = some (Cond.not (Cond.eq (tmS j) (tmS 12))) := by decide +kernel
theorem fn_ne13 : ∀ j, j < 13 → FN[(neP.getD 13 []).getD j 0]? = some (Cond.not (Cond.eq (tmS j) (tmS 13))) := by decide +kernel
theorem fn_ne14 : ∀ j, j < 14 → FN[(neP.getD 14 []).getD j 0]? = some (Cond.not (Cond.eq (tmS j) (tmS 14))) := by decide +kernel
theorem fn_ne15 : ∀ j, j < 15 → FN[(neP.getD 15 []).getD j 0]? = some (Cond.not (Cond.eq (tmS j) (tmS 15))) := by decide +kernel
theorem fn_ne16 : ∀ j, j < 16 → FN[(neP.getD 16 []).getD j 0]? = some (Cond.not (Cond.eq (tmS j) (tmS 16))) := by decide +kernel
theorem fn_ne17 : ∀ j, j < 17 → FN[(neP.getD 17 []).getD j 0]? = some (Cond.not (Cond.eq (tmS j) (tmS 17))) := by decide +kernel
theorem fn_ne18 : ∀ j, j < 18 → FN[(neP.getD 18 []).getD j 0]? = some (Cond.not (Cond.eq (tmS j) (tmS 18))) := by decide +kernel
theorem fn_ne19 : ∀ j, j < 19 → FN[(neP.getD 19 []).getD j 0]? = some (Cond.not (Cond.eq (tmS j) (tmS 19))) := by decide +kernel
theorem fn_ne20 : ∀ j, j < 20 → FN[(neP.getD 20 []).getD j 0]? = some (Cond.not (Cond.eq (tmS j) (tmS 20))) := by decide +kernel
theorem fn_ne21 : ∀ j, j < 21 → FN[(neP.getD 21 []).getD j 0]? = some (Cond.not (Cond.eq (tmS j) (tmS 21))) := by decide +kernel
theorem fn_ne22 : ∀ j, j < 22 → FN[(neP.getD 22 []).getD j 0]? = some (Cond.not (Cond.eq (tmS j) (tmS 22))) := by decide +kernel
theorem fn_ne : ∀ i, i < 23 → ∀ j, j < i → Cond.not (Cond.eq (tmS j) (tmS i)) ∈ FN := by
  intro i hi j hj
  match i with
  | 0 => exact absurd hj (Nat.not_lt_zero j)
  | 1 => exact List.mem_of_getElem? (fn_ne1 j hj)
  | 2 => exact List.mem_of_getElem? (fn_ne2 j hj)
  | 3 => exact List.mem_of_getElem? (fn_ne3 j hj)
  | 4 => exact List.mem_of_getElem? (fn_ne4 j hj)
  | 5 => exact List.mem_of_getElem? (fn_ne5 j hj)
  | 6 => exact List.mem_of_getElem? (fn_ne6 j hj)
  | 7 => exact List.mem_of_getElem? (fn_ne7 j hj)
  | 8 => exact List.mem_of_getElem? (fn_ne8 j hj)
  | 9 => exact List.mem_of_getElem? (fn_ne9 j hj)
  | 10 => exact List.mem_of_getElem? (fn_ne10 j hj)
  | 11 => exact List.mem_of_getElem? (fn_ne11 j hj)
  | 12 => exact List.mem_of_getElem? (fn_ne12 j hj)
  | 13 => exact List.mem_of_getElem? (fn_ne13 j hj)
  | 14 => exact List.mem_of_getElem? (fn_ne14 j hj)
  | 15 => exact List.mem_of_getElem? (fn_ne15 j hj)
  | 16 => exact List.mem_of_getElem? (fn_ne16 j hj)
  | 17 => exact List.mem_of_getElem? (fn_ne17 j hj)
  | 18 => exact List.mem_of_getElem? (fn_ne18 j hj)
  | 19 => exact List.mem_of_getElem? (fn_ne19 j hj)
  | 20 => exact List.mem_of_getElem? (fn_ne20 j hj)
  | 21 => exact List.mem_of_getElem? (fn_ne21 j hj)
  | 22 => exact List.mem_of_getElem? (fn_ne22 j hj)
  | n + 23 => omega
theorem fn_cs : Cond.eq (.static "java/lang/String" "COMPACT_STRINGS" "Z") (.int 1) ∈ FN := by decide +kernel
theorem fn_fm : Cond.isRef (.static "jdk/internal/util/Preconditions" "SIOOBE_FORMATTER" "Ljava/util/function/BiFunction;") ∈ FN := by decide +kernel
theorem tb_sr : ∀ i, i < 23 → Cond.stringRef "SwornCounty$Reader" (sIdx.getD i 0) (sTxt.getD i "") ∈ tables_1 := by decide +kernel
theorem tb_ls1 : Cond.laysStatic "java/lang/String" "COMPACT_STRINGS" "Z" ∈ tables_1 := by decide +kernel
theorem tb_ls2 : Cond.laysStatic "jdk/internal/util/Preconditions" "SIOOBE_FORMATTER" "Ljava/util/function/BiFunction;" ∈ tables_1 := by decide +kernel
theorem tb_i1 : Cond.initialized "java/lang/String" ∈ tables_1 := by decide +kernel
theorem tb_i2 : Cond.initialized "jdk/internal/util/Preconditions" ∈ tables_1 := by decide +kernel
theorem tb_ao : Cond.arrayOver (.object "SwornCounty$County") ∈ tables_1 ∧ Cond.arrayOver (.object "SwornCounty$Rows") ∈ tables_1 ∧ Cond.arrayOver (.object "SwornCounty$Told") ∈ tables_1 := ⟨by decide +kernel, by decide +kernel, by decide +kernel⟩
theorem tb_ne : ∀ w ∈ nests, w ∈ tables_1 := by decide +kernel
theorem tb_in0 : Cond.instantiable RX0 8 ∈ gtbl := gt_at 247 (by decide +kernel) (by decide +kernel)
theorem tb_in1 : Cond.instantiable RX1 4 ∈ gtbl := gt_at 279 (by decide +kernel) (by decide +kernel)
theorem tb_in2 : Cond.instantiable RX2 10 ∈ gtbl := gt_at 584 (by decide +kernel) (by decide +kernel)
theorem tb_in3 : Cond.instantiable RX3 11 ∈ gtbl := gt_at 137 (by decide +kernel) (by decide +kernel)
theorem tb_in4 : Cond.instantiable RX4 4 ∈ gtbl := gt_at 365 (by decide +kernel) (by decide +kernel)
theorem tb_in5 : Cond.instantiable RX5 12 ∈ gtbl := gt_at 70 (by decide +kernel) (by decide +kernel)
theorem tb_in6 : Cond.instantiable RX6 2 ∈ gtbl := gt_at 76 (by decide +kernel) (by decide +kernel)
theorem tb_in7 : Cond.instantiable RX7 12 ∈ gtbl := gt_at 143 (by decide +kernel) (by decide +kernel)
theorem tb_in8 : Cond.instantiable RX8 6 ∈ gtbl := gt_at 298 (by decide +kernel) (by decide +kernel)
theorem tb_in9 : Cond.instantiable RX9 7 ∈ gtbl := gt_at 30 (by decide +kernel) (by decide +kernel)
theorem tb_in10 : Cond.instantiable RX10 10 ∈ gtbl := gt_at 324 (by decide +kernel) (by decide +kernel)
theorem tb_in11 : Cond.instantiable RX11 9 ∈ gtbl := gt_at 22 (by decide +kernel) (by decide +kernel)
theorem tb_in12 : Cond.instantiable RX12 57 ∈ gtbl := gt_at 1147 (by decide +kernel) (by decide +kernel)
section START
variable {s : State} {args : Array Value}
theorem st_cls (hg : ∀ w ∈ gtbl, w.before args s = true) : ∀ c : Nat, ∃ x : ClassId × (Nat → Nat), ∀ q : vw_C, vwCl[c]? = some q → u_Kn s q.1 q.2.1 q.2.2 x.1 x.2 := by
  intro c
  match c with
  | 0 =>
    obtain ⟨cC, iS, h⟩ := u_known (N := 8) hg lay_X0 (hg _ tb_in0)
    exact ⟨(cC, iS), fun q hq => by cases hq; exact h⟩
  | 1 =>
    obtain ⟨cC, iS, h⟩ := u_known (N := 4) hg lay_X1 (hg _ tb_in1)
    exact ⟨(cC, iS), fun q hq => by cases hq; exact h⟩
  | 2 =>
    obtain ⟨cC, iS, h⟩ := u_known (N := 10) hg lay_X2 (hg _ tb_in2)
    exact ⟨(cC, iS), fun q hq => by cases hq; exact h⟩
  | 3 =>
    obtain ⟨cC, iS, h⟩ := u_known (N := 11) hg lay_X3 (hg _ tb_in3)
    exact ⟨(cC, iS), fun q hq => by cases hq; exact h⟩
  | 4 =>
    obtain ⟨cC, iS, h⟩ := u_known (N := 4) hg lay_X4 (hg _ tb_in4)
    exact ⟨(cC, iS), fun q hq => by cases hq; exact h⟩
  | 5 =>
    obtain ⟨cC, iS, h⟩ := u_known (N := 12) hg lay_X5 (hg _ tb_in5)
    exact ⟨(cC, iS), fun q hq => by cases hq; exact h⟩
  | 6 =>
    obtain ⟨cC, iS, h⟩ := u_known (N := 2) hg lay_X6 (hg _ tb_in6)
    exact ⟨(cC, iS), fun q hq => by cases hq; exact h⟩
  | 7 =>
    obtain ⟨cC, iS, h⟩ := u_known (N := 12) hg lay_X7 (hg _ tb_in7)
    exact ⟨(cC, iS), fun q hq => by cases hq; exact h⟩
  | 8 =>
    obtain ⟨cC, iS, h⟩ := u_known (N := 6) hg lay_X8 (hg _ tb_in8)
    exact ⟨(cC, iS), fun q hq => by cases hq; exact h⟩
  | 9 =>
    obtain ⟨cC, iS, h⟩ := u_known (N := 7) hg lay_X9 (hg _ tb_in9)
    exact ⟨(cC, iS), fun q hq => by cases hq; exact h⟩
  | 10 =>
    obtain ⟨cC, iS, h⟩ := u_known (N := 10) hg lay_X10 (hg _ tb_in10)
    exact ⟨(cC, iS), fun q hq => by cases hq; exact h⟩
  | 11 =>
    obtain ⟨cC, iS, h⟩ := u_known (N := 9) hg lay_X11 (hg _ tb_in11)
    exact ⟨(cC, iS), fun q hq => by cases hq; exact h⟩
  | 12 =>
    obtain ⟨cC, iS, h⟩ := u_known (N := 57) hg lay_X12 (hg _ tb_in12)
    exact ⟨(cC, iS), fun q hq => by cases hq; exact h⟩
  | n + 13 => exact ⟨(0, fun _ => 0), fun q hq => by simp at hq⟩
theorem st_arr (hg : ∀ w ∈ gtbl, w.before args s = true) (ht : ∀ w ∈ tables_1, w.before args s = true) : ∀ t : Nat, ∃ cA : ClassId, 20 ≤ t → t ≤ 25 → ArrOfT s cA (aty t) ∧ va_RA s cA (aty t) := by
  intro t
  by_cases h : 20 ≤ t ∧ t ≤ 25
  · have h2 : t = 20 ∨ t = 21 ∨ t = 22 ∨ t = 23 ∨ t = 24 ∨ t = 25 := by omega
    rcases h2 with rfl | rfl | rfl | rfl | rfl | rfl
    · obtain ⟨c, k, comp, h1, h2, h3⟩ := Cond.arrayClass_spec (hg _ aw_20)
      exact ⟨c, fun _ _ => ⟨fun n z => ⟨fun k h => (by cases h), k, h2, comp, h3⟩, h1⟩⟩
    · obtain ⟨c, k, comp, h1, h2, h3⟩ := Cond.arrayClass_spec (hg _ aw_21)
      exact ⟨c, fun _ _ => ⟨fun n z => ⟨fun k h => (by cases h), k, h2, comp, h3⟩, h1⟩⟩
    · obtain ⟨c, k, comp, h1, h2, h3⟩ := Cond.arrayClass_spec (hg _ aw_22)
      exact ⟨c, fun _ _ => ⟨fun n z => ⟨fun k h => (by cases h), k, h2, comp, h3⟩, h1⟩⟩
    · obtain ⟨comp, c, k, h1, h2, h3, h4, h5⟩ := Cond.arrayOver_spec (ht _ tb_ao.1)
      exact ⟨c, fun _ _ => ⟨fun n z => ⟨fun k h => (by cases h), k, h3, comp, h4⟩, k, comp, h3, h4, h1, h5⟩⟩
    · obtain ⟨comp, c, k, h1, h2, h3, h4, h5⟩ := Cond.arrayOver_spec (ht _ tb_ao.2.1)
      exact ⟨c, fun _ _ => ⟨fun n z => ⟨fun k h => (by cases h), k, h3, comp, h4⟩, k, comp, h3, h4, h1, h5⟩⟩
    · obtain ⟨comp, c, k, h1, h2, h3, h4, h5⟩ := Cond.arrayOver_spec (ht _ tb_ao.2.2)
      exact ⟨c, fun _ _ => ⟨fun n z => ⟨fun k h => (by cases h), k, h3, comp, h4⟩, k, comp, h3, h4, h1, h5⟩⟩
  · exact ⟨0, fun a b => absurd ⟨a, b⟩ h⟩
theorem st_KS {b L : Nat} {xs : Nat → Int32} (hts : ∀ w ∈ lw_tbl, w.before args s = true) (hf : (Jvm.Cond.and given_1 narrow_1).before args s = true) (hX : va_X b L xs s s.heap) (hb : b < s.heap.size) : ∃ G : Gt, G.1 = s.heap.size ∧ G.2.1 = s.heap ∧ G.2.2.2.2.1 0 = b ∧ G.2.2.2.2.2.1 = L ∧ G.2.2.2.2.2.2 = xs ∧ KS G s := by
  have ht : ∀ w ∈ tables_1, w.before args s = true := fun w hw => hts w (List.mem_append_right _ hw)
  have hg : ∀ w ∈ gtbl, w.before args s = true := fun w hw => hts w (List.mem_filter.mp hw).1
  have hn : ∀ w ∈ FN, w.before args s = true := flat_of_before _ hf
  obtain ⟨dC, hdC⟩ := Classical.axiomOfChoice (st_cls hg)
  obtain ⟨dA, hdA⟩ := Classical.axiomOfChoice (st_arr hg ht)
  have hA : ∀ a : Nat, a < s.heap.size → ¬ (s.heap.size ≤ a) := fun a h1 h2 => by omega
  obtain ⟨adK, adV, hS, hev⟩ := vk_Sof (N := 23) (tm := tmS) (len := sLen) (byt := sByt) (A := fun q => s.heap.size ≤ q) (by decide) (fun i hi => hn _ (fn_ex i hi)) (fun i hi => hn _ (fn_co i hi)) (fun i hi => hn _ (fn_ar i hi)) (fun i hi => hn _ (fn_le i hi)) (fun i hi j hj => hn _ (fn_el i hi j hj)) (fun i j hi hj hij => by
    rcases Nat.lt_or_gt_of_ne hij with h | h
    · exact Or.inl (hn _ (fn_ne j hj i h))
    · exact Or.inr (hn _ (fn_ne i hi j h))) hA
  have hcs := va_Zof (A := fun q => s.heap.size ≤ q) (ht _ tb_ls1) (ht _ tb_i1) (va_eqt (hn _ fn_cs)) hA
  have hfm := va_Zqof (A := fun q => s.heap.size ≤ q) (ht _ tb_ls2) (ht _ tb_i2) (hn _ fn_fm) hA
  have hfm2 : ∃ t : Nat, va_Z "jdk/internal/util/Preconditions" "SIOOBE_FORMATTER" "Ljava/util/function/BiFunction;" .null (fun q => s.heap.size ≤ q) s s.heap ∨ va_Z "jdk/internal/util/Preconditions" "SIOOBE_FORMATTER" "Ljava/util/function/BiFunction;" (.ref t) (fun q => s.heap.size ≤ q) s s.heap := by
    rcases hfm with h | ⟨t, h⟩
    · exact ⟨0, Or.inl h⟩
    · exact ⟨t, Or.inr h⟩
  obtain ⟨tf, hfm⟩ := hfm2
  refine ⟨(s.heap.size, s.heap, (fun c => (dC c).1, fun c => (dC c).2), dA, fun n => if n = 0 then b else if n = 200 then tf else if n < 101 then adK (n - 1) else adV (n - 101), L, xs), rfl, rfl, rfl, rfl, rfl, ⟨fun c q hq => hdC c q hq, fun k q hk => by simp at hk⟩, fun t a b => hdA t a b, fun w hw => ?_, ⟨va_AO.of (ht _ tb_ao.1), va_AO.of (ht _ tb_ao.2.1), va_AO.of (ht _ tb_ao.2.2)⟩, ⟨fun i hi => ?_, fun i j hi hj e => ?_⟩, fun i hi => ?_, hcs, ?_, ?_, hb⟩
  · obtain ⟨a, i, y, hh, rfl⟩ := nests_form w hw
    exact va_Nw.of rfl (ht _ (tb_ne _ hw))
  · have e1 : (if i + 1 = 0 then b else if i + 1 = 200 then tf else if i + 1 < 101 then adK (i + 1 - 1) else adV (i + 1 - 101)) = adK i := by rw [if_neg (by omega), if_neg (by omega), if_pos (by omega), Nat.add_sub_cancel]
    have e2 : (if i + 101 = 0 then b else if i + 101 = 200 then tf else if i + 101 < 101 then adK (i + 101 - 1) else adV (i + 101 - 101)) = adV i := by rw [if_neg (by omega), if_neg (by omega), if_neg (by omega), Nat.add_sub_cancel]
    show va_O _ (if i + 1 = 0 then b else if i + 1 = 200 then tf else if i + 1 < 101 then adK (i + 1 - 1) else adV (i + 1 - 101)) _ _ _ ∧ va_OF _ _ _ _ (if i + 1 = 0 then b else if i + 1 = 200 then tf else if i + 1 < 101 then adK (i + 1 - 1) else adV (i + 1 - 101)) _ _ _ ∧ va_OF _ _ _ (.ref (if i + 101 = 0 then b else if i + 101 = 200 then tf else if i + 101 < 101 then adK (i + 101 - 1) else adV (i + 101 - 101))) (if i + 1 = 0 then b else if i + 1 = 200 then tf else if i + 1 < 101 then adK (i + 1 - 1) else adV (i + 1 - 101)) _ _ _ ∧ va_T _ (if i + 101 = 0 then b else if i + 101 = 200 then tf else if i + 101 < 101 then adK (i + 101 - 1) else adV (i + 101 - 101)) _ _ _ _ _
    rw [e1, e2]
    exact hS.1 i hi
  · have e1 : ∀ i, i < 23 → (if i + 1 = 0 then b else if i + 1 = 200 then tf else if i + 1 < 101 then adK (i + 1 - 1) else adV (i + 1 - 101)) = adK i := fun i hi => by rw [if_neg (by omega), if_neg (by omega), if_pos (by omega), Nat.add_sub_cancel]
    have e : (if i + 1 = 0 then b else if i + 1 = 200 then tf else if i + 1 < 101 then adK (i + 1 - 1) else adV (i + 1 - 101)) = (if j + 1 = 0 then b else if j + 1 = 200 then tf else if j + 1 < 101 then adK (j + 1 - 1) else adV (j + 1 - 101)) := e
    rw [e1 i hi, e1 j hj] at e
    exact hS.2 i j hi hj e
  · have e1 : (if i + 1 = 0 then b else if i + 1 = 200 then tf else if i + 1 < 101 then adK (i + 1 - 1) else adV (i + 1 - 101)) = adK i := by rw [if_neg (by omega), if_neg (by omega), if_pos (by omega), Nat.add_sub_cancel]
    show vk_R _ _ _ (if i + 1 = 0 then b else if i + 1 = 200 then tf else if i + 1 < 101 then adK (i + 1 - 1) else adV (i + 1 - 101)) _
    rw [e1]
    have h1 := ht _ (tb_sr i hi)
    have h2 := hev i hi
    exact vk_R.of h1 h2
  · exact hfm
  · exact hX
end START
