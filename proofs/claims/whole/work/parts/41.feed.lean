/-! L3: feed() and end() of both -/
def byC (v : Int32) (k : Int32) : Int32 := vp_nar .byte ((xushr v k).toInt8.toInt32)
def byM (v : Int32) (k : Int32) : Int32 := vp_nar .byte ((xshr v k).toInt8.toInt32)
def apC (b : Int32) (mm : Mm) : Mm := sI (sI mm 2 (ix (mI mm 1 1)) b) 1 1 (mI mm 1 1 + 1)
def apM (b : Int32) (mm : Mm) : Mm := sI (sI mm 45 (ix (mI mm 46 0)) b) 46 0 (mI mm 46 0 + 1)
theorem apC_step {v k : Int32} {mm : Mm} {n : Nat} (hn : n < 600) (hl : mI mm 1 1 = nI n) (hk : ¬ k < 0) : m_X9_append_b3 v (k, mm) = some (.inl (k + (-8), apC (byC v k) mm)) := by
  have h1 : ¬ (600 : Int32) ≤ nI n := nI_ge (a := n) (b := 600) hn (by decide)
  unfold m_X9_append_b3
  simp only [hk, if_false, hl, h1]
  rw [grd_nI hn (by decide)]
  simp only [Option.bind_some, apC, byC, hl]
  rw [rdI_ne _ _ _ _ (by decide), hl]
theorem apC_len {b : Int32} {mm : Mm} {n : Nat} (hl : mI mm 1 1 = nI n) : mI (apC b mm) 1 1 = nI (n + 1) := by
  unfold apC
  rw [rdI_eq, hl, nI_1]
theorem append_eq {v : Int32} {mm : Mm} {n : Nat} (hn : n + 4 ≤ 600) (hl : mI mm 1 1 = nI n) : m_X9_append v mm = some (apC (byC v 0) (apC (byC v 8) (apC (byC v 16) (apC (byC v 24) mm)))) := by
  have l1 := apC_len (b := byC v 24) hl
  have l2 := apC_len (b := byC v 16) l1
  have l3 := apC_len (b := byC v 8) l2
  unfold m_X9_append
  have hw : whileF FU (m_X9_append_b3 v) ((24 : Int32), mm) = some (apC (byC v 0) (apC (byC v 8) (apC (byC v 16) (apC (byC v 24) mm)))) := loop_seq (fun i : Nat => match i with
    | 0 => ((24 : Int32), mm)
    | 1 => (16, apC (byC v 24) mm)
    | 2 => (8, apC (byC v 16) (apC (byC v 24) mm))
    | 3 => (0, apC (byC v 8) (apC (byC v 16) (apC (byC v 24) mm)))
    | _ => (-8, apC (byC v 0) (apC (byC v 8) (apC (byC v 16) (apC (byC v 24) mm))))) 4 rfl (FU_big (by decide)) (fun i hi => by
      match i with
      | 0 => exact apC_step (n := n) (by omega) hl (by decide)
      | 1 => exact apC_step (n := n + 1) (by omega) l1 (by decide)
      | 2 => exact apC_step (n := n + 1 + 1) (by omega) l2 (by decide)
      | 3 => exact apC_step (n := n + 1 + 1 + 1) (by omega) l3 (by decide)) (by
      show m_X9_append_b3 v (-8, _) = _
      unfold m_X9_append_b3
      rw [if_pos (show (-8 : Int32) < 0 by decide)])
  rw [hw]
  rfl
theorem apM_step {v k : Int32} {mm : Mm} {n : Nat} (hn : n < 2400) (hl : mI mm 46 0 = nI n) (hk : ¬ k < 0) : m_X12_four_b3 v (k, mm) = some (.inl (k + (-8), apM (byM v k) mm)) := by
  unfold m_X12_four_b3
  simp only [hk, if_false, ix0, hl]
  rw [grd_nI hn (by decide)]
  simp only [apM, byM, hl]
  rw [rdI_ne _ _ _ _ (by decide), hl]
theorem apM_len {b : Int32} {mm : Mm} {n : Nat} (hl : mI mm 46 0 = nI n) : mI (apM b mm) 46 0 = nI (n + 1) := by
  unfold apM
  rw [rdI_eq, hl, nI_1]
theorem four_eq {v : Int32} {mm : Mm} {n : Nat} (hn : n + 4 ≤ 2400) (hl : mI mm 46 0 = nI n) : m_X12_four v mm = some (apM (byM v 0) (apM (byM v 8) (apM (byM v 16) (apM (byM v 24) mm)))) := by
  have l1 := apM_len (b := byM v 24) hl
  have l2 := apM_len (b := byM v 16) l1
  have l3 := apM_len (b := byM v 8) l2
  unfold m_X12_four
  have hw : whileF FU (m_X12_four_b3 v) ((24 : Int32), mm) = some (apM (byM v 0) (apM (byM v 8) (apM (byM v 16) (apM (byM v 24) mm)))) := loop_seq (fun i : Nat => match i with
    | 0 => ((24 : Int32), mm)
    | 1 => (16, apM (byM v 24) mm)
    | 2 => (8, apM (byM v 16) (apM (byM v 24) mm))
    | 3 => (0, apM (byM v 8) (apM (byM v 16) (apM (byM v 24) mm)))
    | _ => (-8, apM (byM v 0) (apM (byM v 8) (apM (byM v 16) (apM (byM v 24) mm))))) 4 rfl (FU_big (by decide)) (fun i hi => by
      match i with
      | 0 => exact apM_step (n := n) (by omega) hl (by decide)
      | 1 => exact apM_step (n := n + 1) (by omega) l1 (by decide)
      | 2 => exact apM_step (n := n + 1 + 1) (by omega) l2 (by decide)
      | 3 => exact apM_step (n := n + 1 + 1 + 1) (by omega) l3 (by decide)) (by
      show m_X12_four_b3 v (-8, _) = _
      unfold m_X12_four_b3
      rw [if_pos (show (-8 : Int32) < 0 by decide)])
  rw [hw]
  rfl
theorem sh_low (x : BitVec 32) (t : Nat) (ht : t ≤ 24) : BitVec.signExtend 8 (x >>> t) = BitVec.signExtend 8 (x.sshiftRight t) := by
  apply BitVec.eq_of_getLsbD_eq
  intro i hi
  have h32 : i < 32 := by omega
  have h3 : t + i < 32 := by omega
  have h4 : ¬ 32 ≤ i := by omega
  rw [BitVec.getLsbD_signExtend, BitVec.getLsbD_signExtend, BitVec.getLsbD_ushiftRight, BitVec.getLsbD_sshiftRight]
  simp [h32, h3, h4]
/-- the low byte behind a shift by at most 24 is the same, signed or not -/
theorem by_eq (v : Int32) {k : Int32} (hk : k = 24 ∨ k = 16 ∨ k = 8 ∨ k = 0) : byC v k = byM v k := by
  have h : (xushr v k).toInt8 = (xshr v k).toInt8 := by
    apply Int8.toBitVec_inj.mp
    unfold xushr xshr
    rcases hk with rfl | rfl | rfl | rfl
    · simp
      exact sh_low _ 24 (by decide)
    · simp
      exact sh_low _ 16 (by decide)
    · simp
      exact sh_low _ 8 (by decide)
    · simp
  unfold byC byM
  rw [h]
/-- the tape of both: as long, and alike so far -/
def RT (mm : Mm) : Prop := ∃ n, n ≤ 600 ∧ mI mm 1 1 = nI n ∧ mI mm 46 0 = nI n ∧ ∀ i, i < n → mI mm 2 i = mI mm 45 i ∧ fits .byte (.int (mI mm 2 i)) = true
