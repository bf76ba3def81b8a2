/-! more rules: null, references that may be missing, arraycopy; guards of worlds -/
section MORE
variable {l : Launch} {G : Gt} {M : MI} {d pc : Nat} {L : List (Option V1)} {st : List V1} {S : Sk} {mm : Mm} {r : Option V1} {S' : Sk} {mm' : Mm}
theorem r_ifnull {o : Option Nat} {off : Int} {tgt : Nat} (hd : decode M.2.1 pc = .ok (.ifnull off, 3)) (ht : (pc : Int) + off = (tgt : Int)) (kt : o = none → Run l G M d tgt L st S mm r S' mm') (kf : ∀ c, o = some c → Run l G M d (pc + 3) L st S mm r S' mm') : Run l G M d pc L (vr o :: st) S mm r S' mm' := by
  cases o with
  | none => exact r_ifnull_t hd ht (kt rfl)
  | some c => exact r_ifnull_f hd (kf c rfl)
theorem r_ifnonnull {o : Option Nat} {off : Int} {tgt : Nat} (hd : decode M.2.1 pc = .ok (.ifnonnull off, 3)) (ht : (pc : Int) + off = (tgt : Int)) (kt : ∀ c, o = some c → Run l G M d tgt L st S mm r S' mm') (kf : o = none → Run l G M d (pc + 3) L st S mm r S' mm') : Run l G M d pc L (vr o :: st) S mm r S' mm' := by
  cases o with
  | none => exact r_ifnonnull_f hd (kf rfl)
  | some c => exact r_ifnonnull_t hd ht (kt c rfl)
end MORE
def oM {α : Type} (o : Option Nat) (a : α) (f : Nat → α) : α := match o with
  | none => a
  | some c => f c
theorem oM_none {α : Type} {o : Option Nat} {a r : α} {f : Nat → α} (h : o = none) (e : oM o a f = r) : a = r := by subst h; exact e
theorem oM_some {α : Type} {o : Option Nat} {a r : α} {f : Nat → α} {c : Nat} (h : o = some c) (e : oM o a f = r) : f c = r := by subst h; exact e
def KD (S : Sk) (a c : Nat) : Prop := a < sN S ∧ (sK S a).1 = c
def gk {α : Type} (S : Sk) (a c : Nat) (k : Option α) : Option α := if a < sN S ∧ (sK S a).1 = c then k else none
theorem gk_some {α : Type} {S : Sk} {a c : Nat} {k : Option α} {r : α} (h : gk S a c k = some r) : KD S a c ∧ k = some r := by
  unfold gk at h
  split at h
  · rename_i x
    exact ⟨x, h⟩
  · cases h
noncomputable def gP {α : Type} (P : Prop) (k : Option α) : Option α := @ite _ P (Classical.propDecidable P) k none
theorem gP_some {α : Type} {P : Prop} {k : Option α} {r : α} (h : gP P k = some r) : P ∧ k = some r := by
  unfold gP at h
  split at h
  · rename_i x
    exact ⟨x, h⟩
  · cases h
theorem gP_pos {α : Type} {P : Prop} {k : Option α} (h : P) : gP P k = k := by unfold gP; rw [if_pos h]
def gla {α : Type} (n : Int32) (k : Option α) : Option α := if ¬ n < 0 ∧ n.toNatClampNeg ≤ 60000 then k else none
theorem gla_some {α : Type} {n : Int32} {k : Option α} {r : α} (h : gla n k = some r) : (¬ n < 0 ∧ n.toNatClampNeg ≤ 60000) ∧ k = some r := by
  unfold gla at h
  split at h
  · rename_i x
    exact ⟨x, h⟩
  · cases h
def gE {α : Type} (a b : Nat) (k : Option α) : Option α := if a = b then k else none
theorem gE_some {α : Type} {a b : Nat} {k : Option α} {r : α} (h : gE a b k = some r) : a = b ∧ k = some r := by
  unfold gE at h
  split at h
  · rename_i x
    exact ⟨x, h⟩
  · cases h
theorem kd_new {S : Sk} {k len z : Nat} : KD (nwS S k len z) S.1 k := ⟨by show S.1 < S.1 + 1; omega, by simp [nwS, sK]⟩
theorem kd_nw {S : Sk} {k len z a c : Nat} (h : KD S a c) : KD (nwS S k len z) a c := ⟨by have h0 : a < S.1 := h.1; show a < S.1 + 1; omega, by
  have h1 : a ≠ S.1 := Nat.ne_of_lt h.1
  simp only [nwS, sK, h1, if_false]
  exact h.2⟩
/-- the kinds that objects made later have about them -/
def cLen (j : Nat) : Nat := [6, 6, 6, 8, 8, 12, 12, 12].getD j 0
def At2 (S : Sk) (c : Nat) : Prop := ∀ j, j < 8 → sR S c j = some (c + 1 + j) ∧ c + 1 + j < sN S ∧ sK S (c + 1 + j) = (20, cLen j)
def At6 (S : Sk) (c : Nat) : Prop := sR S c 0 = some (c + 1) ∧ c + 1 < sN S ∧ (sK S (c + 1)).1 = 20
def At9 (S : Sk) (c : Nat) : Prop := (sR S c 0 = some (c + 1) ∧ c + 1 < sN S ∧ sK S (c + 1) = (21, 600)) ∧ (sR S c 4 = some (c + 2) ∧ c + 2 < sN S ∧ sK S (c + 2) = (20, 4)) ∧ (sR S c 5 = some (c + 3) ∧ c + 3 < sN S ∧ sK S (c + 3) = (23, 2)) ∧ (sR S c 6 = some (c + 4) ∧ c + 4 < sN S ∧ sK S (c + 4) = (24, 8))
def SI (S : Sk) : Prop := Lay S ∧ (∀ c, KD S c 2 → At2 S c) ∧ (∀ c, KD S c 6 → At6 S c) ∧ (∀ c, KD S c 9 → At9 S c)
def cpM (mm : Mm) (a sp b dp n : Nat) : Mm := (fun x j => if x = b ∧ dp ≤ j ∧ j < dp + n then mm.1 a (sp + (j - dp)) else mm.1 x j, mm.2)
def cpOK (t n0 n1 : Nat) (sp dp n : Int32) (f : Nat → Int32) : Prop := ¬ sp < 0 ∧ ¬ dp < 0 ∧ ¬ n < 0 ∧ ix sp + ix n ≤ n0 ∧ ix dp + ix n ≤ n1 ∧ ∀ i, i < ix n → fits (aty t) (.int (f (ix sp + i))) = true
theorem cp_w : Cond.native arraycopyName ∈ gtbl ∧ Cond.static arraycopyName ∈ gtbl ∧ Cond.initialized "java/lang/System" ∈ gtbl := ⟨gt_at 642 (by decide +kernel) (by decide +kernel), gt_at 641 (by decide +kernel) (by decide +kernel), gt_in (by decide +kernel) (by decide +kernel)⟩
theorem cp_X6_28 : Cond.methodLink RX6 28 arraycopyName ∈ gtbl := gt_at 640 (by decide +kernel) (by decide +kernel)
theorem cp_X7_55 : Cond.methodLink RX7 55 arraycopyName ∈ gtbl := gt_at 700 (by decide +kernel) (by decide +kernel)
theorem cp_X0_79 : Cond.methodLink RX0 79 arraycopyName ∈ gtbl := gt_at 1100 (by decide +kernel) (by decide +kernel)
theorem cp_X9_54 : Cond.methodLink RX9 54 arraycopyName ∈ gtbl := gt_at 1141 (by decide +kernel) (by decide +kernel)
theorem nat_cl {z : Int32} (hz : ¬ z < 0) : z.toInt = (z.toNatClampNeg : Int) := by
  have hz0 : (0 : Int) ≤ z.toInt := by
    have := Int32.not_lt.mp hz
    simpa using Int32.le_iff_toInt_le.mp this
  show z.toInt = ((z.toInt.toNat : Nat) : Int)
  omega
theorem r_copy {l : Launch} {G : Gt} {M : MI} {d pc : Nat} {L : List (Option V1)} {S : Sk} {mm : Mm} {r : Option V1} {S' : Sk} {mm' : Mm} {idx a b t n0 n1 : Nat} {sp dp n : Int32} {rest : List V1} (hd : decode M.2.1 pc = .ok (.invokestatic idx, 3)) (hml : Cond.methodLink M.1 idx arraycopyName ∈ gtbl) (hpa : a < sN S) (hka : sK S a = (t, n0)) (hpb : b < sN S) (hkb : sK S b = (t, n1)) (ht : 20 ≤ t) (ht2 : t ≤ 21) (ok : cpOK t n0 n1 sp dp n (fun i => mI mm a i)) (hdd : 1 ≤ d) (hrm : (rest.map wd).sum ≤ 8)
    (k : Run l G M d (pc + 3) L rest S (cpM mm a (ix sp) b (ix dp) (ix n)) r S' mm') : Run l G M d pc L (vi n :: vi dp :: vr (some b) :: vi sp :: vr (some a) :: rest) S mm r S' mm' :=
  ⟨k.1, fun p e R s m args below meth c Hr locs cells slots ls F Rp hl lv hdp hlo hc hs => by
    obtain ⟨h1, h2, h3, h4, h5, hfit⟩ := ok
    have F' := F
    obtain ⟨hx, hb, hml', hr, hlocks, hnm, hown, hts, hKS⟩ := F'
    intro T hT X
    have hc0 := rep_arr Rp hpa hka ht
    have hc1 := rep_arr Rp hpb hkb ht
    obtain ⟨-, k0, hk0, cm0, hkk0⟩ := hKS.arr ht (by omega) n0 (fun j => ev G S mm a t j)
    obtain ⟨-, k1, hk1, cm1, hkk1⟩ := hKS.arr ht (by omega) n1 (fun j => ev G S mm b t j)
    have hprim : refKind (aty t) = false := by
      have : t = 20 ∨ t = 21 := by omega
      rcases this with rfl | rfl <;> rfl
    obtain ⟨vm', X', step⟩ := X.arraycopy hx hown (hts _ hml) (hts _ cp_w.1) (hts _ cp_w.2.1) (hts _ cp_w.2.2) (src := G.1 + a) (dst := G.1 + b) (cs := arrV (G.2.2.2.1 t) n0 (fun j => ev G S mm a t j)) (cd := arrV (G.2.2.2.1 t) n1 (fun j => ev G S mm b t j)) (srcPos := sp) (destPos := dp) (n := n) (by rw [hT]; exact hc0) (by rw [hT]; exact hc1)
      (fun _ h => by cases h) (fun _ h => by cases h) (fun h => by cases h) (fun h => by cases h) hk0 hk1 hkk0 hkk1 (by simp [hprim]) h1 h2 h3
      (by rw [nat_cl h1, nat_cl h3, arrV_size]; have : sp.toNatClampNeg + n.toNatClampNeg ≤ n0 := h4; omega)
      (by rw [nat_cl h2, nat_cl h3, arrV_size]; have : dp.toNatClampNeg + n.toNatClampNeg ≤ n1 := h5; omega)
      (fun vm₁ _ i hi => by
        have e : (arrV (G.2.2.2.1 t) n0 (fun j => ev G S mm a t j)).slots.getD (sp.toNatClampNeg + i) .null = .int (mI mm a (sp.toNatClampNeg + i)) := by
          have h6 : sp.toNatClampNeg + n.toNatClampNeg ≤ n0 := h4
          rw [Array.getD_eq_getD_getElem?, arrV_read _ _ (by omega), ev_i (by omega)]
          rfl
        refine ⟨?_, ?_⟩
        · rw [e]
          exact hfit i hi
        · rw [e]
          exact trivial)
      (g := F0 m pc ls ((vi n :: vi dp :: vr (some b) :: vi sp :: vr (some a) :: rest).map (toV G))) rfl (lv.1.trans hml'.symm) (rest := rest.map (toV G)) rfl (by rw [hb]; exact hd) (by omega) (by
        have h7 : ((rest.map (toV G)).map fun v => v.category).sum ≤ 8 := by rw [wd_sum]; exact hrm
        have h8 : nativeFrameWords "java/lang/System" "arraycopy" 5 ≤ 20 := by decide +kernel
        show 2 * 0 + _ + _ ≤ _
        omega)
    have ea : (fun j => ev G S mm a t j) = (fun j => Value.int (mI mm a j)) := funext fun j => ev_i (by omega)
    have eb : (fun j => ev G S mm b t j) = (fun j => Value.int (mI mm b j)) := funext fun j => ev_i (by omega)
    have e1 : copied (arrV (G.2.2.2.1 t) n0 (fun j => ev G S mm a t j)) (arrV (G.2.2.2.1 t) n1 (fun j => ev G S mm b t j)) sp dp n = arrV (G.2.2.2.1 t) n1 (fun j => Value.int (va_cpy (fun j => mI mm a j) (fun j => mI mm b j) sp.toNatClampNeg dp.toNatClampNeg n.toNatClampNeg j)) := by
      rw [ea, eb]
      exact va_copied (fun z => Value.int z) (G.2.2.2.1 t) (G.2.2.2.1 t) (fun j => mI mm a j) (fun j => mI mm b j) h4
    rw [e1] at X' step
    generalize hcell : arrV (G.2.2.2.1 t) n1 (fun j => Value.int (va_cpy (fun j => mI mm a j) (fun j => mI mm b j) sp.toNatClampNeg dp.toNatClampNeg n.toNatClampNeg j)) = cellN at X' step
    have hlt : G.1 + b < Hr.size := (Array.getElem?_eq_some_iff.mp hc1).1
    have hheap : ((T.setVm vm').setCell (G.1 + b) cellN).heap = Hr.setIfInBounds (G.1 + b) cellN := by rw [← hT]; rfl
    have oq : ∀ q : Nat, q ≠ G.1 + b → (Hr.setIfInBounds (G.1 + b) cellN)[q]? = Hr[q]? := fun q hq => by simp [Array.getElem?_setIfInBounds, Ne.symm hq]
    have Rp1 : Rep G S (cpM mm a (ix sp) b (ix dp) (ix n)) (Hr.setIfInBounds (G.1 + b) cellN) := by
      refine rep_upd (S1 := S) Rp rfl (p := b) (c := cellN) (by simp [Array.getElem?_setIfInBounds, hlt]) (by simp) oq ?_ (fun _ _ => rfl) (fun _ _ _ => rfl) (fun x hx j => ?_) (fun _ _ _ => rfl)
      · refine ⟨fun h => ?_, fun _ => ?_⟩
        · rw [hkb] at h
          have h9 : t < 13 := h
          omega
        · rw [hkb, ← hcell]
          show arrV _ _ _ = arrV _ _ _
          congr 1
          funext j
          rw [ev_i (by omega)]
          simp [va_cpy, cpM, mI, ix]
      · simp [cpM, mI, hx]
    obtain ⟨t2, a1, b1⟩ := k.2 p e R s m args below meth c _ _ cells slots ls F Rp1 (fun q hq => by
      rcases List.mem_append.mp hq with h | h
      · exact hl q h
      · obtain ⟨z, -, hz⟩ := List.mem_map.mp h
        rw [← hz]
        exact Nat.le_add_right _ _) lv hdp hlo hc hs _ hheap X'
    exact ⟨t2, step t2 a1, b1⟩⟩
