/-! L1: arrays, new objects, calls, ends -/
theorem ev_i {G : Gt} {S : Sk} {mm : Mm} {p t j : Nat} (h : t < 23) : ev G S mm p t j = .int (mI mm p j) := by simp [ev, h]
theorem ev_r {G : Gt} {S : Sk} {mm : Mm} {p t j : Nat} (h : 23 ≤ t) : ev G S mm p t j = rv G.1 (sR S p j) := by simp [ev]; intro h2; omega
section ARR
variable {l : Launch} {G : Gt} {M : MI} {d pc : Nat} {L : List (Option V1)} {st : List V1} {S : Sk} {mm : Mm} {r : Option V1} {S' : Sk} {mm' : Mm}
theorem KS.arr {s : State} (h : KS G s) {t : Nat} (h1 : 20 ≤ t) (h2 : t ≤ 25) (n : Nat) (z : Nat → Value) : s.isArrayOf (arrV (G.2.2.2.1 t) n z) (aty t) := (h.2.1 t h1 h2).1 n z
theorem r_iald {a n : Nat} {i : Int32} (hd : decode M.2.1 pc = .ok (.iaload, 1)) (hp : a < sN S) (hk : sK S a = (20, n)) (hin : vp_in i n) (kk : Run l G M d (pc + 1) L (vi (mI mm a (ix i)) :: st) S mm r S' mm') : Run l G M d pc L (vi i :: vr (some a) :: st) S mm r S' mm' :=
  ⟨kk.1, fun p e R s m args below meth c Hr locs cells slots ls F Rp hl lv hdp hlo hc hs => by
    have hlt : i.toNatClampNeg < n := Nat.not_le.mp fun q => hin (Or.inr q)
    refine W.iald (v := .int (mI mm a (ix i))) F.1 F.2.1 (rep_arr Rp hp hk (by omega)) (F.2.2.2.2.2.2.2.2.arr (t := 20) (by omega) (by omega) n _) (fun q => by cases q) (by show ¬ (i < 0 ∨ (arrV _ _ _).slots.size ≤ _); rw [arrV_size]; exact hin) (by show (arrV _ _ _).slots[_]? = _; rw [arrV_read _ _ hlt, ev_i (by omega)]; rfl) rfl rfl hd ?_
    exact kk.2 p _ R s m args below meth c Hr locs cells slots ls F Rp hl lv hdp hlo hc hs⟩
theorem r_bald {a n : Nat} {i : Int32} (hd : decode M.2.1 pc = .ok (.baload, 1)) (hp : a < sN S) (hk : sK S a = (21, n)) (hin : vp_in i n) (kk : Run l G M d (pc + 1) L (vi (mI mm a (ix i)) :: st) S mm r S' mm') : Run l G M d pc L (vi i :: vr (some a) :: st) S mm r S' mm' :=
  ⟨kk.1, fun p e R s m args below meth c Hr locs cells slots ls F Rp hl lv hdp hlo hc hs => by
    have hlt : i.toNatClampNeg < n := Nat.not_le.mp fun q => hin (Or.inr q)
    refine W.bald (v := .int (mI mm a (ix i))) F.1 F.2.1 (rep_arr Rp hp hk (by omega)) (F.2.2.2.2.2.2.2.2.arr (t := 21) (by omega) (by omega) n _) (fun q => by cases q) (by show ¬ (i < 0 ∨ (arrV _ _ _).slots.size ≤ _); rw [arrV_size]; exact hin) (by show (arrV _ _ _).slots[_]? = _; rw [arrV_read _ _ hlt, ev_i (by omega)]; rfl) rfl rfl hd ?_
    exact kk.2 p _ R s m args below meth c Hr locs cells slots ls F Rp hl lv hdp hlo hc hs⟩
theorem r_zald {a n : Nat} {i : Int32} (hd : decode M.2.1 pc = .ok (.baload, 1)) (hp : a < sN S) (hk : sK S a = (22, n)) (hin : vp_in i n) (kk : Run l G M d (pc + 1) L (vi (mI mm a (ix i)) :: st) S mm r S' mm') : Run l G M d pc L (vi i :: vr (some a) :: st) S mm r S' mm' :=
  ⟨kk.1, fun p e R s m args below meth c Hr locs cells slots ls F Rp hl lv hdp hlo hc hs => by
    have hlt : i.toNatClampNeg < n := Nat.not_le.mp fun q => hin (Or.inr q)
    refine W.zald (v := .int (mI mm a (ix i))) F.1 F.2.1 (rep_arr Rp hp hk (by omega)) (F.2.2.2.2.2.2.2.2.arr (t := 22) (by omega) (by omega) n _) (fun q => by cases q) (by show ¬ (i < 0 ∨ (arrV _ _ _).slots.size ≤ _); rw [arrV_size]; exact hin) (by show (arrV _ _ _).slots[_]? = _; rw [arrV_read _ _ hlt, ev_i (by omega)]; rfl) rfl rfl hd ?_
    exact kk.2 p _ R s m args below meth c Hr locs cells slots ls F Rp hl lv hdp hlo hc hs⟩
theorem aty_ref {t : Nat} (h : 23 ≤ t) : (aty t).isReference = true ∧ ∃ C, aty t = .object C := by
  unfold aty
  split <;> first | omega | exact ⟨rfl, _, rfl⟩
theorem r_aald {a t n : Nat} {i : Int32} {o : Option Nat} (hd : decode M.2.1 pc = .ok (.aaload, 1)) (hp : a < sN S) (hk : sK S a = (t, n)) (h1 : 23 ≤ t) (h2 : t ≤ 25) (hin : vp_in i n) (ho : sR S a (ix i) = o) (kk : Run l G M d (pc + 1) L (vr o :: st) S mm r S' mm') : Run l G M d pc L (vi i :: vr (some a) :: st) S mm r S' mm' :=
  ⟨kk.1, fun p e R s m args below meth c Hr locs cells slots ls F Rp hl lv hdp hlo hc hs => by
    have hlt : i.toNatClampNeg < n := Nat.not_le.mp fun q => hin (Or.inr q)
    refine W.aald (v := rv G.1 o) (ty := aty t) F.1 F.2.1 (rep_arr Rp hp hk (by omega)) (F.2.2.2.2.2.2.2.2.arr (by omega) h2 n _) (aty_ref h1).1 (fun q => by cases q) (by show ¬ (i < 0 ∨ (arrV _ _ _).slots.size ≤ _); rw [arrV_size]; exact hin) (by show (arrV _ _ _).slots[_]? = _; rw [arrV_read _ _ hlt, ev_r h1, ← ho]; rfl) rfl rfl hd ?_
    exact kk.2 p _ R s m args below meth c Hr locs cells slots ls F Rp hl lv hdp hlo hc hs⟩
theorem r_alen {a t n : Nat} {v : Int32} (hd : decode M.2.1 pc = .ok (.arraylength, 1)) (hp : a < sN S) (hk : sK S a = (t, n)) (h1 : 20 ≤ t) (h2 : t ≤ 25) (hv : Int32.ofNat n = v) (kk : Run l G M d (pc + 1) L (vi v :: st) S mm r S' mm') : Run l G M d pc L (vr (some a) :: st) S mm r S' mm' :=
  ⟨kk.1, fun p e R s m args below meth c Hr locs cells slots ls F Rp hl lv hdp hlo hc hs => by
    refine W.alen (n := v) F.1 F.2.1 (rep_arr Rp hp hk h1) (F.2.2.2.2.2.2.2.2.arr h1 h2 n _) (by rw [arrV_size]; exact hv) rfl rfl hd ?_
    exact kk.2 p _ R s m args below meth c Hr locs cells slots ls F Rp hl lv hdp hlo hc hs⟩
/-- an element changes -/
theorem rep_ast {Hr H1 : Heap} (Rp : Rep G S mm Hr) {a t n i : Nat} {v : Value} {S1 : Sk} {m1 : Mm} (hp : a < sN S) (hk : sK S a = (t, n)) (ht : 20 ≤ t) (hn1 : sN S1 = sN S) (hka : sK S1 = sK S) (hr1 : ∀ b, b ≠ a → ∀ j, sR S1 b j = sR S b j) (hi1 : ∀ b, b ≠ a → ∀ j, mI m1 b j = mI mm b j) (hl1 : ∀ b, b ≠ a → ∀ j, mL m1 b j = mL mm b j) (hv : ∀ j, ev G S1 m1 a t j = updV (fun j => ev G S mm a t j) i v j)
    (e : H1[G.1 + a]? = some ((arrV (G.2.2.2.1 t) n (fun j => ev G S mm a t j)).setSlot i v)) (z : H1.size = Hr.size) (oq : ∀ q, q ≠ G.1 + a → H1[q]? = Hr[q]?) : Rep G S1 m1 H1 := by
  refine rep_upd Rp hn1 e z oq ?_ (fun b _ => by rw [hka]) hr1 hi1 hl1
  refine ⟨fun h => ?_, fun _ => ?_⟩
  · rw [hka, hk] at h
    have h2 : t < 13 := h
    omega
  · rw [hka, hk, arrV_store]
    congr 1
    funext j
    rw [← hv j]
theorem locs_add {locs : List Loc} (hl : ∀ q ∈ locs, G.1 ≤ q.base) (a k : Nat) : ∀ q ∈ locs ++ [(⟨G.1 + a, k⟩ : Loc)], G.1 ≤ q.base := by
  intro x hx
  rcases List.mem_append.mp hx with h | h
  · exact hl x h
  · rw [List.mem_singleton.mp h]
    exact Nat.le_add_right _ _
theorem r_iast {a n : Nat} {i x : Int32} (hd : decode M.2.1 pc = .ok (.iastore, 1)) (hp : a < sN S) (hk : sK S a = (20, n)) (hin : vp_in i n) (kk : Run l G M d (pc + 1) L st S (sI mm a (ix i) x) r S' mm') : Run l G M d pc L (vi x :: vi i :: vr (some a) :: st) S mm r S' mm' :=
  ⟨kk.1, fun p e R s m args below meth c Hr locs cells slots ls F Rp hl lv hdp hlo hc hs => by
    refine W.iast F.1 F.2.1 (rep_arr Rp hp hk (by omega)) (F.2.2.2.2.2.2.2.2.arr (t := 20) (by omega) (by omega) n _) (fun q => by cases q) (by show ¬ (i < 0 ∨ (arrV _ _ _).slots.size ≤ _); rw [arrV_size]; exact hin) rfl rfl hd fun H1 e z oq => ?_
    refine kk.2 p _ R s m args below meth c H1 _ cells slots ls F (rep_ast (S1 := S) (m1 := sI mm a (ix i) x) Rp hp hk (by omega) rfl rfl (fun _ _ _ => rfl) (fun b hb j => up2_ne _ _ (fun h => hb h.1)) (fun _ _ _ => rfl) (fun j => ?_) e z oq) (locs_add hl _ _) lv hdp hlo hc hs
    rw [ev_i (by omega)]
    simp only [updV]
    split
    · rename_i h
      rw [h]
      simp only [sI, mI]
      exact congrArg _ (up2_self _ _ _ _)
    · rename_i h
      rw [ev_i (by omega)]
      simp only [sI, mI]
      exact congrArg _ (up2_ne _ _ (fun q => h q.2))⟩
theorem nar_eq (ty : FieldType) (h : ty = .byte ∨ ty = .boolean) (x : Int32) : narrow ty (.int x) = .int (vp_nar ty x) := by
  rcases h with rfl | rfl <;> rfl
theorem r_bast {a n : Nat} {i x : Int32} (hd : decode M.2.1 pc = .ok (.bastore, 1)) (hp : a < sN S) (hk : sK S a = (21, n)) (hin : vp_in i n) (kk : Run l G M d (pc + 1) L st S (sI mm a (ix i) (vp_nar .byte x)) r S' mm') : Run l G M d pc L (vi x :: vi i :: vr (some a) :: st) S mm r S' mm' :=
  ⟨kk.1, fun p e R s m args below meth c Hr locs cells slots ls F Rp hl lv hdp hlo hc hs => by
    refine W.bast F.1 F.2.1 (rep_arr Rp hp hk (by omega)) (F.2.2.2.2.2.2.2.2.arr (t := 21) (by omega) (by omega) n _) (fun q => by cases q) (by show ¬ (i < 0 ∨ (arrV _ _ _).slots.size ≤ _); rw [arrV_size]; exact hin) rfl rfl hd fun H1 e z oq => ?_
    refine kk.2 p _ R s m args below meth c H1 _ cells slots ls F (rep_ast (S1 := S) (m1 := sI mm a (ix i) (vp_nar .byte x)) Rp hp hk (by omega) rfl rfl (fun _ _ _ => rfl) (fun b hb j => up2_ne _ _ (fun h => hb h.1)) (fun _ _ _ => rfl) (fun j => ?_) e z oq) (locs_add hl _ _) lv hdp hlo hc hs
    rw [ev_i (by omega)]
    simp only [updV]
    split
    · rename_i h
      rw [h, nar_eq _ (Or.inl rfl)]
      simp only [sI, mI]
      exact congrArg _ (up2_self _ _ _ _)
    · rename_i h
      rw [ev_i (by omega)]
      simp only [sI, mI]
      exact congrArg _ (up2_ne _ _ (fun q => h q.2))⟩
theorem r_zast {a n : Nat} {i x : Int32} (hd : decode M.2.1 pc = .ok (.bastore, 1)) (hp : a < sN S) (hk : sK S a = (22, n)) (hin : vp_in i n) (kk : Run l G M d (pc + 1) L st S (sI mm a (ix i) (vp_nar .boolean x)) r S' mm') : Run l G M d pc L (vi x :: vi i :: vr (some a) :: st) S mm r S' mm' :=
  ⟨kk.1, fun p e R s m args below meth c Hr locs cells slots ls F Rp hl lv hdp hlo hc hs => by
    refine W.zast F.1 F.2.1 (rep_arr Rp hp hk (by omega)) (F.2.2.2.2.2.2.2.2.arr (t := 22) (by omega) (by omega) n _) (fun q => by cases q) (by show ¬ (i < 0 ∨ (arrV _ _ _).slots.size ≤ _); rw [arrV_size]; exact hin) rfl rfl hd fun H1 e z oq => ?_
    refine kk.2 p _ R s m args below meth c H1 _ cells slots ls F (rep_ast (S1 := S) (m1 := sI mm a (ix i) (vp_nar .boolean x)) Rp hp hk (by omega) rfl rfl (fun _ _ _ => rfl) (fun b hb j => up2_ne _ _ (fun h => hb h.1)) (fun _ _ _ => rfl) (fun j => ?_) e z oq) (locs_add hl _ _) lv hdp hlo hc hs
    rw [ev_i (by omega)]
    simp only [updV]
    split
    · rename_i h
      rw [h, nar_eq _ (Or.inr rfl)]
      simp only [sI, mI]
      exact congrArg _ (up2_self _ _ _ _)
    · rename_i h
      rw [ev_i (by omega)]
      simp only [sI, mI]
      exact congrArg _ (up2_ne _ _ (fun q => h q.2))⟩
/-- the class whose objects an array of references holds -/
def acl : Nat → Nat := fun t => match t with
  | 23 => 2
  | 24 => 6
  | _ => 9
theorem aty_acl {t : Nat} (h1 : 23 ≤ t) (h2 : t ≤ 25) : ∃ q, vwCl[acl t]? = some q ∧ aty t = .object q.1 ∧ acl t < 13 := by
  have : t = 23 ∨ t = 24 ∨ t = 25 := by omega
  rcases this with rfl | rfl | rfl
  · exact ⟨_, rfl, rfl, by decide⟩
  · exact ⟨_, rfl, rfl, by decide⟩
  · exact ⟨_, rfl, rfl, by decide⟩
theorem r_aast {a t n : Nat} {i : Int32} {o : Option Nat} (hd : decode M.2.1 pc = .ok (.aastore, 1)) (hp : a < sN S) (hk : sK S a = (t, n)) (h1 : 23 ≤ t) (h2 : t ≤ 25) (hin : vp_in i n) (ho : ∀ v, o = some v → v < sN S ∧ (sK S v).1 = acl t) (kk : Run l G M d (pc + 1) L st (sRs S a (ix i) o) mm r S' mm') : Run l G M d pc L (vr o :: vi i :: vr (some a) :: st) S mm r S' mm' :=
  ⟨kk.1, fun p e R s m args below meth c Hr locs cells slots ls F Rp hl lv hdp hlo hc hs => by
    have hlt : i.toNatClampNeg < n := Nat.not_le.mp fun q => hin (Or.inr q)
    have h0 : ¬ i < 0 := fun q => hin (Or.inl q)
    obtain ⟨hx, hb, hml, hr, hlocks, hnm, hown, hts, hKS⟩ := F
    obtain ⟨q, hq, hat, hac⟩ := aty_acl h1 h2
    have hA := (hKS.2.1 t (by omega) h2)
    rw [hat] at hA
    have fin : ∀ H1 : Heap, H1[G.1 + a]? = some ((arrV (G.2.2.2.1 t) n (fun j => ev G S mm a t j)).setSlot i.toNatClampNeg (rv G.1 o)) → H1.size = Hr.size → (∀ q, q ≠ G.1 + a → H1[q]? = Hr[q]?) → Rep G (sRs S a (ix i) o) mm H1 := by
      intro H1 e z oq
      refine rep_ast (S1 := sRs S a (ix i) o) (m1 := mm) Rp hp hk (by omega) rfl rfl (fun b hb j => up2_ne _ _ (fun h => hb h.1)) (fun _ _ _ => rfl) (fun _ _ _ => rfl) (fun j => ?_) e z oq
      rw [ev_r h1]
      simp only [updV]
      split
      · rename_i h
        rw [h]
        simp only [sRs, sR]
        exact congrArg _ (up2_self _ _ _ _)
      · rename_i h
        rw [ev_r h1]
        simp only [sRs, sR]
        exact congrArg _ (up2_ne _ _ (fun q => h q.2))
    cases o with
    | none =>
      refine va_WaastN (C := q.1) hx hb (rep_arr Rp hp hk (by omega)) (hA.1 n _) (fun h => by cases h) (by show ¬ (i < 0 ∨ (arrV _ _ _).slots.size ≤ _); rw [arrV_size]; exact hin) rfl rfl hd fun H1 e z oq => ?_
      exact kk.2 p _ R s m args below meth c H1 _ cells slots ls ⟨hx, hb, hml, hr, hlocks, hnm, hown, hts, hKS⟩ (fin H1 e z oq) (locs_add hl _ _) lv hdp hlo hc hs
    | some v =>
      obtain ⟨hv1, hv2⟩ := ho v rfl
      obtain ⟨cellV, g1, g2, g3, -⟩ := rep_obj Rp hv1 hv2 hac hq
      have hcls := (hKS.1.1 _ q hq).2
      obtain ⟨kA, comp, k1, k2, k3, -⟩ := hA.2
      have hcomp : comp = G.2.2.1.1 (acl t) := Option.some.inj (k3.symm.trans hcls.1)
      subst hcomp
      obtain ⟨kC, hkC, -⟩ := hcls.2
      refine W.aast hx hb (rep_arr Rp hp hk (by omega)) (fun q h => by cases h) (fun h => by cases h) k1 k2 rfl hkC ⟨h0, by show _ < (arrV _ _ _).slots.size; rw [arrV_size]; exact hlt⟩ g1 (fun q h => by rw [g3] at h; cases h) (by rw [g2]; exact hkC) (by rw [g2]; exact va_assign hcls) rfl rfl hd fun H1 e z oq => ?_
      exact kk.2 p _ R s m args below meth c H1 _ cells slots ls ⟨hx, hb, hml, hr, hlocks, hnm, hown, hts, hKS⟩ (fin H1 e z oq) (locs_add hl _ _) lv hdp hlo hc hs⟩
end ARR
