/-! L1: rules of the heap -/
theorem rep_cell {G : Gt} {S : Sk} {mm : Mm} {Hr : Heap} (h : Rep G S mm Hr) {p : Nat} (hp : p < sN S) : ∃ c, Hr[G.1 + p]? = some c ∧ cellIs G S mm p c := h.2.2 p hp
theorem nf13_of {ci : Nat} {q : vw_C} (h : vwCl[ci]? = some q) : nf13 ci = q.2.2 := by simp [nf13, List.getD, h]
theorem rep_obj {G : Gt} {S : Sk} {mm : Mm} {Hr : Heap} (h : Rep G S mm Hr) {p ci : Nat} (hp : p < sN S) (hk : (sK S p).1 = ci) (hc : ci < 13) {q : vw_C} (hq : vwCl[ci]? = some q) : t_OB (G.1 + p) (G.2.2.1.1 ci) q.2.2 (G.2.2.1.2 ci) Hr (fun j => fv G S mm p ci j) := by
  obtain ⟨c, h1, h2, -⟩ := rep_cell h hp
  subst hk
  obtain ⟨a, b, e⟩ := h2 hc
  exact ⟨c, h1, a, b, fun k hk => e k (by rw [nf13_of hq]; exact hk)⟩
theorem rep_arr {G : Gt} {S : Sk} {mm : Mm} {Hr : Heap} (h : Rep G S mm Hr) {p t n : Nat} (hp : p < sN S) (hk : sK S p = (t, n)) (ht : 20 ≤ t) : Hr[G.1 + p]? = some (arrV (G.2.2.2.1 t) n (fun j => ev G S mm p t j)) := by
  obtain ⟨c, h1, -, h2⟩ := rep_cell h hp
  rw [hk] at h2
  rw [h1, h2 (by show ¬ t < 13; omega)]
theorem cellIs_congr {G : Gt} {S S1 : Sk} {mm m1 : Mm} {p : Nat} {c : Cell} (h : cellIs G S mm p c) (hk : sK S1 p = sK S p) (hr : ∀ j, sR S1 p j = sR S p j) (hi : ∀ j, mI m1 p j = mI mm p j) (hl : ∀ j, mL m1 p j = mL mm p j) : cellIs G S1 m1 p c := by
  unfold cellIs at h ⊢
  rw [hk]
  have e1 : ∀ c j, fv G S1 m1 p c j = fv G S mm p c j := fun c j => by simp only [fv, hr, hi, hl]
  have e2 : ∀ t, (fun j => ev G S1 m1 p t j) = (fun j => ev G S mm p t j) := fun t => by funext j; simp only [ev, hr, hi]
  simp only [e1, e2]
  exact h
/-- one cell changes -/
theorem rep_upd {G : Gt} {S S1 : Sk} {mm m1 : Mm} {Hr H1 : Heap} (h : Rep G S mm Hr) {p : Nat} {c : Cell} (hn : sN S1 = sN S) (hc : H1[G.1 + p]? = some c) (hz : H1.size = Hr.size) (oq : ∀ q, q ≠ G.1 + p → H1[q]? = Hr[q]?) (hcell : cellIs G S1 m1 p c)
    (hk : ∀ a, a ≠ p → sK S1 a = sK S a) (hr : ∀ a, a ≠ p → ∀ j, sR S1 a j = sR S a j) (hi : ∀ a, a ≠ p → ∀ j, mI m1 a j = mI mm a j) (hl : ∀ a, a ≠ p → ∀ j, mL m1 a j = mL mm a j) : Rep G S1 m1 H1 := by
  refine ⟨by rw [hz, hn]; exact h.1, fun q hq => by rw [oq q (by omega)]; exact h.2.1 q hq, fun a ha => ?_⟩
  by_cases e : a = p
  · subst e
    exact ⟨c, hc, hcell⟩
  · obtain ⟨c0, h1, h2⟩ := h.2.2 a (by rw [← hn]; exact ha)
    exact ⟨c0, by rw [oq _ (by omega)]; exact h1, cellIs_congr h2 (hk a e) (hr a e) (hi a e) (hl a e)⟩
/-- one cell comes -/
theorem rep_new {G : Gt} {S : Sk} {mm : Mm} {Hr H1 : Heap} (h : Rep G S mm Hr) {k len size : Nat} {c : Cell} (hc : H1[Hr.size]? = some c) (hz : H1.size = Hr.size + 1) (oq : ∀ q, q < Hr.size → H1[q]? = Hr[q]?) (hcell : cellIs G (nwS S k len size) (nwM S mm) S.1 c) : Rep G (nwS S k len size) (nwM S mm) H1 := by
  have hs := h.1
  refine ⟨by rw [hz, hs]; rfl, fun q hq => by rw [oq q (by omega)]; exact h.2.1 q hq, fun a ha => ?_⟩
  by_cases e : a = S.1
  · subst e
    exact ⟨c, by rw [← hc, hs], hcell⟩
  · have ha' : a < S.1 := by
      have : a < S.1 + 1 := ha
      omega
    obtain ⟨c0, h1, h2⟩ := h.2.2 a ha'
    refine ⟨c0, by rw [oq _ (by rw [hs]; show G.1 + a < G.1 + S.1; omega)]; exact h1, cellIs_congr h2 ?_ ?_ ?_ ?_⟩
    · simp [nwS, sK, sR, e]
    · simp [nwS, sK, sR, e]
    · simp [nwM, mI, mL, e]
    · simp [nwM, mI, mL, e]
/-- a link of the pool to a field: whose, which -/
def FL (own : String) (idx ci k : Nat) : Prop := ci < 13 ∧ ∃ q : vw_C, vwCl[ci]? = some q ∧ k < q.2.2 ∧ Cond.fieldLink own idx (q.2.1 k).1 (q.2.1 k).2.1 (q.2.1 k).2.2.1 ∈ gtbl ∧ (∀ w ∈ u_ws q.1 q.2.1 q.2.2, w ∈ gtbl)
/-- what a store wants of a field: its type, whether final -/
def FT (ci k : Nat) (ty : FieldType) (fin : Bool) : Prop := ∃ q : vw_C, vwCl[ci]? = some q ∧ parseFieldDescriptor (q.2.1 k).2.2.1 = some ty ∧ (q.2.1 k).2.2.2 = fin ∧ ty13 ci k = ty ∧ (∀ j, j < q.2.2 → parseFieldDescriptor (q.2.1 j).2.2.1 = some (ty13 ci j)) ∧ (∀ a, a < q.2.2 → ∀ b, b < q.2.2 → a ≠ b → (q.2.1 a).2.1 ≠ (q.2.1 b).2.1)
section HEAP
variable {l : Launch} {G : Gt} {M : MI} {d pc : Nat} {L : List (Option V1)} {st : List V1} {S : Sk} {mm : Mm} {r : Option V1} {S' : Sk} {mm' : Mm}
theorem w_get {p : Program} {e : Env} {R : Room} {s : State} {m : MethodId} {args : Array Value} {below : List Frame} {meth : Method} {c : Code} {Hr : Heap} {locs : List Loc} {cells slots : Nat} {Q : State → Prop} {ls : Array Slot} {rest : List Value} {idx ci k a : Nat}
    (F : Fr G M p s m args meth c) (Rp : Rep G S mm Hr) (hd : decode M.2.1 pc = .ok (.getfield idx, 3)) (hf : FL M.1 idx ci k) (hp : a < sN S) (hk : (sK S a).1 = ci)
    (kk : W p l e R s m args below meth c Hr locs cells slots Q (F0 m (pc + 3) ls (fv G S mm a ci k :: rest))) : W p l e R s m args below meth c Hr locs cells slots Q (F0 m pc ls (.ref (G.1 + a) :: rest)) := by
  obtain ⟨hci, q, hq, hkq, hlink, hin⟩ := hf
  obtain ⟨hx, hb, hml, hr, hlocks, hnm, hown, hts, hKS⟩ := F
  obtain ⟨cell, q1, q2, q3, q4⟩ := rep_obj Rp hp hk hci hq
  obtain ⟨hS, hfc, kC, hkC, hkind⟩ := hKS.1.1 ci _ hq
  obtain ⟨cf, kf, fi, f, hi, hsl⟩ := hS k hkq
  exact W.getf hx hb hown (hts _ hlink) hi (u_facts hfc hkC (u_lays hts hin hkq) hi).1 q1 (by rw [q3]; exact fun h => by cases h) (v := fv G S mm a ci k) (by rw [hsl, q4 k hkq]) rfl rfl hd kk
theorem r_getI {idx ci k a : Nat} (hd : decode M.2.1 pc = .ok (.getfield idx, 3)) (hf : FL M.1 idx ci k) (ht : ftk (ty13 ci k) = 0) (hp : a < sN S) (hk : (sK S a).1 = ci) (kk : Run l G M d (pc + 3) L (vi (mI mm a k) :: st) S mm r S' mm') : Run l G M d pc L (vr (some a) :: st) S mm r S' mm' :=
  ⟨kk.1, fun p e R s m args below meth c Hr locs cells slots ls F Rp hl lv hdp hlo hc hs => w_get F Rp hd hf hp hk (by
    have e : fv G S mm a ci k = .int (mI mm a k) := by simp only [fv, ht]
    rw [e]
    exact kk.2 p _ R s m args below meth c Hr locs cells slots ls F Rp hl lv hdp hlo hc hs)⟩
theorem r_getR {idx ci k a : Nat} {o : Option Nat} (hd : decode M.2.1 pc = .ok (.getfield idx, 3)) (hf : FL M.1 idx ci k) (ht : ftk (ty13 ci k) = 1) (hp : a < sN S) (hk : (sK S a).1 = ci) (ho : sR S a k = o) (kk : Run l G M d (pc + 3) L (vr o :: st) S mm r S' mm') : Run l G M d pc L (vr (some a) :: st) S mm r S' mm' :=
  ⟨kk.1, fun p e R s m args below meth c Hr locs cells slots ls F Rp hl lv hdp hlo hc hs => w_get F Rp hd hf hp hk (by
    have e : fv G S mm a ci k = rv G.1 o := by simp only [fv, ht, ho]
    rw [e]
    exact kk.2 p _ R s m args below meth c Hr locs cells slots ls F Rp hl lv hdp hlo hc hs)⟩
theorem r_getL {idx ci k a : Nat} (hd : decode M.2.1 pc = .ok (.getfield idx, 3)) (hf : FL M.1 idx ci k) (ht : ftk (ty13 ci k) = 2) (hp : a < sN S) (hk : (sK S a).1 = ci) (kk : Run l G M d (pc + 3) L (vl (mL mm a k) :: st) S mm r S' mm') : Run l G M d pc L (vr (some a) :: st) S mm r S' mm' :=
  ⟨kk.1, fun p e R s m args below meth c Hr locs cells slots ls F Rp hl lv hdp hlo hc hs => w_get F Rp hd hf hp hk (by
    have e : fv G S mm a ci k = .long (mL mm a k) := by simp only [fv, ht]
    rw [e]
    exact kk.2 p _ R s m args below meth c Hr locs cells slots ls F Rp hl lv hdp hlo hc hs)⟩
theorem w_put {p : Program} {e : Env} {R : Room} {s : State} {m : MethodId} {args : Array Value} {below : List Frame} {meth : Method} {c : Code} {Hr : Heap} {locs : List Loc} {cells slots : Nat} {Q : State → Prop} {ls : Array Slot} {rest : List Value} {idx ci k a : Nat} {v : Value} {ty : FieldType} {fin : Bool} {S1 : Sk} {m1 : Mm}
    (F : Fr G M p s m args meth c) (Rp : Rep G S mm Hr) (hl : ∀ q ∈ locs, G.1 ≤ q.base) (hd : decode M.2.1 pc = .ok (.putfield idx, 3)) (hf : FL M.1 idx ci k) (hft : FT ci k ty fin) (hfin : fin = false ∨ (M.2.2.2.2 = "<init>" ∧ ∀ q : vw_C, vwCl[ci]? = some q → (q.2.1 k).1 = M.1)) (hp : a < sN S) (hk : (sK S a).1 = ci) (hn : narrow ty v = v) (hfit : fits ty v = true)
    (hn1 : sN S1 = sN S) (hka : sK S1 = sK S) (hr1 : ∀ b, b ≠ a → ∀ j, sR S1 b j = sR S b j) (hi1 : ∀ b, b ≠ a → ∀ j, mI m1 b j = mI mm b j) (hl1 : ∀ b, b ≠ a → ∀ j, mL m1 b j = mL mm b j) (hv : ∀ j, fv G S1 m1 a ci j = updV (fun j => fv G S mm a ci j) k v j)
    (kk : ∀ (H1 : Heap) (locs1 : List Loc), Rep G S1 m1 H1 → (∀ q ∈ locs1, G.1 ≤ q.base) → W p l e R s m args below meth c H1 locs1 cells slots Q (F0 m (pc + 3) ls rest)) : W p l e R s m args below meth c Hr locs cells slots Q (F0 m pc ls (v :: .ref (G.1 + a) :: rest)) := by
  obtain ⟨hci, q, hq, hkq, hlink, hin⟩ := hf
  obtain ⟨q', hq', hpd, hfn, -, hty, hnmq⟩ := hft
  cases hq.symm.trans hq'
  obtain ⟨hx, hb, hml, hr, hlocks, hnm, hown, hts, hKS⟩ := F
  obtain ⟨cell, q1, q2, q3, q4⟩ := rep_obj Rp hp hk hci hq
  have hap := va_apart (own := M.1) hts hin (ty13 ci) hty hnmq hKS.1 hq
  obtain ⟨hS, hfc, kC, hkC, hkind⟩ := hKS.1.1 ci _ hq
  obtain ⟨cf, kf, fi, f, hi, hsl⟩ := hS k hkq
  have hst := (u_facts hfc hkC (u_lays hts hin hkq) hi).1
  have fin2 : ∀ H' : Heap, H'[G.1 + a]? = some (cell.setSlot f.slot v) → H'.size = Hr.size → (∀ q, q ≠ G.1 + a → H'[q]? = Hr[q]?) → W p l e R s m args below meth c H' (locs ++ [⟨G.1 + a, f.slot⟩]) cells slots Q (F0 m (pc + 3) ls rest) := by
    intro H' e1 e2 e3
    refine kk H' _ (rep_upd Rp hn1 e1 e2 e3 ?_ (fun b _ => by rw [hka]) hr1 hi1 hl1) (fun x hx => ?_)
    · refine ⟨fun h => ?_, fun h => absurd (by rw [hka, hk]; exact hci) h⟩
      rw [hka, hk]
      refine ⟨q2, q3, fun j hj => ?_⟩
      rw [hv j, hsl]
      exact t_set q4 hap hkq v j (by rw [← nf13_of hq]; rw [hka, hk] at h; exact hj)
    · rcases List.mem_append.mp hx with h | h
      · exact hl x h
      · rw [List.mem_singleton.mp h]
        exact Nat.le_add_right _ _
  have hlay := hts _ (hin _ (u_in_lay hkq))
  unfold u_lay at hlay
  rcases hfin with hfin | ⟨hfin, hdecl⟩
  · rw [hfin] at hfn
    rw [if_neg (by rw [hfn]; decide)] at hlay
    have h6 := u_store hfc hkC hkind hlay hi hpd hn hfit
    exact W.putK hx hb (f := f) ⟨hown, hts _ hlink, ⟨_, _, _, hi⟩, hst⟩ (by rw [q2]; exact h6) q1 q3 (by rw [hsl]; exact k2_hasslot (q4 k hkq)) rfl rfl hd fin2
  · by_cases hfb : (q.2.1 k).2.2.2 = true
    · rw [if_pos hfb] at hlay
      have hcf : m.cls = cf := by
        obtain ⟨_, _, c', _, _, _, -, -, hf', -, -, -, hown2, -⟩ := Cond.laysFinal_spec hlay
        have e1 : c' = cf := by have := hi.symm.trans hf'; simp at this; exact this.1.symm
        rw [hdecl q hq] at hown2
        rw [← e1]; exact Option.some.inj (hown.symm.trans hown2)
      have h6 := u_fits hfc hkC hkind (Or.inr hlay) hi hpd hn hfit
      exact W.putFinK hx hb hown (hts _ hlink) hi hst hcf (hnm.trans hfin) (by rw [q2]; exact h6) q1 q3 (by rw [hsl]; exact k2_hasslot (q4 k hkq)) rfl rfl hd fin2
    · rw [if_neg hfb] at hlay
      have h6 := u_store hfc hkC hkind hlay hi hpd hn hfit
      exact W.putK hx hb (f := f) ⟨hown, hts _ hlink, ⟨_, _, _, hi⟩, hst⟩ (by rw [q2]; exact h6) q1 q3 (by rw [hsl]; exact k2_hasslot (q4 k hkq)) rfl rfl hd fin2
/-- whether the store may be: no final field, or in the constructor of its class -/
def MayPut (M : MI) (ci k : Nat) (fin : Bool) : Prop := fin = false ∨ (M.2.2.2.2 = "<init>" ∧ ∀ q : vw_C, vwCl[ci]? = some q → (q.2.1 k).1 = M.1)
theorem r_putI {idx ci k a : Nat} {x : Int32} {ty : FieldType} {fin : Bool} (hd : decode M.2.1 pc = .ok (.putfield idx, 3)) (hf : FL M.1 idx ci k) (hft : FT ci k ty fin) (hfin : MayPut M ci k fin) (ht : ftk ty = 0) (hn : narrow ty (.int x) = .int x) (hfit : fits ty (.int x) = true) (hp : a < sN S) (hk : (sK S a).1 = ci) (kk : Run l G M d (pc + 3) L st S (sI mm a k x) r S' mm') : Run l G M d pc L (vi x :: vr (some a) :: st) S mm r S' mm' :=
  ⟨kk.1, fun p e R s m args below meth c Hr locs cells slots ls F Rp hl lv hdp hlo hc hs => w_put (v := .int x) (S1 := S) (m1 := sI mm a k x) F Rp hl hd hf hft hfin hp hk hn hfit rfl rfl (fun _ _ _ => rfl) (fun b hb j => up2_ne _ _ (fun h => hb h.1)) (fun _ _ _ => rfl)
    (fun j => by
      obtain ⟨q, hq, -, -, h3, -⟩ := hft
      by_cases e : j = k
      · subst e
        simp [fv, h3, ht, updV, sI, mI, up2_self]
      · simp [fv, updV, e, sI, mI, up2_ne])
    (fun H1 locs1 Rp1 hl1 => kk.2 p _ R s m args below meth c H1 locs1 cells slots ls F Rp1 hl1 lv hdp hlo hc hs)⟩
theorem r_putL {idx ci k a : Nat} {x : Int64} (hd : decode M.2.1 pc = .ok (.putfield idx, 3)) (hf : FL M.1 idx ci k) (hft : FT ci k .long false) (hp : a < sN S) (hk : (sK S a).1 = ci) (kk : Run l G M d (pc + 3) L st S (sL mm a k x) r S' mm') : Run l G M d pc L (vl x :: vr (some a) :: st) S mm r S' mm' :=
  ⟨kk.1, fun p e R s m args below meth c Hr locs cells slots ls F Rp hl lv hdp hlo hc hs => w_put (v := .long x) (S1 := S) (m1 := sL mm a k x) F Rp hl hd hf hft (Or.inl rfl) hp hk rfl rfl rfl rfl (fun _ _ _ => rfl) (fun _ _ _ => rfl) (fun b hb j => up2_ne _ _ (fun h => hb h.1))
    (fun j => by
      obtain ⟨q, hq, -, -, h3, -⟩ := hft
      by_cases e : j = k
      · subst e
        simp [fv, h3, ftk, updV, sL, mL, up2_self]
      · simp [fv, updV, e, sL, mL, up2_ne])
    (fun H1 locs1 Rp1 hl1 => kk.2 p _ R s m args below meth c H1 locs1 cells slots ls F Rp1 hl1 lv hdp hlo hc hs)⟩
theorem r_putR {idx ci k a : Nat} {o : Option Nat} {ty : FieldType} {fin : Bool} (hd : decode M.2.1 pc = .ok (.putfield idx, 3)) (hf : FL M.1 idx ci k) (hft : FT ci k ty fin) (hfin : MayPut M ci k fin) (ht : ftk ty = 1) (hp : a < sN S) (hk : (sK S a).1 = ci) (kk : Run l G M d (pc + 3) L st (sRs S a k o) mm r S' mm') : Run l G M d pc L (vr o :: vr (some a) :: st) S mm r S' mm' :=
  ⟨kk.1, fun p e R s m args below meth c Hr locs cells slots ls F Rp hl lv hdp hlo hc hs => w_put (v := rv G.1 o) (S1 := sRs S a k o) (m1 := mm) F Rp hl hd hf hft hfin hp hk (by cases ty <;> simp [ftk] at ht <;> cases o <;> rfl) (by cases ty <;> simp [ftk] at ht <;> cases o <;> rfl) rfl rfl (fun b hb j => up2_ne _ _ (fun h => hb h.1)) (fun _ _ _ => rfl) (fun _ _ _ => rfl)
    (fun j => by
      obtain ⟨q, hq, -, -, h3, -⟩ := hft
      by_cases e : j = k
      · subst e
        simp [fv, h3, ht, updV, sRs, sR, up2_self]
      · simp [fv, updV, e, sRs, sR, up2_ne])
    (fun H1 locs1 Rp1 hl1 => kk.2 p _ R s m args below meth c H1 locs1 cells slots ls F Rp1 hl1 lv hdp hlo hc hs)⟩
end HEAP
