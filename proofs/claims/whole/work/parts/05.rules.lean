def xshl (x y : Int32) : Int32 := x <<< (y &&& 31)
def xshr (x y : Int32) : Int32 := x >>> (y &&& 31)
def xushr (x y : Int32) : Int32 := (x.toUInt32 >>> (y.toUInt32 &&& Int32.toUInt32 31)).toInt32
def xrem (x y : Int32) : Int32 := x - x / y * y
def xlshl (x : Int64) (y : Int32) : Int64 := x <<< (y.toInt64 &&& 63)
def ix (i : Int32) : Nat := i.toNatClampNeg
theorem toV_cat (G : Gt) (v : V1) : (toV G v).category = if cat1 v = true then 1 else 2 := by
  rcases v with x | y | o | n
  · rfl
  · rfl
  · cases o <;> rfl
  · rfl
theorem toV_cat1 {G : Gt} {v : V1} (h : cat1 v = true) : (toV G v).category = 1 := by rw [toV_cat, if_pos h]
theorem toV_cat2 {G : Gt} {v : V1} (h : cat1 v = false) : (toV G v).category = 2 := by rw [toV_cat, h]; rfl
def wd (v : V1) : Nat := if cat1 v = true then 1 else 2
theorem wd_sum (G : Gt) (st : List V1) : ((st.map (toV G)).map fun v => v.category).sum = (st.map wd).sum := by
  induction st with
  | nil => rfl
  | cons v t ih => simp only [List.map_cons, List.sum_cons, ih, toV_cat, wd]
def okst (L : List (Option V1)) : Nat → Bool
  | 0 => true
  | j + 1 => match L[j]? with
    | some (some u) => cat1 u
    | _ => true
theorem lo_get {G : Gt} {ls : Array Slot} {n : Nat} {L : List (Option V1)} (h : lv_has ls n (loL G 0 L)) {i : Nat} {v : V1} (hl : L[i]? = some (some v)) : ls[i]? = some (.val (toV G v)) :=
  h.2.2 (i, toV G v) (loL_mem.mpr ⟨i, v, by omega, hl, rfl⟩)
theorem lo_set {G : Gt} {ls : Array Slot} {n : Nat} {L : List (Option V1)} {i : Nat} {v : V1} (h : lv_has ls n ((i, toV G v) :: (loL G 0 L).filter (fun q => !(q.1 == i) && !(q.1 + 1 == i && q.2.category == 2)))) (ok : okst L i = true) : lv_has ls n (loL G 0 (L.set i (some v))) := by
  refine lv_weak h fun q hq => ?_
  obtain ⟨j, w⟩ := q
  obtain ⟨j', u, rfl, h2, rfl⟩ := loL_mem.mp hq
  rw [Nat.zero_add] at *
  by_cases hj : j' = i
  · subst hj
    rw [List.getElem?_set] at h2
    simp only [if_true] at h2
    split at h2
    · cases h2
      exact List.mem_cons_self
    · cases h2
  · rw [List.getElem?_set_ne (Ne.symm hj)] at h2
    refine List.mem_cons_of_mem _ (List.mem_filter.mpr ⟨loL_mem.mpr ⟨j', u, by omega, h2, rfl⟩, ?_⟩)
    have h3 : ¬ (j' + 1 = i ∧ (toV G u).category = 2) := by
      rintro ⟨rfl, h4⟩
      simp only [okst, h2] at ok
      rw [toV_cat1 ok] at h4
      cases h4
    simp only [Bool.and_eq_true, Bool.not_eq_true', beq_eq_false_iff_ne, ne_eq, Bool.and_eq_false_iff, Nat.zero_add]
    refine ⟨hj, ?_⟩
    by_cases h5 : j' + 1 = i
    · exact Or.inr fun h6 => h3 ⟨h5, h6⟩
    · exact Or.inl h5
theorem lo_set2 {G : Gt} {ls : Array Slot} {n : Nat} {L : List (Option V1)} {i : Nat} {v : V1} (h : lv_has ls n ((i, toV G v) :: (loL G 0 L).filter (fun q => !(q.1 == i) && (!(q.1 == i + 1) && !(q.1 + 1 == i && q.2.category == 2))))) (ok : okst L i = true) : lv_has ls n (loL G 0 ((L.set i (some v)).set (i + 1) none)) := by
  refine lv_weak h fun q hq => ?_
  obtain ⟨j, w⟩ := q
  obtain ⟨j', u, rfl, h2, rfl⟩ := loL_mem.mp hq
  rw [Nat.zero_add] at *
  by_cases hk : j' = i + 1
  · subst hk
    rw [List.getElem?_set] at h2
    simp only [if_true] at h2
    split at h2 <;> cases h2
  rw [List.getElem?_set_ne (Ne.symm hk)] at h2
  by_cases hj : j' = i
  · subst hj
    rw [List.getElem?_set] at h2
    simp only [if_true] at h2
    split at h2
    · cases h2
      exact List.mem_cons_self
    · cases h2
  · rw [List.getElem?_set_ne (Ne.symm hj)] at h2
    refine List.mem_cons_of_mem _ (List.mem_filter.mpr ⟨loL_mem.mpr ⟨j', u, by omega, h2, rfl⟩, ?_⟩)
    have h3 : ¬ (j' + 1 = i ∧ (toV G u).category = 2) := by
      rintro ⟨rfl, h4⟩
      simp only [okst, h2] at ok
      rw [toV_cat1 ok] at h4
      cases h4
    simp only [Bool.and_eq_true, Bool.not_eq_true', beq_eq_false_iff_ne, ne_eq, Bool.and_eq_false_iff, Nat.zero_add]
    refine ⟨hj, hk, ?_⟩
    by_cases h5 : j' + 1 = i
    · exact Or.inr fun h6 => h3 ⟨h5, h6⟩
    · exact Or.inl h5
section RULES
variable {l : Launch} {G : Gt} {M : MI} {d pc : Nat} {L : List (Option V1)} {st : List V1} {S : Sk} {mm : Mm} {r : Option V1} {S' : Sk} {mm' : Mm}
/-- a step that touches the stack alone -/
theorem run_st {pc' : Nat} {st st' : List V1} (h : ∀ (p : Program) (e : Env) (R : Room) (s : State) (m : MethodId) (args : Array Value) (below : List Frame) (meth : Method) (c : Code) (Hr : Heap) (locs : List Loc) (cells slots : Nat) (Q : State → Prop) (ls : Array Slot), Fr G M p s m args meth c → lv_has ls M.2.2.1 (loL G 0 L) →
      W p l e R s m args below meth c Hr locs cells slots Q (F0 m pc' ls (st'.map (toV G))) → W p l e R s m args below meth c Hr locs cells slots Q (F0 m pc ls (st.map (toV G))))
    (k : Run l G M d pc' L st' S mm r S' mm') : Run l G M d pc L st S mm r S' mm' :=
  ⟨k.1, fun p e R s m args below meth c Hr locs cells slots ls F Rp hl lv hd hlo hc hs => h p e R s m args below meth c Hr locs cells slots _ ls F lv (k.2 p e R s m args below meth c Hr locs cells slots ls F Rp hl lv hd hlo hc hs)⟩
/-- a step that changes the locals -/
theorem run_lo {pc' : Nat} {L' : List (Option V1)} {st st' : List V1} (h : ∀ (p : Program) (e : Env) (R : Room) (s : State) (m : MethodId) (args : Array Value) (below : List Frame) (meth : Method) (c : Code) (Hr : Heap) (locs : List Loc) (cells slots : Nat) (Q : State → Prop) (ls : Array Slot), Fr G M p s m args meth c → lv_has ls M.2.2.1 (loL G 0 L) →
      (∀ ls' : Array Slot, lv_has ls' M.2.2.1 (loL G 0 L') → W p l e R s m args below meth c Hr locs cells slots Q (F0 m pc' ls' (st'.map (toV G)))) → W p l e R s m args below meth c Hr locs cells slots Q (F0 m pc ls (st.map (toV G))))
    (k : Run l G M d pc' L' st' S mm r S' mm') : Run l G M d pc L st S mm r S' mm' :=
  ⟨k.1, fun p e R s m args below meth c Hr locs cells slots ls F Rp hl lv hd hlo hc hs => h p e R s m args below meth c Hr locs cells slots _ ls F lv (fun ls' lv' => k.2 p e R s m args below meth c Hr locs cells slots ls' F Rp hl lv' hd hlo hc hs)⟩

theorem r_iconst {n : Int} {v : Int32} (hd : decode M.2.1 pc = .ok (.iconst n, 1)) (hv : Int32.ofInt n = v) (k : Run l G M d (pc + 1) L (vi v :: st) S mm r S' mm') : Run l G M d pc L st S mm r S' mm' := run_st (k := k) fun _ _ _ _ _ _ _ _ _ _ _ _ _ _ _ F _ w => lv_iconst F.1 F.2.1 hd hv w
theorem r_bipush {n : Int} {v : Int32} (hd : decode M.2.1 pc = .ok (.bipush n, 2)) (hv : (Int8.ofInt n).toInt32 = v) (k : Run l G M d (pc + 2) L (vi v :: st) S mm r S' mm') : Run l G M d pc L st S mm r S' mm' := run_st (k := k) fun _ _ _ _ _ _ _ _ _ _ _ _ _ _ _ F _ w => lv_bipush F.1 F.2.1 hd hv w
theorem r_sipush {n : Int} {v : Int32} (hd : decode M.2.1 pc = .ok (.sipush n, 3)) (hv : (Int16.ofInt n).toInt32 = v) (k : Run l G M d (pc + 3) L (vi v :: st) S mm r S' mm') : Run l G M d pc L st S mm r S' mm' := run_st (k := k) fun _ _ _ _ _ _ _ _ _ _ _ _ _ _ _ F _ w => lv_sipush F.1 F.2.1 hd hv w
theorem r_lconst {n : Fin 2} {v : Int64} (hd : decode M.2.1 pc = .ok (.lconst n, 1)) (hv : Int64.ofNat (n : Nat) = v) (k : Run l G M d (pc + 1) L (vl v :: st) S mm r S' mm') : Run l G M d pc L st S mm r S' mm' := run_st (k := k) fun _ _ _ _ _ _ _ _ _ _ _ _ _ _ _ F _ w => lv_lconst F.1 F.2.1 hd hv w
theorem r_ldc {i : Nat} {v : Int32} (hd : decode M.2.1 pc = .ok (.ldc i, 2)) (hw : Cond.constant M.1 i v ∈ gtbl) (k : Run l G M d (pc + 2) L (vi v :: st) S mm r S' mm') : Run l G M d pc L st S mm r S' mm' := run_st (k := k) fun _ _ _ _ _ _ _ _ _ _ _ _ _ _ _ F _ w => lv_ldc F.1 F.2.1 F.2.2.2.2.2.2.1 (F.2.2.2.2.2.2.2.1 _ hw) hd w
theorem r_ldcw {i : Nat} {v : Int32} (hd : decode M.2.1 pc = .ok (.ldc_w i, 3)) (hw : Cond.constant M.1 i v ∈ gtbl) (k : Run l G M d (pc + 3) L (vi v :: st) S mm r S' mm') : Run l G M d pc L st S mm r S' mm' := run_st (k := k) fun _ _ _ _ _ _ _ _ _ _ _ _ _ _ _ F _ w => lv_ldcw F.1 F.2.1 F.2.2.2.2.2.2.1 (F.2.2.2.2.2.2.2.1 _ hw) hd w
theorem r_ldc2 {i : Nat} {v : Int64} (hd : decode M.2.1 pc = .ok (.ldc2_w i, 3)) (hw : Cond.constantLong M.1 i v ∈ gtbl) (k : Run l G M d (pc + 3) L (vl v :: st) S mm r S' mm') : Run l G M d pc L st S mm r S' mm' := run_st (k := k) fun _ _ _ _ _ _ _ _ _ _ _ _ _ _ _ F _ w => lv_ldc2 F.1 F.2.1 F.2.2.2.2.2.2.1 (F.2.2.2.2.2.2.2.1 _ hw) hd w
theorem r_ldcs {n i : Nat} (hd : decode M.2.1 pc = .ok (.ldc i, 2)) (ho : M.1 = "SwornCounty$Reader") (hn : n < 23) (hi : sIdx.getD n 0 = i) (k : Run l G M d (pc + 2) L (vx (n + 1) :: st) S mm r S' mm') : Run l G M d pc L st S mm r S' mm' := run_st (k := k) fun _ _ _ _ _ _ _ _ _ _ _ _ _ _ _ F _ w => va_ldcS (own := M.1) F.1 F.2.1 F.2.2.2.2.2.2.1 (by rw [ho, ← hi]; exact F.2.2.2.2.2.2.2.2.2.2.2.2.2.1 n hn) hd w
theorem r_null (hd : decode M.2.1 pc = .ok (.aconst_null, 1)) (k : Run l G M d (pc + 1) L (vr none :: st) S mm r S' mm') : Run l G M d pc L st S mm r S' mm' := run_st (k := k) fun _ _ _ _ _ _ _ _ _ _ _ _ _ _ _ F _ w => lv_null F.1 F.2.1 hd w
theorem r_goto {off : Int} {tgt : Nat} (hd : decode M.2.1 pc = .ok (.goto off, 3)) (ht : (pc : Int) + off = (tgt : Int)) (k : Run l G M d tgt L st S mm r S' mm') : Run l G M d pc L st S mm r S' mm' := run_st (k := k) fun _ _ _ _ _ _ _ _ _ _ _ _ _ _ _ F _ w => lv_goto F.1 F.2.1 hd ht w

theorem r_iadd {x y : Int32} (hd : decode M.2.1 pc = .ok (.iadd, 1)) (k : Run l G M d (pc + 1) L (vi (x + y) :: st) S mm r S' mm') : Run l G M d pc L (vi y :: vi x :: st) S mm r S' mm' := run_st (k := k) fun _ _ _ _ _ _ _ _ _ _ _ _ _ _ _ F _ w => lv_iadd F.1 F.2.1 hd w
theorem r_isub {x y : Int32} (hd : decode M.2.1 pc = .ok (.isub, 1)) (k : Run l G M d (pc + 1) L (vi (x - y) :: st) S mm r S' mm') : Run l G M d pc L (vi y :: vi x :: st) S mm r S' mm' := run_st (k := k) fun _ _ _ _ _ _ _ _ _ _ _ _ _ _ _ F _ w => lv_isub F.1 F.2.1 hd w
theorem r_imul {x y : Int32} (hd : decode M.2.1 pc = .ok (.imul, 1)) (k : Run l G M d (pc + 1) L (vi (x * y) :: st) S mm r S' mm') : Run l G M d pc L (vi y :: vi x :: st) S mm r S' mm' := run_st (k := k) fun _ _ _ _ _ _ _ _ _ _ _ _ _ _ _ F _ w => lv_imul F.1 F.2.1 hd w
theorem r_iand {x y : Int32} (hd : decode M.2.1 pc = .ok (.iand, 1)) (k : Run l G M d (pc + 1) L (vi (x &&& y) :: st) S mm r S' mm') : Run l G M d pc L (vi y :: vi x :: st) S mm r S' mm' := run_st (k := k) fun _ _ _ _ _ _ _ _ _ _ _ _ _ _ _ F _ w => lv_iand F.1 F.2.1 hd w
theorem r_ior {x y : Int32} (hd : decode M.2.1 pc = .ok (.ior, 1)) (k : Run l G M d (pc + 1) L (vi (x ||| y) :: st) S mm r S' mm') : Run l G M d pc L (vi y :: vi x :: st) S mm r S' mm' := run_st (k := k) fun _ _ _ _ _ _ _ _ _ _ _ _ _ _ _ F _ w => lv_ior F.1 F.2.1 hd w
theorem r_ixor {x y : Int32} (hd : decode M.2.1 pc = .ok (.ixor, 1)) (k : Run l G M d (pc + 1) L (vi (x ^^^ y) :: st) S mm r S' mm') : Run l G M d pc L (vi y :: vi x :: st) S mm r S' mm' := run_st (k := k) fun _ _ _ _ _ _ _ _ _ _ _ _ _ _ _ F _ w => lv_ixor F.1 F.2.1 hd w
theorem r_ishl {x y : Int32} (hd : decode M.2.1 pc = .ok (.ishl, 1)) (k : Run l G M d (pc + 1) L (vi (xshl x y) :: st) S mm r S' mm') : Run l G M d pc L (vi y :: vi x :: st) S mm r S' mm' := run_st (k := k) fun _ _ _ _ _ _ _ _ _ _ _ _ _ _ _ F _ w => lv_ishl F.1 F.2.1 hd w
theorem r_ishr {x y : Int32} (hd : decode M.2.1 pc = .ok (.ishr, 1)) (k : Run l G M d (pc + 1) L (vi (xshr x y) :: st) S mm r S' mm') : Run l G M d pc L (vi y :: vi x :: st) S mm r S' mm' := run_st (k := k) fun _ _ _ _ _ _ _ _ _ _ _ _ _ _ _ F _ w => lv_ishr F.1 F.2.1 hd w
theorem r_iushr {x y : Int32} (hd : decode M.2.1 pc = .ok (.iushr, 1)) (k : Run l G M d (pc + 1) L (vi (xushr x y) :: st) S mm r S' mm') : Run l G M d pc L (vi y :: vi x :: st) S mm r S' mm' := run_st (k := k) fun _ _ _ _ _ _ _ _ _ _ _ _ _ _ _ F _ w => lv_iushr (v := xushr x y) F.1 F.2.1 hd rfl w
theorem r_idiv {x y : Int32} (hd : decode M.2.1 pc = .ok (.idiv, 1)) (hne : ¬ y = 0) (k : Run l G M d (pc + 1) L (vi (x / y) :: st) S mm r S' mm') : Run l G M d pc L (vi y :: vi x :: st) S mm r S' mm' := run_st (k := k) fun _ _ _ _ _ _ _ _ _ _ _ _ _ _ _ F _ w => lv_idiv F.1 F.2.1 hd hne w
theorem r_irem {x y : Int32} (hd : decode M.2.1 pc = .ok (.irem, 1)) (hne : ¬ y = 0) (k : Run l G M d (pc + 1) L (vi (xrem x y) :: st) S mm r S' mm') : Run l G M d pc L (vi y :: vi x :: st) S mm r S' mm' := run_st (k := k) fun _ _ _ _ _ _ _ _ _ _ _ _ _ _ _ F _ w => lv_irem F.1 F.2.1 hd hne w
theorem r_i2b {x : Int32} (hd : decode M.2.1 pc = .ok (.i2b, 1)) (k : Run l G M d (pc + 1) L (vi x.toInt8.toInt32 :: st) S mm r S' mm') : Run l G M d pc L (vi x :: st) S mm r S' mm' := run_st (k := k) fun _ _ _ _ _ _ _ _ _ _ _ _ _ _ _ F _ w => lv_i2b F.1 F.2.1 hd rfl w
theorem r_i2l {x : Int32} (hd : decode M.2.1 pc = .ok (.i2l, 1)) (k : Run l G M d (pc + 1) L (vl x.toInt64 :: st) S mm r S' mm') : Run l G M d pc L (vi x :: st) S mm r S' mm' := run_st (k := k) fun _ _ _ _ _ _ _ _ _ _ _ _ _ _ _ F _ w => lv_i2l F.1 F.2.1 hd rfl w
theorem r_lshl {x : Int64} {y : Int32} (hd : decode M.2.1 pc = .ok (.lshl, 1)) (k : Run l G M d (pc + 1) L (vl (xlshl x y) :: st) S mm r S' mm') : Run l G M d pc L (vi y :: vl x :: st) S mm r S' mm' := run_st (k := k) fun _ _ _ _ _ _ _ _ _ _ _ _ _ _ _ F _ w => lv_lshl (v := xlshl x y) F.1 F.2.1 hd rfl w
theorem r_lor {x y : Int64} (hd : decode M.2.1 pc = .ok (.lor, 1)) (k : Run l G M d (pc + 1) L (vl (x ||| y) :: st) S mm r S' mm') : Run l G M d pc L (vl y :: vl x :: st) S mm r S' mm' := run_st (k := k) fun _ _ _ _ _ _ _ _ _ _ _ _ _ _ _ F _ w => lv_lor F.1 F.2.1 hd w
theorem r_lcmp {x y : Int64} (hd : decode M.2.1 pc = .ok (.lcmp, 1)) (k : Run l G M d (pc + 1) L (vi (lg_cmp x y) :: st) S mm r S' mm') : Run l G M d pc L (vl y :: vl x :: st) S mm r S' mm' := run_st (k := k) fun _ _ _ _ _ _ _ _ _ _ _ _ _ _ _ F _ w => W.lcmp F.1 F.2.1 hd w
theorem r_dup {v : V1} (hd : decode M.2.1 pc = .ok (.dup, 1)) (hv : cat1 v = true) (k : Run l G M d (pc + 1) L (v :: v :: st) S mm r S' mm') : Run l G M d pc L (v :: st) S mm r S' mm' := run_st (k := k) fun _ _ _ _ _ _ _ _ _ _ _ _ _ _ _ F _ w => lv_dup F.1 F.2.1 hd (toV_cat1 hv) w
theorem r_pop {v : V1} (hd : decode M.2.1 pc = .ok (.pop, 1)) (hv : cat1 v = true) (k : Run l G M d (pc + 1) L st S mm r S' mm') : Run l G M d pc L (v :: st) S mm r S' mm' := run_st (k := k) fun _ _ _ _ _ _ _ _ _ _ _ _ _ _ _ F _ w => lv_pop F.1 F.2.1 hd (toV_cat1 hv) w
theorem r_dup2 {v u : V1} (hd : decode M.2.1 pc = .ok (.dup2, 1)) (hv : cat1 v = true) (hu : cat1 u = true) (k : Run l G M d (pc + 1) L (v :: u :: v :: u :: st) S mm r S' mm') : Run l G M d pc L (v :: u :: st) S mm r S' mm' := run_st (k := k) fun _ _ _ _ _ _ _ _ _ _ _ _ _ _ _ F _ w => lv_dup2_11 F.1 F.2.1 hd (toV_cat1 hv) (toV_cat1 hu) w

theorem r_iload_n {k : Fin 4} {x : Int32} (hd : decode M.2.1 pc = .ok (.iload_n k, 1)) (hl : L[(k : Nat)]? = some (some (vi x))) (kk : Run l G M d (pc + 1) L (vi x :: st) S mm r S' mm') : Run l G M d pc L st S mm r S' mm' := run_st (k := kk) fun _ _ _ _ _ _ _ _ _ _ _ _ _ _ _ F lv w => lv_iload_n F.1 F.2.1 hd rfl (lo_get lv hl) w
theorem r_iload {i : Nat} {x : Int32} (hd : decode M.2.1 pc = .ok (.iload i, 2)) (hl : L[i]? = some (some (vi x))) (kk : Run l G M d (pc + 2) L (vi x :: st) S mm r S' mm') : Run l G M d pc L st S mm r S' mm' := run_st (k := kk) fun _ _ _ _ _ _ _ _ _ _ _ _ _ _ _ F lv w => lv_iload F.1 F.2.1 hd (lo_get lv hl) w
theorem r_lload_n {k : Fin 4} {x : Int64} (hd : decode M.2.1 pc = .ok (.lload_n k, 1)) (hl : L[(k : Nat)]? = some (some (vl x))) (kk : Run l G M d (pc + 1) L (vl x :: st) S mm r S' mm') : Run l G M d pc L st S mm r S' mm' := run_st (k := kk) fun _ _ _ _ _ _ _ _ _ _ _ _ _ _ _ F lv w => lv_lload_n F.1 F.2.1 hd rfl (lo_get lv hl) w
theorem r_lload {i : Nat} {x : Int64} (hd : decode M.2.1 pc = .ok (.lload i, 2)) (hl : L[i]? = some (some (vl x))) (kk : Run l G M d (pc + 2) L (vl x :: st) S mm r S' mm') : Run l G M d pc L st S mm r S' mm' := run_st (k := kk) fun _ _ _ _ _ _ _ _ _ _ _ _ _ _ _ F lv w => lv_lload F.1 F.2.1 hd (lo_get lv hl) w
theorem r_aload_n {k : Fin 4} {o : Option Nat} (hd : decode M.2.1 pc = .ok (.aload_n k, 1)) (hl : L[(k : Nat)]? = some (some (vr o))) (kk : Run l G M d (pc + 1) L (vr o :: st) S mm r S' mm') : Run l G M d pc L st S mm r S' mm' := run_st (k := kk) fun _ _ _ _ _ _ _ _ _ _ _ _ _ _ _ F lv w => by
  cases o with
  | none => exact lv_aload_nN F.1 F.2.1 hd rfl (lo_get lv hl) w
  | some x => exact lv_aload_n F.1 F.2.1 hd rfl (lo_get lv hl) w
theorem r_aload {i : Nat} {o : Option Nat} (hd : decode M.2.1 pc = .ok (.aload i, 2)) (hl : L[i]? = some (some (vr o))) (kk : Run l G M d (pc + 2) L (vr o :: st) S mm r S' mm') : Run l G M d pc L st S mm r S' mm' := run_st (k := kk) fun _ _ _ _ _ _ _ _ _ _ _ _ _ _ _ F lv w => by
  cases o with
  | none => exact lv_aloadN F.1 F.2.1 hd (lo_get lv hl) w
  | some x => exact lv_aload F.1 F.2.1 hd (lo_get lv hl) w
theorem r_aload_nx {k : Fin 4} {n : Nat} (hd : decode M.2.1 pc = .ok (.aload_n k, 1)) (hl : L[(k : Nat)]? = some (some (vx n))) (kk : Run l G M d (pc + 1) L (vx n :: st) S mm r S' mm') : Run l G M d pc L st S mm r S' mm' := run_st (k := kk) fun _ _ _ _ _ _ _ _ _ _ _ _ _ _ _ F lv w => lv_aload_n F.1 F.2.1 hd rfl (lo_get lv hl) w
theorem r_aloadx {i n : Nat} (hd : decode M.2.1 pc = .ok (.aload i, 2)) (hl : L[i]? = some (some (vx n))) (kk : Run l G M d (pc + 2) L (vx n :: st) S mm r S' mm') : Run l G M d pc L st S mm r S' mm' := run_st (k := kk) fun _ _ _ _ _ _ _ _ _ _ _ _ _ _ _ F lv w => lv_aload F.1 F.2.1 hd (lo_get lv hl) w
theorem r_istore_n {k : Fin 4} {x : Int32} (hd : decode M.2.1 pc = .ok (.istore_n k, 1)) (hn : (k : Nat) < M.2.2.1) (ok : okst L (k : Nat) = true) (kk : Run l G M d (pc + 1) (L.set (k : Nat) (some (vi x))) st S mm r S' mm') : Run l G M d pc L (vi x :: st) S mm r S' mm' := run_lo (k := kk) fun _ _ _ _ _ _ _ _ _ _ _ _ _ _ _ F lv w => lv_istore_n F.1 F.2.1 hd rfl lv hn rfl (fun ls' h => w ls' (lo_set (v := vi x) h ok))
theorem r_istore {i : Nat} {x : Int32} (hd : decode M.2.1 pc = .ok (.istore i, 2)) (hn : i < M.2.2.1) (ok : okst L i = true) (kk : Run l G M d (pc + 2) (L.set i (some (vi x))) st S mm r S' mm') : Run l G M d pc L (vi x :: st) S mm r S' mm' := run_lo (k := kk) fun _ _ _ _ _ _ _ _ _ _ _ _ _ _ _ F lv w => lv_istore F.1 F.2.1 hd lv hn rfl (fun ls' h => w ls' (lo_set (v := vi x) h ok))
theorem r_lstore {i : Nat} {x : Int64} (hd : decode M.2.1 pc = .ok (.lstore i, 2)) (hn : i + 1 < M.2.2.1) (ok : okst L i = true) (kk : Run l G M d (pc + 2) ((L.set i (some (vl x))).set (i + 1) none) st S mm r S' mm') : Run l G M d pc L (vl x :: st) S mm r S' mm' := run_lo (k := kk) fun _ _ _ _ _ _ _ _ _ _ _ _ _ _ _ F lv w => lv_lstore F.1 F.2.1 hd lv hn rfl (fun ls' h => w ls' (lo_set2 (v := vl x) h ok))
theorem r_lstore_n {k : Fin 4} {x : Int64} (hd : decode M.2.1 pc = .ok (.lstore_n k, 1)) (hn : (k : Nat) + 1 < M.2.2.1) (ok : okst L (k : Nat) = true) (kk : Run l G M d (pc + 1) ((L.set (k : Nat) (some (vl x))).set ((k : Nat) + 1) none) st S mm r S' mm') : Run l G M d pc L (vl x :: st) S mm r S' mm' := run_lo (k := kk) fun _ _ _ _ _ _ _ _ _ _ _ _ _ _ _ F lv w => lv_lstore_n F.1 F.2.1 hd rfl lv hn rfl (fun ls' h => w ls' (lo_set2 (v := vl x) h ok))
theorem r_astore_n {k : Fin 4} {o : Option Nat} (hd : decode M.2.1 pc = .ok (.astore_n k, 1)) (hn : (k : Nat) < M.2.2.1) (ok : okst L (k : Nat) = true) (kk : Run l G M d (pc + 1) (L.set (k : Nat) (some (vr o))) st S mm r S' mm') : Run l G M d pc L (vr o :: st) S mm r S' mm' := run_lo (k := kk) fun _ _ _ _ _ _ _ _ _ _ _ _ _ _ _ F lv w => by
  cases o with
  | none => exact lv_astore_nN F.1 F.2.1 hd rfl lv hn rfl (fun ls' h => w ls' (lo_set (v := vr none) h ok))
  | some x => exact lv_astore_n F.1 F.2.1 hd rfl lv hn rfl (fun ls' h => w ls' (lo_set (v := vr (some x)) h ok))
theorem r_astore {i : Nat} {o : Option Nat} (hd : decode M.2.1 pc = .ok (.astore i, 2)) (hn : i < M.2.2.1) (ok : okst L i = true) (kk : Run l G M d (pc + 2) (L.set i (some (vr o))) st S mm r S' mm') : Run l G M d pc L (vr o :: st) S mm r S' mm' := run_lo (k := kk) fun _ _ _ _ _ _ _ _ _ _ _ _ _ _ _ F lv w => by
  cases o with
  | none => exact lv_astoreN F.1 F.2.1 hd lv hn rfl (fun ls' h => w ls' (lo_set (v := vr none) h ok))
  | some x => exact lv_astore F.1 F.2.1 hd lv hn rfl (fun ls' h => w ls' (lo_set (v := vr (some x)) h ok))
theorem r_astore_nx {k : Fin 4} {n : Nat} (hd : decode M.2.1 pc = .ok (.astore_n k, 1)) (hn : (k : Nat) < M.2.2.1) (ok : okst L (k : Nat) = true) (kk : Run l G M d (pc + 1) (L.set (k : Nat) (some (vx n))) st S mm r S' mm') : Run l G M d pc L (vx n :: st) S mm r S' mm' := run_lo (k := kk) fun _ _ _ _ _ _ _ _ _ _ _ _ _ _ _ F lv w => lv_astore_n F.1 F.2.1 hd rfl lv hn rfl (fun ls' h => w ls' (lo_set (v := vx n) h ok))
theorem r_iinc {i : Nat} {n : Int} {x v : Int32} (hd : decode M.2.1 pc = .ok (.iinc i n, 3)) (hl : L[i]? = some (some (vi x))) (hv : x + Int32.ofInt n = v) (hn : i < M.2.2.1) (ok : okst L i = true) (kk : Run l G M d (pc + 3) (L.set i (some (vi v))) st S mm r S' mm') : Run l G M d pc L st S mm r S' mm' := run_lo (k := kk) fun _ _ _ _ _ _ _ _ _ _ _ _ _ _ _ F lv w => by
  obtain ⟨k, hk⟩ := List.getElem?_of_mem (loL_mem.mpr ⟨i, vi x, by omega, hl, rfl⟩ : (i, toV G (vi x)) ∈ loL G 0 L)
  exact lv_iinc F.1 F.2.1 hd lv hk hv hn rfl (fun ls' h => w ls' (lo_set (v := vi v) h ok))
theorem r_icmp_eq {x y : Int32} {off : Int} {tgt : Nat} (hd : decode M.2.1 pc = .ok (.if_icmp .eq off, 3)) (ht : (pc : Int) + off = (tgt : Int)) (kt : x = y → Run l G M d tgt L st S mm r S' mm') (kf : ¬ (x = y) → Run l G M d (pc + 3) L st S mm r S' mm') : Run l G M d pc L (vi y :: vi x :: st) S mm r S' mm' := by
  by_cases h : x = y
  · exact run_st (k := kt h) fun _ _ _ _ _ _ _ _ _ _ _ _ _ _ _ F _ w => lv_icmp_eq F.1 F.2.1 hd ht (fun _ => w) (fun h' => absurd h h')
  · exact run_st (k := kf h) fun _ _ _ _ _ _ _ _ _ _ _ _ _ _ _ F _ w => lv_icmp_eq F.1 F.2.1 hd ht (fun h' => absurd h' h) (fun _ => w)
theorem r_if_eq {x : Int32} {off : Int} {tgt : Nat} (hd : decode M.2.1 pc = .ok (.ifCond .eq off, 3)) (ht : (pc : Int) + off = (tgt : Int)) (kt : x = 0 → Run l G M d tgt L st S mm r S' mm') (kf : ¬ (x = 0) → Run l G M d (pc + 3) L st S mm r S' mm') : Run l G M d pc L (vi x :: st) S mm r S' mm' := by
  by_cases h : x = 0
  · exact run_st (k := kt h) fun _ _ _ _ _ _ _ _ _ _ _ _ _ _ _ F _ w => lv_if_eq F.1 F.2.1 hd ht (fun _ => w) (fun h' => absurd h h')
  · exact run_st (k := kf h) fun _ _ _ _ _ _ _ _ _ _ _ _ _ _ _ F _ w => lv_if_eq F.1 F.2.1 hd ht (fun h' => absurd h' h) (fun _ => w)
theorem r_icmp_ne {x y : Int32} {off : Int} {tgt : Nat} (hd : decode M.2.1 pc = .ok (.if_icmp .ne off, 3)) (ht : (pc : Int) + off = (tgt : Int)) (kt : ¬ (x = y) → Run l G M d tgt L st S mm r S' mm') (kf : x = y → Run l G M d (pc + 3) L st S mm r S' mm') : Run l G M d pc L (vi y :: vi x :: st) S mm r S' mm' := by
  by_cases h : x = y
  · exact run_st (k := kf h) fun _ _ _ _ _ _ _ _ _ _ _ _ _ _ _ F _ w => lv_icmp_ne F.1 F.2.1 hd ht (fun h' => absurd h h') (fun _ => w)
  · exact run_st (k := kt h) fun _ _ _ _ _ _ _ _ _ _ _ _ _ _ _ F _ w => lv_icmp_ne F.1 F.2.1 hd ht (fun _ => w) (fun h' => absurd h' h)
theorem r_if_ne {x : Int32} {off : Int} {tgt : Nat} (hd : decode M.2.1 pc = .ok (.ifCond .ne off, 3)) (ht : (pc : Int) + off = (tgt : Int)) (kt : ¬ (x = 0) → Run l G M d tgt L st S mm r S' mm') (kf : x = 0 → Run l G M d (pc + 3) L st S mm r S' mm') : Run l G M d pc L (vi x :: st) S mm r S' mm' := by
  by_cases h : x = 0
  · exact run_st (k := kf h) fun _ _ _ _ _ _ _ _ _ _ _ _ _ _ _ F _ w => lv_if_ne F.1 F.2.1 hd ht (fun h' => absurd h h') (fun _ => w)
  · exact run_st (k := kt h) fun _ _ _ _ _ _ _ _ _ _ _ _ _ _ _ F _ w => lv_if_ne F.1 F.2.1 hd ht (fun _ => w) (fun h' => absurd h' h)
theorem r_icmp_lt {x y : Int32} {off : Int} {tgt : Nat} (hd : decode M.2.1 pc = .ok (.if_icmp .lt off, 3)) (ht : (pc : Int) + off = (tgt : Int)) (kt : x < y → Run l G M d tgt L st S mm r S' mm') (kf : ¬ (x < y) → Run l G M d (pc + 3) L st S mm r S' mm') : Run l G M d pc L (vi y :: vi x :: st) S mm r S' mm' := by
  by_cases h : x < y
  · exact run_st (k := kt h) fun _ _ _ _ _ _ _ _ _ _ _ _ _ _ _ F _ w => lv_icmp_lt F.1 F.2.1 hd ht (fun _ => w) (fun h' => absurd h h')
  · exact run_st (k := kf h) fun _ _ _ _ _ _ _ _ _ _ _ _ _ _ _ F _ w => lv_icmp_lt F.1 F.2.1 hd ht (fun h' => absurd h' h) (fun _ => w)
theorem r_if_lt {x : Int32} {off : Int} {tgt : Nat} (hd : decode M.2.1 pc = .ok (.ifCond .lt off, 3)) (ht : (pc : Int) + off = (tgt : Int)) (kt : x < 0 → Run l G M d tgt L st S mm r S' mm') (kf : ¬ (x < 0) → Run l G M d (pc + 3) L st S mm r S' mm') : Run l G M d pc L (vi x :: st) S mm r S' mm' := by
  by_cases h : x < 0
  · exact run_st (k := kt h) fun _ _ _ _ _ _ _ _ _ _ _ _ _ _ _ F _ w => lv_if_lt F.1 F.2.1 hd ht (fun _ => w) (fun h' => absurd h h')
  · exact run_st (k := kf h) fun _ _ _ _ _ _ _ _ _ _ _ _ _ _ _ F _ w => lv_if_lt F.1 F.2.1 hd ht (fun h' => absurd h' h) (fun _ => w)
theorem r_icmp_ge {x y : Int32} {off : Int} {tgt : Nat} (hd : decode M.2.1 pc = .ok (.if_icmp .ge off, 3)) (ht : (pc : Int) + off = (tgt : Int)) (kt : y ≤ x → Run l G M d tgt L st S mm r S' mm') (kf : ¬ (y ≤ x) → Run l G M d (pc + 3) L st S mm r S' mm') : Run l G M d pc L (vi y :: vi x :: st) S mm r S' mm' := by
  by_cases h : y ≤ x
  · exact run_st (k := kt h) fun _ _ _ _ _ _ _ _ _ _ _ _ _ _ _ F _ w => lv_icmp_ge F.1 F.2.1 hd ht (fun _ => w) (fun h' => absurd h h')
  · exact run_st (k := kf h) fun _ _ _ _ _ _ _ _ _ _ _ _ _ _ _ F _ w => lv_icmp_ge F.1 F.2.1 hd ht (fun h' => absurd h' h) (fun _ => w)
theorem r_if_ge {x : Int32} {off : Int} {tgt : Nat} (hd : decode M.2.1 pc = .ok (.ifCond .ge off, 3)) (ht : (pc : Int) + off = (tgt : Int)) (kt : 0 ≤ x → Run l G M d tgt L st S mm r S' mm') (kf : ¬ (0 ≤ x) → Run l G M d (pc + 3) L st S mm r S' mm') : Run l G M d pc L (vi x :: st) S mm r S' mm' := by
  by_cases h : 0 ≤ x
  · exact run_st (k := kt h) fun _ _ _ _ _ _ _ _ _ _ _ _ _ _ _ F _ w => lv_if_ge F.1 F.2.1 hd ht (fun _ => w) (fun h' => absurd h h')
  · exact run_st (k := kf h) fun _ _ _ _ _ _ _ _ _ _ _ _ _ _ _ F _ w => lv_if_ge F.1 F.2.1 hd ht (fun h' => absurd h' h) (fun _ => w)
theorem r_icmp_gt {x y : Int32} {off : Int} {tgt : Nat} (hd : decode M.2.1 pc = .ok (.if_icmp .gt off, 3)) (ht : (pc : Int) + off = (tgt : Int)) (kt : y < x → Run l G M d tgt L st S mm r S' mm') (kf : ¬ (y < x) → Run l G M d (pc + 3) L st S mm r S' mm') : Run l G M d pc L (vi y :: vi x :: st) S mm r S' mm' := by
  by_cases h : y < x
  · exact run_st (k := kt h) fun _ _ _ _ _ _ _ _ _ _ _ _ _ _ _ F _ w => lv_icmp_gt F.1 F.2.1 hd ht (fun _ => w) (fun h' => absurd h h')
  · exact run_st (k := kf h) fun _ _ _ _ _ _ _ _ _ _ _ _ _ _ _ F _ w => lv_icmp_gt F.1 F.2.1 hd ht (fun h' => absurd h' h) (fun _ => w)
theorem r_if_gt {x : Int32} {off : Int} {tgt : Nat} (hd : decode M.2.1 pc = .ok (.ifCond .gt off, 3)) (ht : (pc : Int) + off = (tgt : Int)) (kt : 0 < x → Run l G M d tgt L st S mm r S' mm') (kf : ¬ (0 < x) → Run l G M d (pc + 3) L st S mm r S' mm') : Run l G M d pc L (vi x :: st) S mm r S' mm' := by
  by_cases h : 0 < x
  · exact run_st (k := kt h) fun _ _ _ _ _ _ _ _ _ _ _ _ _ _ _ F _ w => lv_if_gt F.1 F.2.1 hd ht (fun _ => w) (fun h' => absurd h h')
  · exact run_st (k := kf h) fun _ _ _ _ _ _ _ _ _ _ _ _ _ _ _ F _ w => lv_if_gt F.1 F.2.1 hd ht (fun h' => absurd h' h) (fun _ => w)
theorem r_icmp_le {x y : Int32} {off : Int} {tgt : Nat} (hd : decode M.2.1 pc = .ok (.if_icmp .le off, 3)) (ht : (pc : Int) + off = (tgt : Int)) (kt : x ≤ y → Run l G M d tgt L st S mm r S' mm') (kf : ¬ (x ≤ y) → Run l G M d (pc + 3) L st S mm r S' mm') : Run l G M d pc L (vi y :: vi x :: st) S mm r S' mm' := by
  by_cases h : x ≤ y
  · exact run_st (k := kt h) fun _ _ _ _ _ _ _ _ _ _ _ _ _ _ _ F _ w => lv_icmp_le F.1 F.2.1 hd ht (fun _ => w) (fun h' => absurd h h')
  · exact run_st (k := kf h) fun _ _ _ _ _ _ _ _ _ _ _ _ _ _ _ F _ w => lv_icmp_le F.1 F.2.1 hd ht (fun h' => absurd h' h) (fun _ => w)
theorem r_if_le {x : Int32} {off : Int} {tgt : Nat} (hd : decode M.2.1 pc = .ok (.ifCond .le off, 3)) (ht : (pc : Int) + off = (tgt : Int)) (kt : x ≤ 0 → Run l G M d tgt L st S mm r S' mm') (kf : ¬ (x ≤ 0) → Run l G M d (pc + 3) L st S mm r S' mm') : Run l G M d pc L (vi x :: st) S mm r S' mm' := by
  by_cases h : x ≤ 0
  · exact run_st (k := kt h) fun _ _ _ _ _ _ _ _ _ _ _ _ _ _ _ F _ w => lv_if_le F.1 F.2.1 hd ht (fun _ => w) (fun h' => absurd h h')
  · exact run_st (k := kf h) fun _ _ _ _ _ _ _ _ _ _ _ _ _ _ _ F _ w => lv_if_le F.1 F.2.1 hd ht (fun h' => absurd h' h) (fun _ => w)
theorem r_ifnull_t {off : Int} {tgt : Nat} (hd : decode M.2.1 pc = .ok (.ifnull off, 3)) (ht : (pc : Int) + off = (tgt : Int)) (k : Run l G M d tgt L st S mm r S' mm') : Run l G M d pc L (vr none :: st) S mm r S' mm' := run_st (k := k) fun _ _ _ _ _ _ _ _ _ _ _ _ _ _ _ F _ w => lv_ifnullN F.1 F.2.1 hd ht w
theorem r_ifnull_f {off : Int} {x : Nat} (hd : decode M.2.1 pc = .ok (.ifnull off, 3)) (k : Run l G M d (pc + 3) L st S mm r S' mm') : Run l G M d pc L (vr (some x) :: st) S mm r S' mm' := run_st (k := k) fun _ _ _ _ _ _ _ _ _ _ _ _ _ _ _ F _ w => lv_ifnull F.1 F.2.1 hd w
theorem r_ifnonnull_t {off : Int} {tgt x : Nat} (hd : decode M.2.1 pc = .ok (.ifnonnull off, 3)) (ht : (pc : Int) + off = (tgt : Int)) (k : Run l G M d tgt L st S mm r S' mm') : Run l G M d pc L (vr (some x) :: st) S mm r S' mm' := run_st (k := k) fun _ _ _ _ _ _ _ _ _ _ _ _ _ _ _ F _ w => lv_ifnonnull F.1 F.2.1 hd ht w
theorem r_ifnonnull_f {off : Int} (hd : decode M.2.1 pc = .ok (.ifnonnull off, 3)) (k : Run l G M d (pc + 3) L st S mm r S' mm') : Run l G M d pc L (vr none :: st) S mm r S' mm' := run_st (k := k) fun _ _ _ _ _ _ _ _ _ _ _ _ _ _ _ F _ w => lv_ifnonnullN F.1 F.2.1 hd w
theorem rv_rf (b : Nat) (o : Option Nat) : rv b o = va_rf (o.map (b + ·)) := by cases o <;> rfl
theorem r_acmp_eq {a b : Option Nat} {off : Int} {tgt : Nat} (hd : decode M.2.1 pc = .ok (.if_acmp .eq off, 3)) (ht : (pc : Int) + off = (tgt : Int)) (kt : a = b → Run l G M d tgt L st S mm r S' mm') (kf : ¬ (a = b) → Run l G M d (pc + 3) L st S mm r S' mm') : Run l G M d pc L (vr b :: vr a :: st) S mm r S' mm' := by
  have inj : a.map (G.1 + ·) = b.map (G.1 + ·) → a = b := by
    intro h
    cases a <;> cases b <;> simp at h ⊢
    exact h
  by_cases h : a = b
  · refine run_st (k := kt h) fun p e R s m args below meth c Hr locs cells slots Q ls F _ w => ?_
    have key := lv_acmp_eq (rx := a.map (G.1 + ·)) (ry := b.map (G.1 + ·)) (rest := st.map (toV G)) (ls := ls) F.1 F.2.1 hd ht (fun _ => w) (fun h' => absurd (by rw [h]) h')
    rw [← rv_rf, ← rv_rf] at key
    exact key
  · refine run_st (k := kf h) fun p e R s m args below meth c Hr locs cells slots Q ls F _ w => ?_
    have key := lv_acmp_eq (rx := a.map (G.1 + ·)) (ry := b.map (G.1 + ·)) (rest := st.map (toV G)) (ls := ls) F.1 F.2.1 hd ht (fun h' => absurd (inj h') h) (fun _ => w)
    rw [← rv_rf, ← rv_rf] at key
    exact key
theorem r_table_out {df lo hi : Int} {offs : Array Int} {len : Nat} {x : Int32} {tgt : Nat} (hd : decode M.2.1 pc = .ok (.tableswitch df lo hi offs, len)) (h : x.toInt < lo ∨ hi < x.toInt) (ht : (pc : Int) + df = (tgt : Int)) (k : Run l G M d tgt L st S mm r S' mm') : Run l G M d pc L (vi x :: st) S mm r S' mm' := run_st (k := k) fun _ _ _ _ _ _ _ _ _ _ _ _ _ _ _ F _ w => lv_tableOut F.1 F.2.1 hd h ht w
theorem r_table_in {df lo hi : Int} {offs : Array Int} {len : Nat} {x : Int32} {off : Int} {tgt : Nat} (hd : decode M.2.1 pc = .ok (.tableswitch df lo hi offs, len)) (h1 : ¬ x.toInt < lo) (h2 : ¬ hi < x.toInt) (ho : offs[(x.toInt - lo).toNat]? = some off) (ht : (pc : Int) + off = (tgt : Int)) (k : Run l G M d tgt L st S mm r S' mm') : Run l G M d pc L (vi x :: st) S mm r S' mm' := run_st (k := k) fun _ _ _ _ _ _ _ _ _ _ _ _ _ _ _ F _ w => lv_tableIn F.1 F.2.1 hd h1 h2 ho ht w
theorem r_lookup {df : Int} {ps : Array (Int × Int)} {len : Nat} {x : Int32} {off : Int} {tgt : Nat} (hd : decode M.2.1 pc = .ok (.lookupswitch df ps, len)) (hp : (ps.toList.zip (ps.toList.drop 1)).all (fun (a, next) => a.1 < next.1) = true) (ho : Op.lookupswitch.offset ps.toList df x.toInt = off) (ht : (pc : Int) + off = (tgt : Int)) (k : Run l G M d tgt L st S mm r S' mm') : Run l G M d pc L (vi x :: st) S mm r S' mm' := run_st (k := k) fun _ _ _ _ _ _ _ _ _ _ _ _ _ _ _ F _ w => lv_lookup F.1 F.2.1 hd hp ho ht w
end RULES
