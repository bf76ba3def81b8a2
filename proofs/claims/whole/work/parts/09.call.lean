/-! L1: calls -/
/-- what is said of a method that is called: its code, how many arguments -/
def YB (y : MethodName) (M : MI) (n : Nat) : Prop := Cond.code y M.2.1 M.2.2.1 M.2.2.2.1 ∈ gtbl ∧ Cond.initialized y.cls ∈ gtbl ∧ (y.cls ≠ "java/lang/invoke/MethodHandle" ∧ y.cls ≠ "java/lang/invoke/VarHandle") ∧ (parseMethodDescriptor y.desc).map (fun d => d.parameters.length) = some n ∧ M.2.2.1 ≤ 21
def YV (y : MethodName) (M : MI) (n ci : Nat) : Prop := YB y M n ∧ Cond.instanceMethod y ∈ gtbl ∧ Cond.selects y.cls y y ∈ gtbl ∧ ci < 13 ∧ ∃ q : vw_C, vwCl[ci]? = some q ∧ q.1 = y.cls
def YS (y : MethodName) (M : MI) (n : Nat) : Prop := YB y M n ∧ Cond.static y ∈ gtbl
def YI (y : MethodName) (M : MI) (n : Nat) : Prop := YB y M n ∧ Cond.instanceMethod y ∈ gtbl ∧ y.name = "<init>" ∧ M.2.2.2.1 = none
section CALL
variable {l : Launch} {G : Gt} {M : MI} {d pc : Nat} {L : List (Option V1)} {S : Sk} {mm : Mm} {r : Option V1} {S' : Sk} {mm' : Mm}
theorem blindR {as : List V1} : FrameBlind (fun a U => a = (as.map (toV G)).toArray ∧ Rep G S mm U.heap ∧ KS G U) := fun a U g mk h => ⟨h.1, h.2.1, KS.vm (s := U) rfl h.2.2⟩
theorem call_W {p : Program} {e : Env} {R : Room} {s : State} {m : MethodId} {args : Array Value} {below : List Frame} {meth : Method} {c : Code} {Hr : Heap} {locs : List Loc} {cells slots mc ms : Nat} {Q : State → Prop} {ls : Array Slot} {st0 rest : List Value} {a : Array Value} {rr : Option V1} {S1 : Sk} {m1 : Mm}
    (hr : va_Run p l e R s m args below meth c Hr locs cells slots mc ms (F0 m pc ls st0) rest (QcR G rr S1 m1 a) (fun q => G.1 ≤ q)) (hl : ∀ q ∈ locs, G.1 ≤ q.base)
    (kk : ∀ (H1 : Heap) (locs1 : List Loc), Rep G S1 m1 H1 → (∀ q ∈ locs1, G.1 ≤ q.base) → W p l e R s m args below meth c H1 locs1 (cells + mc) (slots + ms) Q (F0 m (pc + 3) ls ((rr.map (toV G)).toList ++ rest))) : W p l e R s m args below meth c Hr locs cells slots Q (F0 m pc ls st0) := by
  intro T hT X
  obtain ⟨v, st₀, t, T', L, h0, X', hL, e1, e2, ⟨hv, hrep⟩, st⟩ := hr T hT X
  cases hv
  obtain ⟨t2, a1, b1⟩ := kk T'.heap (locs ++ L) (by rw [e1]; exact hrep) (fun q hq => by
    rcases List.mem_append.mp hq with h | h
    · exact hl q h
    · exact hL q h) T' rfl X'
  exact ⟨t2, st t2 a1, b1⟩
theorem toList_map (rr : Option V1) (rest : List V1) : (rr.map (toV G)).toList ++ rest.map (toV G) = (rr.toList ++ rest).map (toV G) := by cases rr <;> rfl
theorem good_ws {w : Cond} (h : w ∈ gtbl) : GoodIn gtbl (w :: gtbl) := fun x hx => by
  rcases List.mem_cons.mp hx with e | e
  · rw [e]; exact gt_good2 w h
  · exact gt_good2 x e
/-- behind a call: the caller goes on in the callee's last world -/
theorem call_on {S1 : Sk} {m1 : Mm} {rr : Option V1} {st rest : List V1} (mono : sN S ≤ sN S1 ∧ sW S ≤ sW S1) (k : Run l G M d (pc + 3) L (rr.toList ++ rest) S1 m1 r S' mm')
    (h : ∀ (p : Program) (e : Env) (R : Room) (s : State) (m : MethodId) (args : Array Value) (below : List Frame) (meth : Method) (c : Code) (Hr : Heap) (locs : List Loc) (cells slots : Nat) (ls : Array Slot), Fr G M p s m args meth c → Rep G S mm Hr → lv_has ls M.2.2.1 (loL G 0 L) → d ≤ R.frames → 40 * d ≤ R.locals → cells + (sN S1 - sN S) ≤ R.cells → slots + (sW S1 - sW S) ≤ R.slots →
      ∃ a, va_Run p l e R s m args below meth c Hr locs cells slots (sN S1 - sN S) (sW S1 - sW S) (F0 m pc ls (st.map (toV G))) (rest.map (toV G)) (QcR G rr S1 m1 a) (fun q => G.1 ≤ q)) : Run l G M d pc L st S mm r S' mm' := by
  obtain ⟨⟨k1, k2⟩, kk⟩ := k
  refine ⟨⟨Nat.le_trans mono.1 k1, Nat.le_trans mono.2 k2⟩, fun p e R s m args below meth c Hr locs cells slots ls F Rp hl lv hdp hlo hc hs => ?_⟩
  obtain ⟨a, hr⟩ := h p e R s m args below meth c Hr locs cells slots ls F Rp lv hdp hlo (by have := mono.1; omega) (by have := mono.2; omega)
  refine call_W hr hl fun H1 locs1 Rp1 hl1 => ?_
  have K := kk p e R s m args below meth c H1 locs1 (cells + (sN S1 - sN S)) (slots + (sW S1 - sW S)) ls F Rp1 hl1 lv hdp hlo (by have := mono.1; omega) (by have := mono.2; omega)
  have e3 : cells + (sN S1 - sN S) + (sN S' - sN S1) = cells + (sN S' - sN S) := by have := mono.1; omega
  have e4 : slots + (sW S1 - sW S) + (sW S' - sW S1) = slots + (sW S' - sW S) := by have := mono.2; omega
  rw [e3, e4] at K
  rw [toList_map]
  exact K
theorem r_callV {idx n ci b dc : Nat} {y : MethodName} {Mc : MI} {as rest : List V1} {rr : Option V1} {S1 : Sk} {m1 : Mm} (hd : decode M.2.1 pc = .ok (.invokevirtual idx, 3)) (hml : Cond.methodLink M.1 idx y ∈ gtbl) (hy : YV y Mc n ci) (hc : CallOK l G Mc y dc (vr (some b) :: as) S mm rr S1 m1) (hdc : dc + 1 ≤ d) (hn : as.length = n) (hp : b < sN S) (hk : (sK S b).1 = ci) (hrm : (rest.map wd).sum ≤ 8)
    (k : Run l G M d (pc + 3) L (rr.toList ++ rest) S1 m1 r S' mm') : Run l G M d pc L (as.reverse ++ vr (some b) :: rest) S mm r S' mm' := by
  obtain ⟨mono, hM⟩ := hc
  refine call_on mono k fun p e R s m args below meth c Hr locs cells slots ls F Rp lv hdp hlo hcc hss => ⟨(Value.ref (G.1 + b) :: as.map (toV G)).toArray, ?_⟩
  obtain ⟨⟨y1, y2, y3, y4, y5⟩, y6, y7, hci, q, hq, hqy⟩ := hy
  have F' := F
  obtain ⟨hx, hb, hmx, hr, hlocks, hnm, hown, hts, hKS⟩ := F'
  have cw : CallW R s args M.1 y.cls idx y Mc.2.1 Mc.2.2.1 Mc.2.2.2.1 (Cond.code y Mc.2.1 Mc.2.2.1 Mc.2.2.2.1 :: gtbl) { frames := dc, cells := sN S1 - sN S, slots := sW S1 - sW S, locals := 40 * dc } (sN S1 - sN S) (sW S1 - sW S) n :=
    ⟨callB_of (Ts := gtbl) n hts (good_ws y1) rfl rfl rfl (hts _ y2) (hts _ hml) ⟨y3.1, y3.2, y4⟩ ⟨by show dc + 1 ≤ _; omega, by show 8 + (Mc.2.2.1 + 11) + 40 * dc ≤ _; omega⟩, hts _ y6, hts _ y7⟩
  obtain ⟨cell, g1, g2, g3, -⟩ := rep_obj Rp hp hk hci hq
  have hcls : s.vm.findClass y.cls = some cell.cls := by rw [g2, ← hqy]; exact (hKS.1.1 ci q hq).2.1
  exact va_runV (As := as.map (toV G)) (rest := rest.map (toV G)) (b := G.1 + b) (nL := M.2.2.1) ⟨hx, hb, hmx, hown, hts⟩ hM cw ⟨blindR, ⟨cell, g1, by rw [g3]; rfl, hcls⟩, fun U hU hW => ⟨rfl, by rw [hU]; exact Rp, hKS.warm hW⟩⟩ rfl (by rw [List.length_map]; exact hn) lv.1 (by simp [toV, rv]) (lv_room (by rw [wd_sum]; exact hrm)) hd ⟨hcc, hss⟩
theorem r_callVN {idx n ci b dc : Nat} {y : MethodName} {Mc : MI} {as rest : List V1} {rr : Option V1} {S1 : Sk} {m1 : Mm} (hd : decode M.2.1 pc = .ok (.invokevirtual idx, 3)) (hml : nst M.1 idx y ∈ nests) (hy : YV y Mc n ci) (hc : CallOK l G Mc y dc (vr (some b) :: as) S mm rr S1 m1) (hdc : dc + 1 ≤ d) (hn : as.length = n) (hp : b < sN S) (hk : (sK S b).1 = ci) (hrm : (rest.map wd).sum ≤ 8)
    (k : Run l G M d (pc + 3) L (rr.toList ++ rest) S1 m1 r S' mm') : Run l G M d pc L (as.reverse ++ vr (some b) :: rest) S mm r S' mm' := by
  obtain ⟨mono, hM⟩ := hc
  refine call_on mono k fun p e R s m args below meth c Hr locs cells slots ls F Rp lv hdp hlo hcc hss => ⟨(Value.ref (G.1 + b) :: as.map (toV G)).toArray, ?_⟩
  obtain ⟨⟨y1, y2, y3, y4, y5⟩, y6, y7, hci, q, hq, hqy⟩ := hy
  have F' := F
  obtain ⟨hx, hb, hmx, hr, hlocks, hnm, hown, hts, hKS⟩ := F'
  have cw := va_cnB (R := R) (rm := { frames := dc, cells := sN S1 - sN S, slots := sW S1 - sW S, locals := 40 * dc }) (maxL := Mc.2.2.1) (bytes := Mc.2.1) (ret := Mc.2.2.2.1) n hts (good_ws y1) rfl rfl rfl (hKS.2.2.1 _ hml) (hts _ y2) ⟨y3.1, y3.2, y4⟩ ⟨by show dc + 1 ≤ _; omega, by show 8 + (Mc.2.2.1 + 11) + 40 * dc ≤ _; omega⟩
  obtain ⟨cell, g1, g2, g3, -⟩ := rep_obj Rp hp hk hci hq
  have hcls : s.vm.findClass y.cls = some cell.cls := by rw [g2, ← hqy]; exact (hKS.1.1 ci q hq).2.1
  exact va_runVN (As := as.map (toV G)) (rest := rest.map (toV G)) (b := G.1 + b) (nL := M.2.2.1) ⟨hx, hb, hmx, hown, hts⟩ hM ⟨cw, hts _ y6, hts _ y7⟩ ⟨blindR, ⟨cell, g1, by rw [g3]; rfl, hcls⟩, fun U hU hW => ⟨rfl, by rw [hU]; exact Rp, hKS.warm hW⟩⟩ rfl (by rw [List.length_map]; exact hn) lv.1 (by simp [toV, rv]) (lv_room (by rw [wd_sum]; exact hrm)) hd ⟨hcc, hss⟩
theorem r_callS {idx n dc : Nat} {y : MethodName} {Mc : MI} {as rest : List V1} {rr : Option V1} {S1 : Sk} {m1 : Mm} (hd : decode M.2.1 pc = .ok (.invokestatic idx, 3)) (hml : Cond.methodLink M.1 idx y ∈ gtbl) (hy : YS y Mc n) (hc : CallOK l G Mc y dc as S mm rr S1 m1) (hdc : dc + 1 ≤ d) (hn : as.length = n) (hrm : (rest.map wd).sum ≤ 8)
    (k : Run l G M d (pc + 3) L (rr.toList ++ rest) S1 m1 r S' mm') : Run l G M d pc L (as.reverse ++ rest) S mm r S' mm' := by
  obtain ⟨mono, hM⟩ := hc
  refine call_on mono k fun p e R s m args below meth c Hr locs cells slots ls F Rp lv hdp hlo hcc hss => ⟨(as.map (toV G)).toArray, ?_⟩
  obtain ⟨⟨y1, y2, y3, y4, y5⟩, y6⟩ := hy
  have F' := F
  obtain ⟨hx, hb, hmx, hr, hlocks, hnm, hown, hts, hKS⟩ := F'
  have cb := callB_of (R := R) (rm := { frames := dc, cells := sN S1 - sN S, slots := sW S1 - sW S, locals := 40 * dc }) (maxL := Mc.2.2.1) (bytes := Mc.2.1) (ret := Mc.2.2.2.1) (own := M.1) (index := idx) (Ts := gtbl) n hts (good_ws y1) rfl rfl rfl (hts _ y2) (hts _ hml) ⟨y3.1, y3.2, y4⟩ ⟨by show dc + 1 ≤ _; omega, by show 8 + (Mc.2.2.1 + 11) + 40 * dc ≤ _; omega⟩
  exact va_runS (As := as.map (toV G)) (rest := rest.map (toV G)) (nL := M.2.2.1) ⟨hx, hb, hmx, hown, hts⟩ hM ⟨cb, hts _ y6⟩ ⟨blindR, fun U hU hW => ⟨rfl, by rw [hU]; exact Rp, hKS.warm hW⟩⟩ rfl (by rw [List.length_map]; exact hn) lv.1 (by simp) (lv_room (by rw [wd_sum]; exact hrm)) hd ⟨hcc, hss⟩
theorem r_callSN {idx n dc : Nat} {y : MethodName} {Mc : MI} {as rest : List V1} {rr : Option V1} {S1 : Sk} {m1 : Mm} (hd : decode M.2.1 pc = .ok (.invokestatic idx, 3)) (hml : nst M.1 idx y ∈ nests) (hy : YS y Mc n) (hc : CallOK l G Mc y dc as S mm rr S1 m1) (hdc : dc + 1 ≤ d) (hn : as.length = n) (hrm : (rest.map wd).sum ≤ 8)
    (k : Run l G M d (pc + 3) L (rr.toList ++ rest) S1 m1 r S' mm') : Run l G M d pc L (as.reverse ++ rest) S mm r S' mm' := by
  obtain ⟨mono, hM⟩ := hc
  refine call_on mono k fun p e R s m args below meth c Hr locs cells slots ls F Rp lv hdp hlo hcc hss => ⟨(as.map (toV G)).toArray, ?_⟩
  obtain ⟨⟨y1, y2, y3, y4, y5⟩, y6⟩ := hy
  have F' := F
  obtain ⟨hx, hb, hmx, hr, hlocks, hnm, hown, hts, hKS⟩ := F'
  have cw := va_cnB (R := R) (rm := { frames := dc, cells := sN S1 - sN S, slots := sW S1 - sW S, locals := 40 * dc }) (maxL := Mc.2.2.1) (bytes := Mc.2.1) (ret := Mc.2.2.2.1) n hts (good_ws y1) rfl rfl rfl (hKS.2.2.1 _ hml) (hts _ y2) ⟨y3.1, y3.2, y4⟩ ⟨by show dc + 1 ≤ _; omega, by show 8 + (Mc.2.2.1 + 11) + 40 * dc ≤ _; omega⟩
  exact va_runSN (As := as.map (toV G)) (rest := rest.map (toV G)) (nL := M.2.2.1) ⟨hx, hb, hmx, hown, hts⟩ hM ⟨cw, hts _ y6, trivial⟩ ⟨blindR, fun U hU hW => ⟨rfl, by rw [hU]; exact Rp, hKS.warm hW⟩⟩ rfl (by rw [List.length_map]; exact hn) lv.1 (by simp) (lv_room (by rw [wd_sum]; exact hrm)) hd ⟨hcc, hss⟩
theorem r_callI {idx n b dc : Nat} {y : MethodName} {Mc : MI} {as rest : List V1} {rr : Option V1} {S1 : Sk} {m1 : Mm} (hd : decode M.2.1 pc = .ok (.invokespecial idx, 3)) (hml : Cond.methodLink M.1 idx y ∈ gtbl) (hy : YI y Mc n) (hc : CallOK l G Mc y dc (vr (some b) :: as) S mm rr S1 m1) (hdc : dc + 1 ≤ d) (hn : as.length = n) (hrm : (rest.map wd).sum ≤ 8)
    (k : Run l G M d (pc + 3) L (rr.toList ++ rest) S1 m1 r S' mm') : Run l G M d pc L (as.reverse ++ vr (some b) :: rest) S mm r S' mm' := by
  obtain ⟨mono, hM⟩ := hc
  refine call_on mono k fun p e R s m args below meth c Hr locs cells slots ls F Rp lv hdp hlo hcc hss => ⟨(Value.ref (G.1 + b) :: as.map (toV G)).toArray, ?_⟩
  obtain ⟨⟨y1, y2, y3, y4, y5⟩, y6, y7, y8⟩ := hy
  have F' := F
  obtain ⟨hx, hb, hmx, hr, hlocks, hnm, hown, hts, hKS⟩ := F'
  rw [y8] at hM y1
  have cb := callB_of (R := R) (rm := { frames := dc, cells := sN S1 - sN S, slots := sW S1 - sW S, locals := 40 * dc }) (maxL := Mc.2.2.1) (bytes := Mc.2.1) (ret := none) (own := M.1) (index := idx) (Ts := gtbl) n hts (good_ws y1) rfl rfl rfl (hts _ y2) (hts _ hml) ⟨y3.1, y3.2, y4⟩ ⟨by show dc + 1 ≤ _; omega, by show 8 + (Mc.2.2.1 + 11) + 40 * dc ≤ _; omega⟩
  exact va_runI (As := as.map (toV G)) (rest := rest.map (toV G)) (b := G.1 + b) (nL := M.2.2.1) ⟨hx, hb, hmx, hown, hts⟩ hM ⟨cb, y7, hts _ y6⟩ ⟨blindR, fun U hU hW => ⟨rfl, by rw [hU]; exact Rp, hKS.warm hW⟩⟩ rfl (by rw [List.length_map]; exact hn) lv.1 (by simp [toV, rv]) (lv_room (by rw [wd_sum]; exact hrm)) hd ⟨hcc, hss⟩
theorem r_callIN {idx n b dc : Nat} {y : MethodName} {Mc : MI} {as rest : List V1} {rr : Option V1} {S1 : Sk} {m1 : Mm} (hd : decode M.2.1 pc = .ok (.invokespecial idx, 3)) (hml : nst M.1 idx y ∈ nests) (hy : YI y Mc n) (hc : CallOK l G Mc y dc (vr (some b) :: as) S mm rr S1 m1) (hdc : dc + 1 ≤ d) (hn : as.length = n) (hrm : (rest.map wd).sum ≤ 8)
    (k : Run l G M d (pc + 3) L (rr.toList ++ rest) S1 m1 r S' mm') : Run l G M d pc L (as.reverse ++ vr (some b) :: rest) S mm r S' mm' := by
  obtain ⟨mono, hM⟩ := hc
  refine call_on mono k fun p e R s m args below meth c Hr locs cells slots ls F Rp lv hdp hlo hcc hss => ⟨(Value.ref (G.1 + b) :: as.map (toV G)).toArray, ?_⟩
  obtain ⟨⟨y1, y2, y3, y4, y5⟩, y6, y7, y8⟩ := hy
  have F' := F
  obtain ⟨hx, hb, hmx, hr, hlocks, hnm, hown, hts, hKS⟩ := F'
  rw [y8] at hM y1
  have cw := va_cnB (R := R) (rm := { frames := dc, cells := sN S1 - sN S, slots := sW S1 - sW S, locals := 40 * dc }) (maxL := Mc.2.2.1) (bytes := Mc.2.1) (ret := none) n hts (good_ws y1) rfl rfl rfl (hKS.2.2.1 _ hml) (hts _ y2) ⟨y3.1, y3.2, y4⟩ ⟨by show dc + 1 ≤ _; omega, by show 8 + (Mc.2.2.1 + 11) + 40 * dc ≤ _; omega⟩
  exact va_runIN (As := as.map (toV G)) (rest := rest.map (toV G)) (b := G.1 + b) (nL := M.2.2.1) ⟨hx, hb, hmx, hown, hts⟩ hM ⟨cw, y7, hts _ y6⟩ ⟨blindR, fun U hU hW => ⟨rfl, by rw [hU]; exact Rp, hKS.warm hW⟩⟩ rfl (by rw [List.length_map]; exact hn) lv.1 (by simp [toV, rv]) (lv_room (by rw [wd_sum]; exact hrm)) hd ⟨hcc, hss⟩
theorem r_objInit {idx b : Nat} {rest : List V1} (hd : decode M.2.1 pc = .ok (.invokespecial idx, 3)) (hml : Cond.methodLink M.1 idx Lib.objectInit ∈ gtbl) (h2 : Cond.instanceMethod Lib.objectInit ∈ gtbl) (h3 : Cond.code Lib.objectInit ⟨#[0xb1]⟩ 1 none ∈ gtbl) (hdd : 1 ≤ d) (hrm : (rest.map wd).sum ≤ 8)
    (k : Run l G M d (pc + 3) L rest S mm r S' mm') : Run l G M d pc L (vr (some b) :: rest) S mm r S' mm' :=
  ⟨k.1, fun p e R s m args below meth c Hr locs cells slots ls F Rp hl lv hdp hlo hc hs => by
    refine W.objInit F.1 F.2.1 F.2.2.2.2.2.2.1 (F.2.2.2.2.2.2.2.1 _ hml) (F.2.2.2.2.2.2.2.1 _ h2) (F.2.2.2.2.2.2.2.1 _ h3) rfl (lv.1.trans F.2.2.1.symm) rfl hd (by omega) ?_ ?_
    · have := lv_room (m := m) (pc := pc) (ls := ls) (rest := []) (st := rest.map (toV G)) (by rw [wd_sum]; exact hrm)
      show 2 * 0 + _ + 12 ≤ _
      have h4 : ((rest.map (toV G)).map fun v => v.category).sum ≤ 8 := by rw [wd_sum]; exact hrm
      omega
    · exact k.2 p _ R s m args below meth c Hr locs cells slots ls F Rp hl lv hdp hlo hc hs⟩
end CALL
