/-! L1: what is made, calls, ends -/
def dok : FieldType → Bool
  | .float => false
  | .double => false
  | _ => true
/-- a link of the pool to a class whose objects are made -/
def NW (own : String) (idx ci N : Nat) : Prop := ci < 13 ∧ ∃ q : vw_C, vwCl[ci]? = some q ∧ q.2.2 = N ∧ Cond.classLink own idx q.1 ∈ gtbl ∧ Cond.instantiable q.1 N ∈ gtbl ∧ Cond.initialized q.1 ∈ gtbl ∧ (∀ w ∈ u_ws q.1 q.2.1 q.2.2, w ∈ gtbl) ∧ (∀ j, j < N → parseFieldDescriptor (q.2.1 j).2.2.1 = some (ty13 ci j)) ∧ (∀ j, j < N → dok (ty13 ci j) = true)
section CALLS
variable {l : Launch} {G : Gt} {M : MI} {d pc : Nat} {L : List (Option V1)} {st : List V1} {S : Sk} {mm : Mm} {r : Option V1} {S' : Sk} {mm' : Mm}
theorem r_new {idx ci N : Nat} (hd : decode M.2.1 pc = .ok (.new idx, 3)) (hw : NW M.1 idx ci N) (kk : Run l G M d (pc + 3) L (vr (some S.1) :: st) (nwS S ci 0 N) (nwM S mm) r S' mm') : Run l G M d pc L st S mm r S' mm' := by
  obtain ⟨⟨k1, k2⟩, kk⟩ := kk
  have k1 : S.1 + 1 ≤ sN S' := k1
  have k2 : S.2.1 + N ≤ sW S' := k2
  refine ⟨⟨by show S.1 ≤ _; omega, by show S.2.1 ≤ _; omega⟩, fun p e R s m args below meth c Hr locs cells slots ls F Rp hl lv hdp hlo hc hs => ?_⟩
  obtain ⟨hci, q, hq, hN, w1, w2, w3, hin, hty, hdok⟩ := hw
  have F' := F
  obtain ⟨hx, hb, hml, hr, hlocks, hnm, hown, hts, hKS⟩ := F'
  have hKn := hKS.1.1 ci _ hq
  have hc' : cells + (sN S' - S.1) ≤ R.cells := hc
  have hs' : slots + (sW S' - S.2.1) ≤ R.slots := hs
  refine W.newcK hx hb hown (hts _ w1) (hts _ w2) (hts _ w3) rfl hd (by omega) (by omega) hKn.2.1 rfl fun H1 kC hkC e1 z1 o1 => ?_
  have ob := u_born (ty13 ci) hts hin hKn hkC e1 (fun j hj => hty j (by rw [← hN]; exact hj))
  have Rp1 : Rep G (nwS S ci 0 N) (nwM S mm) H1 := by
    obtain ⟨cell, g1, g2, g3, g4⟩ := ob
    refine rep_new Rp g1 z1 o1 ?_
    have hk : sK (nwS S ci 0 N) S.1 = (ci, 0) := by simp [nwS, sK]
    refine ⟨fun _ => ?_, fun h => absurd (by rw [hk]; exact hci) h⟩
    rw [hk]
    refine ⟨g2, g3, fun j hj => ?_⟩
    have hj' : j < q.2.2 := by rw [← nf13_of hq]; exact hj
    rw [g4 j hj']
    have h1 := hdok j (by rw [← hN]; exact hj')
    simp only [fv, nwS, nwM, sR, mI, mL, if_true]
    revert h1
    cases ty13 ci j <;> simp [dok, ftk, defaultValue, rv]
  have K := kk p e R s m args below meth c H1 locs (cells + 1) (slots + N) ls F Rp1 hl lv hdp hlo (by show cells + 1 + (sN S' - (S.1 + 1)) ≤ _; omega) (by show slots + N + (sW S' - (S.2.1 + N)) ≤ _; omega)
  have e3 : cells + 1 + (sN S' - sN (nwS S ci 0 N)) = cells + (sN S' - sN S) := by show cells + 1 + (sN S' - (S.1 + 1)) = cells + (sN S' - S.1); omega
  have e4 : slots + N + (sW S' - sW (nwS S ci 0 N)) = slots + (sW S' - sW S) := by show slots + N + (sW S' - (S.2.1 + N)) = slots + (sW S' - S.2.1); omega
  rw [e3, e4] at K
  have e5 : (toV G (vr (some S.1))) = .ref Hr.size := by show Value.ref (G.1 + S.1) = _; rw [Rp.1]
  rw [List.map_cons, e5] at K
  exact K
theorem r_newa {at' : ArrayType} {t N : Nat} {n : Int32} (hd : decode M.2.1 pc = .ok (.newarray at', 2)) (hat : newarray.typeOf at' = aty t) (h1 : 20 ≤ t) (h2 : t < 23) (hw : Cond.arrayClass (aty t) ∈ gtbl) (hn : ¬ n < 0) (hN : n.toNatClampNeg = N) (hlim : N ≤ 60000) (kk : Run l G M d (pc + 2) L (vr (some S.1) :: st) (nwS S t N N) (nwM S mm) r S' mm') : Run l G M d pc L (vi n :: st) S mm r S' mm' := by
  obtain ⟨⟨k1, k2⟩, kk⟩ := kk
  have k1 : S.1 + 1 ≤ sN S' := k1
  have k2 : S.2.1 + N ≤ sW S' := k2
  refine ⟨⟨by show S.1 ≤ _; omega, by show S.2.1 ≤ _; omega⟩, fun p e R s m args below meth c Hr locs cells slots ls F Rp hl lv hdp hlo hc hs => ?_⟩
  have F' := F
  obtain ⟨hx, hb, hml, hr, hlocks, hnm, hown, hts, hKS⟩ := F'
  have hc' : cells + (sN S' - S.1) ≤ R.cells := hc
  have hs' : slots + (sW S' - S.2.1) ≤ R.slots := hs
  have hcb : componentBytes (newarray.typeOf at') ≤ 8 := by cases at' <;> decide
  refine va_newaK hx hb (by rw [hat]; exact hts _ hw) rfl hd rfl hn hN (by have := Nat.mul_le_mul hlim hcb; omega) (by omega) (by omega) rfl fun H1 cA e1 z1 o1 hAr hNm => ?_
  have hcA : cA = G.2.2.2.1 t := by
    have h3 := (hKS.2.1 t h1 (by omega)).2
    rw [hat] at hNm
    have : t = 20 ∨ t = 21 ∨ t = 22 := by omega
    rcases this with rfl | rfl | rfl <;> exact Option.some.inj (hNm.symm.trans h3)
  have Rp1 : Rep G (nwS S t N N) (nwM S mm) H1 := by
    refine rep_new Rp e1 z1 o1 ?_
    have hk : sK (nwS S t N N) S.1 = (t, N) := by simp [nwS, sK]
    refine ⟨fun h => ?_, fun _ => ?_⟩
    · rw [hk] at h
      have h3 : t < 13 := h
      omega
    · rw [hk, hcA, hat]
      show arrV _ _ _ = arrV _ _ _
      congr 1
      funext j
      rw [ev_i h2]
      have h4 : mI (nwM S mm) S.1 j = 0 := by simp [nwM, mI]
      rw [h4]
      have : t = 20 ∨ t = 21 ∨ t = 22 := by omega
      rcases this with rfl | rfl | rfl <;> rfl
  have K := kk p e R s m args below meth c H1 locs (cells + 1) (slots + N) ls F Rp1 hl lv hdp hlo (by show cells + 1 + (sN S' - (S.1 + 1)) ≤ _; omega) (by show slots + N + (sW S' - (S.2.1 + N)) ≤ _; omega)
  have e3 : cells + 1 + (sN S' - sN (nwS S t N N)) = cells + (sN S' - sN S) := by show cells + 1 + (sN S' - (S.1 + 1)) = cells + (sN S' - S.1); omega
  have e4 : slots + N + (sW S' - sW (nwS S t N N)) = slots + (sW S' - sW S) := by show slots + N + (sW S' - (S.2.1 + N)) = slots + (sW S' - S.2.1); omega
  rw [e3, e4] at K
  have e5 : (toV G (vr (some S.1))) = .ref Hr.size := by show Value.ref (G.1 + S.1) = _; rw [Rp.1]
  rw [List.map_cons, e5] at K
  exact K
theorem r_anew {idx t N : Nat} {n : Int32} {C : String} (hd : decode M.2.1 pc = .ok (.anewarray idx, 3)) (hat : aty t = .object C) (h1 : 23 ≤ t) (h2 : t ≤ 25) (hw : Cond.classLink M.1 idx C ∈ gtbl) (hn : ¬ n < 0) (hN : n.toNatClampNeg = N) (hlim : N ≤ 60000) (kk : Run l G M d (pc + 3) L (vr (some S.1) :: st) (nwS S t N N) (nwM S mm) r S' mm') : Run l G M d pc L (vi n :: st) S mm r S' mm' := by
  obtain ⟨⟨k1, k2⟩, kk⟩ := kk
  have k1 : S.1 + 1 ≤ sN S' := k1
  have k2 : S.2.1 + N ≤ sW S' := k2
  refine ⟨⟨by show S.1 ≤ _; omega, by show S.2.1 ≤ _; omega⟩, fun p e R s m args below meth c Hr locs cells slots ls F Rp hl lv hdp hlo hc hs => ?_⟩
  have F' := F
  obtain ⟨hx, hb, hml, hr, hlocks, hnm, hown, hts, hKS⟩ := F'
  have hc' : cells + (sN S' - S.1) ≤ R.cells := hc
  have hs' : slots + (sW S' - S.2.1) ≤ R.slots := hs
  have hover : va_AO C s := by
    have : t = 23 ∨ t = 24 ∨ t = 25 := by omega
    rcases this with rfl | rfl | rfl
    · cases hat; exact hKS.2.2.2.1.1
    · cases hat; exact hKS.2.2.2.1.2.1
    · cases hat; exact hKS.2.2.2.1.2.2
  subst hN
  refine W.anew hx hb hown (hts _ hw) (va_AO.use hover) rfl hd rfl hn (by omega) (by omega) (by omega) fun cA kA comp f1 f2 f3 f4 => ?_
  have hcA : cA = G.2.2.2.1 t := by
    have h3 := (hKS.2.1 t (by omega) h2).2
    rw [hat] at h3
    obtain ⟨kA', comp', -, -, -, h6⟩ := h3
    exact Option.some.inj (f1.symm.trans h6)
  generalize hH1 : Hr.push ({ cls := cA, slots := Array.replicate n.toNatClampNeg .null, vm := .none } : Cell) = H1
  have z1 : H1.size = Hr.size + 1 := by rw [← hH1, Array.size_push]
  have e1 : H1[Hr.size]? = some (arrV cA n.toNatClampNeg (fun _ => .null)) := by rw [← hH1, Array.getElem?_push_size, ← arrV_new]
  have o1 : ∀ q : Nat, q < Hr.size → H1[q]? = Hr[q]? := fun q hq => by rw [← hH1, Array.getElem?_push, if_neg (Nat.ne_of_lt hq)]
  have Rp1 : Rep G (nwS S t n.toNatClampNeg n.toNatClampNeg) (nwM S mm) H1 := by
    refine rep_new Rp e1 z1 o1 ?_
    have hk : sK (nwS S t n.toNatClampNeg n.toNatClampNeg) S.1 = (t, n.toNatClampNeg) := by simp [nwS, sK]
    refine ⟨fun h => ?_, fun _ => ?_⟩
    · rw [hk] at h
      have h3 : t < 13 := h
      omega
    · rw [hk, hcA]
      show arrV _ _ _ = arrV _ _ _
      congr 1
      funext j
      rw [ev_r h1]
      have h4 : sR (nwS S t n.toNatClampNeg n.toNatClampNeg) S.1 j = none := by simp [nwS, sR]
      rw [h4]
      rfl
  have K := kk p e R s m args below meth c H1 locs (cells + 1) (slots + n.toNatClampNeg) ls F Rp1 hl lv hdp hlo (by show cells + 1 + (sN S' - (S.1 + 1)) ≤ _; omega) (by show slots + n.toNatClampNeg + (sW S' - (S.2.1 + n.toNatClampNeg)) ≤ _; omega)
  have e3 : cells + 1 + (sN S' - sN (nwS S t n.toNatClampNeg n.toNatClampNeg)) = cells + (sN S' - sN S) := by show cells + 1 + (sN S' - (S.1 + 1)) = cells + (sN S' - S.1); omega
  have e4 : slots + n.toNatClampNeg + (sW S' - sW (nwS S t n.toNatClampNeg n.toNatClampNeg)) = slots + (sW S' - sW S) := by show slots + n.toNatClampNeg + (sW S' - (S.2.1 + n.toNatClampNeg)) = slots + (sW S' - S.2.1); omega
  rw [e3, e4] at K
  have e5 : (toV G (vr (some S.1))) = .ref Hr.size := by show Value.ref (G.1 + S.1) = _; rw [Rp.1]
  rw [List.map_cons, e5] at K
  exact K
/-- ends -/
theorem r_ireturn {x : Int32} {ty : FieldType} (hd : decode M.2.1 pc = .ok (.ireturn, 1)) (hr : M.2.2.2.1 = some ty) (hn : narrow ty (.int x) = .int x) : Run l G M d pc L [vi x] S mm (some (vi x)) S mm :=
  ⟨⟨Nat.le_refl _, Nat.le_refl _⟩, fun p e R s m args below meth c Hr locs cells slots ls F Rp hl lv hdp hlo hc hs => by
    simp only [Nat.sub_self, Nat.add_zero]
    exact W.zret (v := x) F.1 F.2.1 (F.2.2.2.1.trans hr) hn (fun t ht _ => ⟨rfl, by rw [ht]; exact Rp⟩) hl hd F.2.2.2.2.1⟩
theorem r_return (hd : decode M.2.1 pc = .ok (.return_, 1)) (hr : M.2.2.2.1 = none) : Run l G M d pc L [] S mm none S mm :=
  ⟨⟨Nat.le_refl _, Nat.le_refl _⟩, fun p e R s m args below meth c Hr locs cells slots ls F Rp hl lv hdp hlo hc hs => by
    simp only [Nat.sub_self, Nat.add_zero]
    exact W.vret F.1 F.2.1 (F.2.2.2.1.trans hr) (fun t ht _ => ⟨rfl, by rw [ht]; exact Rp⟩) hl hd F.2.2.2.2.1⟩
theorem r_areturn {v : V1} {rt : FieldType} (hd : decode M.2.1 pc = .ok (.areturn, 1)) (hr : M.2.2.2.1 = some rt) (hrt : (∃ n, rt = .object n) ∨ ∃ t, rt = .array t) (hv : (∃ o, v = vr o) ∨ ∃ n, v = vx n) : Run l G M d pc L [v] S mm (some v) S mm :=
  ⟨⟨Nat.le_refl _, Nat.le_refl _⟩, fun p e R s m args below meth c Hr locs cells slots ls F Rp hl lv hdp hlo hc hs => by
    simp only [Nat.sub_self, Nat.add_zero]
    exact W.aret (v := toV G v) F.1 F.2.1 (F.2.2.2.1.trans hr) hrt (by
      rcases hv with ⟨o, rfl⟩ | ⟨n, rfl⟩
      · cases o with
        | none => exact Or.inl rfl
        | some x => exact Or.inr ⟨_, rfl⟩
      · exact Or.inr ⟨_, rfl⟩) (fun t ht _ => ⟨rfl, by rw [ht]; exact Rp⟩) hl hd F.2.2.2.2.1⟩
/-- the locals at the start -/
def enL : List V1 → List (Option V1)
  | [] => []
  | v :: t => if cat1 v = true then some v :: enL t else some v :: none :: enL t
theorem enL_args (G : Gt) : ∀ (as : List V1) (k n : Nat) (q : Nat × Value), q ∈ loL G k (enL as ++ List.replicate n none) → q ∈ lv_args k (as.map (toV G))
  | [], k, n, q, h => by
    exfalso
    obtain ⟨i, w⟩ := q
    obtain ⟨j, v, -, h2, -⟩ := loL_mem.mp h
    rw [enL, List.nil_append, List.getElem?_replicate] at h2
    split at h2 <;> cases h2
  | v :: t, k, n, q, h => by
    rw [List.map_cons, lv_args]
    by_cases hc : cat1 v = true
    · rw [enL, if_pos hc, List.cons_append, loL] at h
      rw [if_neg (by rw [toV_cat1 hc]; decide)]
      rcases List.mem_cons.mp h with h | h
      · exact List.mem_cons.mpr (Or.inl h)
      · exact List.mem_cons_of_mem _ (enL_args G t (k + 1) n q h)
    · rw [enL, if_neg hc, List.cons_append, loL, List.cons_append, loL] at h
      rw [if_pos (toV_cat2 (by simpa using hc))]
      rcases List.mem_cons.mp h with h | h
      · exact List.mem_cons.mpr (Or.inl h)
      · exact List.mem_cons_of_mem _ (enL_args G t (k + 2) n q h)
theorem enL_len (G : Gt) : ∀ (as : List V1), (lg_sl (as.map (toV G))).length = (enL as).length
  | [] => rfl
  | v :: t => by
    have ih := enL_len G t
    unfold lg_sl at ih ⊢
    rw [List.map_cons, List.flatMap_cons, List.length_append, ih, enL]
    by_cases hc : cat1 v = true
    · rw [if_neg (by rw [toV_cat1 hc]; decide), if_pos hc]
      simp
      omega
    · rw [if_pos (toV_cat2 (by simpa using hc)), if_neg hc]
      simp
      omega
theorem call_of_run {y : MethodName} {as : List V1} (hy : plainName y.cls = true) (hcls : y.cls = M.1) (hnm : y.name = M.2.2.2.2) (hlen : (enL as).length ≤ M.2.2.1) (k : Run l G M d 0 (enL as ++ List.replicate (M.2.2.1 - (enL as).length) none) [] S mm r S' mm') : CallOK l G M y d as S mm r S' mm' := by
  refine ⟨k.1, Met.ofW (cc := M.2.1) (maxL := M.2.2.1) (ret := M.2.2.2.1) hy rfl ?_⟩
  intro p e s m args below meth c s₁ B hml hv
  obtain ⟨rfl, Rp, hK⟩ := hv
  have hts := atoms_spec (ws := Cond.code y M.2.1 M.2.2.1 M.2.2.2.1 :: gtbl) B.pre
  have F : Fr G M p s m (as.map (toV G)).toArray meth c := ⟨B.exec, B.bytes, hml, B.returns, B.notSynchronized, (name_of_methodNamed B.named B.method).1.trans hnm, by rw [← hcls]; exact findClass_of_methodNamed B.named, fun w hw => hts w (List.mem_cons_of_mem _ hw), hK⟩
  rw [lg_entry_eq]
  have lv := lv_entry (as.map (toV G)) (n := M.2.2.1) (by rw [enL_len]; exact hlen)
  have K := k.2 p e (headSpec (Cond.code y M.2.1 M.2.2.1 M.2.2.2.1 :: gtbl) { frames := d, cells := sN S' - sN S, slots := sW S' - sW S, locals := 40 * d }).room s m (as.map (toV G)).toArray below meth c s.heap [] 0 0 _ F Rp (fun q h => by cases h) (lv_weak lv (fun q hq => enL_args G as 0 _ q hq)) (Nat.le_refl _) (Nat.le_refl _) (by rw [Nat.zero_add]; exact Nat.le_refl _) (by rw [Nat.zero_add]; exact Nat.le_refl _)
  rw [Nat.zero_add, Nat.zero_add] at K
  exact K
end CALLS
