/-! what was there before: the script, String constants -/
section EXT
variable {l : Launch} {G : Gt} {M : MI} {d pc : Nat} {L : List (Option V1)} {st : List V1} {S : Sk} {mm : Mm} {r : Option V1} {S' : Sk} {mm' : Mm}
theorem ext_keep {Hr : Heap} (Rp : Rep G S mm Hr) {a : Nat} (h : ¬ G.1 ≤ a) : Hr[a]? = G.2.1[a]? := Rp.2.1 a (by omega)
theorem Fr.kx {p : Program} {s : State} {m : MethodId} {args : Array Value} {meth : Method} {c : Code} (F : Fr G M p s m args meth c) : KX G s := F.2.2.2.2.2.2.2.2.2.2.2.2
theorem r_sld {i : Int32} (hd : decode M.2.1 pc = .ok (.iaload, 1)) (hin : vp_in i G.2.2.2.2.2.1) (kk : Run l G M d (pc + 1) L (vi (G.2.2.2.2.2.2 (ix i)) :: st) S mm r S' mm') : Run l G M d pc L (vi i :: vx 0 :: st) S mm r S' mm' :=
  ⟨kk.1, fun p e R s m args below meth c Hr locs cells slots ls F Rp hl lv hdp hlo hc hs => by
    obtain ⟨-, -, -, -, ⟨scr, h1, h2, h3, h4, h5⟩, h12⟩ := F.kx
    have hlt : i.toNatClampNeg < G.2.2.2.2.2.1 := Nat.not_le.mp fun q => hin (Or.inr q)
    refine W.iald (v := .int (G.2.2.2.2.2.2 (ix i))) F.1 F.2.1 (by rw [ext_keep Rp (by omega)]; exact h1) h2 h3 (by rw [h4]; exact hin) (h5 _ hlt) rfl rfl hd ?_
    exact kk.2 p _ R s m args below meth c Hr locs cells slots ls F Rp hl lv hdp hlo hc hs⟩
theorem r_slen (hd : decode M.2.1 pc = .ok (.arraylength, 1)) (kk : Run l G M d (pc + 1) L (vi (Int32.ofNat G.2.2.2.2.2.1) :: st) S mm r S' mm') : Run l G M d pc L (vx 0 :: st) S mm r S' mm' :=
  ⟨kk.1, fun p e R s m args below meth c Hr locs cells slots ls F Rp hl lv hdp hlo hc hs => by
    obtain ⟨-, -, -, -, ⟨scr, h1, h2, h3, h4, h5⟩, h12⟩ := F.kx
    refine W.alen (n := Int32.ofNat G.2.2.2.2.2.1) F.1 F.2.1 (by rw [ext_keep Rp (by omega)]; exact h1) h2 (by rw [h4] <;> rfl) rfl rfl hd ?_
    exact kk.2 p _ R s m args below meth c Hr locs cells slots ls F Rp hl lv hdp hlo hc hs⟩
theorem w_gets {p : Program} {e : Env} {R : Room} {s : State} {m : MethodId} {args : Array Value} {below : List Frame} {meth : Method} {c : Code} {Hr : Heap} {locs : List Loc} {cells slots : Nat} {Q : State → Prop} {ls : Array Slot} {rest : List Value} {idx : Nat} {C n dd : String} {v : Value}
    (F : Fr G M p s m args meth c) (Rp : Rep G S mm Hr) (hZ : va_Z C n dd v (fun q => G.1 ≤ q) s G.2.1) (hd : decode M.2.1 pc = .ok (.getstatic idx, 3)) (hl : Cond.fieldLink M.1 idx C n dd ∈ gtbl)
    (kk : W p l e R s m args below meth c Hr locs cells slots Q (F0 m (pc + 3) ls (v :: rest))) : W p l e R s m args below meth c Hr locs cells slots Q (F0 m pc ls rest) := by
  obtain ⟨cf, kf, fi, f, a, cell, h1, h2, h3, h4, h5, h6, h7, h8⟩ := hZ
  exact W.gets F.1 F.2.1 F.2.2.2.2.2.2.1 (F.2.2.2.2.2.2.2.1 _ hl) h1 h2 h3 h4 (by rw [ext_keep Rp h8]; exact h5) (fun e => by rw [e] at h6; cases h6) h7 rfl hd kk
theorem r_getsC {idx : Nat} (hd : decode M.2.1 pc = .ok (.getstatic idx, 3)) (hl : Cond.fieldLink M.1 idx "java/lang/String" "COMPACT_STRINGS" "Z" ∈ gtbl) (kk : Run l G M d (pc + 3) L (vi 1 :: st) S mm r S' mm') : Run l G M d pc L st S mm r S' mm' :=
  ⟨kk.1, fun p e R s m args below meth c Hr locs cells slots ls F Rp hll lv hdp hlo hc hs => w_gets F Rp F.kx.2.2.1 hd hl (kk.2 p _ R s m args below meth c Hr locs cells slots ls F Rp hll lv hdp hlo hc hs)⟩
theorem r_getsF {idx : Nat} (hd : decode M.2.1 pc = .ok (.getstatic idx, 3)) (hl : Cond.fieldLink M.1 idx "jdk/internal/util/Preconditions" "SIOOBE_FORMATTER" "Ljava/util/function/BiFunction;" ∈ gtbl) (kk : ∀ v, (v = vr none ∨ v = vx 200) → Run l G M d (pc + 3) L (v :: st) S mm r S' mm') : Run l G M d pc L st S mm r S' mm' :=
  ⟨(kk _ (Or.inl rfl)).1, fun p e R s m args below meth c Hr locs cells slots ls F Rp hll lv hdp hlo hc hs => by
    rcases F.kx.2.2.2.1 with h | h
    · exact w_gets F Rp h hd hl ((kk _ (Or.inl rfl)).2 p _ R s m args below meth c Hr locs cells slots ls F Rp hll lv hdp hlo hc hs)
    · exact w_gets F Rp h hd hl ((kk _ (Or.inr rfl)).2 p _ R s m args below meth c Hr locs cells slots ls F Rp hll lv hdp hlo hc hs)⟩
theorem w_getf {p : Program} {e : Env} {R : Room} {s : State} {m : MethodId} {args : Array Value} {below : List Frame} {meth : Method} {c : Code} {Hr : Heap} {locs : List Loc} {cells slots : Nat} {Q : State → Prop} {ls : Array Slot} {rest : List Value} {idx q : Nat} {C n dd : String} {v : Value}
    (F : Fr G M p s m args meth c) (Rp : Rep G S mm Hr) (hE : va_OF C n dd v q (fun q => G.1 ≤ q) s G.2.1) (hd : decode M.2.1 pc = .ok (.getfield idx, 3)) (hl : Cond.fieldLink M.1 idx C n dd ∈ gtbl)
    (kk : W p l e R s m args below meth c Hr locs cells slots Q (F0 m (pc + 3) ls (v :: rest))) : W p l e R s m args below meth c Hr locs cells slots Q (F0 m pc ls (.ref q :: rest)) := by
  obtain ⟨cf, k, fi, f, cell, h1, h2, h3, h4, h5, h6⟩ := hE
  exact W.getf F.1 F.2.1 F.2.2.2.2.2.2.1 (F.2.2.2.2.2.2.2.1 _ hl) h1 h2 (by rw [ext_keep Rp h6]; exact h3) h4 (v := v) h5 rfl rfl hd kk
theorem r_getV {idx i : Nat} (hi : i < 23) (hd : decode M.2.1 pc = .ok (.getfield idx, 3)) (hl : Cond.fieldLink M.1 idx "java/lang/String" "value" "[B" ∈ gtbl) (kk : Run l G M d (pc + 3) L (vx (i + 101) :: st) S mm r S' mm') : Run l G M d pc L (vx (i + 1) :: st) S mm r S' mm' :=
  ⟨kk.1, fun p e R s m args below meth c Hr locs cells slots ls F Rp hll lv hdp hlo hc hs => w_getf F Rp (F.kx.1.1 i hi).2.2.1 hd hl (kk.2 p _ R s m args below meth c Hr locs cells slots ls F Rp hll lv hdp hlo hc hs)⟩
theorem r_getCo {idx i : Nat} (hi : i < 23) (hd : decode M.2.1 pc = .ok (.getfield idx, 3)) (hl : Cond.fieldLink M.1 idx "java/lang/String" "coder" "B" ∈ gtbl) (kk : Run l G M d (pc + 3) L (vi 0 :: st) S mm r S' mm') : Run l G M d pc L (vx (i + 1) :: st) S mm r S' mm' :=
  ⟨kk.1, fun p e R s m args below meth c Hr locs cells slots ls F Rp hll lv hdp hlo hc hs => w_getf F Rp (F.kx.1.1 i hi).2.1 hd hl (kk.2 p _ R s m args below meth c Hr locs cells slots ls F Rp hll lv hdp hlo hc hs)⟩
theorem r_alenX {i : Nat} (hi : i < 23) (hd : decode M.2.1 pc = .ok (.arraylength, 1)) (kk : Run l G M d (pc + 1) L (vi (Int32.ofNat (sLen.getD i 0)) :: st) S mm r S' mm') : Run l G M d pc L (vx (i + 101) :: st) S mm r S' mm' :=
  ⟨kk.1, fun p e R s m args below meth c Hr locs cells slots ls F Rp hll lv hdp hlo hc hs => by
    obtain ⟨cell, h1, h2, h3, h4, h5, h6, h7⟩ := (F.kx.1.1 i hi).2.2.2
    exact W.alen (n := Int32.ofNat (sLen.getD i 0)) F.1 F.2.1 (by rw [ext_keep Rp h7]; exact h1) h2 h5 rfl rfl hd (kk.2 p _ R s m args below meth c Hr locs cells slots ls F Rp hll lv hdp hlo hc hs)⟩
theorem r_baldX {i : Nat} {j : Int32} (hi : i < 23) (hd : decode M.2.1 pc = .ok (.baload, 1)) (hin : vp_in j (sLen.getD i 0)) (kk : Run l G M d (pc + 1) L (vi ((sByt.getD i []).getD (ix j) 0) :: st) S mm r S' mm') : Run l G M d pc L (vi j :: vx (i + 101) :: st) S mm r S' mm' :=
  ⟨kk.1, fun p e R s m args below meth c Hr locs cells slots ls F Rp hll lv hdp hlo hc hs => by
    obtain ⟨cell, h1, h2, h3, h4, h5, h6, h7⟩ := (F.kx.1.1 i hi).2.2.2
    have hlt : j.toNatClampNeg < sLen.getD i 0 := Nat.not_le.mp fun q => hin (Or.inr q)
    have hin' : ¬ (j < 0 ∨ cell.slots.size ≤ j.toNatClampNeg) := by
      intro q
      rcases q with q | q
      · exact hin (Or.inl q)
      · omega
    exact W.bald (v := .int ((sByt.getD i []).getD (ix j) 0)) F.1 F.2.1 (by rw [ext_keep Rp h7]; exact h1) h2 h3 hin' (h6 _ hlt) rfl rfl hd (kk.2 p _ R s m args below meth c Hr locs cells slots ls F Rp hll lv hdp hlo hc hs)⟩
theorem r_i2c {x : Int32} (hd : decode M.2.1 pc = .ok (.i2c, 1)) (k : Run l G M d (pc + 1) L (vi (x.toUInt32 % 65536).toInt32 :: st) S mm r S' mm') : Run l G M d pc L (vi x :: st) S mm r S' mm' := run_st (k := k) fun _ _ _ _ _ _ _ _ _ _ _ _ _ _ _ F _ w => lv_i2c F.1 F.2.1 hd rfl w
def YX (y : MethodName) (M : MI) (n : Nat) : Prop := YB y M n ∧ Cond.instanceMethod y ∈ gtbl ∧ Cond.selects y.cls y y ∈ gtbl ∧ y.cls = "java/lang/String"
theorem r_callVX {idx n i dc : Nat} {y : MethodName} {Mc : MI} {as rest : List V1} {rr : Option V1} {S1 : Sk} {m1 : Mm} (hi : i < 23) (hd : decode M.2.1 pc = .ok (.invokevirtual idx, 3)) (hml : Cond.methodLink M.1 idx y ∈ gtbl) (hy : YX y Mc n) (hc : CallOK l G Mc y dc (vx (i + 1) :: as) S mm rr S1 m1) (hdc : dc + 1 ≤ d) (hn : as.length = n) (hrm : (rest.map wd).sum ≤ 8)
    (k : Run l G M d (pc + 3) L (rr.toList ++ rest) S1 m1 r S' mm') : Run l G M d pc L (as.reverse ++ vx (i + 1) :: rest) S mm r S' mm' := by
  obtain ⟨mono, hM⟩ := hc
  refine call_on mono k fun p e R s m args below meth c Hr locs cells slots ls F Rp lv hdp hlo hcc hss => ⟨(Value.ref (G.2.2.2.2.1 (i + 1)) :: as.map (toV G)).toArray, ?_⟩
  obtain ⟨⟨y1, y2, y3, y4, y5⟩, y6, y7, hqy⟩ := hy
  obtain ⟨cell, g1, g2, g3, g4⟩ := (F.kx.1.1 i hi).1
  have F' := F
  obtain ⟨hx, hb, hmx, hr, hlocks, hnm, hown, hts, hKS⟩ := F'
  have cw : CallW R s args M.1 y.cls idx y Mc.2.1 Mc.2.2.1 Mc.2.2.2.1 (Cond.code y Mc.2.1 Mc.2.2.1 Mc.2.2.2.1 :: gtbl) { frames := dc, cells := sN S1 - sN S, slots := sW S1 - sW S, locals := 40 * dc } (sN S1 - sN S) (sW S1 - sW S) n :=
    ⟨callB_of (Ts := gtbl) n hts (good_ws y1) rfl rfl rfl (hts _ y2) (hts _ hml) ⟨y3.1, y3.2, y4⟩ ⟨by show dc + 1 ≤ _; omega, by show 8 + (Mc.2.2.1 + 11) + 40 * dc ≤ _; omega⟩, hts _ y6, hts _ y7⟩
  exact va_runV (As := as.map (toV G)) (rest := rest.map (toV G)) (b := G.2.2.2.2.1 (i + 1)) (nL := M.2.2.1) ⟨hx, hb, hmx, hown, hts⟩ hM cw ⟨blindR, ⟨cell, by rw [ext_keep Rp g4]; exact g1, g2, by rw [hqy]; exact g3⟩, fun U hU hW => ⟨rfl, by rw [hU]; exact Rp, hKS.warm hW⟩⟩ rfl (by rw [List.length_map]; exact hn) lv.1 (by simp [toV]) (lv_room (by rw [wd_sum]; exact hrm)) hd ⟨hcc, hss⟩
end EXT
theorem sf_38 : Cond.fieldLink RJ0 38 "java/lang/String" "COMPACT_STRINGS" "Z" ∈ gtbl := gt_at 499 (by decide +kernel) (by decide +kernel)
theorem sf_9 : Cond.fieldLink RJ0 9 "java/lang/String" "value" "[B" ∈ gtbl := gt_at 1848 (by decide +kernel) (by decide +kernel)
theorem sf_15 : Cond.fieldLink RJ0 15 "java/lang/String" "coder" "B" ∈ gtbl := gt_at 1849 (by decide +kernel) (by decide +kernel)
theorem sf_1053 : Cond.fieldLink RJ0 1053 "jdk/internal/util/Preconditions" "SIOOBE_FORMATTER" "Ljava/util/function/BiFunction;" ∈ gtbl := gt_at 515 (by decide +kernel) (by decide +kernel)
section STR
variable {l : Launch} {G : Gt} {S : Sk} {mm : Mm}
theorem c_coder {i : Nat} (hi : i < 23) : CallOK l G M_J0_coder_7d493 yJ0_coder_7d493 0 [vx (i + 1)] S mm (some (vi 0)) S mm := by
  refine call_of_run rfl rfl rfl (Nat.le_of_ble_eq_true rfl) ?_
  show Run l G M_J0_coder_7d493 0 0 [some (vx (i + 1))] [] S mm (some (vi 0)) S mm
  refine r_getsC dJ0_coder_7d493_0 sf_38 ?_
  refine r_if_eq (tgt := 13) dJ0_coder_7d493_3 rfl (fun h => absurd h (by decide)) (fun _ => ?_)
  refine r_aload_nx dJ0_coder_7d493_6 rfl ?_
  refine r_getCo hi dJ0_coder_7d493_7 sf_15 ?_
  refine r_goto (tgt := 14) dJ0_coder_7d493_10 rfl ?_
  exact r_ireturn dJ0_coder_7d493_14 rfl rfl
theorem c_isLatin1 {i : Nat} (hi : i < 23) : CallOK l G M_J0_isLatin1_aae02 yJ0_isLatin1_aae02 0 [vx (i + 1)] S mm (some (vi 1)) S mm := by
  refine call_of_run rfl rfl rfl (Nat.le_of_ble_eq_true rfl) ?_
  show Run l G M_J0_isLatin1_aae02 0 0 [some (vx (i + 1))] [] S mm (some (vi 1)) S mm
  refine r_getsC dJ0_isLatin1_aae02_0 sf_38 ?_
  refine r_if_eq (tgt := 17) dJ0_isLatin1_aae02_3 rfl (fun h => absurd h (by decide)) (fun _ => ?_)
  refine r_aload_nx dJ0_isLatin1_aae02_6 rfl ?_
  refine r_getCo hi dJ0_isLatin1_aae02_7 sf_15 ?_
  refine r_if_ne (tgt := 17) dJ0_isLatin1_aae02_10 rfl (fun h => absurd rfl h) (fun _ => ?_)
  refine r_iconst (v := 1) dJ0_isLatin1_aae02_13 ci_1 ?_
  refine r_goto (tgt := 18) dJ0_isLatin1_aae02_14 rfl ?_
  exact r_ireturn dJ0_isLatin1_aae02_18 rfl rfl
theorem yX_coder : YX yJ0_coder_7d493 M_J0_coder_7d493 0 := ⟨yB_J0_coder_7d493, gt_in (by decide +kernel) (by decide +kernel), gt_in (by decide +kernel) (by decide +kernel), rfl⟩
theorem yX_isLatin1 : YX yJ0_isLatin1_aae02 M_J0_isLatin1_aae02 0 := ⟨yB_J0_isLatin1_aae02, gt_in (by decide +kernel) (by decide +kernel), gt_in (by decide +kernel) (by decide +kernel), rfl⟩
theorem yX_length : YX yJ0_length_8abf5 M_J0_length_8abf5 0 := ⟨yB_J0_length_8abf5, gt_in (by decide +kernel) (by decide +kernel), gt_in (by decide +kernel) (by decide +kernel), rfl⟩
theorem yX_charAt : YX yJ0_charAt_5068e M_J0_charAt_5068e 1 := ⟨yB_J0_charAt_5068e, gt_in (by decide +kernel) (by decide +kernel), gt_in (by decide +kernel) (by decide +kernel), rfl⟩
/-- the length of the n-th String constant, its character at a place -/
def m_slen (n : Nat) : Option Int32 := if 1 ≤ n ∧ n ≤ 23 then some (xshr (Int32.ofNat (sLen.getD (n - 1) 0)) 0) else none
def m_schar (n : Nat) (j : Int32) : Option Int32 := if 1 ≤ n ∧ n ≤ 23 then grd j (sLen.getD (n - 1) 0) (some ((((sByt.getD (n - 1) []).getD (ix j) 0) &&& 255).toUInt32 % 65536).toInt32) else none
theorem c_slen {n : Nat} {q : Int32} (e : m_slen n = some q) : CallOK l G M_J0_length_8abf5 yJ0_length_8abf5 1 [vx n] S mm (some (vi q)) S mm := by
  unfold m_slen at e
  split at e
  · rename_i hn
    obtain ⟨i, rfl⟩ : ∃ i, n = i + 1 := ⟨n - 1, by omega⟩
    have hi : i < 23 := by omega
    rw [Nat.add_sub_cancel] at e
    refine call_of_run rfl rfl rfl (Nat.le_of_ble_eq_true rfl) ?_
    show Run l G M_J0_length_8abf5 1 0 [some (vx (i + 1))] [] S mm (some (vi q)) S mm
    refine r_aload_nx dJ0_length_8abf5_0 rfl ?_
    refine r_getV hi dJ0_length_8abf5_1 sf_9 ?_
    refine r_alenX hi dJ0_length_8abf5_4 ?_
    refine r_aload_nx dJ0_length_8abf5_5 rfl ?_
    refine r_callVX (as := []) (rest := [_]) hi dJ0_length_8abf5_6 ml_J0_335 yX_coder (c_coder hi) (by decide) rfl (Nat.le_of_ble_eq_true rfl) ?_
    refine r_ishr dJ0_length_8abf5_9 ?_
    cases e
    exact r_ireturn dJ0_length_8abf5_10 rfl rfl
  · cases e
theorem c_preIndex {a b : Int32} {v : V1} (hv : v = vr none ∨ v = vx 200) (h0 : ¬ a < 0) (h1 : a < b) : CallOK l G M_J3_checkIndex_8e157 yJ3_checkIndex_8e157 0 [vi a, vi b, v] S mm (some (vi a)) S mm := by
  have hc : cat1 v = true := by rcases hv with rfl | rfl <;> rfl
  refine call_of_run rfl rfl rfl (by rcases hv with rfl | rfl <;> exact Nat.le_of_ble_eq_true rfl) ?_
  have e : enL [vi a, vi b, v] ++ List.replicate (M_J3_checkIndex_8e157.2.2.1 - (enL [vi a, vi b, v]).length) none = [some (vi a), some (vi b), some v] := by rcases hv with rfl | rfl <;> rfl
  rw [e]
  refine r_iload_n dJ3_checkIndex_8e157_0 rfl ?_
  refine r_if_lt (tgt := 9) dJ3_checkIndex_8e157_1 rfl (fun h => absurd h h0) (fun _ => ?_)
  refine r_iload_n dJ3_checkIndex_8e157_4 rfl ?_
  refine r_iload_n dJ3_checkIndex_8e157_5 rfl ?_
  refine r_icmp_lt (tgt := 16) dJ3_checkIndex_8e157_6 rfl (fun _ => ?_) (fun h => absurd h1 h)
  refine r_iload_n dJ3_checkIndex_8e157_16 rfl ?_
  exact r_ireturn dJ3_checkIndex_8e157_17 rfl rfl
theorem c_strIndex {a b : Int32} (h0 : ¬ a < 0) (h1 : a < b) : CallOK l G M_J0_checkIndex_df160 yJ0_checkIndex_df160 1 [vi a, vi b] S mm none S mm := by
  refine call_of_run rfl rfl rfl (Nat.le_of_ble_eq_true rfl) ?_
  show Run l G M_J0_checkIndex_df160 1 0 [some (vi a), some (vi b)] [] S mm none S mm
  refine r_iload_n dJ0_checkIndex_df160_0 rfl ?_
  refine r_iload_n dJ0_checkIndex_df160_1 rfl ?_
  refine r_getsF dJ0_checkIndex_df160_2 sf_1053 (fun v hv => ?_)
  refine r_callS (as := [_, _, _]) (rest := []) dJ0_checkIndex_df160_5 ml_J0_1059 yS_J3_checkIndex_8e157 (c_preIndex hv h0 h1) (by decide) rfl (Nat.le_of_ble_eq_true rfl) ?_
  refine r_pop dJ0_checkIndex_df160_8 rfl ?_
  exact r_return dJ0_checkIndex_df160_9 rfl
theorem nar_char (x : Int32) : narrow .char (.int (x.toUInt32 % 65536).toInt32) = .int (x.toUInt32 % 65536).toInt32 := pk_nc x
theorem lt_of_in {j : Int32} {n : Nat} (hn : n < 2 ^ 31) (h : vp_in j n) : ¬ j < 0 ∧ j < Int32.ofNat n := by
  obtain ⟨k, hk, rfl⟩ := vp_in_of h hn
  exact ⟨nI_pos (by omega), nI_lt hk hn⟩
theorem c_latChar {i : Nat} {j : Int32} (hi : i < 23) (hin : vp_in j (sLen.getD i 0)) : CallOK l G M_J1_charAt_3b067 yJ1_charAt_3b067 2 [vx (i + 101), vi j] S mm (some (vi ((((sByt.getD i []).getD (ix j) 0) &&& 255).toUInt32 % 65536).toInt32)) S mm := by
  have hlen : sLen.getD i 0 < 2 ^ 31 := by
    have : ∀ i, i < 23 → sLen.getD i 0 < 100 := by decide
    have := this i hi
    omega
  obtain ⟨h0, h1⟩ := lt_of_in hlen hin
  refine call_of_run rfl rfl rfl (Nat.le_of_ble_eq_true rfl) ?_
  show Run l G M_J1_charAt_3b067 2 0 [some (vx (i + 101)), some (vi j)] [] S mm _ S mm
  refine r_iload_n dJ1_charAt_3b067_0 rfl ?_
  refine r_aload_nx dJ1_charAt_3b067_1 rfl ?_
  refine r_alenX hi dJ1_charAt_3b067_2 ?_
  refine r_callS (as := [_, _]) (rest := []) dJ1_charAt_3b067_3 ml_J1_9 yS_J0_checkIndex_df160 (c_strIndex h0 h1) (by decide) rfl (Nat.le_of_ble_eq_true rfl) ?_
  refine r_aload_nx dJ1_charAt_3b067_6 rfl ?_
  refine r_iload_n dJ1_charAt_3b067_7 rfl ?_
  refine r_baldX hi dJ1_charAt_3b067_8 hin ?_
  refine r_sipush (v := 255) dJ1_charAt_3b067_9 (by decide) ?_
  refine r_iand dJ1_charAt_3b067_12 ?_
  refine r_i2c dJ1_charAt_3b067_13 ?_
  exact r_ireturn dJ1_charAt_3b067_14 rfl (nar_char _)
theorem c_schar {n : Nat} {j q : Int32} (e : m_schar n j = some q) : CallOK l G M_J0_charAt_5068e yJ0_charAt_5068e 3 [vx n, vi j] S mm (some (vi q)) S mm := by
  unfold m_schar at e
  split at e
  · rename_i hn
    obtain ⟨i, rfl⟩ : ∃ i, n = i + 1 := ⟨n - 1, by omega⟩
    have hi : i < 23 := by omega
    rw [Nat.add_sub_cancel] at e
    obtain ⟨hin, e⟩ := grd_some e
    refine call_of_run rfl rfl rfl (Nat.le_of_ble_eq_true rfl) ?_
    show Run l G M_J0_charAt_5068e 3 0 [some (vx (i + 1)), some (vi j)] [] S mm (some (vi q)) S mm
    refine r_aload_nx dJ0_charAt_5068e_0 rfl ?_
    refine r_callVX (as := []) (rest := []) hi dJ0_charAt_5068e_1 ml_J0_492 yX_isLatin1 (c_isLatin1 hi) (by decide) rfl (Nat.le_of_ble_eq_true rfl) ?_
    refine r_if_eq (tgt := 16) dJ0_charAt_5068e_4 rfl (fun h => absurd h (by decide)) (fun _ => ?_)
    refine r_aload_nx dJ0_charAt_5068e_7 rfl ?_
    refine r_getV hi dJ0_charAt_5068e_8 sf_9 ?_
    refine r_iload_n dJ0_charAt_5068e_11 rfl ?_
    refine r_callS (as := [_, _]) (rest := []) dJ0_charAt_5068e_12 ml_J0_495 yS_J1_charAt_3b067 (c_latChar hi hin) (by decide) rfl (Nat.le_of_ble_eq_true rfl) ?_
    cases e
    exact r_ireturn dJ0_charAt_5068e_15 rfl (nar_char _)
  · cases e
end STR
theorem slen_dom {n : Nat} {q : Int32} (e : m_slen n = some q) : 1 ≤ n ∧ n ≤ 23 := by
  unfold m_slen at e
  split at e
  · assumption
  · cases e
theorem schar_dom {n : Nat} {j q : Int32} (e : m_schar n j = some q) : 1 ≤ n ∧ n ≤ 23 := by
  unfold m_schar at e
  split at e
  · assumption
  · cases e
theorem r_callVY {l : Launch} {G : Gt} {M : MI} {d pc : Nat} {L : List (Option V1)} {S : Sk} {mm : Mm} {r : Option V1} {S' : Sk} {mm' : Mm} {idx n k dc : Nat} {y : MethodName} {Mc : MI} {as rest : List V1} {rr : Option V1} {S1 : Sk} {m1 : Mm} (hk : 1 ≤ k ∧ k ≤ 23) (hd : decode M.2.1 pc = .ok (.invokevirtual idx, 3)) (hml : Cond.methodLink M.1 idx y ∈ gtbl) (hy : YX y Mc n) (hc : CallOK l G Mc y dc (vx k :: as) S mm rr S1 m1) (hdc : dc + 1 ≤ d) (hn : as.length = n) (hrm : (rest.map wd).sum ≤ 8)
    (kk : Run l G M d (pc + 3) L (rr.toList ++ rest) S1 m1 r S' mm') : Run l G M d pc L (as.reverse ++ vx k :: rest) S mm r S' mm' := by
  obtain ⟨i, rfl⟩ : ∃ i, k = i + 1 := ⟨k - 1, by omega⟩
  exact r_callVX (by omega) hd hml hy hc hdc hn hrm kk
