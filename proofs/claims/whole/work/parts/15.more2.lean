def AK (S : Sk) (a t n : Nat) : Prop := a < sN S ∧ sK S a = (t, n)
theorem ak_new {S : Sk} {k len z : Nat} : AK (nwS S k len z) S.1 k len := ⟨by show S.1 < S.1 + 1; omega, by simp [nwS, sK]⟩
theorem ak_nw {S : Sk} {k len z a t n : Nat} (h : AK S a t n) : AK (nwS S k len z) a t n := ⟨by have h0 : a < S.1 := h.1; show a < S.1 + 1; omega, by
  have h1 : a ≠ S.1 := Nat.ne_of_lt h.1
  simp only [nwS, sK, h1, if_false]
  exact h.2⟩
theorem ak_t {S : Sk} {a t n : Nat} (h : AK S a t n) : (sK S a).1 = t := by rw [h.2]
def gR {α : Type} (o : Option Nat) (c : Nat) (k : Option α) : Option α := if o = some c then k else none
theorem gR_some {α : Type} {o : Option Nat} {c : Nat} {k : Option α} {r : α} (h : gR o c k = some r) : o = some c ∧ k = some r := by
  unfold gR at h
  split at h
  · rename_i x
    exact ⟨x, h⟩
  · cases h
def gO {α : Type} (o : Option Nat) (f : Nat → Option α) : Option α := match o with
  | none => none
  | some c => f c
theorem gO_some {α : Type} {o : Option Nat} {f : Nat → Option α} {r : α} (h : gO o f = some r) : ∃ c, o = some c ∧ f c = some r := by
  cases o with
  | none => cases h
  | some c => exact ⟨c, rfl, h⟩
def xmax (x y : Int32) : Int32 := if x < y then y else x
def xmin (x y : Int32) : Int32 := if y < x then y else x
theorem mm_w : (Cond.static Lib.Math.max.name ∈ gtbl ∧ Cond.code Lib.Math.max.name Lib.Math.max.code 2 (some .int) ∈ gtbl) ∧ (Cond.static Lib.Math.min.name ∈ gtbl ∧ Cond.code Lib.Math.min.name Lib.Math.min.code 2 (some .int) ∈ gtbl) ∧ Cond.initialized "java/lang/Math" ∈ gtbl := ⟨⟨yS_J9_max_7cf53.2, yS_J9_max_7cf53.1.1⟩, ⟨yS_J9_min_7cf53.2, yS_J9_min_7cf53.1.1⟩, yS_J9_max_7cf53.1.2.1⟩
theorem r_mmax {l : Launch} {G : Gt} {M : MI} {d pc : Nat} {L : List (Option V1)} {S : Sk} {mm : Mm} {r : Option V1} {S' : Sk} {mm' : Mm} {idx : Nat} {x y : Int32} {rest : List V1} (hd : decode M.2.1 pc = .ok (.invokestatic idx, 3)) (hml : Cond.methodLink M.1 idx Lib.Math.max.name ∈ gtbl) (hdd : 1 ≤ d) (hrm : (rest.map wd).sum ≤ 8) (k : Run l G M d (pc + 3) L (vi (xmax x y) :: rest) S mm r S' mm') : Run l G M d pc L (vi y :: vi x :: rest) S mm r S' mm' :=
  ⟨k.1, fun p e R s m args below meth c Hr locs cells slots ls F Rp hl lv hdp hlo hc hs => va_mmax F.1 F.2.1 (F.2.2.1.trans lv.1.symm) F.2.2.2.2.2.2.1 (F.2.2.2.2.2.2.2.1 _ hml) (F.2.2.2.2.2.2.2.1 _ mm_w.1.1) (F.2.2.2.2.2.2.2.1 _ mm_w.2.2) (F.2.2.2.2.2.2.2.1 _ mm_w.1.2) (by omega) (by have : ((rest.map (toV G)).map fun v => v.category).sum ≤ 8 := (by rw [wd_sum]; exact hrm); omega) (by omega) (by omega) hd (k.2 p e R s m args below meth c Hr locs cells slots ls F Rp hl lv hdp hlo hc hs)⟩
theorem r_mmin {l : Launch} {G : Gt} {M : MI} {d pc : Nat} {L : List (Option V1)} {S : Sk} {mm : Mm} {r : Option V1} {S' : Sk} {mm' : Mm} {idx : Nat} {x y : Int32} {rest : List V1} (hd : decode M.2.1 pc = .ok (.invokestatic idx, 3)) (hml : Cond.methodLink M.1 idx Lib.Math.min.name ∈ gtbl) (hdd : 1 ≤ d) (hrm : (rest.map wd).sum ≤ 8) (k : Run l G M d (pc + 3) L (vi (xmin x y) :: rest) S mm r S' mm') : Run l G M d pc L (vi y :: vi x :: rest) S mm r S' mm' :=
  ⟨k.1, fun p e R s m args below meth c Hr locs cells slots ls F Rp hl lv hdp hlo hc hs => va_mmin F.1 F.2.1 (F.2.2.1.trans lv.1.symm) F.2.2.2.2.2.2.1 (F.2.2.2.2.2.2.2.1 _ hml) (F.2.2.2.2.2.2.2.1 _ mm_w.2.1.1) (F.2.2.2.2.2.2.2.1 _ mm_w.2.2) (F.2.2.2.2.2.2.2.1 _ mm_w.2.1.2) (by omega) (by have : ((rest.map (toV G)).map fun v => v.category).sum ≤ 8 := (by rw [wd_sum]; exact hrm); omega) (by omega) (by omega) hd (k.2 p e R s m args below meth c Hr locs cells slots ls F Rp hl lv hdp hlo hc hs)⟩
def ltS {α : Type} (S : Sk) (f : Sk → Option α) : Option α := f S
theorem ltS_some {α : Type} {S : Sk} {f : Sk → Option α} {r : α} (h : ltS S f = some r) : ∃ T, T = S ∧ f T = some r := ⟨S, rfl, h⟩
theorem kd_nw_n {S T : Sk} {k len z a c : Nat} (hT : T = nwS S k len z) (h : KD S a c) : KD T a c := by rw [hT]; exact kd_nw h
theorem ak_nw_n {S T : Sk} {k len z a t n : Nat} (hT : T = nwS S k len z) (h : AK S a t n) : AK T a t n := by rw [hT]; exact ak_nw h
theorem ak_new_n {S T : Sk} {k len z : Nat} (hT : T = nwS S k len z) : AK T S.1 k len := by rw [hT]; exact ak_new
theorem kd_nw_r {S T : Sk} {r i a c : Nat} {o : Option Nat} (hT : T = sRs S r i o) (h : KD S a c) : KD T a c := by rw [hT]; exact h
theorem ak_nw_r {S T : Sk} {r i a t n : Nat} {o : Option Nat} (hT : T = sRs S r i o) (h : AK S a t n) : AK T a t n := by rw [hT]; exact h
theorem oi_X11_1 : Cond.methodLink RX11 1 Lib.objectInit ∈ gtbl := gt_at 26 (by decide +kernel) (by decide +kernel)
theorem oi_X0_3 : Cond.methodLink RX0 3 Lib.objectInit ∈ gtbl := gt_at 251 (by decide +kernel) (by decide +kernel)
theorem oi_X1_3 : Cond.methodLink RX1 3 Lib.objectInit ∈ gtbl := gt_at 283 (by decide +kernel) (by decide +kernel)
theorem oi_X2_3 : Cond.methodLink RX2 3 Lib.objectInit ∈ gtbl := gt_at 588 (by decide +kernel) (by decide +kernel)
theorem oi_X3_3 : Cond.methodLink RX3 3 Lib.objectInit ∈ gtbl := gt_at 141 (by decide +kernel) (by decide +kernel)
theorem oi_X4_3 : Cond.methodLink RX4 3 Lib.objectInit ∈ gtbl := gt_at 369 (by decide +kernel) (by decide +kernel)
theorem oi_X5_3 : Cond.methodLink RX5 3 Lib.objectInit ∈ gtbl := gt_at 74 (by decide +kernel) (by decide +kernel)
theorem oi_X6_3 : Cond.methodLink RX6 3 Lib.objectInit ∈ gtbl := gt_at 80 (by decide +kernel) (by decide +kernel)
theorem oi_X7_3 : Cond.methodLink RX7 3 Lib.objectInit ∈ gtbl := gt_at 147 (by decide +kernel) (by decide +kernel)
theorem oi_X8_3 : Cond.methodLink RX8 3 Lib.objectInit ∈ gtbl := gt_at 302 (by decide +kernel) (by decide +kernel)
theorem oi_X9_3 : Cond.methodLink RX9 3 Lib.objectInit ∈ gtbl := gt_at 34 (by decide +kernel) (by decide +kernel)
theorem oi_X10_3 : Cond.methodLink RX10 3 Lib.objectInit ∈ gtbl := gt_at 328 (by decide +kernel) (by decide +kernel)
theorem oi_X12_1 : Cond.methodLink RX12 1 Lib.objectInit ∈ gtbl := gt_at 1151 (by decide +kernel) (by decide +kernel)
theorem oi_i : Cond.instanceMethod Lib.objectInit ∈ gtbl := gt_at 27 (by decide +kernel) (by decide +kernel)
theorem oi_c : Cond.code Lib.objectInit ⟨#[0xb1]⟩ 1 none ∈ gtbl := gt_at 28 (by decide +kernel) (by decide +kernel)
theorem aw_20 : Cond.arrayClass (aty 20) ∈ gtbl := gt_at 67 (by decide +kernel) (by decide +kernel)
theorem aw_21 : Cond.arrayClass (aty 21) ∈ gtbl := gt_at 66 (by decide +kernel) (by decide +kernel)
theorem aw_22 : Cond.arrayClass (aty 22) ∈ gtbl := gt_at 1324 (by decide +kernel) (by decide +kernel)
theorem cl_X11_7 : Cond.classLink RX11 7 "SwornCounty$Told" ∈ gtbl := gt_at 29 (by decide +kernel) (by decide +kernel)
theorem nw_X11_7 : NW RX11 7 9 7 := ⟨by decide, _, rfl, rfl, cl_X11_7, gt_at 30 (by decide +kernel) (by decide +kernel), gt_at 2 (by decide +kernel) (by decide +kernel), lay_X9, tyX9_ok, by decide⟩
theorem cl_X11_20 : Cond.classLink RX11 20 "SwornCounty$Reader" ∈ gtbl := gt_at 69 (by decide +kernel) (by decide +kernel)
theorem nw_X11_20 : NW RX11 20 5 12 := ⟨by decide, _, rfl, rfl, cl_X11_20, gt_at 70 (by decide +kernel) (by decide +kernel), gt_at 3 (by decide +kernel) (by decide +kernel), lay_X5, tyX5_ok, by decide⟩
theorem cl_X11_27 : Cond.classLink RX11 27 "SwornCounty$Course" ∈ gtbl := gt_at 136 (by decide +kernel) (by decide +kernel)
theorem nw_X11_27 : NW RX11 27 3 11 := ⟨by decide, _, rfl, rfl, cl_X11_27, gt_at 137 (by decide +kernel) (by decide +kernel), gt_at 6 (by decide +kernel) (by decide +kernel), lay_X3, tyX3_ok, by decide⟩
theorem cl_X11_34 : Cond.classLink RX11 34 "SwornCounty$Bonds" ∈ gtbl := gt_at 246 (by decide +kernel) (by decide +kernel)
theorem nw_X11_34 : NW RX11 34 0 8 := ⟨by decide, _, rfl, rfl, cl_X11_34, gt_at 247 (by decide +kernel) (by decide +kernel), gt_at 8 (by decide +kernel) (by decide +kernel), lay_X0, tyX0_ok, by decide⟩
theorem cl_X11_41 : Cond.classLink RX11 41 "SwornCounty$Counsel" ∈ gtbl := gt_at 278 (by decide +kernel) (by decide +kernel)
theorem nw_X11_41 : NW RX11 41 1 4 := ⟨by decide, _, rfl, rfl, cl_X11_41, gt_at 279 (by decide +kernel) (by decide +kernel), gt_at 9 (by decide +kernel) (by decide +kernel), lay_X1, tyX1_ok, by decide⟩
theorem cl_X11_48 : Cond.classLink RX11 48 "SwornCounty$Swearing" ∈ gtbl := gt_at 297 (by decide +kernel) (by decide +kernel)
theorem nw_X11_48 : NW RX11 48 8 6 := ⟨by decide, _, rfl, rfl, cl_X11_48, gt_at 298 (by decide +kernel) (by decide +kernel), gt_at 10 (by decide +kernel) (by decide +kernel), lay_X8, tyX8_ok, by decide⟩
theorem cl_X11_55 : Cond.classLink RX11 55 "SwornCounty$Wagers" ∈ gtbl := gt_at 323 (by decide +kernel) (by decide +kernel)
theorem nw_X11_55 : NW RX11 55 10 10 := ⟨by decide, _, rfl, rfl, cl_X11_55, gt_at 324 (by decide +kernel) (by decide +kernel), gt_at 11 (by decide +kernel) (by decide +kernel), lay_X10, tyX10_ok, by decide⟩
theorem cl_X11_62 : Cond.classLink RX11 62 "SwornCounty$Guesses" ∈ gtbl := gt_at 364 (by decide +kernel) (by decide +kernel)
theorem nw_X11_62 : NW RX11 62 4 4 := ⟨by decide, _, rfl, rfl, cl_X11_62, gt_at 365 (by decide +kernel) (by decide +kernel), gt_at 12 (by decide +kernel) (by decide +kernel), lay_X4, tyX4_ok, by decide⟩
theorem cl_X3_9 : Cond.classLink RX3 9 "SwornCounty$Standing" ∈ gtbl := gt_at 142 (by decide +kernel) (by decide +kernel)
theorem nw_X3_9 : NW RX3 9 7 12 := ⟨by decide, _, rfl, rfl, cl_X3_9, gt_at 143 (by decide +kernel) (by decide +kernel), gt_at 7 (by decide +kernel) (by decide +kernel), lay_X7, tyX7_ok, by decide⟩
theorem cl_X5_9 : Cond.classLink RX5 9 "SwornCounty$Rows" ∈ gtbl := gt_at 75 (by decide +kernel) (by decide +kernel)
theorem nw_X5_9 : NW RX5 9 6 2 := ⟨by decide, _, rfl, rfl, cl_X5_9, gt_at 76 (by decide +kernel) (by decide +kernel), gt_at 4 (by decide +kernel) (by decide +kernel), lay_X6, tyX6_ok, by decide⟩
theorem cl_X6_10 : Cond.classLink RX6 10 "SwornCounty$Rows" ∈ gtbl := gt_at 638 (by decide +kernel) (by decide +kernel)
theorem nw_X6_10 : NW RX6 10 6 2 := ⟨by decide, _, rfl, rfl, cl_X6_10, gt_at 76 (by decide +kernel) (by decide +kernel), gt_at 4 (by decide +kernel) (by decide +kernel), lay_X6, tyX6_ok, by decide⟩
theorem cl_X9_29 : Cond.classLink RX9 29 "SwornCounty$County" ∈ gtbl := gt_at 35 (by decide +kernel) (by decide +kernel)
theorem nw_X9_29 : NW RX9 29 2 10 := ⟨by decide, _, rfl, rfl, cl_X9_29, gt_at 584 (by decide +kernel) (by decide +kernel), gt_at 18 (by decide +kernel) (by decide +kernel), lay_X2, tyX2_ok, by decide⟩
theorem cl_X9_35 : Cond.classLink RX9 35 "SwornCounty$Rows" ∈ gtbl := gt_at 37 (by decide +kernel) (by decide +kernel)
theorem nw_X9_35 : NW RX9 35 6 2 := ⟨by decide, _, rfl, rfl, cl_X9_35, gt_at 76 (by decide +kernel) (by decide +kernel), gt_at 4 (by decide +kernel) (by decide +kernel), lay_X6, tyX6_ok, by decide⟩
theorem cl_L_7 : Cond.classLink RL 7 "SwornCounty" ∈ gtbl := gt_at 21 (by decide +kernel) (by decide +kernel)
theorem nw_L_7 : NW RL 7 11 9 := ⟨by decide, _, rfl, rfl, cl_L_7, gt_at 22 (by decide +kernel) (by decide +kernel), gt_at 1 (by decide +kernel) (by decide +kernel), lay_X11, tyX11_ok, by decide⟩
theorem cl_L_10 : Cond.classLink RL 10 "SwornCountyModel" ∈ gtbl := gt_at 1146 (by decide +kernel) (by decide +kernel)
theorem nw_L_10 : NW RL 10 12 57 := ⟨by decide, _, rfl, rfl, cl_L_10, gt_at 1147 (by decide +kernel) (by decide +kernel), gt_at 13 (by decide +kernel) (by decide +kernel), lay_X12, tyX12_ok, by decide⟩
theorem cb_m8 : (Int8.ofInt (-8)).toInt32 = (-8 : Int32) := by decide
theorem cb_104 : (Int8.ofInt (104)).toInt32 = (104 : Int32) := by decide
theorem cb_114 : (Int8.ofInt (114)).toInt32 = (114 : Int32) := by decide
theorem cb_116 : (Int8.ofInt (116)).toInt32 = (116 : Int32) := by decide
theorem cb_119 : (Int8.ofInt (119)).toInt32 = (119 : Int32) := by decide
theorem cb_54 : (Int8.ofInt (54)).toInt32 = (54 : Int32) := by decide
theorem cb_63 : (Int8.ofInt (63)).toInt32 = (63 : Int32) := by decide
theorem cs_1280 : (Int16.ofInt (1280)).toInt32 = (1280 : Int32) := by decide
theorem cs_1288 : (Int16.ofInt (1288)).toInt32 = (1288 : Int32) := by decide
theorem cs_200 : (Int16.ofInt (200)).toInt32 = (200 : Int32) := by decide
theorem cs_2400 : (Int16.ofInt (2400)).toInt32 = (2400 : Int32) := by decide
theorem cs_256 : (Int16.ofInt (256)).toInt32 = (256 : Int32) := by decide
theorem cs_448 : (Int16.ofInt (448)).toInt32 = (448 : Int32) := by decide
theorem cs_576 : (Int16.ofInt (576)).toInt32 = (576 : Int32) := by decide
theorem cs_729 : (Int16.ofInt (729)).toInt32 = (729 : Int32) := by decide
