/-! L1: a small machine over whole worlds. Values, worlds, how the real heap holds a world, and the judgement 'Run'. -/
abbrev V1 : Type := Int32 ⊕ (Int64 ⊕ (Option Nat ⊕ Nat))
abbrev vi (x : Int32) : V1 := Sum.inl x
abbrev vl (x : Int64) : V1 := Sum.inr (Sum.inl x)
abbrev vr (o : Option Nat) : V1 := Sum.inr (Sum.inr (Sum.inl o))
abbrev vx (n : Nat) : V1 := Sum.inr (Sum.inr (Sum.inr n))
/-- base, the heap at the start, class numbers and slots, array classes, places of what was there before, the script's length and ints -/
abbrev Gt : Type := Nat × Heap × va_G × (Nat → ClassId) × (Nat → Nat) × Nat × (Nat → Int32)
def rv (b : Nat) (o : Option Nat) : Value := match o with
  | none => .null
  | some p => .ref (b + p)
def toV (G : Gt) (v : V1) : Value := match v with
  | .inl x => .int x
  | .inr (.inl y) => .long y
  | .inr (.inr (.inl o)) => rv G.1 o
  | .inr (.inr (.inr n)) => .ref (G.2.2.2.2.1 n)
def cat1 (v : V1) : Bool := match v with
  | .inr (.inl _) => false
  | _ => true
/-- how many cells, how many slots, the kind of each place (and an array's length), the references -/
abbrev Sk : Type := Nat × Nat × (Nat → Nat × Nat) × (Nat → Nat → Option Nat)
/-- the ints, the longs -/
abbrev Mm : Type := (Nat → Nat → Int32) × (Nat → Nat → Int64)
abbrev sN (S : Sk) : Nat := S.1
abbrev sW (S : Sk) : Nat := S.2.1
abbrev sK (S : Sk) : Nat → Nat × Nat := S.2.2.1
abbrev sR (S : Sk) : Nat → Nat → Option Nat := S.2.2.2
abbrev mI (m : Mm) : Nat → Nat → Int32 := m.1
abbrev mL (m : Mm) : Nat → Nat → Int64 := m.2
def up2 {α : Type} (f : Nat → Nat → α) (r i : Nat) (v : α) : Nat → Nat → α := fun a j => if a = r ∧ j = i then v else f a j
def sI (m : Mm) (r i : Nat) (v : Int32) : Mm := (up2 m.1 r i v, m.2)
def sL (m : Mm) (r i : Nat) (v : Int64) : Mm := (m.1, up2 m.2 r i v)
def sRs (S : Sk) (r i : Nat) (o : Option Nat) : Sk := (S.1, S.2.1, S.2.2.1, up2 S.2.2.2 r i o)
def nwS (S : Sk) (k len size : Nat) : Sk := (S.1 + 1, S.2.1 + size, fun a => if a = S.1 then (k, len) else S.2.2.1 a, fun a j => if a = S.1 then none else S.2.2.2 a j)
def nwM (S : Sk) (m : Mm) : Mm := (fun a j => if a = S.1 then 0 else m.1 a j, fun a j => if a = S.1 then 0 else m.2 a j)
theorem up2_self {α : Type} (f : Nat → Nat → α) (r i : Nat) (v : α) : up2 f r i v r i = v := by simp [up2]
theorem up2_ne {α : Type} (f : Nat → Nat → α) {r i a j : Nat} (v : α) (h : ¬ (a = r ∧ j = i)) : up2 f r i v a j = f a j := by simp [up2, h]
abbrev vwCl : List vw_C := [(RX0, TX0, 8), (RX1, TX1, 4), (RX2, TX2, 10), (RX3, TX3, 11), (RX4, TX4, 4), (RX5, TX5, 12), (RX6, TX6, 2), (RX7, TX7, 12), (RX8, TX8, 6), (RX9, TX9, 7), (RX10, TX10, 10), (RX11, TX11, 9), (RX12, TX12, 57)]
def ty13 : Nat → Nat → FieldType := fun c => match c with
  | 0 => tyX0
  | 1 => tyX1
  | 2 => tyX2
  | 3 => tyX3
  | 4 => tyX4
  | 5 => tyX5
  | 6 => tyX6
  | 7 => tyX7
  | 8 => tyX8
  | 9 => tyX9
  | 10 => tyX10
  | 11 => tyX11
  | _ => tyX12
def nf13 (c : Nat) : Nat := (vwCl.getD c ("", TX0, 0)).2.2
def ftk : FieldType → Nat
  | .long => 2
  | .object _ => 1
  | .array _ => 1
  | _ => 0
def aty : Nat → FieldType := fun t => match t with
  | 20 => .int
  | 21 => .byte
  | 22 => .boolean
  | 23 => .object "SwornCounty$County"
  | 24 => .object "SwornCounty$Rows"
  | _ => .object "SwornCounty$Told"
/-- the value of a field, of an element -/
def fv (G : Gt) (S : Sk) (m : Mm) (p c j : Nat) : Value := match ftk (ty13 c j) with
  | 0 => .int (mI m p j)
  | 1 => rv G.1 (sR S p j)
  | _ => .long (mL m p j)
def ev (G : Gt) (S : Sk) (m : Mm) (p t j : Nat) : Value := if t < 23 then .int (mI m p j) else rv G.1 (sR S p j)
def cellIs (G : Gt) (S : Sk) (m : Mm) (p : Nat) (c : Cell) : Prop :=
  ((sK S p).1 < 13 → c.cls = G.2.2.1.1 (sK S p).1 ∧ c.vm = .none ∧ ∀ j, j < nf13 (sK S p).1 → c.slots[G.2.2.1.2 (sK S p).1 j]? = some (fv G S m p (sK S p).1 j)) ∧
  (¬ (sK S p).1 < 13 → c = arrV (G.2.2.2.1 (sK S p).1) (sK S p).2 (fun j => ev G S m p (sK S p).1 j))
/-- the real heap holds the world -/
def Rep (G : Gt) (S : Sk) (m : Mm) (Hr : Heap) : Prop :=
  Hr.size = G.1 + sN S ∧ (∀ q, q < G.1 → Hr[q]? = G.2.1[q]?) ∧ ∀ p, p < sN S → ∃ c, Hr[G.1 + p]? = some c ∧ cellIs G S m p c
/-- the words that every method has beside its own code -/
def gtbl : List Cond := lw_tbl.filter goodWord
theorem gt_in {w : Cond} (h : w ∈ tables_1) (hg : goodWord w = true) : w ∈ gtbl := List.mem_filter.mpr ⟨List.mem_append_right _ h, hg⟩
theorem gt_at {w : Cond} (i : Nat) (h : tables_1[i]? = some w) (hg : goodWord w = true) : w ∈ gtbl := gt_in (List.mem_of_getElem? h) hg
theorem gt_sel {w : Cond} (i : Nat) (h : (k2_sels lw_privs)[i]? = some w) (hg : goodWord w = true) : w ∈ gtbl := List.mem_filter.mpr ⟨List.mem_append_left _ (List.mem_of_getElem? h), hg⟩
theorem gt_good : GoodIn lw_tbl gtbl := fun w h => ⟨(List.mem_filter.mp h).1, good_of_word (List.mem_filter.mp h).2⟩
theorem gt_good2 : GoodIn gtbl gtbl := fun w h => ⟨h, good_of_word (List.mem_filter.mp h).2⟩
/-- links to nest mates -/
abbrev nst (own : String) (i : Nat) (y : MethodName) : Cond := .methodLinkNest own i y "SwornCounty"
def nests : List Cond := [nst RX11 9 yX9_init, nst RX11 22 yX5_init, nst RX11 29 yX3_init, nst RX3 11 yX7_init, nst RX11 36 yX0_init, nst RX11 43 yX1_init, nst RX11 50 yX8_init, nst RX11 57 yX10_init, nst RX11 64 yX4_init, nst RX7 79 yX11_has, nst RX3 125 yX11_has, nst RX1 83 yX11_has, nst RX0 64 yX11_has, nst RX8 75 yX11_has, nst RX10 83 yX11_commonDivisor, nst RX4 61 yX11_has, nst RX0 56 yX11_greatest, nst RX2 70 yX11_has, nst RX1 94 yX11_commonDivisor, nst RX3 159 yX11_greatest]
theorem nests_form : ∀ w ∈ nests, ∃ (a : String) (i : Nat) (y : MethodName) (h : String), w = .methodLinkNest a i y h := by
  intro w hw
  simp only [nests, List.mem_cons, List.not_mem_nil, or_false] at hw
  rcases hw with h | h | h | h | h | h | h | h | h | h | h | h | h | h | h | h | h | h | h | h <;> exact ⟨_, _, _, _, h⟩
/-- String constants: places in the pool, texts, lengths, bytes -/
def sIdx : List Nat := [148, 150, 152, 154, 156, 142, 158, 160, 162, 164, 166, 168, 170, 140, 144, 146, 172, 174, 176, 178, 180, 182, 184]
def sTxt : List String := ["folk", "hard", "clash", "likes", "oath", "", "monday", "tire", "rest", "visit", "court", "cut", "swear", "want", "kept", "broke", "wr", "th", "tt", "ff", "fft", "f", "ft"]
def sByt : List (List Int32) := [[102, 111, 108, 107], [104, 97, 114, 100], [99, 108, 97, 115, 104], [108, 105, 107, 101, 115], [111, 97, 116, 104], [], [109, 111, 110, 100, 97, 121], [116, 105, 114, 101], [114, 101, 115, 116], [118, 105, 115, 105, 116], [99, 111, 117, 114, 116], [99, 117, 116], [115, 119, 101, 97, 114], [119, 97, 110, 116], [107, 101, 112, 116], [98, 114, 111, 107, 101], [119, 114], [116, 104], [116, 116], [102, 102], [102, 102, 116], [102], [102, 116]]
def sLen : List Nat := [4, 4, 5, 5, 4, 0, 6, 4, 4, 5, 5, 3, 5, 4, 4, 5, 2, 2, 2, 2, 3, 1, 2]
def KX (G : Gt) (U : State) : Prop :=
  vk_S 23 sLen sByt (fun i => G.2.2.2.2.1 (i + 1)) (fun i => G.2.2.2.2.1 (i + 101)) (fun q => G.1 ≤ q) U G.2.1 ∧
  (∀ i, i < 23 → vk_R "SwornCounty$Reader" (sIdx.getD i 0) (sTxt.getD i "") (G.2.2.2.2.1 (i + 1)) U) ∧
  va_Z "java/lang/String" "COMPACT_STRINGS" "Z" (.int 1) (fun q => G.1 ≤ q) U G.2.1 ∧
  (va_Z "jdk/internal/util/Preconditions" "SIOOBE_FORMATTER" "Ljava/util/function/BiFunction;" .null (fun q => G.1 ≤ q) U G.2.1 ∨ va_Z "jdk/internal/util/Preconditions" "SIOOBE_FORMATTER" "Ljava/util/function/BiFunction;" (.ref (G.2.2.2.2.1 200)) (fun q => G.1 ≤ q) U G.2.1) ∧
  va_X (G.2.2.2.2.1 0) G.2.2.2.2.2.1 G.2.2.2.2.2.2 U G.2.1 ∧ G.2.2.2.2.1 0 < G.1
/-- what the tables of a state say of classes, arrays, nest mates, Strings -/
def KS (G : Gt) (U : State) : Prop :=
  va_K G.2.2.1 vwCl [] U ∧ (∀ t, 20 ≤ t → t ≤ 25 → ArrOfT U (G.2.2.2.1 t) (aty t) ∧ va_RA U (G.2.2.2.1 t) (aty t)) ∧
  (∀ w ∈ nests, va_Nw w U) ∧ (va_AO "SwornCounty$County" U ∧ va_AO "SwornCounty$Rows" U ∧ va_AO "SwornCounty$Told" U) ∧ KX G U
theorem KS.warm {G : Gt} {s U : State} (hW : s.WarmedH U.vm) (h : KS G s) : KS G U := by
  obtain ⟨h1, h2, h3, ⟨h4, h5, h6⟩, h7, h8, h9, h10, h11, h12⟩ := h
  refine ⟨va_K.moved hW.alike h1, fun t a b => ⟨arrOfT_moved hW.alike (h2 t a b).1, (h2 t a b).2.moved hW.alike⟩, fun w hw => ?_, ⟨h4.moved hW.alike, h5.moved hW.alike, h6.moved hW.alike⟩, h7.moved hW.alike, fun i hi => (h8 i hi).warm hW, h9.moved hW.alike, ?_, h11.moved hW.alike, h12⟩
  · obtain ⟨a, i, y, hh, rfl⟩ := nests_form w hw
    exact va_Nw.warmM hW (h3 _ hw)
  · rcases h10 with h | h
    · exact Or.inl (h.moved hW.alike)
    · exact Or.inr (h.moved hW.alike)
theorem KS.vm {G : Gt} {s U : State} (hv : U.vm = s.vm) (h : KS G s) : KS G U := h.warm (by rw [hv]; exact State.WarmedH.refl s)
/-- a method: the name of its class, its bytes, how many locals, what it answers, its name -/
abbrev MI : Type := String × ByteArray × Nat × Option FieldType × String
def Fr (G : Gt) (M : MI) (p : Program) (s : State) (m : MethodId) (args : Array Value) (meth : Method) (c : Code) : Prop :=
  p.tables.exec = Jvm.exec ∧ c.code = M.2.1 ∧ c.maxLocals = M.2.2.1 ∧ meth.sig.returnType = M.2.2.2.1 ∧ meth.locks = false ∧ meth.name = M.2.2.2.2 ∧
  s.vm.findClass M.1 = some m.cls ∧ (∀ w ∈ gtbl, w.before args s = true) ∧ KS G s
/-- locals, by their places -/
def loL (G : Gt) : Nat → List (Option V1) → List (Nat × Value)
  | _, [] => []
  | k, none :: L => loL G (k + 1) L
  | k, some v :: L => (k, toV G v) :: loL G (k + 1) L
theorem loL_mem {G : Gt} : ∀ {L : List (Option V1)} {k i : Nat} {w : Value}, (i, w) ∈ loL G k L ↔ ∃ j v, i = k + j ∧ L[j]? = some (some v) ∧ w = toV G v
  | [], k, i, w => by simp [loL]
  | none :: L, k, i, w => by
    rw [loL, loL_mem]
    constructor
    · rintro ⟨j, v, h1, h2, h3⟩
      exact ⟨j + 1, v, by omega, by simpa using h2, h3⟩
    · rintro ⟨j, v, h1, h2, h3⟩
      cases j with
      | zero => simp at h2
      | succ j => exact ⟨j, v, by omega, by simpa using h2, h3⟩
  | some u :: L, k, i, w => by
    rw [loL, List.mem_cons, loL_mem]
    constructor
    · rintro (h | ⟨j, v, h1, h2, h3⟩)
      · cases h
        exact ⟨0, u, rfl, rfl, rfl⟩
      · exact ⟨j + 1, v, by omega, by simpa using h2, h3⟩
    · rintro ⟨j, v, h1, h2, h3⟩
      cases j with
      | zero =>
        simp at h2
        subst h2
        exact Or.inl (by rw [h3, h1]; rfl)
      | succ j => exact Or.inr ⟨j, v, by omega, by simpa using h2, h3⟩
theorem lv_weak {ls : Array Slot} {n : Nat} {l l' : List (Nat × Value)} (h : lv_has ls n l) (hs : ∀ q ∈ l', q ∈ l) : lv_has ls n l' := ⟨h.1, h.2.1, fun q hq => h.2.2 q (hs q hq)⟩
/-- a method's end: its answer, and the world that the heap then holds -/
def QcR (G : Gt) (r : Option V1) (S : Sk) (m : Mm) : Array Value → State → Outcome → State → Prop := fun _ _ o t => o = .returned (r.map (toV G)) ∧ Rep G S m t.heap
/-- from here the method comes to its end with the answer r and the world S', m' -/
def Run (l : Launch) (G : Gt) (M : MI) (d pc : Nat) (L : List (Option V1)) (st : List V1) (S : Sk) (mm : Mm) (r : Option V1) (S' : Sk) (mm' : Mm) : Prop :=
  (sN S ≤ sN S' ∧ sW S ≤ sW S') ∧
  ∀ (p : Program) (e : Env) (R : Room) (s : State) (m : MethodId) (args : Array Value) (below : List Frame) (meth : Method) (c : Code) (Hr : Heap) (locs : List Loc) (cells slots : Nat) (ls : Array Slot),
    Fr G M p s m args meth c → Rep G S mm Hr → (∀ q ∈ locs, G.1 ≤ q.base) → lv_has ls M.2.2.1 (loL G 0 L) → d ≤ R.frames → 40 * d ≤ R.locals →
    cells + (sN S' - sN S) ≤ R.cells → slots + (sW S' - sW S) ≤ R.slots →
    W p l e R s m args below meth c Hr locs cells slots (MQ below (QcR G r S' mm') args s (cells + (sN S' - sN S)) (slots + (sW S' - sW S)) (fun q => G.1 ≤ q)) (F0 m pc ls (st.map (toV G)))
/-- a whole method, called with these arguments in this world -/
def CallOK (l : Launch) (G : Gt) (M : MI) (y : MethodName) (d : Nat) (as : List V1) (S : Sk) (mm : Mm) (r : Option V1) (S' : Sk) (mm' : Mm) : Prop :=
  (sN S ≤ sN S' ∧ sW S ≤ sW S') ∧
  Met l y (Cond.code y M.2.1 M.2.2.1 M.2.2.2.1 :: gtbl) { frames := d, cells := sN S' - sN S, slots := sW S' - sW S, locals := 40 * d }
    (fun a U => a = (as.map (toV G)).toArray ∧ Rep G S mm U.heap ∧ KS G U) (QcR G r S' mm') (sN S' - sN S) (sW S' - sW S) (fun q => G.1 ≤ q)
