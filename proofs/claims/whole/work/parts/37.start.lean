/-! the law from its entry, out of what its loop answers (MainOK) -/
def S0 : Sk := (0, 0, fun _ => (0, 0), fun _ _ => none)
def mm0 : Mm := (fun _ _ => 0, fun _ _ => 0)
noncomputable def r11 : Option (Sk × Mm) := m_X11_init (nwS S0 11 0 9) 0 (nwM S0 mm0)
theorem r11_some : r11.isSome = true := by decide +kernel
noncomputable def w2 : Sk := (r11.getD (S0, mm0)).1
noncomputable def n2 : Mm := (r11.getD (S0, mm0)).2
theorem opt_get {α : Type} {o : Option α} {x : α} (h : o.isSome = true) : o = some (o.getD x) := by
  cases o with
  | none => cases h
  | some a => rfl
theorem e11 : m_X11_init (nwS S0 11 0 9) 0 (nwM S0 mm0) = some (w2, n2) := opt_get (x := (S0, mm0)) r11_some
theorem w2_1 : w2.1 = 44 := by decide +kernel
noncomputable def r12 : Option (Sk × Mm) := m_X12_init (nwS w2 12 0 57) 44 (nwM w2 n2)
theorem r12_some : r12.isSome = true := by decide +kernel
noncomputable def w4 : Sk := (r12.getD (S0, mm0)).1
noncomputable def n4 : Mm := (r12.getD (S0, mm0)).2
theorem e12 : m_X12_init (nwS w2 12 0 57) 44 (nwM w2 n2) = some (w4, n4) := opt_get (x := (S0, mm0)) r12_some
theorem w4_1 : w4.1 = 71 := by decide +kernel
/-- what is left: on every script the law's loop comes to 1, within the room -/
def MainOK : Prop := ∀ (nx : Nat) (xs : Nat → Int32), nx ≤ 4096 → ∃ (S' : Sk) (m' : Mm), m_L_law nx xs w4 0 n4 = some (1, S', m') ∧ sN S' ≤ 600000 ∧ sW S' ≤ 7302250
theorem law_run {l : Launch} {G : Gt} {q : Int32 × Sk × Mm} (e : m_L_law G.2.2.2.2.2.1 G.2.2.2.2.2.2 w4 0 n4 = some q) : Run l G M_L_law 18 0 [some (vx 0), none, none, none] [] S0 mm0 (some (vi q.1)) q.2.1 q.2.2 := by
  refine r_new dL_law_0 nw_L_7 ?_
  refine r_dup dL_law_3 rfl ?_
  refine r_callI (as := []) (rest := [_]) dL_law_4 ml_L_9 yI_X11_init (c_X11_init (a0 := 0) kd_new e11) (by decide) rfl (Nat.le_of_ble_eq_true rfl) ?_
  refine r_astore_n dL_law_7 (by decide) rfl ?_
  refine r_new dL_law_8 nw_L_10 ?_
  rw [w2_1]
  have hk : KD (nwS w2 12 0 57) 44 12 := by
    have h := @kd_new w2 12 0 57
    rw [w2_1] at h
    exact h
  refine r_dup dL_law_11 rfl ?_
  refine r_callI (as := []) (rest := [_]) dL_law_12 ml_L_12 yI_X12_init (c_X12_init hk e12) (by decide) rfl (Nat.le_of_ble_eq_true rfl) ?_
  refine r_astore_n dL_law_15 (by decide) rfl ?_
  refine r_iconst (v := 0) dL_law_16 ci_0 ?_
  refine r_istore_n dL_law_17 (by decide) rfl ?_
  exact c_L_law rfl rfl e
theorem whole_of (hM : MainOK) {p : Program} {e : Env} {s : State} {m : MethodId} {below : List Frame} {meth : Method} {c : Code} (l : Launch) {b L : Nat} {xs : Nat → Int32} (hL : L ≤ 4096) (hmn : meth.name = "law") (C0 : p.tables.exec = Jvm.exec ∧ c.code = code ∧ meth.sig.returnType = ret ∧ c.maxLocals = 4 ∧ s.vm.findClass "SwornCountyLaw" = some m.cls ∧ (∀ w ∈ lw_tbl, w.before #[Value.ref b] s = true) ∧ va_X b L xs s s.heap ∧ b < s.heap.size ∧ meth.locks = false ∧ (Jvm.Cond.and given_1 narrow_1).before #[Value.ref b] s = true) :
    ∀ T : State, T.heap = s.heap → Stand p l e room_1 s m #[Value.ref b] below meth c T [] 0 0 → ∃ t, Steps p.tables e below (T.setTop (entryFrame m ([Value.ref b] : List Value).toArray 4)) t ∧ ∃ o, t.status = .running ∧ Ended t below o ∧ o = .returned (some (.int 1)) ∧ Framed s o t [] 600000 7302250 := by
  obtain ⟨hx, hb, hr, hml, hown, hts, hX, hbl, hlk, hf⟩ := C0
  obtain ⟨G, g1, g2, g3, g4, g5, hK⟩ := st_KS hts hf hX hbl
  obtain ⟨S', m', em, b1, b2⟩ := hM L xs hL
  rw [← g4, ← g5] at em
  have R := law_run (l := l) em
  intro T hT X
  have F : Fr G M_L_law p s m #[Value.ref b] meth c := ⟨hx, hb, hml, hr, hlk, hmn, hown, fun w hw => hts w (List.mem_filter.mp hw).1, hK⟩
  have Rp : Rep G S0 mm0 s.heap := ⟨by rw [g1]; rfl, fun q hq => by rw [g2], fun p hp => absurd hp (Nat.not_lt_zero p)⟩
  rw [lg_entry_eq]
  have lv := lv_entry ([Value.ref b]) (n := 4) (Nat.le_of_ble_eq_true rfl)
  obtain ⟨t, h1, o, h2, h3, ⟨ho, hrep⟩, Lc, ⟨hv, hW, hsame⟩, hLc⟩ := R.2 p e room_1 s m #[Value.ref b] below meth c s.heap [] 0 0 _ F Rp (fun q h => by cases h) (lv_weak lv (fun q hq => by
    obtain ⟨i, w⟩ := q
    obtain ⟨j, v, h1, h2, h3⟩ := loL_mem.mp hq
    match j with
    | 0 =>
      cases h2
      have e3 : w = .ref b := by rw [h3]; show Value.ref (G.2.2.2.2.1 0) = _; rw [g3]
      rw [h1, e3]
      exact List.mem_cons_self
    | 1 => cases h2
    | 2 => cases h2
    | 3 => cases h2
    | n + 4 => simp at h2)) (by decide) (by decide) (by show 0 + (sN S' - 0) ≤ 600000; omega) (by show 0 + (sW S' - 0) ≤ 7302250; omega) T hT X
  refine ⟨t, h1, o, h2, h3, ho, hv, hW, ?_⟩
  have h5 := hsame.mono (c' := 600000) (n' := 7302250) (by show 0 + (sN S' - 0) ≤ _; omega) (by show 0 + (sW S' - 0) ≤ _; omega)
  exact State.sameButNew.drop_fresh (L := []) (J := Lc) h5 (fun x hx => by rw [← g1]; exact hLc x hx)
