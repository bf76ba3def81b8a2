set_option maxRecDepth 100000 in
theorem fr_X12_four {a1 : Int32} {mm : Mm} {q : Mm} (e : m_X12_four a1 mm = some q) : agx [(45, none), (46, none)] mm q := by
  unfold m_X12_four at e
  obtain ⟨p2, eb4w, e⟩ := obind e
  have fp2 : agx [(45, none), (46, none)] mm p2 := by
    clear e
    refine while_fr (Inv := fun z1 => agx [(45, none), (46, none)] mm z1.2) (Post := fun pw => agx [(45, none), (46, none)] mm pw) eb4w (agx_rf _) ?_
    intro z1 x3y eb4 hz5
    unfold m_X12_four_b3 at eb4
    by_cases h8 : z1.1 < 0
    · replace eb4 := ite_t h8 eb4
      cases eb4
      exact ⟨fun az ha => (by cases ha), fun bz hb => (by have h9 := Sum.inr.inj hb; subst h9; exact hz5)⟩
    · replace eb4 := ite_f h8 eb4
      obtain ⟨hg9, eb4⟩ := grd_some eb4
      cases eb4
      exact ⟨fun az ha => (by have h9 := Sum.inl.inj ha; subst h9; exact (agx_wr (agx_wr hz5 (by rfl)) (by rfl))), fun bz hb => (by cases hb)⟩
  cases e
  exact fp2
set_option maxRecDepth 100000 in
theorem fr_X12_feed {a1 : Int32} {a2 : Int32} {a3 : Int32} {a4 : Int32} {a5 : Int32} {mm : Mm} {q : Int32 × Mm} (e : m_X12_feed a1 a2 a3 a4 a5 mm = some q) : agx [(44, some 0), (45, none), (46, none)] mm q.2 := by
  unfold m_X12_feed at e
  by_cases h1 : ((mI (sI mm 44 0 (0 : Int32)) 46 (ix (0 : Int32))) + (20 : Int32)) ≤ (600 : Int32)
  · replace e := ite_t h1 e
    obtain ⟨q2, eq3, e⟩ := obind e
    obtain ⟨q4, eq5, e⟩ := obind e
    obtain ⟨q6, eq7, e⟩ := obind e
    obtain ⟨q8, eq9, e⟩ := obind e
    obtain ⟨q10, eq11, e⟩ := obind e
    cases e
    exact (agx_tr (agx_tr (agx_tr (agx_tr (agx_tr (agx_wr (agx_rf _) (by rfl)) (agx_mono (by rfl) (fr_X12_four eq3 :))) (agx_mono (by rfl) (fr_X12_four eq5 :))) (agx_mono (by rfl) (fr_X12_four eq7 :))) (agx_mono (by rfl) (fr_X12_four eq9 :))) (agx_mono (by rfl) (fr_X12_four eq11 :)))
  · replace e := ite_f h1 e
    cases e
    exact (agx_wr (agx_rf _) (by rfl))
set_option maxRecDepth 100000 in
theorem fr_X12_end {a1 : Int32} {mm : Mm} {q : Int32 × Mm} (e : m_X12_end a1 mm = some q) : agx [(44, some 0), (46, none)] mm q.2 := by
  unfold m_X12_end at e
  by_cases h1 : (m_X12_in a1 (0 : Int32) (mI (sI mm 44 0 (0 : Int32)) 46 (ix (0 : Int32)))) = 0
  · replace e := ite_t h1 e
    cases e
    exact (agx_wr (agx_rf _) (by rfl))
  · replace e := ite_f h1 e
    cases e
    exact (agx_wr (agx_wr (agx_rf _) (by rfl)) (by rfl))
set_option maxRecDepth 100000 in
theorem fr_X12_fails {mm : Mm} : agx [(44, some 16)] mm ((m_X12_fails mm).2) := by
  generalize e : m_X12_fails mm = q
  unfold m_X12_fails at e
  cases e
  exact (agx_wr (agx_rf _) (by rfl))
set_option maxRecDepth 100000 in
theorem fr_X12_addsFault {a1 : Int32} {a2 : Int32} {mm : Mm} {q : Mm} (e : m_X12_addsFault a1 a2 mm = some q) : agx [(44, some 17), (44, some 18)] mm q := by
  unfold m_X12_addsFault at e
  obtain ⟨x2, ep3, elx2, erx2⟩ := bS_some e
  have cx2 : ((∀ pz4, x2 = .inl pz4 → True) ∧ (∀ tz5, x2 = .inr tz5 → agx [(44, some 17), (44, some 18)] mm tz5)) := by
    clear elx2 erx2
    by_cases h6 : (mI mm 44 17) = 0
    · replace ep3 := ite_t h6 ep3
      cases ep3
      exact ⟨fun pz hz => (by have h9 := Sum.inl.inj hz; subst h9; exact trivial), fun tz hz => (by cases hz)⟩
    · replace ep3 := ite_f h6 ep3
      by_cases h7 : a2 < (mI mm 44 18)
      · replace ep3 := ite_t h7 ep3
        cases ep3
        exact ⟨fun pz hz => (by have h9 := Sum.inl.inj hz; subst h9; exact trivial), fun tz hz => (by cases hz)⟩
      · replace ep3 := ite_f h7 ep3
        by_cases h8 : a2 = (mI mm 44 18)
        · replace ep3 := ite_t h8 ep3
          by_cases h9 : (mI mm 44 17) ≤ a1
          · replace ep3 := ite_t h9 ep3
            cases ep3
            exact ⟨fun pz hz => (by cases hz), fun tz hz => (by have h9 := Sum.inr.inj hz; subst h9; exact (agx_rf _))⟩
          · replace ep3 := ite_f h9 ep3
            cases ep3
            exact ⟨fun pz hz => (by have h9 := Sum.inl.inj hz; subst h9; exact trivial), fun tz hz => (by cases hz)⟩
        · replace ep3 := ite_f h8 ep3
          cases ep3
          exact ⟨fun pz hz => (by cases hz), fun tz hz => (by have h9 := Sum.inr.inj hz; subst h9; exact (agx_rf _))⟩
  cases x2 with
  | inl p1 =>
    replace e := elx2 _ rfl
    cases e
    exact (agx_wr (agx_wr (agx_rf _) (by rfl)) (by rfl))
  | inr tz0 =>
    have hz := erx2 _ rfl
    subst hz
    exact cx2.2 _ rfl
set_option maxRecDepth 100000 in
theorem fr_X12_full {a1 : Int32} {a2 : Int32} {a3 : Int32} {mm : Mm} {q : Mm} (e : m_X12_full a1 a2 a3 mm = some q) : agx [(44, some 17), (44, some 18)] mm q := by
  unfold m_X12_full at e
  obtain ⟨hg1, e⟩ := grd_some e
  by_cases h2 : (mI mm 54 (ix a1)) = a2
  · replace e := ite_t h2 e
    obtain ⟨q3, eq4, e⟩ := obind e
    cases e
    exact (agx_tr (agx_rf _) (agx_mono (by rfl) (fr_X12_addsFault eq4 :)))
  · replace e := ite_f h2 e
    cases e
    exact (agx_rf _)
set_option maxRecDepth 100000 in
theorem fr_X12_keepRow {a1 : Int32} {a2 : Int32} {mm : Mm} {q : Mm} (e : m_X12_keepRow a1 a2 mm = some q) : agx [(54, none)] mm q := by
  unfold m_X12_keepRow at e
  obtain ⟨p2, eb4w, e⟩ := obind e
  have fp2 : agx [(54, none)] mm p2 := by
    clear e
    refine while_fr (Inv := fun z1 => agx [(54, none)] mm z1.2) (Post := fun pw => agx [(54, none)] mm pw) eb4w (agx_rf _) ?_
    intro z1 x3y eb4 hz5
    unfold m_X12_keepRow_b10 at eb4
    by_cases h8 : a1 ≤ z1.1
    · replace eb4 := ite_t h8 eb4
      cases eb4
      exact ⟨fun az ha => (by cases ha), fun bz hb => (by have h9 := Sum.inr.inj hb; subst h9; exact hz5)⟩
    · replace eb4 := ite_f h8 eb4
      by_cases h9 : a2 ≤ (mI mm 54 (ix (0 : Int32)))
      · replace eb4 := ite_t h9 eb4
        cases eb4
        exact ⟨fun az ha => (by cases ha), fun bz hb => (by have h9 := Sum.inr.inj hb; subst h9; exact hz5)⟩
      · replace eb4 := ite_f h9 eb4
        obtain ⟨hg10, eb4⟩ := grd_some eb4
        obtain ⟨hg11, eb4⟩ := grd_some eb4
        cases eb4
        exact ⟨fun az ha => (by have h9 := Sum.inl.inj ha; subst h9; exact (agx_wr hz5 (by rfl))), fun bz hb => (by cases hb)⟩
  cases e
  exact (agx_wr fp2 (by rfl))
set_option maxRecDepth 100000 in
theorem fr_X12_fault {a1 : Int32} {mm : Mm} {q : Int32 × Mm} (e : m_X12_fault a1 mm = some q) : agx [(44, some 0)] mm q.2 := by
  unfold m_X12_fault at e
  by_cases h1 : a1 = 0
  · replace e := ite_t h1 e
    cases e
    exact (agx_wr (agx_rf _) (by rfl))
  · replace e := ite_f h1 e
    by_cases h2 : a1 = (1 : Int32)
    · replace e := ite_t h2 e
      cases e
      exact (agx_wr (agx_rf _) (by rfl))
    · replace e := ite_f h2 e
      cases e
      exact (agx_wr (agx_rf _) (by rfl))
set_option maxRecDepth 100000 in
theorem fr_X12_asTold {mm : Mm} {q : Mm} (e : m_X12_asTold mm = some q) : agx [(44, some 25), (44, some 26), (44, some 27), (44, some 28), (44, some 29), (44, some 30), (56, none), (57, none), (58, none), (59, none), (60, none), (61, none), (62, none)] mm q := by
  unfold m_X12_asTold at e
  obtain ⟨q1, eq2, e⟩ := obind e
  obtain ⟨p4, eb6w, e⟩ := obind e
  have fp4 : agx [(44, some 25), (44, some 26), (44, some 27), (44, some 28), (44, some 29), (44, some 30), (56, none), (57, none), (58, none), (59, none), (60, none), (61, none), (62, none)] mm p4 := by
    clear e
    refine while_fr (Inv := fun z3 => agx [(44, some 25), (44, some 26), (44, some 27), (44, some 28), (44, some 29), (44, some 30), (56, none), (57, none), (58, none), (59, none), (60, none), (61, none), (62, none)] mm z3.2) (Post := fun pw => agx [(44, some 25), (44, some 26), (44, some 27), (44, some 28), (44, some 29), (44, some 30), (56, none), (57, none), (58, none), (59, none), (60, none), (61, none), (62, none)] mm pw) eb6w (agx_wr (agx_wr (agx_wr (agx_wr (agx_wr (agx_wr (agx_rf _) (by rfl)) (by rfl)) (by rfl)) (by rfl)) (by rfl)) (by rfl)) ?_
    intro z3 x5y eb6 hz7
    unfold m_X12_asTold_b36 at eb6
    by_cases h10 : (6 : Int32) ≤ z3.1
    · replace eb6 := ite_t h10 eb6
      cases eb6
      exact ⟨fun az ha => (by cases ha), fun bz hb => (by have h9 := Sum.inr.inj hb; subst h9; exact hz7)⟩
    · replace eb6 := ite_f h10 eb6
      obtain ⟨q11, eq12, eb6⟩ := obind eb6
      obtain ⟨hg13, eb6⟩ := grd_some eb6
      obtain ⟨q14, eq15, eb6⟩ := obind eb6
      obtain ⟨hg16, eb6⟩ := grd_some eb6
      obtain ⟨q17, eq18, eb6⟩ := obind eb6
      obtain ⟨hg19, eb6⟩ := grd_some eb6
      cases eb6
      exact ⟨fun az ha => (by have h9 := Sum.inl.inj ha; subst h9; exact (agx_wr (agx_wr (agx_wr hz7 (by rfl)) (by rfl)) (by rfl))), fun bz hb => (by cases hb)⟩
  obtain ⟨p21, eb23w, e⟩ := obind e
  have fp21 : agx [(44, some 25), (44, some 26), (44, some 27), (44, some 28), (44, some 29), (44, some 30), (56, none), (57, none), (58, none), (59, none), (60, none), (61, none), (62, none)] mm p21 := by
    clear e
    refine while_fr (Inv := fun z20 => agx [(44, some 25), (44, some 26), (44, some 27), (44, some 28), (44, some 29), (44, some 30), (56, none), (57, none), (58, none), (59, none), (60, none), (61, none), (62, none)] mm z20.2) (Post := fun pw => agx [(44, some 25), (44, some 26), (44, some 27), (44, some 28), (44, some 29), (44, some 30), (56, none), (57, none), (58, none), (59, none), (60, none), (61, none), (62, none)] mm pw) eb23w fp4 ?_
    intro z20 x22y eb23 hz24
    unfold m_X12_asTold_b91 at eb23
    by_cases h27 : (36 : Int32) ≤ z20.1
    · replace eb23 := ite_t h27 eb23
      cases eb23
      exact ⟨fun az ha => (by cases ha), fun bz hb => (by have h9 := Sum.inr.inj hb; subst h9; exact hz24)⟩
    · replace eb23 := ite_f h27 eb23
      obtain ⟨hg28, eb23⟩ := grd_some eb23
      cases eb23
      exact ⟨fun az ha => (by have h9 := Sum.inl.inj ha; subst h9; exact (agx_wr hz24 (by rfl))), fun bz hb => (by cases hb)⟩
  obtain ⟨p30, eb32w, e⟩ := obind e
  have fp30 : agx [(44, some 25), (44, some 26), (44, some 27), (44, some 28), (44, some 29), (44, some 30), (56, none), (57, none), (58, none), (59, none), (60, none), (61, none), (62, none)] mm p30 := by
    clear e
    refine while_fr (Inv := fun z29 => agx [(44, some 25), (44, some 26), (44, some 27), (44, some 28), (44, some 29), (44, some 30), (56, none), (57, none), (58, none), (59, none), (60, none), (61, none), (62, none)] mm z29.2) (Post := fun pw => agx [(44, some 25), (44, some 26), (44, some 27), (44, some 28), (44, some 29), (44, some 30), (56, none), (57, none), (58, none), (59, none), (60, none), (61, none), (62, none)] mm pw) eb32w fp21 ?_
    intro z29 x31y eb32 hz33
    unfold m_X12_asTold_b112 at eb32
    by_cases h36 : (12 : Int32) ≤ z29.1
    · replace eb32 := ite_t h36 eb32
      cases eb32
      exact ⟨fun az ha => (by cases ha), fun bz hb => (by have h9 := Sum.inr.inj hb; subst h9; exact hz33)⟩
    · replace eb32 := ite_f h36 eb32
      obtain ⟨q37, eq38, eb32⟩ := obind eb32
      obtain ⟨hg39, eb32⟩ := grd_some eb32
      obtain ⟨q40, eq41, eb32⟩ := obind eb32
      obtain ⟨hg42, eb32⟩ := grd_some eb32
      obtain ⟨q43, eq44, eb32⟩ := obind eb32
      obtain ⟨hg45, eb32⟩ := grd_some eb32
      cases eb32
      exact ⟨fun az ha => (by have h9 := Sum.inl.inj ha; subst h9; exact (agx_wr (agx_wr (agx_wr hz33 (by rfl)) (by rfl)) (by rfl))), fun bz hb => (by cases hb)⟩
  cases e
  exact fp30
set_option maxRecDepth 100000 in
theorem fr_X12_hand {a1 : Int32} {mm : Mm} {q : Int32 × Mm} (e : m_X12_hand a1 mm = some q) : agx [(44, some 23), (44, some 24), (44, some 25), (44, some 26), (44, some 27), (44, some 28), (44, some 29), (44, some 30), (56, none), (57, none), (58, none), (59, none), (60, none), (61, none), (62, none)] mm q.2 := by
  unfold m_X12_hand at e
  obtain ⟨q1, eq2, e⟩ := obind e
  by_cases h3 : q1 = 0
  · replace e := ite_t h3 e
    cases e
    exact (agx_rf _)
  · replace e := ite_f h3 e
    obtain ⟨q4, eq5, e⟩ := obind e
    obtain ⟨q6, eq7, e⟩ := obind e
    cases e
    exact (agx_tr (agx_wr (agx_wr (agx_rf _) (by rfl)) (by rfl)) (agx_mono (by rfl) (fr_X12_asTold eq7 :)))
set_option maxRecDepth 100000 in
theorem fr_X12_county {a1 : Int32} {a2 : Int32} {mm : Mm} {q : Int32 × Mm} (e : m_X12_county a1 a2 mm = some q) : agx [(44, some 0), (44, some 23), (44, some 24), (44, some 25), (44, some 26), (44, some 27), (44, some 28), (44, some 29), (44, some 30), (56, none), (57, none), (58, none), (59, none), (60, none), (61, none), (62, none)] mm q.2 := by
  unfold m_X12_county at e
  obtain ⟨q1, eq2, e⟩ := obind e
  by_cases h3 : q1.1 = 0
  · replace e := ite_t h3 e
    cases e
    exact (agx_tr (agx_wr (agx_rf _) (by rfl)) (agx_mono (by rfl) (fr_X12_hand eq2 :)))
  · replace e := ite_f h3 e
    by_cases h4 : a2 < (100 : Int32)
    · replace e := ite_t h4 e
      by_cases h5 : (a2 / (10 : Int32)) = (0 : Int32)
      · replace e := ite_t h5 e
        by_cases h6 : (m_X12_in a2 (0 : Int32) (1 : Int32)) = 0
        · replace e := ite_t h6 e
          cases e
          exact (agx_tr (agx_wr (agx_rf _) (by rfl)) (agx_mono (by rfl) (fr_X12_hand eq2 :)))
        · replace e := ite_f h6 e
          obtain ⟨q7, eq8, e⟩ := obind e
          cases e
          exact (agx_tr (agx_wr (agx_rf _) (by rfl)) (agx_mono (by rfl) (fr_X12_hand eq2 :)))
      replace e := ite_f h5 e
      by_cases h9 : (a2 / (10 : Int32)) = (1 : Int32)
      · replace e := ite_t h9 e
        obtain ⟨q10, eq11, e⟩ := obind e
        by_cases h12 : q10 = 0
        · replace e := ite_t h12 e
          cases e
          exact (agx_tr (agx_wr (agx_rf _) (by rfl)) (agx_mono (by rfl) (fr_X12_hand eq2 :)))
        · replace e := ite_f h12 e
          obtain ⟨hg13, e⟩ := grd_some e
          cases e
          exact (agx_tr (agx_wr (agx_rf _) (by rfl)) (agx_mono (by rfl) (fr_X12_hand eq2 :)))
      replace e := ite_f h9 e
      by_cases h14 : (a2 / (10 : Int32)) = (2 : Int32)
      · replace e := ite_t h14 e
        obtain ⟨q15, eq16, e⟩ := obind e
        by_cases h17 : q15 = 0
        · replace e := ite_t h17 e
          cases e
          exact (agx_tr (agx_wr (agx_rf _) (by rfl)) (agx_mono (by rfl) (fr_X12_hand eq2 :)))
        · replace e := ite_f h17 e
          obtain ⟨hg18, e⟩ := grd_some e
          cases e
          exact (agx_tr (agx_wr (agx_rf _) (by rfl)) (agx_mono (by rfl) (fr_X12_hand eq2 :)))
      replace e := ite_f h14 e
      by_cases h19 : (a2 / (10 : Int32)) = (3 : Int32)
      · replace e := ite_t h19 e
        obtain ⟨q20, eq21, e⟩ := obind e
        by_cases h22 : q20 = 0
        · replace e := ite_t h22 e
          cases e
          exact (agx_tr (agx_wr (agx_rf _) (by rfl)) (agx_mono (by rfl) (fr_X12_hand eq2 :)))
        · replace e := ite_f h22 e
          obtain ⟨hg23, e⟩ := grd_some e
          cases e
          exact (agx_tr (agx_wr (agx_rf _) (by rfl)) (agx_mono (by rfl) (fr_X12_hand eq2 :)))
      replace e := ite_f h19 e
      by_cases h24 : (a2 / (10 : Int32)) = (4 : Int32)
      · replace e := ite_t h24 e
        by_cases h25 : (8 : Int32) ≤ (xrem a2 (10 : Int32))
        · replace e := ite_t h25 e
          cases e
          exact (agx_tr (agx_wr (agx_rf _) (by rfl)) (agx_mono (by rfl) (fr_X12_hand eq2 :)))
        · replace e := ite_f h25 e
          obtain ⟨q27, eq28, e⟩ := obind e
          cases e
          exact (agx_tr (agx_wr (agx_rf _) (by rfl)) (agx_mono (by rfl) (fr_X12_hand eq2 :)))
      replace e := ite_f h24 e
      by_cases h29 : (a2 / (10 : Int32)) = (5 : Int32)
      · replace e := ite_t h29 e
        by_cases h30 : (8 : Int32) ≤ (xrem a2 (10 : Int32))
        · replace e := ite_t h30 e
          cases e
          exact (agx_tr (agx_wr (agx_rf _) (by rfl)) (agx_mono (by rfl) (fr_X12_hand eq2 :)))
        · replace e := ite_f h30 e
          obtain ⟨q32, eq33, e⟩ := obind e
          cases e
          exact (agx_tr (agx_wr (agx_rf _) (by rfl)) (agx_mono (by rfl) (fr_X12_hand eq2 :)))
      replace e := ite_f h29 e
      cases e
      exact (agx_tr (agx_wr (agx_rf _) (by rfl)) (agx_mono (by rfl) (fr_X12_hand eq2 :)))
    · replace e := ite_f h4 e
      by_cases h34 : (400 : Int32) ≤ a2
      · replace e := ite_t h34 e
        cases e
        exact (agx_tr (agx_wr (agx_rf _) (by rfl)) (agx_mono (by rfl) (fr_X12_hand eq2 :)))
      · replace e := ite_f h34 e
        obtain ⟨q35, eq36, e⟩ := obind e
        cases e
        exact (agx_tr (agx_wr (agx_rf _) (by rfl)) (agx_mono (by rfl) (fr_X12_hand eq2 :)))
set_option maxRecDepth 100000 in
theorem fr_X12_hasTerm {a1 : Int32} {mm : Mm} {q : Int32 × Mm} (e : m_X12_hasTerm a1 mm = some q) : agx [(44, some 38)] mm q.2 := by
  unfold m_X12_hasTerm at e
  obtain ⟨q1, eq2, e⟩ := obind e
  obtain ⟨hbz, e⟩ := gbz_some e
  cases e
  exact (agx_wr (agx_rf _) (by rfl))
set_option maxRecDepth 100000 in
theorem fr_X12_deed {a1 : Int32} {a2 : Int32} {a3 : Int32} {mm : Mm} {q : Int32 × Mm} (e : m_X12_deed a1 a2 a3 mm = some q) : agx [(44, some 0), (44, some 38)] mm q.2 := by
  unfold m_X12_deed at e
  obtain ⟨q1, eq2, e⟩ := obind e
  by_cases h3 : q1.1 = 0
  · replace e := ite_t h3 e
    cases e
    exact (agx_tr (agx_wr (agx_rf _) (by rfl)) (agx_mono (by rfl) (fr_X12_hasTerm eq2 :)))
  · replace e := ite_f h3 e
    by_cases h4 : a2 = (-1 : Int32)
    · replace e := ite_t h4 e
      by_cases h5 : a3 = 0
      · replace e := ite_t h5 e
        obtain ⟨q6, eq7, e⟩ := obind e
        cases e
        exact (agx_tr (agx_wr (agx_rf _) (by rfl)) (agx_mono (by rfl) (fr_X12_hasTerm eq2 :)))
      · replace e := ite_f h5 e
        cases e
        exact (agx_tr (agx_wr (agx_rf _) (by rfl)) (agx_mono (by rfl) (fr_X12_hasTerm eq2 :)))
    · replace e := ite_f h4 e
      obtain ⟨q8, eq9, e⟩ := obind e
      by_cases h10 : (m_X12_in a2 (0 : Int32) (q8 - (1 : Int32))) = 0
      · replace e := ite_t h10 e
        cases e
        exact (agx_tr (agx_wr (agx_rf _) (by rfl)) (agx_mono (by rfl) (fr_X12_hasTerm eq2 :)))
      · replace e := ite_f h10 e
        by_cases h11 : (m_X12_in a3 (0 : Int32) (3 : Int32)) = 0
        · replace e := ite_t h11 e
          cases e
          exact (agx_tr (agx_wr (agx_rf _) (by rfl)) (agx_mono (by rfl) (fr_X12_hasTerm eq2 :)))
        · replace e := ite_f h11 e
          obtain ⟨q12, eq13, e⟩ := obind e
          cases e
          exact (agx_tr (agx_wr (agx_rf _) (by rfl)) (agx_mono (by rfl) (fr_X12_hasTerm eq2 :)))
set_option maxRecDepth 100000 in
theorem fr_X12_addOath {a1 : Int32} {a2 : Int32} {a3 : Int32} {mm : Mm} {q : Mm} (e : m_X12_addOath a1 a2 a3 mm = some q) : agx [(44, some 25), (60, none), (61, none), (62, none)] mm q := by
  unfold m_X12_addOath at e
  obtain ⟨hg1, e⟩ := grd_some e
  obtain ⟨hg2, e⟩ := grd_some e
  obtain ⟨hg3, e⟩ := grd_some e
  cases e
  exact (agx_wr (agx_wr (agx_wr (agx_wr (agx_rf _) (by rfl)) (by rfl)) (by rfl)) (by rfl))
set_option maxRecDepth 100000 in
theorem fr_X12_swears {a1 : Int32} {a2 : Int32} {a3 : Int32} {mm : Mm} {q : Int32 × Mm} (e : m_X12_swears a1 a2 a3 mm = some q) : agx [(44, some 25), (60, none), (61, none), (62, none)] mm q.2 := by
  unfold m_X12_swears at e
  by_cases h1 : (m_X12_has (mI mm 44 27) a1) = 0
  · replace e := ite_t h1 e
    by_cases h2 : (mI mm 44 25) = (12 : Int32)
    · replace e := ite_t h2 e
      cases e
      exact (agx_rf _)
    · replace e := ite_f h2 e
      obtain ⟨q3, eq4, e⟩ := obind e
      by_cases h5 : q3 = 0
      · replace e := ite_t h5 e
        obtain ⟨q6, eq7, e⟩ := obind e
        cases e
        exact (agx_tr (agx_rf _) (agx_mono (by rfl) (fr_X12_addOath eq7 :)))
      · replace e := ite_f h5 e
        cases e
        exact (agx_rf _)
  · replace e := ite_f h1 e
    cases e
    exact (agx_rf _)
set_option maxRecDepth 100000 in
theorem fr_X12_itIsMonday {mm : Mm} {q : Int32 × Mm} (e : m_X12_itIsMonday mm = some q) : agx [(44, some 25), (44, some 27), (44, some 28), (44, some 29), (44, some 30)] mm q.2 := by
  unfold m_X12_itIsMonday at e
  obtain ⟨q1, eq2, e⟩ := obind e
  obtain ⟨p4, eb6w, e⟩ := obind e
  have fp4 : agx [(44, some 25), (44, some 27), (44, some 28), (44, some 29), (44, some 30)] mm p4 := by
    clear e
    refine while_fr (Inv := fun z3 => agx [(44, some 25), (44, some 27), (44, some 28), (44, some 29), (44, some 30)] mm z3.2) (Post := fun pw => agx [(44, some 25), (44, some 27), (44, some 28), (44, some 29), (44, some 30)] mm pw) eb6w (agx_rf _) ?_
    intro z3 x5y eb6 hz7
    unfold m_X12_itIsMonday_b7 at eb6
    by_cases h10 : (mI z3.2 44 25) ≤ z3.1
    · replace eb6 := ite_t h10 eb6
      cases eb6
      exact ⟨fun az ha => (by cases ha), fun bz hb => (by have h9 := Sum.inr.inj hb; subst h9; exact hz7)⟩
    · replace eb6 := ite_f h10 eb6
      obtain ⟨p11, ep13, eb6⟩ := obind eb6
      cases eb6
      exact ⟨fun az ha => (by have h9 := Sum.inl.inj ha; subst h9; exact (agx_wr hz7 (by rfl))), fun bz hb => (by cases hb)⟩
  obtain ⟨q14, eq15, e⟩ := obind e
  obtain ⟨q16, eq17, e⟩ := obind e
  cases e
  exact (agx_wr (agx_wr (agx_wr (agx_wr fp4 (by rfl)) (by rfl)) (by rfl)) (by rfl))
set_option maxRecDepth 100000 in
theorem fr_X12_changesWill {a1 : Int32} {a2 : Int32} {mm : Mm} {q : Int32 × Mm} (e : m_X12_changesWill a1 a2 mm = some q) : agx [(56, none)] mm q.2 := by
  unfold m_X12_changesWill at e
  obtain ⟨q1, eq2, e⟩ := obind e
  by_cases h3 : q1 = 0
  · replace e := ite_t h3 e
    cases e
    exact (agx_rf _)
  · replace e := ite_f h3 e
    obtain ⟨hg4, e⟩ := grd_some e
    by_cases h5 : (m_X12_in ((mI mm 56 (ix a1)) + a2) (0 : Int32) (9 : Int32)) = 0
    · replace e := ite_t h5 e
      cases e
      exact (agx_rf _)
    · replace e := ite_f h5 e
      obtain ⟨hg6, e⟩ := grd_some e
      obtain ⟨hg7, e⟩ := grd_some e
      cases e
      exact (agx_wr (agx_rf _) (by rfl))
set_option maxRecDepth 100000 in
theorem fr_X12_visitsOne {a1 : Int32} {a2 : Int32} {mm : Mm} {q : Int32 × Mm} (e : m_X12_visitsOne a1 a2 mm = some q) : agx [(59, none)] mm q.2 := by
  unfold m_X12_visitsOne at e
  obtain ⟨hg1, e⟩ := grd_some e
  by_cases h2 : (mI mm 59 (ix (((6 : Int32) * a1) + a2))) = (9 : Int32)
  · replace e := ite_t h2 e
    cases e
    exact (agx_rf _)
  · replace e := ite_f h2 e
    obtain ⟨hg3, e⟩ := grd_some e
    obtain ⟨hg4, e⟩ := grd_some e
    cases e
    exact (agx_wr (agx_rf _) (by rfl))
set_option maxRecDepth 100000 in
theorem fr_X12_courts {a1 : Int32} {a2 : Int32} {a3 : Int32} {mm : Mm} {q : Int32 × Mm} (e : m_X12_courts a1 a2 a3 mm = some q) : agx [(58, none)] mm q.2 := by
  unfold m_X12_courts at e
  obtain ⟨hg1, e⟩ := grd_some e
  by_cases h2 : (m_X12_has (mI mm 58 (ix a2)) a1) = a3
  · replace e := ite_t h2 e
    cases e
    exact (agx_rf _)
  · replace e := ite_f h2 e
    by_cases h3 : a3 = 0
    · replace e := ite_t h3 e
      obtain ⟨hg4, e⟩ := grd_some e
      obtain ⟨hg5, e⟩ := grd_some e
      cases e
      exact (agx_wr (agx_rf _) (by rfl))
    · replace e := ite_f h3 e
      obtain ⟨hg6, e⟩ := grd_some e
      obtain ⟨hg7, e⟩ := grd_some e
      cases e
      exact (agx_wr (agx_rf _) (by rfl))
set_option maxRecDepth 100000 in
theorem fr_X12_does {a1 : Int32} {a2 : Int32} {a3 : Int32} {a4 : Int32} {mm : Mm} {q : Int32 × Mm} (e : m_X12_does a1 a2 a3 a4 mm = some q) : agx [(44, some 25), (44, some 27), (44, some 28), (44, some 29), (44, some 30), (56, none), (58, none), (59, none), (60, none), (61, none), (62, none)] mm q.2 := by
  unfold m_X12_does at e
  by_cases h1 : a1 = 0
  · replace e := ite_t h1 e
    obtain ⟨q2, eq3, e⟩ := obind e
    obtain ⟨hbz, e⟩ := gbz_some e
    cases e
    exact (agx_tr (agx_rf _) (agx_mono (by rfl) (fr_X12_itIsMonday eq3 :)))
  · replace e := ite_f h1 e
    by_cases h4 : (2 : Int32) < a1
    · replace e := ite_t h4 e
      obtain ⟨q5, eq6, e⟩ := obind e
      by_cases h7 : q5 = 0
      · replace e := ite_t h7 e
        cases e
        exact (agx_rf _)
      · replace e := ite_f h7 e
        by_cases h8 : a1 = (3 : Int32)
        · replace e := ite_t h8 e
          obtain ⟨q9, eq10, e⟩ := obind e
          obtain ⟨hbz, e⟩ := gbz_some e
          cases e
          exact (agx_tr (agx_rf _) (agx_mono (by rfl) (fr_X12_visitsOne eq10 :)))
        replace e := ite_f h8 e
        by_cases h11 : a1 = (4 : Int32)
        · replace e := ite_t h11 e
          obtain ⟨q13, eq14, e⟩ := obind e
          obtain ⟨hbz, e⟩ := gbz_some e
          cases e
          exact (agx_tr (agx_rf _) (agx_mono (by rfl) (fr_X12_courts eq14 :)))
        replace e := ite_f h11 e
        by_cases h15 : a1 = (5 : Int32)
        · replace e := ite_t h15 e
          obtain ⟨q17, eq18, e⟩ := obind e
          obtain ⟨hbz, e⟩ := gbz_some e
          cases e
          exact (agx_tr (agx_rf _) (agx_mono (by rfl) (fr_X12_courts eq18 :)))
        replace e := ite_f h15 e
        obtain ⟨q19, eq20, e⟩ := obind e
        obtain ⟨hbz, e⟩ := gbz_some e
        cases e
        exact (agx_tr (agx_rf _) (agx_mono (by rfl) (fr_X12_swears eq20 :)))
    · replace e := ite_f h4 e
      obtain ⟨q22, eq23, e⟩ := obind e
      obtain ⟨hbz, e⟩ := gbz_some e
      cases e
      exact (agx_tr (agx_rf _) (agx_mono (by rfl) (fr_X12_changesWill eq23 :)))
set_option maxRecDepth 100000 in
theorem fr_X12_doesDeed {a1 : Int32} {mm : Mm} {q : Int32 × Mm} (e : m_X12_doesDeed a1 mm = some q) : agx [(44, some 25), (44, some 27), (44, some 28), (44, some 29), (44, some 30), (56, none), (58, none), (59, none), (60, none), (61, none), (62, none)] mm q.2 := by
  unfold m_X12_doesDeed at e
  obtain ⟨q1, eq2, e⟩ := obind e
  obtain ⟨q3, eq4, e⟩ := obind e
  obtain ⟨q5, eq6, e⟩ := obind e
  obtain ⟨q7, eq8, e⟩ := obind e
  obtain ⟨q9, eq10, e⟩ := obind e
  obtain ⟨hbz, e⟩ := gbz_some e
  cases e
  exact (agx_tr (agx_rf _) (agx_mono (by rfl) (fr_X12_does eq10 :)))
set_option maxRecDepth 100000 in
theorem fr_X12_play {a1 : Int32} {mm : Mm} {q : Int32 × Mm} (e : m_X12_play a1 mm = some q) : agx [(44, some 25), (44, some 27), (44, some 28), (44, some 29), (44, some 30), (56, none), (58, none), (59, none), (60, none), (61, none), (62, none)] mm q.2 := by
  unfold m_X12_play at e
  obtain ⟨p2, eb4w, e⟩ := obind e
  have fp2 : agx [(44, some 25), (44, some 27), (44, some 28), (44, some 29), (44, some 30), (56, none), (58, none), (59, none), (60, none), (61, none), (62, none)] mm p2.2 := by
    clear e
    refine while_fr (Inv := fun z1 => agx [(44, some 25), (44, some 27), (44, some 28), (44, some 29), (44, some 30), (56, none), (58, none), (59, none), (60, none), (61, none), (62, none)] mm z1.2) (Post := fun pw => agx [(44, some 25), (44, some 27), (44, some 28), (44, some 29), (44, some 30), (56, none), (58, none), (59, none), (60, none), (61, none), (62, none)] mm pw.2) eb4w (agx_rf _) ?_
    intro z1 x3y eb4 hz5
    unfold m_X12_play_b2 at eb4
    by_cases h8 : a1 ≤ z1.1
    · replace eb4 := ite_t h8 eb4
      cases eb4
      exact ⟨fun az ha => (by cases ha), fun bz hb => (by have h9 := Sum.inr.inj hb; subst h9; exact hz5)⟩
    · replace eb4 := ite_f h8 eb4
      obtain ⟨q9, eq10, eb4⟩ := obind eb4
      by_cases h11 : q9.1 = 0
      · replace eb4 := ite_t h11 eb4
        cases eb4
        exact ⟨fun az ha => (by cases ha), fun bz hb => (by have h9 := Sum.inr.inj hb; subst h9; exact (agx_tr hz5 (agx_mono (by rfl) (fr_X12_doesDeed eq10 :))))⟩
      · replace eb4 := ite_f h11 eb4
        cases eb4
        exact ⟨fun az ha => (by have h9 := Sum.inl.inj ha; subst h9; exact (agx_tr hz5 (agx_mono (by rfl) (fr_X12_doesDeed eq10 :)))), fun bz hb => (by cases hb)⟩
  cases e
  exact fp2
set_option maxRecDepth 100000 in
theorem fr_X12_layAll {a1 : Int32} {a2 : Int32} {mm : Mm} {q : Int32 × Mm} (e : m_X12_layAll a1 a2 mm = some q) : agx [(44, some 23), (44, some 24), (44, some 25), (44, some 26), (44, some 27), (44, some 28), (44, some 29), (44, some 30), (44, some 38), (56, none), (57, none), (58, none), (59, none), (60, none), (61, none), (62, none)] mm q.2 := by
  unfold m_X12_layAll at e
  obtain ⟨q1, eq2, e⟩ := obind e
  by_cases h3 : q1.1 = 0
  · replace e := ite_t h3 e
    cases e
    exact (agx_tr (agx_rf _) (agx_mono (by rfl) (fr_X12_hasTerm eq2 :)))
  · replace e := ite_f h3 e
    obtain ⟨q4, eq5, e⟩ := obind e
    by_cases h6 : q4.1 = 0
    · replace e := ite_t h6 e
      cases e
      exact (agx_tr (agx_tr (agx_rf _) (agx_mono (by rfl) (fr_X12_hasTerm eq2 :))) (agx_mono (by rfl) (fr_X12_hand eq5 :)))
    · replace e := ite_f h6 e
      cases e
      exact (agx_tr (agx_tr (agx_rf _) (agx_mono (by rfl) (fr_X12_hasTerm eq2 :))) (agx_mono (by rfl) (fr_X12_hand eq5 :)))
set_option maxRecDepth 100000 in
theorem fr_X12_stop {a1 : Int32} {a2 : Int32} {mm : Mm} {q : Int32 × Mm} (e : m_X12_stop a1 a2 mm = some q) : agx [(44, some 0), (44, some 23), (44, some 24), (44, some 25), (44, some 26), (44, some 27), (44, some 28), (44, some 29), (44, some 30), (44, some 38), (56, none), (57, none), (58, none), (59, none), (60, none), (61, none), (62, none)] mm q.2 := by
  unfold m_X12_stop at e
  obtain ⟨q1, eq2, e⟩ := obind e
  by_cases h3 : q1.1 = 0
  · replace e := ite_t h3 e
    cases e
    exact (agx_tr (agx_wr (agx_rf _) (by rfl)) (agx_mono (by rfl) (fr_X12_layAll eq2 :)))
  · replace e := ite_f h3 e
    obtain ⟨q4, eq5, e⟩ := obind e
    obtain ⟨q6, eq7, e⟩ := obind e
    cases e
    exact (agx_tr (agx_tr (agx_wr (agx_rf _) (by rfl)) (agx_mono (by rfl) (fr_X12_layAll eq2 :))) (agx_mono (by rfl) (fr_X12_play eq7 :)))
set_option maxRecDepth 100000 in
theorem fr_X12_state {a1 : Int32} {a2 : Int32} {a3 : Int32} {a4 : Int32} {mm : Mm} {q : Int32 × Mm} (e : m_X12_state a1 a2 a3 a4 mm = some q) : agx [(44, some 0), (44, some 23), (44, some 24), (44, some 25), (44, some 26), (44, some 27), (44, some 28), (44, some 29), (44, some 30), (44, some 38), (56, none), (57, none), (58, none), (59, none), (60, none), (61, none), (62, none)] mm q.2 := by
  unfold m_X12_state at e
  obtain ⟨q1, eq2, e⟩ := obind e
  by_cases h3 : q1.1 = 0
  · replace e := ite_t h3 e
    cases e
    exact (agx_tr (agx_wr (agx_rf _) (by rfl)) (agx_mono (by rfl) (fr_X12_layAll eq2 :)))
  · replace e := ite_f h3 e
    obtain ⟨q4, eq5, e⟩ := obind e
    by_cases h6 : (m_X12_in a3 (0 : Int32) q4) = 0
    · replace e := ite_t h6 e
      cases e
      exact (agx_tr (agx_wr (agx_rf _) (by rfl)) (agx_mono (by rfl) (fr_X12_layAll eq2 :)))
    · replace e := ite_f h6 e
      obtain ⟨q7, eq8, e⟩ := obind e
      by_cases h9 : q7.1 = a3
      · replace e := ite_t h9 e
        obtain ⟨q10, eq11, e⟩ := obind e
        cases e
        exact (agx_tr (agx_tr (agx_wr (agx_rf _) (by rfl)) (agx_mono (by rfl) (fr_X12_layAll eq2 :))) (agx_mono (by rfl) (fr_X12_play eq8 :)))
      · replace e := ite_f h9 e
        cases e
        exact (agx_tr (agx_tr (agx_wr (agx_rf _) (by rfl)) (agx_mono (by rfl) (fr_X12_layAll eq2 :))) (agx_mono (by rfl) (fr_X12_play eq8 :)))
set_option maxRecDepth 100000 in
theorem fr_X12_visitsBy {a1 : Int32} {a2 : Int32} {a3 : Int32} {mm : Mm} {q : Int32 × Mm} (e : m_X12_visitsBy a1 a2 a3 mm = some q) : agx [(64, none)] mm q.2 := by
  unfold m_X12_visitsBy at e
  obtain ⟨p2, eb4w, e⟩ := obind e
  have fp2 : agx [(64, none)] mm p2 := by
    clear e
    refine while_fr (Inv := fun z1 => agx [(64, none)] mm z1.2) (Post := fun pw => agx [(64, none)] mm pw) eb4w (agx_rf _) ?_
    intro z1 x3y eb4 hz5
    unfold m_X12_visitsBy_b3 at eb4
    by_cases h8 : (6 : Int32) ≤ z1.1
    · replace eb4 := ite_t h8 eb4
      cases eb4
      exact ⟨fun az ha => (by cases ha), fun bz hb => (by have h9 := Sum.inr.inj hb; subst h9; exact hz5)⟩
    · replace eb4 := ite_f h8 eb4
      obtain ⟨hg9, eb4⟩ := grd_some eb4
      cases eb4
      exact ⟨fun az ha => (by have h9 := Sum.inl.inj ha; subst h9; exact (agx_wr hz5 (by rfl))), fun bz hb => (by cases hb)⟩
  obtain ⟨x12, eb13w, elx12, erx12⟩ := bS_some e
  have cx12 : ((∀ pz15, x12 = .inl pz15 → agx [(64, none)] mm pz15) ∧ (∀ tz16, x12 = .inr tz16 → agx [(64, none)] mm tz16.2)) := by
    clear elx12 erx12
    refine while_fr (Inv := fun z10 => agx [(64, none)] mm z10.2.2) (Post := fun pw => ((∀ pz15, pw = .inl pz15 → agx [(64, none)] mm pz15) ∧ (∀ tz16, pw = .inr tz16 → agx [(64, none)] mm tz16.2))) eb13w fp2 ?_
    intro z10 x12y eb13 hz14
    unfold m_X12_visitsBy_b30 at eb13
    by_cases h19 : (8 : Int32) ≤ z10.2.1
    · replace eb13 := ite_t h19 eb13
      cases eb13
      exact ⟨fun az ha => (by cases ha), fun bz hb => (by have h9 := Sum.inr.inj hb; subst h9; exact ⟨fun pz hz => (by have h9 := Sum.inl.inj hz; subst h9; exact hz14), fun tz hz => (by cases hz)⟩)⟩
    · replace eb13 := ite_f h19 eb13
      obtain ⟨x21, ep22, elx21, erx21⟩ := bS_some eb13
      have cx21 : ((∀ pz23, x21 = .inl pz23 → agx [(64, none)] mm pz23.2) ∧ (∀ tz24, x21 = .inr tz24 → ((∀ az17, tz24 = .inl az17 → agx [(64, none)] mm az17.2.2) ∧ (∀ bz18, tz24 = .inr bz18 → ((∀ pz15, bz18 = .inl pz15 → agx [(64, none)] mm pz15) ∧ (∀ tz16, bz18 = .inr tz16 → agx [(64, none)] mm tz16.2)))))) := by
        clear elx21 erx21
        by_cases h25 : (m_X12_has a3 z10.2.1) = 0
        · replace ep22 := ite_t h25 ep22
          cases ep22
          exact ⟨fun pz hz => (by have h9 := Sum.inl.inj hz; subst h9; exact hz14), fun tz hz => (by cases hz)⟩
        · replace ep22 := ite_f h25 ep22
          by_cases h26 : (mI z10.2.2 44 25) ≤ (xrem z10.1 (12 : Int32))
          · replace ep22 := ite_t h26 ep22
            cases ep22
            exact ⟨fun pz hz => (by cases hz), fun tz hz => (by have h9 := Sum.inr.inj hz; subst h9; exact ⟨fun az ha => (by cases ha), fun bz hb => (by have h9 := Sum.inr.inj hb; subst h9; exact ⟨fun pz hz => (by cases hz), fun tz hz => (by have h9 := Sum.inr.inj hz; subst h9; exact hz14)⟩)⟩)⟩
          · replace ep22 := ite_f h26 ep22
            obtain ⟨hg27, ep22⟩ := grd_some ep22
            by_cases h28 : (mI z10.2.2 61 (ix (xrem z10.1 (12 : Int32)))) = a2
            · replace ep22 := ite_t h28 ep22
              obtain ⟨hg29, ep22⟩ := grd_some ep22
              by_cases h30 : (mI z10.2.2 62 (ix (xrem z10.1 (12 : Int32)))) = z10.2.1
              · replace ep22 := ite_t h30 ep22
                obtain ⟨hg31, ep22⟩ := grd_some ep22
                obtain ⟨hg32, ep22⟩ := grd_some ep22
                obtain ⟨hg33, ep22⟩ := grd_some ep22
                obtain ⟨q34, eq35, ep22⟩ := obind ep22
                obtain ⟨hg36, ep22⟩ := grd_some ep22
                cases ep22
                exact ⟨fun pz hz => (by have h9 := Sum.inl.inj hz; subst h9; exact (agx_wr hz14 (by rfl))), fun tz hz => (by cases hz)⟩
              · replace ep22 := ite_f h30 ep22
                cases ep22
                exact ⟨fun pz hz => (by cases hz), fun tz hz => (by have h9 := Sum.inr.inj hz; subst h9; exact ⟨fun az ha => (by cases ha), fun bz hb => (by have h9 := Sum.inr.inj hb; subst h9; exact ⟨fun pz hz => (by cases hz), fun tz hz => (by have h9 := Sum.inr.inj hz; subst h9; exact hz14)⟩)⟩)⟩
            · replace ep22 := ite_f h28 ep22
              cases ep22
              exact ⟨fun pz hz => (by cases hz), fun tz hz => (by have h9 := Sum.inr.inj hz; subst h9; exact ⟨fun az ha => (by cases ha), fun bz hb => (by have h9 := Sum.inr.inj hb; subst h9; exact ⟨fun pz hz => (by cases hz), fun tz hz => (by have h9 := Sum.inr.inj hz; subst h9; exact hz14)⟩)⟩)⟩
      cases x21 with
      | inl p20 =>
        replace eb13 := elx21 _ rfl
        have fp20 := cx21.1 _ rfl
        cases eb13
        exact ⟨fun az ha => (by have h9 := Sum.inl.inj ha; subst h9; exact fp20), fun bz hb => (by cases hb)⟩
      | inr tz0 =>
        have hz := erx21 _ rfl
        subst hz
        exact cx21.2 _ rfl
  cases x12 with
  | inl p11 =>
    replace e := elx12 _ rfl
    have fp11 := cx12.1 _ rfl
    obtain ⟨p38, eb40w, e⟩ := obind e
    cases e
    exact fp11
  | inr tz0 =>
    have hz := erx12 _ rfl
    subst hz
    exact cx12.2 _ rfl
set_option maxRecDepth 100000 in
theorem fr_X12_fewestVisits {a1 : Int32} {mm : Mm} {q : Int32 × Mm} (e : m_X12_fewestVisits a1 mm = some q) : agx [(64, none)] mm q.2 := by
  unfold m_X12_fewestVisits at e
  obtain ⟨q1, eq2, e⟩ := obind e
  obtain ⟨q3, eq4, e⟩ := obind e
  obtain ⟨hg5, e⟩ := grd_some e
  by_cases h6 : (mI mm 57 (ix a1)) < q3
  · replace e := ite_t h6 e
    cases e
    exact (agx_rf _)
  · replace e := ite_f h6 e
    obtain ⟨q7, eq8, e⟩ := obind e
    by_cases h9 : q7 = 0
    · replace e := ite_t h9 e
      cases e
      exact (agx_rf _)
    · replace e := ite_f h9 e
      obtain ⟨p11, eb13w, e⟩ := obind e
      obtain ⟨p18, eb20w, e⟩ := obind e
      have fp18 : agx [(64, none)] mm p18.2 := by
        clear e
        refine while_fr (Inv := fun z17 => agx [(64, none)] mm z17.2.2) (Post := fun pw => agx [(64, none)] mm pw.2) eb20w (agx_rf _) ?_
        intro z17 x19y eb20 hz21
        unfold m_X12_fewestVisits_b62 at eb20
        by_cases h24 : p11 ≤ z17.2.1
        · replace eb20 := ite_t h24 eb20
          cases eb20
          exact ⟨fun az ha => (by cases ha), fun bz hb => (by have h9 := Sum.inr.inj hb; subst h9; exact hz21)⟩
        · replace eb20 := ite_f h24 eb20
          obtain ⟨q25, eq26, eb20⟩ := obind eb20
          cases eb20
          exact ⟨fun az ha => (by have h9 := Sum.inl.inj ha; subst h9; exact (agx_tr hz21 (agx_mono (by rfl) (fr_X12_visitsBy eq26 :)))), fun bz hb => (by cases hb)⟩
      cases e
      exact fp18
set_option maxRecDepth 100000 in
theorem fr_X12_hearten {a1 : Int32} {mm : Mm} {q : Int32 × Mm} (e : m_X12_hearten a1 mm = some q) : agx [(56, none)] mm q.2 := by
  unfold m_X12_hearten at e
  obtain ⟨x3, eb4w, elx3, erx3⟩ := bS_some e
  have cx3 : ((∀ pz6, x3 = .inl pz6 → agx [(56, none)] mm pz6) ∧ (∀ tz7, x3 = .inr tz7 → agx [(56, none)] mm tz7.2)) := by
    clear elx3 erx3
    refine while_fr (Inv := fun z1 => agx [(56, none)] mm z1.2) (Post := fun pw => ((∀ pz6, pw = .inl pz6 → agx [(56, none)] mm pz6) ∧ (∀ tz7, pw = .inr tz7 → agx [(56, none)] mm tz7.2))) eb4w (agx_rf _) ?_
    intro z1 x3y eb4 hz5
    unfold m_X12_hearten_b2 at eb4
    obtain ⟨q10, eq11, eb4⟩ := obind eb4
    by_cases h12 : (9 : Int32) < (q10 + z1.1)
    · replace eb4 := ite_t h12 eb4
      cases eb4
      exact ⟨fun az ha => (by cases ha), fun bz hb => (by have h9 := Sum.inr.inj hb; subst h9; exact ⟨fun pz hz => (by have h9 := Sum.inl.inj hz; subst h9; exact hz5), fun tz hz => (by cases hz)⟩)⟩
    · replace eb4 := ite_f h12 eb4
      obtain ⟨q13, eq14, eb4⟩ := obind eb4
      obtain ⟨hg15, eb4⟩ := grd_some eb4
      obtain ⟨q16, eq17, eb4⟩ := obind eb4
      obtain ⟨q18, eq19, eb4⟩ := obind eb4
      by_cases h20 : q16 = q18
      · replace eb4 := ite_t h20 eb4
        cases eb4
        exact ⟨fun az ha => (by cases ha), fun bz hb => (by have h9 := Sum.inr.inj hb; subst h9; exact ⟨fun pz hz => (by cases hz), fun tz hz => (by have h9 := Sum.inr.inj hz; subst h9; exact (agx_wr hz5 (by rfl)))⟩)⟩
      · replace eb4 := ite_f h20 eb4
        cases eb4
        exact ⟨fun az ha => (by have h9 := Sum.inl.inj ha; subst h9; exact (agx_wr hz5 (by rfl))), fun bz hb => (by cases hb)⟩
  cases x3 with
  | inl p2 =>
    replace e := elx3 _ rfl
    have fp2 := cx3.1 _ rfl
    cases e
    exact fp2
  | inr tz0 =>
    have hz := erx3 _ rfl
    subst hz
    exact cx3.2 _ rfl
set_option maxRecDepth 100000 in
theorem fr_X12_keeps {a1 : Int32} {a2 : Int32} {a3 : Int32} {mm : Mm} {q : Int32 × Mm} (e : m_X12_keeps a1 a2 a3 mm = some q) : agx [(44, some 0), (44, some 23), (44, some 24), (44, some 25), (44, some 26), (44, some 27), (44, some 28), (44, some 29), (44, some 30), (56, none), (57, none), (58, none), (59, none), (60, none), (61, none), (62, none), (64, none)] mm q.2 := by
  unfold m_X12_keeps at e
  obtain ⟨q1, eq2, e⟩ := obind e
  by_cases h3 : q1.1 = 0
  · replace e := ite_t h3 e
    cases e
    exact (agx_tr (agx_wr (agx_rf _) (by rfl)) (agx_mono (by rfl) (fr_X12_hand eq2 :)))
  · replace e := ite_f h3 e
    obtain ⟨q4, eq5, e⟩ := obind e
    by_cases h6 : q4 = 0
    · replace e := ite_t h6 e
      cases e
      exact (agx_tr (agx_wr (agx_rf _) (by rfl)) (agx_mono (by rfl) (fr_X12_hand eq2 :)))
    · replace e := ite_f h6 e
      by_cases h7 : a3 = (0 : Int32)
      · replace e := ite_t h7 e
        obtain ⟨q8, eq9, e⟩ := obind e
        cases e
        exact (agx_tr (agx_wr (agx_rf _) (by rfl)) (agx_mono (by rfl) (fr_X12_hand eq2 :)))
      replace e := ite_f h7 e
      by_cases h10 : a3 = (1 : Int32)
      · replace e := ite_t h10 e
        obtain ⟨q11, eq12, e⟩ := obind e
        cases e
        exact (agx_tr (agx_wr (agx_rf _) (by rfl)) (agx_mono (by rfl) (fr_X12_hand eq2 :)))
      replace e := ite_f h10 e
      by_cases h13 : a3 = (2 : Int32)
      · replace e := ite_t h13 e
        obtain ⟨q14, eq15, e⟩ := obind e
        cases e
        exact (agx_tr (agx_wr (agx_rf _) (by rfl)) (agx_mono (by rfl) (fr_X12_hand eq2 :)))
      replace e := ite_f h13 e
      by_cases h16 : a3 = (3 : Int32)
      · replace e := ite_t h16 e
        obtain ⟨q17, eq18, e⟩ := obind e
        cases e
        exact (agx_tr (agx_tr (agx_wr (agx_rf _) (by rfl)) (agx_mono (by rfl) (fr_X12_hand eq2 :))) (agx_mono (by rfl) (fr_X12_fewestVisits eq18 :)))
      replace e := ite_f h16 e
      by_cases h19 : a3 = (4 : Int32)
      · replace e := ite_t h19 e
        obtain ⟨q20, eq21, e⟩ := obind e
        cases e
        exact (agx_tr (agx_wr (agx_rf _) (by rfl)) (agx_mono (by rfl) (fr_X12_hand eq2 :)))
      replace e := ite_f h19 e
      by_cases h22 : a3 = (5 : Int32)
      · replace e := ite_t h22 e
        obtain ⟨q23, eq24, e⟩ := obind e
        cases e
        exact (agx_tr (agx_tr (agx_wr (agx_rf _) (by rfl)) (agx_mono (by rfl) (fr_X12_hand eq2 :))) (agx_mono (by rfl) (fr_X12_hearten eq24 :)))
      replace e := ite_f h22 e
      cases e
      exact (agx_tr (agx_wr (agx_rf _) (by rfl)) (agx_mono (by rfl) (fr_X12_hand eq2 :)))
set_option maxRecDepth 100000 in
theorem fr_X12_heart {a1 : Int32} {a2 : Int32} {a3 : Int32} {mm : Mm} {q : Int32 × Mm} (e : m_X12_heart a1 a2 a3 mm = some q) : agx [(44, some 0), (44, some 23), (44, some 24), (44, some 25), (44, some 26), (44, some 27), (44, some 28), (44, some 29), (44, some 30), (56, none), (57, none), (58, none), (59, none), (60, none), (61, none), (62, none)] mm q.2 := by
  unfold m_X12_heart at e
  obtain ⟨q1, eq2, e⟩ := obind e
  by_cases h3 : q1.1 = 0
  · replace e := ite_t h3 e
    cases e
    exact (agx_tr (agx_wr (agx_rf _) (by rfl)) (agx_mono (by rfl) (fr_X12_hand eq2 :)))
  · replace e := ite_f h3 e
    obtain ⟨q4, eq5, e⟩ := obind e
    by_cases h6 : q4 = 0
    · replace e := ite_t h6 e
      cases e
      exact (agx_tr (agx_wr (agx_rf _) (by rfl)) (agx_mono (by rfl) (fr_X12_hand eq2 :)))
    · replace e := ite_f h6 e
      obtain ⟨q7, eq8, e⟩ := obind e
      cases e
      exact (agx_tr (agx_wr (agx_rf _) (by rfl)) (agx_mono (by rfl) (fr_X12_hand eq2 :)))
set_option maxRecDepth 100000 in
theorem fr_X12_strikes {mm : Mm} {q : Int32 × Mm} (e : m_X12_strikes mm = some q) : agx [(44, some 26)] mm q.2 := by
  unfold m_X12_strikes at e
  obtain ⟨p2, eb4w, e⟩ := obind e
  have fp2 : agx [(44, some 26)] mm p2.2 := by
    clear e
    refine while_fr (Inv := fun z1 => agx [(44, some 26)] mm z1.2.2) (Post := fun pw => agx [(44, some 26)] mm pw.2) eb4w (agx_rf _) ?_
    intro z1 x3y eb4 hz5
    unfold m_X12_strikes_b4 at eb4
    by_cases h8 : (xshl (1 : Int32) (mI z1.2.2 44 25)) ≤ z1.2.1
    · replace eb4 := ite_t h8 eb4
      cases eb4
      exact ⟨fun az ha => (by cases ha), fun bz hb => (by have h9 := Sum.inr.inj hb; subst h9; exact hz5)⟩
    · replace eb4 := ite_f h8 eb4
      obtain ⟨p9, ep11, eb4⟩ := obind eb4
      obtain ⟨p12, ep14, eb4⟩ := obind eb4
      cases eb4
      exact ⟨fun az ha => (by have h9 := Sum.inl.inj ha; subst h9; exact (agx_wr hz5 (by rfl))), fun bz hb => (by cases hb)⟩
  cases e
  exact fp2
set_option maxRecDepth 100000 in
theorem fr_X12_fall {a1 : Int32} {a2 : Int32} {mm : Mm} {q : Int32 × Mm} (e : m_X12_fall a1 a2 mm = some q) : agx [(44, some 0), (44, some 23), (44, some 24), (44, some 25), (44, some 26), (44, some 27), (44, some 28), (44, some 29), (44, some 30), (56, none), (57, none), (58, none), (59, none), (60, none), (61, none), (62, none)] mm q.2 := by
  unfold m_X12_fall at e
  obtain ⟨q1, eq2, e⟩ := obind e
  by_cases h3 : q1.1 = 0
  · replace e := ite_t h3 e
    cases e
    exact (agx_tr (agx_wr (agx_rf _) (by rfl)) (agx_mono (by rfl) (fr_X12_hand eq2 :)))
  · replace e := ite_f h3 e
    by_cases h4 : a2 = (0 : Int32)
    · replace e := ite_t h4 e
      obtain ⟨q5, eq6, e⟩ := obind e
      cases e
      exact (agx_tr (agx_wr (agx_rf _) (by rfl)) (agx_mono (by rfl) (fr_X12_hand eq2 :)))
    replace e := ite_f h4 e
    by_cases h7 : a2 = (1 : Int32)
    · replace e := ite_t h7 e
      obtain ⟨q8, eq9, e⟩ := obind e
      obtain ⟨q10, eq11, e⟩ := obind e
      cases e
      exact (agx_tr (agx_tr (agx_wr (agx_rf _) (by rfl)) (agx_mono (by rfl) (fr_X12_hand eq2 :))) (agx_mono (by rfl) (fr_X12_strikes eq9 :)))
    replace e := ite_f h7 e
    by_cases h12 : a2 = (2 : Int32)
    · replace e := ite_t h12 e
      obtain ⟨q13, eq14, e⟩ := obind e
      cases e
      exact (agx_tr (agx_tr (agx_wr (agx_rf _) (by rfl)) (agx_mono (by rfl) (fr_X12_hand eq2 :))) (agx_mono (by rfl) (fr_X12_strikes eq14 :)))
    replace e := ite_f h12 e
    by_cases h15 : a2 = (3 : Int32)
    · replace e := ite_t h15 e
      obtain ⟨q17, eq18, e⟩ := obind e
      cases e
      exact (agx_tr (agx_wr (agx_rf _) (by rfl)) (agx_mono (by rfl) (fr_X12_hand eq2 :)))
    replace e := ite_f h15 e
    by_cases h19 : a2 = (4 : Int32)
    · replace e := ite_t h19 e
      obtain ⟨q21, eq22, e⟩ := obind e
      cases e
      exact (agx_tr (agx_wr (agx_rf _) (by rfl)) (agx_mono (by rfl) (fr_X12_hand eq2 :)))
    replace e := ite_f h19 e
    cases e
    exact (agx_tr (agx_wr (agx_rf _) (by rfl)) (agx_mono (by rfl) (fr_X12_hand eq2 :)))
set_option maxRecDepth 100000 in
theorem fr_X12_hasWants {a1 : Int32} {mm : Mm} {q : Int32 × Mm} (e : m_X12_hasWants a1 mm = some q) : agx [(44, some 41)] mm q.2 := by
  unfold m_X12_hasWants at e
  obtain ⟨q1, eq2, e⟩ := obind e
  obtain ⟨hbz, e⟩ := gbz_some e
  cases e
  exact (agx_wr (agx_rf _) (by rfl))
set_option maxRecDepth 100000 in
theorem fr_X12_want {a1 : Int32} {a2 : Int32} {a3 : Int32} {mm : Mm} {q : Int32 × Mm} (e : m_X12_want a1 a2 a3 mm = some q) : agx [(44, some 0), (44, some 41)] mm q.2 := by
  unfold m_X12_want at e
  obtain ⟨q1, eq2, e⟩ := obind e
  by_cases h3 : q1.1 = 0
  · replace e := ite_t h3 e
    cases e
    exact (agx_tr (agx_wr (agx_rf _) (by rfl)) (agx_mono (by rfl) (fr_X12_hasWants eq2 :)))
  · replace e := ite_f h3 e
    by_cases h4 : a2 = (-1 : Int32)
    · replace e := ite_t h4 e
      by_cases h5 : a3 = 0
      · replace e := ite_t h5 e
        obtain ⟨q6, eq7, e⟩ := obind e
        cases e
        exact (agx_tr (agx_wr (agx_rf _) (by rfl)) (agx_mono (by rfl) (fr_X12_hasWants eq2 :)))
      · replace e := ite_f h5 e
        cases e
        exact (agx_tr (agx_wr (agx_rf _) (by rfl)) (agx_mono (by rfl) (fr_X12_hasWants eq2 :)))
    · replace e := ite_f h4 e
      obtain ⟨q8, eq9, e⟩ := obind e
      by_cases h10 : (m_X12_in a2 (0 : Int32) (q8 - (1 : Int32))) = 0
      · replace e := ite_t h10 e
        cases e
        exact (agx_tr (agx_wr (agx_rf _) (by rfl)) (agx_mono (by rfl) (fr_X12_hasWants eq2 :)))
      · replace e := ite_f h10 e
        by_cases h11 : (m_X12_in a3 (0 : Int32) (1 : Int32)) = 0
        · replace e := ite_t h11 e
          cases e
          exact (agx_tr (agx_wr (agx_rf _) (by rfl)) (agx_mono (by rfl) (fr_X12_hasWants eq2 :)))
        · replace e := ite_f h11 e
          obtain ⟨q12, eq13, e⟩ := obind e
          cases e
          exact (agx_tr (agx_wr (agx_rf _) (by rfl)) (agx_mono (by rfl) (fr_X12_hasWants eq2 :)))
set_option maxRecDepth 100000 in
theorem fr_X12_layRow {a1 : Int32} {mm : Mm} {q : Int32 × Mm} (e : m_X12_layRow a1 mm = some q) : agx [(65, none)] mm q.2 := by
  unfold m_X12_layRow at e
  obtain ⟨q1, eq2, e⟩ := obind e
  obtain ⟨x5, eb6w, elx5, erx5⟩ := bS_some e
  have cx5 : ((∀ pz8, x5 = .inl pz8 → agx [(65, none)] mm pz8) ∧ (∀ tz9, x5 = .inr tz9 → agx [(65, none)] mm tz9.2)) := by
    clear elx5 erx5
    refine while_fr (Inv := fun z3 => agx [(65, none)] mm z3.2.2.2) (Post := fun pw => ((∀ pz8, pw = .inl pz8 → agx [(65, none)] mm pz8) ∧ (∀ tz9, pw = .inr tz9 → agx [(65, none)] mm tz9.2))) eb6w (agx_rf _) ?_
    intro z3 x5y eb6 hz7
    unfold m_X12_layRow_b12 at eb6
    by_cases h12 : z3.2.2.1 < 0
    · replace eb6 := ite_t h12 eb6
      cases eb6
      exact ⟨fun az ha => (by cases ha), fun bz hb => (by have h9 := Sum.inr.inj hb; subst h9; exact ⟨fun pz hz => (by have h9 := Sum.inl.inj hz; subst h9; exact hz7), fun tz hz => (by cases hz)⟩)⟩
    · replace eb6 := ite_f h12 eb6
      obtain ⟨hg13, eb6⟩ := grd_some eb6
      obtain ⟨hg14, eb6⟩ := grd_some eb6
      obtain ⟨x16, ep17, elx16, erx16⟩ := bS_some eb6
      have cx16 : ((∀ pz18, x16 = .inl pz18 → True) ∧ (∀ tz19, x16 = .inr tz19 → ((∀ az10, tz19 = .inl az10 → agx [(65, none)] mm az10.2.2.2) ∧ (∀ bz11, tz19 = .inr bz11 → ((∀ pz8, bz11 = .inl pz8 → agx [(65, none)] mm pz8) ∧ (∀ tz9, bz11 = .inr tz9 → agx [(65, none)] mm tz9.2)))))) := by
        clear elx16 erx16
        by_cases h20 : (6 : Int32) ≤ (mI (sI z3.2.2.2 65 (ix z3.2.2.1) (xrem z3.1 (7 : Int32))) 65 (ix z3.2.2.1))
        · replace ep17 := ite_t h20 ep17
          cases ep17
          exact ⟨fun pz hz => (by have h9 := Sum.inl.inj hz; subst h9; exact trivial), fun tz hz => (by cases hz)⟩
        · replace ep17 := ite_f h20 ep17
          obtain ⟨hg21, ep17⟩ := grd_some ep17
          by_cases h22 : (mI (sI z3.2.2.2 65 (ix z3.2.2.1) (xrem z3.1 (7 : Int32))) 44 24) ≤ (mI (sI z3.2.2.2 65 (ix z3.2.2.1) (xrem z3.1 (7 : Int32))) 65 (ix z3.2.2.1))
          · replace ep17 := ite_t h22 ep17
            cases ep17
            exact ⟨fun pz hz => (by cases hz), fun tz hz => (by have h9 := Sum.inr.inj hz; subst h9; exact ⟨fun az ha => (by cases ha), fun bz hb => (by have h9 := Sum.inr.inj hb; subst h9; exact ⟨fun pz hz => (by cases hz), fun tz hz => (by have h9 := Sum.inr.inj hz; subst h9; exact (agx_wr hz7 (by rfl)))⟩)⟩)⟩
          · replace ep17 := ite_f h22 ep17
            obtain ⟨hg23, ep17⟩ := grd_some ep17
            by_cases h24 : (m_X12_has z3.2.1 (mI (sI z3.2.2.2 65 (ix z3.2.2.1) (xrem z3.1 (7 : Int32))) 65 (ix z3.2.2.1))) = 0
            · replace ep17 := ite_t h24 ep17
              obtain ⟨hg25, ep17⟩ := grd_some ep17
              obtain ⟨q26, eq27, ep17⟩ := obind ep17
              by_cases h28 : (mI (sI z3.2.2.2 65 (ix z3.2.2.1) (xrem z3.1 (7 : Int32))) 65 (ix z3.2.2.1)) = q26
              · replace ep17 := ite_t h28 ep17
                cases ep17
                exact ⟨fun pz hz => (by cases hz), fun tz hz => (by have h9 := Sum.inr.inj hz; subst h9; exact ⟨fun az ha => (by cases ha), fun bz hb => (by have h9 := Sum.inr.inj hb; subst h9; exact ⟨fun pz hz => (by cases hz), fun tz hz => (by have h9 := Sum.inr.inj hz; subst h9; exact (agx_wr hz7 (by rfl)))⟩)⟩)⟩
              · replace ep17 := ite_f h28 ep17
                cases ep17
                exact ⟨fun pz hz => (by have h9 := Sum.inl.inj hz; subst h9; exact trivial), fun tz hz => (by cases hz)⟩
            · replace ep17 := ite_f h24 ep17
              cases ep17
              exact ⟨fun pz hz => (by cases hz), fun tz hz => (by have h9 := Sum.inr.inj hz; subst h9; exact ⟨fun az ha => (by cases ha), fun bz hb => (by have h9 := Sum.inr.inj hb; subst h9; exact ⟨fun pz hz => (by cases hz), fun tz hz => (by have h9 := Sum.inr.inj hz; subst h9; exact (agx_wr hz7 (by rfl)))⟩)⟩)⟩
      cases x16 with
      | inl p15 =>
        replace eb6 := elx16 _ rfl
        obtain ⟨hg29, eb6⟩ := grd_some eb6
        obtain ⟨p30, ep32, eb6⟩ := obind eb6
        cases eb6
        exact ⟨fun az ha => (by have h9 := Sum.inl.inj ha; subst h9; exact (agx_wr hz7 (by rfl))), fun bz hb => (by cases hb)⟩
      | inr tz0 =>
        have hz := erx16 _ rfl
        subst hz
        exact cx16.2 _ rfl
  cases x5 with
  | inl p4 =>
    replace e := elx5 _ rfl
    have fp4 := cx5.1 _ rfl
    cases e
    exact fp4
  | inr tz0 =>
    have hz := erx5 _ rfl
    subst hz
    exact cx5.2 _ rfl
set_option maxRecDepth 100000 in
theorem fr_X12_keptWants {mm : Mm} {q : Int32 × Mm} (e : m_X12_keptWants mm = some q) : agx [(44, some 25), (60, none), (61, none), (62, none)] mm q.2 := by
  unfold m_X12_keptWants at e
  obtain ⟨p2, eb4w, e⟩ := obind e
  have fp2 : agx [(44, some 25), (60, none), (61, none), (62, none)] mm p2 := by
    clear e
    refine while_fr (Inv := fun z1 => agx [(44, some 25), (60, none), (61, none), (62, none)] mm z1.2) (Post := fun pw => agx [(44, some 25), (60, none), (61, none), (62, none)] mm pw) eb4w (agx_wr (agx_rf _) (by rfl)) ?_
    intro z1 x3y eb4 hz5
    unfold m_X12_keptWants_b7 at eb4
    obtain ⟨q8, eq9, eb4⟩ := obind eb4
    by_cases h10 : q8 ≤ z1.1
    · replace eb4 := ite_t h10 eb4
      cases eb4
      exact ⟨fun az ha => (by cases ha), fun bz hb => (by have h9 := Sum.inr.inj hb; subst h9; exact hz5)⟩
    · replace eb4 := ite_f h10 eb4
      obtain ⟨hg11, eb4⟩ := grd_some eb4
      obtain ⟨p12, ep14, eb4⟩ := obind eb4
      have fp12 : agx [(44, some 25), (60, none), (61, none), (62, none)] mm p12 := by
        clear eb4
        by_cases h15 : (6 : Int32) ≤ (mI z1.2 65 (ix z1.1))
        · replace ep14 := ite_t h15 ep14
          cases ep14
          exact hz5
        · replace ep14 := ite_f h15 ep14
          obtain ⟨hg16, ep14⟩ := grd_some ep14
          obtain ⟨q17, eq18, ep14⟩ := obind ep14
          obtain ⟨q19, eq20, ep14⟩ := obind ep14
          obtain ⟨q21, eq22, ep14⟩ := obind ep14
          cases ep14
          exact (agx_tr hz5 (agx_mono (by rfl) (fr_X12_addOath eq22 :)))
      cases eb4
      exact ⟨fun az ha => (by have h9 := Sum.inl.inj ha; subst h9; exact fp12), fun bz hb => (by cases hb)⟩
  obtain ⟨p24, eb26w, e⟩ := obind e
  cases e
  exact fp2
set_option maxRecDepth 100000 in
theorem fr_X12_swearers {a1 : Int32} {a2 : Int32} {a3 : Int32} {mm : Mm} {q : Int32 × Mm} (e : m_X12_swearers a1 a2 a3 mm = some q) : agx [(44, some 0), (44, some 23), (44, some 24), (44, some 25), (44, some 26), (44, some 27), (44, some 28), (44, some 29), (44, some 30), (44, some 41), (56, none), (57, none), (58, none), (59, none), (60, none), (61, none), (62, none), (65, none), (66, none)] mm q.2 := by
  unfold m_X12_swearers at e
  obtain ⟨q1, eq2, e⟩ := obind e
  by_cases h3 : q1.1 = 0
  · replace e := ite_t h3 e
    cases e
    exact (agx_tr (agx_wr (agx_rf _) (by rfl)) (agx_mono (by rfl) (fr_X12_hasWants eq2 :)))
  · replace e := ite_f h3 e
    obtain ⟨q4, eq5, e⟩ := obind e
    by_cases h6 : q4.1 = 0
    · replace e := ite_t h6 e
      cases e
      exact (agx_tr (agx_tr (agx_wr (agx_rf _) (by rfl)) (agx_mono (by rfl) (fr_X12_hasWants eq2 :))) (agx_mono (by rfl) (fr_X12_hand eq5 :)))
    · replace e := ite_f h6 e
      obtain ⟨q7, eq8, e⟩ := obind e
      by_cases h9 : (m_X12_in a3 (-1 : Int32) (q7 - (1 : Int32))) = 0
      · replace e := ite_t h9 e
        cases e
        exact (agx_tr (agx_tr (agx_wr (agx_rf _) (by rfl)) (agx_mono (by rfl) (fr_X12_hasWants eq2 :))) (agx_mono (by rfl) (fr_X12_hand eq5 :)))
      · replace e := ite_f h9 e
        obtain ⟨x12, eb13w, elx12, erx12⟩ := bS_some e
        have cx12 : ((∀ pz15, x12 = .inl pz15 → True) ∧ (∀ tz16, x12 = .inr tz16 → agx [(44, some 0), (44, some 23), (44, some 24), (44, some 25), (44, some 26), (44, some 27), (44, some 28), (44, some 29), (44, some 30), (44, some 41), (56, none), (57, none), (58, none), (59, none), (60, none), (61, none), (62, none), (65, none), (66, none)] mm tz16.2)) := by
          clear elx12 erx12
          refine while_fr (Inv := fun z10 => True) (Post := fun pw => ((∀ pz15, pw = .inl pz15 → True) ∧ (∀ tz16, pw = .inr tz16 → agx [(44, some 0), (44, some 23), (44, some 24), (44, some 25), (44, some 26), (44, some 27), (44, some 28), (44, some 29), (44, some 30), (44, some 41), (56, none), (57, none), (58, none), (59, none), (60, none), (61, none), (62, none), (65, none), (66, none)] mm tz16.2))) eb13w trivial ?_
          intro z10 x12y eb13 hz14
          unfold m_X12_swearers_b40 at eb13
          obtain ⟨q19, eq20, eb13⟩ := obind eb13
          by_cases h21 : q19 ≤ z10
          · replace eb13 := ite_t h21 eb13
            cases eb13
            exact ⟨fun az ha => (by cases ha), fun bz hb => (by have h9 := Sum.inr.inj hb; subst h9; exact ⟨fun pz hz => (by have h9 := Sum.inl.inj hz; subst h9; exact trivial), fun tz hz => (by cases hz)⟩)⟩
          · replace eb13 := ite_f h21 eb13
            obtain ⟨q22, eq23, eb13⟩ := obind eb13
            obtain ⟨q24, eq25, eb13⟩ := obind eb13
            by_cases h26 : q24 = 0
            · replace eb13 := ite_t h26 eb13
              cases eb13
              exact ⟨fun az ha => (by cases ha), fun bz hb => (by have h9 := Sum.inr.inj hb; subst h9; exact ⟨fun pz hz => (by cases hz), fun tz hz => (by have h9 := Sum.inr.inj hz; subst h9; exact (agx_tr (agx_tr (agx_wr (agx_rf _) (by rfl)) (agx_mono (by rfl) (fr_X12_hasWants eq2 :))) (agx_mono (by rfl) (fr_X12_hand eq5 :))))⟩)⟩
            · replace eb13 := ite_f h26 eb13
              cases eb13
              exact ⟨fun az ha => (by have h9 := Sum.inl.inj ha; subst h9; exact trivial), fun bz hb => (by cases hb)⟩
        cases x12 with
        | inl p11 =>
          replace e := elx12 _ rfl
          obtain ⟨q27, eq28, e⟩ := obind e
          obtain ⟨q29, eq30, e⟩ := obind e
          obtain ⟨p32, eb34w, e⟩ := obind e
          have fp32 : agx [(44, some 0), (44, some 23), (44, some 24), (44, some 25), (44, some 26), (44, some 27), (44, some 28), (44, some 29), (44, some 30), (44, some 41), (56, none), (57, none), (58, none), (59, none), (60, none), (61, none), (62, none), (65, none), (66, none)] mm p32.2 := by
            clear e
            refine while_fr (Inv := fun z31 => agx [(44, some 0), (44, some 23), (44, some 24), (44, some 25), (44, some 26), (44, some 27), (44, some 28), (44, some 29), (44, some 30), (44, some 41), (56, none), (57, none), (58, none), (59, none), (60, none), (61, none), (62, none), (65, none), (66, none)] mm z31.2.2) (Post := fun pw => agx [(44, some 0), (44, some 23), (44, some 24), (44, some 25), (44, some 26), (44, some 27), (44, some 28), (44, some 29), (44, some 30), (44, some 41), (56, none), (57, none), (58, none), (59, none), (60, none), (61, none), (62, none), (65, none), (66, none)] mm pw.2) eb34w (agx_tr (agx_tr (agx_wr (agx_rf _) (by rfl)) (agx_mono (by rfl) (fr_X12_hasWants eq2 :))) (agx_mono (by rfl) (fr_X12_hand eq5 :))) ?_
            intro z31 x33y eb34 hz35
            unfold m_X12_swearers_b88 at eb34
            by_cases h38 : q29 ≤ z31.2.1
            · replace eb34 := ite_t h38 eb34
              cases eb34
              exact ⟨fun az ha => (by cases ha), fun bz hb => (by have h9 := Sum.inr.inj hb; subst h9; exact hz35)⟩
            · replace eb34 := ite_f h38 eb34
              obtain ⟨q39, eq40, eb34⟩ := obind eb34
              obtain ⟨p41, ep43, eb34⟩ := obind eb34
              have fp41 : agx [(44, some 0), (44, some 23), (44, some 24), (44, some 25), (44, some 26), (44, some 27), (44, some 28), (44, some 29), (44, some 30), (44, some 41), (56, none), (57, none), (58, none), (59, none), (60, none), (61, none), (62, none), (65, none), (66, none)] mm p41.2 := by
                clear eb34
                by_cases h44 : q39.1 = 0
                · replace ep43 := ite_t h44 ep43
                  cases ep43
                  exact (agx_tr hz35 (agx_mono (by rfl) (fr_X12_layRow eq40 :)))
                · replace ep43 := ite_f h44 ep43
                  obtain ⟨q45, eq46, ep43⟩ := obind ep43
                  cases ep43
                  exact (agx_tr (agx_tr hz35 (agx_mono (by rfl) (fr_X12_layRow eq40 :))) (agx_mono (by rfl) (fr_X12_keptWants eq46 :)))
              obtain ⟨p48, eb50w, eb34⟩ := obind eb34
              have fp48 : agx [(44, some 0), (44, some 23), (44, some 24), (44, some 25), (44, some 26), (44, some 27), (44, some 28), (44, some 29), (44, some 30), (44, some 41), (56, none), (57, none), (58, none), (59, none), (60, none), (61, none), (62, none), (65, none), (66, none)] mm p48 := by
                clear eb34
                refine while_fr (Inv := fun z47 => agx [(44, some 0), (44, some 23), (44, some 24), (44, some 25), (44, some 26), (44, some 27), (44, some 28), (44, some 29), (44, some 30), (44, some 41), (56, none), (57, none), (58, none), (59, none), (60, none), (61, none), (62, none), (65, none), (66, none)] mm z47.2) (Post := fun pw => agx [(44, some 0), (44, some 23), (44, some 24), (44, some 25), (44, some 26), (44, some 27), (44, some 28), (44, some 29), (44, some 30), (44, some 41), (56, none), (57, none), (58, none), (59, none), (60, none), (61, none), (62, none), (65, none), (66, none)] mm pw) eb50w fp41 ?_
                intro z47 x49y eb50 hz51
                unfold m_X12_swearers_b117 at eb50
                by_cases h54 : (6 : Int32) ≤ z47.1
                · replace eb50 := ite_t h54 eb50
                  cases eb50
                  exact ⟨fun az ha => (by cases ha), fun bz hb => (by have h9 := Sum.inr.inj hb; subst h9; exact hz51)⟩
                · replace eb50 := ite_f h54 eb50
                  by_cases h55 : p41.1 ≤ z31.1
                  · replace eb50 := ite_t h55 eb50
                    cases eb50
                    exact ⟨fun az ha => (by cases ha), fun bz hb => (by have h9 := Sum.inr.inj hb; subst h9; exact hz51)⟩
                  · replace eb50 := ite_f h55 eb50
                    obtain ⟨hg56, eb50⟩ := grd_some eb50
                    obtain ⟨hg57, eb50⟩ := grd_some eb50
                    cases eb50
                    exact ⟨fun az ha => (by have h9 := Sum.inl.inj ha; subst h9; exact (agx_wr hz51 (by rfl))), fun bz hb => (by cases hb)⟩
              cases eb34
              exact ⟨fun az ha => (by have h9 := Sum.inl.inj ha; subst h9; exact fp48), fun bz hb => (by cases hb)⟩
          by_cases h58 : a3 = (-1 : Int32)
          · replace e := ite_t h58 e
            cases e
            exact fp32
          · replace e := ite_f h58 e
            obtain ⟨hg59, e⟩ := grd_some e
            cases e
            exact fp32
        | inr tz0 =>
          have hz := erx12 _ rfl
          subst hz
          exact cx12.2 _ rfl
set_option maxRecDepth 100000 in
theorem fr_X12_endOf {a1 : Int32} {a2 : Int32} {a3 : Int32} {a4 : Int32} {mm : Mm} {q : Int32 × Mm} (e : m_X12_endOf a1 a2 a3 a4 mm = some q) : agx [(44, some 25), (60, none), (61, none), (62, none)] mm q.2 := by
  unfold m_X12_endOf at e
  obtain ⟨q1, eq2, e⟩ := obind e
  obtain ⟨p4, eb6w, e⟩ := obind e
  have fp4 : agx [(44, some 25), (60, none), (61, none), (62, none)] mm p4 := by
    clear e
    refine while_fr (Inv := fun z3 => agx [(44, some 25), (60, none), (61, none), (62, none)] mm z3.2.2) (Post := fun pw => agx [(44, some 25), (60, none), (61, none), (62, none)] mm pw) eb6w (agx_wr (agx_rf _) (by rfl)) ?_
    intro z3 x5y eb6 hz7
    unfold m_X12_endOf_b18 at eb6
    by_cases h10 : z3.2.1 < 0
    · replace eb6 := ite_t h10 eb6
      cases eb6
      exact ⟨fun az ha => (by cases ha), fun bz hb => (by have h9 := Sum.inr.inj hb; subst h9; exact hz7)⟩
    · replace eb6 := ite_f h10 eb6
      obtain ⟨p11, ep13, eb6⟩ := obind eb6
      have fp11 : agx [(44, some 25), (60, none), (61, none), (62, none)] mm p11 := by
        clear eb6
        by_cases h14 : (8 : Int32) ≤ (xrem z3.1 (9 : Int32))
        · replace ep13 := ite_t h14 ep13
          cases ep13
          exact hz7
        · replace ep13 := ite_f h14 ep13
          obtain ⟨q17, eq18, ep13⟩ := obind ep13
          cases ep13
          exact (agx_tr hz7 (agx_mono (by rfl) (fr_X12_addOath eq18 :)))
      cases eb6
      exact ⟨fun az ha => (by have h9 := Sum.inl.inj ha; subst h9; exact fp11), fun bz hb => (by cases hb)⟩
  obtain ⟨q19, eq20, e⟩ := obind e
  obtain ⟨q21, eq22, e⟩ := obind e
  obtain ⟨q23, eq24, e⟩ := obind e
  obtain ⟨q25, eq26, e⟩ := obind e
  cases e
  exact fp4
set_option maxRecDepth 100000 in
theorem fr_X12_fold {a1 : Int32} {a2 : Int32} {mm : Mm} {q : Int32 × Mm} (e : m_X12_fold a1 a2 mm = some q) : agx [(44, some 45)] mm q.2 := by
  unfold m_X12_fold at e
  obtain ⟨p2, eb4w, e⟩ := obind e
  have fp2 : agx [(44, some 45)] mm p2.2 := by
    clear e
    refine while_fr (Inv := fun z1 => agx [(44, some 45)] mm z1.2.2) (Post := fun pw => agx [(44, some 45)] mm pw.2) eb4w (agx_wr (agx_rf _) (by rfl)) ?_
    intro z1 x3y eb4 hz5
    unfold m_X12_fold_b10 at eb4
    by_cases h8 : (9 : Int32) ≤ z1.2.1
    · replace eb4 := ite_t h8 eb4
      cases eb4
      exact ⟨fun az ha => (by cases ha), fun bz hb => (by have h9 := Sum.inr.inj hb; subst h9; exact hz5)⟩
    · replace eb4 := ite_f h8 eb4
      obtain ⟨hg9, eb4⟩ := grd_some eb4
      cases eb4
      exact ⟨fun az ha => (by have h9 := Sum.inl.inj ha; subst h9; exact (agx_ite (agx_wr hz5 (by rfl)) (agx_ite (agx_ite hz5 (agx_wr hz5 (by rfl))) (agx_ite hz5 (agx_wr hz5 (by rfl)))))), fun bz hb => (by cases hb)⟩
  cases e
  exact fp2
set_option maxRecDepth 100000 in
theorem fr_X12_dare {a1 : Int32} {a2 : Int32} {a3 : Int32} {a4 : Int32} {a5 : Int32} {mm : Mm} {q : Int32 × Mm} (e : m_X12_dare a1 a2 a3 a4 a5 mm = some q) : agx [(44, some 0), (44, some 23), (44, some 24), (44, some 25), (44, some 26), (44, some 27), (44, some 28), (44, some 29), (44, some 30), (44, some 45), (56, none), (57, none), (58, none), (59, none), (60, none), (61, none), (62, none), (67, none)] mm q.2 := by
  unfold m_X12_dare at e
  by_cases h1 : (m_X12_in a4 (0 : Int32) (3 : Int32)) = 0
  · replace e := ite_t h1 e
    cases e
    exact (agx_wr (agx_rf _) (by rfl))
  · replace e := ite_f h1 e
    obtain ⟨q2, eq3, e⟩ := obind e
    by_cases h4 : q2.1 = 0
    · replace e := ite_t h4 e
      cases e
      exact (agx_tr (agx_wr (agx_rf _) (by rfl)) (agx_mono (by rfl) (fr_X12_hand eq3 :)))
    · replace e := ite_f h4 e
      obtain ⟨q5, eq6, e⟩ := obind e
      by_cases h7 : q5 = 0
      · replace e := ite_t h7 e
        cases e
        exact (agx_tr (agx_wr (agx_rf _) (by rfl)) (agx_mono (by rfl) (fr_X12_hand eq3 :)))
      · replace e := ite_f h7 e
        obtain ⟨q8, eq9, e⟩ := obind e
        obtain ⟨p11, eb13w, e⟩ := obind e
        have fp11 : agx [(44, some 0), (44, some 23), (44, some 24), (44, some 25), (44, some 26), (44, some 27), (44, some 28), (44, some 29), (44, some 30), (44, some 45), (56, none), (57, none), (58, none), (59, none), (60, none), (61, none), (62, none), (67, none)] mm p11 := by
          clear e
          refine while_fr (Inv := fun z10 => agx [(44, some 0), (44, some 23), (44, some 24), (44, some 25), (44, some 26), (44, some 27), (44, some 28), (44, some 29), (44, some 30), (44, some 45), (56, none), (57, none), (58, none), (59, none), (60, none), (61, none), (62, none), (67, none)] mm z10.2) (Post := fun pw => agx [(44, some 0), (44, some 23), (44, some 24), (44, some 25), (44, some 26), (44, some 27), (44, some 28), (44, some 29), (44, some 30), (44, some 45), (56, none), (57, none), (58, none), (59, none), (60, none), (61, none), (62, none), (67, none)] mm pw) eb13w (agx_tr (agx_wr (agx_rf _) (by rfl)) (agx_mono (by rfl) (fr_X12_hand eq3 :))) ?_
          intro z10 x12y eb13 hz14
          unfold m_X12_dare_b47 at eb13
          by_cases h17 : q8 ≤ z10.1
          · replace eb13 := ite_t h17 eb13
            cases eb13
            exact ⟨fun az ha => (by cases ha), fun bz hb => (by have h9 := Sum.inr.inj hb; subst h9; exact hz14)⟩
          · replace eb13 := ite_f h17 eb13
            obtain ⟨q18, eq19, eb13⟩ := obind eb13
            obtain ⟨hg20, eb13⟩ := grd_some eb13
            cases eb13
            exact ⟨fun az ha => (by have h9 := Sum.inl.inj ha; subst h9; exact (agx_wr (agx_tr hz14 (agx_mono (by rfl) (fr_X12_endOf eq19 :))) (by rfl))), fun bz hb => (by cases hb)⟩
        obtain ⟨p22, eb24w, e⟩ := obind e
        have fp22 : agx [(44, some 0), (44, some 23), (44, some 24), (44, some 25), (44, some 26), (44, some 27), (44, some 28), (44, some 29), (44, some 30), (44, some 45), (56, none), (57, none), (58, none), (59, none), (60, none), (61, none), (62, none), (67, none)] mm p22 := by
          clear e
          refine while_fr (Inv := fun z21 => agx [(44, some 0), (44, some 23), (44, some 24), (44, some 25), (44, some 26), (44, some 27), (44, some 28), (44, some 29), (44, some 30), (44, some 45), (56, none), (57, none), (58, none), (59, none), (60, none), (61, none), (62, none), (67, none)] mm z21.2.2) (Post := fun pw => agx [(44, some 0), (44, some 23), (44, some 24), (44, some 25), (44, some 26), (44, some 27), (44, some 28), (44, some 29), (44, some 30), (44, some 45), (56, none), (57, none), (58, none), (59, none), (60, none), (61, none), (62, none), (67, none)] mm pw) eb24w (agx_wr fp11 (by rfl)) ?_
          intro z21 x23y eb24 hz25
          unfold m_X12_dare_b88 at eb24
          by_cases h28 : z21.2.1 < 0
          · replace eb24 := ite_t h28 eb24
            cases eb24
            exact ⟨fun az ha => (by cases ha), fun bz hb => (by have h9 := Sum.inr.inj hb; subst h9; exact hz25)⟩
          · replace eb24 := ite_f h28 eb24
            obtain ⟨p30, eb32w, eb24⟩ := obind eb24
            have fp30 : agx [(44, some 0), (44, some 23), (44, some 24), (44, some 25), (44, some 26), (44, some 27), (44, some 28), (44, some 29), (44, some 30), (44, some 45), (56, none), (57, none), (58, none), (59, none), (60, none), (61, none), (62, none), (67, none)] mm p30 := by
              clear eb24
              refine while_fr (Inv := fun z29 => agx [(44, some 0), (44, some 23), (44, some 24), (44, some 25), (44, some 26), (44, some 27), (44, some 28), (44, some 29), (44, some 30), (44, some 45), (56, none), (57, none), (58, none), (59, none), (60, none), (61, none), (62, none), (67, none)] mm z29.2) (Post := fun pw => agx [(44, some 0), (44, some 23), (44, some 24), (44, some 25), (44, some 26), (44, some 27), (44, some 28), (44, some 29), (44, some 30), (44, some 45), (56, none), (57, none), (58, none), (59, none), (60, none), (61, none), (62, none), (67, none)] mm pw) eb32w hz25 ?_
              intro z29 x31y eb32 hz33
              unfold m_X12_dare_b103 at eb32
              by_cases h36 : (z21.1 / (9 : Int32)) ≤ z29.1
              · replace eb32 := ite_t h36 eb32
                cases eb32
                exact ⟨fun az ha => (by cases ha), fun bz hb => (by have h9 := Sum.inr.inj hb; subst h9; exact hz33)⟩
              · replace eb32 := ite_f h36 eb32
                obtain ⟨q38, eq39, eb32⟩ := obind eb32
                obtain ⟨hg40, eb32⟩ := grd_some eb32
                cases eb32
                exact ⟨fun az ha => (by have h9 := Sum.inl.inj ha; subst h9; exact (agx_wr (agx_tr hz33 (agx_mono (by rfl) (fr_X12_fold eq39 :))) (by rfl))), fun bz hb => (by cases hb)⟩
            cases eb24
            exact ⟨fun az ha => (by have h9 := Sum.inl.inj ha; subst h9; exact fp30), fun bz hb => (by cases hb)⟩
        by_cases h41 : a5 = 0
        · replace e := ite_t h41 e
          cases e
          exact fp22
        · replace e := ite_f h41 e
          cases e
          exact fp22
set_option maxRecDepth 100000 in
theorem fr_X12_chance {a1 : Int32} {a2 : Int32} {a3 : Int32} {a4 : Int32} {a5 : Int32} {a6 : Int32} {a7 : Int32} {mm : Mm} {q : Int32 × Mm} (e : m_X12_chance a1 a2 a3 a4 a5 a6 a7 mm = some q) : agx [(44, some 0), (44, some 23), (44, some 24), (44, some 25), (44, some 26), (44, some 27), (44, some 28), (44, some 29), (44, some 30), (56, none), (57, none), (58, none), (59, none), (60, none), (61, none), (62, none)] mm q.2 := by
  unfold m_X12_chance at e
  by_cases h1 : (m_X12_in a4 (0 : Int32) (7 : Int32)) = 0
  · replace e := ite_t h1 e
    cases e
    exact (agx_wr (agx_rf _) (by rfl))
  · replace e := ite_f h1 e
    by_cases h2 : (m_X12_in a5 (0 : Int32) (10 : Int32)) = 0
    · replace e := ite_t h2 e
      cases e
      exact (agx_wr (agx_rf _) (by rfl))
    · replace e := ite_f h2 e
      by_cases h3 : (m_X12_in a6 (0 : Int32) (6 : Int32)) = 0
      · replace e := ite_t h3 e
        cases e
        exact (agx_wr (agx_rf _) (by rfl))
      · replace e := ite_f h3 e
        obtain ⟨q4, eq5, e⟩ := obind e
        by_cases h6 : q4.1 = 0
        · replace e := ite_t h6 e
          cases e
          exact (agx_tr (agx_wr (agx_rf _) (by rfl)) (agx_mono (by rfl) (fr_X12_hand eq5 :)))
        · replace e := ite_f h6 e
          obtain ⟨q7, eq8, e⟩ := obind e
          by_cases h9 : q7 = 0
          · replace e := ite_t h9 e
            cases e
            exact (agx_tr (agx_wr (agx_rf _) (by rfl)) (agx_mono (by rfl) (fr_X12_hand eq5 :)))
          · replace e := ite_f h9 e
            obtain ⟨q10, eq11, e⟩ := obind e
            obtain ⟨q12, eq13, e⟩ := obind e
            obtain ⟨p15, eb17w, e⟩ := obind e
            obtain ⟨q21, eq22, e⟩ := obind e
            obtain ⟨q23, eq24, e⟩ := obind e
            cases e
            exact (agx_tr (agx_wr (agx_rf _) (by rfl)) (agx_mono (by rfl) (fr_X12_hand eq5 :)))
set_option maxRecDepth 100000 in
theorem fr_X12_hasLog {a1 : Int32} {mm : Mm} {q : Int32 × Mm} (e : m_X12_hasLog a1 mm = some q) : agx [(44, some 46)] mm q.2 := by
  unfold m_X12_hasLog at e
  obtain ⟨q1, eq2, e⟩ := obind e
  obtain ⟨hbz, e⟩ := gbz_some e
  cases e
  exact (agx_wr (agx_rf _) (by rfl))
set_option maxRecDepth 100000 in
theorem fr_X12_fact {a1 : Int32} {a2 : Int32} {a3 : Int32} {mm : Mm} {q : Int32 × Mm} (e : m_X12_fact a1 a2 a3 mm = some q) : agx [(44, some 0), (44, some 46)] mm q.2 := by
  unfold m_X12_fact at e
  obtain ⟨q1, eq2, e⟩ := obind e
  by_cases h3 : q1.1 = 0
  · replace e := ite_t h3 e
    cases e
    exact (agx_tr (agx_wr (agx_rf _) (by rfl)) (agx_mono (by rfl) (fr_X12_hasLog eq2 :)))
  · replace e := ite_f h3 e
    by_cases h4 : a2 = (-1 : Int32)
    · replace e := ite_t h4 e
      by_cases h5 : a3 = 0
      · replace e := ite_t h5 e
        obtain ⟨q6, eq7, e⟩ := obind e
        cases e
        exact (agx_tr (agx_wr (agx_rf _) (by rfl)) (agx_mono (by rfl) (fr_X12_hasLog eq2 :)))
      · replace e := ite_f h5 e
        cases e
        exact (agx_tr (agx_wr (agx_rf _) (by rfl)) (agx_mono (by rfl) (fr_X12_hasLog eq2 :)))
    · replace e := ite_f h4 e
      obtain ⟨q8, eq9, e⟩ := obind e
      by_cases h10 : (m_X12_in a2 (0 : Int32) (q8 - (1 : Int32))) = 0
      · replace e := ite_t h10 e
        cases e
        exact (agx_tr (agx_wr (agx_rf _) (by rfl)) (agx_mono (by rfl) (fr_X12_hasLog eq2 :)))
      · replace e := ite_f h10 e
        by_cases h11 : (m_X12_in a3 (0 : Int32) (2 : Int32)) = 0
        · replace e := ite_t h11 e
          cases e
          exact (agx_tr (agx_wr (agx_rf _) (by rfl)) (agx_mono (by rfl) (fr_X12_hasLog eq2 :)))
        · replace e := ite_f h11 e
          obtain ⟨q12, eq13, e⟩ := obind e
          cases e
          exact (agx_tr (agx_wr (agx_rf _) (by rfl)) (agx_mono (by rfl) (fr_X12_hasLog eq2 :)))
set_option maxRecDepth 100000 in
theorem fr_X12_noteFit {a1 : Int32} {a2 : Int32} {a3 : Int32} {a4 : Int32} {mm : Mm} {q : Mm} (e : m_X12_noteFit a1 a2 a3 a4 mm = some q) : agx [(44, some 47), (44, some 48), (44, some 49), (44, some 50), (44, some 51), (44, some 52), (68, none)] mm q := by
  unfold m_X12_noteFit at e
  obtain ⟨q2, eq3, e⟩ := obind e
  obtain ⟨p5, eb7w, e⟩ := obind e
  have fp5 : agx [(44, some 47), (44, some 48), (44, some 49), (44, some 50), (44, some 51), (44, some 52), (68, none)] mm p5 := by
    clear e
    refine while_fr (Inv := fun z4 => agx [(44, some 47), (44, some 48), (44, some 49), (44, some 50), (44, some 51), (44, some 52), (68, none)] mm z4.2) (Post := fun pw => agx [(44, some 47), (44, some 48), (44, some 49), (44, some 50), (44, some 51), (44, some 52), (68, none)] mm pw) eb7w (agx_wr (agx_wr (agx_wr (agx_wr (agx_wr (agx_wr (agx_rf _) (by rfl)) (by rfl)) (by rfl)) (by rfl)) (by rfl)) (by rfl)) ?_
    intro z4 x6y eb7 hz8
    unfold m_X12_noteFit_b94 at eb7
    by_cases h11 : (8 : Int32) ≤ z4.1
    · replace eb7 := ite_t h11 eb7
      cases eb7
      exact ⟨fun az ha => (by cases ha), fun bz hb => (by have h9 := Sum.inr.inj hb; subst h9; exact hz8)⟩
    · replace eb7 := ite_f h11 eb7
      obtain ⟨hg12, eb7⟩ := grd_some eb7
      obtain ⟨hg14, eb7⟩ := grd_some eb7
      cases eb7
      exact ⟨fun az ha => (by have h9 := Sum.inl.inj ha; subst h9; exact (agx_wr hz8 (by rfl))), fun bz hb => (by cases hb)⟩
  cases e
  exact fp5
set_option maxRecDepth 100000 in
theorem fr_X12_findFits {a1 : Int32} {a2 : Int32} {mm : Mm} {q : Mm} (e : m_X12_findFits a1 a2 mm = some q) : agx [(44, some 47), (44, some 48), (44, some 49), (44, some 50), (44, some 51), (44, some 52), (56, none), (57, none), (68, none)] mm q := by
  unfold m_X12_findFits at e
  obtain ⟨p2, eb4w, e⟩ := obind e
  have fp2 : agx [(44, some 47), (44, some 48), (44, some 49), (44, some 50), (44, some 51), (44, some 52), (56, none), (57, none), (68, none)] mm p2 := by
    clear e
    refine while_fr (Inv := fun z1 => agx [(44, some 47), (44, some 48), (44, some 49), (44, some 50), (44, some 51), (44, some 52), (56, none), (57, none), (68, none)] mm z1.2) (Post := fun pw => agx [(44, some 47), (44, some 48), (44, some 49), (44, some 50), (44, some 51), (44, some 52), (56, none), (57, none), (68, none)] mm pw) eb4w (agx_wr (agx_wr (agx_wr (agx_wr (agx_wr (agx_wr (agx_rf _) (by rfl)) (by rfl)) (by rfl)) (by rfl)) (by rfl)) (by rfl)) ?_
    intro z1 x3y eb4 hz5
    unfold m_X12_findFits_b35 at eb4
    by_cases h8 : (8 : Int32) ≤ z1.1
    · replace eb4 := ite_t h8 eb4
      cases eb4
      exact ⟨fun az ha => (by cases ha), fun bz hb => (by have h9 := Sum.inr.inj hb; subst h9; exact hz5)⟩
    · replace eb4 := ite_f h8 eb4
      obtain ⟨hg9, eb4⟩ := grd_some eb4
      cases eb4
      exact ⟨fun az ha => (by have h9 := Sum.inl.inj ha; subst h9; exact (agx_wr hz5 (by rfl))), fun bz hb => (by cases hb)⟩
  obtain ⟨p11, eb13w, e⟩ := obind e
  have fp11 : agx [(44, some 47), (44, some 48), (44, some 49), (44, some 50), (44, some 51), (44, some 52), (56, none), (57, none), (68, none)] mm p11 := by
    clear e
    refine while_fr (Inv := fun z10 => agx [(44, some 47), (44, some 48), (44, some 49), (44, some 50), (44, some 51), (44, some 52), (56, none), (57, none), (68, none)] mm z10.2) (Post := fun pw => agx [(44, some 47), (44, some 48), (44, some 49), (44, some 50), (44, some 51), (44, some 52), (56, none), (57, none), (68, none)] mm pw) eb13w fp2 ?_
    intro z10 x12y eb13 hz14
    unfold m_X12_findFits_b56 at eb13
    by_cases h17 : (10 : Int32) ≤ z10.1
    · replace eb13 := ite_t h17 eb13
      cases eb13
      exact ⟨fun az ha => (by cases ha), fun bz hb => (by have h9 := Sum.inr.inj hb; subst h9; exact hz14)⟩
    · replace eb13 := ite_f h17 eb13
      obtain ⟨p19, eb21w, eb13⟩ := obind eb13
      have fp19 : agx [(44, some 47), (44, some 48), (44, some 49), (44, some 50), (44, some 51), (44, some 52), (56, none), (57, none), (68, none)] mm p19 := by
        clear eb13
        refine while_fr (Inv := fun z18 => agx [(44, some 47), (44, some 48), (44, some 49), (44, some 50), (44, some 51), (44, some 52), (56, none), (57, none), (68, none)] mm z18.2) (Post := fun pw => agx [(44, some 47), (44, some 48), (44, some 49), (44, some 50), (44, some 51), (44, some 52), (56, none), (57, none), (68, none)] mm pw) eb21w hz14 ?_
        intro z18 x20y eb21 hz22
        unfold m_X12_findFits_b65 at eb21
        by_cases h25 : (5 : Int32) ≤ z18.1
        · replace eb21 := ite_t h25 eb21
          cases eb21
          exact ⟨fun az ha => (by cases ha), fun bz hb => (by have h9 := Sum.inr.inj hb; subst h9; exact hz22)⟩
        · replace eb21 := ite_f h25 eb21
          obtain ⟨hg26, eb21⟩ := grd_some eb21
          obtain ⟨hg27, eb21⟩ := grd_some eb21
          obtain ⟨q28, eq29, eb21⟩ := obind eb21
          obtain ⟨p30, ep32, eb21⟩ := obind eb21
          have fp30 : agx [(44, some 47), (44, some 48), (44, some 49), (44, some 50), (44, some 51), (44, some 52), (56, none), (57, none), (68, none)] mm p30 := by
            clear eb21
            by_cases h33 : q28 = 0
            · replace ep32 := ite_t h33 ep32
              cases ep32
              exact (agx_wr (agx_wr hz22 (by rfl)) (by rfl))
            · replace ep32 := ite_f h33 ep32
              obtain ⟨q34, eq35, ep32⟩ := obind ep32
              cases ep32
              exact (agx_tr (agx_wr (agx_wr hz22 (by rfl)) (by rfl)) (agx_mono (by rfl) (fr_X12_noteFit eq35 :)))
          cases eb21
          exact ⟨fun az ha => (by have h9 := Sum.inl.inj ha; subst h9; exact fp30), fun bz hb => (by cases hb)⟩
      cases eb13
      exact ⟨fun az ha => (by have h9 := Sum.inl.inj ha; subst h9; exact fp19), fun bz hb => (by cases hb)⟩
  cases e
  exact fp11
set_option maxRecDepth 100000 in
theorem fr_X12_fits {a1 : Int32} {a2 : Int32} {a3 : Int32} {a4 : Int32} {mm : Mm} {q : Int32 × Mm} (e : m_X12_fits a1 a2 a3 a4 mm = some q) : agx [(44, some 0), (44, some 23), (44, some 24), (44, some 25), (44, some 26), (44, some 27), (44, some 28), (44, some 29), (44, some 30), (44, some 46), (44, some 47), (44, some 48), (44, some 49), (44, some 50), (44, some 51), (44, some 52), (56, none), (57, none), (58, none), (59, none), (60, none), (61, none), (62, none), (68, none)] mm q.2 := by
  unfold m_X12_fits at e
  obtain ⟨q1, eq2, e⟩ := obind e
  by_cases h3 : q1.1 = 0
  · replace e := ite_t h3 e
    cases e
    exact (agx_tr (agx_wr (agx_rf _) (by rfl)) (agx_mono (by rfl) (fr_X12_hasLog eq2 :)))
  · replace e := ite_f h3 e
    obtain ⟨q4, eq5, e⟩ := obind e
    by_cases h6 : q4.1 = 0
    · replace e := ite_t h6 e
      cases e
      exact (agx_tr (agx_tr (agx_wr (agx_rf _) (by rfl)) (agx_mono (by rfl) (fr_X12_hasLog eq2 :))) (agx_mono (by rfl) (fr_X12_hand eq5 :)))
    · replace e := ite_f h6 e
      obtain ⟨q7, eq8, e⟩ := obind e
      by_cases h9 : q7 = 0
      · replace e := ite_t h9 e
        cases e
        exact (agx_tr (agx_tr (agx_wr (agx_rf _) (by rfl)) (agx_mono (by rfl) (fr_X12_hasLog eq2 :))) (agx_mono (by rfl) (fr_X12_hand eq5 :)))
      · replace e := ite_f h9 e
        obtain ⟨q10, eq11, e⟩ := obind e
        by_cases h12 : a4 < (10 : Int32)
        · replace e := ite_t h12 e
          by_cases h13 : a4 = (0 : Int32)
          · replace e := ite_t h13 e
            cases e
            exact (agx_tr (agx_tr (agx_tr (agx_wr (agx_rf _) (by rfl)) (agx_mono (by rfl) (fr_X12_hasLog eq2 :))) (agx_mono (by rfl) (fr_X12_hand eq5 :))) (agx_mono (by rfl) (fr_X12_findFits eq11 :)))
          replace e := ite_f h13 e
          by_cases h14 : a4 = (1 : Int32)
          · replace e := ite_t h14 e
            obtain ⟨q15, eq16, e⟩ := obind e
            cases e
            exact (agx_tr (agx_tr (agx_tr (agx_wr (agx_rf _) (by rfl)) (agx_mono (by rfl) (fr_X12_hasLog eq2 :))) (agx_mono (by rfl) (fr_X12_hand eq5 :))) (agx_mono (by rfl) (fr_X12_findFits eq11 :)))
          replace e := ite_f h14 e
          by_cases h17 : a4 = (2 : Int32)
          · replace e := ite_t h17 e
            obtain ⟨q18, eq19, e⟩ := obind e
            cases e
            exact (agx_tr (agx_tr (agx_tr (agx_wr (agx_rf _) (by rfl)) (agx_mono (by rfl) (fr_X12_hasLog eq2 :))) (agx_mono (by rfl) (fr_X12_hand eq5 :))) (agx_mono (by rfl) (fr_X12_findFits eq11 :)))
          replace e := ite_f h17 e
          by_cases h20 : a4 = (3 : Int32)
          · replace e := ite_t h20 e
            obtain ⟨q21, eq22, e⟩ := obind e
            cases e
            exact (agx_tr (agx_tr (agx_tr (agx_wr (agx_rf _) (by rfl)) (agx_mono (by rfl) (fr_X12_hasLog eq2 :))) (agx_mono (by rfl) (fr_X12_hand eq5 :))) (agx_mono (by rfl) (fr_X12_findFits eq11 :)))
          replace e := ite_f h20 e
          by_cases h23 : a4 = (4 : Int32)
          · replace e := ite_t h23 e
            by_cases h24 : (mI q10 44 47) = 0
            · replace e := ite_t h24 e
              cases e
              exact (agx_tr (agx_tr (agx_tr (agx_wr (agx_rf _) (by rfl)) (agx_mono (by rfl) (fr_X12_hasLog eq2 :))) (agx_mono (by rfl) (fr_X12_hand eq5 :))) (agx_mono (by rfl) (fr_X12_findFits eq11 :)))
            · replace e := ite_f h24 e
              cases e
              exact (agx_tr (agx_tr (agx_tr (agx_wr (agx_rf _) (by rfl)) (agx_mono (by rfl) (fr_X12_hasLog eq2 :))) (agx_mono (by rfl) (fr_X12_hand eq5 :))) (agx_mono (by rfl) (fr_X12_findFits eq11 :)))
          replace e := ite_f h23 e
          by_cases h25 : a4 = (5 : Int32)
          · replace e := ite_t h25 e
            cases e
            exact (agx_tr (agx_tr (agx_tr (agx_wr (agx_rf _) (by rfl)) (agx_mono (by rfl) (fr_X12_hasLog eq2 :))) (agx_mono (by rfl) (fr_X12_hand eq5 :))) (agx_mono (by rfl) (fr_X12_findFits eq11 :)))
          replace e := ite_f h25 e
          cases e
          exact (agx_tr (agx_tr (agx_tr (agx_wr (agx_rf _) (by rfl)) (agx_mono (by rfl) (fr_X12_hasLog eq2 :))) (agx_mono (by rfl) (fr_X12_hand eq5 :))) (agx_mono (by rfl) (fr_X12_findFits eq11 :)))
        · replace e := ite_f h12 e
          cases e
          exact (agx_tr (agx_tr (agx_tr (agx_wr (agx_rf _) (by rfl)) (agx_mono (by rfl) (fr_X12_hasLog eq2 :))) (agx_mono (by rfl) (fr_X12_hand eq5 :))) (agx_mono (by rfl) (fr_X12_findFits eq11 :)))
set_option maxRecDepth 100000 in
theorem fr_X12_draw {a1 : Int32} {mm : Mm} {q : Int32 × Mm} (e : m_X12_draw a1 mm = some q) : agx [(44, some 54)] mm q.2 := by
  unfold m_X12_draw at e
  obtain ⟨hz1, e⟩ := gdz_some e
  cases e
  exact (agx_wr (agx_rf _) (by rfl))
set_option maxRecDepth 100000 in
theorem fr_X12_drawDeed {mm : Mm} {q : Mm} (e : m_X12_drawDeed mm = some q) : agx [(44, some 25), (44, some 27), (44, some 28), (44, some 29), (44, some 30), (44, some 54), (56, none), (58, none), (59, none), (60, none), (61, none), (62, none)] mm q := by
  unfold m_X12_drawDeed at e
  obtain ⟨q1, eq2, e⟩ := obind e
  by_cases h3 : q1.1 = (9 : Int32)
  · replace e := ite_t h3 e
    obtain ⟨q4, eq5, e⟩ := obind e
    cases e
    exact (agx_tr (agx_tr (agx_rf _) (agx_mono (by rfl) (fr_X12_draw eq2 :))) (agx_mono (by rfl) (fr_X12_does eq5 :)))
  · replace e := ite_f h3 e
    by_cases h7 : (if q1.1 = (8 : Int32) then (1 : Int32) else (2 : Int32)) ≤ (mI q1.2 44 24)
    · replace e := ite_t h7 e
      obtain ⟨q8, eq9, e⟩ := obind e
      by_cases h10 : q1.1 = (8 : Int32)
      · replace e := ite_t h10 e
        obtain ⟨q11, eq12, e⟩ := obind e
        obtain ⟨q14, eq15, e⟩ := obind e
        cases e
        exact (agx_tr (agx_tr (agx_tr (agx_tr (agx_rf _) (agx_mono (by rfl) (fr_X12_draw eq2 :))) (agx_mono (by rfl) (fr_X12_draw eq9 :))) (agx_mono (by rfl) (fr_X12_draw eq12 :))) (agx_mono (by rfl) (fr_X12_does eq15 :)))
      · replace e := ite_f h10 e
        obtain ⟨q16, eq17, e⟩ := obind e
        obtain ⟨hz18, e⟩ := gdz_some e
        obtain ⟨p19, ep21, e⟩ := obind e
        have fp19 : agx [(44, some 25), (44, some 27), (44, some 28), (44, some 29), (44, some 30), (44, some 54), (56, none), (58, none), (59, none), (60, none), (61, none), (62, none)] mm p19.2 := by
          clear e
          by_cases h22 : (4 : Int32) ≤ q1.1
          · replace ep21 := ite_t h22 ep21
            cases ep21
            exact (agx_tr (agx_tr (agx_tr (agx_rf _) (agx_mono (by rfl) (fr_X12_draw eq2 :))) (agx_mono (by rfl) (fr_X12_draw eq9 :))) (agx_mono (by rfl) (fr_X12_draw eq17 :)))
          · replace ep21 := ite_f h22 ep21
            obtain ⟨q23, eq24, ep21⟩ := obind ep21
            cases ep21
            exact (agx_tr (agx_tr (agx_tr (agx_tr (agx_rf _) (agx_mono (by rfl) (fr_X12_draw eq2 :))) (agx_mono (by rfl) (fr_X12_draw eq9 :))) (agx_mono (by rfl) (fr_X12_draw eq17 :))) (agx_mono (by rfl) (fr_X12_draw eq24 :)))
        obtain ⟨q28, eq29, e⟩ := obind e
        cases e
        exact (agx_tr fp19 (agx_mono (by rfl) (fr_X12_does eq29 :)))
    · replace e := ite_f h7 e
      cases e
      exact (agx_tr (agx_rf _) (agx_mono (by rfl) (fr_X12_draw eq2 :)))
set_option maxRecDepth 100000 in
theorem fr_X12_drawn {a1 : Int32} {a2 : Int32} {a3 : Int32} {a4 : Int32} {mm : Mm} {q : Int32 × Mm} (e : m_X12_drawn a1 a2 a3 a4 mm = some q) : agx [(44, some 0), (44, some 23), (44, some 24), (44, some 25), (44, some 26), (44, some 27), (44, some 28), (44, some 29), (44, some 30), (44, some 54), (56, none), (57, none), (58, none), (59, none), (60, none), (61, none), (62, none)] mm q.2 := by
  unfold m_X12_drawn at e
  by_cases h1 : (m_X12_in a3 (0 : Int32) (60 : Int32)) = 0
  · replace e := ite_t h1 e
    cases e
    exact (agx_wr (agx_rf _) (by rfl))
  · replace e := ite_f h1 e
    obtain ⟨q2, eq3, e⟩ := obind e
    by_cases h4 : q2.1 = 0
    · replace e := ite_t h4 e
      cases e
      exact (agx_tr (agx_wr (agx_rf _) (by rfl)) (agx_mono (by rfl) (fr_X12_hand eq3 :)))
    · replace e := ite_f h4 e
      obtain ⟨p6, eb8w, e⟩ := obind e
      have fp6 : agx [(44, some 0), (44, some 23), (44, some 24), (44, some 25), (44, some 26), (44, some 27), (44, some 28), (44, some 29), (44, some 30), (44, some 54), (56, none), (57, none), (58, none), (59, none), (60, none), (61, none), (62, none)] mm p6 := by
        clear e
        refine while_fr (Inv := fun z5 => agx [(44, some 0), (44, some 23), (44, some 24), (44, some 25), (44, some 26), (44, some 27), (44, some 28), (44, some 29), (44, some 30), (44, some 54), (56, none), (57, none), (58, none), (59, none), (60, none), (61, none), (62, none)] mm z5.2) (Post := fun pw => agx [(44, some 0), (44, some 23), (44, some 24), (44, some 25), (44, some 26), (44, some 27), (44, some 28), (44, some 29), (44, some 30), (44, some 54), (56, none), (57, none), (58, none), (59, none), (60, none), (61, none), (62, none)] mm pw) eb8w (agx_wr (agx_tr (agx_wr (agx_rf _) (by rfl)) (agx_mono (by rfl) (fr_X12_hand eq3 :))) (by rfl)) ?_
        intro z5 x7y eb8 hz9
        unfold m_X12_drawn_b33 at eb8
        by_cases h12 : a3 ≤ z5.1
        · replace eb8 := ite_t h12 eb8
          cases eb8
          exact ⟨fun az ha => (by cases ha), fun bz hb => (by have h9 := Sum.inr.inj hb; subst h9; exact hz9)⟩
        · replace eb8 := ite_f h12 eb8
          obtain ⟨q13, eq14, eb8⟩ := obind eb8
          cases eb8
          exact ⟨fun az ha => (by have h9 := Sum.inl.inj ha; subst h9; exact (agx_tr hz9 (agx_mono (by rfl) (fr_X12_drawDeed eq14 :)))), fun bz hb => (by cases hb)⟩
      obtain ⟨q15, eq16, e⟩ := obind e
      cases e
      exact fp6
set_option maxRecDepth 100000 in
theorem fr_X12_spoilers {mm : Mm} {q : Int32 × Mm} (e : m_X12_spoilers mm = some q) : agx [(44, some 26)] mm q.2 := by
  unfold m_X12_spoilers at e
  obtain ⟨q1, eq2, e⟩ := obind e
  obtain ⟨p4, eb6w, e⟩ := obind e
  have fp4 : agx [(44, some 26)] mm p4.2 := by
    clear e
    refine while_fr (Inv := fun z3 => agx [(44, some 26)] mm z3.2.2) (Post := fun pw => agx [(44, some 26)] mm pw.2) eb6w (agx_wr (agx_rf _) (by rfl)) ?_
    intro z3 x5y eb6 hz7
    unfold m_X12_spoilers_b14 at eb6
    by_cases h10 : (mI z3.2.2 44 25) ≤ z3.2.1
    · replace eb6 := ite_t h10 eb6
      cases eb6
      exact ⟨fun az ha => (by cases ha), fun bz hb => (by have h9 := Sum.inr.inj hb; subst h9; exact hz7)⟩
    · replace eb6 := ite_f h10 eb6
      obtain ⟨q11, eq12, eb6⟩ := obind eb6
      obtain ⟨q13, eq14, eb6⟩ := obind eb6
      obtain ⟨q15, eq16, eb6⟩ := obind eb6
      cases eb6
      exact ⟨fun az ha => (by have h9 := Sum.inl.inj ha; subst h9; exact (agx_wr hz7 (by rfl))), fun bz hb => (by cases hb)⟩
  cases e
  exact (agx_wr fp4 (by rfl))
set_option maxRecDepth 100000 in
theorem fr_X12_moreOaths {a1 : Int32} {mm : Mm} {q : Int32 × Mm} (e : m_X12_moreOaths a1 mm = some q) : agx [(44, some 25), (60, none), (61, none), (62, none)] mm q.2 := by
  unfold m_X12_moreOaths at e
  obtain ⟨q1, eq2, e⟩ := obind e
  obtain ⟨x5, eb6w, elx5, erx5⟩ := bS_some e
  have cx5 : ((∀ pz8, x5 = .inl pz8 → agx [(44, some 25), (60, none), (61, none), (62, none)] mm pz8.2) ∧ (∀ tz9, x5 = .inr tz9 → agx [(44, some 25), (60, none), (61, none), (62, none)] mm tz9.2)) := by
    clear elx5 erx5
    refine while_fr (Inv := fun z3 => agx [(44, some 25), (60, none), (61, none), (62, none)] mm z3.2.2) (Post := fun pw => ((∀ pz8, pw = .inl pz8 → agx [(44, some 25), (60, none), (61, none), (62, none)] mm pz8.2) ∧ (∀ tz9, pw = .inr tz9 → agx [(44, some 25), (60, none), (61, none), (62, none)] mm tz9.2))) eb6w (agx_rf _) ?_
    intro z3 x5y eb6 hz7
    unfold m_X12_moreOaths_b10 at eb6
    by_cases h12 : (288 : Int32) ≤ z3.2.1
    · replace eb6 := ite_t h12 eb6
      cases eb6
      exact ⟨fun az ha => (by cases ha), fun bz hb => (by have h9 := Sum.inr.inj hb; subst h9; exact ⟨fun pz hz => (by have h9 := Sum.inl.inj hz; subst h9; exact hz7), fun tz hz => (by cases hz)⟩)⟩
    · replace eb6 := ite_f h12 eb6
      obtain ⟨q13, eq14, eb6⟩ := obind eb6
      obtain ⟨x16, ep17, elx16, erx16⟩ := bS_some eb6
      have cx16 : ((∀ pz18, x16 = .inl pz18 → agx [(44, some 25), (60, none), (61, none), (62, none)] mm pz18.2) ∧ (∀ tz19, x16 = .inr tz19 → ((∀ az10, tz19 = .inl az10 → agx [(44, some 25), (60, none), (61, none), (62, none)] mm az10.2.2) ∧ (∀ bz11, tz19 = .inr bz11 → ((∀ pz8, bz11 = .inl pz8 → agx [(44, some 25), (60, none), (61, none), (62, none)] mm pz8.2) ∧ (∀ tz9, bz11 = .inr tz9 → agx [(44, some 25), (60, none), (61, none), (62, none)] mm tz9.2)))))) := by
        clear elx16 erx16
        by_cases h20 : q13 = 0
        · replace ep17 := ite_t h20 ep17
          cases ep17
          exact ⟨fun pz hz => (by have h9 := Sum.inl.inj hz; subst h9; exact hz7), fun tz hz => (by cases hz)⟩
        · replace ep17 := ite_f h20 ep17
          obtain ⟨q21, eq22, ep17⟩ := obind ep17
          by_cases h23 : q21 = 0
          · replace ep17 := ite_t h23 ep17
            obtain ⟨q24, eq25, ep17⟩ := obind ep17
            obtain ⟨q26, eq27, ep17⟩ := obind ep17
            obtain ⟨x30, ep31, elx30, erx30⟩ := bS_some ep17
            have cx30 : ((∀ pz32, x30 = .inl pz32 → True) ∧ (∀ tz33, x30 = .inr tz33 → ((∀ pz18, tz33 = .inl pz18 → agx [(44, some 25), (60, none), (61, none), (62, none)] mm pz18.2) ∧ (∀ tz19, tz33 = .inr tz19 → ((∀ az10, tz19 = .inl az10 → agx [(44, some 25), (60, none), (61, none), (62, none)] mm az10.2.2) ∧ (∀ bz11, tz19 = .inr bz11 → ((∀ pz8, bz11 = .inl pz8 → agx [(44, some 25), (60, none), (61, none), (62, none)] mm pz8.2) ∧ (∀ tz9, bz11 = .inr tz9 → agx [(44, some 25), (60, none), (61, none), (62, none)] mm tz9.2)))))))) := by
              clear elx30 erx30
              by_cases h34 : (if (q26 &&& (q1 ^^^ (-1 : Int32))) = 0 then (1 : Int32) else (0 : Int32)) = 0
              · replace ep31 := ite_t h34 ep31
                cases ep31
                exact ⟨fun pz hz => (by have h9 := Sum.inl.inj hz; subst h9; exact trivial), fun tz hz => (by cases hz)⟩
              · replace ep31 := ite_f h34 ep31
                by_cases h35 : a1 = 0
                · replace ep31 := ite_t h35 ep31
                  cases ep31
                  exact ⟨fun pz hz => (by have h9 := Sum.inl.inj hz; subst h9; exact trivial), fun tz hz => (by cases hz)⟩
                · replace ep31 := ite_f h35 ep31
                  cases ep31
                  exact ⟨fun pz hz => (by cases hz), fun tz hz => (by have h9 := Sum.inr.inj hz; subst h9; exact ⟨fun pz hz => (by cases hz), fun tz hz => (by have h9 := Sum.inr.inj hz; subst h9; exact ⟨fun az ha => (by cases ha), fun bz hb => (by have h9 := Sum.inr.inj hb; subst h9; exact ⟨fun pz hz => (by cases hz), fun tz hz => (by have h9 := Sum.inr.inj hz; subst h9; exact (agx_wr (agx_tr hz7 (agx_mono (by rfl) (fr_X12_addOath eq25 :))) (by rfl)))⟩)⟩)⟩)⟩
            cases x30 with
            | inl p29 =>
              replace ep17 := elx30 _ rfl
              cases ep17
              exact ⟨fun pz hz => (by have h9 := Sum.inl.inj hz; subst h9; exact (agx_wr (agx_tr hz7 (agx_mono (by rfl) (fr_X12_addOath eq25 :))) (by rfl))), fun tz hz => (by cases hz)⟩
            | inr tz0 =>
              have hz := erx30 _ rfl
              subst hz
              exact cx30.2 _ rfl
          · replace ep17 := ite_f h23 ep17
            cases ep17
            exact ⟨fun pz hz => (by have h9 := Sum.inl.inj hz; subst h9; exact hz7), fun tz hz => (by cases hz)⟩
      cases x16 with
      | inl p15 =>
        replace eb6 := elx16 _ rfl
        have fp15 := cx16.1 _ rfl
        cases eb6
        exact ⟨fun az ha => (by have h9 := Sum.inl.inj ha; subst h9; exact fp15), fun bz hb => (by cases hb)⟩
      | inr tz0 =>
        have hz := erx16 _ rfl
        subst hz
        exact cx16.2 _ rfl
  cases x5 with
  | inl p4 =>
    replace e := elx5 _ rfl
    have fp4 := cx5.1 _ rfl
    by_cases h37 : a1 = 0
    · replace e := ite_t h37 e
      cases e
      exact fp4
    · replace e := ite_f h37 e
      cases e
      exact fp4
  | inr tz0 =>
    have hz := erx5 _ rfl
    subst hz
    exact cx5.2 _ rfl
set_option maxRecDepth 100000 in
theorem fr_X12_lone {a1 : Int32} {a2 : Int32} {mm : Mm} {q : Int32 × Mm} (e : m_X12_lone a1 a2 mm = some q) : agx [(44, some 0), (44, some 23), (44, some 24), (44, some 25), (44, some 26), (44, some 27), (44, some 28), (44, some 29), (44, some 30), (56, none), (57, none), (58, none), (59, none), (60, none), (61, none), (62, none)] mm q.2 := by
  unfold m_X12_lone at e
  obtain ⟨q1, eq2, e⟩ := obind e
  by_cases h3 : q1.1 = 0
  · replace e := ite_t h3 e
    cases e
    exact (agx_tr (agx_wr (agx_rf _) (by rfl)) (agx_mono (by rfl) (fr_X12_hand eq2 :)))
  · replace e := ite_f h3 e
    by_cases h4 : (m_X12_in a2 (0 : Int32) (5 : Int32)) = 0
    · replace e := ite_t h4 e
      by_cases h5 : a2 = (6 : Int32)
      · replace e := ite_t h5 e
        obtain ⟨q6, eq7, e⟩ := obind e
        obtain ⟨q8, eq9, e⟩ := obind e
        cases e
        exact (agx_tr (agx_wr (agx_rf _) (by rfl)) (agx_mono (by rfl) (fr_X12_hand eq2 :)))
      replace e := ite_f h5 e
      by_cases h10 : a2 = (7 : Int32)
      · replace e := ite_t h10 e
        obtain ⟨q11, eq12, e⟩ := obind e
        cases e
        exact (agx_tr (agx_wr (agx_rf _) (by rfl)) (agx_mono (by rfl) (fr_X12_hand eq2 :)))
      replace e := ite_f h10 e
      by_cases h13 : a2 = (8 : Int32)
      · replace e := ite_t h13 e
        obtain ⟨q14, eq15, e⟩ := obind e
        cases e
        exact (agx_tr (agx_wr (agx_rf _) (by rfl)) (agx_mono (by rfl) (fr_X12_hand eq2 :)))
      replace e := ite_f h13 e
      by_cases h16 : a2 = (9 : Int32)
      · replace e := ite_t h16 e
        obtain ⟨q17, eq18, e⟩ := obind e
        cases e
        exact (agx_tr (agx_wr (agx_rf _) (by rfl)) (agx_mono (by rfl) (fr_X12_hand eq2 :)))
      replace e := ite_f h16 e
      by_cases h19 : a2 = (10 : Int32)
      · replace e := ite_t h19 e
        obtain ⟨q20, eq21, e⟩ := obind e
        cases e
        exact (agx_tr (agx_tr (agx_wr (agx_rf _) (by rfl)) (agx_mono (by rfl) (fr_X12_hand eq2 :))) (agx_mono (by rfl) (fr_X12_spoilers eq21 :)))
      replace e := ite_f h19 e
      by_cases h22 : a2 = (11 : Int32)
      · replace e := ite_t h22 e
        obtain ⟨q24, eq25, e⟩ := obind e
        cases e
        exact (agx_tr (agx_tr (agx_wr (agx_rf _) (by rfl)) (agx_mono (by rfl) (fr_X12_hand eq2 :))) (agx_mono (by rfl) (fr_X12_moreOaths eq25 :)))
      replace e := ite_f h22 e
      by_cases h26 : a2 = (12 : Int32)
      · replace e := ite_t h26 e
        obtain ⟨q28, eq29, e⟩ := obind e
        cases e
        exact (agx_tr (agx_tr (agx_wr (agx_rf _) (by rfl)) (agx_mono (by rfl) (fr_X12_hand eq2 :))) (agx_mono (by rfl) (fr_X12_moreOaths eq29 :)))
      replace e := ite_f h26 e
      by_cases h30 : a2 = (13 : Int32)
      · replace e := ite_t h30 e
        obtain ⟨q31, eq32, e⟩ := obind e
        cases e
        exact (agx_tr (agx_wr (agx_rf _) (by rfl)) (agx_mono (by rfl) (fr_X12_hand eq2 :)))
      replace e := ite_f h30 e
      by_cases h33 : a2 = (14 : Int32)
      · replace e := ite_t h33 e
        obtain ⟨q34, eq35, e⟩ := obind e
        cases e
        exact (agx_tr (agx_wr (agx_rf _) (by rfl)) (agx_mono (by rfl) (fr_X12_hand eq2 :)))
      replace e := ite_f h33 e
      by_cases h36 : a2 = (15 : Int32)
      · replace e := ite_t h36 e
        obtain ⟨q37, eq38, e⟩ := obind e
        cases e
        exact (agx_tr (agx_wr (agx_rf _) (by rfl)) (agx_mono (by rfl) (fr_X12_hand eq2 :)))
      replace e := ite_f h36 e
      cases e
      exact (agx_tr (agx_wr (agx_rf _) (by rfl)) (agx_mono (by rfl) (fr_X12_hand eq2 :)))
    · replace e := ite_f h4 e
      obtain ⟨q39, eq40, e⟩ := obind e
      cases e
      exact (agx_tr (agx_wr (agx_rf _) (by rfl)) (agx_mono (by rfl) (fr_X12_hand eq2 :)))
set_option maxRecDepth 100000 in
theorem fr_X12_chain {a1 : Int32} {a2 : Int32} {mm : Mm} {q : Int32 × Mm} (e : m_X12_chain a1 a2 mm = some q) : agx [(44, some 0), (44, some 23), (44, some 24), (44, some 25), (44, some 26), (44, some 27), (44, some 28), (44, some 29), (44, some 30), (56, none), (57, none), (58, none), (59, none), (60, none), (61, none), (62, none), (69, none)] mm q.2 := by
  unfold m_X12_chain at e
  obtain ⟨q1, eq2, e⟩ := obind e
  by_cases h3 : q1.1 = 0
  · replace e := ite_t h3 e
    cases e
    exact (agx_tr (agx_wr (agx_rf _) (by rfl)) (agx_mono (by rfl) (fr_X12_hand eq2 :)))
  · replace e := ite_f h3 e
    obtain ⟨p5, eb7w, e⟩ := obind e
    have fp5 : agx [(44, some 0), (44, some 23), (44, some 24), (44, some 25), (44, some 26), (44, some 27), (44, some 28), (44, some 29), (44, some 30), (56, none), (57, none), (58, none), (59, none), (60, none), (61, none), (62, none), (69, none)] mm p5 := by
      clear e
      refine while_fr (Inv := fun z4 => agx [(44, some 0), (44, some 23), (44, some 24), (44, some 25), (44, some 26), (44, some 27), (44, some 28), (44, some 29), (44, some 30), (56, none), (57, none), (58, none), (59, none), (60, none), (61, none), (62, none), (69, none)] mm z4.2) (Post := fun pw => agx [(44, some 0), (44, some 23), (44, some 24), (44, some 25), (44, some 26), (44, some 27), (44, some 28), (44, some 29), (44, some 30), (56, none), (57, none), (58, none), (59, none), (60, none), (61, none), (62, none), (69, none)] mm pw) eb7w (agx_tr (agx_wr (agx_rf _) (by rfl)) (agx_mono (by rfl) (fr_X12_hand eq2 :))) ?_
      intro z4 x6y eb7 hz8
      unfold m_X12_chain_b24 at eb7
      by_cases h11 : z4.1 < 0
      · replace eb7 := ite_t h11 eb7
        cases eb7
        exact ⟨fun az ha => (by cases ha), fun bz hb => (by have h9 := Sum.inr.inj hb; subst h9; exact hz8)⟩
      · replace eb7 := ite_f h11 eb7
        obtain ⟨p13, eb15w, eb7⟩ := obind eb7
        have fp13 : agx [(44, some 0), (44, some 23), (44, some 24), (44, some 25), (44, some 26), (44, some 27), (44, some 28), (44, some 29), (44, some 30), (56, none), (57, none), (58, none), (59, none), (60, none), (61, none), (62, none), (69, none)] mm p13 := by
          clear eb7
          refine while_fr (Inv := fun z12 => agx [(44, some 0), (44, some 23), (44, some 24), (44, some 25), (44, some 26), (44, some 27), (44, some 28), (44, some 29), (44, some 30), (56, none), (57, none), (58, none), (59, none), (60, none), (61, none), (62, none), (69, none)] mm z12.2) (Post := fun pw => agx [(44, some 0), (44, some 23), (44, some 24), (44, some 25), (44, some 26), (44, some 27), (44, some 28), (44, some 29), (44, some 30), (56, none), (57, none), (58, none), (59, none), (60, none), (61, none), (62, none), (69, none)] mm pw) eb15w hz8 ?_
          intro z12 x14y eb15 hz16
          unfold m_X12_chain_b31 at eb15
          by_cases h19 : (6 : Int32) < z12.1
          · replace eb15 := ite_t h19 eb15
            cases eb15
            exact ⟨fun az ha => (by cases ha), fun bz hb => (by have h9 := Sum.inr.inj hb; subst h9; exact hz16)⟩
          · replace eb15 := ite_f h19 eb15
            obtain ⟨p21, eb23w, eb15⟩ := obind eb15
            obtain ⟨hg27, eb15⟩ := grd_some eb15
            cases eb15
            exact ⟨fun az ha => (by have h9 := Sum.inl.inj ha; subst h9; exact (agx_wr hz16 (by rfl))), fun bz hb => (by cases hb)⟩
        cases eb7
        exact ⟨fun az ha => (by have h9 := Sum.inl.inj ha; subst h9; exact fp13), fun bz hb => (by cases hb)⟩
    obtain ⟨x29, ep30, elx29, erx29⟩ := bS_some e
    have cx29 : ((∀ pz31, x29 = .inl pz31 → True) ∧ (∀ tz32, x29 = .inr tz32 → agx [(44, some 0), (44, some 23), (44, some 24), (44, some 25), (44, some 26), (44, some 27), (44, some 28), (44, some 29), (44, some 30), (56, none), (57, none), (58, none), (59, none), (60, none), (61, none), (62, none), (69, none)] mm tz32.2)) := by
      clear elx29 erx29
      by_cases h33 : a2 = (-1 : Int32)
      · replace ep30 := ite_t h33 ep30
        cases ep30
        exact ⟨fun pz hz => (by have h9 := Sum.inl.inj hz; subst h9; exact trivial), fun tz hz => (by cases hz)⟩
      · replace ep30 := ite_f h33 ep30
        by_cases h34 : (m_X12_in a2 (0 : Int32) ((mI p5 69 (ix (384 : Int32))) - (1 : Int32))) = 0
        · replace ep30 := ite_t h34 ep30
          cases ep30
          exact ⟨fun pz hz => (by have h9 := Sum.inl.inj hz; subst h9; exact trivial), fun tz hz => (by cases hz)⟩
        · replace ep30 := ite_f h34 ep30
          obtain ⟨p36, eb38w, ep30⟩ := obind ep30
          cases ep30
          exact ⟨fun pz hz => (by cases hz), fun tz hz => (by have h9 := Sum.inr.inj hz; subst h9; exact fp5)⟩
    cases x29 with
    | inl p28 =>
      replace e := elx29 _ rfl
      by_cases h42 : a2 = (-1 : Int32)
      · replace e := ite_t h42 e
        cases e
        exact fp5
      · replace e := ite_f h42 e
        cases e
        exact fp5
    | inr tz0 =>
      have hz := erx29 _ rfl
      subst hz
      exact cx29.2 _ rfl
set_option maxRecDepth 100000 in
theorem fr_X12_steps {a1 : Int32} {a2 : Int32} {a3 : Int32} {mm : Mm} {q : Int32 × Mm} (e : m_X12_steps a1 a2 a3 mm = some q) : agx [(44, some 0), (44, some 23), (44, some 24), (44, some 25), (44, some 26), (44, some 27), (44, some 28), (44, some 29), (44, some 30), (56, none), (57, none), (58, none), (59, none), (60, none), (61, none), (62, none)] mm q.2 := by
  unfold m_X12_steps at e
  obtain ⟨q1, eq2, e⟩ := obind e
  by_cases h3 : q1.1 = 0
  · replace e := ite_t h3 e
    cases e
    exact (agx_tr (agx_wr (agx_rf _) (by rfl)) (agx_mono (by rfl) (fr_X12_hand eq2 :)))
  · replace e := ite_f h3 e
    obtain ⟨q4, eq5, e⟩ := obind e
    by_cases h6 : q4 = 0
    · replace e := ite_t h6 e
      cases e
      exact (agx_tr (agx_wr (agx_rf _) (by rfl)) (agx_mono (by rfl) (fr_X12_hand eq2 :)))
    · replace e := ite_f h6 e
      obtain ⟨q7, eq8, e⟩ := obind e
      by_cases h9 : q7 = 0
      · replace e := ite_t h9 e
        cases e
        exact (agx_tr (agx_wr (agx_rf _) (by rfl)) (agx_mono (by rfl) (fr_X12_hand eq2 :)))
      · replace e := ite_f h9 e
        obtain ⟨x12, eb13w, elx12, erx12⟩ := bS_some e
        have cx12 : ((∀ pz15, x12 = .inl pz15 → True) ∧ (∀ tz16, x12 = .inr tz16 → agx [(44, some 0), (44, some 23), (44, some 24), (44, some 25), (44, some 26), (44, some 27), (44, some 28), (44, some 29), (44, some 30), (56, none), (57, none), (58, none), (59, none), (60, none), (61, none), (62, none)] mm tz16.2)) := by
          clear elx12 erx12
          refine while_fr (Inv := fun z10 => True) (Post := fun pw => ((∀ pz15, pw = .inl pz15 → True) ∧ (∀ tz16, pw = .inr tz16 → agx [(44, some 0), (44, some 23), (44, some 24), (44, some 25), (44, some 26), (44, some 27), (44, some 28), (44, some 29), (44, some 30), (56, none), (57, none), (58, none), (59, none), (60, none), (61, none), (62, none)] mm tz16.2))) eb13w trivial ?_
          intro z10 x12y eb13 hz14
          unfold m_X12_steps_b39 at eb13
          by_cases h19 : (6 : Int32) ≤ z10.2
          · replace eb13 := ite_t h19 eb13
            cases eb13
            exact ⟨fun az ha => (by cases ha), fun bz hb => (by have h9 := Sum.inr.inj hb; subst h9; exact ⟨fun pz hz => (by have h9 := Sum.inl.inj hz; subst h9; exact trivial), fun tz hz => (by cases hz)⟩)⟩
          · replace eb13 := ite_f h19 eb13
            by_cases h20 : (m_X12_has z10.1 a3) = 0
            · replace eb13 := ite_t h20 eb13
              obtain ⟨p22, eb24w, eb13⟩ := obind eb13
              cases eb13
              exact ⟨fun az ha => (by have h9 := Sum.inl.inj ha; subst h9; exact trivial), fun bz hb => (by cases hb)⟩
            · replace eb13 := ite_f h20 eb13
              cases eb13
              exact ⟨fun az ha => (by cases ha), fun bz hb => (by have h9 := Sum.inr.inj hb; subst h9; exact ⟨fun pz hz => (by cases hz), fun tz hz => (by have h9 := Sum.inr.inj hz; subst h9; exact (agx_tr (agx_wr (agx_rf _) (by rfl)) (agx_mono (by rfl) (fr_X12_hand eq2 :))))⟩)⟩
        cases x12 with
        | inl p11 =>
          replace e := elx12 _ rfl
          cases e
          exact (agx_tr (agx_wr (agx_rf _) (by rfl)) (agx_mono (by rfl) (fr_X12_hand eq2 :)))
        | inr tz0 =>
          have hz := erx12 _ rfl
          subst hz
          exact cx12.2 _ rfl
set_option maxRecDepth 100000 in
theorem fr_X12_after {a1 : Int32} {a2 : Int32} {a3 : Int32} {mm : Mm} {q : Int32 × Mm} (e : m_X12_after a1 a2 a3 mm = some q) : agx [(44, some 0), (44, some 23), (44, some 24), (44, some 25), (44, some 26), (44, some 27), (44, some 28), (44, some 29), (44, some 30), (44, some 38), (56, none), (57, none), (58, none), (59, none), (60, none), (61, none), (62, none)] mm q.2 := by
  unfold m_X12_after at e
  obtain ⟨q1, eq2, e⟩ := obind e
  by_cases h3 : q1.1 = 0
  · replace e := ite_t h3 e
    cases e
    exact (agx_tr (agx_wr (agx_rf _) (by rfl)) (agx_mono (by rfl) (fr_X12_layAll eq2 :)))
  · replace e := ite_f h3 e
    by_cases h4 : (m_X12_in a3 (0 : Int32) (4 : Int32)) = 0
    · replace e := ite_t h4 e
      cases e
      exact (agx_tr (agx_wr (agx_rf _) (by rfl)) (agx_mono (by rfl) (fr_X12_layAll eq2 :)))
    · replace e := ite_f h4 e
      obtain ⟨p6, eb8w, e⟩ := obind e
      have fp6 : agx [(44, some 0), (44, some 23), (44, some 24), (44, some 25), (44, some 26), (44, some 27), (44, some 28), (44, some 29), (44, some 30), (44, some 38), (56, none), (57, none), (58, none), (59, none), (60, none), (61, none), (62, none)] mm p6.2.2.2 := by
        clear e
        refine while_fr (Inv := fun z5 => agx [(44, some 0), (44, some 23), (44, some 24), (44, some 25), (44, some 26), (44, some 27), (44, some 28), (44, some 29), (44, some 30), (44, some 38), (56, none), (57, none), (58, none), (59, none), (60, none), (61, none), (62, none)] mm z5.2.2.2.2.2.2) (Post := fun pw => agx [(44, some 0), (44, some 23), (44, some 24), (44, some 25), (44, some 26), (44, some 27), (44, some 28), (44, some 29), (44, some 30), (44, some 38), (56, none), (57, none), (58, none), (59, none), (60, none), (61, none), (62, none)] mm pw.2.2.2) eb8w (agx_tr (agx_wr (agx_rf _) (by rfl)) (agx_mono (by rfl) (fr_X12_layAll eq2 :))) ?_
        intro z5 x7y eb8 hz9
        unfold m_X12_after_b44 at eb8
        by_cases h12 : z5.2.2.2.2.1 = 0
        · replace eb8 := ite_t h12 eb8
          cases eb8
          exact ⟨fun az ha => (by cases ha), fun bz hb => (by have h9 := Sum.inr.inj hb; subst h9; exact hz9)⟩
        · replace eb8 := ite_f h12 eb8
          obtain ⟨q13, eq14, eb8⟩ := obind eb8
          by_cases h15 : q13 ≤ z5.2.2.2.2.2.1
          · replace eb8 := ite_t h15 eb8
            cases eb8
            exact ⟨fun az ha => (by cases ha), fun bz hb => (by have h9 := Sum.inr.inj hb; subst h9; exact hz9)⟩
          · replace eb8 := ite_f h15 eb8
            obtain ⟨q16, eq17, eb8⟩ := obind eb8
            obtain ⟨p18, ep20, eb8⟩ := obind eb8
            cases eb8
            exact ⟨fun az ha => (by have h9 := Sum.inl.inj ha; subst h9; exact (agx_tr hz9 (agx_mono (by rfl) (fr_X12_doesDeed eq17 :)))), fun bz hb => (by cases hb)⟩
      by_cases h26 : a3 = (0 : Int32)
      · replace e := ite_t h26 e
        cases e
        exact fp6
      replace e := ite_f h26 e
      by_cases h27 : a3 = (1 : Int32)
      · replace e := ite_t h27 e
        obtain ⟨q28, eq29, e⟩ := obind e
        cases e
        exact fp6
      replace e := ite_f h27 e
      by_cases h30 : a3 = (2 : Int32)
      · replace e := ite_t h30 e
        cases e
        exact fp6
      replace e := ite_f h30 e
      by_cases h31 : a3 = (3 : Int32)
      · replace e := ite_t h31 e
        obtain ⟨q32, eq33, e⟩ := obind e
        cases e
        exact fp6
      replace e := ite_f h31 e
      cases e
      exact fp6
set_option maxRecDepth 100000 in
theorem fr_X12_count {a1 : Int32} {mm : Mm} {q : Int32 × Mm} (e : m_X12_count a1 mm = some q) : agx [(44, some 0)] mm q.2 := by
  unfold m_X12_count at e
  by_cases h1 : (m_X12_in a1 (0 : Int32) (3 : Int32)) = 0
  · replace e := ite_t h1 e
    cases e
    exact (agx_wr (agx_rf _) (by rfl))
  · replace e := ite_f h1 e
    obtain ⟨hg2, e⟩ := grd_some e
    cases e
    exact (agx_wr (agx_rf _) (by rfl))
