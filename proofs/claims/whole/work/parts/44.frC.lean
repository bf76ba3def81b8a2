set_option maxRecDepth 100000 in
theorem fr_X0_learn {mm : Mm} {q : Mm} (e : m_X0_learn mm = some q) : agx [(25, some 1), (26, none), (27, none), (28, none), (29, none)] mm q := by
  unfold m_X0_learn at e
  obtain ⟨p2, eb4w, e⟩ := obind e
  have fp2 : agx [(25, some 1), (26, none), (27, none), (28, none), (29, none)] mm p2 := by
    clear e
    refine while_fr (Inv := fun z1 => agx [(25, some 1), (26, none), (27, none), (28, none), (29, none)] mm z1.2) (Post := fun pw => agx [(25, some 1), (26, none), (27, none), (28, none), (29, none)] mm pw) eb4w (agx_wr (agx_rf _) (by rfl)) ?_
    intro z1 x3y eb4 hz5
    unfold m_X0_learn_b10 at eb4
    by_cases h8 : (6 : Int32) ≤ z1.1
    · replace eb4 := ite_t h8 eb4
      cases eb4
      exact ⟨fun az ha => (by cases ha), fun bz hb => (by have h9 := Sum.inr.inj hb; subst h9; exact hz5)⟩
    · replace eb4 := ite_f h8 eb4
      obtain ⟨hg9, eb4⟩ := grd_some eb4
      obtain ⟨hg10, eb4⟩ := grd_some eb4
      obtain ⟨hg11, eb4⟩ := grd_some eb4
      obtain ⟨hg12, eb4⟩ := grd_some eb4
      cases eb4
      exact ⟨fun az ha => (by have h9 := Sum.inl.inj ha; subst h9; exact (agx_wr (agx_wr (agx_wr (agx_wr hz5 (by rfl)) (by rfl)) (by rfl)) (by rfl))), fun bz hb => (by cases hb)⟩
  obtain ⟨p14, eb16w, e⟩ := obind e
  have fp14 : agx [(25, some 1), (26, none), (27, none), (28, none), (29, none)] mm p14 := by
    clear e
    refine while_fr (Inv := fun z13 => agx [(25, some 1), (26, none), (27, none), (28, none), (29, none)] mm z13.2) (Post := fun pw => agx [(25, some 1), (26, none), (27, none), (28, none), (29, none)] mm pw) eb16w fp2 ?_
    intro z13 x15y eb16 hz17
    unfold m_X0_learn_b52 at eb16
    by_cases h20 : (mI z13.2 14 1) ≤ z13.1
    · replace eb16 := ite_t h20 eb16
      cases eb16
      exact ⟨fun az ha => (by cases ha), fun bz hb => (by have h9 := Sum.inr.inj hb; subst h9; exact hz17)⟩
    · replace eb16 := ite_f h20 eb16
      obtain ⟨hg21, eb16⟩ := grd_some eb16
      obtain ⟨hg22, eb16⟩ := grd_some eb16
      obtain ⟨hg23, eb16⟩ := grd_some eb16
      obtain ⟨hg24, eb16⟩ := grd_some eb16
      obtain ⟨hg25, eb16⟩ := grd_some eb16
      obtain ⟨hg26, eb16⟩ := grd_some eb16
      obtain ⟨hg27, eb16⟩ := grd_some eb16
      obtain ⟨hg28, eb16⟩ := grd_some eb16
      obtain ⟨hg29, eb16⟩ := grd_some eb16
      obtain ⟨hg30, eb16⟩ := grd_some eb16
      cases eb16
      exact ⟨fun az ha => (by have h9 := Sum.inl.inj ha; subst h9; exact (agx_wr (agx_wr (agx_wr hz17 (by rfl)) (by rfl)) (by rfl))), fun bz hb => (by cases hb)⟩
  obtain ⟨p32, eb34w, e⟩ := obind e
  have fp32 : agx [(25, some 1), (26, none), (27, none), (28, none), (29, none)] mm p32 := by
    clear e
    refine while_fr (Inv := fun z31 => agx [(25, some 1), (26, none), (27, none), (28, none), (29, none)] mm z31.2) (Post := fun pw => agx [(25, some 1), (26, none), (27, none), (28, none), (29, none)] mm pw) eb34w fp14 ?_
    intro z31 x33y eb34 hz35
    unfold m_X0_learn_b120 at eb34
    by_cases h38 : (mI z31.2 25 1) ≤ z31.1
    · replace eb34 := ite_t h38 eb34
      cases eb34
      exact ⟨fun az ha => (by cases ha), fun bz hb => (by have h9 := Sum.inr.inj hb; subst h9; exact hz35)⟩
    · replace eb34 := ite_f h38 eb34
      obtain ⟨p40, eb42w, eb34⟩ := obind eb34
      have fp40 : agx [(25, some 1), (26, none), (27, none), (28, none), (29, none)] mm p40 := by
        clear eb34
        refine while_fr (Inv := fun z39 => agx [(25, some 1), (26, none), (27, none), (28, none), (29, none)] mm z39.2) (Post := fun pw => agx [(25, some 1), (26, none), (27, none), (28, none), (29, none)] mm pw) eb42w hz35 ?_
        intro z39 x41y eb42 hz43
        unfold m_X0_learn_b130 at eb42
        by_cases h46 : (mI z39.2 25 1) ≤ z39.1
        · replace eb42 := ite_t h46 eb42
          cases eb42
          exact ⟨fun az ha => (by cases ha), fun bz hb => (by have h9 := Sum.inr.inj hb; subst h9; exact hz43)⟩
        · replace eb42 := ite_f h46 eb42
          obtain ⟨hg47, eb42⟩ := grd_some eb42
          obtain ⟨hg48, eb42⟩ := grd_some eb42
          obtain ⟨hg49, eb42⟩ := grd_some eb42
          cases eb42
          exact ⟨fun az ha => (by have h9 := Sum.inl.inj ha; subst h9; exact (agx_wr hz43 (by rfl))), fun bz hb => (by cases hb)⟩
      cases eb34
      exact ⟨fun az ha => (by have h9 := Sum.inl.inj ha; subst h9; exact fp40), fun bz hb => (by cases hb)⟩
  cases e
  exact fp32
set_option maxRecDepth 100000 in
theorem fr_X1_findMoreOf {a2 : Int32} {a3 : Int32} {mm : Mm} {q : Mm} (e : m_X1_findMoreOf a2 a3 mm = some q) : agx [(32, some 2), (32, some 3)] mm q := by
  unfold m_X1_findMoreOf at e
  obtain ⟨q1, eq2, e⟩ := obind e
  obtain ⟨q3, eq4, e⟩ := obind e
  obtain ⟨q5, eq6, e⟩ := obind e
  obtain ⟨p8, eb10w, e⟩ := obind e
  have fp8 : agx [(32, some 2), (32, some 3)] mm p8 := by
    clear e
    refine while_fr (Inv := fun z7 => agx [(32, some 2), (32, some 3)] mm z7.2) (Post := fun pw => agx [(32, some 2), (32, some 3)] mm pw) eb10w (agx_rf _) ?_
    intro z7 x9y eb10 hz11
    unfold m_X1_findMoreOf_b26 at eb10
    by_cases h14 : (8 : Int32) ≤ z7.1
    · replace eb10 := ite_t h14 eb10
      cases eb10
      exact ⟨fun az ha => (by cases ha), fun bz hb => (by have h9 := Sum.inr.inj hb; subst h9; exact hz11)⟩
    · replace eb10 := ite_f h14 eb10
      obtain ⟨hg15, eb10⟩ := grd_some eb10
      obtain ⟨q16, eq17, eb10⟩ := obind eb10
      obtain ⟨p20, ep22, eb10⟩ := obind eb10
      have fp20 : agx [(32, some 2), (32, some 3)] mm p20 := by
        clear eb10
        by_cases h23 : (if (m_X11_has q16 z7.1) = 0 then (0 : Int32) else (if (q3 &&& (q16 ^^^ (-1 : Int32))) = 0 then (1 : Int32) else (0 : Int32))) = 0
        · replace ep22 := ite_t h23 ep22
          cases ep22
          exact hz11
        · replace ep22 := ite_f h23 ep22
          obtain ⟨q24, eq25, ep22⟩ := obind ep22
          by_cases h26 : q24 = 0
          · replace ep22 := ite_t h26 ep22
            cases ep22
            exact (agx_wr (agx_wr hz11 (by rfl)) (by rfl))
          · replace ep22 := ite_f h26 ep22
            cases ep22
            exact hz11
      cases eb10
      exact ⟨fun az ha => (by have h9 := Sum.inl.inj ha; subst h9; exact fp20), fun bz hb => (by cases hb)⟩
  cases e
  exact fp8
set_option maxRecDepth 100000 in
theorem fr_X1_findMore {mm : Mm} {q : Mm} (e : m_X1_findMore mm = some q) : agx [(32, some 2), (32, some 3)] mm q := by
  unfold m_X1_findMore at e
  obtain ⟨p2, eb4w, e⟩ := obind e
  have fp2 : agx [(32, some 2), (32, some 3)] mm p2 := by
    clear e
    refine while_fr (Inv := fun z1 => agx [(32, some 2), (32, some 3)] mm z1.2) (Post := fun pw => agx [(32, some 2), (32, some 3)] mm pw) eb4w (agx_wr (agx_wr (agx_rf _) (by rfl)) (by rfl)) ?_
    intro z1 x3y eb4 hz5
    unfold m_X1_findMore_b12 at eb4
    by_cases h8 : (mI z1.2 14 0) ≤ z1.1
    · replace eb4 := ite_t h8 eb4
      cases eb4
      exact ⟨fun az ha => (by cases ha), fun bz hb => (by have h9 := Sum.inr.inj hb; subst h9; exact hz5)⟩
    · replace eb4 := ite_f h8 eb4
      obtain ⟨p10, eb12w, eb4⟩ := obind eb4
      have fp10 : agx [(32, some 2), (32, some 3)] mm p10 := by
        clear eb4
        refine while_fr (Inv := fun z9 => agx [(32, some 2), (32, some 3)] mm z9.2) (Post := fun pw => agx [(32, some 2), (32, some 3)] mm pw) eb12w hz5 ?_
        intro z9 x11y eb12 hz13
        unfold m_X1_findMore_b22 at eb12
        by_cases h16 : (mI z9.2 14 0) ≤ z9.1
        · replace eb12 := ite_t h16 eb12
          cases eb12
          exact ⟨fun az ha => (by cases ha), fun bz hb => (by have h9 := Sum.inr.inj hb; subst h9; exact hz13)⟩
        · replace eb12 := ite_f h16 eb12
          obtain ⟨p17, ep19, eb12⟩ := obind eb12
          have fp17 : agx [(32, some 2), (32, some 3)] mm p17 := by
            clear eb12
            by_cases h20 : z1.1 = z9.1
            · replace ep19 := ite_t h20 ep19
              cases ep19
              exact hz13
            · replace ep19 := ite_f h20 ep19
              obtain ⟨q21, eq22, ep19⟩ := obind ep19
              cases ep19
              exact (agx_tr hz13 (agx_mono (by rfl) (fr_X1_findMoreOf eq22 :)))
          cases eb12
          exact ⟨fun az ha => (by have h9 := Sum.inl.inj ha; subst h9; exact fp17), fun bz hb => (by cases hb)⟩
      cases eb4
      exact ⟨fun az ha => (by have h9 := Sum.inl.inj ha; subst h9; exact fp10), fun bz hb => (by cases hb)⟩
  cases e
  exact fp2
set_option maxRecDepth 100000 in
theorem fr_X1_tell {a2 : Int32} {mm : Mm} {q : Int32 × Mm} (e : m_X1_tell a2 mm = some q) : agx [(32, some 2), (32, some 3)] mm q.2 := by
  unfold m_X1_tell at e
  by_cases h1 : a2 = (8 : Int32)
  · replace e := ite_t h1 e
    obtain ⟨q2, eq3, e⟩ := obind e
    cases e
    exact (agx_rf _)
  replace e := ite_f h1 e
  by_cases h4 : a2 = (9 : Int32)
  · replace e := ite_t h4 e
    obtain ⟨q5, eq6, e⟩ := obind e
    cases e
    exact (agx_rf _)
  replace e := ite_f h4 e
  by_cases h7 : a2 = (10 : Int32)
  · replace e := ite_t h7 e
    obtain ⟨q8, eq9, e⟩ := obind e
    cases e
    exact (agx_rf _)
  replace e := ite_f h7 e
  by_cases h10 : a2 = (11 : Int32)
  · replace e := ite_t h10 e
    obtain ⟨q11, eq12, e⟩ := obind e
    cases e
    exact (agx_tr (agx_rf _) (agx_mono (by rfl) (fr_X1_findMore eq12 :)))
  replace e := ite_f h10 e
  by_cases h13 : a2 = (12 : Int32)
  · replace e := ite_t h13 e
    obtain ⟨q14, eq15, e⟩ := obind e
    cases e
    exact (agx_tr (agx_rf _) (agx_mono (by rfl) (fr_X1_findMore eq15 :)))
  replace e := ite_f h13 e
  by_cases h16 : a2 = (13 : Int32)
  · replace e := ite_t h16 e
    obtain ⟨q17, eq18, e⟩ := obind e
    cases e
    exact (agx_rf _)
  replace e := ite_f h16 e
  by_cases h19 : a2 = (14 : Int32)
  · replace e := ite_t h19 e
    obtain ⟨q20, eq21, e⟩ := obind e
    cases e
    exact (agx_rf _)
  replace e := ite_f h19 e
  by_cases h22 : a2 = (15 : Int32)
  · replace e := ite_t h22 e
    obtain ⟨q23, eq24, e⟩ := obind e
    cases e
    exact (agx_rf _)
  replace e := ite_f h22 e
  cases e
  exact (agx_rf _)
set_option maxRecDepth 100000 in
theorem fr_X1_hearten {a1 : Int32} {mm : Mm} {q : Int32 × Mm} (e : m_X1_hearten a1 mm = some q) : agx [(15, none)] mm q.2 := by
  unfold m_X1_hearten at e
  obtain ⟨q1, eq2, e⟩ := obind e
  obtain ⟨hg3, e⟩ := grd_some e
  obtain ⟨x6, eb7w, elx6, erx6⟩ := bS_some e
  have cx6 : ((∀ pz9, x6 = .inl pz9 → agx [(15, none)] mm pz9) ∧ (∀ tz10, x6 = .inr tz10 → agx [(15, none)] mm tz10.2)) := by
    clear elx6 erx6
    refine while_fr (Inv := fun z4 => agx [(15, none)] mm z4.2) (Post := fun pw => ((∀ pz9, pw = .inl pz9 → agx [(15, none)] mm pz9) ∧ (∀ tz10, pw = .inr tz10 → agx [(15, none)] mm tz10.2))) eb7w (agx_rf _) ?_
    intro z4 x6y eb7 hz8
    unfold m_X1_hearten_b16 at eb7
    by_cases h13 : (9 : Int32) < ((mI mm 15 (ix a1)) + z4.1)
    · replace eb7 := ite_t h13 eb7
      cases eb7
      exact ⟨fun az ha => (by cases ha), fun bz hb => (by have h9 := Sum.inr.inj hb; subst h9; exact ⟨fun pz hz => (by have h9 := Sum.inl.inj hz; subst h9; exact hz8), fun tz hz => (by cases hz)⟩)⟩
    · replace eb7 := ite_f h13 eb7
      obtain ⟨hg14, eb7⟩ := grd_some eb7
      obtain ⟨q15, eq16, eb7⟩ := obind eb7
      by_cases h17 : q15 = q1
      · replace eb7 := ite_t h17 eb7
        cases eb7
        exact ⟨fun az ha => (by cases ha), fun bz hb => (by have h9 := Sum.inr.inj hb; subst h9; exact ⟨fun pz hz => (by cases hz), fun tz hz => (by have h9 := Sum.inr.inj hz; subst h9; exact (agx_wr hz8 (by rfl)))⟩)⟩
      · replace eb7 := ite_f h17 eb7
        cases eb7
        exact ⟨fun az ha => (by have h9 := Sum.inl.inj ha; subst h9; exact (agx_wr hz8 (by rfl))), fun bz hb => (by cases hb)⟩
  cases x6 with
  | inl p5 =>
    replace e := elx6 _ rfl
    have fp5 := cx6.1 _ rfl
    cases e
    exact fp5
  | inr tz0 =>
    have hz := erx6 _ rfl
    subst hz
    exact cx6.2 _ rfl
set_option maxRecDepth 100000 in
theorem fr_X3_holdMonday {a1 : Int32} {mm : Mm} {q : Mm} (e : m_X3_holdMonday a1 mm = some q) : agx [(13, some 1), (13, some 2), (13, some 3), (13, some 4), (13, some 5), (13, some 6), (13, some 7), (14, some 1)] mm q := by
  unfold m_X3_holdMonday at e
  obtain ⟨q1, eq2, e⟩ := obind e
  obtain ⟨q6, eq7, e⟩ := obind e
  cases e
  exact (agx_wr (agx_wr (agx_ite (agx_ite (agx_ite (agx_wr (agx_wr (agx_wr (agx_rf _) (by rfl)) (by rfl)) (by rfl)) (agx_wr (agx_wr (agx_wr (agx_wr (agx_wr (agx_rf _) (by rfl)) (by rfl)) (by rfl)) (by rfl)) (by rfl))) (agx_wr (agx_ite (agx_wr (agx_wr (agx_wr (agx_rf _) (by rfl)) (by rfl)) (by rfl)) (agx_wr (agx_wr (agx_wr (agx_wr (agx_wr (agx_rf _) (by rfl)) (by rfl)) (by rfl)) (by rfl)) (by rfl))) (by rfl))) (agx_ite (agx_wr (agx_wr (agx_wr (agx_rf _) (by rfl)) (by rfl)) (by rfl)) (agx_wr (agx_wr (agx_wr (agx_wr (agx_wr (agx_rf _) (by rfl)) (by rfl)) (by rfl)) (by rfl)) (by rfl)))) (by rfl)) (by rfl))
set_option maxRecDepth 100000 in
theorem fr_X3_changeWill {a1 : Int32} {a2 : Int32} {mm : Mm} {q : Int32 × Mm} (e : m_X3_changeWill a1 a2 mm = some q) : agx [(15, none)] mm q.2 := by
  unfold m_X3_changeWill at e
  by_cases h1 : (m_X7_isThere a1 mm) = 0
  · replace e := ite_t h1 e
    cases e
    exact (agx_rf _)
  · replace e := ite_f h1 e
    obtain ⟨hg2, e⟩ := grd_some e
    by_cases h3 : ((mI mm 15 (ix a1)) + a2) < 0
    · replace e := ite_t h3 e
      cases e
      exact (agx_rf _)
    · replace e := ite_f h3 e
      by_cases h4 : ((mI mm 15 (ix a1)) + a2) ≤ (9 : Int32)
      · replace e := ite_t h4 e
        obtain ⟨hg5, e⟩ := grd_some e
        cases e
        exact (agx_wr (agx_rf _) (by rfl))
      · replace e := ite_f h4 e
        cases e
        exact (agx_rf _)
set_option maxRecDepth 100000 in
theorem fr_X3_payVisit {a1 : Int32} {a2 : Int32} {mm : Mm} {q : Int32 × Mm} (e : m_X3_payVisit a1 a2 mm = some q) : agx [(18, none)] mm q.2 := by
  unfold m_X3_payVisit at e
  by_cases h1 : (m_X7_areTwo a1 a2 mm) = 0
  · replace e := ite_t h1 e
    cases e
    exact (agx_rf _)
  · replace e := ite_f h1 e
    obtain ⟨hg2, e⟩ := grd_some e
    by_cases h3 : (mI mm 18 (ix ((a1 * (6 : Int32)) + a2))) < (9 : Int32)
    · replace e := ite_t h3 e
      obtain ⟨hg4, e⟩ := grd_some e
      obtain ⟨hg5, e⟩ := grd_some e
      cases e
      exact (agx_wr (agx_rf _) (by rfl))
    · replace e := ite_f h3 e
      cases e
      exact (agx_rf _)
set_option maxRecDepth 100000 in
theorem fr_X3_changeLiking {a1 : Int32} {a2 : Int32} {a3 : Int32} {mm : Mm} {q : Int32 × Mm} (e : m_X3_changeLiking a1 a2 a3 mm = some q) : agx [(17, none)] mm q.2 := by
  unfold m_X3_changeLiking at e
  by_cases h1 : (m_X7_areTwo a1 a2 mm) = 0
  · replace e := ite_t h1 e
    cases e
    exact (agx_rf _)
  · replace e := ite_f h1 e
    obtain ⟨hg2, e⟩ := grd_some e
    by_cases h3 : (m_X11_has (mI mm 17 (ix a2)) a1) = a3
    · replace e := ite_t h3 e
      cases e
      exact (agx_rf _)
    · replace e := ite_f h3 e
      obtain ⟨hg4, e⟩ := grd_some e
      obtain ⟨hg5, e⟩ := grd_some e
      cases e
      exact (agx_wr (agx_rf _) (by rfl))
set_option maxRecDepth 100000 in
theorem fr_X3_takeOath {a1 : Int32} {a2 : Int32} {a3 : Int32} {mm : Mm} {q : Int32 × Mm} (e : m_X3_takeOath a1 a2 a3 mm = some q) : agx [(13, some 8), (14, some 1), (20, none), (21, none), (22, none)] mm q.2 := by
  unfold m_X3_takeOath at e
  by_cases h1 : (m_X7_areTwo a1 a2 mm) = 0
  · replace e := ite_t h1 e
    cases e
    exact (agx_rf _)
  · replace e := ite_f h1 e
    by_cases h2 : (m_X11_has (mI mm 13 4) a1) = 0
    · replace e := ite_t h2 e
      by_cases h3 : (12 : Int32) ≤ (mI mm 14 1)
      · replace e := ite_t h3 e
        cases e
        exact (agx_rf _)
      · replace e := ite_f h3 e
        obtain ⟨q4, eq5, e⟩ := obind e
        by_cases h6 : q4 = 0
        · replace e := ite_t h6 e
          obtain ⟨hg7, e⟩ := grd_some e
          obtain ⟨hg8, e⟩ := grd_some e
          obtain ⟨hg9, e⟩ := grd_some e
          cases e
          exact (agx_wr (agx_wr (agx_wr (agx_wr (agx_wr (agx_rf _) (by rfl)) (by rfl)) (by rfl)) (by rfl)) (by rfl))
        · replace e := ite_f h6 e
          cases e
          exact (agx_rf _)
    · replace e := ite_f h2 e
      cases e
      exact (agx_rf _)
set_option maxRecDepth 100000 in
theorem fr_X3_perform {a1 : Int32} {a2 : Int32} {a3 : Int32} {a4 : Int32} {a5 : Int32} {mm : Mm} {q : Int32 × Mm} (e : m_X3_perform a1 a2 a3 a4 a5 mm = some q) : agx [(13, some 1), (13, some 2), (13, some 3), (13, some 4), (13, some 5), (13, some 6), (13, some 7), (13, some 8), (14, some 1), (15, none), (17, none), (18, none), (20, none), (21, none), (22, none)] mm q.2 := by
  unfold m_X3_perform at e
  by_cases h1 : a2 = (0 : Int32)
  · replace e := ite_t h1 e
    obtain ⟨q2, eq3, e⟩ := obind e
    cases e
    exact (agx_tr (agx_rf _) (agx_mono (by rfl) (fr_X3_holdMonday eq3 :)))
  replace e := ite_f h1 e
  by_cases h4 : a2 = (1 : Int32)
  · replace e := ite_t h4 e
    obtain ⟨q5, eq6, e⟩ := obind e
    obtain ⟨hbz, e⟩ := gbz_some e
    cases e
    exact (agx_tr (agx_rf _) (agx_mono (by rfl) (fr_X3_changeWill eq6 :)))
  replace e := ite_f h4 e
  by_cases h7 : a2 = (2 : Int32)
  · replace e := ite_t h7 e
    obtain ⟨q8, eq9, e⟩ := obind e
    obtain ⟨hbz, e⟩ := gbz_some e
    cases e
    exact (agx_tr (agx_rf _) (agx_mono (by rfl) (fr_X3_changeWill eq9 :)))
  replace e := ite_f h7 e
  by_cases h10 : a2 = (3 : Int32)
  · replace e := ite_t h10 e
    obtain ⟨q11, eq12, e⟩ := obind e
    obtain ⟨hbz, e⟩ := gbz_some e
    cases e
    exact (agx_tr (agx_rf _) (agx_mono (by rfl) (fr_X3_payVisit eq12 :)))
  replace e := ite_f h10 e
  by_cases h13 : a2 = (4 : Int32)
  · replace e := ite_t h13 e
    obtain ⟨q14, eq15, e⟩ := obind e
    obtain ⟨hbz, e⟩ := gbz_some e
    cases e
    exact (agx_tr (agx_rf _) (agx_mono (by rfl) (fr_X3_changeLiking eq15 :)))
  replace e := ite_f h13 e
  by_cases h16 : a2 = (5 : Int32)
  · replace e := ite_t h16 e
    obtain ⟨q17, eq18, e⟩ := obind e
    obtain ⟨hbz, e⟩ := gbz_some e
    cases e
    exact (agx_tr (agx_rf _) (agx_mono (by rfl) (fr_X3_changeLiking eq18 :)))
  replace e := ite_f h16 e
  by_cases h19 : a2 = (6 : Int32)
  · replace e := ite_t h19 e
    obtain ⟨q20, eq21, e⟩ := obind e
    obtain ⟨hbz, e⟩ := gbz_some e
    cases e
    exact (agx_tr (agx_rf _) (agx_mono (by rfl) (fr_X3_takeOath eq21 :)))
  replace e := ite_f h19 e
  cases e
  exact (agx_rf _)
set_option maxRecDepth 100000 in
theorem fr_X3_draw {a1 : Int32} {mm : Mm} {q : Int32 × Mm} (e : m_X3_draw a1 mm = some q) : agx [(13, some 9)] mm q.2 := by
  unfold m_X3_draw at e
  by_cases h1 : a1 ≤ 0
  · replace e := ite_t h1 e
    cases e
    exact (agx_wr (agx_rf _) (by rfl))
  · replace e := ite_f h1 e
    obtain ⟨hz2, e⟩ := gdz_some e
    cases e
    exact (agx_wr (agx_rf _) (by rfl))
set_option maxRecDepth 100000 in
theorem fr_X3_performDrawn {a1 : Int32} {mm : Mm} {q : Mm} (e : m_X3_performDrawn a1 mm = some q) : agx [(13, some 1), (13, some 2), (13, some 3), (13, some 4), (13, some 5), (13, some 6), (13, some 7), (13, some 8), (13, some 9), (14, some 1), (15, none), (17, none), (18, none), (20, none), (21, none), (22, none)] mm q := by
  unfold m_X3_performDrawn at e
  obtain ⟨q1, eq2, e⟩ := obind e
  by_cases h3 : q1.1 = (9 : Int32)
  · replace e := ite_t h3 e
    obtain ⟨q4, eq5, e⟩ := obind e
    cases e
    exact (agx_tr (agx_tr (agx_rf _) (agx_mono (by rfl) (fr_X3_draw eq2 :))) (agx_mono (by rfl) (fr_X3_holdMonday eq5 :)))
  · replace e := ite_f h3 e
    obtain ⟨x7, ep8, elx7, erx7⟩ := bS_some e
    have cx7 : ((∀ pz9, x7 = .inl pz9 → True) ∧ (∀ tz10, x7 = .inr tz10 → agx [(13, some 1), (13, some 2), (13, some 3), (13, some 4), (13, some 5), (13, some 6), (13, some 7), (13, some 8), (13, some 9), (14, some 1), (15, none), (17, none), (18, none), (20, none), (21, none), (22, none)] mm tz10)) := by
      clear elx7 erx7
      by_cases h11 : q1.1 = (8 : Int32)
      · replace ep8 := ite_t h11 ep8
        by_cases h12 : (mI mm 14 0) ≤ 0
        · replace ep8 := ite_t h12 ep8
          cases ep8
          exact ⟨fun pz hz => (by have h9 := Sum.inl.inj hz; subst h9; exact trivial), fun tz hz => (by cases hz)⟩
        · replace ep8 := ite_f h12 ep8
          obtain ⟨q13, eq14, ep8⟩ := obind ep8
          obtain ⟨q15, eq16, ep8⟩ := obind ep8
          obtain ⟨q18, eq19, ep8⟩ := obind ep8
          cases ep8
          exact ⟨fun pz hz => (by cases hz), fun tz hz => (by have h9 := Sum.inr.inj hz; subst h9; exact (agx_tr (agx_tr (agx_tr (agx_tr (agx_rf _) (agx_mono (by rfl) (fr_X3_draw eq2 :))) (agx_mono (by rfl) (fr_X3_draw eq14 :))) (agx_mono (by rfl) (fr_X3_draw eq16 :))) (agx_mono (by rfl) (fr_X3_perform eq19 :))))⟩
      · replace ep8 := ite_f h11 ep8
        cases ep8
        exact ⟨fun pz hz => (by have h9 := Sum.inl.inj hz; subst h9; exact trivial), fun tz hz => (by cases hz)⟩
    cases x7 with
    | inl p6 =>
      replace e := elx7 _ rfl
      by_cases h20 : (8 : Int32) ≤ q1.1
      · replace e := ite_t h20 e
        cases e
        exact (agx_tr (agx_rf _) (agx_mono (by rfl) (fr_X3_draw eq2 :)))
      · replace e := ite_f h20 e
        by_cases h21 : (mI mm 14 0) ≤ (1 : Int32)
        · replace e := ite_t h21 e
          cases e
          exact (agx_tr (agx_rf _) (agx_mono (by rfl) (fr_X3_draw eq2 :)))
        · replace e := ite_f h21 e
          obtain ⟨q22, eq23, e⟩ := obind e
          obtain ⟨q24, eq25, e⟩ := obind e
          obtain ⟨hz26, e⟩ := gdz_some e
          obtain ⟨p27, ep29, e⟩ := obind e
          have fp27 : agx [(13, some 1), (13, some 2), (13, some 3), (13, some 4), (13, some 5), (13, some 6), (13, some 7), (13, some 8), (13, some 9), (14, some 1), (15, none), (17, none), (18, none), (20, none), (21, none), (22, none)] mm p27.2 := by
            clear e
            by_cases h30 : (4 : Int32) ≤ q1.1
            · replace ep29 := ite_t h30 ep29
              cases ep29
              exact (agx_tr (agx_tr (agx_tr (agx_rf _) (agx_mono (by rfl) (fr_X3_draw eq2 :))) (agx_mono (by rfl) (fr_X3_draw eq23 :))) (agx_mono (by rfl) (fr_X3_draw eq25 :)))
            · replace ep29 := ite_f h30 ep29
              obtain ⟨q31, eq32, ep29⟩ := obind ep29
              cases ep29
              exact (agx_tr (agx_tr (agx_tr (agx_tr (agx_rf _) (agx_mono (by rfl) (fr_X3_draw eq2 :))) (agx_mono (by rfl) (fr_X3_draw eq23 :))) (agx_mono (by rfl) (fr_X3_draw eq25 :))) (agx_mono (by rfl) (fr_X3_draw eq32 :)))
          obtain ⟨q36, eq37, e⟩ := obind e
          cases e
          exact (agx_tr fp27 (agx_mono (by rfl) (fr_X3_perform eq37 :)))
    | inr tz0 =>
      have hz := erx7 _ rfl
      subst hz
      exact cx7.2 _ rfl
set_option maxRecDepth 100000 in
theorem fr_X3_mostVisited {S : Sk} {mm : Mm} {q : Int32 × Mm} (e : m_X3_mostVisited S mm = some q) : agx [(24, none)] mm q.2 := by
  unfold m_X3_mostVisited at e
  obtain ⟨p2, eb4w, e⟩ := obind e
  have fp2 : agx [(24, none)] mm p2 := by
    clear e
    refine while_fr (Inv := fun z1 => agx [(24, none)] mm z1.2) (Post := fun pw => agx [(24, none)] mm pw) eb4w (agx_rf _) ?_
    intro z1 x3y eb4 hz5
    unfold m_X3_mostVisited_b2 at eb4
    by_cases h8 : (6 : Int32) ≤ z1.1
    · replace eb4 := ite_t h8 eb4
      cases eb4
      exact ⟨fun az ha => (by cases ha), fun bz hb => (by have h9 := Sum.inr.inj hb; subst h9; exact hz5)⟩
    · replace eb4 := ite_f h8 eb4
      obtain ⟨q9, eq10, eb4⟩ := obind eb4
      obtain ⟨hg11, eb4⟩ := grd_some eb4
      cases eb4
      exact ⟨fun az ha => (by have h9 := Sum.inl.inj ha; subst h9; exact (agx_wr hz5 (by rfl))), fun bz hb => (by cases hb)⟩
  obtain ⟨q12, eq13, e⟩ := obind e
  cases e
  exact fp2
set_option maxRecDepth 100000 in
theorem fr_X3_tellAfter {a1 : Int32} {S : Sk} {mm : Mm} {q : Int32 × Mm} (e : m_X3_tellAfter S a1 mm = some q) : agx [(24, none)] mm q.2 := by
  unfold m_X3_tellAfter at e
  by_cases h1 : a1 = (0 : Int32)
  · replace e := ite_t h1 e
    cases e
    exact (agx_rf _)
  replace e := ite_f h1 e
  by_cases h2 : a1 = (1 : Int32)
  · replace e := ite_t h2 e
    obtain ⟨q3, eq4, e⟩ := obind e
    cases e
    exact (agx_tr (agx_rf _) (agx_mono (by rfl) (fr_X3_mostVisited eq4 :)))
  replace e := ite_f h2 e
  by_cases h5 : a1 = (2 : Int32)
  · replace e := ite_t h5 e
    cases e
    exact (agx_rf _)
  replace e := ite_f h5 e
  by_cases h6 : a1 = (3 : Int32)
  · replace e := ite_t h6 e
    obtain ⟨q7, eq8, e⟩ := obind e
    cases e
    exact (agx_rf _)
  replace e := ite_f h6 e
  by_cases h9 : a1 = (4 : Int32)
  · replace e := ite_t h9 e
    cases e
    exact (agx_rf _)
  replace e := ite_f h9 e
  cases e
  exact (agx_rf _)
set_option maxRecDepth 100000 in
theorem fr_X4_add {a1 : Int32} {a2 : Int32} {a3 : Int32} {mm : Mm} {q : Mm} (e : m_X4_add a1 a2 a3 mm = some q) : agx [(40, some 0), (41, none), (42, none), (43, none)] mm q := by
  unfold m_X4_add at e
  by_cases h1 : (50 : Int32) ≤ (mI mm 40 0)
  · replace e := ite_t h1 e
    cases e
    exact (agx_rf _)
  · replace e := ite_f h1 e
    obtain ⟨hg2, e⟩ := grd_some e
    obtain ⟨hg3, e⟩ := grd_some e
    obtain ⟨hg4, e⟩ := grd_some e
    cases e
    exact (agx_wr (agx_wr (agx_wr (agx_wr (agx_rf _) (by rfl)) (by rfl)) (by rfl)) (by rfl))
set_option maxRecDepth 100000 in
theorem fr_X4_learn {a2 : Nat} {a3 : Int32} {S : Sk} {mm : Mm} {q : Mm} (e : m_X4_learn S a2 a3 mm = some q) : agx [(15, none), (40, some 0), (41, none), (42, none), (43, none)] mm q := by
  unfold m_X4_learn at e
  obtain ⟨q1, eq2, e⟩ := obind e
  by_cases h3 : q1 = 0
  · replace e := ite_t h3 e
    cases e
    exact (agx_wr (agx_rf _) (by rfl))
  · replace e := ite_f h3 e
    obtain ⟨q4, eq5, e⟩ := obind e
    obtain ⟨q6, eq7, e⟩ := obind e
    obtain ⟨p9, eb11w, e⟩ := obind e
    have fp9 : agx [(15, none), (40, some 0), (41, none), (42, none), (43, none)] mm p9 := by
      clear e
      refine while_fr (Inv := fun z8 => agx [(15, none), (40, some 0), (41, none), (42, none), (43, none)] mm z8.2) (Post := fun pw => agx [(15, none), (40, some 0), (41, none), (42, none), (43, none)] mm pw) eb11w (agx_wr (agx_rf _) (by rfl)) ?_
      intro z8 x10y eb11 hz12
      unfold m_X4_learn_b34 at eb11
      by_cases h15 : (9 : Int32) < z8.1
      · replace eb11 := ite_t h15 eb11
        cases eb11
        exact ⟨fun az ha => (by cases ha), fun bz hb => (by have h9 := Sum.inr.inj hb; subst h9; exact hz12)⟩
      · replace eb11 := ite_f h15 eb11
        obtain ⟨hg16, eb11⟩ := grd_some eb11
        obtain ⟨q17, eq18, eb11⟩ := obind eb11
        obtain ⟨p20, eb22w, eb11⟩ := obind eb11
        have fp20 : agx [(15, none), (40, some 0), (41, none), (42, none), (43, none)] mm p20 := by
          clear eb11
          refine while_fr (Inv := fun z19 => agx [(15, none), (40, some 0), (41, none), (42, none), (43, none)] mm z19.2) (Post := fun pw => agx [(15, none), (40, some 0), (41, none), (42, none), (43, none)] mm pw) eb22w (agx_wr hz12 (by rfl)) ?_
          intro z19 x21y eb22 hz23
          unfold m_X4_learn_b60 at eb22
          by_cases h26 : (4 : Int32) < z19.1
          · replace eb22 := ite_t h26 eb22
            cases eb22
            exact ⟨fun az ha => (by cases ha), fun bz hb => (by have h9 := Sum.inr.inj hb; subst h9; exact hz23)⟩
          · replace eb22 := ite_f h26 eb22
            obtain ⟨q27, eq28, eb22⟩ := obind eb22
            obtain ⟨p29, ep31, eb22⟩ := obind eb22
            have fp29 : agx [(15, none), (40, some 0), (41, none), (42, none), (43, none)] mm p29 := by
              clear eb22
              by_cases h32 : (q4 &&& (q27 ^^^ (-1 : Int32))) = 0
              · replace ep31 := ite_t h32 ep31
                by_cases h33 : (q6 &&& q27) = 0
                · replace ep31 := ite_t h33 ep31
                  obtain ⟨q34, eq35, ep31⟩ := obind ep31
                  cases ep31
                  exact (agx_tr hz23 (agx_mono (by rfl) (fr_X4_add eq35 :)))
                · replace ep31 := ite_f h33 ep31
                  cases ep31
                  exact hz23
              · replace ep31 := ite_f h32 ep31
                cases ep31
                exact hz23
            cases eb22
            exact ⟨fun az ha => (by have h9 := Sum.inl.inj ha; subst h9; exact fp29), fun bz hb => (by cases hb)⟩
        cases eb11
        exact ⟨fun az ha => (by have h9 := Sum.inl.inj ha; subst h9; exact fp20), fun bz hb => (by cases hb)⟩
    cases e
    exact fp9
set_option maxRecDepth 100000 in
theorem fr_X5_takeNumber {S : Sk} {mm : Mm} {q : Mm} (e : m_X5_takeNumber S mm = some q) : agx [(7, some 8), (7, some 10), (7, some 11)] mm q := by
  unfold m_X5_takeNumber at e
  obtain ⟨p2, eb4w, e⟩ := obind e
  have fp2 : agx [(7, some 8), (7, some 10), (7, some 11)] mm p2 := by
    clear e
    refine while_fr (Inv := fun z1 => agx [(7, some 8), (7, some 10), (7, some 11)] mm z1) (Post := fun pw => agx [(7, some 8), (7, some 10), (7, some 11)] mm pw) eb4w (agx_wr (agx_rf _) (by rfl)) ?_
    intro z1 x3y eb4 hz5
    unfold m_X5_takeNumber_b5 at eb4
    by_cases h8 : (mI z1 7 6) ≤ (mI z1 7 10)
    · replace eb4 := ite_t h8 eb4
      cases eb4
      exact ⟨fun az ha => (by cases ha), fun bz hb => (by have h9 := Sum.inr.inj hb; subst h9; exact hz5)⟩
    · replace eb4 := ite_f h8 eb4
      obtain ⟨q9, eq10, eb4⟩ := obind eb4
      by_cases h11 : q9 = 0
      · replace eb4 := ite_t h11 eb4
        cases eb4
        exact ⟨fun az ha => (by cases ha), fun bz hb => (by have h9 := Sum.inr.inj hb; subst h9; exact hz5)⟩
      · replace eb4 := ite_f h11 eb4
        obtain ⟨p12, ep14, eb4⟩ := obind eb4
        cases eb4
        exact ⟨fun az ha => (by have h9 := Sum.inl.inj ha; subst h9; exact (agx_wr (agx_wr hz5 (by rfl)) (by rfl))), fun bz hb => (by cases hb)⟩
  by_cases h15 : ((mI p2 7 10) - (mI p2 7 9)) ≤ (2 : Int32)
  · replace e := ite_t h15 e
    cases e
    exact (agx_wr fp2 (by rfl))
  · replace e := ite_f h15 e
    cases e
    exact (agx_wr fp2 (by rfl))
set_option maxRecDepth 100000 in
theorem fr_X5_nextToken {S : Sk} {mm : Mm} {q : Mm} (e : m_X5_nextToken S mm = some q) : agx [(7, some 8), (7, some 9), (7, some 10), (7, some 11)] mm q := by
  unfold m_X5_nextToken at e
  obtain ⟨p2, eb4w, e⟩ := obind e
  have fp2 : agx [(7, some 8), (7, some 9), (7, some 10), (7, some 11)] mm p2 := by
    clear e
    refine while_fr (Inv := fun z1 => agx [(7, some 8), (7, some 9), (7, some 10), (7, some 11)] mm z1) (Post := fun pw => agx [(7, some 8), (7, some 9), (7, some 10), (7, some 11)] mm pw) eb4w (agx_wr (agx_rf _) (by rfl)) ?_
    intro z1 x3y eb4 hz5
    unfold m_X5_nextToken_b8 at eb4
    by_cases h8 : (mI z1 7 6) ≤ (mI z1 7 9)
    · replace eb4 := ite_t h8 eb4
      cases eb4
      exact ⟨fun az ha => (by cases ha), fun bz hb => (by have h9 := Sum.inr.inj hb; subst h9; exact hz5)⟩
    · replace eb4 := ite_f h8 eb4
      obtain ⟨hr9, eb4⟩ := gR_some eb4
      obtain ⟨hg10, eb4⟩ := grd_some eb4
      obtain ⟨x12, ep13, elx12, erx12⟩ := bS_some eb4
      have cx12 : ((∀ pz14, x12 = .inl pz14 → True) ∧ (∀ tz15, x12 = .inr tz15 → ((∀ az6, tz15 = .inl az6 → agx [(7, some 8), (7, some 9), (7, some 10), (7, some 11)] mm az6) ∧ (∀ bz7, tz15 = .inr bz7 → agx [(7, some 8), (7, some 9), (7, some 10), (7, some 11)] mm bz7)))) := by
        clear elx12 erx12
        by_cases h16 : (mI z1 2 (ix (mI z1 7 9))) = (32 : Int32)
        · replace ep13 := ite_t h16 ep13
          cases ep13
          exact ⟨fun pz hz => (by have h9 := Sum.inl.inj hz; subst h9; exact trivial), fun tz hz => (by cases hz)⟩
        · replace ep13 := ite_f h16 ep13
          obtain ⟨hg17, ep13⟩ := grd_some ep13
          by_cases h18 : (mI z1 2 (ix (mI z1 7 9))) = (10 : Int32)
          · replace ep13 := ite_t h18 ep13
            cases ep13
            exact ⟨fun pz hz => (by have h9 := Sum.inl.inj hz; subst h9; exact trivial), fun tz hz => (by cases hz)⟩
          · replace ep13 := ite_f h18 ep13
            cases ep13
            exact ⟨fun pz hz => (by cases hz), fun tz hz => (by have h9 := Sum.inr.inj hz; subst h9; exact ⟨fun az ha => (by cases ha), fun bz hb => (by have h9 := Sum.inr.inj hb; subst h9; exact hz5)⟩)⟩
      cases x12 with
      | inl p11 =>
        replace eb4 := elx12 _ rfl
        cases eb4
        exact ⟨fun az ha => (by have h9 := Sum.inl.inj ha; subst h9; exact (agx_wr hz5 (by rfl))), fun bz hb => (by cases hb)⟩
      | inr tz0 =>
        have hz := erx12 _ rfl
        subst hz
        exact cx12.2 _ rfl
  by_cases h19 : (mI (sI p2 7 10 (mI p2 7 9)) 7 9) < (mI (sI p2 7 10 (mI p2 7 9)) 7 6)
  · replace e := ite_t h19 e
    obtain ⟨q20, eq21, e⟩ := obind e
    by_cases h22 : q20 = 0
    · replace e := ite_t h22 e
      obtain ⟨q23, eq24, e⟩ := obind e
      by_cases h25 : q23 = 0
      · replace e := ite_t h25 e
        obtain ⟨hr26, e⟩ := gR_some e
        obtain ⟨hg27, e⟩ := grd_some e
        cases e
        exact (agx_wr (agx_wr (agx_wr fp2 (by rfl)) (by rfl)) (by rfl))
      · replace e := ite_f h25 e
        obtain ⟨q29, eq30, e⟩ := obind e
        cases e
        exact (agx_tr (agx_wr fp2 (by rfl)) (agx_mono (by rfl) (fr_X5_takeNumber eq30 :)))
    · replace e := ite_f h22 e
      obtain ⟨p32, eb34w, e⟩ := obind e
      have fp32 : agx [(7, some 8), (7, some 9), (7, some 10), (7, some 11)] mm p32 := by
        clear e
        refine while_fr (Inv := fun z31 => agx [(7, some 8), (7, some 9), (7, some 10), (7, some 11)] mm z31) (Post := fun pw => agx [(7, some 8), (7, some 9), (7, some 10), (7, some 11)] mm pw) eb34w (agx_wr (agx_wr fp2 (by rfl)) (by rfl)) ?_
        intro z31 x33y eb34 hz35
        unfold m_X5_nextToken_b103 at eb34
        by_cases h38 : (mI z31 7 6) ≤ (mI z31 7 10)
        · replace eb34 := ite_t h38 eb34
          cases eb34
          exact ⟨fun az ha => (by cases ha), fun bz hb => (by have h9 := Sum.inr.inj hb; subst h9; exact hz35)⟩
        · replace eb34 := ite_f h38 eb34
          obtain ⟨q39, eq40, eb34⟩ := obind eb34
          by_cases h41 : q39 = 0
          · replace eb34 := ite_t h41 eb34
            cases eb34
            exact ⟨fun az ha => (by cases ha), fun bz hb => (by have h9 := Sum.inr.inj hb; subst h9; exact hz35)⟩
          · replace eb34 := ite_f h41 eb34
            cases eb34
            exact ⟨fun az ha => (by have h9 := Sum.inl.inj ha; subst h9; exact (agx_wr hz35 (by rfl))), fun bz hb => (by cases hb)⟩
      cases e
      exact fp32
  · replace e := ite_f h19 e
    cases e
    exact (agx_wr (agx_wr fp2 (by rfl)) (by rfl))
set_option maxRecDepth 100000 in
theorem fr_X5_giveUp {mm : Mm} : agx [(7, some 1), (7, some 2)] mm (m_X5_giveUp mm) := by
  generalize e : m_X5_giveUp mm = q
  unfold m_X5_giveUp at e
  cases e
  exact (agx_wr (agx_wr (agx_rf _) (by rfl)) (by rfl))
set_option maxRecDepth 100000 in
theorem fr_X5_note {a1 : Int32} {a2 : Int32} {mm : Mm} : agx [(7, some 1), (7, some 2)] mm (m_X5_note a1 a2 mm) := by
  generalize e : m_X5_note a1 a2 mm = q
  unfold m_X5_note at e
  by_cases h1 : (mI mm 7 1) = 0
  · replace e := ite_t h1 e
    cases e
    exact (agx_wr (agx_wr (agx_rf _) (by rfl)) (by rfl))
  · replace e := ite_f h1 e
    cases e
    exact (agx_rf _)
set_option maxRecDepth 100000 in
theorem fr_X5_readNumber {a1 : Nat} {a2 : Int32} {S : Sk} {mm : Mm} {q : Mm} (e : m_X5_readNumber S a1 a2 mm = some q) : agx [(7, some 1), (7, some 2), (7, some 8), (7, some 9), (7, some 10), (7, some 11), (11, none)] mm q := by
  unfold m_X5_readNumber at e
  by_cases h1 : (mI mm 7 1) = (1 : Int32)
  · replace e := ite_t h1 e
    cases e
    exact (agx_rf _)
  · replace e := ite_f h1 e
    by_cases h2 : (mI mm 7 8) = (2 : Int32)
    · replace e := ite_t h2 e
      obtain ⟨p3, ep5, e⟩ := obind e
      obtain ⟨p6, ep8, e⟩ := obind e
      have fp6 : agx [(7, some 1), (7, some 2), (7, some 8), (7, some 9), (7, some 10), (7, some 11), (11, none)] mm p6 := by
        clear e
        by_cases h9 : p3 = 0
        · replace ep8 := ite_t h9 ep8
          obtain ⟨q10, eq11, ep8⟩ := obind ep8
          by_cases h12 : (mI mm 7 11) ≤ (m_X5_mostOf q10)
          · replace ep8 := ite_t h12 ep8
            cases ep8
            exact (agx_rf _)
          · replace ep8 := ite_f h12 ep8
            cases ep8
            exact (agx_tr (agx_rf _) (agx_mono (by rfl) fr_X5_note))
        · replace ep8 := ite_f h9 ep8
          cases ep8
          exact (agx_tr (agx_rf _) (agx_mono (by rfl) fr_X5_note))
      obtain ⟨hg13, e⟩ := grd_some e
      obtain ⟨q14, eq15, e⟩ := obind e
      cases e
      exact (agx_tr (agx_wr fp6 (by rfl)) (agx_mono (by rfl) (fr_X5_nextToken eq15 :)))
    · replace e := ite_f h2 e
      cases e
      exact (agx_tr (agx_rf _) (agx_mono (by rfl) fr_X5_giveUp))
set_option maxRecDepth 100000 in
theorem fr_X6_add {a1 : Int32} {a2 : Int32} {a3 : Int32} {a4 : Int32} {mm : Mm} {q : Mm} (e : m_X6_add a1 a2 a3 a4 mm = some q) : agx [(8, some 1), (9, none)] mm q := by
  unfold m_X6_add at e
  by_cases h1 : (((mI mm 8 1) * (4 : Int32)) + (4 : Int32)) ≤ (400 : Int32)
  · replace e := ite_t h1 e
    obtain ⟨hg2, e⟩ := grd_some e
    obtain ⟨hg3, e⟩ := grd_some e
    obtain ⟨hg4, e⟩ := grd_some e
    obtain ⟨hg5, e⟩ := grd_some e
    cases e
    exact (agx_wr (agx_wr (agx_wr (agx_wr (agx_wr (agx_rf _) (by rfl)) (by rfl)) (by rfl)) (by rfl)) (by rfl))
  · replace e := ite_f h1 e
    cases e
    exact (agx_rf _)
set_option maxRecDepth 100000 in
theorem fr_X5_readLine {S : Sk} {mm : Mm} {q : Mm} (e : m_X5_readLine S mm = some q) : agx [(7, some 1), (7, some 2), (7, some 8), (7, some 9), (7, some 10), (7, some 11), (8, some 1), (9, none), (10, none), (11, none)] mm q := by
  unfold m_X5_readLine at e
  obtain ⟨q1, eq2, e⟩ := obind e
  by_cases h3 : q1 = (-1 : Int32)
  · replace e := ite_t h3 e
    cases e
    exact (agx_tr (agx_rf _) (agx_mono (by rfl) fr_X5_giveUp))
  · replace e := ite_f h3 e
    obtain ⟨q4, eq5, e⟩ := obind e
    obtain ⟨q7, eq8, e⟩ := obind e
    obtain ⟨q9, eq10, e⟩ := obind e
    obtain ⟨p12, eb14w, e⟩ := obind e
    have fp12 : agx [(7, some 1), (7, some 2), (7, some 8), (7, some 9), (7, some 10), (7, some 11), (8, some 1), (9, none), (10, none), (11, none)] mm p12 := by
      clear e
      refine while_fr (Inv := fun z11 => agx [(7, some 1), (7, some 2), (7, some 8), (7, some 9), (7, some 10), (7, some 11), (8, some 1), (9, none), (10, none), (11, none)] mm z11.2) (Post := fun pw => agx [(7, some 1), (7, some 2), (7, some 8), (7, some 9), (7, some 10), (7, some 11), (8, some 1), (9, none), (10, none), (11, none)] mm pw) eb14w (agx_tr (agx_ite (agx_rf _) (agx_tr (agx_rf _) (agx_mono (by rfl) fr_X5_note))) (agx_mono (by rfl) (fr_X5_nextToken eq8 :))) ?_
      intro z11 x13y eb14 hz15
      unfold m_X5_readLine_b47 at eb14
      by_cases h18 : (3 : Int32) ≤ z11.1
      · replace eb14 := ite_t h18 eb14
        cases eb14
        exact ⟨fun az ha => (by cases ha), fun bz hb => (by have h9 := Sum.inr.inj hb; subst h9; exact hz15)⟩
      · replace eb14 := ite_f h18 eb14
        obtain ⟨hg19, eb14⟩ := grd_some eb14
        obtain ⟨q20, eq21, eb14⟩ := obind eb14
        obtain ⟨p22, ep24, eb14⟩ := obind eb14
        have fp22 : agx [(7, some 1), (7, some 2), (7, some 8), (7, some 9), (7, some 10), (7, some 11), (8, some 1), (9, none), (10, none), (11, none)] mm p22 := by
          clear eb14
          by_cases h25 : q20 ≤ z11.1
          · replace ep24 := ite_t h25 ep24
            cases ep24
            exact (agx_wr hz15 (by rfl))
          · replace ep24 := ite_f h25 ep24
            obtain ⟨q26, eq27, ep24⟩ := obind ep24
            cases ep24
            exact (agx_tr (agx_wr hz15 (by rfl)) (agx_mono (by rfl) (fr_X5_readNumber eq27 :)))
        cases eb14
        exact ⟨fun az ha => (by have h9 := Sum.inl.inj ha; subst h9; exact fp22), fun bz hb => (by cases hb)⟩
    by_cases h28 : (mI p12 7 1) = (1 : Int32)
    · replace e := ite_t h28 e
      cases e
      exact fp12
    · replace e := ite_f h28 e
      by_cases h29 : (mI p12 7 8) = (3 : Int32)
      · replace e := ite_t h29 e
        obtain ⟨q30, eq31, e⟩ := obind e
        obtain ⟨q32, eq33, e⟩ := obind e
        obtain ⟨hg34, e⟩ := grd_some e
        obtain ⟨hg35, e⟩ := grd_some e
        cases e
        exact (agx_wr (agx_tr (agx_tr fp12 (agx_mono (by rfl) (fr_X5_nextToken eq31 :))) (agx_mono (by rfl) (fr_X6_add eq33 :))) (by rfl))
      · replace e := ite_f h29 e
        cases e
        exact (agx_tr fp12 (agx_mono (by rfl) fr_X5_giveUp))
set_option maxRecDepth 100000 in
theorem fr_X8_countKept {a2 : Int32} {S : Sk} {mm : Mm} {q : Int32 × Mm} (e : m_X8_countKept S a2 mm = some q) : agx [(36, none)] mm q.2 := by
  unfold m_X8_countKept at e
  obtain ⟨p2, eb4w, e⟩ := obind e
  have fp2 : agx [(36, none)] mm p2 := by
    clear e
    refine while_fr (Inv := fun z1 => agx [(36, none)] mm z1.2) (Post := fun pw => agx [(36, none)] mm pw) eb4w (agx_rf _) ?_
    intro z1 x3y eb4 hz5
    unfold m_X8_countKept_b2 at eb4
    by_cases h8 : (6 : Int32) ≤ z1.1
    · replace eb4 := ite_t h8 eb4
      cases eb4
      exact ⟨fun az ha => (by cases ha), fun bz hb => (by have h9 := Sum.inr.inj hb; subst h9; exact hz5)⟩
    · replace eb4 := ite_f h8 eb4
      obtain ⟨hg9, eb4⟩ := grd_some eb4
      cases eb4
      exact ⟨fun az ha => (by have h9 := Sum.inl.inj ha; subst h9; exact (agx_wr hz5 (by rfl))), fun bz hb => (by cases hb)⟩
  obtain ⟨p11, eb13w, e⟩ := obind e
  have fp11 : agx [(36, none)] mm p11 := by
    clear e
    refine while_fr (Inv := fun z10 => agx [(36, none)] mm z10.2) (Post := fun pw => agx [(36, none)] mm pw) eb13w fp2 ?_
    intro z10 x12y eb13 hz14
    unfold m_X8_countKept_b23 at eb13
    by_cases h17 : (mI z10.2 34 2) ≤ z10.1
    · replace eb13 := ite_t h17 eb13
      cases eb13
      exact ⟨fun az ha => (by cases ha), fun bz hb => (by have h9 := Sum.inr.inj hb; subst h9; exact hz14)⟩
    · replace eb13 := ite_f h17 eb13
      obtain ⟨p18, ep20, eb13⟩ := obind eb13
      have fp18 : agx [(36, none)] mm p18 := by
        clear eb13
        by_cases h21 : (m_X11_has a2 z10.1) = 0
        · replace ep20 := ite_t h21 ep20
          cases ep20
          exact hz14
        · replace ep20 := ite_f h21 ep20
          obtain ⟨q22, eq23, ep20⟩ := obind ep20
          obtain ⟨hg24, ep20⟩ := grd_some ep20
          obtain ⟨q25, eq26, ep20⟩ := obind ep20
          obtain ⟨hg27, ep20⟩ := grd_some ep20
          cases ep20
          exact (agx_wr hz14 (by rfl))
      cases eb13
      exact ⟨fun az ha => (by have h9 := Sum.inl.inj ha; subst h9; exact fp18), fun bz hb => (by cases hb)⟩
  obtain ⟨p29, eb31w, e⟩ := obind e
  cases e
  exact fp11
set_option maxRecDepth 100000 in
theorem fr_X9_append {a1 : Int32} {mm : Mm} {q : Mm} (e : m_X9_append a1 mm = some q) : agx [(1, some 1), (2, none)] mm q := by
  unfold m_X9_append at e
  obtain ⟨p2, eb4w, e⟩ := obind e
  have fp2 : agx [(1, some 1), (2, none)] mm p2 := by
    clear e
    refine while_fr (Inv := fun z1 => agx [(1, some 1), (2, none)] mm z1.2) (Post := fun pw => agx [(1, some 1), (2, none)] mm pw) eb4w (agx_rf _) ?_
    intro z1 x3y eb4 hz5
    unfold m_X9_append_b3 at eb4
    by_cases h8 : z1.1 < 0
    · replace eb4 := ite_t h8 eb4
      cases eb4
      exact ⟨fun az ha => (by cases ha), fun bz hb => (by have h9 := Sum.inr.inj hb; subst h9; exact hz5)⟩
    · replace eb4 := ite_f h8 eb4
      obtain ⟨p9, ep11, eb4⟩ := obind eb4
      have fp9 : agx [(1, some 1), (2, none)] mm p9 := by
        clear eb4
        by_cases h12 : (600 : Int32) ≤ (mI z1.2 1 1)
        · replace ep11 := ite_t h12 ep11
          cases ep11
          exact hz5
        · replace ep11 := ite_f h12 ep11
          obtain ⟨hg13, ep11⟩ := grd_some ep11
          cases ep11
          exact (agx_wr (agx_wr hz5 (by rfl)) (by rfl))
      cases eb4
      exact ⟨fun az ha => (by have h9 := Sum.inl.inj ha; subst h9; exact fp9), fun bz hb => (by cases hb)⟩
  cases e
  exact fp2
set_option maxRecDepth 100000 in
theorem fr_X10_weigh {a1 : Int32} {a2 : Int32} {a3 : Int32} {mm : Mm} {q : Mm} (e : m_X10_weigh a1 a2 a3 mm = some q) : agx [(38, some 2), (38, some 3), (39, none)] mm q := by
  unfold m_X10_weigh at e
  obtain ⟨p2, eb4w, e⟩ := obind e
  have fp2 : agx [(38, some 2), (38, some 3), (39, none)] mm p2 := by
    clear e
    refine while_fr (Inv := fun z1 => agx [(38, some 2), (38, some 3), (39, none)] mm z1.2) (Post := fun pw => agx [(38, some 2), (38, some 3), (39, none)] mm pw) eb4w (agx_rf _) ?_
    intro z1 x3y eb4 hz5
    unfold m_X10_weigh_b3 at eb4
    by_cases h8 : (7 : Int32) ≤ z1.1
    · replace eb4 := ite_t h8 eb4
      cases eb4
      exact ⟨fun az ha => (by cases ha), fun bz hb => (by have h9 := Sum.inr.inj hb; subst h9; exact hz5)⟩
    · replace eb4 := ite_f h8 eb4
      obtain ⟨hg9, eb4⟩ := grd_some eb4
      cases eb4
      exact ⟨fun az ha => (by have h9 := Sum.inl.inj ha; subst h9; exact (agx_wr hz5 (by rfl))), fun bz hb => (by cases hb)⟩
  obtain ⟨p11, eb13w, e⟩ := obind e
  have fp11 : agx [(38, some 2), (38, some 3), (39, none)] mm p11.2 := by
    clear e
    refine while_fr (Inv := fun z10 => agx [(38, some 2), (38, some 3), (39, none)] mm z10.2.2) (Post := fun pw => agx [(38, some 2), (38, some 3), (39, none)] mm pw.2) eb13w (agx_wr fp2 (by rfl)) ?_
    intro z10 x12y eb13 hz14
    unfold m_X10_weigh_b40 at eb13
    by_cases h17 : a3 ≤ z10.2.1
    · replace eb13 := ite_t h17 eb13
      cases eb13
      exact ⟨fun az ha => (by cases ha), fun bz hb => (by have h9 := Sum.inr.inj hb; subst h9; exact hz14)⟩
    · replace eb13 := ite_f h17 eb13
      obtain ⟨p19, eb21w, eb13⟩ := obind eb13
      have fp19 : agx [(38, some 2), (38, some 3), (39, none)] mm p19 := by
        clear eb13
        refine while_fr (Inv := fun z18 => agx [(38, some 2), (38, some 3), (39, none)] mm z18.2) (Post := fun pw => agx [(38, some 2), (38, some 3), (39, none)] mm pw) eb21w hz14 ?_
        intro z18 x20y eb21 hz22
        unfold m_X10_weigh_b55 at eb21
        by_cases h25 : z18.1 ≤ 0
        · replace eb21 := ite_t h25 eb21
          cases eb21
          exact ⟨fun az ha => (by cases ha), fun bz hb => (by have h9 := Sum.inr.inj hb; subst h9; exact hz22)⟩
        · replace eb21 := ite_f h25 eb21
          obtain ⟨hg26, eb21⟩ := grd_some eb21
          obtain ⟨hg27, eb21⟩ := grd_some eb21
          obtain ⟨hg28, eb21⟩ := grd_some eb21
          cases eb21
          exact ⟨fun az ha => (by have h9 := Sum.inl.inj ha; subst h9; exact (agx_wr hz22 (by rfl))), fun bz hb => (by cases hb)⟩
      cases eb13
      exact ⟨fun az ha => (by have h9 := Sum.inl.inj ha; subst h9; exact (agx_wr fp19 (by rfl))), fun bz hb => (by cases hb)⟩
  obtain ⟨p30, eb32w, e⟩ := obind e
  obtain ⟨q36, eq37, e⟩ := obind e
  obtain ⟨hz38, e⟩ := gdz_some e
  obtain ⟨hz39, e⟩ := gdz_some e
  cases e
  exact (agx_wr (agx_wr fp11 (by rfl)) (by rfl))
set_option maxRecDepth 100000 in
theorem fr_X11_feed {a1 : Int32} {a2 : Int32} {a3 : Int32} {a4 : Int32} {a5 : Int32} {mm : Mm} {q : Int32 × Mm} (e : m_X11_feed a1 a2 a3 a4 a5 mm = some q) : agx [(1, some 1), (2, none)] mm q.2 := by
  unfold m_X11_feed at e
  by_cases h1 : ((mI mm 1 1) + (20 : Int32)) ≤ (600 : Int32)
  · replace e := ite_t h1 e
    obtain ⟨q2, eq3, e⟩ := obind e
    obtain ⟨q4, eq5, e⟩ := obind e
    obtain ⟨q6, eq7, e⟩ := obind e
    obtain ⟨q8, eq9, e⟩ := obind e
    obtain ⟨q10, eq11, e⟩ := obind e
    cases e
    exact (agx_tr (agx_tr (agx_tr (agx_tr (agx_tr (agx_rf _) (agx_mono (by rfl) (fr_X9_append eq3 :))) (agx_mono (by rfl) (fr_X9_append eq5 :))) (agx_mono (by rfl) (fr_X9_append eq7 :))) (agx_mono (by rfl) (fr_X9_append eq9 :))) (agx_mono (by rfl) (fr_X9_append eq11 :)))
  · replace e := ite_f h1 e
    cases e
    exact (agx_rf _)
set_option maxRecDepth 100000 in
theorem fr_X11_end {a1 : Int32} {mm : Mm} : agx [(1, some 1)] mm ((m_X11_end a1 mm).2) := by
  generalize e : m_X11_end a1 mm = q
  unfold m_X11_end at e
  by_cases h1 : a1 < 0
  · replace e := ite_t h1 e
    cases e
    exact (agx_rf _)
  · replace e := ite_f h1 e
    by_cases h2 : a1 ≤ (mI mm 1 1)
    · replace e := ite_t h2 e
      cases e
      exact (agx_wr (agx_rf _) (by rfl))
    · replace e := ite_f h2 e
      cases e
      exact (agx_rf _)
