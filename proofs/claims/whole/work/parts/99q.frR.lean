/-! L3: frames of the reference's reader -/
theorem fr_X12_takeBut {a1 a2 a3 a4 : Int32} {mm : Mm} {q : Int32 × Mm} (e : m_X12_takeBut a1 a2 a3 a4 mm = some q) : agx [(44, some 10), (44, some 12), (44, some 13), (44, some 14), (44, some 15), (44, some 16), (44, some 17), (44, some 18), (44, some 22), (55, none)] mm q.2 := by
  unfold m_X12_takeBut at e
  by_cases h1 : (mI mm 44 13) = 3
  · replace e := ite_t h1 e
    obtain ⟨hg, e⟩ := grd_some e
    obtain ⟨p3, e3, e⟩ := obind e
    obtain ⟨q13, e13, e⟩ := obind e
    cases e
    refine agx_tr ?_ (agx_mono (by rfl) (fr_X12_token e13))
    by_cases h2 : (m_X12_in (mI (sI mm 55 (ix a1) (mI mm 44 14)) 44 14) a2 a3) = 0
    · replace e3 := ite_t h2 e3
      obtain ⟨q8, e8, e3⟩ := obind e3
      cases e3
      exact agx_wr (agx_tr (agx_wr (agx_rf _) (by rfl)) (agx_mono (by rfl) (fr_X12_addsFault e8))) (by rfl)
    · replace e3 := ite_f h2 e3
      by_cases h3 : (mI (sI mm 55 (ix a1) (mI mm 44 14)) 44 14) = a4
      · replace e3 := ite_t h3 e3
        obtain ⟨q8, e8, e3⟩ := obind e3
        cases e3
        exact agx_wr (agx_tr (agx_wr (agx_rf _) (by rfl)) (agx_mono (by rfl) (fr_X12_addsFault e8))) (by rfl)
      · replace e3 := ite_f h3 e3
        cases e3
        exact agx_wr (agx_rf _) (by rfl)
  · replace e := ite_f h1 e
    obtain ⟨hb, e⟩ := gbz_some e
    cases e
    exact agx_mono (by rfl) fr_X12_fails
set_option maxRecDepth 100000 in
theorem fr_X12_take {a1 : Int32} {a2 : Int32} {a3 : Int32} {mm : Mm} {q : Int32 × Mm} (e : m_X12_take a1 a2 a3 mm = some q) : agx [(44, some 10), (44, some 12), (44, some 13), (44, some 14), (44, some 15), (44, some 16), (44, some 17), (44, some 18), (44, some 22), (55, none)] mm q.2 := by
  unfold m_X12_take at e
  obtain ⟨q1, eq2, e⟩ := obind e
  obtain ⟨hbz, e⟩ := gbz_some e
  cases e
  exact (agx_tr (agx_rf _) (agx_mono (by rfl) (fr_X12_takeBut eq2 :)))
set_option maxRecDepth 100000 in
theorem fr_X12_takeTwo {a1 : Int32} {a2 : Int32} {mm : Mm} {q : Int32 × Mm} (e : m_X12_takeTwo a1 a2 mm = some q) : agx [(44, some 10), (44, some 12), (44, some 13), (44, some 14), (44, some 15), (44, some 16), (44, some 17), (44, some 18), (44, some 22), (55, none)] mm q.2 := by
  unfold m_X12_takeTwo at e
  obtain ⟨q1, eq2, e⟩ := obind e
  by_cases h3 : q1.1 = 0
  · replace e := ite_t h3 e
    cases e
    exact (agx_tr (agx_rf _) (agx_mono (by rfl) (fr_X12_take eq2 :)))
  · replace e := ite_f h3 e
    obtain ⟨hg4, e⟩ := grd_some e
    obtain ⟨q5, eq6, e⟩ := obind e
    by_cases h7 : q5.1 = 0
    · replace e := ite_t h7 e
      cases e
      exact (agx_tr (agx_tr (agx_rf _) (agx_mono (by rfl) (fr_X12_take eq2 :))) (agx_mono (by rfl) (fr_X12_takeBut eq6 :)))
    · replace e := ite_f h7 e
      cases e
      exact (agx_tr (agx_tr (agx_rf _) (agx_mono (by rfl) (fr_X12_take eq2 :))) (agx_mono (by rfl) (fr_X12_takeBut eq6 :)))
set_option maxRecDepth 100000 in
theorem fr_X12_folkLine {a1 : Int32} {mm : Mm} {q : Int32 × Mm} (e : m_X12_folkLine a1 mm = some q) : agx [(44, some 10), (44, some 12), (44, some 13), (44, some 14), (44, some 15), (44, some 16), (44, some 17), (44, some 18), (44, some 22), (54, none), (55, none)] mm q.2 := by
  unfold m_X12_folkLine at e
  obtain ⟨q1, eq2, e⟩ := obind e
  obtain ⟨q3, eq4, e⟩ := obind e
  obtain ⟨q5, eq6, e⟩ := obind e
  by_cases h7 : q5.1 = 0
  · replace e := ite_t h7 e
    cases e
    exact (agx_tr (agx_tr (agx_tr (agx_rf _) (agx_mono (by rfl) (fr_X12_full eq2 :))) (agx_mono (by rfl) (fr_X12_token eq4 :))) (agx_mono (by rfl) (fr_X12_take eq6 :)))
  · replace e := ite_f h7 e
    obtain ⟨q8, eq9, e⟩ := obind e
    by_cases h10 : q8.1 = 0
    · replace e := ite_t h10 e
      cases e
      exact (agx_tr (agx_tr (agx_tr (agx_tr (agx_rf _) (agx_mono (by rfl) (fr_X12_full eq2 :))) (agx_mono (by rfl) (fr_X12_token eq4 :))) (agx_mono (by rfl) (fr_X12_take eq6 :))) (agx_mono (by rfl) (fr_X12_take eq9 :)))
    · replace e := ite_f h10 e
      obtain ⟨p11, ep13, e⟩ := obind e
      have fp11 : agx [(44, some 10), (44, some 12), (44, some 13), (44, some 14), (44, some 15), (44, some 16), (44, some 17), (44, some 18), (44, some 22), (54, none), (55, none)] mm p11 := by
        clear e
        by_cases h14 : (6 : Int32) ≤ (mI q8.2 54 (ix (0 : Int32)))
        · replace ep13 := ite_t h14 ep13
          cases ep13
          exact (agx_tr (agx_tr (agx_tr (agx_tr (agx_rf _) (agx_mono (by rfl) (fr_X12_full eq2 :))) (agx_mono (by rfl) (fr_X12_token eq4 :))) (agx_mono (by rfl) (fr_X12_take eq6 :))) (agx_mono (by rfl) (fr_X12_take eq9 :)))
        · replace ep13 := ite_f h14 ep13
          obtain ⟨hg15, ep13⟩ := grd_some ep13
          obtain ⟨hg16, ep13⟩ := grd_some ep13
          cases ep13
          exact (agx_wr (agx_wr (agx_tr (agx_tr (agx_tr (agx_tr (agx_rf _) (agx_mono (by rfl) (fr_X12_full eq2 :))) (agx_mono (by rfl) (fr_X12_token eq4 :))) (agx_mono (by rfl) (fr_X12_take eq6 :))) (agx_mono (by rfl) (fr_X12_take eq9 :))) (by rfl)) (by rfl))
      cases e
      exact (agx_wr fp11 (by rfl))
set_option maxRecDepth 100000 in
theorem fr_X12_oathLine {a1 : Int32} {mm : Mm} {q : Int32 × Mm} (e : m_X12_oathLine a1 mm = some q) : agx [(44, some 10), (44, some 12), (44, some 13), (44, some 14), (44, some 15), (44, some 16), (44, some 17), (44, some 18), (44, some 21), (44, some 22), (54, none), (55, none)] mm q.2 := by
  unfold m_X12_oathLine at e
  obtain ⟨q1, eq2, e⟩ := obind e
  obtain ⟨q3, eq4, e⟩ := obind e
  obtain ⟨q5, eq6, e⟩ := obind e
  by_cases h7 : q5.1 = 0
  · replace e := ite_t h7 e
    cases e
    exact (agx_tr (agx_tr (agx_tr (agx_rf _) (agx_mono (by rfl) (fr_X12_full eq2 :))) (agx_mono (by rfl) (fr_X12_token eq4 :))) (agx_mono (by rfl) (fr_X12_takeTwo eq6 :)))
  · replace e := ite_f h7 e
    obtain ⟨q8, eq9, e⟩ := obind e
    by_cases h10 : q8.1 = 0
    · replace e := ite_t h10 e
      cases e
      exact (agx_tr (agx_tr (agx_tr (agx_tr (agx_rf _) (agx_mono (by rfl) (fr_X12_full eq2 :))) (agx_mono (by rfl) (fr_X12_token eq4 :))) (agx_mono (by rfl) (fr_X12_takeTwo eq6 :))) (agx_mono (by rfl) (fr_X12_take eq9 :)))
    · replace e := ite_f h10 e
      obtain ⟨p12, eb14w, e⟩ := obind e
      have fp12 : agx [(44, some 10), (44, some 12), (44, some 13), (44, some 14), (44, some 15), (44, some 16), (44, some 17), (44, some 18), (44, some 21), (44, some 22), (54, none), (55, none)] mm p12 := by
        clear e
        refine while_fr (Inv := fun z11 => agx [(44, some 10), (44, some 12), (44, some 13), (44, some 14), (44, some 15), (44, some 16), (44, some 17), (44, some 18), (44, some 21), (44, some 22), (54, none), (55, none)] mm z11.2) (Post := fun pw => agx [(44, some 10), (44, some 12), (44, some 13), (44, some 14), (44, some 15), (44, some 16), (44, some 17), (44, some 18), (44, some 21), (44, some 22), (54, none), (55, none)] mm pw) eb14w (agx_wr (agx_tr (agx_tr (agx_tr (agx_tr (agx_rf _) (agx_mono (by rfl) (fr_X12_full eq2 :))) (agx_mono (by rfl) (fr_X12_token eq4 :))) (agx_mono (by rfl) (fr_X12_takeTwo eq6 :))) (agx_mono (by rfl) (fr_X12_take eq9 :))) (by rfl)) ?_
        intro z11 x13y eb14 hz15
        unfold m_X12_oathLine_b69 at eb14
        by_cases h18 : (3 : Int32) ≤ z11.1
        · replace eb14 := ite_t h18 eb14
          cases eb14
          exact ⟨fun az ha => (by cases ha), fun bz hb => (by have h9 := Sum.inr.inj hb; subst h9; exact hz15)⟩
        · replace eb14 := ite_f h18 eb14
          by_cases h19 : (12 : Int32) ≤ (mI (sI q8.2 44 21 (m_X12_greater (mI q8.2 44 21) (m_X12_greater (mI q8.2 55 (ix (0 : Int32))) (mI q8.2 55 (ix (1 : Int32)))))) 54 (ix (1 : Int32)))
          · replace eb14 := ite_t h19 eb14
            cases eb14
            exact ⟨fun az ha => (by cases ha), fun bz hb => (by have h9 := Sum.inr.inj hb; subst h9; exact hz15)⟩
          · replace eb14 := ite_f h19 eb14
            obtain ⟨hg20, eb14⟩ := grd_some eb14
            obtain ⟨hg21, eb14⟩ := grd_some eb14
            cases eb14
            exact ⟨fun az ha => (by have h9 := Sum.inl.inj ha; subst h9; exact (agx_wr hz15 (by rfl))), fun bz hb => (by cases hb)⟩
      cases e
      exact (agx_wr fp12 (by rfl))
set_option maxRecDepth 100000 in
theorem fr_X12_countyLine {a1 : Int64} {a3 : Int32} {mm : Mm} {q : Int32 × Mm} (e : m_X12_countyLine a1 a3 mm = some q) : agx [(44, some 10), (44, some 12), (44, some 13), (44, some 14), (44, some 15), (44, some 16), (44, some 17), (44, some 18), (44, some 21), (44, some 22), (54, none), (55, none)] mm q.2 := by
  unfold m_X12_countyLine at e
  by_cases h1 : (lg_cmp a1 (1718578283 : Int64)) = 0
  · replace e := ite_t h1 e
    obtain ⟨q2, eq3, e⟩ := obind e
    obtain ⟨hbz, e⟩ := gbz_some e
    cases e
    exact (agx_tr (agx_rf _) (agx_mono (by rfl) (fr_X12_folkLine eq3 :)))
  · replace e := ite_f h1 e
    by_cases h4 : (lg_cmp a1 (1868657768 : Int64)) = 0
    · replace e := ite_t h4 e
      obtain ⟨q5, eq6, e⟩ := obind e
      obtain ⟨hbz, e⟩ := gbz_some e
      cases e
      exact (agx_tr (agx_rf _) (agx_mono (by rfl) (fr_X12_oathLine eq6 :)))
    · replace e := ite_f h4 e
      obtain ⟨x8, ep9, elx8, erx8⟩ := bS_some e
      have cx8 : ((∀ pz10, x8 = .inl pz10 → True) ∧ (∀ tz11, x8 = .inr tz11 → agx [(44, some 10), (44, some 12), (44, some 13), (44, some 14), (44, some 15), (44, some 16), (44, some 17), (44, some 18), (44, some 21), (44, some 22), (54, none), (55, none)] mm tz11.2)) := by
        clear elx8 erx8
        by_cases h12 : (lg_cmp a1 (1751216740 : Int64)) = 0
        · replace ep9 := ite_t h12 ep9
          cases ep9
          exact ⟨fun pz hz => (by have h9 := Sum.inl.inj hz; subst h9; exact trivial), fun tz hz => (by cases hz)⟩
        · replace ep9 := ite_f h12 ep9
          by_cases h13 : (lg_cmp a1 (427020088168 : Int64)) = 0
          · replace ep9 := ite_t h13 ep9
            cases ep9
            exact ⟨fun pz hz => (by have h9 := Sum.inl.inj hz; subst h9; exact trivial), fun tz hz => (by cases hz)⟩
          · replace ep9 := ite_f h13 ep9
            by_cases h14 : (lg_cmp a1 (465625113971 : Int64)) = 0
            · replace ep9 := ite_t h14 ep9
              cases ep9
              exact ⟨fun pz hz => (by have h9 := Sum.inl.inj hz; subst h9; exact trivial), fun tz hz => (by cases hz)⟩
            · replace ep9 := ite_f h14 ep9
              obtain ⟨hbz, ep9⟩ := gbz_some ep9
              cases ep9
              exact ⟨fun pz hz => (by cases hz), fun tz hz => (by have h9 := Sum.inr.inj hz; subst h9; exact (agx_tr (agx_rf _) (agx_mono (by rfl) fr_X12_fails)))⟩
      cases x8 with
      | inl p7 =>
        replace e := elx8 _ rfl
        obtain ⟨q15, eq16, e⟩ := obind e
        by_cases h17 : (lg_cmp a1 (1751216740 : Int64)) = 0
        · replace e := ite_t h17 e
          obtain ⟨q18, eq19, e⟩ := obind e
          by_cases h20 : q18.1 = 0
          · replace e := ite_t h20 e
            cases e
            exact (agx_tr (agx_tr (agx_rf _) (agx_mono (by rfl) (fr_X12_token eq16 :))) (agx_mono (by rfl) (fr_X12_take eq19 :)))
          · replace e := ite_f h20 e
            obtain ⟨q21, eq22, e⟩ := obind e
            by_cases h23 : q21.1 = 0
            · replace e := ite_t h23 e
              cases e
              exact (agx_tr (agx_tr (agx_tr (agx_rf _) (agx_mono (by rfl) (fr_X12_token eq16 :))) (agx_mono (by rfl) (fr_X12_take eq19 :))) (agx_mono (by rfl) (fr_X12_take eq22 :)))
            · replace e := ite_f h23 e
              by_cases h24 : (mI q21.2 44 22) = 0
              · replace e := ite_t h24 e
                cases e
                exact (agx_tr (agx_tr (agx_tr (agx_rf _) (agx_mono (by rfl) (fr_X12_token eq16 :))) (agx_mono (by rfl) (fr_X12_take eq19 :))) (agx_mono (by rfl) (fr_X12_take eq22 :)))
              · replace e := ite_f h24 e
                obtain ⟨hg25, e⟩ := grd_some e
                cases e
                exact (agx_wr (agx_tr (agx_tr (agx_tr (agx_rf _) (agx_mono (by rfl) (fr_X12_token eq16 :))) (agx_mono (by rfl) (fr_X12_take eq19 :))) (agx_mono (by rfl) (fr_X12_take eq22 :))) (by rfl))
        · replace e := ite_f h17 e
          obtain ⟨q27, eq28, e⟩ := obind e
          by_cases h29 : q27.1 = 0
          · replace e := ite_t h29 e
            cases e
            exact (agx_tr (agx_tr (agx_rf _) (agx_mono (by rfl) (fr_X12_token eq16 :))) (agx_mono (by rfl) (fr_X12_takeTwo eq28 :)))
          · replace e := ite_f h29 e
            obtain ⟨x32, ep33, elx32, erx32⟩ := bS_some e
            have cx32 : ((∀ pz34, x32 = .inl pz34 → True) ∧ (∀ tz35, x32 = .inr tz35 → agx [(44, some 10), (44, some 12), (44, some 13), (44, some 14), (44, some 15), (44, some 16), (44, some 17), (44, some 18), (44, some 21), (44, some 22), (54, none), (55, none)] mm tz35.2)) := by
              clear elx32 erx32
              by_cases h36 : (mI (if (lg_cmp a1 (465625113971 : Int64)) = 0 then (sI q27.2 44 21 (m_X12_greater (mI q27.2 44 21) (m_X12_greater (mI q27.2 55 (ix (0 : Int32))) (mI q27.2 55 (ix (1 : Int32)))))) else q27.2) 44 22) = 0
              · replace ep33 := ite_t h36 ep33
                cases ep33
                exact ⟨fun pz hz => (by have h9 := Sum.inl.inj hz; subst h9; exact trivial), fun tz hz => (by cases hz)⟩
              · replace ep33 := ite_f h36 ep33
                by_cases h37 : (lg_cmp a1 (465625113971 : Int64)) = 0
                · replace ep33 := ite_t h37 ep33
                  obtain ⟨hg38, ep33⟩ := grd_some ep33
                  obtain ⟨hg39, ep33⟩ := grd_some ep33
                  cases ep33
                  exact ⟨fun pz hz => (by cases hz), fun tz hz => (by have h9 := Sum.inr.inj hz; subst h9; exact (agx_wr (agx_ite (agx_wr (agx_tr (agx_tr (agx_rf _) (agx_mono (by rfl) (fr_X12_token eq16 :))) (agx_mono (by rfl) (fr_X12_takeTwo eq28 :))) (by rfl)) (agx_tr (agx_tr (agx_rf _) (agx_mono (by rfl) (fr_X12_token eq16 :))) (agx_mono (by rfl) (fr_X12_takeTwo eq28 :)))) (by rfl)))⟩
                · replace ep33 := ite_f h37 ep33
                  cases ep33
                  exact ⟨fun pz hz => (by have h9 := Sum.inl.inj hz; subst h9; exact trivial), fun tz hz => (by cases hz)⟩
            cases x32 with
            | inl p31 =>
              replace e := elx32 _ rfl
              by_cases h40 : (mI (if (lg_cmp a1 (465625113971 : Int64)) = 0 then (sI q27.2 44 21 (m_X12_greater (mI q27.2 44 21) (m_X12_greater (mI q27.2 55 (ix (0 : Int32))) (mI q27.2 55 (ix (1 : Int32)))))) else q27.2) 44 22) = 0
              · replace e := ite_t h40 e
                cases e
                exact (agx_ite (agx_wr (agx_tr (agx_tr (agx_rf _) (agx_mono (by rfl) (fr_X12_token eq16 :))) (agx_mono (by rfl) (fr_X12_takeTwo eq28 :))) (by rfl)) (agx_tr (agx_tr (agx_rf _) (agx_mono (by rfl) (fr_X12_token eq16 :))) (agx_mono (by rfl) (fr_X12_takeTwo eq28 :))))
              · replace e := ite_f h40 e
                obtain ⟨hg41, e⟩ := grd_some e
                obtain ⟨hg42, e⟩ := grd_some e
                obtain ⟨hg43, e⟩ := grd_some e
                obtain ⟨hg44, e⟩ := grd_some e
                cases e
                exact (agx_wr (agx_wr (agx_ite (agx_wr (agx_tr (agx_tr (agx_rf _) (agx_mono (by rfl) (fr_X12_token eq16 :))) (agx_mono (by rfl) (fr_X12_takeTwo eq28 :))) (by rfl)) (agx_tr (agx_tr (agx_rf _) (agx_mono (by rfl) (fr_X12_token eq16 :))) (agx_mono (by rfl) (fr_X12_takeTwo eq28 :)))) (by rfl)) (by rfl))
            | inr tz0 =>
              have hz := erx32 _ rfl
              subst hz
              exact cx32.2 _ rfl
      | inr tz0 =>
        have hz := erx8 _ rfl
        subst hz
        exact cx8.2 _ rfl
set_option maxRecDepth 100000 in
theorem fr_X12_termLine {a1 : Int64} {a3 : Int32} {mm : Mm} {q : Int32 × Mm} (e : m_X12_termLine a1 a3 mm = some q) : agx [(44, some 10), (44, some 12), (44, some 13), (44, some 14), (44, some 15), (44, some 16), (44, some 17), (44, some 18), (44, some 22), (54, none), (55, none)] mm q.2 := by
  unfold m_X12_termLine at e
  by_cases h1 : (m_X12_deedBy a1) = (-1 : Int32)
  · replace e := ite_t h1 e
    obtain ⟨hbz, e⟩ := gbz_some e
    cases e
    exact (agx_tr (agx_rf _) (agx_mono (by rfl) fr_X12_fails))
  · replace e := ite_f h1 e
    obtain ⟨q2, eq3, e⟩ := obind e
    obtain ⟨q4, eq5, e⟩ := obind e
    obtain ⟨p7, eb9w, e⟩ := obind e
    have fp7 : agx [(44, some 10), (44, some 12), (44, some 13), (44, some 14), (44, some 15), (44, some 16), (44, some 17), (44, some 18), (44, some 22), (54, none), (55, none)] mm p7 := by
      clear e
      refine while_fr (Inv := fun z6 => agx [(44, some 10), (44, some 12), (44, some 13), (44, some 14), (44, some 15), (44, some 16), (44, some 17), (44, some 18), (44, some 22), (54, none), (55, none)] mm z6.2) (Post := fun pw => agx [(44, some 10), (44, some 12), (44, some 13), (44, some 14), (44, some 15), (44, some 16), (44, some 17), (44, some 18), (44, some 22), (54, none), (55, none)] mm pw) eb9w (agx_tr (agx_tr (agx_rf _) (agx_mono (by rfl) (fr_X12_full eq3 :))) (agx_mono (by rfl) (fr_X12_token eq5 :))) ?_
      intro z6 x8y eb9 hz10
      unfold m_X12_termLine_b33 at eb9
      by_cases h13 : (4 : Int32) ≤ z6.1
      · replace eb9 := ite_t h13 eb9
        cases eb9
        exact ⟨fun az ha => (by cases ha), fun bz hb => (by have h9 := Sum.inr.inj hb; subst h9; exact hz10)⟩
      · replace eb9 := ite_f h13 eb9
        obtain ⟨hg14, eb9⟩ := grd_some eb9
        cases eb9
        exact ⟨fun az ha => (by have h9 := Sum.inl.inj ha; subst h9; exact (agx_wr hz10 (by rfl))), fun bz hb => (by cases hb)⟩
    obtain ⟨x16, ep17, elx16, erx16⟩ := bS_some e
    have cx16 : ((∀ pz18, x16 = .inl pz18 → agx [(44, some 10), (44, some 12), (44, some 13), (44, some 14), (44, some 15), (44, some 16), (44, some 17), (44, some 18), (44, some 22), (54, none), (55, none)] mm pz18) ∧ (∀ tz19, x16 = .inr tz19 → agx [(44, some 10), (44, some 12), (44, some 13), (44, some 14), (44, some 15), (44, some 16), (44, some 17), (44, some 18), (44, some 22), (54, none), (55, none)] mm tz19.2)) := by
      clear elx16 erx16
      by_cases h20 : (m_X12_in (m_X12_deedBy a1) (1 : Int32) (2 : Int32)) = 0
      · replace ep17 := ite_t h20 ep17
        cases ep17
        exact ⟨fun pz hz => (by have h9 := Sum.inl.inj hz; subst h9; exact fp7), fun tz hz => (by cases hz)⟩
      · replace ep17 := ite_f h20 ep17
        obtain ⟨q21, eq22, ep17⟩ := obind ep17
        by_cases h23 : q21.1 = 0
        · replace ep17 := ite_t h23 ep17
          cases ep17
          exact ⟨fun pz hz => (by cases hz), fun tz hz => (by have h9 := Sum.inr.inj hz; subst h9; exact (agx_tr fp7 (agx_mono (by rfl) (fr_X12_take eq22 :))))⟩
        · replace ep17 := ite_f h23 ep17
          cases ep17
          exact ⟨fun pz hz => (by have h9 := Sum.inl.inj hz; subst h9; exact (agx_tr fp7 (agx_mono (by rfl) (fr_X12_take eq22 :)))), fun tz hz => (by cases hz)⟩
    cases x16 with
    | inl p15 =>
      replace e := elx16 _ rfl
      have fp15 := cx16.1 _ rfl
      obtain ⟨x25, ep26, elx25, erx25⟩ := bS_some e
      have cx25 : ((∀ pz27, x25 = .inl pz27 → agx [(44, some 10), (44, some 12), (44, some 13), (44, some 14), (44, some 15), (44, some 16), (44, some 17), (44, some 18), (44, some 22), (54, none), (55, none)] mm pz27) ∧ (∀ tz28, x25 = .inr tz28 → agx [(44, some 10), (44, some 12), (44, some 13), (44, some 14), (44, some 15), (44, some 16), (44, some 17), (44, some 18), (44, some 22), (54, none), (55, none)] mm tz28.2)) := by
        clear elx25 erx25
        by_cases h29 : (m_X12_deedBy a1) < (3 : Int32)
        · replace ep26 := ite_t h29 ep26
          cases ep26
          exact ⟨fun pz hz => (by have h9 := Sum.inl.inj hz; subst h9; exact fp15), fun tz hz => (by cases hz)⟩
        · replace ep26 := ite_f h29 ep26
          obtain ⟨q30, eq31, ep26⟩ := obind ep26
          by_cases h32 : q30.1 = 0
          · replace ep26 := ite_t h32 ep26
            cases ep26
            exact ⟨fun pz hz => (by cases hz), fun tz hz => (by have h9 := Sum.inr.inj hz; subst h9; exact (agx_tr fp15 (agx_mono (by rfl) (fr_X12_takeTwo eq31 :))))⟩
          · replace ep26 := ite_f h32 ep26
            cases ep26
            exact ⟨fun pz hz => (by have h9 := Sum.inl.inj hz; subst h9; exact (agx_tr fp15 (agx_mono (by rfl) (fr_X12_takeTwo eq31 :)))), fun tz hz => (by cases hz)⟩
      cases x25 with
      | inl p24 =>
        replace e := elx25 _ rfl
        have fp24 := cx25.1 _ rfl
        obtain ⟨x34, ep35, elx34, erx34⟩ := bS_some e
        have cx34 : ((∀ pz36, x34 = .inl pz36 → agx [(44, some 10), (44, some 12), (44, some 13), (44, some 14), (44, some 15), (44, some 16), (44, some 17), (44, some 18), (44, some 22), (54, none), (55, none)] mm pz36) ∧ (∀ tz37, x34 = .inr tz37 → agx [(44, some 10), (44, some 12), (44, some 13), (44, some 14), (44, some 15), (44, some 16), (44, some 17), (44, some 18), (44, some 22), (54, none), (55, none)] mm tz37.2)) := by
          clear elx34 erx34
          by_cases h38 : (m_X12_deedBy a1) = (6 : Int32)
          · replace ep35 := ite_t h38 ep35
            obtain ⟨q39, eq40, ep35⟩ := obind ep35
            by_cases h41 : q39.1 = 0
            · replace ep35 := ite_t h41 ep35
              cases ep35
              exact ⟨fun pz hz => (by cases hz), fun tz hz => (by have h9 := Sum.inr.inj hz; subst h9; exact (agx_tr fp24 (agx_mono (by rfl) (fr_X12_take eq40 :))))⟩
            · replace ep35 := ite_f h41 ep35
              cases ep35
              exact ⟨fun pz hz => (by have h9 := Sum.inl.inj hz; subst h9; exact (agx_tr fp24 (agx_mono (by rfl) (fr_X12_take eq40 :)))), fun tz hz => (by cases hz)⟩
          · replace ep35 := ite_f h38 ep35
            cases ep35
            exact ⟨fun pz hz => (by have h9 := Sum.inl.inj hz; subst h9; exact fp24), fun tz hz => (by cases hz)⟩
        cases x34 with
        | inl p33 =>
          replace e := elx34 _ rfl
          have fp33 := cx34.1 _ rfl
          obtain ⟨q42, eq43, e⟩ := obind e
          cases e
          exact (agx_tr (agx_wr fp33 (by rfl)) (agx_mono (by rfl) (fr_X12_keepRow eq43 :)))
        | inr tz0 =>
          have hz := erx34 _ rfl
          subst hz
          exact cx34.2 _ rfl
      | inr tz0 =>
        have hz := erx25 _ rfl
        subst hz
        exact cx25.2 _ rfl
    | inr tz0 =>
      have hz := erx16 _ rfl
      subst hz
      exact cx16.2 _ rfl
set_option maxRecDepth 100000 in
theorem fr_X12_wantLine {a1 : Int64} {a3 : Int32} {mm : Mm} {q : Int32 × Mm} (e : m_X12_wantLine a1 a3 mm = some q) : agx [(44, some 10), (44, some 12), (44, some 13), (44, some 14), (44, some 15), (44, some 16), (44, some 17), (44, some 18), (44, some 22), (54, none), (55, none)] mm q.2 := by
  unfold m_X12_wantLine at e
  by_cases h1 : (lg_cmp a1 (2002873972 : Int64)) = 0
  · replace e := ite_t h1 e
    obtain ⟨q2, eq3, e⟩ := obind e
    obtain ⟨q4, eq5, e⟩ := obind e
    obtain ⟨q6, eq7, e⟩ := obind e
    by_cases h8 : q6.1 = 0
    · replace e := ite_t h8 e
      cases e
      exact (agx_tr (agx_tr (agx_tr (agx_rf _) (agx_mono (by rfl) (fr_X12_full eq3 :))) (agx_mono (by rfl) (fr_X12_token eq5 :))) (agx_mono (by rfl) (fr_X12_take eq7 :)))
    · replace e := ite_f h8 e
      obtain ⟨q9, eq10, e⟩ := obind e
      by_cases h11 : q9.1 = 0
      · replace e := ite_t h11 e
        cases e
        exact (agx_tr (agx_tr (agx_tr (agx_tr (agx_rf _) (agx_mono (by rfl) (fr_X12_full eq3 :))) (agx_mono (by rfl) (fr_X12_token eq5 :))) (agx_mono (by rfl) (fr_X12_take eq7 :))) (agx_mono (by rfl) (fr_X12_take eq10 :)))
      · replace e := ite_f h11 e
        obtain ⟨q12, eq13, e⟩ := obind e
        cases e
        exact (agx_tr (agx_tr (agx_tr (agx_tr (agx_tr (agx_rf _) (agx_mono (by rfl) (fr_X12_full eq3 :))) (agx_mono (by rfl) (fr_X12_token eq5 :))) (agx_mono (by rfl) (fr_X12_take eq7 :))) (agx_mono (by rfl) (fr_X12_take eq10 :))) (agx_mono (by rfl) (fr_X12_keepRow eq13 :)))
  · replace e := ite_f h1 e
    obtain ⟨hbz, e⟩ := gbz_some e
    cases e
    exact (agx_tr (agx_rf _) (agx_mono (by rfl) fr_X12_fails))
set_option maxRecDepth 100000 in
theorem fr_X12_logLine {a1 : Int64} {a3 : Int32} {mm : Mm} {q : Int32 × Mm} (e : m_X12_logLine a1 a3 mm = some q) : agx [(44, some 10), (44, some 12), (44, some 13), (44, some 14), (44, some 15), (44, some 16), (44, some 17), (44, some 18), (44, some 22), (54, none), (55, none)] mm q.2 := by
  unfold m_X12_logLine at e
  obtain ⟨x2, ep3, elx2, erx2⟩ := bS_some e
  have cx2 : ((∀ pz4, x2 = .inl pz4 → True) ∧ (∀ tz5, x2 = .inr tz5 → agx [(44, some 10), (44, some 12), (44, some 13), (44, some 14), (44, some 15), (44, some 16), (44, some 17), (44, some 18), (44, some 22), (54, none), (55, none)] mm tz5.2)) := by
    clear elx2 erx2
    by_cases h6 : (lg_cmp a1 (1801810036 : Int64)) = 0
    · replace ep3 := ite_t h6 ep3
      cases ep3
      exact ⟨fun pz hz => (by have h9 := Sum.inl.inj hz; subst h9; exact trivial), fun tz hz => (by cases hz)⟩
    · replace ep3 := ite_f h6 ep3
      by_cases h7 : (lg_cmp a1 (422826699621 : Int64)) = 0
      · replace ep3 := ite_t h7 ep3
        cases ep3
        exact ⟨fun pz hz => (by have h9 := Sum.inl.inj hz; subst h9; exact trivial), fun tz hz => (by cases hz)⟩
      · replace ep3 := ite_f h7 ep3
        obtain ⟨hbz, ep3⟩ := gbz_some ep3
        cases ep3
        exact ⟨fun pz hz => (by cases hz), fun tz hz => (by have h9 := Sum.inr.inj hz; subst h9; exact (agx_tr (agx_rf _) (agx_mono (by rfl) fr_X12_fails)))⟩
  cases x2 with
  | inl p1 =>
    replace e := elx2 _ rfl
    obtain ⟨q8, eq9, e⟩ := obind e
    obtain ⟨q10, eq11, e⟩ := obind e
    obtain ⟨q12, eq13, e⟩ := obind e
    by_cases h14 : q12.1 = 0
    · replace e := ite_t h14 e
      cases e
      exact (agx_tr (agx_tr (agx_tr (agx_rf _) (agx_mono (by rfl) (fr_X12_full eq9 :))) (agx_mono (by rfl) (fr_X12_token eq11 :))) (agx_mono (by rfl) (fr_X12_take eq13 :)))
    · replace e := ite_f h14 e
      obtain ⟨q15, eq16, e⟩ := obind e
      by_cases h17 : q15.1 = 0
      · replace e := ite_t h17 e
        cases e
        exact (agx_tr (agx_tr (agx_tr (agx_tr (agx_rf _) (agx_mono (by rfl) (fr_X12_full eq9 :))) (agx_mono (by rfl) (fr_X12_token eq11 :))) (agx_mono (by rfl) (fr_X12_take eq13 :))) (agx_mono (by rfl) (fr_X12_take eq16 :)))
      · replace e := ite_f h17 e
        obtain ⟨q19, eq20, e⟩ := obind e
        cases e
        exact (agx_tr (agx_wr (agx_tr (agx_tr (agx_tr (agx_tr (agx_rf _) (agx_mono (by rfl) (fr_X12_full eq9 :))) (agx_mono (by rfl) (fr_X12_token eq11 :))) (agx_mono (by rfl) (fr_X12_take eq13 :))) (agx_mono (by rfl) (fr_X12_take eq16 :))) (by rfl)) (agx_mono (by rfl) (fr_X12_keepRow eq20 :)))
  | inr tz0 =>
    have hz := erx2 _ rfl
    subst hz
    exact cx2.2 _ rfl
set_option maxRecDepth 100000 in
theorem fr_X12_lineOf {a1 : Int32} {a2 : Int64} {a4 : Int32} {mm : Mm} {q : Int32 × Mm} (e : m_X12_lineOf a1 a2 a4 mm = some q) : agx [(44, some 10), (44, some 12), (44, some 13), (44, some 14), (44, some 15), (44, some 16), (44, some 17), (44, some 18), (44, some 21), (44, some 22), (54, none), (55, none)] mm q.2 := by
  unfold m_X12_lineOf at e
  by_cases h1 : a1 = 0
  · replace e := ite_t h1 e
    obtain ⟨q2, eq3, e⟩ := obind e
    obtain ⟨hbz, e⟩ := gbz_some e
    cases e
    exact (agx_tr (agx_rf _) (agx_mono (by rfl) (fr_X12_countyLine eq3 :)))
  · replace e := ite_f h1 e
    by_cases h4 : a1 = (1 : Int32)
    · replace e := ite_t h4 e
      obtain ⟨q5, eq6, e⟩ := obind e
      obtain ⟨hbz, e⟩ := gbz_some e
      cases e
      exact (agx_tr (agx_rf _) (agx_mono (by rfl) (fr_X12_termLine eq6 :)))
    · replace e := ite_f h4 e
      by_cases h7 : a1 = (2 : Int32)
      · replace e := ite_t h7 e
        obtain ⟨q8, eq9, e⟩ := obind e
        obtain ⟨hbz, e⟩ := gbz_some e
        cases e
        exact (agx_tr (agx_rf _) (agx_mono (by rfl) (fr_X12_wantLine eq9 :)))
      · replace e := ite_f h7 e
        obtain ⟨q10, eq11, e⟩ := obind e
        obtain ⟨hbz, e⟩ := gbz_some e
        cases e
        exact (agx_tr (agx_rf _) (agx_mono (by rfl) (fr_X12_logLine eq11 :)))
abbrev lrL : List (Nat × Option Nat) := [(44, some 10), (44, some 12), (44, some 13), (44, some 14), (44, some 15), (44, some 16), (44, some 17), (44, some 18), (44, some 21), (44, some 22), (54, none), (55, none)]
theorem fr_X12_allLines {a1 : Int32} {mm : Mm} {q : Int32 × Mm} (e : m_X12_allLines a1 mm = some q) : agx lrL mm q.2 := by
  unfold m_X12_allLines at e
  obtain ⟨p2, w, e⟩ := obind e
  obtain ⟨_, e⟩ := gbz_some e
  cases e
  refine while_fr (Inv := fun z => agx lrL mm z.2) (Post := fun z => agx lrL mm z.2) w (agx_rf _) ?_
  intro z x eb hz
  unfold m_X12_allLines_b2 at eb
  by_cases h1 : z.1 = 0
  · replace eb := ite_t h1 eb
    cases eb
    exact ⟨fun s' h => (by cases h), fun r h => (by cases h; exact hz)⟩
  · replace eb := ite_f h1 eb
    by_cases h2 : (mI z.2 44 13) = 0
    · replace eb := ite_t h2 eb
      cases eb
      exact ⟨fun s' h => (by cases h), fun r h => (by cases h; exact hz)⟩
    · replace eb := ite_f h2 eb
      obtain ⟨q12, eq, eb⟩ := obind eb
      obtain ⟨p19, ep, eb⟩ := obind eb
      cases eb
      refine ⟨fun s' h => ?_, fun r h => (by cases h)⟩
      cases h
      show agx lrL mm p19
      have b : agx lrL mm q12.2 := agx_tr (agx_wr hz (by rfl)) (agx_mono (by rfl) (fr_X12_lineOf eq))
      have fX : agx lrL mm (if q12.1 = 0 then q12.2 else (if (mI q12.2 44 13) = 4 then q12.2 else ((m_X12_fails q12.2).2))) := agx_ite b (agx_ite b (agx_tr b (agx_mono (by rfl) fr_X12_fails)))
      by_cases h3 : (if q12.1 = 0 then q12.1 else (if (mI q12.2 44 13) = 4 then q12.1 else (m_X12_fails q12.2).1)) = 0
      · replace ep := ite_t h3 ep
        cases ep
        exact fX
      · replace ep := ite_f h3 ep
        obtain ⟨q24, e24, ep⟩ := obind ep
        cases ep
        exact agx_tr fX (agx_mono (by rfl) (fr_X12_token e24))
