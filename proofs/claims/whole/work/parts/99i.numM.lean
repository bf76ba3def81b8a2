/-! L3: the numbers of a line, as the reference takes them -/
def MPs (u : Nat → Nat) (n : Nat) (P : Ps) (m : Mm) : Prop := TPM u n m ∧ TKM u (pt P) m ∧ (pd P = 1 → mI m 44 16 = nI (pt P).2.1) ∧ (pd P = 0 → mI m 44 17 = nI (pf P) ∧ (pf P ≠ 0 → mI m 44 18 = nI (pq P)))
theorem TPM_a {u : Nat → Nat} {n : Nat} {m m' : Mm} {L : List (Nat × Option Nat)} (h : TPM u n m) (hA : agx L m m') (h6 : covB L 44 11 = false) (h2 : ∀ i, covB L 45 i = false) : TPM u n m' :=
  ⟨h.1, h.2.1, by rw [(hA 44 11 h6).1]; exact h.2.2.1, fun i hi => by rw [(hA 45 i (h2 i)).1]; exact h.2.2.2 i hi⟩
theorem TKM_a {u : Nat → Nat} {t : Tk} {m m' : Mm} {L : List (Nat × Option Nat)} (h : TKM u t m) (hA : agx L m m') (h13 : covB L 44 13 = false) (h12 : covB L 44 12 = false) (h10 : covB L 44 10 = false) (h14 : covB L 44 14 = false) (h15 : covB L 44 15 = false) : TKM u t m' :=
  ⟨by rw [(hA 44 13 h13).1]; exact h.1, by rw [(hA 44 12 h12).1]; exact h.2.1, by rw [(hA 44 10 h10).1]; exact h.2.2.1, fun q => by rw [(hA 44 14 h14).1]; exact h.2.2.2.1 q, by rw [(hA 44 15 h15).2]; exact h.2.2.2.2⟩
theorem MPs_a {u : Nat → Nat} {n : Nat} {P : Ps} {m m' : Mm} {L : List (Nat × Option Nat)} (h : MPs u n P m) (hA : agx L m m') (h2 : ∀ i, covB L 45 i = false) (h7 : L.all (fun e => decide (e.1 = 44 → e.2 = some 21 ∨ e.2 = some 22)) = true) : MPs u n P m' := by
  have h44 : ∀ i, i ≠ 21 → i ≠ 22 → covB L 44 i = false := by
    intro i h1 h3
    unfold covB
    rw [Bool.eq_false_iff]
    intro hc
    rw [List.any_eq_true] at hc
    obtain ⟨e, he, hx⟩ := hc
    have := List.all_eq_true.mp h7 e he
    rw [decide_eq_true_eq] at this
    rw [Bool.and_eq_true] at hx
    have h5 := this (eq_of_beq hx.1)
    rcases h5 with h5 | h5
    · have h6 := hx.2
      rw [h5] at h6
      exact h1 (eq_of_beq h6).symm
    · have h6 := hx.2
      rw [h5] at h6
      exact h3 (eq_of_beq h6).symm
  exact ⟨TPM_a h.1 hA (h44 11 (by decide) (by decide)) h2, TKM_a h.2.1 hA (h44 13 (by decide) (by decide)) (h44 12 (by decide) (by decide)) (h44 10 (by decide) (by decide)) (h44 14 (by decide) (by decide)) (h44 15 (by decide) (by decide)), fun q => by rw [(hA 44 16 (h44 16 (by decide) (by decide))).1]; exact h.2.2.1 q, fun q => by rw [(hA 44 17 (h44 17 (by decide) (by decide))).1, (hA 44 18 (h44 18 (by decide) (by decide))).1]; exact h.2.2.2 q⟩
theorem M_nt {u : Nat → Nat} {n : Nat} {P : Ps} {m : Mm} (h : MPs u n P m) (h0 : pd P = 0) (hf : pf P < 10) {x w : Nat} (hx : x ≠ 0) (hw : w ≤ 600) (hq : pf P ≠ 0 → pq P < w) : ∃ m', m_X12_addsFault (nI x) (nI w) m = some m' ∧ MPs u n (ntA x w P) m' ∧ agx [(44, some 17), (44, some 18)] m m' := by
  obtain ⟨d1, d2⟩ := h.2.2.2 h0
  have ex : ∃ m', m_X12_addsFault (nI x) (nI w) m = some m' ∧ (pd (ntA x w P) = 0 → mI m' 44 17 = nI (pf (ntA x w P)) ∧ (pf (ntA x w P) ≠ 0 → mI m' 44 18 = nI (pq (ntA x w P)))) := by
    unfold m_X12_addsFault
    by_cases z : pf P = 0
    · have e : ntA x w P = (pd P, x, w, pt P) := by unfold ntA; rw [if_pos z, if_pos z]
      rw [e, if_pos (show mI m 44 17 = 0 by rw [d1, z]; rfl), bs_l]
      refine ⟨_, rfl, fun _ => ⟨by rw [rdI_nj _ _ _ _ (by decide), rdI_eq], fun _ => by rw [rdI_eq]⟩⟩
    · have e : ntA x w P = P := by unfold ntA; rw [if_neg z, if_neg z]
      have := hq z
      rw [e, if_neg (show ¬ mI m 44 17 = 0 by rw [d1, show (0 : Int32) = nI 0 from rfl, n_eq (by omega) (by decide)]; exact z), d2 z, if_neg (by rw [n_lt (by omega) (by omega)]; omega), if_neg (by rw [n_eq (by omega) (by omega)]; omega), bs_r]
      exact ⟨_, rfl, fun _ => ⟨d1, d2⟩⟩
  obtain ⟨m', e1, e2⟩ := ex
  have hA := fr_X12_addsFault e1
  exact ⟨m', e1, ⟨TPM_a h.1 hA (by rfl) (fun i => by rfl), TKM_a h.2.1 hA (by rfl) (by rfl) (by rfl) (by rfl) (by rfl), fun q => by have q : pd P = 1 := q; omega, e2⟩, hA⟩
theorem M_nx {u : Nat → Nat} {n : Nat} {P : Ps} {m : Mm} (h : MPs u n P m) (h0 : pd P = 0) (gt : GT u n (pt P)) : ∃ m', m_X12_token m = some m' ∧ MPs u n (nxA u n P) m' ∧ agx tkL m m' := by
  obtain ⟨m', e1, _, e3, e4, e5⟩ := M_tok h.1 (GT_b gt).2.2.1 h.2.1.2.2.1
  exact ⟨m', e1, ⟨e4, e3, fun q => by have q : pd P = 1 := q; omega, fun q => by rw [(e5 44 17 (by rfl)).1, (e5 44 18 (by rfl)).1]; exact h.2.2.2 q⟩, e5⟩
theorem M_dd {u : Nat → Nat} {n : Nat} {P : Ps} {m : Mm} (h : MPs u n P m) : MPs u n (ddA P) (sI m 44 16 (mI m 44 12)) := by
  have hA : agx [(44, some 16)] m (sI m 44 16 (mI m 44 12)) := agx_wr (agx_rf _) (by rfl)
  refine ⟨TPM_a h.1 hA (by rfl) (fun i => by rfl), TKM_a h.2.1 hA (by rfl) (by rfl) (by rfl) (by rfl) (by rfl), fun _ => ?_, fun q => absurd q (show ¬ (1 : Nat) = 0 by decide)⟩
  rw [rdI_eq]; exact h.2.1.2.1
abbrev tbL : List (Nat × Option Nat) := [(44, some 10), (44, some 12), (44, some 13), (44, some 14), (44, some 15), (44, some 16), (44, some 17), (44, some 18), (44, some 22), (55, none)]
def noI (b : Int32) (bt : Nat) : Prop := ∀ v, v < 3000 → (nI v = b ↔ v = bt)
theorem noI_m : noI (-1) 5000 := fun v hv => by
  constructor
  · intro h
    have h2 := congrArg Int32.toInt h
    rw [nI_toInt (by omega)] at h2
    have h3 : (-1 : Int32).toInt = -1 := by decide
    omega
  · intro h; omega
theorem noI_n {x : Nat} (hx : x < 3000) : noI (nI x) x := fun v hv => by rw [n_eq (by omega) (by omega)]
theorem kM_3 {k : Nat} (h : k < 5) : (nI (kM k) = 3) = (k = 2) := by
  have key : ∀ k, k < 5 → (nI (kM k) = 3 ↔ k = 2) := by decide
  exact propext (key k h)
theorem M_takeBut {u : Nat → Nat} {n : Nat} {P : Ps} {m : Mm} (h : MPs u n P m) (gp : GPs u n P) (h0 : pd P = 0) {kx hi bt : Nat} {b : Int32} (hk : kx < 4) (hh : hi < 100) (hb : noI b bt) : ∃ m', m_X12_takeBut (nI kx) 0 (nI hi) b m = some (b2 (decide (pd (nsA u n hi bt P) = 0)), m') ∧ MPs u n (nsA u n hi bt P) m' ∧ (pd (nsA u n hi bt P) = 0 → mI m' 55 kx = nI (xv u P) ∧ mI m' 44 22 = if xv u P ≤ hi ∧ xv u P ≠ bt then mI m 44 22 else 0) ∧ (∀ j, j ≠ kx → mI m' 55 j = mI m 55 j) ∧ agx tbL m m' := by
  have gp' := gp
  obtain ⟨p1, p2, p3, p4⟩ := gp'
  obtain ⟨b1, b2', b3, b4, b5⟩ := GT_b p3
  have n6 := h.1.1
  unfold m_X12_takeBut nsA
  rw [if_neg (show ¬ pd P = 1 by omega), h.2.1.1]
  by_cases k2 : (pt P).1 = 2
  · have hv : mI m 44 14 = nI (xv u P) := h.2.1.2.2.2.1 k2
    have xb : xv u P < 3000 := nvI_b h.1.2.1 _ _
    rw [if_pos k2, if_pos (show nI (kM (pt P).1) = 3 by rw [kM_3 b1]; exact k2), n_grd (by omega) (by decide), n_ix (by omega), hv]
    have c1 : MPs u n P (sI m 55 kx (nI (xv u P))) := MPs_a h (agx_wr (W := [(55, none)]) (agx_rf _) (by rfl)) (fun i => by rfl) (by rfl)
    have a1 : agx tbL m (sI m 55 kx (nI (xv u P))) := agx_wr (agx_rf _) (by rfl)
    have q14 : mI (sI m 55 kx (nI (xv u P))) 44 14 = nI (xv u P) := by rw [rdI_ne _ _ _ _ (by decide)]; exact hv
    have q12 : mI (sI m 55 kx (nI (xv u P))) 44 12 = nI (pt P).2.1 := by rw [rdI_ne _ _ _ _ (by decide)]; exact h.2.1.2.1
    have q22 : mI (sI m 55 kx (nI (xv u P))) 44 22 = mI m 44 22 := rdI_ne _ _ _ _ (by decide)
    have q55 : mI (sI m 55 kx (nI (xv u P))) 55 kx = nI (xv u P) := rdI_eq _ _ _ _
    have q5j : ∀ j, j ≠ kx → mI (sI m 55 kx (nI (xv u P))) 55 j = mI m 55 j := fun j hj => rdI_nj _ _ _ _ hj
    generalize sI m 55 kx (nI (xv u P)) = z at *
    obtain ⟨mf, ef, cf, af⟩ := M_nt (x := 2) (w := (pt P).2.1) c1 h0 (by omega) (by decide) (by omega) p4
    have key : ∃ mz, (if (m_X12_in (mI z 44 14) 0 (nI hi)) = 0 then ((m_X12_addsFault 2 (mI z 44 12) z).bind (fun q8 => some (sI q8 44 22 0))) else (if (mI z 44 14) = b then ((m_X12_addsFault 2 (mI z 44 12) z).bind (fun q11 => some (sI q11 44 22 0))) else (some z)) : Option (Mm)) = some mz ∧ MPs u n (nbA u hi bt P) mz ∧ mI mz 44 22 = (if xv u P ≤ hi ∧ xv u P ≠ bt then mI m 44 22 else 0) ∧ (∀ j, mI mz 55 j = mI z 55 j) ∧ agx tbL z mz ∧ pd (nbA u hi bt P) = 0 ∧ pt (nbA u hi bt P) = pt P := by
      have ef' : m_X12_addsFault 2 (nI (pt P).2.1) z = some mf := ef
      rw [q14, q12, ef', ob_s]
      have bad : ¬ (xv u P ≤ hi ∧ xv u P ≠ bt) → MPs u n (nbA u hi bt P) (sI mf 44 22 0) ∧ mI (sI mf 44 22 0) 44 22 = (if xv u P ≤ hi ∧ xv u P ≠ bt then mI m 44 22 else 0) ∧ (∀ j, mI (sI mf 44 22 0) 55 j = mI z 55 j) ∧ agx tbL z (sI mf 44 22 0) ∧ pd (nbA u hi bt P) = 0 ∧ pt (nbA u hi bt P) = pt P := by
        intro c
        unfold nbA
        rw [if_neg c, if_neg c]
        exact ⟨MPs_a cf (agx_wr (W := [(44, some 22)]) (agx_rf _) (by rfl)) (fun i => by rfl) (by rfl), rdI_eq _ _ _ _, fun j => by rw [rdI_ne _ _ _ _ (by decide), (af 55 j (by rfl)).1], agx_wr (agx_mono (by rfl) af) (by rfl), h0, rfl⟩
      by_cases v : xv u P ≤ hi
      · rw [in_y v (by omega), if_neg i2t]
        by_cases w : xv u P = bt
        · rw [if_pos ((hb _ xb).mpr w)]
          exact ⟨_, rfl, bad (fun q => q.2 w)⟩
        · rw [if_neg (fun q => w ((hb _ xb).mp q))]
          refine ⟨z, rfl, ?_, ?_, fun _ => rfl, agx_rf _, ?_, ?_⟩
          · unfold nbA; rw [if_pos ⟨v, w⟩]; exact c1
          · rw [if_pos ⟨v, w⟩]; exact q22
          · unfold nbA; rw [if_pos ⟨v, w⟩]; exact h0
          · unfold nbA; rw [if_pos ⟨v, w⟩]
      · rw [in_n (Or.inr (by rw [n_le (by omega) (by omega)]; omega)) (by omega), if_pos i2f]
        exact ⟨_, rfl, bad (fun q => v q.1)⟩
    obtain ⟨mz, ez, cz, gz, jz, az, dz, tz⟩ := key
    rw [q14] at ez
    rw [q14, ez, ob_s]
    obtain ⟨m', e1, e2, e3⟩ := M_nx cz dz (by rw [tz]; exact p3)
    rw [e1, ob_s]
    refine ⟨m', by rw [decide_eq_true (show pd (nxA u n (nbA u hi bt P)) = 0 from dz)]; rfl, e2, fun _ => ⟨by rw [(e3 55 kx (by rfl)).1, jz kx]; exact q55, by rw [(e3 44 22 (by rfl)).1]; exact gz⟩, fun j hj => by rw [(e3 55 j (by rfl)).1, jz j]; exact q5j j hj, agx_tr a1 (agx_tr az (agx_mono (by rfl) e3))⟩
  · rw [if_neg k2, if_neg (show ¬ nI (kM (pt P).1) = 3 by rw [kM_3 b1]; exact k2)]
    refine ⟨_, ?_, M_dd h, fun q => absurd q (show ¬ (1 : Nat) = 0 by decide), fun j _ => rdI_ne _ _ _ _ (by decide), agx_wr (agx_rf _) (by rfl)⟩
    unfold m_X12_fails
    rw [gbz_pos (Or.inl rfl), decide_eq_false (show ¬ pd (ddA P) = 0 from (by decide : ¬ (1 : Nat) = 0))]
    rfl
theorem M_take {u : Nat → Nat} {n : Nat} {P : Ps} {m : Mm} (h : MPs u n P m) (gp : GPs u n P) (h0 : pd P = 0) {kx hi : Nat} (hk : kx < 4) (hh : hi < 100) : ∃ m', m_X12_take (nI kx) 0 (nI hi) m = some (b2 (decide (pd (nsA u n hi 5000 P) = 0)), m') ∧ MPs u n (nsA u n hi 5000 P) m' ∧ (pd (nsA u n hi 5000 P) = 0 → mI m' 55 kx = nI (xv u P) ∧ mI m' 44 22 = if xv u P ≤ hi ∧ xv u P ≠ 5000 then mI m 44 22 else 0) ∧ (∀ j, j ≠ kx → mI m' 55 j = mI m 55 j) ∧ agx tbL m m' := by
  obtain ⟨m', e1, e2⟩ := M_takeBut h gp h0 hk hh noI_m
  refine ⟨m', ?_, e2⟩
  unfold m_X12_take
  rw [e1, ob_s, n_gbz]
theorem nsA_dd {u : Nat → Nat} {n hi bt : Nat} {P : Ps} (h : pd P = 1) : nsA u n hi bt P = P := by
  unfold nsA; rw [if_pos h]
theorem M_two {u : Nat → Nat} {n : Nat} {P : Ps} {m : Mm} (h : MPs u n P m) (gp : GPs u n P) (h0 : pd P = 0) {kx hi : Nat} (hk : kx < 3) (hh : hi < 100) : ∃ m', m_X12_takeTwo (nI kx) (nI hi) m = some (b2 (decide (pd (nsA u n hi (xv u P) (nsA u n hi 5000 P)) = 0)), m') ∧ MPs u n (nsA u n hi (xv u P) (nsA u n hi 5000 P)) m' ∧ (pd (nsA u n hi (xv u P) (nsA u n hi 5000 P)) = 0 → mI m' 55 kx = nI (xv u P) ∧ mI m' 55 (kx + 1) = nI (xv u (nsA u n hi 5000 P)) ∧ mI m' 44 22 = if xv u P ≤ hi ∧ xv u (nsA u n hi 5000 P) ≤ hi ∧ xv u (nsA u n hi 5000 P) ≠ xv u P then mI m 44 22 else 0) ∧ (∀ j, j ≠ kx → j ≠ kx + 1 → mI m' 55 j = mI m 55 j) ∧ agx tbL m m' := by
  obtain ⟨m1, e1, c1, v1, j1, a1⟩ := M_take h gp h0 (kx := kx) (by omega) hh
  obtain ⟨g1, g2, g3, g4⟩ := GP_ns gp hi 5000
  have xb : xv u P < 3000 := nvI_b h.1.2.1 _ _
  unfold m_X12_takeTwo
  rw [e1, ob_s]
  by_cases d1 : pd (nsA u n hi 5000 P) = 1
  · rw [nsA_dd d1, decide_eq_false (show ¬ pd (nsA u n hi 5000 P) = 0 by omega), if_pos i2f]
    exact ⟨m1, rfl, c1, fun q => by omega, fun j hj _ => j1 j hj, a1⟩
  · have d0 : pd (nsA u n hi 5000 P) = 0 := by have := g1.1; omega
    obtain ⟨w1, w2⟩ := v1 d0
    rw [decide_eq_true d0, if_neg i2t, n_grd (by omega) (by decide), n_ix (by omega), w1, show (1 : Int32) = nI 1 from rfl, nI_add]
    obtain ⟨m2, e2, c2, v2, j2, a2⟩ := M_takeBut c1 g1 d0 (kx := kx + 1) (by omega) hh (noI_n xb)
    rw [e2, ob_s]
    refine ⟨m2, ?_, c2, fun q => ?_, fun j h1 h2 => by rw [j2 j h2, j1 j h1], agx_tr a1 a2⟩
    · by_cases q : pd (nsA u n hi (xv u P) (nsA u n hi 5000 P)) = 0
      · rw [decide_eq_true q, if_neg i2t]; rfl
      · rw [decide_eq_false q, if_pos i2f]; rfl
    · obtain ⟨y1, y2⟩ := v2 q
      refine ⟨by rw [j2 kx (by omega)]; exact w1, y1, ?_⟩
      rw [y2, w2]
      by_cases r1 : xv u P ≤ hi
      · rw [if_pos (show xv u P ≤ hi ∧ xv u P ≠ 5000 from ⟨r1, by omega⟩)]
        by_cases r2 : xv u (nsA u n hi 5000 P) ≤ hi ∧ xv u (nsA u n hi 5000 P) ≠ xv u P
        · rw [if_pos r2, if_pos ⟨r1, r2⟩]
        · rw [if_neg r2, if_neg (fun q => r2 q.2)]
      · rw [if_neg (show ¬ (xv u P ≤ hi ∧ xv u P ≠ 5000) from fun q => r1 q.1), ite_self, if_neg (fun q => r1 q.1)]
theorem M_full {u : Nat → Nat} {n : Nat} {P : Ps} {m : Mm} (h : MPs u n P m) (gp : GPs u n P) (h0 : pd P = 0) {ax c most : Nat} (ha : ax < 161) (hm : most < 100) (h54 : mI m 54 ax = nI (min most c)) : ∃ m', m_X12_full (nI ax) (nI most) (nI (pt P).2.1) m = some m' ∧ MPs u n (if decide (most ≤ c) = true then ntA 3 (pt P).2.1 P else P) m' ∧ agx [(44, some 17), (44, some 18)] m m' := by
  obtain ⟨p1, p2, p3, p4⟩ := gp
  have gb := GT_b p3
  have n6 := h.1.1
  unfold m_X12_full
  rw [n_grd (by omega) (by decide), n_ix (by omega), h54]
  by_cases q : most ≤ c
  · obtain ⟨mf, ef, cf, af⟩ := M_nt (x := 3) (w := (pt P).2.1) h h0 (by omega) (by decide) (by omega) p4
    have ef' : m_X12_addsFault 3 (nI (pt P).2.1) m = some mf := ef
    rw [if_pos (by rw [n_eq (by omega) (by omega)]; omega), ef', ob_s, if_pos (decide_eq_true q)]
    exact ⟨mf, rfl, cf, af⟩
  · rw [if_neg (by rw [n_eq (by omega) (by omega)]; omega), if_neg (by rw [decide_eq_true_eq]; exact q)]
    exact ⟨m, rfl, h, agx_rf _⟩
