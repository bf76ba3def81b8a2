theorem cb_31 : (Int8.ofInt (31)).toInt32 = (31 : Int32) := by decide
abbrev M_L_law : MI := (RL, cL_law, 4, (some .boolean), "law")
theorem r_sldn {l : Launch} {G : Gt} {M : MI} {d pc : Nat} {L : List (Option V1)} {st : List V1} {S : Sk} {mm : Mm} {r : Option V1} {S' : Sk} {mm' : Mm} {nx : Nat} {xs : Nat → Int32} {i : Int32} (hn : G.2.2.2.2.2.1 = nx) (hx : G.2.2.2.2.2.2 = xs) (hd : decode M.2.1 pc = .ok (.iaload, 1)) (hin : vp_in i nx) (kk : Run l G M d (pc + 1) L (vi (xs (ix i)) :: st) S mm r S' mm') : Run l G M d pc L (vi i :: vx 0 :: st) S mm r S' mm' := by subst hn; subst hx; exact r_sld hd hin kk
theorem r_slenn {l : Launch} {G : Gt} {M : MI} {d pc : Nat} {L : List (Option V1)} {st : List V1} {S : Sk} {mm : Mm} {r : Option V1} {S' : Sk} {mm' : Mm} {nx : Nat} (hn : G.2.2.2.2.2.1 = nx) (hd : decode M.2.1 pc = .ok (.arraylength, 1)) (kk : Run l G M d (pc + 1) L (vi (Int32.ofNat nx) :: st) S mm r S' mm') : Run l G M d pc L (vx 0 :: st) S mm r S' mm' := by subst hn; exact r_slen hd kk
noncomputable def m_L_law_b18 (nx : Nat) (xs : Nat → Int32) (z1 : Int32 × Sk × Mm) : Option ((Int32 × Sk × Mm) ⊕ ((Sk × Mm) ⊕ (Int32 × Sk × Mm))) := if ((Int32.ofNat nx) - (8 : Int32)) < z1.1 then (some (.inr (.inl (z1.2.1, z1.2.2)))) else (grd z1.1 nx (bS (if ((xs (ix z1.1)) &&& (31 : Int32)) = (0 : Int32) then (grd (z1.1 + (1 : Int32)) nx (grd (z1.1 + (2 : Int32)) nx (grd (z1.1 + (3 : Int32)) nx (grd (z1.1 + (4 : Int32)) nx (grd (z1.1 + (5 : Int32)) nx (gP (Lay z1.2.1) ((m_X11_feed (xs (ix (z1.1 + (1 : Int32)))) (xs (ix (z1.1 + (2 : Int32)))) (xs (ix (z1.1 + (3 : Int32)))) (xs (ix (z1.1 + (4 : Int32)))) (xs (ix (z1.1 + (5 : Int32)))) z1.2.2).bind (fun q20 => grd (z1.1 + (1 : Int32)) nx (grd (z1.1 + (2 : Int32)) nx (grd (z1.1 + (3 : Int32)) nx (grd (z1.1 + (4 : Int32)) nx (grd (z1.1 + (5 : Int32)) nx ((m_X12_feed (xs (ix (z1.1 + (1 : Int32)))) (xs (ix (z1.1 + (2 : Int32)))) (xs (ix (z1.1 + (3 : Int32)))) (xs (ix (z1.1 + (4 : Int32)))) (xs (ix (z1.1 + (5 : Int32)))) q20.2).bind (fun q27 => if q20.1 = q27.1 then (some (.inl (z1.2.1, q27.2))) else (some (.inr (.inr (.inr ((0 : Int32), z1.2.1, q27.2))))))))))))))))))) else (if ((xs (ix z1.1)) &&& (31 : Int32)) = (1 : Int32) then (grd (z1.1 + (1 : Int32)) nx (gP (Lay z1.2.1) (grd (z1.1 + (1 : Int32)) nx ((m_X12_end (xs (ix (z1.1 + (1 : Int32)))) ((m_X11_end (xs (ix (z1.1 + (1 : Int32)))) z1.2.2).2)).bind (fun q34 => if ((m_X11_end (xs (ix (z1.1 + (1 : Int32)))) z1.2.2).1) = q34.1 then (some (.inl (z1.2.1, q34.2))) else (some (.inr (.inr (.inr ((0 : Int32), z1.2.1, q34.2)))))))))) else (if ((xs (ix z1.1)) &&& (31 : Int32)) = (2 : Int32) then (grd (z1.1 + (1 : Int32)) nx (grd (z1.1 + (2 : Int32)) nx (gP (Lay z1.2.1) ((m_X11_text z1.2.1 (xs (ix (z1.1 + (1 : Int32)))) (xs (ix (z1.1 + (2 : Int32)))) z1.2.2).bind (fun q41 => grd (z1.1 + (1 : Int32)) nx (grd (z1.1 + (2 : Int32)) nx (gP (Lay q41.2.1) ((m_X12_text q41.2.1 (xs (ix (z1.1 + (1 : Int32)))) (xs (ix (z1.1 + (2 : Int32)))) q41.2.2).bind (fun q46 => if q41.1 = q46.1 then (some (.inl (q41.2.1, q46.2))) else (some (.inr (.inr (.inr ((0 : Int32), q41.2.1, q46.2)))))))))))))) else (if ((xs (ix z1.1)) &&& (31 : Int32)) = (3 : Int32) then (grd (z1.1 + (1 : Int32)) nx (gP (Lay z1.2.1) (grd (z1.1 + (1 : Int32)) nx ((m_X12_fault (xs (ix (z1.1 + (1 : Int32)))) z1.2.2).bind (fun q53 => if (m_X11_fault (xs (ix (z1.1 + (1 : Int32)))) z1.2.2) = q53.1 then (some (.inl (z1.2.1, q53.2))) else (some (.inr (.inr (.inr ((0 : Int32), z1.2.1, q53.2)))))))))) else (if ((xs (ix z1.1)) &&& (31 : Int32)) = (4 : Int32) then (grd (z1.1 + (1 : Int32)) nx (grd (z1.1 + (2 : Int32)) nx (gP (Lay z1.2.1) (gP (SI z1.2.1) ((m_X11_county z1.2.1 (xs (ix (z1.1 + (1 : Int32)))) (xs (ix (z1.1 + (2 : Int32)))) z1.2.2).bind (fun q61 => grd (z1.1 + (1 : Int32)) nx (grd (z1.1 + (2 : Int32)) nx ((m_X12_county (xs (ix (z1.1 + (1 : Int32)))) (xs (ix (z1.1 + (2 : Int32)))) z1.2.2).bind (fun q65 => if q61 = q65.1 then (some (.inl (z1.2.1, q65.2))) else (some (.inr (.inr (.inr ((0 : Int32), z1.2.1, q65.2)))))))))))))) else (if ((xs (ix z1.1)) &&& (31 : Int32)) = (5 : Int32) then (grd (z1.1 + (1 : Int32)) nx (grd (z1.1 + (2 : Int32)) nx (grd (z1.1 + (3 : Int32)) nx (gP (Lay z1.2.1) (gP (SI z1.2.1) ((m_X11_deed z1.2.1 (xs (ix (z1.1 + (1 : Int32)))) (xs (ix (z1.1 + (2 : Int32)))) (xs (ix (z1.1 + (3 : Int32)))) z1.2.2).bind (fun q74 => grd (z1.1 + (1 : Int32)) nx (grd (z1.1 + (2 : Int32)) nx (grd (z1.1 + (3 : Int32)) nx ((m_X12_deed (xs (ix (z1.1 + (1 : Int32)))) (xs (ix (z1.1 + (2 : Int32)))) (xs (ix (z1.1 + (3 : Int32)))) z1.2.2).bind (fun q79 => if q74 = q79.1 then (some (.inl (z1.2.1, q79.2))) else (some (.inr (.inr (.inr ((0 : Int32), z1.2.1, q79.2)))))))))))))))) else (if ((xs (ix z1.1)) &&& (31 : Int32)) = (6 : Int32) then (grd (z1.1 + (1 : Int32)) nx (grd (z1.1 + (2 : Int32)) nx (gP (Lay z1.2.1) (gP (SI z1.2.1) ((m_X11_stop z1.2.1 (xs (ix (z1.1 + (1 : Int32)))) (xs (ix (z1.1 + (2 : Int32)))) z1.2.2).bind (fun q87 => grd (z1.1 + (1 : Int32)) nx (grd (z1.1 + (2 : Int32)) nx (gP (Lay q87.2.1) ((m_X12_stop (xs (ix (z1.1 + (1 : Int32)))) (xs (ix (z1.1 + (2 : Int32)))) q87.2.2).bind (fun q92 => if q87.1 = q92.1 then (some (.inl (q87.2.1, q92.2))) else (some (.inr (.inr (.inr ((0 : Int32), q87.2.1, q92.2))))))))))))))) else (if ((xs (ix z1.1)) &&& (31 : Int32)) = (7 : Int32) then (grd (z1.1 + (1 : Int32)) nx (grd (z1.1 + (2 : Int32)) nx (grd (z1.1 + (3 : Int32)) nx (grd (z1.1 + (4 : Int32)) nx (gP (Lay z1.2.1) (gP (SI z1.2.1) ((m_X11_state z1.2.1 (xs (ix (z1.1 + (1 : Int32)))) (xs (ix (z1.1 + (2 : Int32)))) (xs (ix (z1.1 + (3 : Int32)))) (xs (ix (z1.1 + (4 : Int32)))) z1.2.2).bind (fun q102 => grd (z1.1 + (1 : Int32)) nx (grd (z1.1 + (2 : Int32)) nx (grd (z1.1 + (3 : Int32)) nx (grd (z1.1 + (4 : Int32)) nx (gP (Lay q102.2.1) ((m_X12_state (xs (ix (z1.1 + (1 : Int32)))) (xs (ix (z1.1 + (2 : Int32)))) (xs (ix (z1.1 + (3 : Int32)))) (xs (ix (z1.1 + (4 : Int32)))) q102.2.2).bind (fun q109 => if q102.1 = q109.1 then (some (.inl (q102.2.1, q109.2))) else (some (.inr (.inr (.inr ((0 : Int32), q102.2.1, q109.2))))))))))))))))))) else (if ((xs (ix z1.1)) &&& (31 : Int32)) = (8 : Int32) then (grd (z1.1 + (1 : Int32)) nx (grd (z1.1 + (2 : Int32)) nx (grd (z1.1 + (3 : Int32)) nx (gP (Lay z1.2.1) (gP (SI z1.2.1) ((m_X11_keeps z1.2.1 (xs (ix (z1.1 + (1 : Int32)))) (xs (ix (z1.1 + (2 : Int32)))) (xs (ix (z1.1 + (3 : Int32)))) z1.2.2).bind (fun q118 => grd (z1.1 + (1 : Int32)) nx (grd (z1.1 + (2 : Int32)) nx (grd (z1.1 + (3 : Int32)) nx (gP (Lay q118.2.1) ((m_X12_keeps (xs (ix (z1.1 + (1 : Int32)))) (xs (ix (z1.1 + (2 : Int32)))) (xs (ix (z1.1 + (3 : Int32)))) q118.2.2).bind (fun q124 => if q118.1 = q124.1 then (some (.inl (q118.2.1, q124.2))) else (some (.inr (.inr (.inr ((0 : Int32), q118.2.1, q124.2))))))))))))))))) else (if ((xs (ix z1.1)) &&& (31 : Int32)) = (9 : Int32) then (grd (z1.1 + (1 : Int32)) nx (grd (z1.1 + (2 : Int32)) nx (grd (z1.1 + (3 : Int32)) nx (gP (Lay z1.2.1) (gP (SI z1.2.1) ((m_X11_heart z1.2.1 (xs (ix (z1.1 + (1 : Int32)))) (xs (ix (z1.1 + (2 : Int32)))) (xs (ix (z1.1 + (3 : Int32)))) z1.2.2).bind (fun q133 => grd (z1.1 + (1 : Int32)) nx (grd (z1.1 + (2 : Int32)) nx (grd (z1.1 + (3 : Int32)) nx (gP (Lay q133.2.1) ((m_X12_heart (xs (ix (z1.1 + (1 : Int32)))) (xs (ix (z1.1 + (2 : Int32)))) (xs (ix (z1.1 + (3 : Int32)))) q133.2.2).bind (fun q139 => if q133.1 = q139.1 then (some (.inl (q133.2.1, q139.2))) else (some (.inr (.inr (.inr ((0 : Int32), q133.2.1, q139.2))))))))))))))))) else (if ((xs (ix z1.1)) &&& (31 : Int32)) = (10 : Int32) then (grd (z1.1 + (1 : Int32)) nx (grd (z1.1 + (2 : Int32)) nx (gP (Lay z1.2.1) (gP (SI z1.2.1) ((m_X11_fall z1.2.1 (xs (ix (z1.1 + (1 : Int32)))) (xs (ix (z1.1 + (2 : Int32)))) z1.2.2).bind (fun q147 => grd (z1.1 + (1 : Int32)) nx (grd (z1.1 + (2 : Int32)) nx (gP (Lay q147.2.1) ((m_X12_fall (xs (ix (z1.1 + (1 : Int32)))) (xs (ix (z1.1 + (2 : Int32)))) q147.2.2).bind (fun q152 => if q147.1 = q152.1 then (some (.inl (q147.2.1, q152.2))) else (some (.inr (.inr (.inr ((0 : Int32), q147.2.1, q152.2))))))))))))))) else (if ((xs (ix z1.1)) &&& (31 : Int32)) = (11 : Int32) then (grd (z1.1 + (1 : Int32)) nx (grd (z1.1 + (2 : Int32)) nx (grd (z1.1 + (3 : Int32)) nx (gP (Lay z1.2.1) (gP (SI z1.2.1) ((m_X11_want z1.2.1 (xs (ix (z1.1 + (1 : Int32)))) (xs (ix (z1.1 + (2 : Int32)))) (xs (ix (z1.1 + (3 : Int32)))) z1.2.2).bind (fun q161 => grd (z1.1 + (1 : Int32)) nx (grd (z1.1 + (2 : Int32)) nx (grd (z1.1 + (3 : Int32)) nx ((m_X12_want (xs (ix (z1.1 + (1 : Int32)))) (xs (ix (z1.1 + (2 : Int32)))) (xs (ix (z1.1 + (3 : Int32)))) z1.2.2).bind (fun q166 => if q161 = q166.1 then (some (.inl (z1.2.1, q166.2))) else (some (.inr (.inr (.inr ((0 : Int32), z1.2.1, q166.2)))))))))))))))) else (if ((xs (ix z1.1)) &&& (31 : Int32)) = (12 : Int32) then (grd (z1.1 + (1 : Int32)) nx (grd (z1.1 + (2 : Int32)) nx (grd (z1.1 + (3 : Int32)) nx (gP (Lay z1.2.1) (gP (SI z1.2.1) ((m_X11_swearers z1.2.1 (xs (ix (z1.1 + (1 : Int32)))) (xs (ix (z1.1 + (2 : Int32)))) (xs (ix (z1.1 + (3 : Int32)))) z1.2.2).bind (fun q175 => grd (z1.1 + (1 : Int32)) nx (grd (z1.1 + (2 : Int32)) nx (grd (z1.1 + (3 : Int32)) nx (gP (Lay q175.2.1) ((m_X12_swearers (xs (ix (z1.1 + (1 : Int32)))) (xs (ix (z1.1 + (2 : Int32)))) (xs (ix (z1.1 + (3 : Int32)))) q175.2.2).bind (fun q181 => if q175.1 = q181.1 then (some (.inl (q175.2.1, q181.2))) else (some (.inr (.inr (.inr ((0 : Int32), q175.2.1, q181.2))))))))))))))))) else (if ((xs (ix z1.1)) &&& (31 : Int32)) = (13 : Int32) then (grd (z1.1 + (1 : Int32)) nx (grd (z1.1 + (2 : Int32)) nx (grd (z1.1 + (3 : Int32)) nx (grd (z1.1 + (4 : Int32)) nx (grd (z1.1 + (5 : Int32)) nx (gP (Lay z1.2.1) (gP (SI z1.2.1) ((m_X11_dare z1.2.1 (xs (ix (z1.1 + (1 : Int32)))) (xs (ix (z1.1 + (2 : Int32)))) (xs (ix (z1.1 + (3 : Int32)))) (xs (ix (z1.1 + (4 : Int32)))) (if (xs (ix (z1.1 + (5 : Int32)))) = 0 then (0 : Int32) else (1 : Int32)) z1.2.2).bind (fun q195 => grd (z1.1 + (1 : Int32)) nx (grd (z1.1 + (2 : Int32)) nx (grd (z1.1 + (3 : Int32)) nx (grd (z1.1 + (4 : Int32)) nx (grd (z1.1 + (5 : Int32)) nx (gP (Lay q195.2.1) ((m_X12_dare (xs (ix (z1.1 + (1 : Int32)))) (xs (ix (z1.1 + (2 : Int32)))) (xs (ix (z1.1 + (3 : Int32)))) (xs (ix (z1.1 + (4 : Int32)))) (if (xs (ix (z1.1 + (5 : Int32)))) = 0 then (0 : Int32) else (1 : Int32)) q195.2.2).bind (fun q206 => if q195.1 = q206.1 then (some (.inl (q195.2.1, q206.2))) else (some (.inr (.inr (.inr ((0 : Int32), q195.2.1, q206.2))))))))))))))))))))) else (if ((xs (ix z1.1)) &&& (31 : Int32)) = (14 : Int32) then (grd (z1.1 + (1 : Int32)) nx (grd (z1.1 + (2 : Int32)) nx (grd (z1.1 + (3 : Int32)) nx (grd (z1.1 + (4 : Int32)) nx (grd (z1.1 + (5 : Int32)) nx (grd (z1.1 + (6 : Int32)) nx (grd (z1.1 + (7 : Int32)) nx (gP (Lay z1.2.1) (gP (SI z1.2.1) ((m_X11_chance z1.2.1 (xs (ix (z1.1 + (1 : Int32)))) (xs (ix (z1.1 + (2 : Int32)))) (xs (ix (z1.1 + (3 : Int32)))) (xs (ix (z1.1 + (4 : Int32)))) (xs (ix (z1.1 + (5 : Int32)))) (xs (ix (z1.1 + (6 : Int32)))) (if (xs (ix (z1.1 + (7 : Int32)))) = 0 then (0 : Int32) else (1 : Int32)) z1.2.2).bind (fun q224 => grd (z1.1 + (1 : Int32)) nx (grd (z1.1 + (2 : Int32)) nx (grd (z1.1 + (3 : Int32)) nx (grd (z1.1 + (4 : Int32)) nx (grd (z1.1 + (5 : Int32)) nx (grd (z1.1 + (6 : Int32)) nx (grd (z1.1 + (7 : Int32)) nx (gP (Lay q224.2.1) ((m_X12_chance (xs (ix (z1.1 + (1 : Int32)))) (xs (ix (z1.1 + (2 : Int32)))) (xs (ix (z1.1 + (3 : Int32)))) (xs (ix (z1.1 + (4 : Int32)))) (xs (ix (z1.1 + (5 : Int32)))) (xs (ix (z1.1 + (6 : Int32)))) (if (xs (ix (z1.1 + (7 : Int32)))) = 0 then (0 : Int32) else (1 : Int32)) q224.2.2).bind (fun q237 => if q224.1 = q237.1 then (some (.inl (q224.2.1, q237.2))) else (some (.inr (.inr (.inr ((0 : Int32), q224.2.1, q237.2))))))))))))))))))))))))) else (if ((xs (ix z1.1)) &&& (31 : Int32)) = (15 : Int32) then (grd (z1.1 + (1 : Int32)) nx (grd (z1.1 + (2 : Int32)) nx (grd (z1.1 + (3 : Int32)) nx (gP (Lay z1.2.1) (gP (SI z1.2.1) ((m_X11_fact z1.2.1 (xs (ix (z1.1 + (1 : Int32)))) (xs (ix (z1.1 + (2 : Int32)))) (xs (ix (z1.1 + (3 : Int32)))) z1.2.2).bind (fun q248 => grd (z1.1 + (1 : Int32)) nx (grd (z1.1 + (2 : Int32)) nx (grd (z1.1 + (3 : Int32)) nx ((m_X12_fact (xs (ix (z1.1 + (1 : Int32)))) (xs (ix (z1.1 + (2 : Int32)))) (xs (ix (z1.1 + (3 : Int32)))) z1.2.2).bind (fun q253 => if q248 = q253.1 then (some (.inl (z1.2.1, q253.2))) else (some (.inr (.inr (.inr ((0 : Int32), z1.2.1, q253.2)))))))))))))))) else (if ((xs (ix z1.1)) &&& (31 : Int32)) = (16 : Int32) then (grd (z1.1 + (1 : Int32)) nx (grd (z1.1 + (2 : Int32)) nx (grd (z1.1 + (3 : Int32)) nx (grd (z1.1 + (4 : Int32)) nx (gP (Lay z1.2.1) (gP (SI z1.2.1) ((m_X11_fits z1.2.1 (xs (ix (z1.1 + (1 : Int32)))) (xs (ix (z1.1 + (2 : Int32)))) (xs (ix (z1.1 + (3 : Int32)))) (xs (ix (z1.1 + (4 : Int32)))) z1.2.2).bind (fun q263 => grd (z1.1 + (1 : Int32)) nx (grd (z1.1 + (2 : Int32)) nx (grd (z1.1 + (3 : Int32)) nx (grd (z1.1 + (4 : Int32)) nx (gP (Lay q263.2.1) ((m_X12_fits (xs (ix (z1.1 + (1 : Int32)))) (xs (ix (z1.1 + (2 : Int32)))) (xs (ix (z1.1 + (3 : Int32)))) (xs (ix (z1.1 + (4 : Int32)))) q263.2.2).bind (fun q270 => if q263.1 = q270.1 then (some (.inl (q263.2.1, q270.2))) else (some (.inr (.inr (.inr ((0 : Int32), q263.2.1, q270.2))))))))))))))))))) else (if ((xs (ix z1.1)) &&& (31 : Int32)) = (17 : Int32) then (grd (z1.1 + (1 : Int32)) nx (grd (z1.1 + (2 : Int32)) nx (grd (z1.1 + (3 : Int32)) nx (grd (z1.1 + (4 : Int32)) nx (gP (Lay z1.2.1) (gP (SI z1.2.1) ((m_X11_drawn z1.2.1 (xs (ix (z1.1 + (1 : Int32)))) (xs (ix (z1.1 + (2 : Int32)))) (xs (ix (z1.1 + (3 : Int32)))) (xs (ix (z1.1 + (4 : Int32)))) z1.2.2).bind (fun q280 => grd (z1.1 + (1 : Int32)) nx (grd (z1.1 + (2 : Int32)) nx (grd (z1.1 + (3 : Int32)) nx (grd (z1.1 + (4 : Int32)) nx (gP (Lay q280.2.1) ((m_X12_drawn (xs (ix (z1.1 + (1 : Int32)))) (xs (ix (z1.1 + (2 : Int32)))) (xs (ix (z1.1 + (3 : Int32)))) (xs (ix (z1.1 + (4 : Int32)))) q280.2.2).bind (fun q287 => if q280.1 = q287.1 then (some (.inl (q280.2.1, q287.2))) else (some (.inr (.inr (.inr ((0 : Int32), q280.2.1, q287.2))))))))))))))))))) else (if ((xs (ix z1.1)) &&& (31 : Int32)) = (18 : Int32) then (grd (z1.1 + (1 : Int32)) nx (grd (z1.1 + (2 : Int32)) nx (gP (Lay z1.2.1) (gP (SI z1.2.1) ((m_X11_lone z1.2.1 (xs (ix (z1.1 + (1 : Int32)))) (xs (ix (z1.1 + (2 : Int32)))) z1.2.2).bind (fun q295 => grd (z1.1 + (1 : Int32)) nx (grd (z1.1 + (2 : Int32)) nx (gP (Lay q295.2.1) ((m_X12_lone (xs (ix (z1.1 + (1 : Int32)))) (xs (ix (z1.1 + (2 : Int32)))) q295.2.2).bind (fun q300 => if q295.1 = q300.1 then (some (.inl (q295.2.1, q300.2))) else (some (.inr (.inr (.inr ((0 : Int32), q295.2.1, q300.2))))))))))))))) else (if ((xs (ix z1.1)) &&& (31 : Int32)) = (19 : Int32) then (grd (z1.1 + (1 : Int32)) nx (grd (z1.1 + (2 : Int32)) nx (gP (Lay z1.2.1) (gP (SI z1.2.1) ((m_X11_chain z1.2.1 (xs (ix (z1.1 + (1 : Int32)))) (xs (ix (z1.1 + (2 : Int32)))) z1.2.2).bind (fun q308 => grd (z1.1 + (1 : Int32)) nx (grd (z1.1 + (2 : Int32)) nx (gP (Lay q308.2.1) ((m_X12_chain (xs (ix (z1.1 + (1 : Int32)))) (xs (ix (z1.1 + (2 : Int32)))) q308.2.2).bind (fun q313 => if q308.1 = q313.1 then (some (.inl (q308.2.1, q313.2))) else (some (.inr (.inr (.inr ((0 : Int32), q308.2.1, q313.2))))))))))))))) else (if ((xs (ix z1.1)) &&& (31 : Int32)) = (20 : Int32) then (grd (z1.1 + (1 : Int32)) nx (grd (z1.1 + (2 : Int32)) nx (grd (z1.1 + (3 : Int32)) nx (gP (Lay z1.2.1) (gP (SI z1.2.1) ((m_X11_steps z1.2.1 (xs (ix (z1.1 + (1 : Int32)))) (xs (ix (z1.1 + (2 : Int32)))) (xs (ix (z1.1 + (3 : Int32)))) z1.2.2).bind (fun q322 => grd (z1.1 + (1 : Int32)) nx (grd (z1.1 + (2 : Int32)) nx (grd (z1.1 + (3 : Int32)) nx (gP (Lay q322.2.1) ((m_X12_steps (xs (ix (z1.1 + (1 : Int32)))) (xs (ix (z1.1 + (2 : Int32)))) (xs (ix (z1.1 + (3 : Int32)))) q322.2.2).bind (fun q328 => if q322.1 = q328.1 then (some (.inl (q322.2.1, q328.2))) else (some (.inr (.inr (.inr ((0 : Int32), q322.2.1, q328.2))))))))))))))))) else (if ((xs (ix z1.1)) &&& (31 : Int32)) = (21 : Int32) then (grd (z1.1 + (1 : Int32)) nx (grd (z1.1 + (2 : Int32)) nx (grd (z1.1 + (3 : Int32)) nx (gP (Lay z1.2.1) (gP (SI z1.2.1) ((m_X11_after z1.2.1 (xs (ix (z1.1 + (1 : Int32)))) (xs (ix (z1.1 + (2 : Int32)))) (xs (ix (z1.1 + (3 : Int32)))) z1.2.2).bind (fun q337 => grd (z1.1 + (1 : Int32)) nx (grd (z1.1 + (2 : Int32)) nx (grd (z1.1 + (3 : Int32)) nx (gP (Lay q337.2.1) ((m_X12_after (xs (ix (z1.1 + (1 : Int32)))) (xs (ix (z1.1 + (2 : Int32)))) (xs (ix (z1.1 + (3 : Int32)))) q337.2.2).bind (fun q343 => if q337.1 = q343.1 then (some (.inl (q337.2.1, q343.2))) else (some (.inr (.inr (.inr ((0 : Int32), q337.2.1, q343.2))))))))))))))))) else (if ((xs (ix z1.1)) &&& (31 : Int32)) = (22 : Int32) then (grd (z1.1 + (1 : Int32)) nx (gP (Lay z1.2.1) ((m_X11_count (xs (ix (z1.1 + (1 : Int32)))) z1.2.2).bind (fun q349 => grd (z1.1 + (1 : Int32)) nx ((m_X12_count (xs (ix (z1.1 + (1 : Int32)))) z1.2.2).bind (fun q352 => if q349 = q352.1 then (some (.inl (z1.2.1, q352.2))) else (some (.inr (.inr (.inr ((0 : Int32), z1.2.1, q352.2))))))))))) else (if ((xs (ix z1.1)) &&& (31 : Int32)) = (23 : Int32) then (grd (z1.1 + (1 : Int32)) nx (gP (Lay z1.2.1) ((m_X11_image z1.2.1 (xs (ix (z1.1 + (1 : Int32)))) z1.2.2).bind (fun q358 => grd (z1.1 + (1 : Int32)) nx (gP (Lay q358.2.1) ((m_X12_image q358.2.1 (xs (ix (z1.1 + (1 : Int32)))) q358.2.2).bind (fun q362 => if q358.1 = q362.1 then (some (.inl (q358.2.1, q362.2))) else (some (.inr (.inr (.inr ((0 : Int32), q358.2.1, q362.2)))))))))))) else (if ((xs (ix z1.1)) &&& (31 : Int32)) = (24 : Int32) then (grd (z1.1 + (1 : Int32)) nx (gP (Lay z1.2.1) (gP (SI z1.2.1) ((m_X11_again z1.2.1 (xs (ix (z1.1 + (1 : Int32)))) z1.2.2).bind (fun q369 => grd (z1.1 + (1 : Int32)) nx (gP (Lay q369.2.1) ((m_X12_again q369.2.1 (xs (ix (z1.1 + (1 : Int32)))) q369.2.2).bind (fun q373 => if q369.1 = q373.1 then (some (.inl (q369.2.1, q373.2))) else (some (.inr (.inr (.inr ((0 : Int32), q369.2.1, q373.2))))))))))))) else (some (.inl (z1.2.1, z1.2.2))))))))))))))))))))))))))) : Option ((Sk × Mm) ⊕ ((Int32 × Sk × Mm) ⊕ ((Sk × Mm) ⊕ (Int32 × Sk × Mm))))) (fun p9 => some (.inl (z1.1 + (8 : Int32), p9.1, p9.2)))))
noncomputable def m_L_law (nx : Nat) (xs : Nat → Int32) (S : Sk) (a3 : Int32) (mm : Mm) : Option (Int32 × Sk × Mm) := bS (whileF FU (m_L_law_b18 nx xs) (a3, S, mm)) (fun p2 => some ((1 : Int32), p2.1, p2.2))
set_option maxHeartbeats 8000000 in
set_option maxRecDepth 100000 in
theorem c_L_law {l : Launch} {G : Gt} {S : Sk} {a3 : Int32} {mm : Mm} {nx : Nat} {xs : Nat → Int32} (hn : G.2.2.2.2.2.1 = nx) (hx : G.2.2.2.2.2.2 = xs) {q : Int32 × Sk × Mm} (e : m_L_law nx xs S a3 mm = some q) : Run l G M_L_law 18 18 [some (vx 0), some (vr (some 0)), some (vr (some 44)), some (vi a3)] [] S mm (some (vi q.1)) q.2.1 q.2.2 := by
  unfold m_L_law at e
  obtain ⟨x4, eb6w, elx4, erx4⟩ := bS_some e
  have J3 : ∀ p2 : Sk × Mm, x4 = .inl p2 → Run l G M_L_law 18 1215 [none, none, none, none] [] p2.1 p2.2 (some (vi q.1)) q.2.1 q.2.2 := by
    intro p2 hp2
    replace e := elx4 p2 hp2
    refine r_iconst (v := 1) dL_law_1215 ci_1 ?_
    cases e
    exact r_ireturn dL_law_1216 rfl (nz_b (by first | exact Or.inl rfl | exact Or.inr rfl)).1
  have J3w : Run l G M_L_law 18 18 [some (vx 0), some (vr (some 0)), some (vr (some 44)), some (vi a3)] [] S mm (some (vi q.1)) q.2.1 q.2.2 := by
    refine while_run (s := (a3, S, mm)) (Gs := fun (z1 : Int32 × Sk × Mm) => Run l G M_L_law 18 18 [some (vx 0), some (vr (some 0)), some (vr (some 44)), some (vi z1.1)] [] z1.2.1 z1.2.2 (some (vi q.1)) q.2.1 q.2.2) eb6w ?_
    intro z1 x4y eb6 hx5
    unfold m_L_law_b18 at eb6
    refine r_iload_n dL_law_18 rfl ?_
    refine r_aload_nx dL_law_19 rfl ?_
    refine r_slenn hn dL_law_20 ?_
    refine r_bipush (v := 8) dL_law_21 cb_8 ?_
    refine r_isub dL_law_23 ?_
    refine r_icmp_gt (tgt := 1215) dL_law_24 rfl (fun h7 => ?_) (fun h7 => ?_)
    · replace eb6 := ite_t h7 eb6
      cases eb6
      exact r_weak (L' := [none, none, none, none]) trivial (J3 _ (Eq.symm hx5))
    · replace eb6 := ite_f h7 eb6
      refine r_aload_nx dL_law_27 rfl ?_
      refine r_iload_n dL_law_28 rfl ?_
      obtain ⟨hg8, eb6⟩ := grd_some eb6
      refine r_sldn hn hx dL_law_29 hg8 ?_
      refine r_bipush (v := 31) dL_law_30 cb_31 ?_
      refine r_iand dL_law_32 ?_
      obtain ⟨x12, ep11, elx12, erx12⟩ := bS_some eb6
      have J10 : ∀ p9 : Sk × Mm, x12 = .inl p9 → Run l G M_L_law 18 1209 [some (vx 0), some (vr (some 0)), some (vr (some 44)), some (vi z1.1)] [] p9.1 p9.2 (some (vi q.1)) q.2.1 q.2.2 := by
        intro p9 hp9
        replace eb6 := elx12 p9 hp9
        refine r_iinc (v := _ + (8 : Int32)) dL_law_1209 rfl (congrArg (_ + ·) ci_8) (by decide) rfl ?_
        refine r_goto (tgt := 18) dL_law_1212 rfl ?_
        cases eb6
        exact r_weak (L' := [some (vx 0), some (vr (some 0)), some (vr (some 44)), some (vi (z1.1 + (8 : Int32)))]) ⟨rfl, rfl, rfl, rfl, trivial⟩ hx5
      by_cases h13 : ((xs (ix z1.1)) &&& (31 : Int32)) = (0 : Int32)
      · replace ep11 := ite_t h13 ep11
        refine r_table_in (tgt := 148) dL_law_33 (by rw [h13]; decide) (by rw [h13]; decide) (by rw [h13]; rfl) rfl ?_
        refine r_aload_n dL_law_148 rfl ?_
        refine r_aload_nx dL_law_149 rfl ?_
        refine r_iload_n dL_law_150 rfl ?_
        refine r_iconst (v := 1) dL_law_151 ci_1 ?_
        refine r_iadd dL_law_152 ?_
        obtain ⟨hg14, ep11⟩ := grd_some ep11
        refine r_sldn hn hx dL_law_153 hg14 ?_
        refine r_aload_nx dL_law_154 rfl ?_
        refine r_iload_n dL_law_155 rfl ?_
        refine r_iconst (v := 2) dL_law_156 ci_2 ?_
        refine r_iadd dL_law_157 ?_
        obtain ⟨hg15, ep11⟩ := grd_some ep11
        refine r_sldn hn hx dL_law_158 hg15 ?_
        refine r_aload_nx dL_law_159 rfl ?_
        refine r_iload_n dL_law_160 rfl ?_
        refine r_iconst (v := 3) dL_law_161 ci_3 ?_
        refine r_iadd dL_law_162 ?_
        obtain ⟨hg16, ep11⟩ := grd_some ep11
        refine r_sldn hn hx dL_law_163 hg16 ?_
        refine r_aload_nx dL_law_164 rfl ?_
        refine r_iload_n dL_law_165 rfl ?_
        refine r_iconst (v := 4) dL_law_166 ci_4 ?_
        refine r_iadd dL_law_167 ?_
        obtain ⟨hg17, ep11⟩ := grd_some ep11
        refine r_sldn hn hx dL_law_168 hg17 ?_
        refine r_aload_nx dL_law_169 rfl ?_
        refine r_iload_n dL_law_170 rfl ?_
        refine r_iconst (v := 5) dL_law_171 ci_5 ?_
        refine r_iadd dL_law_172 ?_
        obtain ⟨hg18, ep11⟩ := grd_some ep11
        refine r_sldn hn hx dL_law_173 hg18 ?_
        obtain ⟨hn19, ep11⟩ := gP_some ep11
        obtain ⟨q20, eq21, ep11⟩ := obind ep11
        refine r_callV (as := [_, _, _, _, _]) (rest := []) dL_law_174 ml_L_13 yV_X11_feed (c_X11_feed hn19 eq21) (by decide) rfl (lp_0 hn19) (lq_0 hn19) (Nat.le_of_ble_eq_true rfl) ?_
        refine r_aload_n dL_law_177 rfl ?_
        refine r_aload_nx dL_law_178 rfl ?_
        refine r_iload_n dL_law_179 rfl ?_
        refine r_iconst (v := 1) dL_law_180 ci_1 ?_
        refine r_iadd dL_law_181 ?_
        obtain ⟨hg22, ep11⟩ := grd_some ep11
        refine r_sldn hn hx dL_law_182 hg22 ?_
        refine r_aload_nx dL_law_183 rfl ?_
        refine r_iload_n dL_law_184 rfl ?_
        refine r_iconst (v := 2) dL_law_185 ci_2 ?_
        refine r_iadd dL_law_186 ?_
        obtain ⟨hg23, ep11⟩ := grd_some ep11
        refine r_sldn hn hx dL_law_187 hg23 ?_
        refine r_aload_nx dL_law_188 rfl ?_
        refine r_iload_n dL_law_189 rfl ?_
        refine r_iconst (v := 3) dL_law_190 ci_3 ?_
        refine r_iadd dL_law_191 ?_
        obtain ⟨hg24, ep11⟩ := grd_some ep11
        refine r_sldn hn hx dL_law_192 hg24 ?_
        refine r_aload_nx dL_law_193 rfl ?_
        refine r_iload_n dL_law_194 rfl ?_
        refine r_iconst (v := 4) dL_law_195 ci_4 ?_
        refine r_iadd dL_law_196 ?_
        obtain ⟨hg25, ep11⟩ := grd_some ep11
        refine r_sldn hn hx dL_law_197 hg25 ?_
        refine r_aload_nx dL_law_198 rfl ?_
        refine r_iload_n dL_law_199 rfl ?_
        refine r_iconst (v := 5) dL_law_200 ci_5 ?_
        refine r_iadd dL_law_201 ?_
        obtain ⟨hg26, ep11⟩ := grd_some ep11
        refine r_sldn hn hx dL_law_202 hg26 ?_
        obtain ⟨q27, eq28, ep11⟩ := obind ep11
        refine r_callV (as := [_, _, _, _, _]) (rest := [_]) dL_law_203 ml_L_17 yV_X12_feed (c_X12_feed hn19 eq28) (by decide) rfl (lp_44 hn19) (lq_44 hn19) (Nat.le_of_ble_eq_true rfl) ?_
        refine r_icmp_eq (tgt := 1209) dL_law_206 rfl (fun h29 => ?_) (fun h29 => ?_)
        · replace ep11 := ite_t h29 ep11
          cases ep11
          exact r_weak (L' := [some (vx 0), some (vr (some 0)), some (vr (some 44)), some (vi z1.1)]) ⟨rfl, rfl, rfl, rfl, trivial⟩ (J10 _ rfl)
        · replace ep11 := ite_f h29 ep11
          refine r_iconst (v := 0) dL_law_209 ci_0 ?_
          cases ep11
          have eb6 := congrArg some (erx12 _ rfl)
          cases eb6
          have e := congrArg some (erx4 _ (Eq.symm hx5))
          cases e
          exact r_ireturn dL_law_210 rfl (nz_b (by first | exact Or.inl rfl | exact Or.inr rfl)).1
      replace ep11 := ite_f h13 ep11
      by_cases h30 : ((xs (ix z1.1)) &&& (31 : Int32)) = (1 : Int32)
      · replace ep11 := ite_t h30 ep11
        refine r_table_in (tgt := 211) dL_law_33 (by rw [h30]; decide) (by rw [h30]; decide) (by rw [h30]; rfl) rfl ?_
        refine r_aload_n dL_law_211 rfl ?_
        refine r_aload_nx dL_law_212 rfl ?_
        refine r_iload_n dL_law_213 rfl ?_
        refine r_iconst (v := 1) dL_law_214 ci_1 ?_
        refine r_iadd dL_law_215 ?_
        obtain ⟨hg31, ep11⟩ := grd_some ep11
        refine r_sldn hn hx dL_law_216 hg31 ?_
        obtain ⟨hn32, ep11⟩ := gP_some ep11
        refine r_callV (as := [_]) (rest := []) dL_law_217 ml_L_18 yV_X11_end (c_X11_end hn32) (by decide) rfl (lp_0 hn32) (lq_0 hn32) (Nat.le_of_ble_eq_true rfl) ?_
        refine r_aload_n dL_law_220 rfl ?_
        refine r_aload_nx dL_law_221 rfl ?_
        refine r_iload_n dL_law_222 rfl ?_
        refine r_iconst (v := 1) dL_law_223 ci_1 ?_
        refine r_iadd dL_law_224 ?_
        obtain ⟨hg33, ep11⟩ := grd_some ep11
        refine r_sldn hn hx dL_law_225 hg33 ?_
        obtain ⟨q34, eq35, ep11⟩ := obind ep11
        refine r_callV (as := [_]) (rest := [_]) dL_law_226 ml_L_22 yV_X12_end (c_X12_end hn32 eq35) (by decide) rfl (lp_44 hn32) (lq_44 hn32) (Nat.le_of_ble_eq_true rfl) ?_
        refine r_icmp_eq (tgt := 1209) dL_law_229 rfl (fun h36 => ?_) (fun h36 => ?_)
        · replace ep11 := ite_t h36 ep11
          cases ep11
          exact r_weak (L' := [some (vx 0), some (vr (some 0)), some (vr (some 44)), some (vi z1.1)]) ⟨rfl, rfl, rfl, rfl, trivial⟩ (J10 _ rfl)
        · replace ep11 := ite_f h36 ep11
          refine r_iconst (v := 0) dL_law_232 ci_0 ?_
          cases ep11
          have eb6 := congrArg some (erx12 _ rfl)
          cases eb6
          have e := congrArg some (erx4 _ (Eq.symm hx5))
          cases e
          exact r_ireturn dL_law_233 rfl (nz_b (by first | exact Or.inl rfl | exact Or.inr rfl)).1
      replace ep11 := ite_f h30 ep11
      by_cases h37 : ((xs (ix z1.1)) &&& (31 : Int32)) = (2 : Int32)
      · replace ep11 := ite_t h37 ep11
        refine r_table_in (tgt := 234) dL_law_33 (by rw [h37]; decide) (by rw [h37]; decide) (by rw [h37]; rfl) rfl ?_
        refine r_aload_n dL_law_234 rfl ?_
        refine r_aload_nx dL_law_235 rfl ?_
        refine r_iload_n dL_law_236 rfl ?_
        refine r_iconst (v := 1) dL_law_237 ci_1 ?_
        refine r_iadd dL_law_238 ?_
        obtain ⟨hg38, ep11⟩ := grd_some ep11
        refine r_sldn hn hx dL_law_239 hg38 ?_
        refine r_aload_nx dL_law_240 rfl ?_
        refine r_iload_n dL_law_241 rfl ?_
        refine r_iconst (v := 2) dL_law_242 ci_2 ?_
        refine r_iadd dL_law_243 ?_
        obtain ⟨hg39, ep11⟩ := grd_some ep11
        refine r_sldn hn hx dL_law_244 hg39 ?_
        obtain ⟨hn40, ep11⟩ := gP_some ep11
        obtain ⟨q41, eq42, ep11⟩ := obind ep11
        refine r_callV (as := [_, _]) (rest := []) dL_law_245 ml_L_23 yV_X11_text (c_X11_text hn40 eq42) (by decide) rfl (lp_0 hn40) (lq_0 hn40) (Nat.le_of_ble_eq_true rfl) ?_
        refine r_aload_n dL_law_248 rfl ?_
        refine r_aload_nx dL_law_249 rfl ?_
        refine r_iload_n dL_law_250 rfl ?_
        refine r_iconst (v := 1) dL_law_251 ci_1 ?_
        refine r_iadd dL_law_252 ?_
        obtain ⟨hg43, ep11⟩ := grd_some ep11
        refine r_sldn hn hx dL_law_253 hg43 ?_
        refine r_aload_nx dL_law_254 rfl ?_
        refine r_iload_n dL_law_255 rfl ?_
        refine r_iconst (v := 2) dL_law_256 ci_2 ?_
        refine r_iadd dL_law_257 ?_
        obtain ⟨hg44, ep11⟩ := grd_some ep11
        refine r_sldn hn hx dL_law_258 hg44 ?_
        obtain ⟨hn45, ep11⟩ := gP_some ep11
        obtain ⟨q46, eq47, ep11⟩ := obind ep11
        refine r_callV (as := [_, _]) (rest := [_]) dL_law_259 ml_L_27 yV_X12_text (c_X12_text hn45 eq47) (by decide) rfl (lp_44 hn45) (lq_44 hn45) (Nat.le_of_ble_eq_true rfl) ?_
        refine r_icmp_eq (tgt := 1209) dL_law_262 rfl (fun h48 => ?_) (fun h48 => ?_)
        · replace ep11 := ite_t h48 ep11
          cases ep11
          exact r_weak (L' := [some (vx 0), some (vr (some 0)), some (vr (some 44)), some (vi z1.1)]) ⟨rfl, rfl, rfl, rfl, trivial⟩ (J10 _ rfl)
        · replace ep11 := ite_f h48 ep11
          refine r_iconst (v := 0) dL_law_265 ci_0 ?_
          cases ep11
          have eb6 := congrArg some (erx12 _ rfl)
          cases eb6
          have e := congrArg some (erx4 _ (Eq.symm hx5))
          cases e
          exact r_ireturn dL_law_266 rfl (nz_b (by first | exact Or.inl rfl | exact Or.inr rfl)).1
      replace ep11 := ite_f h37 ep11
      by_cases h49 : ((xs (ix z1.1)) &&& (31 : Int32)) = (3 : Int32)
      · replace ep11 := ite_t h49 ep11
        refine r_table_in (tgt := 267) dL_law_33 (by rw [h49]; decide) (by rw [h49]; decide) (by rw [h49]; rfl) rfl ?_
        refine r_aload_n dL_law_267 rfl ?_
        refine r_aload_nx dL_law_268 rfl ?_
        refine r_iload_n dL_law_269 rfl ?_
        refine r_iconst (v := 1) dL_law_270 ci_1 ?_
        refine r_iadd dL_law_271 ?_
        obtain ⟨hg50, ep11⟩ := grd_some ep11
        refine r_sldn hn hx dL_law_272 hg50 ?_
        obtain ⟨hn51, ep11⟩ := gP_some ep11
        refine r_callV (as := [_]) (rest := []) dL_law_273 ml_L_28 yV_X11_fault (c_X11_fault hn51) (by decide) rfl (lp_0 hn51) (lq_0 hn51) (Nat.le_of_ble_eq_true rfl) ?_
        refine r_aload_n dL_law_276 rfl ?_
        refine r_aload_nx dL_law_277 rfl ?_
        refine r_iload_n dL_law_278 rfl ?_
        refine r_iconst (v := 1) dL_law_279 ci_1 ?_
        refine r_iadd dL_law_280 ?_
        obtain ⟨hg52, ep11⟩ := grd_some ep11
        refine r_sldn hn hx dL_law_281 hg52 ?_
        obtain ⟨q53, eq54, ep11⟩ := obind ep11
        refine r_callV (as := [_]) (rest := [_]) dL_law_282 ml_L_31 yV_X12_fault (c_X12_fault hn51 eq54) (by decide) rfl (lp_44 hn51) (lq_44 hn51) (Nat.le_of_ble_eq_true rfl) ?_
        refine r_icmp_eq (tgt := 1209) dL_law_285 rfl (fun h55 => ?_) (fun h55 => ?_)
        · replace ep11 := ite_t h55 ep11
          cases ep11
          exact r_weak (L' := [some (vx 0), some (vr (some 0)), some (vr (some 44)), some (vi z1.1)]) ⟨rfl, rfl, rfl, rfl, trivial⟩ (J10 _ rfl)
        · replace ep11 := ite_f h55 ep11
          refine r_iconst (v := 0) dL_law_288 ci_0 ?_
          cases ep11
          have eb6 := congrArg some (erx12 _ rfl)
          cases eb6
          have e := congrArg some (erx4 _ (Eq.symm hx5))
          cases e
          exact r_ireturn dL_law_289 rfl (nz_b (by first | exact Or.inl rfl | exact Or.inr rfl)).1
      replace ep11 := ite_f h49 ep11
      by_cases h56 : ((xs (ix z1.1)) &&& (31 : Int32)) = (4 : Int32)
      · replace ep11 := ite_t h56 ep11
        refine r_table_in (tgt := 290) dL_law_33 (by rw [h56]; decide) (by rw [h56]; decide) (by rw [h56]; rfl) rfl ?_
        refine r_aload_n dL_law_290 rfl ?_
        refine r_aload_nx dL_law_291 rfl ?_
        refine r_iload_n dL_law_292 rfl ?_
        refine r_iconst (v := 1) dL_law_293 ci_1 ?_
        refine r_iadd dL_law_294 ?_
        obtain ⟨hg57, ep11⟩ := grd_some ep11
        refine r_sldn hn hx dL_law_295 hg57 ?_
        refine r_aload_nx dL_law_296 rfl ?_
        refine r_iload_n dL_law_297 rfl ?_
        refine r_iconst (v := 2) dL_law_298 ci_2 ?_
        refine r_iadd dL_law_299 ?_
        obtain ⟨hg58, ep11⟩ := grd_some ep11
        refine r_sldn hn hx dL_law_300 hg58 ?_
        obtain ⟨hn59, ep11⟩ := gP_some ep11
        obtain ⟨hn60, ep11⟩ := gP_some ep11
        obtain ⟨q61, eq62, ep11⟩ := obind ep11
        refine r_callV (as := [_, _]) (rest := []) dL_law_301 ml_L_32 yV_X11_county (c_X11_county hn60 eq62) (by decide) rfl (lp_0 hn59) (lq_0 hn59) (Nat.le_of_ble_eq_true rfl) ?_
        refine r_aload_n dL_law_304 rfl ?_
        refine r_aload_nx dL_law_305 rfl ?_
        refine r_iload_n dL_law_306 rfl ?_
        refine r_iconst (v := 1) dL_law_307 ci_1 ?_
        refine r_iadd dL_law_308 ?_
        obtain ⟨hg63, ep11⟩ := grd_some ep11
        refine r_sldn hn hx dL_law_309 hg63 ?_
        refine r_aload_nx dL_law_310 rfl ?_
        refine r_iload_n dL_law_311 rfl ?_
        refine r_iconst (v := 2) dL_law_312 ci_2 ?_
        refine r_iadd dL_law_313 ?_
        obtain ⟨hg64, ep11⟩ := grd_some ep11
        refine r_sldn hn hx dL_law_314 hg64 ?_
        obtain ⟨q65, eq66, ep11⟩ := obind ep11
        refine r_callV (as := [_, _]) (rest := [_]) dL_law_315 ml_L_35 yV_X12_county (c_X12_county hn60.1 eq66) (by decide) rfl (lp_44 hn60.1) (lq_44 hn60.1) (Nat.le_of_ble_eq_true rfl) ?_
        refine r_icmp_eq (tgt := 1209) dL_law_318 rfl (fun h67 => ?_) (fun h67 => ?_)
        · replace ep11 := ite_t h67 ep11
          cases ep11
          exact r_weak (L' := [some (vx 0), some (vr (some 0)), some (vr (some 44)), some (vi z1.1)]) ⟨rfl, rfl, rfl, rfl, trivial⟩ (J10 _ rfl)
        · replace ep11 := ite_f h67 ep11
          refine r_iconst (v := 0) dL_law_321 ci_0 ?_
          cases ep11
          have eb6 := congrArg some (erx12 _ rfl)
          cases eb6
          have e := congrArg some (erx4 _ (Eq.symm hx5))
          cases e
          exact r_ireturn dL_law_322 rfl (nz_b (by first | exact Or.inl rfl | exact Or.inr rfl)).1
      replace ep11 := ite_f h56 ep11
      by_cases h68 : ((xs (ix z1.1)) &&& (31 : Int32)) = (5 : Int32)
      · replace ep11 := ite_t h68 ep11
        refine r_table_in (tgt := 323) dL_law_33 (by rw [h68]; decide) (by rw [h68]; decide) (by rw [h68]; rfl) rfl ?_
        refine r_aload_n dL_law_323 rfl ?_
        refine r_aload_nx dL_law_324 rfl ?_
        refine r_iload_n dL_law_325 rfl ?_
        refine r_iconst (v := 1) dL_law_326 ci_1 ?_
        refine r_iadd dL_law_327 ?_
        obtain ⟨hg69, ep11⟩ := grd_some ep11
        refine r_sldn hn hx dL_law_328 hg69 ?_
        refine r_aload_nx dL_law_329 rfl ?_
        refine r_iload_n dL_law_330 rfl ?_
        refine r_iconst (v := 2) dL_law_331 ci_2 ?_
        refine r_iadd dL_law_332 ?_
        obtain ⟨hg70, ep11⟩ := grd_some ep11
        refine r_sldn hn hx dL_law_333 hg70 ?_
        refine r_aload_nx dL_law_334 rfl ?_
        refine r_iload_n dL_law_335 rfl ?_
        refine r_iconst (v := 3) dL_law_336 ci_3 ?_
        refine r_iadd dL_law_337 ?_
        obtain ⟨hg71, ep11⟩ := grd_some ep11
        refine r_sldn hn hx dL_law_338 hg71 ?_
        obtain ⟨hn72, ep11⟩ := gP_some ep11
        obtain ⟨hn73, ep11⟩ := gP_some ep11
        obtain ⟨q74, eq75, ep11⟩ := obind ep11
        refine r_callV (as := [_, _, _]) (rest := []) dL_law_339 ml_L_36 yV_X11_deed (c_X11_deed hn73 eq75) (by decide) rfl (lp_0 hn72) (lq_0 hn72) (Nat.le_of_ble_eq_true rfl) ?_
        refine r_aload_n dL_law_342 rfl ?_
        refine r_aload_nx dL_law_343 rfl ?_
        refine r_iload_n dL_law_344 rfl ?_
        refine r_iconst (v := 1) dL_law_345 ci_1 ?_
        refine r_iadd dL_law_346 ?_
        obtain ⟨hg76, ep11⟩ := grd_some ep11
        refine r_sldn hn hx dL_law_347 hg76 ?_
        refine r_aload_nx dL_law_348 rfl ?_
        refine r_iload_n dL_law_349 rfl ?_
        refine r_iconst (v := 2) dL_law_350 ci_2 ?_
        refine r_iadd dL_law_351 ?_
        obtain ⟨hg77, ep11⟩ := grd_some ep11
        refine r_sldn hn hx dL_law_352 hg77 ?_
        refine r_aload_nx dL_law_353 rfl ?_
        refine r_iload_n dL_law_354 rfl ?_
        refine r_iconst (v := 3) dL_law_355 ci_3 ?_
        refine r_iadd dL_law_356 ?_
        obtain ⟨hg78, ep11⟩ := grd_some ep11
        refine r_sldn hn hx dL_law_357 hg78 ?_
        obtain ⟨q79, eq80, ep11⟩ := obind ep11
        refine r_callV (as := [_, _, _]) (rest := [_]) dL_law_358 ml_L_40 yV_X12_deed (c_X12_deed hn73.1 eq80) (by decide) rfl (lp_44 hn73.1) (lq_44 hn73.1) (Nat.le_of_ble_eq_true rfl) ?_
        refine r_icmp_eq (tgt := 1209) dL_law_361 rfl (fun h81 => ?_) (fun h81 => ?_)
        · replace ep11 := ite_t h81 ep11
          cases ep11
          exact r_weak (L' := [some (vx 0), some (vr (some 0)), some (vr (some 44)), some (vi z1.1)]) ⟨rfl, rfl, rfl, rfl, trivial⟩ (J10 _ rfl)
        · replace ep11 := ite_f h81 ep11
          refine r_iconst (v := 0) dL_law_364 ci_0 ?_
          cases ep11
          have eb6 := congrArg some (erx12 _ rfl)
          cases eb6
          have e := congrArg some (erx4 _ (Eq.symm hx5))
          cases e
          exact r_ireturn dL_law_365 rfl (nz_b (by first | exact Or.inl rfl | exact Or.inr rfl)).1
      replace ep11 := ite_f h68 ep11
      by_cases h82 : ((xs (ix z1.1)) &&& (31 : Int32)) = (6 : Int32)
      · replace ep11 := ite_t h82 ep11
        refine r_table_in (tgt := 366) dL_law_33 (by rw [h82]; decide) (by rw [h82]; decide) (by rw [h82]; rfl) rfl ?_
        refine r_aload_n dL_law_366 rfl ?_
        refine r_aload_nx dL_law_367 rfl ?_
        refine r_iload_n dL_law_368 rfl ?_
        refine r_iconst (v := 1) dL_law_369 ci_1 ?_
        refine r_iadd dL_law_370 ?_
        obtain ⟨hg83, ep11⟩ := grd_some ep11
        refine r_sldn hn hx dL_law_371 hg83 ?_
        refine r_aload_nx dL_law_372 rfl ?_
        refine r_iload_n dL_law_373 rfl ?_
        refine r_iconst (v := 2) dL_law_374 ci_2 ?_
        refine r_iadd dL_law_375 ?_
        obtain ⟨hg84, ep11⟩ := grd_some ep11
        refine r_sldn hn hx dL_law_376 hg84 ?_
        obtain ⟨hn85, ep11⟩ := gP_some ep11
        obtain ⟨hn86, ep11⟩ := gP_some ep11
        obtain ⟨q87, eq88, ep11⟩ := obind ep11
        refine r_callV (as := [_, _]) (rest := []) dL_law_377 ml_L_41 yV_X11_stop (c_X11_stop hn86 eq88) (by decide) rfl (lp_0 hn85) (lq_0 hn85) (Nat.le_of_ble_eq_true rfl) ?_
        refine r_aload_n dL_law_380 rfl ?_
        refine r_aload_nx dL_law_381 rfl ?_
        refine r_iload_n dL_law_382 rfl ?_
        refine r_iconst (v := 1) dL_law_383 ci_1 ?_
        refine r_iadd dL_law_384 ?_
        obtain ⟨hg89, ep11⟩ := grd_some ep11
        refine r_sldn hn hx dL_law_385 hg89 ?_
        refine r_aload_nx dL_law_386 rfl ?_
        refine r_iload_n dL_law_387 rfl ?_
        refine r_iconst (v := 2) dL_law_388 ci_2 ?_
        refine r_iadd dL_law_389 ?_
        obtain ⟨hg90, ep11⟩ := grd_some ep11
        refine r_sldn hn hx dL_law_390 hg90 ?_
        obtain ⟨hn91, ep11⟩ := gP_some ep11
        obtain ⟨q92, eq93, ep11⟩ := obind ep11
        refine r_callV (as := [_, _]) (rest := [_]) dL_law_391 ml_L_44 yV_X12_stop (c_X12_stop hn91 eq93) (by decide) rfl (lp_44 hn91) (lq_44 hn91) (Nat.le_of_ble_eq_true rfl) ?_
        refine r_icmp_eq (tgt := 1209) dL_law_394 rfl (fun h94 => ?_) (fun h94 => ?_)
        · replace ep11 := ite_t h94 ep11
          cases ep11
          exact r_weak (L' := [some (vx 0), some (vr (some 0)), some (vr (some 44)), some (vi z1.1)]) ⟨rfl, rfl, rfl, rfl, trivial⟩ (J10 _ rfl)
        · replace ep11 := ite_f h94 ep11
          refine r_iconst (v := 0) dL_law_397 ci_0 ?_
          cases ep11
          have eb6 := congrArg some (erx12 _ rfl)
          cases eb6
          have e := congrArg some (erx4 _ (Eq.symm hx5))
          cases e
          exact r_ireturn dL_law_398 rfl (nz_b (by first | exact Or.inl rfl | exact Or.inr rfl)).1
      replace ep11 := ite_f h82 ep11
      by_cases h95 : ((xs (ix z1.1)) &&& (31 : Int32)) = (7 : Int32)
      · replace ep11 := ite_t h95 ep11
        refine r_table_in (tgt := 399) dL_law_33 (by rw [h95]; decide) (by rw [h95]; decide) (by rw [h95]; rfl) rfl ?_
        refine r_aload_n dL_law_399 rfl ?_
        refine r_aload_nx dL_law_400 rfl ?_
        refine r_iload_n dL_law_401 rfl ?_
        refine r_iconst (v := 1) dL_law_402 ci_1 ?_
        refine r_iadd dL_law_403 ?_
        obtain ⟨hg96, ep11⟩ := grd_some ep11
        refine r_sldn hn hx dL_law_404 hg96 ?_
        refine r_aload_nx dL_law_405 rfl ?_
        refine r_iload_n dL_law_406 rfl ?_
        refine r_iconst (v := 2) dL_law_407 ci_2 ?_
        refine r_iadd dL_law_408 ?_
        obtain ⟨hg97, ep11⟩ := grd_some ep11
        refine r_sldn hn hx dL_law_409 hg97 ?_
        refine r_aload_nx dL_law_410 rfl ?_
        refine r_iload_n dL_law_411 rfl ?_
        refine r_iconst (v := 3) dL_law_412 ci_3 ?_
        refine r_iadd dL_law_413 ?_
        obtain ⟨hg98, ep11⟩ := grd_some ep11
        refine r_sldn hn hx dL_law_414 hg98 ?_
        refine r_aload_nx dL_law_415 rfl ?_
        refine r_iload_n dL_law_416 rfl ?_
        refine r_iconst (v := 4) dL_law_417 ci_4 ?_
        refine r_iadd dL_law_418 ?_
        obtain ⟨hg99, ep11⟩ := grd_some ep11
        refine r_sldn hn hx dL_law_419 hg99 ?_
        obtain ⟨hn100, ep11⟩ := gP_some ep11
        obtain ⟨hn101, ep11⟩ := gP_some ep11
        obtain ⟨q102, eq103, ep11⟩ := obind ep11
        refine r_callV (as := [_, _, _, _]) (rest := []) dL_law_420 ml_L_45 yV_X11_state (c_X11_state hn101 eq103) (by decide) rfl (lp_0 hn100) (lq_0 hn100) (Nat.le_of_ble_eq_true rfl) ?_
        refine r_aload_n dL_law_423 rfl ?_
        refine r_aload_nx dL_law_424 rfl ?_
        refine r_iload_n dL_law_425 rfl ?_
        refine r_iconst (v := 1) dL_law_426 ci_1 ?_
        refine r_iadd dL_law_427 ?_
        obtain ⟨hg104, ep11⟩ := grd_some ep11
        refine r_sldn hn hx dL_law_428 hg104 ?_
        refine r_aload_nx dL_law_429 rfl ?_
        refine r_iload_n dL_law_430 rfl ?_
        refine r_iconst (v := 2) dL_law_431 ci_2 ?_
        refine r_iadd dL_law_432 ?_
        obtain ⟨hg105, ep11⟩ := grd_some ep11
        refine r_sldn hn hx dL_law_433 hg105 ?_
        refine r_aload_nx dL_law_434 rfl ?_
        refine r_iload_n dL_law_435 rfl ?_
        refine r_iconst (v := 3) dL_law_436 ci_3 ?_
        refine r_iadd dL_law_437 ?_
        obtain ⟨hg106, ep11⟩ := grd_some ep11
        refine r_sldn hn hx dL_law_438 hg106 ?_
        refine r_aload_nx dL_law_439 rfl ?_
        refine r_iload_n dL_law_440 rfl ?_
        refine r_iconst (v := 4) dL_law_441 ci_4 ?_
        refine r_iadd dL_law_442 ?_
        obtain ⟨hg107, ep11⟩ := grd_some ep11
        refine r_sldn hn hx dL_law_443 hg107 ?_
        obtain ⟨hn108, ep11⟩ := gP_some ep11
        obtain ⟨q109, eq110, ep11⟩ := obind ep11
        refine r_callV (as := [_, _, _, _]) (rest := [_]) dL_law_444 ml_L_49 yV_X12_state (c_X12_state hn108 eq110) (by decide) rfl (lp_44 hn108) (lq_44 hn108) (Nat.le_of_ble_eq_true rfl) ?_
        refine r_icmp_eq (tgt := 1209) dL_law_447 rfl (fun h111 => ?_) (fun h111 => ?_)
        · replace ep11 := ite_t h111 ep11
          cases ep11
          exact r_weak (L' := [some (vx 0), some (vr (some 0)), some (vr (some 44)), some (vi z1.1)]) ⟨rfl, rfl, rfl, rfl, trivial⟩ (J10 _ rfl)
        · replace ep11 := ite_f h111 ep11
          refine r_iconst (v := 0) dL_law_450 ci_0 ?_
          cases ep11
          have eb6 := congrArg some (erx12 _ rfl)
          cases eb6
          have e := congrArg some (erx4 _ (Eq.symm hx5))
          cases e
          exact r_ireturn dL_law_451 rfl (nz_b (by first | exact Or.inl rfl | exact Or.inr rfl)).1
      replace ep11 := ite_f h95 ep11
      by_cases h112 : ((xs (ix z1.1)) &&& (31 : Int32)) = (8 : Int32)
      · replace ep11 := ite_t h112 ep11
        refine r_table_in (tgt := 452) dL_law_33 (by rw [h112]; decide) (by rw [h112]; decide) (by rw [h112]; rfl) rfl ?_
        refine r_aload_n dL_law_452 rfl ?_
        refine r_aload_nx dL_law_453 rfl ?_
        refine r_iload_n dL_law_454 rfl ?_
        refine r_iconst (v := 1) dL_law_455 ci_1 ?_
        refine r_iadd dL_law_456 ?_
        obtain ⟨hg113, ep11⟩ := grd_some ep11
        refine r_sldn hn hx dL_law_457 hg113 ?_
        refine r_aload_nx dL_law_458 rfl ?_
        refine r_iload_n dL_law_459 rfl ?_
        refine r_iconst (v := 2) dL_law_460 ci_2 ?_
        refine r_iadd dL_law_461 ?_
        obtain ⟨hg114, ep11⟩ := grd_some ep11
        refine r_sldn hn hx dL_law_462 hg114 ?_
        refine r_aload_nx dL_law_463 rfl ?_
        refine r_iload_n dL_law_464 rfl ?_
        refine r_iconst (v := 3) dL_law_465 ci_3 ?_
        refine r_iadd dL_law_466 ?_
        obtain ⟨hg115, ep11⟩ := grd_some ep11
        refine r_sldn hn hx dL_law_467 hg115 ?_
        obtain ⟨hn116, ep11⟩ := gP_some ep11
        obtain ⟨hn117, ep11⟩ := gP_some ep11
        obtain ⟨q118, eq119, ep11⟩ := obind ep11
        refine r_callV (as := [_, _, _]) (rest := []) dL_law_468 ml_L_50 yV_X11_keeps (c_X11_keeps hn117 eq119) (by decide) rfl (lp_0 hn116) (lq_0 hn116) (Nat.le_of_ble_eq_true rfl) ?_
        refine r_aload_n dL_law_471 rfl ?_
        refine r_aload_nx dL_law_472 rfl ?_
        refine r_iload_n dL_law_473 rfl ?_
        refine r_iconst (v := 1) dL_law_474 ci_1 ?_
        refine r_iadd dL_law_475 ?_
        obtain ⟨hg120, ep11⟩ := grd_some ep11
        refine r_sldn hn hx dL_law_476 hg120 ?_
        refine r_aload_nx dL_law_477 rfl ?_
        refine r_iload_n dL_law_478 rfl ?_
        refine r_iconst (v := 2) dL_law_479 ci_2 ?_
        refine r_iadd dL_law_480 ?_
        obtain ⟨hg121, ep11⟩ := grd_some ep11
        refine r_sldn hn hx dL_law_481 hg121 ?_
        refine r_aload_nx dL_law_482 rfl ?_
        refine r_iload_n dL_law_483 rfl ?_
        refine r_iconst (v := 3) dL_law_484 ci_3 ?_
        refine r_iadd dL_law_485 ?_
        obtain ⟨hg122, ep11⟩ := grd_some ep11
        refine r_sldn hn hx dL_law_486 hg122 ?_
        obtain ⟨hn123, ep11⟩ := gP_some ep11
        obtain ⟨q124, eq125, ep11⟩ := obind ep11
        refine r_callV (as := [_, _, _]) (rest := [_]) dL_law_487 ml_L_53 yV_X12_keeps (c_X12_keeps hn123 eq125) (by decide) rfl (lp_44 hn123) (lq_44 hn123) (Nat.le_of_ble_eq_true rfl) ?_
        refine r_icmp_eq (tgt := 1209) dL_law_490 rfl (fun h126 => ?_) (fun h126 => ?_)
        · replace ep11 := ite_t h126 ep11
          cases ep11
          exact r_weak (L' := [some (vx 0), some (vr (some 0)), some (vr (some 44)), some (vi z1.1)]) ⟨rfl, rfl, rfl, rfl, trivial⟩ (J10 _ rfl)
        · replace ep11 := ite_f h126 ep11
          refine r_iconst (v := 0) dL_law_493 ci_0 ?_
          cases ep11
          have eb6 := congrArg some (erx12 _ rfl)
          cases eb6
          have e := congrArg some (erx4 _ (Eq.symm hx5))
          cases e
          exact r_ireturn dL_law_494 rfl (nz_b (by first | exact Or.inl rfl | exact Or.inr rfl)).1
      replace ep11 := ite_f h112 ep11
      by_cases h127 : ((xs (ix z1.1)) &&& (31 : Int32)) = (9 : Int32)
      · replace ep11 := ite_t h127 ep11
        refine r_table_in (tgt := 495) dL_law_33 (by rw [h127]; decide) (by rw [h127]; decide) (by rw [h127]; rfl) rfl ?_
        refine r_aload_n dL_law_495 rfl ?_
        refine r_aload_nx dL_law_496 rfl ?_
        refine r_iload_n dL_law_497 rfl ?_
        refine r_iconst (v := 1) dL_law_498 ci_1 ?_
        refine r_iadd dL_law_499 ?_
        obtain ⟨hg128, ep11⟩ := grd_some ep11
        refine r_sldn hn hx dL_law_500 hg128 ?_
        refine r_aload_nx dL_law_501 rfl ?_
        refine r_iload_n dL_law_502 rfl ?_
        refine r_iconst (v := 2) dL_law_503 ci_2 ?_
        refine r_iadd dL_law_504 ?_
        obtain ⟨hg129, ep11⟩ := grd_some ep11
        refine r_sldn hn hx dL_law_505 hg129 ?_
        refine r_aload_nx dL_law_506 rfl ?_
        refine r_iload_n dL_law_507 rfl ?_
        refine r_iconst (v := 3) dL_law_508 ci_3 ?_
        refine r_iadd dL_law_509 ?_
        obtain ⟨hg130, ep11⟩ := grd_some ep11
        refine r_sldn hn hx dL_law_510 hg130 ?_
        obtain ⟨hn131, ep11⟩ := gP_some ep11
        obtain ⟨hn132, ep11⟩ := gP_some ep11
        obtain ⟨q133, eq134, ep11⟩ := obind ep11
        refine r_callV (as := [_, _, _]) (rest := []) dL_law_511 ml_L_54 yV_X11_heart (c_X11_heart hn132 eq134) (by decide) rfl (lp_0 hn131) (lq_0 hn131) (Nat.le_of_ble_eq_true rfl) ?_
        refine r_aload_n dL_law_514 rfl ?_
        refine r_aload_nx dL_law_515 rfl ?_
        refine r_iload_n dL_law_516 rfl ?_
        refine r_iconst (v := 1) dL_law_517 ci_1 ?_
        refine r_iadd dL_law_518 ?_
        obtain ⟨hg135, ep11⟩ := grd_some ep11
        refine r_sldn hn hx dL_law_519 hg135 ?_
        refine r_aload_nx dL_law_520 rfl ?_
        refine r_iload_n dL_law_521 rfl ?_
        refine r_iconst (v := 2) dL_law_522 ci_2 ?_
        refine r_iadd dL_law_523 ?_
        obtain ⟨hg136, ep11⟩ := grd_some ep11
        refine r_sldn hn hx dL_law_524 hg136 ?_
        refine r_aload_nx dL_law_525 rfl ?_
        refine r_iload_n dL_law_526 rfl ?_
        refine r_iconst (v := 3) dL_law_527 ci_3 ?_
        refine r_iadd dL_law_528 ?_
        obtain ⟨hg137, ep11⟩ := grd_some ep11
        refine r_sldn hn hx dL_law_529 hg137 ?_
        obtain ⟨hn138, ep11⟩ := gP_some ep11
        obtain ⟨q139, eq140, ep11⟩ := obind ep11
        refine r_callV (as := [_, _, _]) (rest := [_]) dL_law_530 ml_L_57 yV_X12_heart (c_X12_heart hn138 eq140) (by decide) rfl (lp_44 hn138) (lq_44 hn138) (Nat.le_of_ble_eq_true rfl) ?_
        refine r_icmp_eq (tgt := 1209) dL_law_533 rfl (fun h141 => ?_) (fun h141 => ?_)
        · replace ep11 := ite_t h141 ep11
          cases ep11
          exact r_weak (L' := [some (vx 0), some (vr (some 0)), some (vr (some 44)), some (vi z1.1)]) ⟨rfl, rfl, rfl, rfl, trivial⟩ (J10 _ rfl)
        · replace ep11 := ite_f h141 ep11
          refine r_iconst (v := 0) dL_law_536 ci_0 ?_
          cases ep11
          have eb6 := congrArg some (erx12 _ rfl)
          cases eb6
          have e := congrArg some (erx4 _ (Eq.symm hx5))
          cases e
          exact r_ireturn dL_law_537 rfl (nz_b (by first | exact Or.inl rfl | exact Or.inr rfl)).1
      replace ep11 := ite_f h127 ep11
      by_cases h142 : ((xs (ix z1.1)) &&& (31 : Int32)) = (10 : Int32)
      · replace ep11 := ite_t h142 ep11
        refine r_table_in (tgt := 538) dL_law_33 (by rw [h142]; decide) (by rw [h142]; decide) (by rw [h142]; rfl) rfl ?_
        refine r_aload_n dL_law_538 rfl ?_
        refine r_aload_nx dL_law_539 rfl ?_
        refine r_iload_n dL_law_540 rfl ?_
        refine r_iconst (v := 1) dL_law_541 ci_1 ?_
        refine r_iadd dL_law_542 ?_
        obtain ⟨hg143, ep11⟩ := grd_some ep11
        refine r_sldn hn hx dL_law_543 hg143 ?_
        refine r_aload_nx dL_law_544 rfl ?_
        refine r_iload_n dL_law_545 rfl ?_
        refine r_iconst (v := 2) dL_law_546 ci_2 ?_
        refine r_iadd dL_law_547 ?_
        obtain ⟨hg144, ep11⟩ := grd_some ep11
        refine r_sldn hn hx dL_law_548 hg144 ?_
        obtain ⟨hn145, ep11⟩ := gP_some ep11
        obtain ⟨hn146, ep11⟩ := gP_some ep11
        obtain ⟨q147, eq148, ep11⟩ := obind ep11
        refine r_callV (as := [_, _]) (rest := []) dL_law_549 ml_L_58 yV_X11_fall (c_X11_fall hn146 eq148) (by decide) rfl (lp_0 hn145) (lq_0 hn145) (Nat.le_of_ble_eq_true rfl) ?_
        refine r_aload_n dL_law_552 rfl ?_
        refine r_aload_nx dL_law_553 rfl ?_
        refine r_iload_n dL_law_554 rfl ?_
        refine r_iconst (v := 1) dL_law_555 ci_1 ?_
        refine r_iadd dL_law_556 ?_
        obtain ⟨hg149, ep11⟩ := grd_some ep11
        refine r_sldn hn hx dL_law_557 hg149 ?_
        refine r_aload_nx dL_law_558 rfl ?_
        refine r_iload_n dL_law_559 rfl ?_
        refine r_iconst (v := 2) dL_law_560 ci_2 ?_
        refine r_iadd dL_law_561 ?_
        obtain ⟨hg150, ep11⟩ := grd_some ep11
        refine r_sldn hn hx dL_law_562 hg150 ?_
        obtain ⟨hn151, ep11⟩ := gP_some ep11
        obtain ⟨q152, eq153, ep11⟩ := obind ep11
        refine r_callV (as := [_, _]) (rest := [_]) dL_law_563 ml_L_61 yV_X12_fall (c_X12_fall hn151 eq153) (by decide) rfl (lp_44 hn151) (lq_44 hn151) (Nat.le_of_ble_eq_true rfl) ?_
        refine r_icmp_eq (tgt := 1209) dL_law_566 rfl (fun h154 => ?_) (fun h154 => ?_)
        · replace ep11 := ite_t h154 ep11
          cases ep11
          exact r_weak (L' := [some (vx 0), some (vr (some 0)), some (vr (some 44)), some (vi z1.1)]) ⟨rfl, rfl, rfl, rfl, trivial⟩ (J10 _ rfl)
        · replace ep11 := ite_f h154 ep11
          refine r_iconst (v := 0) dL_law_569 ci_0 ?_
          cases ep11
          have eb6 := congrArg some (erx12 _ rfl)
          cases eb6
          have e := congrArg some (erx4 _ (Eq.symm hx5))
          cases e
          exact r_ireturn dL_law_570 rfl (nz_b (by first | exact Or.inl rfl | exact Or.inr rfl)).1
      replace ep11 := ite_f h142 ep11
      by_cases h155 : ((xs (ix z1.1)) &&& (31 : Int32)) = (11 : Int32)
      · replace ep11 := ite_t h155 ep11
        refine r_table_in (tgt := 571) dL_law_33 (by rw [h155]; decide) (by rw [h155]; decide) (by rw [h155]; rfl) rfl ?_
        refine r_aload_n dL_law_571 rfl ?_
        refine r_aload_nx dL_law_572 rfl ?_
        refine r_iload_n dL_law_573 rfl ?_
        refine r_iconst (v := 1) dL_law_574 ci_1 ?_
        refine r_iadd dL_law_575 ?_
        obtain ⟨hg156, ep11⟩ := grd_some ep11
        refine r_sldn hn hx dL_law_576 hg156 ?_
        refine r_aload_nx dL_law_577 rfl ?_
        refine r_iload_n dL_law_578 rfl ?_
        refine r_iconst (v := 2) dL_law_579 ci_2 ?_
        refine r_iadd dL_law_580 ?_
        obtain ⟨hg157, ep11⟩ := grd_some ep11
        refine r_sldn hn hx dL_law_581 hg157 ?_
        refine r_aload_nx dL_law_582 rfl ?_
        refine r_iload_n dL_law_583 rfl ?_
        refine r_iconst (v := 3) dL_law_584 ci_3 ?_
        refine r_iadd dL_law_585 ?_
        obtain ⟨hg158, ep11⟩ := grd_some ep11
        refine r_sldn hn hx dL_law_586 hg158 ?_
        obtain ⟨hn159, ep11⟩ := gP_some ep11
        obtain ⟨hn160, ep11⟩ := gP_some ep11
        obtain ⟨q161, eq162, ep11⟩ := obind ep11
        refine r_callV (as := [_, _, _]) (rest := []) dL_law_587 ml_L_62 yV_X11_want (c_X11_want hn160 eq162) (by decide) rfl (lp_0 hn159) (lq_0 hn159) (Nat.le_of_ble_eq_true rfl) ?_
        refine r_aload_n dL_law_590 rfl ?_
        refine r_aload_nx dL_law_591 rfl ?_
        refine r_iload_n dL_law_592 rfl ?_
        refine r_iconst (v := 1) dL_law_593 ci_1 ?_
        refine r_iadd dL_law_594 ?_
        obtain ⟨hg163, ep11⟩ := grd_some ep11
        refine r_sldn hn hx dL_law_595 hg163 ?_
        refine r_aload_nx dL_law_596 rfl ?_
        refine r_iload_n dL_law_597 rfl ?_
        refine r_iconst (v := 2) dL_law_598 ci_2 ?_
        refine r_iadd dL_law_599 ?_
        obtain ⟨hg164, ep11⟩ := grd_some ep11
        refine r_sldn hn hx dL_law_600 hg164 ?_
        refine r_aload_nx dL_law_601 rfl ?_
        refine r_iload_n dL_law_602 rfl ?_
        refine r_iconst (v := 3) dL_law_603 ci_3 ?_
        refine r_iadd dL_law_604 ?_
        obtain ⟨hg165, ep11⟩ := grd_some ep11
        refine r_sldn hn hx dL_law_605 hg165 ?_
        obtain ⟨q166, eq167, ep11⟩ := obind ep11
        refine r_callV (as := [_, _, _]) (rest := [_]) dL_law_606 ml_L_65 yV_X12_want (c_X12_want hn160.1 eq167) (by decide) rfl (lp_44 hn160.1) (lq_44 hn160.1) (Nat.le_of_ble_eq_true rfl) ?_
        refine r_icmp_eq (tgt := 1209) dL_law_609 rfl (fun h168 => ?_) (fun h168 => ?_)
        · replace ep11 := ite_t h168 ep11
          cases ep11
          exact r_weak (L' := [some (vx 0), some (vr (some 0)), some (vr (some 44)), some (vi z1.1)]) ⟨rfl, rfl, rfl, rfl, trivial⟩ (J10 _ rfl)
        · replace ep11 := ite_f h168 ep11
          refine r_iconst (v := 0) dL_law_612 ci_0 ?_
          cases ep11
          have eb6 := congrArg some (erx12 _ rfl)
          cases eb6
          have e := congrArg some (erx4 _ (Eq.symm hx5))
          cases e
          exact r_ireturn dL_law_613 rfl (nz_b (by first | exact Or.inl rfl | exact Or.inr rfl)).1
      replace ep11 := ite_f h155 ep11
      by_cases h169 : ((xs (ix z1.1)) &&& (31 : Int32)) = (12 : Int32)
      · replace ep11 := ite_t h169 ep11
        refine r_table_in (tgt := 614) dL_law_33 (by rw [h169]; decide) (by rw [h169]; decide) (by rw [h169]; rfl) rfl ?_
        refine r_aload_n dL_law_614 rfl ?_
        refine r_aload_nx dL_law_615 rfl ?_
        refine r_iload_n dL_law_616 rfl ?_
        refine r_iconst (v := 1) dL_law_617 ci_1 ?_
        refine r_iadd dL_law_618 ?_
        obtain ⟨hg170, ep11⟩ := grd_some ep11
        refine r_sldn hn hx dL_law_619 hg170 ?_
        refine r_aload_nx dL_law_620 rfl ?_
        refine r_iload_n dL_law_621 rfl ?_
        refine r_iconst (v := 2) dL_law_622 ci_2 ?_
        refine r_iadd dL_law_623 ?_
        obtain ⟨hg171, ep11⟩ := grd_some ep11
        refine r_sldn hn hx dL_law_624 hg171 ?_
        refine r_aload_nx dL_law_625 rfl ?_
        refine r_iload_n dL_law_626 rfl ?_
        refine r_iconst (v := 3) dL_law_627 ci_3 ?_
        refine r_iadd dL_law_628 ?_
        obtain ⟨hg172, ep11⟩ := grd_some ep11
        refine r_sldn hn hx dL_law_629 hg172 ?_
        obtain ⟨hn173, ep11⟩ := gP_some ep11
        obtain ⟨hn174, ep11⟩ := gP_some ep11
        obtain ⟨q175, eq176, ep11⟩ := obind ep11
        refine r_callV (as := [_, _, _]) (rest := []) dL_law_630 ml_L_66 yV_X11_swearers (c_X11_swearers hn174 eq176) (by decide) rfl (lp_0 hn173) (lq_0 hn173) (Nat.le_of_ble_eq_true rfl) ?_
        refine r_aload_n dL_law_633 rfl ?_
        refine r_aload_nx dL_law_634 rfl ?_
        refine r_iload_n dL_law_635 rfl ?_
        refine r_iconst (v := 1) dL_law_636 ci_1 ?_
        refine r_iadd dL_law_637 ?_
        obtain ⟨hg177, ep11⟩ := grd_some ep11
        refine r_sldn hn hx dL_law_638 hg177 ?_
        refine r_aload_nx dL_law_639 rfl ?_
        refine r_iload_n dL_law_640 rfl ?_
        refine r_iconst (v := 2) dL_law_641 ci_2 ?_
        refine r_iadd dL_law_642 ?_
        obtain ⟨hg178, ep11⟩ := grd_some ep11
        refine r_sldn hn hx dL_law_643 hg178 ?_
        refine r_aload_nx dL_law_644 rfl ?_
        refine r_iload_n dL_law_645 rfl ?_
        refine r_iconst (v := 3) dL_law_646 ci_3 ?_
        refine r_iadd dL_law_647 ?_
        obtain ⟨hg179, ep11⟩ := grd_some ep11
        refine r_sldn hn hx dL_law_648 hg179 ?_
        obtain ⟨hn180, ep11⟩ := gP_some ep11
        obtain ⟨q181, eq182, ep11⟩ := obind ep11
        refine r_callV (as := [_, _, _]) (rest := [_]) dL_law_649 ml_L_69 yV_X12_swearers (c_X12_swearers hn180 eq182) (by decide) rfl (lp_44 hn180) (lq_44 hn180) (Nat.le_of_ble_eq_true rfl) ?_
        refine r_icmp_eq (tgt := 1209) dL_law_652 rfl (fun h183 => ?_) (fun h183 => ?_)
        · replace ep11 := ite_t h183 ep11
          cases ep11
          exact r_weak (L' := [some (vx 0), some (vr (some 0)), some (vr (some 44)), some (vi z1.1)]) ⟨rfl, rfl, rfl, rfl, trivial⟩ (J10 _ rfl)
        · replace ep11 := ite_f h183 ep11
          refine r_iconst (v := 0) dL_law_655 ci_0 ?_
          cases ep11
          have eb6 := congrArg some (erx12 _ rfl)
          cases eb6
          have e := congrArg some (erx4 _ (Eq.symm hx5))
          cases e
          exact r_ireturn dL_law_656 rfl (nz_b (by first | exact Or.inl rfl | exact Or.inr rfl)).1
      replace ep11 := ite_f h169 ep11
      by_cases h184 : ((xs (ix z1.1)) &&& (31 : Int32)) = (13 : Int32)
      · replace ep11 := ite_t h184 ep11
        refine r_table_in (tgt := 657) dL_law_33 (by rw [h184]; decide) (by rw [h184]; decide) (by rw [h184]; rfl) rfl ?_
        refine r_aload_n dL_law_657 rfl ?_
        refine r_aload_nx dL_law_658 rfl ?_
        refine r_iload_n dL_law_659 rfl ?_
        refine r_iconst (v := 1) dL_law_660 ci_1 ?_
        refine r_iadd dL_law_661 ?_
        obtain ⟨hg185, ep11⟩ := grd_some ep11
        refine r_sldn hn hx dL_law_662 hg185 ?_
        refine r_aload_nx dL_law_663 rfl ?_
        refine r_iload_n dL_law_664 rfl ?_
        refine r_iconst (v := 2) dL_law_665 ci_2 ?_
        refine r_iadd dL_law_666 ?_
        obtain ⟨hg186, ep11⟩ := grd_some ep11
        refine r_sldn hn hx dL_law_667 hg186 ?_
        refine r_aload_nx dL_law_668 rfl ?_
        refine r_iload_n dL_law_669 rfl ?_
        refine r_iconst (v := 3) dL_law_670 ci_3 ?_
        refine r_iadd dL_law_671 ?_
        obtain ⟨hg187, ep11⟩ := grd_some ep11
        refine r_sldn hn hx dL_law_672 hg187 ?_
        refine r_aload_nx dL_law_673 rfl ?_
        refine r_iload_n dL_law_674 rfl ?_
        refine r_iconst (v := 4) dL_law_675 ci_4 ?_
        refine r_iadd dL_law_676 ?_
        obtain ⟨hg188, ep11⟩ := grd_some ep11
        refine r_sldn hn hx dL_law_677 hg188 ?_
        refine r_aload_nx dL_law_678 rfl ?_
        refine r_iload_n dL_law_679 rfl ?_
        refine r_iconst (v := 5) dL_law_680 ci_5 ?_
        refine r_iadd dL_law_681 ?_
        obtain ⟨hg189, ep11⟩ := grd_some ep11
        refine r_sldn hn hx dL_law_682 hg189 ?_
        have J192 : ∀ (w191 : Int32), w191 = (if (xs (ix (z1.1 + (5 : Int32)))) = 0 then (0 : Int32) else (1 : Int32)) → Run l G M_L_law 18 691 [some (vx 0), some (vr (some 0)), some (vr (some 44)), some (vi z1.1)] [vi w191, vi (xs (ix (z1.1 + (4 : Int32)))), vi (xs (ix (z1.1 + (3 : Int32)))), vi (xs (ix (z1.1 + (2 : Int32)))), vi (xs (ix (z1.1 + (1 : Int32)))), vr (some 0)] z1.2.1 z1.2.2 (some (vi q.1)) q.2.1 q.2.2 := by
          intro w191 hw210
          subst hw210
          obtain ⟨hn193, ep11⟩ := gP_some ep11
          obtain ⟨hn194, ep11⟩ := gP_some ep11
          obtain ⟨q195, eq196, ep11⟩ := obind ep11
          refine r_callV (as := [_, _, _, _, _]) (rest := []) dL_law_691 ml_L_70 yV_X11_dare (c_X11_dare hn194 eq196) (by decide) rfl (lp_0 hn193) (lq_0 hn193) (Nat.le_of_ble_eq_true rfl) ?_
          refine r_aload_n dL_law_694 rfl ?_
          refine r_aload_nx dL_law_695 rfl ?_
          refine r_iload_n dL_law_696 rfl ?_
          refine r_iconst (v := 1) dL_law_697 ci_1 ?_
          refine r_iadd dL_law_698 ?_
          obtain ⟨hg197, ep11⟩ := grd_some ep11
          refine r_sldn hn hx dL_law_699 hg197 ?_
          refine r_aload_nx dL_law_700 rfl ?_
          refine r_iload_n dL_law_701 rfl ?_
          refine r_iconst (v := 2) dL_law_702 ci_2 ?_
          refine r_iadd dL_law_703 ?_
          obtain ⟨hg198, ep11⟩ := grd_some ep11
          refine r_sldn hn hx dL_law_704 hg198 ?_
          refine r_aload_nx dL_law_705 rfl ?_
          refine r_iload_n dL_law_706 rfl ?_
          refine r_iconst (v := 3) dL_law_707 ci_3 ?_
          refine r_iadd dL_law_708 ?_
          obtain ⟨hg199, ep11⟩ := grd_some ep11
          refine r_sldn hn hx dL_law_709 hg199 ?_
          refine r_aload_nx dL_law_710 rfl ?_
          refine r_iload_n dL_law_711 rfl ?_
          refine r_iconst (v := 4) dL_law_712 ci_4 ?_
          refine r_iadd dL_law_713 ?_
          obtain ⟨hg200, ep11⟩ := grd_some ep11
          refine r_sldn hn hx dL_law_714 hg200 ?_
          refine r_aload_nx dL_law_715 rfl ?_
          refine r_iload_n dL_law_716 rfl ?_
          refine r_iconst (v := 5) dL_law_717 ci_5 ?_
          refine r_iadd dL_law_718 ?_
          obtain ⟨hg201, ep11⟩ := grd_some ep11
          refine r_sldn hn hx dL_law_719 hg201 ?_
          have J204 : ∀ (w203 : Int32), w203 = (if (xs (ix (z1.1 + (5 : Int32)))) = 0 then (0 : Int32) else (1 : Int32)) → Run l G M_L_law 18 728 [some (vx 0), some (vr (some 0)), some (vr (some 44)), some (vi z1.1)] [vi w203, vi (xs (ix (z1.1 + (4 : Int32)))), vi (xs (ix (z1.1 + (3 : Int32)))), vi (xs (ix (z1.1 + (2 : Int32)))), vi (xs (ix (z1.1 + (1 : Int32)))), vr (some 44), vi q195.1] q195.2.1 q195.2.2 (some (vi q.1)) q.2.1 q.2.2 := by
            intro w203 hw209
            subst hw209
            obtain ⟨hn205, ep11⟩ := gP_some ep11
            obtain ⟨q206, eq207, ep11⟩ := obind ep11
            refine r_callV (as := [_, _, _, _, _]) (rest := [_]) dL_law_728 ml_L_74 yV_X12_dare (c_X12_dare hn205 eq207) (by decide) rfl (lp_44 hn205) (lq_44 hn205) (Nat.le_of_ble_eq_true rfl) ?_
            refine r_icmp_eq (tgt := 1209) dL_law_731 rfl (fun h208 => ?_) (fun h208 => ?_)
            · replace ep11 := ite_t h208 ep11
              cases ep11
              exact r_weak (L' := [some (vx 0), some (vr (some 0)), some (vr (some 44)), some (vi z1.1)]) ⟨rfl, rfl, rfl, rfl, trivial⟩ (J10 _ rfl)
            · replace ep11 := ite_f h208 ep11
              refine r_iconst (v := 0) dL_law_734 ci_0 ?_
              cases ep11
              have eb6 := congrArg some (erx12 _ rfl)
              cases eb6
              have e := congrArg some (erx4 _ (Eq.symm hx5))
              cases e
              exact r_ireturn dL_law_735 rfl (nz_b (by first | exact Or.inl rfl | exact Or.inr rfl)).1
          refine r_if_eq (tgt := 727) dL_law_720 rfl (fun h202 => ?_) (fun h202 => ?_)
          · refine r_iconst (v := 0) dL_law_727 ci_0 ?_
            exact r_weak (L' := [some (vx 0), some (vr (some 0)), some (vr (some 44)), some (vi z1.1)]) ⟨rfl, rfl, rfl, rfl, trivial⟩ (J204 _ (Eq.symm (if_pos h202)))
          · refine r_iconst (v := 1) dL_law_723 ci_1 ?_
            refine r_goto (tgt := 728) dL_law_724 rfl ?_
            exact r_weak (L' := [some (vx 0), some (vr (some 0)), some (vr (some 44)), some (vi z1.1)]) ⟨rfl, rfl, rfl, rfl, trivial⟩ (J204 _ (Eq.symm (if_neg h202)))
        refine r_if_eq (tgt := 690) dL_law_683 rfl (fun h190 => ?_) (fun h190 => ?_)
        · refine r_iconst (v := 0) dL_law_690 ci_0 ?_
          exact r_weak (L' := [some (vx 0), some (vr (some 0)), some (vr (some 44)), some (vi z1.1)]) ⟨rfl, rfl, rfl, rfl, trivial⟩ (J192 _ (Eq.symm (if_pos h190)))
        · refine r_iconst (v := 1) dL_law_686 ci_1 ?_
          refine r_goto (tgt := 691) dL_law_687 rfl ?_
          exact r_weak (L' := [some (vx 0), some (vr (some 0)), some (vr (some 44)), some (vi z1.1)]) ⟨rfl, rfl, rfl, rfl, trivial⟩ (J192 _ (Eq.symm (if_neg h190)))
      replace ep11 := ite_f h184 ep11
      by_cases h211 : ((xs (ix z1.1)) &&& (31 : Int32)) = (14 : Int32)
      · replace ep11 := ite_t h211 ep11
        refine r_table_in (tgt := 736) dL_law_33 (by rw [h211]; decide) (by rw [h211]; decide) (by rw [h211]; rfl) rfl ?_
        refine r_aload_n dL_law_736 rfl ?_
        refine r_aload_nx dL_law_737 rfl ?_
        refine r_iload_n dL_law_738 rfl ?_
        refine r_iconst (v := 1) dL_law_739 ci_1 ?_
        refine r_iadd dL_law_740 ?_
        obtain ⟨hg212, ep11⟩ := grd_some ep11
        refine r_sldn hn hx dL_law_741 hg212 ?_
        refine r_aload_nx dL_law_742 rfl ?_
        refine r_iload_n dL_law_743 rfl ?_
        refine r_iconst (v := 2) dL_law_744 ci_2 ?_
        refine r_iadd dL_law_745 ?_
        obtain ⟨hg213, ep11⟩ := grd_some ep11
        refine r_sldn hn hx dL_law_746 hg213 ?_
        refine r_aload_nx dL_law_747 rfl ?_
        refine r_iload_n dL_law_748 rfl ?_
        refine r_iconst (v := 3) dL_law_749 ci_3 ?_
        refine r_iadd dL_law_750 ?_
        obtain ⟨hg214, ep11⟩ := grd_some ep11
        refine r_sldn hn hx dL_law_751 hg214 ?_
        refine r_aload_nx dL_law_752 rfl ?_
        refine r_iload_n dL_law_753 rfl ?_
        refine r_iconst (v := 4) dL_law_754 ci_4 ?_
        refine r_iadd dL_law_755 ?_
        obtain ⟨hg215, ep11⟩ := grd_some ep11
        refine r_sldn hn hx dL_law_756 hg215 ?_
        refine r_aload_nx dL_law_757 rfl ?_
        refine r_iload_n dL_law_758 rfl ?_
        refine r_iconst (v := 5) dL_law_759 ci_5 ?_
        refine r_iadd dL_law_760 ?_
        obtain ⟨hg216, ep11⟩ := grd_some ep11
        refine r_sldn hn hx dL_law_761 hg216 ?_
        refine r_aload_nx dL_law_762 rfl ?_
        refine r_iload_n dL_law_763 rfl ?_
        refine r_bipush (v := 6) dL_law_764 cb_6 ?_
        refine r_iadd dL_law_766 ?_
        obtain ⟨hg217, ep11⟩ := grd_some ep11
        refine r_sldn hn hx dL_law_767 hg217 ?_
        refine r_aload_nx dL_law_768 rfl ?_
        refine r_iload_n dL_law_769 rfl ?_
        refine r_bipush (v := 7) dL_law_770 cb_7 ?_
        refine r_iadd dL_law_772 ?_
        obtain ⟨hg218, ep11⟩ := grd_some ep11
        refine r_sldn hn hx dL_law_773 hg218 ?_
        have J221 : ∀ (w220 : Int32), w220 = (if (xs (ix (z1.1 + (7 : Int32)))) = 0 then (0 : Int32) else (1 : Int32)) → Run l G M_L_law 18 782 [some (vx 0), some (vr (some 0)), some (vr (some 44)), some (vi z1.1)] [vi w220, vi (xs (ix (z1.1 + (6 : Int32)))), vi (xs (ix (z1.1 + (5 : Int32)))), vi (xs (ix (z1.1 + (4 : Int32)))), vi (xs (ix (z1.1 + (3 : Int32)))), vi (xs (ix (z1.1 + (2 : Int32)))), vi (xs (ix (z1.1 + (1 : Int32)))), vr (some 0)] z1.2.1 z1.2.2 (some (vi q.1)) q.2.1 q.2.2 := by
          intro w220 hw241
          subst hw241
          obtain ⟨hn222, ep11⟩ := gP_some ep11
          obtain ⟨hn223, ep11⟩ := gP_some ep11
          obtain ⟨q224, eq225, ep11⟩ := obind ep11
          refine r_callV (as := [_, _, _, _, _, _, _]) (rest := []) dL_law_782 ml_L_75 yV_X11_chance (c_X11_chance hn223 eq225) (by decide) rfl (lp_0 hn222) (lq_0 hn222) (Nat.le_of_ble_eq_true rfl) ?_
          refine r_aload_n dL_law_785 rfl ?_
          refine r_aload_nx dL_law_786 rfl ?_
          refine r_iload_n dL_law_787 rfl ?_
          refine r_iconst (v := 1) dL_law_788 ci_1 ?_
          refine r_iadd dL_law_789 ?_
          obtain ⟨hg226, ep11⟩ := grd_some ep11
          refine r_sldn hn hx dL_law_790 hg226 ?_
          refine r_aload_nx dL_law_791 rfl ?_
          refine r_iload_n dL_law_792 rfl ?_
          refine r_iconst (v := 2) dL_law_793 ci_2 ?_
          refine r_iadd dL_law_794 ?_
          obtain ⟨hg227, ep11⟩ := grd_some ep11
          refine r_sldn hn hx dL_law_795 hg227 ?_
          refine r_aload_nx dL_law_796 rfl ?_
          refine r_iload_n dL_law_797 rfl ?_
          refine r_iconst (v := 3) dL_law_798 ci_3 ?_
          refine r_iadd dL_law_799 ?_
          obtain ⟨hg228, ep11⟩ := grd_some ep11
          refine r_sldn hn hx dL_law_800 hg228 ?_
          refine r_aload_nx dL_law_801 rfl ?_
          refine r_iload_n dL_law_802 rfl ?_
          refine r_iconst (v := 4) dL_law_803 ci_4 ?_
          refine r_iadd dL_law_804 ?_
          obtain ⟨hg229, ep11⟩ := grd_some ep11
          refine r_sldn hn hx dL_law_805 hg229 ?_
          refine r_aload_nx dL_law_806 rfl ?_
          refine r_iload_n dL_law_807 rfl ?_
          refine r_iconst (v := 5) dL_law_808 ci_5 ?_
          refine r_iadd dL_law_809 ?_
          obtain ⟨hg230, ep11⟩ := grd_some ep11
          refine r_sldn hn hx dL_law_810 hg230 ?_
          refine r_aload_nx dL_law_811 rfl ?_
          refine r_iload_n dL_law_812 rfl ?_
          refine r_bipush (v := 6) dL_law_813 cb_6 ?_
          refine r_iadd dL_law_815 ?_
          obtain ⟨hg231, ep11⟩ := grd_some ep11
          refine r_sldn hn hx dL_law_816 hg231 ?_
          refine r_aload_nx dL_law_817 rfl ?_
          refine r_iload_n dL_law_818 rfl ?_
          refine r_bipush (v := 7) dL_law_819 cb_7 ?_
          refine r_iadd dL_law_821 ?_
          obtain ⟨hg232, ep11⟩ := grd_some ep11
          refine r_sldn hn hx dL_law_822 hg232 ?_
          have J235 : ∀ (w234 : Int32), w234 = (if (xs (ix (z1.1 + (7 : Int32)))) = 0 then (0 : Int32) else (1 : Int32)) → Run l G M_L_law 18 831 [some (vx 0), some (vr (some 0)), some (vr (some 44)), some (vi z1.1)] [vi w234, vi (xs (ix (z1.1 + (6 : Int32)))), vi (xs (ix (z1.1 + (5 : Int32)))), vi (xs (ix (z1.1 + (4 : Int32)))), vi (xs (ix (z1.1 + (3 : Int32)))), vi (xs (ix (z1.1 + (2 : Int32)))), vi (xs (ix (z1.1 + (1 : Int32)))), vr (some 44), vi q224.1] q224.2.1 q224.2.2 (some (vi q.1)) q.2.1 q.2.2 := by
            intro w234 hw240
            subst hw240
            obtain ⟨hn236, ep11⟩ := gP_some ep11
            obtain ⟨q237, eq238, ep11⟩ := obind ep11
            refine r_callV (as := [_, _, _, _, _, _, _]) (rest := [_]) dL_law_831 ml_L_79 yV_X12_chance (c_X12_chance hn236 eq238) (by decide) rfl (lp_44 hn236) (lq_44 hn236) (Nat.le_of_ble_eq_true rfl) ?_
            refine r_icmp_eq (tgt := 1209) dL_law_834 rfl (fun h239 => ?_) (fun h239 => ?_)
            · replace ep11 := ite_t h239 ep11
              cases ep11
              exact r_weak (L' := [some (vx 0), some (vr (some 0)), some (vr (some 44)), some (vi z1.1)]) ⟨rfl, rfl, rfl, rfl, trivial⟩ (J10 _ rfl)
            · replace ep11 := ite_f h239 ep11
              refine r_iconst (v := 0) dL_law_837 ci_0 ?_
              cases ep11
              have eb6 := congrArg some (erx12 _ rfl)
              cases eb6
              have e := congrArg some (erx4 _ (Eq.symm hx5))
              cases e
              exact r_ireturn dL_law_838 rfl (nz_b (by first | exact Or.inl rfl | exact Or.inr rfl)).1
          refine r_if_eq (tgt := 830) dL_law_823 rfl (fun h233 => ?_) (fun h233 => ?_)
          · refine r_iconst (v := 0) dL_law_830 ci_0 ?_
            exact r_weak (L' := [some (vx 0), some (vr (some 0)), some (vr (some 44)), some (vi z1.1)]) ⟨rfl, rfl, rfl, rfl, trivial⟩ (J235 _ (Eq.symm (if_pos h233)))
          · refine r_iconst (v := 1) dL_law_826 ci_1 ?_
            refine r_goto (tgt := 831) dL_law_827 rfl ?_
            exact r_weak (L' := [some (vx 0), some (vr (some 0)), some (vr (some 44)), some (vi z1.1)]) ⟨rfl, rfl, rfl, rfl, trivial⟩ (J235 _ (Eq.symm (if_neg h233)))
        refine r_if_eq (tgt := 781) dL_law_774 rfl (fun h219 => ?_) (fun h219 => ?_)
        · refine r_iconst (v := 0) dL_law_781 ci_0 ?_
          exact r_weak (L' := [some (vx 0), some (vr (some 0)), some (vr (some 44)), some (vi z1.1)]) ⟨rfl, rfl, rfl, rfl, trivial⟩ (J221 _ (Eq.symm (if_pos h219)))
        · refine r_iconst (v := 1) dL_law_777 ci_1 ?_
          refine r_goto (tgt := 782) dL_law_778 rfl ?_
          exact r_weak (L' := [some (vx 0), some (vr (some 0)), some (vr (some 44)), some (vi z1.1)]) ⟨rfl, rfl, rfl, rfl, trivial⟩ (J221 _ (Eq.symm (if_neg h219)))
      replace ep11 := ite_f h211 ep11
      by_cases h242 : ((xs (ix z1.1)) &&& (31 : Int32)) = (15 : Int32)
      · replace ep11 := ite_t h242 ep11
        refine r_table_in (tgt := 839) dL_law_33 (by rw [h242]; decide) (by rw [h242]; decide) (by rw [h242]; rfl) rfl ?_
        refine r_aload_n dL_law_839 rfl ?_
        refine r_aload_nx dL_law_840 rfl ?_
        refine r_iload_n dL_law_841 rfl ?_
        refine r_iconst (v := 1) dL_law_842 ci_1 ?_
        refine r_iadd dL_law_843 ?_
        obtain ⟨hg243, ep11⟩ := grd_some ep11
        refine r_sldn hn hx dL_law_844 hg243 ?_
        refine r_aload_nx dL_law_845 rfl ?_
        refine r_iload_n dL_law_846 rfl ?_
        refine r_iconst (v := 2) dL_law_847 ci_2 ?_
        refine r_iadd dL_law_848 ?_
        obtain ⟨hg244, ep11⟩ := grd_some ep11
        refine r_sldn hn hx dL_law_849 hg244 ?_
        refine r_aload_nx dL_law_850 rfl ?_
        refine r_iload_n dL_law_851 rfl ?_
        refine r_iconst (v := 3) dL_law_852 ci_3 ?_
        refine r_iadd dL_law_853 ?_
        obtain ⟨hg245, ep11⟩ := grd_some ep11
        refine r_sldn hn hx dL_law_854 hg245 ?_
        obtain ⟨hn246, ep11⟩ := gP_some ep11
        obtain ⟨hn247, ep11⟩ := gP_some ep11
        obtain ⟨q248, eq249, ep11⟩ := obind ep11
        refine r_callV (as := [_, _, _]) (rest := []) dL_law_855 ml_L_80 yV_X11_fact (c_X11_fact hn247 eq249) (by decide) rfl (lp_0 hn246) (lq_0 hn246) (Nat.le_of_ble_eq_true rfl) ?_
        refine r_aload_n dL_law_858 rfl ?_
        refine r_aload_nx dL_law_859 rfl ?_
        refine r_iload_n dL_law_860 rfl ?_
        refine r_iconst (v := 1) dL_law_861 ci_1 ?_
        refine r_iadd dL_law_862 ?_
        obtain ⟨hg250, ep11⟩ := grd_some ep11
        refine r_sldn hn hx dL_law_863 hg250 ?_
        refine r_aload_nx dL_law_864 rfl ?_
        refine r_iload_n dL_law_865 rfl ?_
        refine r_iconst (v := 2) dL_law_866 ci_2 ?_
        refine r_iadd dL_law_867 ?_
        obtain ⟨hg251, ep11⟩ := grd_some ep11
        refine r_sldn hn hx dL_law_868 hg251 ?_
        refine r_aload_nx dL_law_869 rfl ?_
        refine r_iload_n dL_law_870 rfl ?_
        refine r_iconst (v := 3) dL_law_871 ci_3 ?_
        refine r_iadd dL_law_872 ?_
        obtain ⟨hg252, ep11⟩ := grd_some ep11
        refine r_sldn hn hx dL_law_873 hg252 ?_
        obtain ⟨q253, eq254, ep11⟩ := obind ep11
        refine r_callV (as := [_, _, _]) (rest := [_]) dL_law_874 ml_L_83 yV_X12_fact (c_X12_fact hn247.1 eq254) (by decide) rfl (lp_44 hn247.1) (lq_44 hn247.1) (Nat.le_of_ble_eq_true rfl) ?_
        refine r_icmp_eq (tgt := 1209) dL_law_877 rfl (fun h255 => ?_) (fun h255 => ?_)
        · replace ep11 := ite_t h255 ep11
          cases ep11
          exact r_weak (L' := [some (vx 0), some (vr (some 0)), some (vr (some 44)), some (vi z1.1)]) ⟨rfl, rfl, rfl, rfl, trivial⟩ (J10 _ rfl)
        · replace ep11 := ite_f h255 ep11
          refine r_iconst (v := 0) dL_law_880 ci_0 ?_
          cases ep11
          have eb6 := congrArg some (erx12 _ rfl)
          cases eb6
          have e := congrArg some (erx4 _ (Eq.symm hx5))
          cases e
          exact r_ireturn dL_law_881 rfl (nz_b (by first | exact Or.inl rfl | exact Or.inr rfl)).1
      replace ep11 := ite_f h242 ep11
      by_cases h256 : ((xs (ix z1.1)) &&& (31 : Int32)) = (16 : Int32)
      · replace ep11 := ite_t h256 ep11
        refine r_table_in (tgt := 882) dL_law_33 (by rw [h256]; decide) (by rw [h256]; decide) (by rw [h256]; rfl) rfl ?_
        refine r_aload_n dL_law_882 rfl ?_
        refine r_aload_nx dL_law_883 rfl ?_
        refine r_iload_n dL_law_884 rfl ?_
        refine r_iconst (v := 1) dL_law_885 ci_1 ?_
        refine r_iadd dL_law_886 ?_
        obtain ⟨hg257, ep11⟩ := grd_some ep11
        refine r_sldn hn hx dL_law_887 hg257 ?_
        refine r_aload_nx dL_law_888 rfl ?_
        refine r_iload_n dL_law_889 rfl ?_
        refine r_iconst (v := 2) dL_law_890 ci_2 ?_
        refine r_iadd dL_law_891 ?_
        obtain ⟨hg258, ep11⟩ := grd_some ep11
        refine r_sldn hn hx dL_law_892 hg258 ?_
        refine r_aload_nx dL_law_893 rfl ?_
        refine r_iload_n dL_law_894 rfl ?_
        refine r_iconst (v := 3) dL_law_895 ci_3 ?_
        refine r_iadd dL_law_896 ?_
        obtain ⟨hg259, ep11⟩ := grd_some ep11
        refine r_sldn hn hx dL_law_897 hg259 ?_
        refine r_aload_nx dL_law_898 rfl ?_
        refine r_iload_n dL_law_899 rfl ?_
        refine r_iconst (v := 4) dL_law_900 ci_4 ?_
        refine r_iadd dL_law_901 ?_
        obtain ⟨hg260, ep11⟩ := grd_some ep11
        refine r_sldn hn hx dL_law_902 hg260 ?_
        obtain ⟨hn261, ep11⟩ := gP_some ep11
        obtain ⟨hn262, ep11⟩ := gP_some ep11
        obtain ⟨q263, eq264, ep11⟩ := obind ep11
        refine r_callV (as := [_, _, _, _]) (rest := []) dL_law_903 ml_L_84 yV_X11_fits (c_X11_fits hn262 eq264) (by decide) rfl (lp_0 hn261) (lq_0 hn261) (Nat.le_of_ble_eq_true rfl) ?_
        refine r_aload_n dL_law_906 rfl ?_
        refine r_aload_nx dL_law_907 rfl ?_
        refine r_iload_n dL_law_908 rfl ?_
        refine r_iconst (v := 1) dL_law_909 ci_1 ?_
        refine r_iadd dL_law_910 ?_
        obtain ⟨hg265, ep11⟩ := grd_some ep11
        refine r_sldn hn hx dL_law_911 hg265 ?_
        refine r_aload_nx dL_law_912 rfl ?_
        refine r_iload_n dL_law_913 rfl ?_
        refine r_iconst (v := 2) dL_law_914 ci_2 ?_
        refine r_iadd dL_law_915 ?_
        obtain ⟨hg266, ep11⟩ := grd_some ep11
        refine r_sldn hn hx dL_law_916 hg266 ?_
        refine r_aload_nx dL_law_917 rfl ?_
        refine r_iload_n dL_law_918 rfl ?_
        refine r_iconst (v := 3) dL_law_919 ci_3 ?_
        refine r_iadd dL_law_920 ?_
        obtain ⟨hg267, ep11⟩ := grd_some ep11
        refine r_sldn hn hx dL_law_921 hg267 ?_
        refine r_aload_nx dL_law_922 rfl ?_
        refine r_iload_n dL_law_923 rfl ?_
        refine r_iconst (v := 4) dL_law_924 ci_4 ?_
        refine r_iadd dL_law_925 ?_
        obtain ⟨hg268, ep11⟩ := grd_some ep11
        refine r_sldn hn hx dL_law_926 hg268 ?_
        obtain ⟨hn269, ep11⟩ := gP_some ep11
        obtain ⟨q270, eq271, ep11⟩ := obind ep11
        refine r_callV (as := [_, _, _, _]) (rest := [_]) dL_law_927 ml_L_87 yV_X12_fits (c_X12_fits hn269 eq271) (by decide) rfl (lp_44 hn269) (lq_44 hn269) (Nat.le_of_ble_eq_true rfl) ?_
        refine r_icmp_eq (tgt := 1209) dL_law_930 rfl (fun h272 => ?_) (fun h272 => ?_)
        · replace ep11 := ite_t h272 ep11
          cases ep11
          exact r_weak (L' := [some (vx 0), some (vr (some 0)), some (vr (some 44)), some (vi z1.1)]) ⟨rfl, rfl, rfl, rfl, trivial⟩ (J10 _ rfl)
        · replace ep11 := ite_f h272 ep11
          refine r_iconst (v := 0) dL_law_933 ci_0 ?_
          cases ep11
          have eb6 := congrArg some (erx12 _ rfl)
          cases eb6
          have e := congrArg some (erx4 _ (Eq.symm hx5))
          cases e
          exact r_ireturn dL_law_934 rfl (nz_b (by first | exact Or.inl rfl | exact Or.inr rfl)).1
      replace ep11 := ite_f h256 ep11
      by_cases h273 : ((xs (ix z1.1)) &&& (31 : Int32)) = (17 : Int32)
      · replace ep11 := ite_t h273 ep11
        refine r_table_in (tgt := 935) dL_law_33 (by rw [h273]; decide) (by rw [h273]; decide) (by rw [h273]; rfl) rfl ?_
        refine r_aload_n dL_law_935 rfl ?_
        refine r_aload_nx dL_law_936 rfl ?_
        refine r_iload_n dL_law_937 rfl ?_
        refine r_iconst (v := 1) dL_law_938 ci_1 ?_
        refine r_iadd dL_law_939 ?_
        obtain ⟨hg274, ep11⟩ := grd_some ep11
        refine r_sldn hn hx dL_law_940 hg274 ?_
        refine r_aload_nx dL_law_941 rfl ?_
        refine r_iload_n dL_law_942 rfl ?_
        refine r_iconst (v := 2) dL_law_943 ci_2 ?_
        refine r_iadd dL_law_944 ?_
        obtain ⟨hg275, ep11⟩ := grd_some ep11
        refine r_sldn hn hx dL_law_945 hg275 ?_
        refine r_aload_nx dL_law_946 rfl ?_
        refine r_iload_n dL_law_947 rfl ?_
        refine r_iconst (v := 3) dL_law_948 ci_3 ?_
        refine r_iadd dL_law_949 ?_
        obtain ⟨hg276, ep11⟩ := grd_some ep11
        refine r_sldn hn hx dL_law_950 hg276 ?_
        refine r_aload_nx dL_law_951 rfl ?_
        refine r_iload_n dL_law_952 rfl ?_
        refine r_iconst (v := 4) dL_law_953 ci_4 ?_
        refine r_iadd dL_law_954 ?_
        obtain ⟨hg277, ep11⟩ := grd_some ep11
        refine r_sldn hn hx dL_law_955 hg277 ?_
        obtain ⟨hn278, ep11⟩ := gP_some ep11
        obtain ⟨hn279, ep11⟩ := gP_some ep11
        obtain ⟨q280, eq281, ep11⟩ := obind ep11
        refine r_callV (as := [_, _, _, _]) (rest := []) dL_law_956 ml_L_88 yV_X11_drawn (c_X11_drawn hn279 eq281) (by decide) rfl (lp_0 hn278) (lq_0 hn278) (Nat.le_of_ble_eq_true rfl) ?_
        refine r_aload_n dL_law_959 rfl ?_
        refine r_aload_nx dL_law_960 rfl ?_
        refine r_iload_n dL_law_961 rfl ?_
        refine r_iconst (v := 1) dL_law_962 ci_1 ?_
        refine r_iadd dL_law_963 ?_
        obtain ⟨hg282, ep11⟩ := grd_some ep11
        refine r_sldn hn hx dL_law_964 hg282 ?_
        refine r_aload_nx dL_law_965 rfl ?_
        refine r_iload_n dL_law_966 rfl ?_
        refine r_iconst (v := 2) dL_law_967 ci_2 ?_
        refine r_iadd dL_law_968 ?_
        obtain ⟨hg283, ep11⟩ := grd_some ep11
        refine r_sldn hn hx dL_law_969 hg283 ?_
        refine r_aload_nx dL_law_970 rfl ?_
        refine r_iload_n dL_law_971 rfl ?_
        refine r_iconst (v := 3) dL_law_972 ci_3 ?_
        refine r_iadd dL_law_973 ?_
        obtain ⟨hg284, ep11⟩ := grd_some ep11
        refine r_sldn hn hx dL_law_974 hg284 ?_
        refine r_aload_nx dL_law_975 rfl ?_
        refine r_iload_n dL_law_976 rfl ?_
        refine r_iconst (v := 4) dL_law_977 ci_4 ?_
        refine r_iadd dL_law_978 ?_
        obtain ⟨hg285, ep11⟩ := grd_some ep11
        refine r_sldn hn hx dL_law_979 hg285 ?_
        obtain ⟨hn286, ep11⟩ := gP_some ep11
        obtain ⟨q287, eq288, ep11⟩ := obind ep11
        refine r_callV (as := [_, _, _, _]) (rest := [_]) dL_law_980 ml_L_91 yV_X12_drawn (c_X12_drawn hn286 eq288) (by decide) rfl (lp_44 hn286) (lq_44 hn286) (Nat.le_of_ble_eq_true rfl) ?_
        refine r_icmp_eq (tgt := 1209) dL_law_983 rfl (fun h289 => ?_) (fun h289 => ?_)
        · replace ep11 := ite_t h289 ep11
          cases ep11
          exact r_weak (L' := [some (vx 0), some (vr (some 0)), some (vr (some 44)), some (vi z1.1)]) ⟨rfl, rfl, rfl, rfl, trivial⟩ (J10 _ rfl)
        · replace ep11 := ite_f h289 ep11
          refine r_iconst (v := 0) dL_law_986 ci_0 ?_
          cases ep11
          have eb6 := congrArg some (erx12 _ rfl)
          cases eb6
          have e := congrArg some (erx4 _ (Eq.symm hx5))
          cases e
          exact r_ireturn dL_law_987 rfl (nz_b (by first | exact Or.inl rfl | exact Or.inr rfl)).1
      replace ep11 := ite_f h273 ep11
      by_cases h290 : ((xs (ix z1.1)) &&& (31 : Int32)) = (18 : Int32)
      · replace ep11 := ite_t h290 ep11
        refine r_table_in (tgt := 988) dL_law_33 (by rw [h290]; decide) (by rw [h290]; decide) (by rw [h290]; rfl) rfl ?_
        refine r_aload_n dL_law_988 rfl ?_
        refine r_aload_nx dL_law_989 rfl ?_
        refine r_iload_n dL_law_990 rfl ?_
        refine r_iconst (v := 1) dL_law_991 ci_1 ?_
        refine r_iadd dL_law_992 ?_
        obtain ⟨hg291, ep11⟩ := grd_some ep11
        refine r_sldn hn hx dL_law_993 hg291 ?_
        refine r_aload_nx dL_law_994 rfl ?_
        refine r_iload_n dL_law_995 rfl ?_
        refine r_iconst (v := 2) dL_law_996 ci_2 ?_
        refine r_iadd dL_law_997 ?_
        obtain ⟨hg292, ep11⟩ := grd_some ep11
        refine r_sldn hn hx dL_law_998 hg292 ?_
        obtain ⟨hn293, ep11⟩ := gP_some ep11
        obtain ⟨hn294, ep11⟩ := gP_some ep11
        obtain ⟨q295, eq296, ep11⟩ := obind ep11
        refine r_callV (as := [_, _]) (rest := []) dL_law_999 ml_L_92 yV_X11_lone (c_X11_lone hn294 eq296) (by decide) rfl (lp_0 hn293) (lq_0 hn293) (Nat.le_of_ble_eq_true rfl) ?_
        refine r_aload_n dL_law_1002 rfl ?_
        refine r_aload_nx dL_law_1003 rfl ?_
        refine r_iload_n dL_law_1004 rfl ?_
        refine r_iconst (v := 1) dL_law_1005 ci_1 ?_
        refine r_iadd dL_law_1006 ?_
        obtain ⟨hg297, ep11⟩ := grd_some ep11
        refine r_sldn hn hx dL_law_1007 hg297 ?_
        refine r_aload_nx dL_law_1008 rfl ?_
        refine r_iload_n dL_law_1009 rfl ?_
        refine r_iconst (v := 2) dL_law_1010 ci_2 ?_
        refine r_iadd dL_law_1011 ?_
        obtain ⟨hg298, ep11⟩ := grd_some ep11
        refine r_sldn hn hx dL_law_1012 hg298 ?_
        obtain ⟨hn299, ep11⟩ := gP_some ep11
        obtain ⟨q300, eq301, ep11⟩ := obind ep11
        refine r_callV (as := [_, _]) (rest := [_]) dL_law_1013 ml_L_95 yV_X12_lone (c_X12_lone hn299 eq301) (by decide) rfl (lp_44 hn299) (lq_44 hn299) (Nat.le_of_ble_eq_true rfl) ?_
        refine r_icmp_eq (tgt := 1209) dL_law_1016 rfl (fun h302 => ?_) (fun h302 => ?_)
        · replace ep11 := ite_t h302 ep11
          cases ep11
          exact r_weak (L' := [some (vx 0), some (vr (some 0)), some (vr (some 44)), some (vi z1.1)]) ⟨rfl, rfl, rfl, rfl, trivial⟩ (J10 _ rfl)
        · replace ep11 := ite_f h302 ep11
          refine r_iconst (v := 0) dL_law_1019 ci_0 ?_
          cases ep11
          have eb6 := congrArg some (erx12 _ rfl)
          cases eb6
          have e := congrArg some (erx4 _ (Eq.symm hx5))
          cases e
          exact r_ireturn dL_law_1020 rfl (nz_b (by first | exact Or.inl rfl | exact Or.inr rfl)).1
      replace ep11 := ite_f h290 ep11
      by_cases h303 : ((xs (ix z1.1)) &&& (31 : Int32)) = (19 : Int32)
      · replace ep11 := ite_t h303 ep11
        refine r_table_in (tgt := 1021) dL_law_33 (by rw [h303]; decide) (by rw [h303]; decide) (by rw [h303]; rfl) rfl ?_
        refine r_aload_n dL_law_1021 rfl ?_
        refine r_aload_nx dL_law_1022 rfl ?_
        refine r_iload_n dL_law_1023 rfl ?_
        refine r_iconst (v := 1) dL_law_1024 ci_1 ?_
        refine r_iadd dL_law_1025 ?_
        obtain ⟨hg304, ep11⟩ := grd_some ep11
        refine r_sldn hn hx dL_law_1026 hg304 ?_
        refine r_aload_nx dL_law_1027 rfl ?_
        refine r_iload_n dL_law_1028 rfl ?_
        refine r_iconst (v := 2) dL_law_1029 ci_2 ?_
        refine r_iadd dL_law_1030 ?_
        obtain ⟨hg305, ep11⟩ := grd_some ep11
        refine r_sldn hn hx dL_law_1031 hg305 ?_
        obtain ⟨hn306, ep11⟩ := gP_some ep11
        obtain ⟨hn307, ep11⟩ := gP_some ep11
        obtain ⟨q308, eq309, ep11⟩ := obind ep11
        refine r_callV (as := [_, _]) (rest := []) dL_law_1032 ml_L_96 yV_X11_chain (c_X11_chain hn307 eq309) (by decide) rfl (lp_0 hn306) (lq_0 hn306) (Nat.le_of_ble_eq_true rfl) ?_
        refine r_aload_n dL_law_1035 rfl ?_
        refine r_aload_nx dL_law_1036 rfl ?_
        refine r_iload_n dL_law_1037 rfl ?_
        refine r_iconst (v := 1) dL_law_1038 ci_1 ?_
        refine r_iadd dL_law_1039 ?_
        obtain ⟨hg310, ep11⟩ := grd_some ep11
        refine r_sldn hn hx dL_law_1040 hg310 ?_
        refine r_aload_nx dL_law_1041 rfl ?_
        refine r_iload_n dL_law_1042 rfl ?_
        refine r_iconst (v := 2) dL_law_1043 ci_2 ?_
        refine r_iadd dL_law_1044 ?_
        obtain ⟨hg311, ep11⟩ := grd_some ep11
        refine r_sldn hn hx dL_law_1045 hg311 ?_
        obtain ⟨hn312, ep11⟩ := gP_some ep11
        obtain ⟨q313, eq314, ep11⟩ := obind ep11
        refine r_callV (as := [_, _]) (rest := [_]) dL_law_1046 ml_L_99 yV_X12_chain (c_X12_chain hn312 eq314) (by decide) rfl (lp_44 hn312) (lq_44 hn312) (Nat.le_of_ble_eq_true rfl) ?_
        refine r_icmp_eq (tgt := 1209) dL_law_1049 rfl (fun h315 => ?_) (fun h315 => ?_)
        · replace ep11 := ite_t h315 ep11
          cases ep11
          exact r_weak (L' := [some (vx 0), some (vr (some 0)), some (vr (some 44)), some (vi z1.1)]) ⟨rfl, rfl, rfl, rfl, trivial⟩ (J10 _ rfl)
        · replace ep11 := ite_f h315 ep11
          refine r_iconst (v := 0) dL_law_1052 ci_0 ?_
          cases ep11
          have eb6 := congrArg some (erx12 _ rfl)
          cases eb6
          have e := congrArg some (erx4 _ (Eq.symm hx5))
          cases e
          exact r_ireturn dL_law_1053 rfl (nz_b (by first | exact Or.inl rfl | exact Or.inr rfl)).1
      replace ep11 := ite_f h303 ep11
      by_cases h316 : ((xs (ix z1.1)) &&& (31 : Int32)) = (20 : Int32)
      · replace ep11 := ite_t h316 ep11
        refine r_table_in (tgt := 1054) dL_law_33 (by rw [h316]; decide) (by rw [h316]; decide) (by rw [h316]; rfl) rfl ?_
        refine r_aload_n dL_law_1054 rfl ?_
        refine r_aload_nx dL_law_1055 rfl ?_
        refine r_iload_n dL_law_1056 rfl ?_
        refine r_iconst (v := 1) dL_law_1057 ci_1 ?_
        refine r_iadd dL_law_1058 ?_
        obtain ⟨hg317, ep11⟩ := grd_some ep11
        refine r_sldn hn hx dL_law_1059 hg317 ?_
        refine r_aload_nx dL_law_1060 rfl ?_
        refine r_iload_n dL_law_1061 rfl ?_
        refine r_iconst (v := 2) dL_law_1062 ci_2 ?_
        refine r_iadd dL_law_1063 ?_
        obtain ⟨hg318, ep11⟩ := grd_some ep11
        refine r_sldn hn hx dL_law_1064 hg318 ?_
        refine r_aload_nx dL_law_1065 rfl ?_
        refine r_iload_n dL_law_1066 rfl ?_
        refine r_iconst (v := 3) dL_law_1067 ci_3 ?_
        refine r_iadd dL_law_1068 ?_
        obtain ⟨hg319, ep11⟩ := grd_some ep11
        refine r_sldn hn hx dL_law_1069 hg319 ?_
        obtain ⟨hn320, ep11⟩ := gP_some ep11
        obtain ⟨hn321, ep11⟩ := gP_some ep11
        obtain ⟨q322, eq323, ep11⟩ := obind ep11
        refine r_callV (as := [_, _, _]) (rest := []) dL_law_1070 ml_L_100 yV_X11_steps (c_X11_steps hn321 eq323) (by decide) rfl (lp_0 hn320) (lq_0 hn320) (Nat.le_of_ble_eq_true rfl) ?_
        refine r_aload_n dL_law_1073 rfl ?_
        refine r_aload_nx dL_law_1074 rfl ?_
        refine r_iload_n dL_law_1075 rfl ?_
        refine r_iconst (v := 1) dL_law_1076 ci_1 ?_
        refine r_iadd dL_law_1077 ?_
        obtain ⟨hg324, ep11⟩ := grd_some ep11
        refine r_sldn hn hx dL_law_1078 hg324 ?_
        refine r_aload_nx dL_law_1079 rfl ?_
        refine r_iload_n dL_law_1080 rfl ?_
        refine r_iconst (v := 2) dL_law_1081 ci_2 ?_
        refine r_iadd dL_law_1082 ?_
        obtain ⟨hg325, ep11⟩ := grd_some ep11
        refine r_sldn hn hx dL_law_1083 hg325 ?_
        refine r_aload_nx dL_law_1084 rfl ?_
        refine r_iload_n dL_law_1085 rfl ?_
        refine r_iconst (v := 3) dL_law_1086 ci_3 ?_
        refine r_iadd dL_law_1087 ?_
        obtain ⟨hg326, ep11⟩ := grd_some ep11
        refine r_sldn hn hx dL_law_1088 hg326 ?_
        obtain ⟨hn327, ep11⟩ := gP_some ep11
        obtain ⟨q328, eq329, ep11⟩ := obind ep11
        refine r_callV (as := [_, _, _]) (rest := [_]) dL_law_1089 ml_L_103 yV_X12_steps (c_X12_steps hn327 eq329) (by decide) rfl (lp_44 hn327) (lq_44 hn327) (Nat.le_of_ble_eq_true rfl) ?_
        refine r_icmp_eq (tgt := 1209) dL_law_1092 rfl (fun h330 => ?_) (fun h330 => ?_)
        · replace ep11 := ite_t h330 ep11
          cases ep11
          exact r_weak (L' := [some (vx 0), some (vr (some 0)), some (vr (some 44)), some (vi z1.1)]) ⟨rfl, rfl, rfl, rfl, trivial⟩ (J10 _ rfl)
        · replace ep11 := ite_f h330 ep11
          refine r_iconst (v := 0) dL_law_1095 ci_0 ?_
          cases ep11
          have eb6 := congrArg some (erx12 _ rfl)
          cases eb6
          have e := congrArg some (erx4 _ (Eq.symm hx5))
          cases e
          exact r_ireturn dL_law_1096 rfl (nz_b (by first | exact Or.inl rfl | exact Or.inr rfl)).1
      replace ep11 := ite_f h316 ep11
      by_cases h331 : ((xs (ix z1.1)) &&& (31 : Int32)) = (21 : Int32)
      · replace ep11 := ite_t h331 ep11
        refine r_table_in (tgt := 1097) dL_law_33 (by rw [h331]; decide) (by rw [h331]; decide) (by rw [h331]; rfl) rfl ?_
        refine r_aload_n dL_law_1097 rfl ?_
        refine r_aload_nx dL_law_1098 rfl ?_
        refine r_iload_n dL_law_1099 rfl ?_
        refine r_iconst (v := 1) dL_law_1100 ci_1 ?_
        refine r_iadd dL_law_1101 ?_
        obtain ⟨hg332, ep11⟩ := grd_some ep11
        refine r_sldn hn hx dL_law_1102 hg332 ?_
        refine r_aload_nx dL_law_1103 rfl ?_
        refine r_iload_n dL_law_1104 rfl ?_
        refine r_iconst (v := 2) dL_law_1105 ci_2 ?_
        refine r_iadd dL_law_1106 ?_
        obtain ⟨hg333, ep11⟩ := grd_some ep11
        refine r_sldn hn hx dL_law_1107 hg333 ?_
        refine r_aload_nx dL_law_1108 rfl ?_
        refine r_iload_n dL_law_1109 rfl ?_
        refine r_iconst (v := 3) dL_law_1110 ci_3 ?_
        refine r_iadd dL_law_1111 ?_
        obtain ⟨hg334, ep11⟩ := grd_some ep11
        refine r_sldn hn hx dL_law_1112 hg334 ?_
        obtain ⟨hn335, ep11⟩ := gP_some ep11
        obtain ⟨hn336, ep11⟩ := gP_some ep11
        obtain ⟨q337, eq338, ep11⟩ := obind ep11
        refine r_callV (as := [_, _, _]) (rest := []) dL_law_1113 ml_L_104 yV_X11_after (c_X11_after hn336 eq338) (by decide) rfl (lp_0 hn335) (lq_0 hn335) (Nat.le_of_ble_eq_true rfl) ?_
        refine r_aload_n dL_law_1116 rfl ?_
        refine r_aload_nx dL_law_1117 rfl ?_
        refine r_iload_n dL_law_1118 rfl ?_
        refine r_iconst (v := 1) dL_law_1119 ci_1 ?_
        refine r_iadd dL_law_1120 ?_
        obtain ⟨hg339, ep11⟩ := grd_some ep11
        refine r_sldn hn hx dL_law_1121 hg339 ?_
        refine r_aload_nx dL_law_1122 rfl ?_
        refine r_iload_n dL_law_1123 rfl ?_
        refine r_iconst (v := 2) dL_law_1124 ci_2 ?_
        refine r_iadd dL_law_1125 ?_
        obtain ⟨hg340, ep11⟩ := grd_some ep11
        refine r_sldn hn hx dL_law_1126 hg340 ?_
        refine r_aload_nx dL_law_1127 rfl ?_
        refine r_iload_n dL_law_1128 rfl ?_
        refine r_iconst (v := 3) dL_law_1129 ci_3 ?_
        refine r_iadd dL_law_1130 ?_
        obtain ⟨hg341, ep11⟩ := grd_some ep11
        refine r_sldn hn hx dL_law_1131 hg341 ?_
        obtain ⟨hn342, ep11⟩ := gP_some ep11
        obtain ⟨q343, eq344, ep11⟩ := obind ep11
        refine r_callV (as := [_, _, _]) (rest := [_]) dL_law_1132 ml_L_107 yV_X12_after (c_X12_after hn342 eq344) (by decide) rfl (lp_44 hn342) (lq_44 hn342) (Nat.le_of_ble_eq_true rfl) ?_
        refine r_icmp_eq (tgt := 1209) dL_law_1135 rfl (fun h345 => ?_) (fun h345 => ?_)
        · replace ep11 := ite_t h345 ep11
          cases ep11
          exact r_weak (L' := [some (vx 0), some (vr (some 0)), some (vr (some 44)), some (vi z1.1)]) ⟨rfl, rfl, rfl, rfl, trivial⟩ (J10 _ rfl)
        · replace ep11 := ite_f h345 ep11
          refine r_iconst (v := 0) dL_law_1138 ci_0 ?_
          cases ep11
          have eb6 := congrArg some (erx12 _ rfl)
          cases eb6
          have e := congrArg some (erx4 _ (Eq.symm hx5))
          cases e
          exact r_ireturn dL_law_1139 rfl (nz_b (by first | exact Or.inl rfl | exact Or.inr rfl)).1
      replace ep11 := ite_f h331 ep11
      by_cases h346 : ((xs (ix z1.1)) &&& (31 : Int32)) = (22 : Int32)
      · replace ep11 := ite_t h346 ep11
        refine r_table_in (tgt := 1140) dL_law_33 (by rw [h346]; decide) (by rw [h346]; decide) (by rw [h346]; rfl) rfl ?_
        refine r_aload_n dL_law_1140 rfl ?_
        refine r_aload_nx dL_law_1141 rfl ?_
        refine r_iload_n dL_law_1142 rfl ?_
        refine r_iconst (v := 1) dL_law_1143 ci_1 ?_
        refine r_iadd dL_law_1144 ?_
        obtain ⟨hg347, ep11⟩ := grd_some ep11
        refine r_sldn hn hx dL_law_1145 hg347 ?_
        obtain ⟨hn348, ep11⟩ := gP_some ep11
        obtain ⟨q349, eq350, ep11⟩ := obind ep11
        refine r_callV (as := [_]) (rest := []) dL_law_1146 ml_L_108 yV_X11_count (c_X11_count hn348 eq350) (by decide) rfl (lp_0 hn348) (lq_0 hn348) (Nat.le_of_ble_eq_true rfl) ?_
        refine r_aload_n dL_law_1149 rfl ?_
        refine r_aload_nx dL_law_1150 rfl ?_
        refine r_iload_n dL_law_1151 rfl ?_
        refine r_iconst (v := 1) dL_law_1152 ci_1 ?_
        refine r_iadd dL_law_1153 ?_
        obtain ⟨hg351, ep11⟩ := grd_some ep11
        refine r_sldn hn hx dL_law_1154 hg351 ?_
        obtain ⟨q352, eq353, ep11⟩ := obind ep11
        refine r_callV (as := [_]) (rest := [_]) dL_law_1155 ml_L_111 yV_X12_count (c_X12_count hn348 eq353) (by decide) rfl (lp_44 hn348) (lq_44 hn348) (Nat.le_of_ble_eq_true rfl) ?_
        refine r_icmp_eq (tgt := 1209) dL_law_1158 rfl (fun h354 => ?_) (fun h354 => ?_)
        · replace ep11 := ite_t h354 ep11
          cases ep11
          exact r_weak (L' := [some (vx 0), some (vr (some 0)), some (vr (some 44)), some (vi z1.1)]) ⟨rfl, rfl, rfl, rfl, trivial⟩ (J10 _ rfl)
        · replace ep11 := ite_f h354 ep11
          refine r_iconst (v := 0) dL_law_1161 ci_0 ?_
          cases ep11
          have eb6 := congrArg some (erx12 _ rfl)
          cases eb6
          have e := congrArg some (erx4 _ (Eq.symm hx5))
          cases e
          exact r_ireturn dL_law_1162 rfl (nz_b (by first | exact Or.inl rfl | exact Or.inr rfl)).1
      replace ep11 := ite_f h346 ep11
      by_cases h355 : ((xs (ix z1.1)) &&& (31 : Int32)) = (23 : Int32)
      · replace ep11 := ite_t h355 ep11
        refine r_table_in (tgt := 1163) dL_law_33 (by rw [h355]; decide) (by rw [h355]; decide) (by rw [h355]; rfl) rfl ?_
        refine r_aload_n dL_law_1163 rfl ?_
        refine r_aload_nx dL_law_1164 rfl ?_
        refine r_iload_n dL_law_1165 rfl ?_
        refine r_iconst (v := 1) dL_law_1166 ci_1 ?_
        refine r_iadd dL_law_1167 ?_
        obtain ⟨hg356, ep11⟩ := grd_some ep11
        refine r_sldn hn hx dL_law_1168 hg356 ?_
        obtain ⟨hn357, ep11⟩ := gP_some ep11
        obtain ⟨q358, eq359, ep11⟩ := obind ep11
        refine r_callV (as := [_]) (rest := []) dL_law_1169 ml_L_112 yV_X11_image (c_X11_image hn357 eq359) (by decide) rfl (lp_0 hn357) (lq_0 hn357) (Nat.le_of_ble_eq_true rfl) ?_
        refine r_aload_n dL_law_1172 rfl ?_
        refine r_aload_nx dL_law_1173 rfl ?_
        refine r_iload_n dL_law_1174 rfl ?_
        refine r_iconst (v := 1) dL_law_1175 ci_1 ?_
        refine r_iadd dL_law_1176 ?_
        obtain ⟨hg360, ep11⟩ := grd_some ep11
        refine r_sldn hn hx dL_law_1177 hg360 ?_
        obtain ⟨hn361, ep11⟩ := gP_some ep11
        obtain ⟨q362, eq363, ep11⟩ := obind ep11
        refine r_callV (as := [_]) (rest := [_]) dL_law_1178 ml_L_116 yV_X12_image (c_X12_image hn361 eq363) (by decide) rfl (lp_44 hn361) (lq_44 hn361) (Nat.le_of_ble_eq_true rfl) ?_
        refine r_icmp_eq (tgt := 1209) dL_law_1181 rfl (fun h364 => ?_) (fun h364 => ?_)
        · replace ep11 := ite_t h364 ep11
          cases ep11
          exact r_weak (L' := [some (vx 0), some (vr (some 0)), some (vr (some 44)), some (vi z1.1)]) ⟨rfl, rfl, rfl, rfl, trivial⟩ (J10 _ rfl)
        · replace ep11 := ite_f h364 ep11
          refine r_iconst (v := 0) dL_law_1184 ci_0 ?_
          cases ep11
          have eb6 := congrArg some (erx12 _ rfl)
          cases eb6
          have e := congrArg some (erx4 _ (Eq.symm hx5))
          cases e
          exact r_ireturn dL_law_1185 rfl (nz_b (by first | exact Or.inl rfl | exact Or.inr rfl)).1
      replace ep11 := ite_f h355 ep11
      by_cases h365 : ((xs (ix z1.1)) &&& (31 : Int32)) = (24 : Int32)
      · replace ep11 := ite_t h365 ep11
        refine r_table_in (tgt := 1186) dL_law_33 (by rw [h365]; decide) (by rw [h365]; decide) (by rw [h365]; rfl) rfl ?_
        refine r_aload_n dL_law_1186 rfl ?_
        refine r_aload_nx dL_law_1187 rfl ?_
        refine r_iload_n dL_law_1188 rfl ?_
        refine r_iconst (v := 1) dL_law_1189 ci_1 ?_
        refine r_iadd dL_law_1190 ?_
        obtain ⟨hg366, ep11⟩ := grd_some ep11
        refine r_sldn hn hx dL_law_1191 hg366 ?_
        obtain ⟨hn367, ep11⟩ := gP_some ep11
        obtain ⟨hn368, ep11⟩ := gP_some ep11
        obtain ⟨q369, eq370, ep11⟩ := obind ep11
        refine r_callV (as := [_]) (rest := []) dL_law_1192 ml_L_117 yV_X11_again (c_X11_again hn368 eq370) (by decide) rfl (lp_0 hn367) (lq_0 hn367) (Nat.le_of_ble_eq_true rfl) ?_
        refine r_aload_n dL_law_1195 rfl ?_
        refine r_aload_nx dL_law_1196 rfl ?_
        refine r_iload_n dL_law_1197 rfl ?_
        refine r_iconst (v := 1) dL_law_1198 ci_1 ?_
        refine r_iadd dL_law_1199 ?_
        obtain ⟨hg371, ep11⟩ := grd_some ep11
        refine r_sldn hn hx dL_law_1200 hg371 ?_
        obtain ⟨hn372, ep11⟩ := gP_some ep11
        obtain ⟨q373, eq374, ep11⟩ := obind ep11
        refine r_callV (as := [_]) (rest := [_]) dL_law_1201 ml_L_120 yV_X12_again (c_X12_again hn372 eq374) (by decide) rfl (lp_44 hn372) (lq_44 hn372) (Nat.le_of_ble_eq_true rfl) ?_
        refine r_icmp_eq (tgt := 1209) dL_law_1204 rfl (fun h375 => ?_) (fun h375 => ?_)
        · replace ep11 := ite_t h375 ep11
          cases ep11
          exact r_weak (L' := [some (vx 0), some (vr (some 0)), some (vr (some 44)), some (vi z1.1)]) ⟨rfl, rfl, rfl, rfl, trivial⟩ (J10 _ rfl)
        · replace ep11 := ite_f h375 ep11
          refine r_iconst (v := 0) dL_law_1207 ci_0 ?_
          cases ep11
          have eb6 := congrArg some (erx12 _ rfl)
          cases eb6
          have e := congrArg some (erx4 _ (Eq.symm hx5))
          cases e
          exact r_ireturn dL_law_1208 rfl (nz_b (by first | exact Or.inl rfl | exact Or.inr rfl)).1
      replace ep11 := ite_f h365 ep11
      have ho33 : ((xs (ix z1.1)) &&& (31 : Int32)).toInt < 0 ∨ 24 < ((xs (ix z1.1)) &&& (31 : Int32)).toInt := by
        have nh13 := lv_neT (a := 0) h13 (by decide)
        have nh30 := lv_neT (a := 1) h30 (by decide)
        have nh37 := lv_neT (a := 2) h37 (by decide)
        have nh49 := lv_neT (a := 3) h49 (by decide)
        have nh56 := lv_neT (a := 4) h56 (by decide)
        have nh68 := lv_neT (a := 5) h68 (by decide)
        have nh82 := lv_neT (a := 6) h82 (by decide)
        have nh95 := lv_neT (a := 7) h95 (by decide)
        have nh112 := lv_neT (a := 8) h112 (by decide)
        have nh127 := lv_neT (a := 9) h127 (by decide)
        have nh142 := lv_neT (a := 10) h142 (by decide)
        have nh155 := lv_neT (a := 11) h155 (by decide)
        have nh169 := lv_neT (a := 12) h169 (by decide)
        have nh184 := lv_neT (a := 13) h184 (by decide)
        have nh211 := lv_neT (a := 14) h211 (by decide)
        have nh242 := lv_neT (a := 15) h242 (by decide)
        have nh256 := lv_neT (a := 16) h256 (by decide)
        have nh273 := lv_neT (a := 17) h273 (by decide)
        have nh290 := lv_neT (a := 18) h290 (by decide)
        have nh303 := lv_neT (a := 19) h303 (by decide)
        have nh316 := lv_neT (a := 20) h316 (by decide)
        have nh331 := lv_neT (a := 21) h331 (by decide)
        have nh346 := lv_neT (a := 22) h346 (by decide)
        have nh355 := lv_neT (a := 23) h355 (by decide)
        have nh365 := lv_neT (a := 24) h365 (by decide)
        omega
      refine r_table_out (tgt := 1209) dL_law_33 ho33 rfl ?_
      cases ep11
      exact r_weak (L' := [some (vx 0), some (vr (some 0)), some (vr (some 44)), some (vi z1.1)]) ⟨rfl, rfl, rfl, rfl, trivial⟩ (J10 _ rfl)
  exact r_weak (L' := [some (vx 0), some (vr (some 0)), some (vr (some 44)), some (vi a3)]) ⟨rfl, rfl, rfl, rfl, trivial⟩ J3w
