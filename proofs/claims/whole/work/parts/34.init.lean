noncomputable def m_X12_init (S : Sk) (a0 : Nat) (mm : Mm) : Option (Sk × Mm) := ltS (nwS S 21 2400 2400) (fun T3 => ltS (sRs T3 a0 1 (some S.1)) (fun T6 => ltS (nwS T6 20 4 4) (fun T12 => ltS (sRs T12 a0 2 (some T6.1)) (fun T16 => ltS (nwS T16 20 4 4) (fun T24 => ltS (sRs T24 a0 3 (some T16.1)) (fun T29 => ltS (nwS T29 20 4 4) (fun T39 => ltS (sRs T39 a0 4 (some T29.1)) (fun T45 => ltS (nwS T45 20 16 16) (fun T57 => ltS (sRs T57 a0 5 (some T45.1)) (fun T64 => ltS (nwS T64 20 576 576) (fun T78 => ltS (sRs T78 a0 6 (some T64.1)) (fun T86 => ltS (nwS T86 20 1288 1288) (fun T102 => ltS (sRs T102 a0 7 (some T86.1)) (fun T111 => ltS (nwS T111 20 104 104) (fun T129 => ltS (sRs T129 a0 8 (some T111.1)) (fun T139 => ltS (nwS T139 20 200 200) (fun T159 => ltS (sRs T159 a0 9 (some T139.1)) (fun T170 => ltS (nwS T170 20 161 161) (fun T192 => ltS (sRs T192 a0 19 (some T170.1)) (fun T204 => ltS (nwS T204 20 4 4) (fun T228 => ltS (sRs T228 a0 20 (some T204.1)) (fun T241 => ltS (nwS T241 20 6 6) (fun T267 => ltS (sRs T267 a0 31 (some T241.1)) (fun T281 => ltS (nwS T281 20 6 6) (fun T309 => ltS (sRs T309 a0 32 (some T281.1)) (fun T324 => ltS (nwS T324 20 6 6) (fun T354 => ltS (sRs T354 a0 33 (some T324.1)) (fun T370 => ltS (nwS T370 20 36 36) (fun T402 => ltS (sRs T402 a0 34 (some T370.1)) (fun T419 => ltS (nwS T419 20 16 16) (fun T453 => ltS (sRs T453 a0 35 (some T419.1)) (fun T471 => ltS (nwS T471 20 16 16) (fun T507 => ltS (sRs T507 a0 36 (some T471.1)) (fun T526 => ltS (nwS T526 20 16 16) (fun T564 => ltS (sRs T564 a0 37 (some T526.1)) (fun T584 => ltS (nwS T584 20 8 8) (fun T624 => ltS (sRs T624 a0 39 (some T584.1)) (fun T645 => ltS (nwS T645 20 6 6) (fun T687 => ltS (sRs T687 a0 40 (some T645.1)) (fun T709 => ltS (nwS T709 20 6 6) (fun T753 => ltS (sRs T753 a0 42 (some T709.1)) (fun T776 => ltS (nwS T776 20 6 6) (fun T822 => ltS (sRs T822 a0 43 (some T776.1)) (fun T846 => ltS (nwS T846 20 729 729) (fun T894 => ltS (sRs T894 a0 44 (some T846.1)) (fun T919 => ltS (nwS T919 20 8 8) (fun T969 => ltS (sRs T969 a0 53 (some T919.1)) (fun T995 => ltS (nwS T995 20 448 448) (fun T1047 => ltS (sRs T1047 a0 55 (some T995.1)) (fun T1074 => ltS (nwS T1074 22 3 3) (fun T1128 => ltS (sRs T1128 a0 56 (some T1074.1)) (fun T1156 => gR (sR T1156 a0 4) T29.1 (some (T1156, (sI (nwM T1074 (nwM T995 (nwM T919 (nwM T846 (nwM T776 (nwM T709 (nwM T645 (nwM T584 (nwM T526 (nwM T471 (nwM T419 (nwM T370 (nwM T324 (nwM T281 (nwM T241 (nwM T204 (nwM T170 (nwM T139 (nwM T111 (nwM T86 (nwM T64 (nwM T45 (nwM T29 (nwM T16 (nwM T6 (nwM S mm)))))))))))))))))))))))))) T29.1 (ix (0 : Int32)) (-1 : Int32))))))))))))))))))))))))))))))))))))))))))))))))))))))))
set_option maxHeartbeats 4000000 in
set_option maxRecDepth 100000 in
theorem c_X12_init {l : Launch} {G : Gt} {S : Sk} {a0 : Nat} {mm : Mm} (ha0 : KD S a0 12) {q : Sk × Mm} (e : m_X12_init S a0 mm = some q) : CallOK l G M_X12_init yX12_init 1 [vr (some a0)] S mm (none) q.1 q.2 := by
  refine call_of_run rfl rfl rfl (Nat.le_of_ble_eq_true rfl) ?_
  show Run l G M_X12_init 1 0 [some (vr (some a0))] [] S mm (none) q.1 q.2
  unfold m_X12_init at e
  refine r_aload_n dX12_init_0 rfl ?_
  refine r_objInit (rest := []) dX12_init_1 oi_X12_1 oi_i oi_c (by decide) (Nat.le_of_ble_eq_true rfl) ?_
  refine r_aload_n dX12_init_4 rfl ?_
  refine r_sipush (v := 2400) dX12_init_5 cs_2400 ?_
  refine r_newa (t := 21) dX12_init_8 rfl (by decide) (by decide) aw_21 (by decide) (N := 2400) (by decide) (by decide) ?_
  obtain ⟨T3, hT3, e⟩ := ltS_some e
  rw [← hT3]
  have hn4 := kd_nw_n hT3 ha0
  have hn5 := ak_new_n hT3
  refine r_putR dX12_init_10 fl_X12_7 ft_12_1 (Or.inr ⟨rfl, fun q hq => by cases hq; rfl⟩) rfl hn4.1 hn4.2 ?_
  obtain ⟨T6, hT6, e⟩ := ltS_some e
  rw [← hT6]
  have hn7 := kd_nw_r hT6 hn4
  have hn8 := ak_nw_r hT6 hn5
  refine r_aload_n dX12_init_13 rfl ?_
  refine r_iconst (v := 4) dX12_init_14 ci_4 ?_
  refine r_newa (t := 20) dX12_init_15 rfl (by decide) (by decide) aw_20 (by decide) (N := 4) (by decide) (by decide) ?_
  obtain ⟨T12, hT12, e⟩ := ltS_some e
  rw [← hT12]
  have hn13 := kd_nw_n hT12 hn7
  have hn14 := ak_nw_n hT12 hn8
  have hn15 := ak_new_n hT12
  refine r_putR dX12_init_17 fl_X12_13 ft_12_2 (Or.inr ⟨rfl, fun q hq => by cases hq; rfl⟩) rfl hn13.1 hn13.2 ?_
  obtain ⟨T16, hT16, e⟩ := ltS_some e
  rw [← hT16]
  have hn17 := kd_nw_r hT16 hn13
  have hn18 := ak_nw_r hT16 hn14
  have hn19 := ak_nw_r hT16 hn15
  refine r_aload_n dX12_init_20 rfl ?_
  refine r_iconst (v := 4) dX12_init_21 ci_4 ?_
  refine r_newa (t := 20) dX12_init_22 rfl (by decide) (by decide) aw_20 (by decide) (N := 4) (by decide) (by decide) ?_
  obtain ⟨T24, hT24, e⟩ := ltS_some e
  rw [← hT24]
  have hn25 := kd_nw_n hT24 hn17
  have hn26 := ak_nw_n hT24 hn18
  have hn27 := ak_nw_n hT24 hn19
  have hn28 := ak_new_n hT24
  refine r_putR dX12_init_24 fl_X12_17 ft_12_3 (Or.inr ⟨rfl, fun q hq => by cases hq; rfl⟩) rfl hn25.1 hn25.2 ?_
  obtain ⟨T29, hT29, e⟩ := ltS_some e
  rw [← hT29]
  have hn30 := kd_nw_r hT29 hn25
  have hn31 := ak_nw_r hT29 hn26
  have hn32 := ak_nw_r hT29 hn27
  have hn33 := ak_nw_r hT29 hn28
  refine r_aload_n dX12_init_27 rfl ?_
  refine r_iconst (v := 4) dX12_init_28 ci_4 ?_
  refine r_newa (t := 20) dX12_init_29 rfl (by decide) (by decide) aw_20 (by decide) (N := 4) (by decide) (by decide) ?_
  obtain ⟨T39, hT39, e⟩ := ltS_some e
  rw [← hT39]
  have hn40 := kd_nw_n hT39 hn30
  have hn41 := ak_nw_n hT39 hn31
  have hn42 := ak_nw_n hT39 hn32
  have hn43 := ak_nw_n hT39 hn33
  have hn44 := ak_new_n hT39
  refine r_putR dX12_init_31 fl_X12_20 ft_12_4 (Or.inr ⟨rfl, fun q hq => by cases hq; rfl⟩) rfl hn40.1 hn40.2 ?_
  obtain ⟨T45, hT45, e⟩ := ltS_some e
  rw [← hT45]
  have hn46 := kd_nw_r hT45 hn40
  have hn47 := ak_nw_r hT45 hn41
  have hn48 := ak_nw_r hT45 hn42
  have hn49 := ak_nw_r hT45 hn43
  have hn50 := ak_nw_r hT45 hn44
  refine r_aload_n dX12_init_34 rfl ?_
  refine r_bipush (v := 16) dX12_init_35 cb_16 ?_
  refine r_newa (t := 20) dX12_init_37 rfl (by decide) (by decide) aw_20 (by decide) (N := 16) (by decide) (by decide) ?_
  obtain ⟨T57, hT57, e⟩ := ltS_some e
  rw [← hT57]
  have hn58 := kd_nw_n hT57 hn46
  have hn59 := ak_nw_n hT57 hn47
  have hn60 := ak_nw_n hT57 hn48
  have hn61 := ak_nw_n hT57 hn49
  have hn62 := ak_nw_n hT57 hn50
  have hn63 := ak_new_n hT57
  refine r_putR dX12_init_39 fl_X12_23 ft_12_5 (Or.inr ⟨rfl, fun q hq => by cases hq; rfl⟩) rfl hn58.1 hn58.2 ?_
  obtain ⟨T64, hT64, e⟩ := ltS_some e
  rw [← hT64]
  have hn65 := kd_nw_r hT64 hn58
  have hn66 := ak_nw_r hT64 hn59
  have hn67 := ak_nw_r hT64 hn60
  have hn68 := ak_nw_r hT64 hn61
  have hn69 := ak_nw_r hT64 hn62
  have hn70 := ak_nw_r hT64 hn63
  refine r_aload_n dX12_init_42 rfl ?_
  refine r_sipush (v := 576) dX12_init_43 cs_576 ?_
  refine r_newa (t := 20) dX12_init_46 rfl (by decide) (by decide) aw_20 (by decide) (N := 576) (by decide) (by decide) ?_
  obtain ⟨T78, hT78, e⟩ := ltS_some e
  rw [← hT78]
  have hn79 := kd_nw_n hT78 hn65
  have hn80 := ak_nw_n hT78 hn66
  have hn81 := ak_nw_n hT78 hn67
  have hn82 := ak_nw_n hT78 hn68
  have hn83 := ak_nw_n hT78 hn69
  have hn84 := ak_nw_n hT78 hn70
  have hn85 := ak_new_n hT78
  refine r_putR dX12_init_48 fl_X12_26 ft_12_6 (Or.inr ⟨rfl, fun q hq => by cases hq; rfl⟩) rfl hn79.1 hn79.2 ?_
  obtain ⟨T86, hT86, e⟩ := ltS_some e
  rw [← hT86]
  have hn87 := kd_nw_r hT86 hn79
  have hn88 := ak_nw_r hT86 hn80
  have hn89 := ak_nw_r hT86 hn81
  have hn90 := ak_nw_r hT86 hn82
  have hn91 := ak_nw_r hT86 hn83
  have hn92 := ak_nw_r hT86 hn84
  have hn93 := ak_nw_r hT86 hn85
  refine r_aload_n dX12_init_51 rfl ?_
  refine r_sipush (v := 1288) dX12_init_52 cs_1288 ?_
  refine r_newa (t := 20) dX12_init_55 rfl (by decide) (by decide) aw_20 (by decide) (N := 1288) (by decide) (by decide) ?_
  obtain ⟨T102, hT102, e⟩ := ltS_some e
  rw [← hT102]
  have hn103 := kd_nw_n hT102 hn87
  have hn104 := ak_nw_n hT102 hn88
  have hn105 := ak_nw_n hT102 hn89
  have hn106 := ak_nw_n hT102 hn90
  have hn107 := ak_nw_n hT102 hn91
  have hn108 := ak_nw_n hT102 hn92
  have hn109 := ak_nw_n hT102 hn93
  have hn110 := ak_new_n hT102
  refine r_putR dX12_init_57 fl_X12_29 ft_12_7 (Or.inr ⟨rfl, fun q hq => by cases hq; rfl⟩) rfl hn103.1 hn103.2 ?_
  obtain ⟨T111, hT111, e⟩ := ltS_some e
  rw [← hT111]
  have hn112 := kd_nw_r hT111 hn103
  have hn113 := ak_nw_r hT111 hn104
  have hn114 := ak_nw_r hT111 hn105
  have hn115 := ak_nw_r hT111 hn106
  have hn116 := ak_nw_r hT111 hn107
  have hn117 := ak_nw_r hT111 hn108
  have hn118 := ak_nw_r hT111 hn109
  have hn119 := ak_nw_r hT111 hn110
  refine r_aload_n dX12_init_60 rfl ?_
  refine r_bipush (v := 104) dX12_init_61 cb_104 ?_
  refine r_newa (t := 20) dX12_init_63 rfl (by decide) (by decide) aw_20 (by decide) (N := 104) (by decide) (by decide) ?_
  obtain ⟨T129, hT129, e⟩ := ltS_some e
  rw [← hT129]
  have hn130 := kd_nw_n hT129 hn112
  have hn131 := ak_nw_n hT129 hn113
  have hn132 := ak_nw_n hT129 hn114
  have hn133 := ak_nw_n hT129 hn115
  have hn134 := ak_nw_n hT129 hn116
  have hn135 := ak_nw_n hT129 hn117
  have hn136 := ak_nw_n hT129 hn118
  have hn137 := ak_nw_n hT129 hn119
  have hn138 := ak_new_n hT129
  refine r_putR dX12_init_65 fl_X12_32 ft_12_8 (Or.inr ⟨rfl, fun q hq => by cases hq; rfl⟩) rfl hn130.1 hn130.2 ?_
  obtain ⟨T139, hT139, e⟩ := ltS_some e
  rw [← hT139]
  have hn140 := kd_nw_r hT139 hn130
  have hn141 := ak_nw_r hT139 hn131
  have hn142 := ak_nw_r hT139 hn132
  have hn143 := ak_nw_r hT139 hn133
  have hn144 := ak_nw_r hT139 hn134
  have hn145 := ak_nw_r hT139 hn135
  have hn146 := ak_nw_r hT139 hn136
  have hn147 := ak_nw_r hT139 hn137
  have hn148 := ak_nw_r hT139 hn138
  refine r_aload_n dX12_init_68 rfl ?_
  refine r_sipush (v := 200) dX12_init_69 cs_200 ?_
  refine r_newa (t := 20) dX12_init_72 rfl (by decide) (by decide) aw_20 (by decide) (N := 200) (by decide) (by decide) ?_
  obtain ⟨T159, hT159, e⟩ := ltS_some e
  rw [← hT159]
  have hn160 := kd_nw_n hT159 hn140
  have hn161 := ak_nw_n hT159 hn141
  have hn162 := ak_nw_n hT159 hn142
  have hn163 := ak_nw_n hT159 hn143
  have hn164 := ak_nw_n hT159 hn144
  have hn165 := ak_nw_n hT159 hn145
  have hn166 := ak_nw_n hT159 hn146
  have hn167 := ak_nw_n hT159 hn147
  have hn168 := ak_nw_n hT159 hn148
  have hn169 := ak_new_n hT159
  refine r_putR dX12_init_74 fl_X12_35 ft_12_9 (Or.inr ⟨rfl, fun q hq => by cases hq; rfl⟩) rfl hn160.1 hn160.2 ?_
  obtain ⟨T170, hT170, e⟩ := ltS_some e
  rw [← hT170]
  have hn171 := kd_nw_r hT170 hn160
  have hn172 := ak_nw_r hT170 hn161
  have hn173 := ak_nw_r hT170 hn162
  have hn174 := ak_nw_r hT170 hn163
  have hn175 := ak_nw_r hT170 hn164
  have hn176 := ak_nw_r hT170 hn165
  have hn177 := ak_nw_r hT170 hn166
  have hn178 := ak_nw_r hT170 hn167
  have hn179 := ak_nw_r hT170 hn168
  have hn180 := ak_nw_r hT170 hn169
  refine r_aload_n dX12_init_77 rfl ?_
  refine r_sipush (v := 161) dX12_init_78 cs_161 ?_
  refine r_newa (t := 20) dX12_init_81 rfl (by decide) (by decide) aw_20 (by decide) (N := 161) (by decide) (by decide) ?_
  obtain ⟨T192, hT192, e⟩ := ltS_some e
  rw [← hT192]
  have hn193 := kd_nw_n hT192 hn171
  have hn194 := ak_nw_n hT192 hn172
  have hn195 := ak_nw_n hT192 hn173
  have hn196 := ak_nw_n hT192 hn174
  have hn197 := ak_nw_n hT192 hn175
  have hn198 := ak_nw_n hT192 hn176
  have hn199 := ak_nw_n hT192 hn177
  have hn200 := ak_nw_n hT192 hn178
  have hn201 := ak_nw_n hT192 hn179
  have hn202 := ak_nw_n hT192 hn180
  have hn203 := ak_new_n hT192
  refine r_putR dX12_init_83 fl_X12_38 ft_12_19 (Or.inr ⟨rfl, fun q hq => by cases hq; rfl⟩) rfl hn193.1 hn193.2 ?_
  obtain ⟨T204, hT204, e⟩ := ltS_some e
  rw [← hT204]
  have hn205 := kd_nw_r hT204 hn193
  have hn206 := ak_nw_r hT204 hn194
  have hn207 := ak_nw_r hT204 hn195
  have hn208 := ak_nw_r hT204 hn196
  have hn209 := ak_nw_r hT204 hn197
  have hn210 := ak_nw_r hT204 hn198
  have hn211 := ak_nw_r hT204 hn199
  have hn212 := ak_nw_r hT204 hn200
  have hn213 := ak_nw_r hT204 hn201
  have hn214 := ak_nw_r hT204 hn202
  have hn215 := ak_nw_r hT204 hn203
  refine r_aload_n dX12_init_86 rfl ?_
  refine r_iconst (v := 4) dX12_init_87 ci_4 ?_
  refine r_newa (t := 20) dX12_init_88 rfl (by decide) (by decide) aw_20 (by decide) (N := 4) (by decide) (by decide) ?_
  obtain ⟨T228, hT228, e⟩ := ltS_some e
  rw [← hT228]
  have hn229 := kd_nw_n hT228 hn205
  have hn230 := ak_nw_n hT228 hn206
  have hn231 := ak_nw_n hT228 hn207
  have hn232 := ak_nw_n hT228 hn208
  have hn233 := ak_nw_n hT228 hn209
  have hn234 := ak_nw_n hT228 hn210
  have hn235 := ak_nw_n hT228 hn211
  have hn236 := ak_nw_n hT228 hn212
  have hn237 := ak_nw_n hT228 hn213
  have hn238 := ak_nw_n hT228 hn214
  have hn239 := ak_nw_n hT228 hn215
  have hn240 := ak_new_n hT228
  refine r_putR dX12_init_90 fl_X12_41 ft_12_20 (Or.inr ⟨rfl, fun q hq => by cases hq; rfl⟩) rfl hn229.1 hn229.2 ?_
  obtain ⟨T241, hT241, e⟩ := ltS_some e
  rw [← hT241]
  have hn242 := kd_nw_r hT241 hn229
  have hn243 := ak_nw_r hT241 hn230
  have hn244 := ak_nw_r hT241 hn231
  have hn245 := ak_nw_r hT241 hn232
  have hn246 := ak_nw_r hT241 hn233
  have hn247 := ak_nw_r hT241 hn234
  have hn248 := ak_nw_r hT241 hn235
  have hn249 := ak_nw_r hT241 hn236
  have hn250 := ak_nw_r hT241 hn237
  have hn251 := ak_nw_r hT241 hn238
  have hn252 := ak_nw_r hT241 hn239
  have hn253 := ak_nw_r hT241 hn240
  refine r_aload_n dX12_init_93 rfl ?_
  refine r_bipush (v := 6) dX12_init_94 cb_6 ?_
  refine r_newa (t := 20) dX12_init_96 rfl (by decide) (by decide) aw_20 (by decide) (N := 6) (by decide) (by decide) ?_
  obtain ⟨T267, hT267, e⟩ := ltS_some e
  rw [← hT267]
  have hn268 := kd_nw_n hT267 hn242
  have hn269 := ak_nw_n hT267 hn243
  have hn270 := ak_nw_n hT267 hn244
  have hn271 := ak_nw_n hT267 hn245
  have hn272 := ak_nw_n hT267 hn246
  have hn273 := ak_nw_n hT267 hn247
  have hn274 := ak_nw_n hT267 hn248
  have hn275 := ak_nw_n hT267 hn249
  have hn276 := ak_nw_n hT267 hn250
  have hn277 := ak_nw_n hT267 hn251
  have hn278 := ak_nw_n hT267 hn252
  have hn279 := ak_nw_n hT267 hn253
  have hn280 := ak_new_n hT267
  refine r_putR dX12_init_98 fl_X12_44 ft_12_31 (Or.inr ⟨rfl, fun q hq => by cases hq; rfl⟩) rfl hn268.1 hn268.2 ?_
  obtain ⟨T281, hT281, e⟩ := ltS_some e
  rw [← hT281]
  have hn282 := kd_nw_r hT281 hn268
  have hn283 := ak_nw_r hT281 hn269
  have hn284 := ak_nw_r hT281 hn270
  have hn285 := ak_nw_r hT281 hn271
  have hn286 := ak_nw_r hT281 hn272
  have hn287 := ak_nw_r hT281 hn273
  have hn288 := ak_nw_r hT281 hn274
  have hn289 := ak_nw_r hT281 hn275
  have hn290 := ak_nw_r hT281 hn276
  have hn291 := ak_nw_r hT281 hn277
  have hn292 := ak_nw_r hT281 hn278
  have hn293 := ak_nw_r hT281 hn279
  have hn294 := ak_nw_r hT281 hn280
  refine r_aload_n dX12_init_101 rfl ?_
  refine r_bipush (v := 6) dX12_init_102 cb_6 ?_
  refine r_newa (t := 20) dX12_init_104 rfl (by decide) (by decide) aw_20 (by decide) (N := 6) (by decide) (by decide) ?_
  obtain ⟨T309, hT309, e⟩ := ltS_some e
  rw [← hT309]
  have hn310 := kd_nw_n hT309 hn282
  have hn311 := ak_nw_n hT309 hn283
  have hn312 := ak_nw_n hT309 hn284
  have hn313 := ak_nw_n hT309 hn285
  have hn314 := ak_nw_n hT309 hn286
  have hn315 := ak_nw_n hT309 hn287
  have hn316 := ak_nw_n hT309 hn288
  have hn317 := ak_nw_n hT309 hn289
  have hn318 := ak_nw_n hT309 hn290
  have hn319 := ak_nw_n hT309 hn291
  have hn320 := ak_nw_n hT309 hn292
  have hn321 := ak_nw_n hT309 hn293
  have hn322 := ak_nw_n hT309 hn294
  have hn323 := ak_new_n hT309
  refine r_putR dX12_init_106 fl_X12_47 ft_12_32 (Or.inr ⟨rfl, fun q hq => by cases hq; rfl⟩) rfl hn310.1 hn310.2 ?_
  obtain ⟨T324, hT324, e⟩ := ltS_some e
  rw [← hT324]
  have hn325 := kd_nw_r hT324 hn310
  have hn326 := ak_nw_r hT324 hn311
  have hn327 := ak_nw_r hT324 hn312
  have hn328 := ak_nw_r hT324 hn313
  have hn329 := ak_nw_r hT324 hn314
  have hn330 := ak_nw_r hT324 hn315
  have hn331 := ak_nw_r hT324 hn316
  have hn332 := ak_nw_r hT324 hn317
  have hn333 := ak_nw_r hT324 hn318
  have hn334 := ak_nw_r hT324 hn319
  have hn335 := ak_nw_r hT324 hn320
  have hn336 := ak_nw_r hT324 hn321
  have hn337 := ak_nw_r hT324 hn322
  have hn338 := ak_nw_r hT324 hn323
  refine r_aload_n dX12_init_109 rfl ?_
  refine r_bipush (v := 6) dX12_init_110 cb_6 ?_
  refine r_newa (t := 20) dX12_init_112 rfl (by decide) (by decide) aw_20 (by decide) (N := 6) (by decide) (by decide) ?_
  obtain ⟨T354, hT354, e⟩ := ltS_some e
  rw [← hT354]
  have hn355 := kd_nw_n hT354 hn325
  have hn356 := ak_nw_n hT354 hn326
  have hn357 := ak_nw_n hT354 hn327
  have hn358 := ak_nw_n hT354 hn328
  have hn359 := ak_nw_n hT354 hn329
  have hn360 := ak_nw_n hT354 hn330
  have hn361 := ak_nw_n hT354 hn331
  have hn362 := ak_nw_n hT354 hn332
  have hn363 := ak_nw_n hT354 hn333
  have hn364 := ak_nw_n hT354 hn334
  have hn365 := ak_nw_n hT354 hn335
  have hn366 := ak_nw_n hT354 hn336
  have hn367 := ak_nw_n hT354 hn337
  have hn368 := ak_nw_n hT354 hn338
  have hn369 := ak_new_n hT354
  refine r_putR dX12_init_114 fl_X12_50 ft_12_33 (Or.inr ⟨rfl, fun q hq => by cases hq; rfl⟩) rfl hn355.1 hn355.2 ?_
  obtain ⟨T370, hT370, e⟩ := ltS_some e
  rw [← hT370]
  have hn371 := kd_nw_r hT370 hn355
  have hn372 := ak_nw_r hT370 hn356
  have hn373 := ak_nw_r hT370 hn357
  have hn374 := ak_nw_r hT370 hn358
  have hn375 := ak_nw_r hT370 hn359
  have hn376 := ak_nw_r hT370 hn360
  have hn377 := ak_nw_r hT370 hn361
  have hn378 := ak_nw_r hT370 hn362
  have hn379 := ak_nw_r hT370 hn363
  have hn380 := ak_nw_r hT370 hn364
  have hn381 := ak_nw_r hT370 hn365
  have hn382 := ak_nw_r hT370 hn366
  have hn383 := ak_nw_r hT370 hn367
  have hn384 := ak_nw_r hT370 hn368
  have hn385 := ak_nw_r hT370 hn369
  refine r_aload_n dX12_init_117 rfl ?_
  refine r_bipush (v := 36) dX12_init_118 cb_36 ?_
  refine r_newa (t := 20) dX12_init_120 rfl (by decide) (by decide) aw_20 (by decide) (N := 36) (by decide) (by decide) ?_
  obtain ⟨T402, hT402, e⟩ := ltS_some e
  rw [← hT402]
  have hn403 := kd_nw_n hT402 hn371
  have hn404 := ak_nw_n hT402 hn372
  have hn405 := ak_nw_n hT402 hn373
  have hn406 := ak_nw_n hT402 hn374
  have hn407 := ak_nw_n hT402 hn375
  have hn408 := ak_nw_n hT402 hn376
  have hn409 := ak_nw_n hT402 hn377
  have hn410 := ak_nw_n hT402 hn378
  have hn411 := ak_nw_n hT402 hn379
  have hn412 := ak_nw_n hT402 hn380
  have hn413 := ak_nw_n hT402 hn381
  have hn414 := ak_nw_n hT402 hn382
  have hn415 := ak_nw_n hT402 hn383
  have hn416 := ak_nw_n hT402 hn384
  have hn417 := ak_nw_n hT402 hn385
  have hn418 := ak_new_n hT402
  refine r_putR dX12_init_122 fl_X12_53 ft_12_34 (Or.inr ⟨rfl, fun q hq => by cases hq; rfl⟩) rfl hn403.1 hn403.2 ?_
  obtain ⟨T419, hT419, e⟩ := ltS_some e
  rw [← hT419]
  have hn420 := kd_nw_r hT419 hn403
  have hn421 := ak_nw_r hT419 hn404
  have hn422 := ak_nw_r hT419 hn405
  have hn423 := ak_nw_r hT419 hn406
  have hn424 := ak_nw_r hT419 hn407
  have hn425 := ak_nw_r hT419 hn408
  have hn426 := ak_nw_r hT419 hn409
  have hn427 := ak_nw_r hT419 hn410
  have hn428 := ak_nw_r hT419 hn411
  have hn429 := ak_nw_r hT419 hn412
  have hn430 := ak_nw_r hT419 hn413
  have hn431 := ak_nw_r hT419 hn414
  have hn432 := ak_nw_r hT419 hn415
  have hn433 := ak_nw_r hT419 hn416
  have hn434 := ak_nw_r hT419 hn417
  have hn435 := ak_nw_r hT419 hn418
  refine r_aload_n dX12_init_125 rfl ?_
  refine r_bipush (v := 16) dX12_init_126 cb_16 ?_
  refine r_newa (t := 20) dX12_init_128 rfl (by decide) (by decide) aw_20 (by decide) (N := 16) (by decide) (by decide) ?_
  obtain ⟨T453, hT453, e⟩ := ltS_some e
  rw [← hT453]
  have hn454 := kd_nw_n hT453 hn420
  have hn455 := ak_nw_n hT453 hn421
  have hn456 := ak_nw_n hT453 hn422
  have hn457 := ak_nw_n hT453 hn423
  have hn458 := ak_nw_n hT453 hn424
  have hn459 := ak_nw_n hT453 hn425
  have hn460 := ak_nw_n hT453 hn426
  have hn461 := ak_nw_n hT453 hn427
  have hn462 := ak_nw_n hT453 hn428
  have hn463 := ak_nw_n hT453 hn429
  have hn464 := ak_nw_n hT453 hn430
  have hn465 := ak_nw_n hT453 hn431
  have hn466 := ak_nw_n hT453 hn432
  have hn467 := ak_nw_n hT453 hn433
  have hn468 := ak_nw_n hT453 hn434
  have hn469 := ak_nw_n hT453 hn435
  have hn470 := ak_new_n hT453
  refine r_putR dX12_init_130 fl_X12_56 ft_12_35 (Or.inr ⟨rfl, fun q hq => by cases hq; rfl⟩) rfl hn454.1 hn454.2 ?_
  obtain ⟨T471, hT471, e⟩ := ltS_some e
  rw [← hT471]
  have hn472 := kd_nw_r hT471 hn454
  have hn473 := ak_nw_r hT471 hn455
  have hn474 := ak_nw_r hT471 hn456
  have hn475 := ak_nw_r hT471 hn457
  have hn476 := ak_nw_r hT471 hn458
  have hn477 := ak_nw_r hT471 hn459
  have hn478 := ak_nw_r hT471 hn460
  have hn479 := ak_nw_r hT471 hn461
  have hn480 := ak_nw_r hT471 hn462
  have hn481 := ak_nw_r hT471 hn463
  have hn482 := ak_nw_r hT471 hn464
  have hn483 := ak_nw_r hT471 hn465
  have hn484 := ak_nw_r hT471 hn466
  have hn485 := ak_nw_r hT471 hn467
  have hn486 := ak_nw_r hT471 hn468
  have hn487 := ak_nw_r hT471 hn469
  have hn488 := ak_nw_r hT471 hn470
  refine r_aload_n dX12_init_133 rfl ?_
  refine r_bipush (v := 16) dX12_init_134 cb_16 ?_
  refine r_newa (t := 20) dX12_init_136 rfl (by decide) (by decide) aw_20 (by decide) (N := 16) (by decide) (by decide) ?_
  obtain ⟨T507, hT507, e⟩ := ltS_some e
  rw [← hT507]
  have hn508 := kd_nw_n hT507 hn472
  have hn509 := ak_nw_n hT507 hn473
  have hn510 := ak_nw_n hT507 hn474
  have hn511 := ak_nw_n hT507 hn475
  have hn512 := ak_nw_n hT507 hn476
  have hn513 := ak_nw_n hT507 hn477
  have hn514 := ak_nw_n hT507 hn478
  have hn515 := ak_nw_n hT507 hn479
  have hn516 := ak_nw_n hT507 hn480
  have hn517 := ak_nw_n hT507 hn481
  have hn518 := ak_nw_n hT507 hn482
  have hn519 := ak_nw_n hT507 hn483
  have hn520 := ak_nw_n hT507 hn484
  have hn521 := ak_nw_n hT507 hn485
  have hn522 := ak_nw_n hT507 hn486
  have hn523 := ak_nw_n hT507 hn487
  have hn524 := ak_nw_n hT507 hn488
  have hn525 := ak_new_n hT507
  refine r_putR dX12_init_138 fl_X12_59 ft_12_36 (Or.inr ⟨rfl, fun q hq => by cases hq; rfl⟩) rfl hn508.1 hn508.2 ?_
  obtain ⟨T526, hT526, e⟩ := ltS_some e
  rw [← hT526]
  have hn527 := kd_nw_r hT526 hn508
  have hn528 := ak_nw_r hT526 hn509
  have hn529 := ak_nw_r hT526 hn510
  have hn530 := ak_nw_r hT526 hn511
  have hn531 := ak_nw_r hT526 hn512
  have hn532 := ak_nw_r hT526 hn513
  have hn533 := ak_nw_r hT526 hn514
  have hn534 := ak_nw_r hT526 hn515
  have hn535 := ak_nw_r hT526 hn516
  have hn536 := ak_nw_r hT526 hn517
  have hn537 := ak_nw_r hT526 hn518
  have hn538 := ak_nw_r hT526 hn519
  have hn539 := ak_nw_r hT526 hn520
  have hn540 := ak_nw_r hT526 hn521
  have hn541 := ak_nw_r hT526 hn522
  have hn542 := ak_nw_r hT526 hn523
  have hn543 := ak_nw_r hT526 hn524
  have hn544 := ak_nw_r hT526 hn525
  refine r_aload_n dX12_init_141 rfl ?_
  refine r_bipush (v := 16) dX12_init_142 cb_16 ?_
  refine r_newa (t := 20) dX12_init_144 rfl (by decide) (by decide) aw_20 (by decide) (N := 16) (by decide) (by decide) ?_
  obtain ⟨T564, hT564, e⟩ := ltS_some e
  rw [← hT564]
  have hn565 := kd_nw_n hT564 hn527
  have hn566 := ak_nw_n hT564 hn528
  have hn567 := ak_nw_n hT564 hn529
  have hn568 := ak_nw_n hT564 hn530
  have hn569 := ak_nw_n hT564 hn531
  have hn570 := ak_nw_n hT564 hn532
  have hn571 := ak_nw_n hT564 hn533
  have hn572 := ak_nw_n hT564 hn534
  have hn573 := ak_nw_n hT564 hn535
  have hn574 := ak_nw_n hT564 hn536
  have hn575 := ak_nw_n hT564 hn537
  have hn576 := ak_nw_n hT564 hn538
  have hn577 := ak_nw_n hT564 hn539
  have hn578 := ak_nw_n hT564 hn540
  have hn579 := ak_nw_n hT564 hn541
  have hn580 := ak_nw_n hT564 hn542
  have hn581 := ak_nw_n hT564 hn543
  have hn582 := ak_nw_n hT564 hn544
  have hn583 := ak_new_n hT564
  refine r_putR dX12_init_146 fl_X12_62 ft_12_37 (Or.inr ⟨rfl, fun q hq => by cases hq; rfl⟩) rfl hn565.1 hn565.2 ?_
  obtain ⟨T584, hT584, e⟩ := ltS_some e
  rw [← hT584]
  have hn585 := kd_nw_r hT584 hn565
  have hn586 := ak_nw_r hT584 hn566
  have hn587 := ak_nw_r hT584 hn567
  have hn588 := ak_nw_r hT584 hn568
  have hn589 := ak_nw_r hT584 hn569
  have hn590 := ak_nw_r hT584 hn570
  have hn591 := ak_nw_r hT584 hn571
  have hn592 := ak_nw_r hT584 hn572
  have hn593 := ak_nw_r hT584 hn573
  have hn594 := ak_nw_r hT584 hn574
  have hn595 := ak_nw_r hT584 hn575
  have hn596 := ak_nw_r hT584 hn576
  have hn597 := ak_nw_r hT584 hn577
  have hn598 := ak_nw_r hT584 hn578
  have hn599 := ak_nw_r hT584 hn579
  have hn600 := ak_nw_r hT584 hn580
  have hn601 := ak_nw_r hT584 hn581
  have hn602 := ak_nw_r hT584 hn582
  have hn603 := ak_nw_r hT584 hn583
  refine r_aload_n dX12_init_149 rfl ?_
  refine r_bipush (v := 8) dX12_init_150 cb_8 ?_
  refine r_newa (t := 20) dX12_init_152 rfl (by decide) (by decide) aw_20 (by decide) (N := 8) (by decide) (by decide) ?_
  obtain ⟨T624, hT624, e⟩ := ltS_some e
  rw [← hT624]
  have hn625 := kd_nw_n hT624 hn585
  have hn626 := ak_nw_n hT624 hn586
  have hn627 := ak_nw_n hT624 hn587
  have hn628 := ak_nw_n hT624 hn588
  have hn629 := ak_nw_n hT624 hn589
  have hn630 := ak_nw_n hT624 hn590
  have hn631 := ak_nw_n hT624 hn591
  have hn632 := ak_nw_n hT624 hn592
  have hn633 := ak_nw_n hT624 hn593
  have hn634 := ak_nw_n hT624 hn594
  have hn635 := ak_nw_n hT624 hn595
  have hn636 := ak_nw_n hT624 hn596
  have hn637 := ak_nw_n hT624 hn597
  have hn638 := ak_nw_n hT624 hn598
  have hn639 := ak_nw_n hT624 hn599
  have hn640 := ak_nw_n hT624 hn600
  have hn641 := ak_nw_n hT624 hn601
  have hn642 := ak_nw_n hT624 hn602
  have hn643 := ak_nw_n hT624 hn603
  have hn644 := ak_new_n hT624
  refine r_putR dX12_init_154 fl_X12_65 ft_12_39 (Or.inr ⟨rfl, fun q hq => by cases hq; rfl⟩) rfl hn625.1 hn625.2 ?_
  obtain ⟨T645, hT645, e⟩ := ltS_some e
  rw [← hT645]
  have hn646 := kd_nw_r hT645 hn625
  have hn647 := ak_nw_r hT645 hn626
  have hn648 := ak_nw_r hT645 hn627
  have hn649 := ak_nw_r hT645 hn628
  have hn650 := ak_nw_r hT645 hn629
  have hn651 := ak_nw_r hT645 hn630
  have hn652 := ak_nw_r hT645 hn631
  have hn653 := ak_nw_r hT645 hn632
  have hn654 := ak_nw_r hT645 hn633
  have hn655 := ak_nw_r hT645 hn634
  have hn656 := ak_nw_r hT645 hn635
  have hn657 := ak_nw_r hT645 hn636
  have hn658 := ak_nw_r hT645 hn637
  have hn659 := ak_nw_r hT645 hn638
  have hn660 := ak_nw_r hT645 hn639
  have hn661 := ak_nw_r hT645 hn640
  have hn662 := ak_nw_r hT645 hn641
  have hn663 := ak_nw_r hT645 hn642
  have hn664 := ak_nw_r hT645 hn643
  have hn665 := ak_nw_r hT645 hn644
  refine r_aload_n dX12_init_157 rfl ?_
  refine r_bipush (v := 6) dX12_init_158 cb_6 ?_
  refine r_newa (t := 20) dX12_init_160 rfl (by decide) (by decide) aw_20 (by decide) (N := 6) (by decide) (by decide) ?_
  obtain ⟨T687, hT687, e⟩ := ltS_some e
  rw [← hT687]
  have hn688 := kd_nw_n hT687 hn646
  have hn689 := ak_nw_n hT687 hn647
  have hn690 := ak_nw_n hT687 hn648
  have hn691 := ak_nw_n hT687 hn649
  have hn692 := ak_nw_n hT687 hn650
  have hn693 := ak_nw_n hT687 hn651
  have hn694 := ak_nw_n hT687 hn652
  have hn695 := ak_nw_n hT687 hn653
  have hn696 := ak_nw_n hT687 hn654
  have hn697 := ak_nw_n hT687 hn655
  have hn698 := ak_nw_n hT687 hn656
  have hn699 := ak_nw_n hT687 hn657
  have hn700 := ak_nw_n hT687 hn658
  have hn701 := ak_nw_n hT687 hn659
  have hn702 := ak_nw_n hT687 hn660
  have hn703 := ak_nw_n hT687 hn661
  have hn704 := ak_nw_n hT687 hn662
  have hn705 := ak_nw_n hT687 hn663
  have hn706 := ak_nw_n hT687 hn664
  have hn707 := ak_nw_n hT687 hn665
  have hn708 := ak_new_n hT687
  refine r_putR dX12_init_162 fl_X12_68 ft_12_40 (Or.inr ⟨rfl, fun q hq => by cases hq; rfl⟩) rfl hn688.1 hn688.2 ?_
  obtain ⟨T709, hT709, e⟩ := ltS_some e
  rw [← hT709]
  have hn710 := kd_nw_r hT709 hn688
  have hn711 := ak_nw_r hT709 hn689
  have hn712 := ak_nw_r hT709 hn690
  have hn713 := ak_nw_r hT709 hn691
  have hn714 := ak_nw_r hT709 hn692
  have hn715 := ak_nw_r hT709 hn693
  have hn716 := ak_nw_r hT709 hn694
  have hn717 := ak_nw_r hT709 hn695
  have hn718 := ak_nw_r hT709 hn696
  have hn719 := ak_nw_r hT709 hn697
  have hn720 := ak_nw_r hT709 hn698
  have hn721 := ak_nw_r hT709 hn699
  have hn722 := ak_nw_r hT709 hn700
  have hn723 := ak_nw_r hT709 hn701
  have hn724 := ak_nw_r hT709 hn702
  have hn725 := ak_nw_r hT709 hn703
  have hn726 := ak_nw_r hT709 hn704
  have hn727 := ak_nw_r hT709 hn705
  have hn728 := ak_nw_r hT709 hn706
  have hn729 := ak_nw_r hT709 hn707
  have hn730 := ak_nw_r hT709 hn708
  refine r_aload_n dX12_init_165 rfl ?_
  refine r_bipush (v := 6) dX12_init_166 cb_6 ?_
  refine r_newa (t := 20) dX12_init_168 rfl (by decide) (by decide) aw_20 (by decide) (N := 6) (by decide) (by decide) ?_
  obtain ⟨T753, hT753, e⟩ := ltS_some e
  rw [← hT753]
  have hn754 := kd_nw_n hT753 hn710
  have hn755 := ak_nw_n hT753 hn711
  have hn756 := ak_nw_n hT753 hn712
  have hn757 := ak_nw_n hT753 hn713
  have hn758 := ak_nw_n hT753 hn714
  have hn759 := ak_nw_n hT753 hn715
  have hn760 := ak_nw_n hT753 hn716
  have hn761 := ak_nw_n hT753 hn717
  have hn762 := ak_nw_n hT753 hn718
  have hn763 := ak_nw_n hT753 hn719
  have hn764 := ak_nw_n hT753 hn720
  have hn765 := ak_nw_n hT753 hn721
  have hn766 := ak_nw_n hT753 hn722
  have hn767 := ak_nw_n hT753 hn723
  have hn768 := ak_nw_n hT753 hn724
  have hn769 := ak_nw_n hT753 hn725
  have hn770 := ak_nw_n hT753 hn726
  have hn771 := ak_nw_n hT753 hn727
  have hn772 := ak_nw_n hT753 hn728
  have hn773 := ak_nw_n hT753 hn729
  have hn774 := ak_nw_n hT753 hn730
  have hn775 := ak_new_n hT753
  refine r_putR dX12_init_170 fl_X12_71 ft_12_42 (Or.inr ⟨rfl, fun q hq => by cases hq; rfl⟩) rfl hn754.1 hn754.2 ?_
  obtain ⟨T776, hT776, e⟩ := ltS_some e
  rw [← hT776]
  have hn777 := kd_nw_r hT776 hn754
  have hn778 := ak_nw_r hT776 hn755
  have hn779 := ak_nw_r hT776 hn756
  have hn780 := ak_nw_r hT776 hn757
  have hn781 := ak_nw_r hT776 hn758
  have hn782 := ak_nw_r hT776 hn759
  have hn783 := ak_nw_r hT776 hn760
  have hn784 := ak_nw_r hT776 hn761
  have hn785 := ak_nw_r hT776 hn762
  have hn786 := ak_nw_r hT776 hn763
  have hn787 := ak_nw_r hT776 hn764
  have hn788 := ak_nw_r hT776 hn765
  have hn789 := ak_nw_r hT776 hn766
  have hn790 := ak_nw_r hT776 hn767
  have hn791 := ak_nw_r hT776 hn768
  have hn792 := ak_nw_r hT776 hn769
  have hn793 := ak_nw_r hT776 hn770
  have hn794 := ak_nw_r hT776 hn771
  have hn795 := ak_nw_r hT776 hn772
  have hn796 := ak_nw_r hT776 hn773
  have hn797 := ak_nw_r hT776 hn774
  have hn798 := ak_nw_r hT776 hn775
  refine r_aload_n dX12_init_173 rfl ?_
  refine r_bipush (v := 6) dX12_init_174 cb_6 ?_
  refine r_newa (t := 20) dX12_init_176 rfl (by decide) (by decide) aw_20 (by decide) (N := 6) (by decide) (by decide) ?_
  obtain ⟨T822, hT822, e⟩ := ltS_some e
  rw [← hT822]
  have hn823 := kd_nw_n hT822 hn777
  have hn824 := ak_nw_n hT822 hn778
  have hn825 := ak_nw_n hT822 hn779
  have hn826 := ak_nw_n hT822 hn780
  have hn827 := ak_nw_n hT822 hn781
  have hn828 := ak_nw_n hT822 hn782
  have hn829 := ak_nw_n hT822 hn783
  have hn830 := ak_nw_n hT822 hn784
  have hn831 := ak_nw_n hT822 hn785
  have hn832 := ak_nw_n hT822 hn786
  have hn833 := ak_nw_n hT822 hn787
  have hn834 := ak_nw_n hT822 hn788
  have hn835 := ak_nw_n hT822 hn789
  have hn836 := ak_nw_n hT822 hn790
  have hn837 := ak_nw_n hT822 hn791
  have hn838 := ak_nw_n hT822 hn792
  have hn839 := ak_nw_n hT822 hn793
  have hn840 := ak_nw_n hT822 hn794
  have hn841 := ak_nw_n hT822 hn795
  have hn842 := ak_nw_n hT822 hn796
  have hn843 := ak_nw_n hT822 hn797
  have hn844 := ak_nw_n hT822 hn798
  have hn845 := ak_new_n hT822
  refine r_putR dX12_init_178 fl_X12_74 ft_12_43 (Or.inr ⟨rfl, fun q hq => by cases hq; rfl⟩) rfl hn823.1 hn823.2 ?_
  obtain ⟨T846, hT846, e⟩ := ltS_some e
  rw [← hT846]
  have hn847 := kd_nw_r hT846 hn823
  have hn848 := ak_nw_r hT846 hn824
  have hn849 := ak_nw_r hT846 hn825
  have hn850 := ak_nw_r hT846 hn826
  have hn851 := ak_nw_r hT846 hn827
  have hn852 := ak_nw_r hT846 hn828
  have hn853 := ak_nw_r hT846 hn829
  have hn854 := ak_nw_r hT846 hn830
  have hn855 := ak_nw_r hT846 hn831
  have hn856 := ak_nw_r hT846 hn832
  have hn857 := ak_nw_r hT846 hn833
  have hn858 := ak_nw_r hT846 hn834
  have hn859 := ak_nw_r hT846 hn835
  have hn860 := ak_nw_r hT846 hn836
  have hn861 := ak_nw_r hT846 hn837
  have hn862 := ak_nw_r hT846 hn838
  have hn863 := ak_nw_r hT846 hn839
  have hn864 := ak_nw_r hT846 hn840
  have hn865 := ak_nw_r hT846 hn841
  have hn866 := ak_nw_r hT846 hn842
  have hn867 := ak_nw_r hT846 hn843
  have hn868 := ak_nw_r hT846 hn844
  have hn869 := ak_nw_r hT846 hn845
  refine r_aload_n dX12_init_181 rfl ?_
  refine r_sipush (v := 729) dX12_init_182 cs_729 ?_
  refine r_newa (t := 20) dX12_init_185 rfl (by decide) (by decide) aw_20 (by decide) (N := 729) (by decide) (by decide) ?_
  obtain ⟨T894, hT894, e⟩ := ltS_some e
  rw [← hT894]
  have hn895 := kd_nw_n hT894 hn847
  have hn896 := ak_nw_n hT894 hn848
  have hn897 := ak_nw_n hT894 hn849
  have hn898 := ak_nw_n hT894 hn850
  have hn899 := ak_nw_n hT894 hn851
  have hn900 := ak_nw_n hT894 hn852
  have hn901 := ak_nw_n hT894 hn853
  have hn902 := ak_nw_n hT894 hn854
  have hn903 := ak_nw_n hT894 hn855
  have hn904 := ak_nw_n hT894 hn856
  have hn905 := ak_nw_n hT894 hn857
  have hn906 := ak_nw_n hT894 hn858
  have hn907 := ak_nw_n hT894 hn859
  have hn908 := ak_nw_n hT894 hn860
  have hn909 := ak_nw_n hT894 hn861
  have hn910 := ak_nw_n hT894 hn862
  have hn911 := ak_nw_n hT894 hn863
  have hn912 := ak_nw_n hT894 hn864
  have hn913 := ak_nw_n hT894 hn865
  have hn914 := ak_nw_n hT894 hn866
  have hn915 := ak_nw_n hT894 hn867
  have hn916 := ak_nw_n hT894 hn868
  have hn917 := ak_nw_n hT894 hn869
  have hn918 := ak_new_n hT894
  refine r_putR dX12_init_187 fl_X12_77 ft_12_44 (Or.inr ⟨rfl, fun q hq => by cases hq; rfl⟩) rfl hn895.1 hn895.2 ?_
  obtain ⟨T919, hT919, e⟩ := ltS_some e
  rw [← hT919]
  have hn920 := kd_nw_r hT919 hn895
  have hn921 := ak_nw_r hT919 hn896
  have hn922 := ak_nw_r hT919 hn897
  have hn923 := ak_nw_r hT919 hn898
  have hn924 := ak_nw_r hT919 hn899
  have hn925 := ak_nw_r hT919 hn900
  have hn926 := ak_nw_r hT919 hn901
  have hn927 := ak_nw_r hT919 hn902
  have hn928 := ak_nw_r hT919 hn903
  have hn929 := ak_nw_r hT919 hn904
  have hn930 := ak_nw_r hT919 hn905
  have hn931 := ak_nw_r hT919 hn906
  have hn932 := ak_nw_r hT919 hn907
  have hn933 := ak_nw_r hT919 hn908
  have hn934 := ak_nw_r hT919 hn909
  have hn935 := ak_nw_r hT919 hn910
  have hn936 := ak_nw_r hT919 hn911
  have hn937 := ak_nw_r hT919 hn912
  have hn938 := ak_nw_r hT919 hn913
  have hn939 := ak_nw_r hT919 hn914
  have hn940 := ak_nw_r hT919 hn915
  have hn941 := ak_nw_r hT919 hn916
  have hn942 := ak_nw_r hT919 hn917
  have hn943 := ak_nw_r hT919 hn918
  refine r_aload_n dX12_init_190 rfl ?_
  refine r_bipush (v := 8) dX12_init_191 cb_8 ?_
  refine r_newa (t := 20) dX12_init_193 rfl (by decide) (by decide) aw_20 (by decide) (N := 8) (by decide) (by decide) ?_
  obtain ⟨T969, hT969, e⟩ := ltS_some e
  rw [← hT969]
  have hn970 := kd_nw_n hT969 hn920
  have hn971 := ak_nw_n hT969 hn921
  have hn972 := ak_nw_n hT969 hn922
  have hn973 := ak_nw_n hT969 hn923
  have hn974 := ak_nw_n hT969 hn924
  have hn975 := ak_nw_n hT969 hn925
  have hn976 := ak_nw_n hT969 hn926
  have hn977 := ak_nw_n hT969 hn927
  have hn978 := ak_nw_n hT969 hn928
  have hn979 := ak_nw_n hT969 hn929
  have hn980 := ak_nw_n hT969 hn930
  have hn981 := ak_nw_n hT969 hn931
  have hn982 := ak_nw_n hT969 hn932
  have hn983 := ak_nw_n hT969 hn933
  have hn984 := ak_nw_n hT969 hn934
  have hn985 := ak_nw_n hT969 hn935
  have hn986 := ak_nw_n hT969 hn936
  have hn987 := ak_nw_n hT969 hn937
  have hn988 := ak_nw_n hT969 hn938
  have hn989 := ak_nw_n hT969 hn939
  have hn990 := ak_nw_n hT969 hn940
  have hn991 := ak_nw_n hT969 hn941
  have hn992 := ak_nw_n hT969 hn942
  have hn993 := ak_nw_n hT969 hn943
  have hn994 := ak_new_n hT969
  refine r_putR dX12_init_195 fl_X12_80 ft_12_53 (Or.inr ⟨rfl, fun q hq => by cases hq; rfl⟩) rfl hn970.1 hn970.2 ?_
  obtain ⟨T995, hT995, e⟩ := ltS_some e
  rw [← hT995]
  have hn996 := kd_nw_r hT995 hn970
  have hn997 := ak_nw_r hT995 hn971
  have hn998 := ak_nw_r hT995 hn972
  have hn999 := ak_nw_r hT995 hn973
  have hn1000 := ak_nw_r hT995 hn974
  have hn1001 := ak_nw_r hT995 hn975
  have hn1002 := ak_nw_r hT995 hn976
  have hn1003 := ak_nw_r hT995 hn977
  have hn1004 := ak_nw_r hT995 hn978
  have hn1005 := ak_nw_r hT995 hn979
  have hn1006 := ak_nw_r hT995 hn980
  have hn1007 := ak_nw_r hT995 hn981
  have hn1008 := ak_nw_r hT995 hn982
  have hn1009 := ak_nw_r hT995 hn983
  have hn1010 := ak_nw_r hT995 hn984
  have hn1011 := ak_nw_r hT995 hn985
  have hn1012 := ak_nw_r hT995 hn986
  have hn1013 := ak_nw_r hT995 hn987
  have hn1014 := ak_nw_r hT995 hn988
  have hn1015 := ak_nw_r hT995 hn989
  have hn1016 := ak_nw_r hT995 hn990
  have hn1017 := ak_nw_r hT995 hn991
  have hn1018 := ak_nw_r hT995 hn992
  have hn1019 := ak_nw_r hT995 hn993
  have hn1020 := ak_nw_r hT995 hn994
  refine r_aload_n dX12_init_198 rfl ?_
  refine r_sipush (v := 448) dX12_init_199 cs_448 ?_
  refine r_newa (t := 20) dX12_init_202 rfl (by decide) (by decide) aw_20 (by decide) (N := 448) (by decide) (by decide) ?_
  obtain ⟨T1047, hT1047, e⟩ := ltS_some e
  rw [← hT1047]
  have hn1048 := kd_nw_n hT1047 hn996
  have hn1049 := ak_nw_n hT1047 hn997
  have hn1050 := ak_nw_n hT1047 hn998
  have hn1051 := ak_nw_n hT1047 hn999
  have hn1052 := ak_nw_n hT1047 hn1000
  have hn1053 := ak_nw_n hT1047 hn1001
  have hn1054 := ak_nw_n hT1047 hn1002
  have hn1055 := ak_nw_n hT1047 hn1003
  have hn1056 := ak_nw_n hT1047 hn1004
  have hn1057 := ak_nw_n hT1047 hn1005
  have hn1058 := ak_nw_n hT1047 hn1006
  have hn1059 := ak_nw_n hT1047 hn1007
  have hn1060 := ak_nw_n hT1047 hn1008
  have hn1061 := ak_nw_n hT1047 hn1009
  have hn1062 := ak_nw_n hT1047 hn1010
  have hn1063 := ak_nw_n hT1047 hn1011
  have hn1064 := ak_nw_n hT1047 hn1012
  have hn1065 := ak_nw_n hT1047 hn1013
  have hn1066 := ak_nw_n hT1047 hn1014
  have hn1067 := ak_nw_n hT1047 hn1015
  have hn1068 := ak_nw_n hT1047 hn1016
  have hn1069 := ak_nw_n hT1047 hn1017
  have hn1070 := ak_nw_n hT1047 hn1018
  have hn1071 := ak_nw_n hT1047 hn1019
  have hn1072 := ak_nw_n hT1047 hn1020
  have hn1073 := ak_new_n hT1047
  refine r_putR dX12_init_204 fl_X12_83 ft_12_55 (Or.inr ⟨rfl, fun q hq => by cases hq; rfl⟩) rfl hn1048.1 hn1048.2 ?_
  obtain ⟨T1074, hT1074, e⟩ := ltS_some e
  rw [← hT1074]
  have hn1075 := kd_nw_r hT1074 hn1048
  have hn1076 := ak_nw_r hT1074 hn1049
  have hn1077 := ak_nw_r hT1074 hn1050
  have hn1078 := ak_nw_r hT1074 hn1051
  have hn1079 := ak_nw_r hT1074 hn1052
  have hn1080 := ak_nw_r hT1074 hn1053
  have hn1081 := ak_nw_r hT1074 hn1054
  have hn1082 := ak_nw_r hT1074 hn1055
  have hn1083 := ak_nw_r hT1074 hn1056
  have hn1084 := ak_nw_r hT1074 hn1057
  have hn1085 := ak_nw_r hT1074 hn1058
  have hn1086 := ak_nw_r hT1074 hn1059
  have hn1087 := ak_nw_r hT1074 hn1060
  have hn1088 := ak_nw_r hT1074 hn1061
  have hn1089 := ak_nw_r hT1074 hn1062
  have hn1090 := ak_nw_r hT1074 hn1063
  have hn1091 := ak_nw_r hT1074 hn1064
  have hn1092 := ak_nw_r hT1074 hn1065
  have hn1093 := ak_nw_r hT1074 hn1066
  have hn1094 := ak_nw_r hT1074 hn1067
  have hn1095 := ak_nw_r hT1074 hn1068
  have hn1096 := ak_nw_r hT1074 hn1069
  have hn1097 := ak_nw_r hT1074 hn1070
  have hn1098 := ak_nw_r hT1074 hn1071
  have hn1099 := ak_nw_r hT1074 hn1072
  have hn1100 := ak_nw_r hT1074 hn1073
  refine r_aload_n dX12_init_207 rfl ?_
  refine r_iconst (v := 3) dX12_init_208 ci_3 ?_
  refine r_newa (t := 22) dX12_init_209 rfl (by decide) (by decide) aw_22 (by decide) (N := 3) (by decide) (by decide) ?_
  obtain ⟨T1128, hT1128, e⟩ := ltS_some e
  rw [← hT1128]
  have hn1129 := kd_nw_n hT1128 hn1075
  have hn1130 := ak_nw_n hT1128 hn1076
  have hn1131 := ak_nw_n hT1128 hn1077
  have hn1132 := ak_nw_n hT1128 hn1078
  have hn1133 := ak_nw_n hT1128 hn1079
  have hn1134 := ak_nw_n hT1128 hn1080
  have hn1135 := ak_nw_n hT1128 hn1081
  have hn1136 := ak_nw_n hT1128 hn1082
  have hn1137 := ak_nw_n hT1128 hn1083
  have hn1138 := ak_nw_n hT1128 hn1084
  have hn1139 := ak_nw_n hT1128 hn1085
  have hn1140 := ak_nw_n hT1128 hn1086
  have hn1141 := ak_nw_n hT1128 hn1087
  have hn1142 := ak_nw_n hT1128 hn1088
  have hn1143 := ak_nw_n hT1128 hn1089
  have hn1144 := ak_nw_n hT1128 hn1090
  have hn1145 := ak_nw_n hT1128 hn1091
  have hn1146 := ak_nw_n hT1128 hn1092
  have hn1147 := ak_nw_n hT1128 hn1093
  have hn1148 := ak_nw_n hT1128 hn1094
  have hn1149 := ak_nw_n hT1128 hn1095
  have hn1150 := ak_nw_n hT1128 hn1096
  have hn1151 := ak_nw_n hT1128 hn1097
  have hn1152 := ak_nw_n hT1128 hn1098
  have hn1153 := ak_nw_n hT1128 hn1099
  have hn1154 := ak_nw_n hT1128 hn1100
  have hn1155 := ak_new_n hT1128
  refine r_putR dX12_init_211 fl_X12_86 ft_12_56 (Or.inr ⟨rfl, fun q hq => by cases hq; rfl⟩) rfl hn1129.1 hn1129.2 ?_
  obtain ⟨T1156, hT1156, e⟩ := ltS_some e
  rw [← hT1156]
  have hn1157 := kd_nw_r hT1156 hn1129
  have hn1158 := ak_nw_r hT1156 hn1130
  have hn1159 := ak_nw_r hT1156 hn1131
  have hn1160 := ak_nw_r hT1156 hn1132
  have hn1161 := ak_nw_r hT1156 hn1133
  have hn1162 := ak_nw_r hT1156 hn1134
  have hn1163 := ak_nw_r hT1156 hn1135
  have hn1164 := ak_nw_r hT1156 hn1136
  have hn1165 := ak_nw_r hT1156 hn1137
  have hn1166 := ak_nw_r hT1156 hn1138
  have hn1167 := ak_nw_r hT1156 hn1139
  have hn1168 := ak_nw_r hT1156 hn1140
  have hn1169 := ak_nw_r hT1156 hn1141
  have hn1170 := ak_nw_r hT1156 hn1142
  have hn1171 := ak_nw_r hT1156 hn1143
  have hn1172 := ak_nw_r hT1156 hn1144
  have hn1173 := ak_nw_r hT1156 hn1145
  have hn1174 := ak_nw_r hT1156 hn1146
  have hn1175 := ak_nw_r hT1156 hn1147
  have hn1176 := ak_nw_r hT1156 hn1148
  have hn1177 := ak_nw_r hT1156 hn1149
  have hn1178 := ak_nw_r hT1156 hn1150
  have hn1179 := ak_nw_r hT1156 hn1151
  have hn1180 := ak_nw_r hT1156 hn1152
  have hn1181 := ak_nw_r hT1156 hn1153
  have hn1182 := ak_nw_r hT1156 hn1154
  have hn1183 := ak_nw_r hT1156 hn1155
  refine r_aload_n dX12_init_214 rfl ?_
  obtain ⟨hr1184, e⟩ := gR_some e
  refine r_getR dX12_init_215 fl_X12_20 rfl hn1157.1 hn1157.2 hr1184 ?_
  refine r_iconst (v := 0) dX12_init_218 ci_0 ?_
  refine r_iconst (v := -1) dX12_init_219 ci_m1 ?_
  refine r_iast dX12_init_220 hn1161.1 hn1161.2 (vp_in_iff.mpr ⟨by decide, by decide⟩) ?_
  cases e
  exact r_return dX12_init_221 rfl
