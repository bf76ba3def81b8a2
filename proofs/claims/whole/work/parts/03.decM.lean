theorem dX12_init_0 : decode cX12_init 0 = .ok (.aload_n 0, 1) := by decide +kernel
theorem dX12_init_1 : decode cX12_init 1 = .ok (.invokespecial 1, 3) := by decide +kernel
theorem dX12_init_4 : decode cX12_init 4 = .ok (.aload_n 0, 1) := by decide +kernel
theorem dX12_init_5 : decode cX12_init 5 = .ok (.sipush 2400, 3) := by decide +kernel
theorem dX12_init_8 : decode cX12_init 8 = .ok (.newarray .byte, 2) := by decide +kernel
theorem dX12_init_10 : decode cX12_init 10 = .ok (.putfield 7, 3) := by decide +kernel
theorem dX12_init_13 : decode cX12_init 13 = .ok (.aload_n 0, 1) := by decide +kernel
theorem dX12_init_14 : decode cX12_init 14 = .ok (.iconst 4, 1) := by decide +kernel
theorem dX12_init_15 : decode cX12_init 15 = .ok (.newarray .int, 2) := by decide +kernel
theorem dX12_init_17 : decode cX12_init 17 = .ok (.putfield 13, 3) := by decide +kernel
theorem dX12_init_20 : decode cX12_init 20 = .ok (.aload_n 0, 1) := by decide +kernel
theorem dX12_init_21 : decode cX12_init 21 = .ok (.iconst 4, 1) := by decide +kernel
theorem dX12_init_22 : decode cX12_init 22 = .ok (.newarray .int, 2) := by decide +kernel
theorem dX12_init_24 : decode cX12_init 24 = .ok (.putfield 17, 3) := by decide +kernel
theorem dX12_init_27 : decode cX12_init 27 = .ok (.aload_n 0, 1) := by decide +kernel
theorem dX12_init_28 : decode cX12_init 28 = .ok (.iconst 4, 1) := by decide +kernel
theorem dX12_init_29 : decode cX12_init 29 = .ok (.newarray .int, 2) := by decide +kernel
theorem dX12_init_31 : decode cX12_init 31 = .ok (.putfield 20, 3) := by decide +kernel
theorem dX12_init_34 : decode cX12_init 34 = .ok (.aload_n 0, 1) := by decide +kernel
theorem dX12_init_35 : decode cX12_init 35 = .ok (.bipush 16, 2) := by decide +kernel
theorem dX12_init_37 : decode cX12_init 37 = .ok (.newarray .int, 2) := by decide +kernel
theorem dX12_init_39 : decode cX12_init 39 = .ok (.putfield 23, 3) := by decide +kernel
theorem dX12_init_42 : decode cX12_init 42 = .ok (.aload_n 0, 1) := by decide +kernel
theorem dX12_init_43 : decode cX12_init 43 = .ok (.sipush 576, 3) := by decide +kernel
theorem dX12_init_46 : decode cX12_init 46 = .ok (.newarray .int, 2) := by decide +kernel
theorem dX12_init_48 : decode cX12_init 48 = .ok (.putfield 26, 3) := by decide +kernel
theorem dX12_init_51 : decode cX12_init 51 = .ok (.aload_n 0, 1) := by decide +kernel
theorem dX12_init_52 : decode cX12_init 52 = .ok (.sipush 1288, 3) := by decide +kernel
theorem dX12_init_55 : decode cX12_init 55 = .ok (.newarray .int, 2) := by decide +kernel
theorem dX12_init_57 : decode cX12_init 57 = .ok (.putfield 29, 3) := by decide +kernel
theorem dX12_init_60 : decode cX12_init 60 = .ok (.aload_n 0, 1) := by decide +kernel
theorem dX12_init_61 : decode cX12_init 61 = .ok (.bipush 104, 2) := by decide +kernel
theorem dX12_init_63 : decode cX12_init 63 = .ok (.newarray .int, 2) := by decide +kernel
theorem dX12_init_65 : decode cX12_init 65 = .ok (.putfield 32, 3) := by decide +kernel
theorem dX12_init_68 : decode cX12_init 68 = .ok (.aload_n 0, 1) := by decide +kernel
theorem dX12_init_69 : decode cX12_init 69 = .ok (.sipush 200, 3) := by decide +kernel
theorem dX12_init_72 : decode cX12_init 72 = .ok (.newarray .int, 2) := by decide +kernel
theorem dX12_init_74 : decode cX12_init 74 = .ok (.putfield 35, 3) := by decide +kernel
theorem dX12_init_77 : decode cX12_init 77 = .ok (.aload_n 0, 1) := by decide +kernel
theorem dX12_init_78 : decode cX12_init 78 = .ok (.sipush 161, 3) := by decide +kernel
theorem dX12_init_81 : decode cX12_init 81 = .ok (.newarray .int, 2) := by decide +kernel
theorem dX12_init_83 : decode cX12_init 83 = .ok (.putfield 38, 3) := by decide +kernel
theorem dX12_init_86 : decode cX12_init 86 = .ok (.aload_n 0, 1) := by decide +kernel
theorem dX12_init_87 : decode cX12_init 87 = .ok (.iconst 4, 1) := by decide +kernel
theorem dX12_init_88 : decode cX12_init 88 = .ok (.newarray .int, 2) := by decide +kernel
theorem dX12_init_90 : decode cX12_init 90 = .ok (.putfield 41, 3) := by decide +kernel
theorem dX12_init_93 : decode cX12_init 93 = .ok (.aload_n 0, 1) := by decide +kernel
theorem dX12_init_94 : decode cX12_init 94 = .ok (.bipush 6, 2) := by decide +kernel
theorem dX12_init_96 : decode cX12_init 96 = .ok (.newarray .int, 2) := by decide +kernel
theorem dX12_init_98 : decode cX12_init 98 = .ok (.putfield 44, 3) := by decide +kernel
theorem dX12_init_101 : decode cX12_init 101 = .ok (.aload_n 0, 1) := by decide +kernel
theorem dX12_init_102 : decode cX12_init 102 = .ok (.bipush 6, 2) := by decide +kernel
theorem dX12_init_104 : decode cX12_init 104 = .ok (.newarray .int, 2) := by decide +kernel
theorem dX12_init_106 : decode cX12_init 106 = .ok (.putfield 47, 3) := by decide +kernel
theorem dX12_init_109 : decode cX12_init 109 = .ok (.aload_n 0, 1) := by decide +kernel
theorem dX12_init_110 : decode cX12_init 110 = .ok (.bipush 6, 2) := by decide +kernel
theorem dX12_init_112 : decode cX12_init 112 = .ok (.newarray .int, 2) := by decide +kernel
theorem dX12_init_114 : decode cX12_init 114 = .ok (.putfield 50, 3) := by decide +kernel
theorem dX12_init_117 : decode cX12_init 117 = .ok (.aload_n 0, 1) := by decide +kernel
theorem dX12_init_118 : decode cX12_init 118 = .ok (.bipush 36, 2) := by decide +kernel
theorem dX12_init_120 : decode cX12_init 120 = .ok (.newarray .int, 2) := by decide +kernel
theorem dX12_init_122 : decode cX12_init 122 = .ok (.putfield 53, 3) := by decide +kernel
theorem dX12_init_125 : decode cX12_init 125 = .ok (.aload_n 0, 1) := by decide +kernel
theorem dX12_init_126 : decode cX12_init 126 = .ok (.bipush 16, 2) := by decide +kernel
theorem dX12_init_128 : decode cX12_init 128 = .ok (.newarray .int, 2) := by decide +kernel
theorem dX12_init_130 : decode cX12_init 130 = .ok (.putfield 56, 3) := by decide +kernel
theorem dX12_init_133 : decode cX12_init 133 = .ok (.aload_n 0, 1) := by decide +kernel
theorem dX12_init_134 : decode cX12_init 134 = .ok (.bipush 16, 2) := by decide +kernel
theorem dX12_init_136 : decode cX12_init 136 = .ok (.newarray .int, 2) := by decide +kernel
theorem dX12_init_138 : decode cX12_init 138 = .ok (.putfield 59, 3) := by decide +kernel
theorem dX12_init_141 : decode cX12_init 141 = .ok (.aload_n 0, 1) := by decide +kernel
theorem dX12_init_142 : decode cX12_init 142 = .ok (.bipush 16, 2) := by decide +kernel
theorem dX12_init_144 : decode cX12_init 144 = .ok (.newarray .int, 2) := by decide +kernel
theorem dX12_init_146 : decode cX12_init 146 = .ok (.putfield 62, 3) := by decide +kernel
theorem dX12_init_149 : decode cX12_init 149 = .ok (.aload_n 0, 1) := by decide +kernel
theorem dX12_init_150 : decode cX12_init 150 = .ok (.bipush 8, 2) := by decide +kernel
theorem dX12_init_152 : decode cX12_init 152 = .ok (.newarray .int, 2) := by decide +kernel
theorem dX12_init_154 : decode cX12_init 154 = .ok (.putfield 65, 3) := by decide +kernel
theorem dX12_init_157 : decode cX12_init 157 = .ok (.aload_n 0, 1) := by decide +kernel
theorem dX12_init_158 : decode cX12_init 158 = .ok (.bipush 6, 2) := by decide +kernel
theorem dX12_init_160 : decode cX12_init 160 = .ok (.newarray .int, 2) := by decide +kernel
theorem dX12_init_162 : decode cX12_init 162 = .ok (.putfield 68, 3) := by decide +kernel
theorem dX12_init_165 : decode cX12_init 165 = .ok (.aload_n 0, 1) := by decide +kernel
theorem dX12_init_166 : decode cX12_init 166 = .ok (.bipush 6, 2) := by decide +kernel
theorem dX12_init_168 : decode cX12_init 168 = .ok (.newarray .int, 2) := by decide +kernel
theorem dX12_init_170 : decode cX12_init 170 = .ok (.putfield 71, 3) := by decide +kernel
theorem dX12_init_173 : decode cX12_init 173 = .ok (.aload_n 0, 1) := by decide +kernel
theorem dX12_init_174 : decode cX12_init 174 = .ok (.bipush 6, 2) := by decide +kernel
theorem dX12_init_176 : decode cX12_init 176 = .ok (.newarray .int, 2) := by decide +kernel
theorem dX12_init_178 : decode cX12_init 178 = .ok (.putfield 74, 3) := by decide +kernel
theorem dX12_init_181 : decode cX12_init 181 = .ok (.aload_n 0, 1) := by decide +kernel
theorem dX12_init_182 : decode cX12_init 182 = .ok (.sipush 729, 3) := by decide +kernel
theorem dX12_init_185 : decode cX12_init 185 = .ok (.newarray .int, 2) := by decide +kernel
theorem dX12_init_187 : decode cX12_init 187 = .ok (.putfield 77, 3) := by decide +kernel
theorem dX12_init_190 : decode cX12_init 190 = .ok (.aload_n 0, 1) := by decide +kernel
theorem dX12_init_191 : decode cX12_init 191 = .ok (.bipush 8, 2) := by decide +kernel
theorem dX12_init_193 : decode cX12_init 193 = .ok (.newarray .int, 2) := by decide +kernel
theorem dX12_init_195 : decode cX12_init 195 = .ok (.putfield 80, 3) := by decide +kernel
theorem dX12_init_198 : decode cX12_init 198 = .ok (.aload_n 0, 1) := by decide +kernel
theorem dX12_init_199 : decode cX12_init 199 = .ok (.sipush 448, 3) := by decide +kernel
theorem dX12_init_202 : decode cX12_init 202 = .ok (.newarray .int, 2) := by decide +kernel
theorem dX12_init_204 : decode cX12_init 204 = .ok (.putfield 83, 3) := by decide +kernel
theorem dX12_init_207 : decode cX12_init 207 = .ok (.aload_n 0, 1) := by decide +kernel
theorem dX12_init_208 : decode cX12_init 208 = .ok (.iconst 3, 1) := by decide +kernel
theorem dX12_init_209 : decode cX12_init 209 = .ok (.newarray .boolean, 2) := by decide +kernel
theorem dX12_init_211 : decode cX12_init 211 = .ok (.putfield 86, 3) := by decide +kernel
theorem dX12_init_214 : decode cX12_init 214 = .ok (.aload_n 0, 1) := by decide +kernel
theorem dX12_init_215 : decode cX12_init 215 = .ok (.getfield 20, 3) := by decide +kernel
theorem dX12_init_218 : decode cX12_init 218 = .ok (.iconst 0, 1) := by decide +kernel
theorem dX12_init_219 : decode cX12_init 219 = .ok (.iconst (-1), 1) := by decide +kernel
theorem dX12_init_220 : decode cX12_init 220 = .ok (.iastore, 1) := by decide +kernel
theorem dX12_init_221 : decode cX12_init 221 = .ok (.return_, 1) := by decide +kernel
theorem dX12_in_0 : decode cX12_in 0 = .ok (.iload_n 0, 1) := by decide +kernel
theorem dX12_in_1 : decode cX12_in 1 = .ok (.iload_n 1, 1) := by decide +kernel
theorem dX12_in_2 : decode cX12_in 2 = .ok (.if_icmp .lt 12, 3) := by decide +kernel
theorem dX12_in_5 : decode cX12_in 5 = .ok (.iload_n 0, 1) := by decide +kernel
theorem dX12_in_6 : decode cX12_in 6 = .ok (.iload_n 2, 1) := by decide +kernel
theorem dX12_in_7 : decode cX12_in 7 = .ok (.if_icmp .gt 7, 3) := by decide +kernel
theorem dX12_in_10 : decode cX12_in 10 = .ok (.iconst 1, 1) := by decide +kernel
theorem dX12_in_11 : decode cX12_in 11 = .ok (.goto 4, 3) := by decide +kernel
theorem dX12_in_14 : decode cX12_in 14 = .ok (.iconst 0, 1) := by decide +kernel
theorem dX12_in_15 : decode cX12_in 15 = .ok (.ireturn, 1) := by decide +kernel
theorem dX12_has_0 : decode cX12_has 0 = .ok (.iload_n 0, 1) := by decide +kernel
theorem dX12_has_1 : decode cX12_has 1 = .ok (.iload_n 1, 1) := by decide +kernel
theorem dX12_has_2 : decode cX12_has 2 = .ok (.ishr, 1) := by decide +kernel
theorem dX12_has_3 : decode cX12_has 3 = .ok (.iconst 1, 1) := by decide +kernel
theorem dX12_has_4 : decode cX12_has 4 = .ok (.iand, 1) := by decide +kernel
theorem dX12_has_5 : decode cX12_has 5 = .ok (.iconst 1, 1) := by decide +kernel
theorem dX12_has_6 : decode cX12_has 6 = .ok (.if_icmp .ne 7, 3) := by decide +kernel
theorem dX12_has_9 : decode cX12_has 9 = .ok (.iconst 1, 1) := by decide +kernel
theorem dX12_has_10 : decode cX12_has 10 = .ok (.goto 4, 3) := by decide +kernel
theorem dX12_has_13 : decode cX12_has 13 = .ok (.iconst 0, 1) := by decide +kernel
theorem dX12_has_14 : decode cX12_has 14 = .ok (.ireturn, 1) := by decide +kernel
theorem dX12_greater_0 : decode cX12_greater 0 = .ok (.iload_n 0, 1) := by decide +kernel
theorem dX12_greater_1 : decode cX12_greater 1 = .ok (.iload_n 1, 1) := by decide +kernel
theorem dX12_greater_2 : decode cX12_greater 2 = .ok (.if_icmp .le 7, 3) := by decide +kernel
theorem dX12_greater_5 : decode cX12_greater 5 = .ok (.iload_n 0, 1) := by decide +kernel
theorem dX12_greater_6 : decode cX12_greater 6 = .ok (.goto 4, 3) := by decide +kernel
theorem dX12_greater_9 : decode cX12_greater 9 = .ok (.iload_n 1, 1) := by decide +kernel
theorem dX12_greater_10 : decode cX12_greater 10 = .ok (.ireturn, 1) := by decide +kernel
theorem dX12_lesser_0 : decode cX12_lesser 0 = .ok (.iload_n 0, 1) := by decide +kernel
theorem dX12_lesser_1 : decode cX12_lesser 1 = .ok (.iload_n 1, 1) := by decide +kernel
theorem dX12_lesser_2 : decode cX12_lesser 2 = .ok (.if_icmp .ge 7, 3) := by decide +kernel
theorem dX12_lesser_5 : decode cX12_lesser 5 = .ok (.iload_n 0, 1) := by decide +kernel
theorem dX12_lesser_6 : decode cX12_lesser 6 = .ok (.goto 4, 3) := by decide +kernel
theorem dX12_lesser_9 : decode cX12_lesser 9 = .ok (.iload_n 1, 1) := by decide +kernel
theorem dX12_lesser_10 : decode cX12_lesser 10 = .ok (.ireturn, 1) := by decide +kernel
theorem dX12_ones_0 : decode cX12_ones 0 = .ok (.iconst 0, 1) := by decide +kernel
theorem dX12_ones_1 : decode cX12_ones 1 = .ok (.istore_n 1, 1) := by decide +kernel
theorem dX12_ones_2 : decode cX12_ones 2 = .ok (.iconst 0, 1) := by decide +kernel
theorem dX12_ones_3 : decode cX12_ones 3 = .ok (.istore_n 2, 1) := by decide +kernel
theorem dX12_ones_4 : decode cX12_ones 4 = .ok (.iload_n 2, 1) := by decide +kernel
theorem dX12_ones_5 : decode cX12_ones 5 = .ok (.bipush 12, 2) := by decide +kernel
theorem dX12_ones_7 : decode cX12_ones 7 = .ok (.if_icmp .ge 25, 3) := by decide +kernel
theorem dX12_ones_10 : decode cX12_ones 10 = .ok (.iload_n 1, 1) := by decide +kernel
theorem dX12_ones_11 : decode cX12_ones 11 = .ok (.iload_n 0, 1) := by decide +kernel
theorem dX12_ones_12 : decode cX12_ones 12 = .ok (.iload_n 2, 1) := by decide +kernel
theorem dX12_ones_13 : decode cX12_ones 13 = .ok (.invokestatic 94, 3) := by decide +kernel
theorem dX12_ones_16 : decode cX12_ones 16 = .ok (.ifCond .eq 7, 3) := by decide +kernel
theorem dX12_ones_19 : decode cX12_ones 19 = .ok (.iconst 1, 1) := by decide +kernel
theorem dX12_ones_20 : decode cX12_ones 20 = .ok (.goto 4, 3) := by decide +kernel
theorem dX12_ones_23 : decode cX12_ones 23 = .ok (.iconst 0, 1) := by decide +kernel
theorem dX12_ones_24 : decode cX12_ones 24 = .ok (.iadd, 1) := by decide +kernel
theorem dX12_ones_25 : decode cX12_ones 25 = .ok (.istore_n 1, 1) := by decide +kernel
theorem dX12_ones_26 : decode cX12_ones 26 = .ok (.iinc 2 1, 3) := by decide +kernel
theorem dX12_ones_29 : decode cX12_ones 29 = .ok (.goto (-25), 3) := by decide +kernel
theorem dX12_ones_32 : decode cX12_ones 32 = .ok (.iload_n 1, 1) := by decide +kernel
theorem dX12_ones_33 : decode cX12_ones 33 = .ok (.ireturn, 1) := by decide +kernel
theorem dX12_copyRow_0 : decode cX12_copyRow 0 = .ok (.iconst 0, 1) := by decide +kernel
theorem dX12_copyRow_1 : decode cX12_copyRow 1 = .ok (.istore 4, 2) := by decide +kernel
theorem dX12_copyRow_3 : decode cX12_copyRow 3 = .ok (.iload 4, 2) := by decide +kernel
theorem dX12_copyRow_5 : decode cX12_copyRow 5 = .ok (.iload_n 1, 1) := by decide +kernel
theorem dX12_copyRow_6 : decode cX12_copyRow 6 = .ok (.if_icmp .ge 25, 3) := by decide +kernel
theorem dX12_copyRow_9 : decode cX12_copyRow 9 = .ok (.aload_n 0, 1) := by decide +kernel
theorem dX12_copyRow_10 : decode cX12_copyRow 10 = .ok (.iload_n 1, 1) := by decide +kernel
theorem dX12_copyRow_11 : decode cX12_copyRow 11 = .ok (.iload_n 3, 1) := by decide +kernel
theorem dX12_copyRow_12 : decode cX12_copyRow 12 = .ok (.imul, 1) := by decide +kernel
theorem dX12_copyRow_13 : decode cX12_copyRow 13 = .ok (.iload 4, 2) := by decide +kernel
theorem dX12_copyRow_15 : decode cX12_copyRow 15 = .ok (.iadd, 1) := by decide +kernel
theorem dX12_copyRow_16 : decode cX12_copyRow 16 = .ok (.aload_n 0, 1) := by decide +kernel
theorem dX12_copyRow_17 : decode cX12_copyRow 17 = .ok (.iload_n 1, 1) := by decide +kernel
theorem dX12_copyRow_18 : decode cX12_copyRow 18 = .ok (.iload_n 2, 1) := by decide +kernel
theorem dX12_copyRow_19 : decode cX12_copyRow 19 = .ok (.imul, 1) := by decide +kernel
theorem dX12_copyRow_20 : decode cX12_copyRow 20 = .ok (.iload 4, 2) := by decide +kernel
theorem dX12_copyRow_22 : decode cX12_copyRow 22 = .ok (.iadd, 1) := by decide +kernel
theorem dX12_copyRow_23 : decode cX12_copyRow 23 = .ok (.iaload, 1) := by decide +kernel
theorem dX12_copyRow_24 : decode cX12_copyRow 24 = .ok (.iastore, 1) := by decide +kernel
theorem dX12_copyRow_25 : decode cX12_copyRow 25 = .ok (.iinc 4 1, 3) := by decide +kernel
theorem dX12_copyRow_28 : decode cX12_copyRow 28 = .ok (.goto (-25), 3) := by decide +kernel
theorem dX12_copyRow_31 : decode cX12_copyRow 31 = .ok (.return_, 1) := by decide +kernel
theorem dX12_copyAll_0 : decode cX12_copyAll 0 = .ok (.iconst 0, 1) := by decide +kernel
theorem dX12_copyAll_1 : decode cX12_copyAll 1 = .ok (.istore_n 3, 1) := by decide +kernel
theorem dX12_copyAll_2 : decode cX12_copyAll 2 = .ok (.iload_n 3, 1) := by decide +kernel
theorem dX12_copyAll_3 : decode cX12_copyAll 3 = .ok (.sipush 600, 3) := by decide +kernel
theorem dX12_copyAll_6 : decode cX12_copyAll 6 = .ok (.if_icmp .ge 33, 3) := by decide +kernel
theorem dX12_copyAll_9 : decode cX12_copyAll 9 = .ok (.aload_n 0, 1) := by decide +kernel
theorem dX12_copyAll_10 : decode cX12_copyAll 10 = .ok (.getfield 7, 3) := by decide +kernel
theorem dX12_copyAll_13 : decode cX12_copyAll 13 = .ok (.sipush 600, 3) := by decide +kernel
theorem dX12_copyAll_16 : decode cX12_copyAll 16 = .ok (.iload_n 2, 1) := by decide +kernel
theorem dX12_copyAll_17 : decode cX12_copyAll 17 = .ok (.imul, 1) := by decide +kernel
theorem dX12_copyAll_18 : decode cX12_copyAll 18 = .ok (.iload_n 3, 1) := by decide +kernel
theorem dX12_copyAll_19 : decode cX12_copyAll 19 = .ok (.iadd, 1) := by decide +kernel
theorem dX12_copyAll_20 : decode cX12_copyAll 20 = .ok (.aload_n 0, 1) := by decide +kernel
theorem dX12_copyAll_21 : decode cX12_copyAll 21 = .ok (.getfield 7, 3) := by decide +kernel
theorem dX12_copyAll_24 : decode cX12_copyAll 24 = .ok (.sipush 600, 3) := by decide +kernel
theorem dX12_copyAll_27 : decode cX12_copyAll 27 = .ok (.iload_n 1, 1) := by decide +kernel
theorem dX12_copyAll_28 : decode cX12_copyAll 28 = .ok (.imul, 1) := by decide +kernel
theorem dX12_copyAll_29 : decode cX12_copyAll 29 = .ok (.iload_n 3, 1) := by decide +kernel
theorem dX12_copyAll_30 : decode cX12_copyAll 30 = .ok (.iadd, 1) := by decide +kernel
theorem dX12_copyAll_31 : decode cX12_copyAll 31 = .ok (.baload, 1) := by decide +kernel
theorem dX12_copyAll_32 : decode cX12_copyAll 32 = .ok (.bastore, 1) := by decide +kernel
theorem dX12_copyAll_33 : decode cX12_copyAll 33 = .ok (.iinc 3 1, 3) := by decide +kernel
theorem dX12_copyAll_36 : decode cX12_copyAll 36 = .ok (.goto (-34), 3) := by decide +kernel
theorem dX12_copyAll_39 : decode cX12_copyAll 39 = .ok (.aload_n 0, 1) := by decide +kernel
theorem dX12_copyAll_40 : decode cX12_copyAll 40 = .ok (.getfield 13, 3) := by decide +kernel
theorem dX12_copyAll_43 : decode cX12_copyAll 43 = .ok (.iconst 1, 1) := by decide +kernel
theorem dX12_copyAll_44 : decode cX12_copyAll 44 = .ok (.iload_n 1, 1) := by decide +kernel
theorem dX12_copyAll_45 : decode cX12_copyAll 45 = .ok (.iload_n 2, 1) := by decide +kernel
theorem dX12_copyAll_46 : decode cX12_copyAll 46 = .ok (.invokestatic 98, 3) := by decide +kernel
theorem dX12_copyAll_49 : decode cX12_copyAll 49 = .ok (.aload_n 0, 1) := by decide +kernel
theorem dX12_copyAll_50 : decode cX12_copyAll 50 = .ok (.getfield 17, 3) := by decide +kernel
theorem dX12_copyAll_53 : decode cX12_copyAll 53 = .ok (.iconst 1, 1) := by decide +kernel
theorem dX12_copyAll_54 : decode cX12_copyAll 54 = .ok (.iload_n 1, 1) := by decide +kernel
theorem dX12_copyAll_55 : decode cX12_copyAll 55 = .ok (.iload_n 2, 1) := by decide +kernel
theorem dX12_copyAll_56 : decode cX12_copyAll 56 = .ok (.invokestatic 98, 3) := by decide +kernel
theorem dX12_copyAll_59 : decode cX12_copyAll 59 = .ok (.aload_n 0, 1) := by decide +kernel
theorem dX12_copyAll_60 : decode cX12_copyAll 60 = .ok (.getfield 20, 3) := by decide +kernel
theorem dX12_copyAll_63 : decode cX12_copyAll 63 = .ok (.iconst 1, 1) := by decide +kernel
theorem dX12_copyAll_64 : decode cX12_copyAll 64 = .ok (.iload_n 1, 1) := by decide +kernel
theorem dX12_copyAll_65 : decode cX12_copyAll 65 = .ok (.iload_n 2, 1) := by decide +kernel
theorem dX12_copyAll_66 : decode cX12_copyAll 66 = .ok (.invokestatic 98, 3) := by decide +kernel
theorem dX12_copyAll_69 : decode cX12_copyAll 69 = .ok (.aload_n 0, 1) := by decide +kernel
theorem dX12_copyAll_70 : decode cX12_copyAll 70 = .ok (.getfield 23, 3) := by decide +kernel
theorem dX12_copyAll_73 : decode cX12_copyAll 73 = .ok (.iconst 4, 1) := by decide +kernel
theorem dX12_copyAll_74 : decode cX12_copyAll 74 = .ok (.iload_n 1, 1) := by decide +kernel
theorem dX12_copyAll_75 : decode cX12_copyAll 75 = .ok (.iload_n 2, 1) := by decide +kernel
theorem dX12_copyAll_76 : decode cX12_copyAll 76 = .ok (.invokestatic 98, 3) := by decide +kernel
theorem dX12_copyAll_79 : decode cX12_copyAll 79 = .ok (.aload_n 0, 1) := by decide +kernel
theorem dX12_copyAll_80 : decode cX12_copyAll 80 = .ok (.getfield 26, 3) := by decide +kernel
theorem dX12_copyAll_83 : decode cX12_copyAll 83 = .ok (.sipush 144, 3) := by decide +kernel
theorem dX12_copyAll_86 : decode cX12_copyAll 86 = .ok (.iload_n 1, 1) := by decide +kernel
theorem dX12_copyAll_87 : decode cX12_copyAll 87 = .ok (.iload_n 2, 1) := by decide +kernel
theorem dX12_copyAll_88 : decode cX12_copyAll 88 = .ok (.invokestatic 98, 3) := by decide +kernel
theorem dX12_copyAll_91 : decode cX12_copyAll 91 = .ok (.aload_n 0, 1) := by decide +kernel
theorem dX12_copyAll_92 : decode cX12_copyAll 92 = .ok (.getfield 29, 3) := by decide +kernel
theorem dX12_copyAll_95 : decode cX12_copyAll 95 = .ok (.sipush 322, 3) := by decide +kernel
theorem dX12_copyAll_98 : decode cX12_copyAll 98 = .ok (.iload_n 1, 1) := by decide +kernel
theorem dX12_copyAll_99 : decode cX12_copyAll 99 = .ok (.iload_n 2, 1) := by decide +kernel
theorem dX12_copyAll_100 : decode cX12_copyAll 100 = .ok (.invokestatic 98, 3) := by decide +kernel
theorem dX12_copyAll_103 : decode cX12_copyAll 103 = .ok (.aload_n 0, 1) := by decide +kernel
theorem dX12_copyAll_104 : decode cX12_copyAll 104 = .ok (.getfield 32, 3) := by decide +kernel
theorem dX12_copyAll_107 : decode cX12_copyAll 107 = .ok (.bipush 26, 2) := by decide +kernel
theorem dX12_copyAll_109 : decode cX12_copyAll 109 = .ok (.iload_n 1, 1) := by decide +kernel
theorem dX12_copyAll_110 : decode cX12_copyAll 110 = .ok (.iload_n 2, 1) := by decide +kernel
theorem dX12_copyAll_111 : decode cX12_copyAll 111 = .ok (.invokestatic 98, 3) := by decide +kernel
theorem dX12_copyAll_114 : decode cX12_copyAll 114 = .ok (.aload_n 0, 1) := by decide +kernel
theorem dX12_copyAll_115 : decode cX12_copyAll 115 = .ok (.getfield 35, 3) := by decide +kernel
theorem dX12_copyAll_118 : decode cX12_copyAll 118 = .ok (.bipush 50, 2) := by decide +kernel
theorem dX12_copyAll_120 : decode cX12_copyAll 120 = .ok (.iload_n 1, 1) := by decide +kernel
theorem dX12_copyAll_121 : decode cX12_copyAll 121 = .ok (.iload_n 2, 1) := by decide +kernel
theorem dX12_copyAll_122 : decode cX12_copyAll 122 = .ok (.invokestatic 98, 3) := by decide +kernel
theorem dX12_copyAll_125 : decode cX12_copyAll 125 = .ok (.return_, 1) := by decide +kernel
theorem dX12_is_0 : decode cX12_is 0 = .ok (.iload_n 2, 1) := by decide +kernel
theorem dX12_is_1 : decode cX12_is 1 = .ok (.iconst 0, 1) := by decide +kernel
theorem dX12_is_2 : decode cX12_is 2 = .ok (.aload_n 0, 1) := by decide +kernel
theorem dX12_is_3 : decode cX12_is 3 = .ok (.getfield 23, 3) := by decide +kernel
theorem dX12_is_6 : decode cX12_is 6 = .ok (.iload_n 1, 1) := by decide +kernel
theorem dX12_is_7 : decode cX12_is 7 = .ok (.iaload, 1) := by decide +kernel
theorem dX12_is_8 : decode cX12_is 8 = .ok (.iconst 1, 1) := by decide +kernel
theorem dX12_is_9 : decode cX12_is 9 = .ok (.isub, 1) := by decide +kernel
theorem dX12_is_10 : decode cX12_is 10 = .ok (.invokestatic 102, 3) := by decide +kernel
theorem dX12_is_13 : decode cX12_is 13 = .ok (.ireturn, 1) := by decide +kernel
theorem dX12_feed_0 : decode cX12_feed 0 = .ok (.aload_n 0, 1) := by decide +kernel
theorem dX12_feed_1 : decode cX12_feed 1 = .ok (.iconst 0, 1) := by decide +kernel
theorem dX12_feed_2 : decode cX12_feed 2 = .ok (.putfield 90, 3) := by decide +kernel
theorem dX12_feed_5 : decode cX12_feed 5 = .ok (.aload_n 0, 1) := by decide +kernel
theorem dX12_feed_6 : decode cX12_feed 6 = .ok (.getfield 13, 3) := by decide +kernel
theorem dX12_feed_9 : decode cX12_feed 9 = .ok (.iconst 0, 1) := by decide +kernel
theorem dX12_feed_10 : decode cX12_feed 10 = .ok (.iaload, 1) := by decide +kernel
theorem dX12_feed_11 : decode cX12_feed 11 = .ok (.bipush 20, 2) := by decide +kernel
theorem dX12_feed_13 : decode cX12_feed 13 = .ok (.iadd, 1) := by decide +kernel
theorem dX12_feed_14 : decode cX12_feed 14 = .ok (.sipush 600, 3) := by decide +kernel
theorem dX12_feed_17 : decode cX12_feed 17 = .ok (.if_icmp .le 5, 3) := by decide +kernel
theorem dX12_feed_20 : decode cX12_feed 20 = .ok (.iconst (-1), 1) := by decide +kernel
theorem dX12_feed_21 : decode cX12_feed 21 = .ok (.ireturn, 1) := by decide +kernel
theorem dX12_feed_22 : decode cX12_feed 22 = .ok (.aload_n 0, 1) := by decide +kernel
theorem dX12_feed_23 : decode cX12_feed 23 = .ok (.iload_n 1, 1) := by decide +kernel
theorem dX12_feed_24 : decode cX12_feed 24 = .ok (.invokevirtual 106, 3) := by decide +kernel
theorem dX12_feed_27 : decode cX12_feed 27 = .ok (.aload_n 0, 1) := by decide +kernel
theorem dX12_feed_28 : decode cX12_feed 28 = .ok (.iload_n 2, 1) := by decide +kernel
theorem dX12_feed_29 : decode cX12_feed 29 = .ok (.invokevirtual 106, 3) := by decide +kernel
theorem dX12_feed_32 : decode cX12_feed 32 = .ok (.aload_n 0, 1) := by decide +kernel
theorem dX12_feed_33 : decode cX12_feed 33 = .ok (.iload_n 3, 1) := by decide +kernel
theorem dX12_feed_34 : decode cX12_feed 34 = .ok (.invokevirtual 106, 3) := by decide +kernel
theorem dX12_feed_37 : decode cX12_feed 37 = .ok (.aload_n 0, 1) := by decide +kernel
theorem dX12_feed_38 : decode cX12_feed 38 = .ok (.iload 4, 2) := by decide +kernel
theorem dX12_feed_40 : decode cX12_feed 40 = .ok (.invokevirtual 106, 3) := by decide +kernel
theorem dX12_feed_43 : decode cX12_feed 43 = .ok (.aload_n 0, 1) := by decide +kernel
theorem dX12_feed_44 : decode cX12_feed 44 = .ok (.iload 5, 2) := by decide +kernel
theorem dX12_feed_46 : decode cX12_feed 46 = .ok (.invokevirtual 106, 3) := by decide +kernel
theorem dX12_feed_49 : decode cX12_feed 49 = .ok (.aload_n 0, 1) := by decide +kernel
theorem dX12_feed_50 : decode cX12_feed 50 = .ok (.getfield 13, 3) := by decide +kernel
theorem dX12_feed_53 : decode cX12_feed 53 = .ok (.iconst 0, 1) := by decide +kernel
theorem dX12_feed_54 : decode cX12_feed 54 = .ok (.iaload, 1) := by decide +kernel
theorem dX12_feed_55 : decode cX12_feed 55 = .ok (.ireturn, 1) := by decide +kernel
theorem dX12_four_0 : decode cX12_four 0 = .ok (.bipush 24, 2) := by decide +kernel
theorem dX12_four_2 : decode cX12_four 2 = .ok (.istore_n 2, 1) := by decide +kernel
theorem dX12_four_3 : decode cX12_four 3 = .ok (.iload_n 2, 1) := by decide +kernel
theorem dX12_four_4 : decode cX12_four 4 = .ok (.ifCond .lt 34, 3) := by decide +kernel
theorem dX12_four_7 : decode cX12_four 7 = .ok (.aload_n 0, 1) := by decide +kernel
theorem dX12_four_8 : decode cX12_four 8 = .ok (.getfield 7, 3) := by decide +kernel
theorem dX12_four_11 : decode cX12_four 11 = .ok (.aload_n 0, 1) := by decide +kernel
theorem dX12_four_12 : decode cX12_four 12 = .ok (.getfield 13, 3) := by decide +kernel
theorem dX12_four_15 : decode cX12_four 15 = .ok (.iconst 0, 1) := by decide +kernel
theorem dX12_four_16 : decode cX12_four 16 = .ok (.iaload, 1) := by decide +kernel
theorem dX12_four_17 : decode cX12_four 17 = .ok (.iload_n 1, 1) := by decide +kernel
theorem dX12_four_18 : decode cX12_four 18 = .ok (.iload_n 2, 1) := by decide +kernel
theorem dX12_four_19 : decode cX12_four 19 = .ok (.ishr, 1) := by decide +kernel
theorem dX12_four_20 : decode cX12_four 20 = .ok (.i2b, 1) := by decide +kernel
theorem dX12_four_21 : decode cX12_four 21 = .ok (.bastore, 1) := by decide +kernel
theorem dX12_four_22 : decode cX12_four 22 = .ok (.aload_n 0, 1) := by decide +kernel
theorem dX12_four_23 : decode cX12_four 23 = .ok (.getfield 13, 3) := by decide +kernel
theorem dX12_four_26 : decode cX12_four 26 = .ok (.iconst 0, 1) := by decide +kernel
theorem dX12_four_27 : decode cX12_four 27 = .ok (.dup2, 1) := by decide +kernel
theorem dX12_four_28 : decode cX12_four 28 = .ok (.iaload, 1) := by decide +kernel
theorem dX12_four_29 : decode cX12_four 29 = .ok (.iconst 1, 1) := by decide +kernel
theorem dX12_four_30 : decode cX12_four 30 = .ok (.iadd, 1) := by decide +kernel
theorem dX12_four_31 : decode cX12_four 31 = .ok (.iastore, 1) := by decide +kernel
theorem dX12_four_32 : decode cX12_four 32 = .ok (.iinc 2 (-8), 3) := by decide +kernel
theorem dX12_four_35 : decode cX12_four 35 = .ok (.goto (-32), 3) := by decide +kernel
theorem dX12_four_38 : decode cX12_four 38 = .ok (.return_, 1) := by decide +kernel
theorem dX12_end_0 : decode cX12_end 0 = .ok (.aload_n 0, 1) := by decide +kernel
theorem dX12_end_1 : decode cX12_end 1 = .ok (.iconst 0, 1) := by decide +kernel
theorem dX12_end_2 : decode cX12_end 2 = .ok (.putfield 90, 3) := by decide +kernel
theorem dX12_end_5 : decode cX12_end 5 = .ok (.iload_n 1, 1) := by decide +kernel
theorem dX12_end_6 : decode cX12_end 6 = .ok (.iconst 0, 1) := by decide +kernel
theorem dX12_end_7 : decode cX12_end 7 = .ok (.aload_n 0, 1) := by decide +kernel
theorem dX12_end_8 : decode cX12_end 8 = .ok (.getfield 13, 3) := by decide +kernel
theorem dX12_end_11 : decode cX12_end 11 = .ok (.iconst 0, 1) := by decide +kernel
theorem dX12_end_12 : decode cX12_end 12 = .ok (.iaload, 1) := by decide +kernel
theorem dX12_end_13 : decode cX12_end 13 = .ok (.invokestatic 102, 3) := by decide +kernel
theorem dX12_end_16 : decode cX12_end 16 = .ok (.ifCond .ne 5, 3) := by decide +kernel
theorem dX12_end_19 : decode cX12_end 19 = .ok (.iconst (-1), 1) := by decide +kernel
theorem dX12_end_20 : decode cX12_end 20 = .ok (.ireturn, 1) := by decide +kernel
theorem dX12_end_21 : decode cX12_end 21 = .ok (.aload_n 0, 1) := by decide +kernel
theorem dX12_end_22 : decode cX12_end 22 = .ok (.getfield 13, 3) := by decide +kernel
theorem dX12_end_25 : decode cX12_end 25 = .ok (.iconst 0, 1) := by decide +kernel
theorem dX12_end_26 : decode cX12_end 26 = .ok (.iload_n 1, 1) := by decide +kernel
theorem dX12_end_27 : decode cX12_end 27 = .ok (.iastore, 1) := by decide +kernel
theorem dX12_end_28 : decode cX12_end 28 = .ok (.iload_n 1, 1) := by decide +kernel
theorem dX12_end_29 : decode cX12_end 29 = .ok (.ireturn, 1) := by decide +kernel
theorem dX12_see_0 : decode cX12_see 0 = .ok (.aload_n 0, 1) := by decide +kernel
theorem dX12_see_1 : decode cX12_see 1 = .ok (.getfield 110, 3) := by decide +kernel
theorem dX12_see_4 : decode cX12_see 4 = .ok (.aload_n 0, 1) := by decide +kernel
theorem dX12_see_5 : decode cX12_see 5 = .ok (.getfield 113, 3) := by decide +kernel
theorem dX12_see_8 : decode cX12_see 8 = .ok (.if_icmp .ge 19, 3) := by decide +kernel
theorem dX12_see_11 : decode cX12_see 11 = .ok (.aload_n 0, 1) := by decide +kernel
theorem dX12_see_12 : decode cX12_see 12 = .ok (.getfield 7, 3) := by decide +kernel
theorem dX12_see_15 : decode cX12_see 15 = .ok (.aload_n 0, 1) := by decide +kernel
theorem dX12_see_16 : decode cX12_see 16 = .ok (.getfield 110, 3) := by decide +kernel
theorem dX12_see_19 : decode cX12_see 19 = .ok (.baload, 1) := by decide +kernel
theorem dX12_see_20 : decode cX12_see 20 = .ok (.sipush 255, 3) := by decide +kernel
theorem dX12_see_23 : decode cX12_see 23 = .ok (.iand, 1) := by decide +kernel
theorem dX12_see_24 : decode cX12_see 24 = .ok (.goto 4, 3) := by decide +kernel
theorem dX12_see_27 : decode cX12_see 27 = .ok (.iconst (-1), 1) := by decide +kernel
theorem dX12_see_28 : decode cX12_see 28 = .ok (.ireturn, 1) := by decide +kernel
theorem dX12_token_0 : decode cX12_token 0 = .ok (.aload_n 0, 1) := by decide +kernel
theorem dX12_token_1 : decode cX12_token 1 = .ok (.invokevirtual 116, 3) := by decide +kernel
theorem dX12_token_4 : decode cX12_token 4 = .ok (.bipush 10, 2) := by decide +kernel
theorem dX12_token_6 : decode cX12_token 6 = .ok (.if_icmp .eq 12, 3) := by decide +kernel
theorem dX12_token_9 : decode cX12_token 9 = .ok (.aload_n 0, 1) := by decide +kernel
theorem dX12_token_10 : decode cX12_token 10 = .ok (.invokevirtual 116, 3) := by decide +kernel
theorem dX12_token_13 : decode cX12_token 13 = .ok (.bipush 32, 2) := by decide +kernel
theorem dX12_token_15 : decode cX12_token 15 = .ok (.if_icmp .ne 16, 3) := by decide +kernel
theorem dX12_token_18 : decode cX12_token 18 = .ok (.aload_n 0, 1) := by decide +kernel
theorem dX12_token_19 : decode cX12_token 19 = .ok (.dup, 1) := by decide +kernel
theorem dX12_token_20 : decode cX12_token 20 = .ok (.getfield 110, 3) := by decide +kernel
theorem dX12_token_23 : decode cX12_token 23 = .ok (.iconst 1, 1) := by decide +kernel
theorem dX12_token_24 : decode cX12_token 24 = .ok (.iadd, 1) := by decide +kernel
theorem dX12_token_25 : decode cX12_token 25 = .ok (.putfield 110, 3) := by decide +kernel
theorem dX12_token_28 : decode cX12_token 28 = .ok (.goto (-28), 3) := by decide +kernel
theorem dX12_token_31 : decode cX12_token 31 = .ok (.aload_n 0, 1) := by decide +kernel
theorem dX12_token_32 : decode cX12_token 32 = .ok (.aload_n 0, 1) := by decide +kernel
theorem dX12_token_33 : decode cX12_token 33 = .ok (.getfield 110, 3) := by decide +kernel
theorem dX12_token_36 : decode cX12_token 36 = .ok (.putfield 120, 3) := by decide +kernel
theorem dX12_token_39 : decode cX12_token 39 = .ok (.aload_n 0, 1) := by decide +kernel
theorem dX12_token_40 : decode cX12_token 40 = .ok (.invokevirtual 116, 3) := by decide +kernel
theorem dX12_token_43 : decode cX12_token 43 = .ok (.istore_n 1, 1) := by decide +kernel
theorem dX12_token_44 : decode cX12_token 44 = .ok (.aload_n 0, 1) := by decide +kernel
theorem dX12_token_45 : decode cX12_token 45 = .ok (.lconst 0, 1) := by decide +kernel
theorem dX12_token_46 : decode cX12_token 46 = .ok (.putfield 123, 3) := by decide +kernel
theorem dX12_token_49 : decode cX12_token 49 = .ok (.iconst 0, 1) := by decide +kernel
theorem dX12_token_50 : decode cX12_token 50 = .ok (.istore_n 2, 1) := by decide +kernel
theorem dX12_token_51 : decode cX12_token 51 = .ok (.iload_n 1, 1) := by decide +kernel
theorem dX12_token_52 : decode cX12_token 52 = .ok (.ifCond .ge 11, 3) := by decide +kernel
theorem dX12_token_55 : decode cX12_token 55 = .ok (.aload_n 0, 1) := by decide +kernel
theorem dX12_token_56 : decode cX12_token 56 = .ok (.iconst 0, 1) := by decide +kernel
theorem dX12_token_57 : decode cX12_token 57 = .ok (.putfield 127, 3) := by decide +kernel
theorem dX12_token_60 : decode cX12_token 60 = .ok (.goto 206, 3) := by decide +kernel
theorem dX12_token_63 : decode cX12_token 63 = .ok (.iload_n 1, 1) := by decide +kernel
theorem dX12_token_64 : decode cX12_token 64 = .ok (.bipush 97, 2) := by decide +kernel
theorem dX12_token_66 : decode cX12_token 66 = .ok (.bipush 122, 2) := by decide +kernel
theorem dX12_token_68 : decode cX12_token 68 = .ok (.invokestatic 102, 3) := by decide +kernel
theorem dX12_token_71 : decode cX12_token 71 = .ok (.ifCond .eq 76, 3) := by decide +kernel
theorem dX12_token_74 : decode cX12_token 74 = .ok (.aload_n 0, 1) := by decide +kernel
theorem dX12_token_75 : decode cX12_token 75 = .ok (.invokevirtual 116, 3) := by decide +kernel
theorem dX12_token_78 : decode cX12_token 78 = .ok (.bipush 97, 2) := by decide +kernel
theorem dX12_token_80 : decode cX12_token 80 = .ok (.bipush 122, 2) := by decide +kernel
theorem dX12_token_82 : decode cX12_token 82 = .ok (.invokestatic 102, 3) := by decide +kernel
theorem dX12_token_85 : decode cX12_token 85 = .ok (.ifCond .eq 36, 3) := by decide +kernel
theorem dX12_token_88 : decode cX12_token 88 = .ok (.aload_n 0, 1) := by decide +kernel
theorem dX12_token_89 : decode cX12_token 89 = .ok (.aload_n 0, 1) := by decide +kernel
theorem dX12_token_90 : decode cX12_token 90 = .ok (.getfield 123, 3) := by decide +kernel
theorem dX12_token_93 : decode cX12_token 93 = .ok (.bipush 8, 2) := by decide +kernel
theorem dX12_token_95 : decode cX12_token 95 = .ok (.lshl, 1) := by decide +kernel
theorem dX12_token_96 : decode cX12_token 96 = .ok (.aload_n 0, 1) := by decide +kernel
theorem dX12_token_97 : decode cX12_token 97 = .ok (.invokevirtual 116, 3) := by decide +kernel
theorem dX12_token_100 : decode cX12_token 100 = .ok (.i2l, 1) := by decide +kernel
theorem dX12_token_101 : decode cX12_token 101 = .ok (.lor, 1) := by decide +kernel
theorem dX12_token_102 : decode cX12_token 102 = .ok (.putfield 123, 3) := by decide +kernel
theorem dX12_token_105 : decode cX12_token 105 = .ok (.aload_n 0, 1) := by decide +kernel
theorem dX12_token_106 : decode cX12_token 106 = .ok (.dup, 1) := by decide +kernel
theorem dX12_token_107 : decode cX12_token 107 = .ok (.getfield 110, 3) := by decide +kernel
theorem dX12_token_110 : decode cX12_token 110 = .ok (.iconst 1, 1) := by decide +kernel
theorem dX12_token_111 : decode cX12_token 111 = .ok (.iadd, 1) := by decide +kernel
theorem dX12_token_112 : decode cX12_token 112 = .ok (.putfield 110, 3) := by decide +kernel
theorem dX12_token_115 : decode cX12_token 115 = .ok (.iinc 2 1, 3) := by decide +kernel
theorem dX12_token_118 : decode cX12_token 118 = .ok (.goto (-44), 3) := by decide +kernel
theorem dX12_token_121 : decode cX12_token 121 = .ok (.aload_n 0, 1) := by decide +kernel
theorem dX12_token_122 : decode cX12_token 122 = .ok (.iload_n 2, 1) := by decide +kernel
theorem dX12_token_123 : decode cX12_token 123 = .ok (.bipush 8, 2) := by decide +kernel
theorem dX12_token_125 : decode cX12_token 125 = .ok (.if_icmp .le 7, 3) := by decide +kernel
theorem dX12_token_128 : decode cX12_token 128 = .ok (.lconst 0, 1) := by decide +kernel
theorem dX12_token_129 : decode cX12_token 129 = .ok (.goto 7, 3) := by decide +kernel
theorem dX12_token_132 : decode cX12_token 132 = .ok (.aload_n 0, 1) := by decide +kernel
theorem dX12_token_133 : decode cX12_token 133 = .ok (.getfield 123, 3) := by decide +kernel
theorem dX12_token_136 : decode cX12_token 136 = .ok (.putfield 123, 3) := by decide +kernel
theorem dX12_token_139 : decode cX12_token 139 = .ok (.aload_n 0, 1) := by decide +kernel
theorem dX12_token_140 : decode cX12_token 140 = .ok (.iconst 2, 1) := by decide +kernel
theorem dX12_token_141 : decode cX12_token 141 = .ok (.putfield 127, 3) := by decide +kernel
theorem dX12_token_144 : decode cX12_token 144 = .ok (.goto 122, 3) := by decide +kernel
theorem dX12_token_147 : decode cX12_token 147 = .ok (.iload_n 1, 1) := by decide +kernel
theorem dX12_token_148 : decode cX12_token 148 = .ok (.bipush 48, 2) := by decide +kernel
theorem dX12_token_150 : decode cX12_token 150 = .ok (.bipush 57, 2) := by decide +kernel
theorem dX12_token_152 : decode cX12_token 152 = .ok (.invokestatic 102, 3) := by decide +kernel
theorem dX12_token_155 : decode cX12_token 155 = .ok (.ifCond .eq 86, 3) := by decide +kernel
theorem dX12_token_158 : decode cX12_token 158 = .ok (.aload_n 0, 1) := by decide +kernel
theorem dX12_token_159 : decode cX12_token 159 = .ok (.iconst 0, 1) := by decide +kernel
theorem dX12_token_160 : decode cX12_token 160 = .ok (.putfield 130, 3) := by decide +kernel
theorem dX12_token_163 : decode cX12_token 163 = .ok (.aload_n 0, 1) := by decide +kernel
theorem dX12_token_164 : decode cX12_token 164 = .ok (.invokevirtual 116, 3) := by decide +kernel
theorem dX12_token_167 : decode cX12_token 167 = .ok (.bipush 48, 2) := by decide +kernel
theorem dX12_token_169 : decode cX12_token 169 = .ok (.bipush 57, 2) := by decide +kernel
theorem dX12_token_171 : decode cX12_token 171 = .ok (.invokestatic 102, 3) := by decide +kernel
theorem dX12_token_174 : decode cX12_token 174 = .ok (.ifCond .eq 50, 3) := by decide +kernel
theorem dX12_token_177 : decode cX12_token 177 = .ok (.aload_n 0, 1) := by decide +kernel
theorem dX12_token_178 : decode cX12_token 178 = .ok (.iload_n 2, 1) := by decide +kernel
theorem dX12_token_179 : decode cX12_token 179 = .ok (.iconst 2, 1) := by decide +kernel
theorem dX12_token_180 : decode cX12_token 180 = .ok (.if_icmp .ge 21, 3) := by decide +kernel
theorem dX12_token_183 : decode cX12_token 183 = .ok (.bipush 10, 2) := by decide +kernel
theorem dX12_token_185 : decode cX12_token 185 = .ok (.aload_n 0, 1) := by decide +kernel
theorem dX12_token_186 : decode cX12_token 186 = .ok (.getfield 130, 3) := by decide +kernel
theorem dX12_token_189 : decode cX12_token 189 = .ok (.imul, 1) := by decide +kernel
theorem dX12_token_190 : decode cX12_token 190 = .ok (.aload_n 0, 1) := by decide +kernel
theorem dX12_token_191 : decode cX12_token 191 = .ok (.invokevirtual 116, 3) := by decide +kernel
theorem dX12_token_194 : decode cX12_token 194 = .ok (.iadd, 1) := by decide +kernel
theorem dX12_token_195 : decode cX12_token 195 = .ok (.bipush 48, 2) := by decide +kernel
theorem dX12_token_197 : decode cX12_token 197 = .ok (.isub, 1) := by decide +kernel
theorem dX12_token_198 : decode cX12_token 198 = .ok (.goto 7, 3) := by decide +kernel
theorem dX12_token_201 : decode cX12_token 201 = .ok (.aload_n 0, 1) := by decide +kernel
theorem dX12_token_202 : decode cX12_token 202 = .ok (.getfield 130, 3) := by decide +kernel
theorem dX12_token_205 : decode cX12_token 205 = .ok (.putfield 130, 3) := by decide +kernel
theorem dX12_token_208 : decode cX12_token 208 = .ok (.aload_n 0, 1) := by decide +kernel
theorem dX12_token_209 : decode cX12_token 209 = .ok (.dup, 1) := by decide +kernel
theorem dX12_token_210 : decode cX12_token 210 = .ok (.getfield 110, 3) := by decide +kernel
theorem dX12_token_213 : decode cX12_token 213 = .ok (.iconst 1, 1) := by decide +kernel
theorem dX12_token_214 : decode cX12_token 214 = .ok (.iadd, 1) := by decide +kernel
theorem dX12_token_215 : decode cX12_token 215 = .ok (.putfield 110, 3) := by decide +kernel
theorem dX12_token_218 : decode cX12_token 218 = .ok (.iinc 2 1, 3) := by decide +kernel
theorem dX12_token_221 : decode cX12_token 221 = .ok (.goto (-58), 3) := by decide +kernel
theorem dX12_token_224 : decode cX12_token 224 = .ok (.aload_n 0, 1) := by decide +kernel
theorem dX12_token_225 : decode cX12_token 225 = .ok (.iload_n 2, 1) := by decide +kernel
theorem dX12_token_226 : decode cX12_token 226 = .ok (.iconst 2, 1) := by decide +kernel
theorem dX12_token_227 : decode cX12_token 227 = .ok (.if_icmp .le 7, 3) := by decide +kernel
theorem dX12_token_230 : decode cX12_token 230 = .ok (.iconst 1, 1) := by decide +kernel
theorem dX12_token_231 : decode cX12_token 231 = .ok (.goto 4, 3) := by decide +kernel
theorem dX12_token_234 : decode cX12_token 234 = .ok (.iconst 3, 1) := by decide +kernel
theorem dX12_token_235 : decode cX12_token 235 = .ok (.putfield 127, 3) := by decide +kernel
theorem dX12_token_238 : decode cX12_token 238 = .ok (.goto 28, 3) := by decide +kernel
theorem dX12_token_241 : decode cX12_token 241 = .ok (.aload_n 0, 1) := by decide +kernel
theorem dX12_token_242 : decode cX12_token 242 = .ok (.dup, 1) := by decide +kernel
theorem dX12_token_243 : decode cX12_token 243 = .ok (.getfield 110, 3) := by decide +kernel
theorem dX12_token_246 : decode cX12_token 246 = .ok (.iconst 1, 1) := by decide +kernel
theorem dX12_token_247 : decode cX12_token 247 = .ok (.iadd, 1) := by decide +kernel
theorem dX12_token_248 : decode cX12_token 248 = .ok (.putfield 110, 3) := by decide +kernel
theorem dX12_token_251 : decode cX12_token 251 = .ok (.aload_n 0, 1) := by decide +kernel
theorem dX12_token_252 : decode cX12_token 252 = .ok (.iload_n 1, 1) := by decide +kernel
theorem dX12_token_253 : decode cX12_token 253 = .ok (.bipush 59, 2) := by decide +kernel
theorem dX12_token_255 : decode cX12_token 255 = .ok (.if_icmp .ne 7, 3) := by decide +kernel
theorem dX12_token_258 : decode cX12_token 258 = .ok (.iconst 4, 1) := by decide +kernel
theorem dX12_token_259 : decode cX12_token 259 = .ok (.goto 4, 3) := by decide +kernel
theorem dX12_token_262 : decode cX12_token 262 = .ok (.iconst 1, 1) := by decide +kernel
theorem dX12_token_263 : decode cX12_token 263 = .ok (.putfield 127, 3) := by decide +kernel
theorem dX12_token_266 : decode cX12_token 266 = .ok (.return_, 1) := by decide +kernel
theorem dX12_fails_0 : decode cX12_fails 0 = .ok (.aload_n 0, 1) := by decide +kernel
theorem dX12_fails_1 : decode cX12_fails 1 = .ok (.aload_n 0, 1) := by decide +kernel
theorem dX12_fails_2 : decode cX12_fails 2 = .ok (.getfield 120, 3) := by decide +kernel
theorem dX12_fails_5 : decode cX12_fails 5 = .ok (.putfield 133, 3) := by decide +kernel
theorem dX12_fails_8 : decode cX12_fails 8 = .ok (.iconst 0, 1) := by decide +kernel
theorem dX12_fails_9 : decode cX12_fails 9 = .ok (.ireturn, 1) := by decide +kernel
theorem dX12_addsFault_0 : decode cX12_addsFault 0 = .ok (.aload_n 0, 1) := by decide +kernel
theorem dX12_addsFault_1 : decode cX12_addsFault 1 = .ok (.getfield 136, 3) := by decide +kernel
theorem dX12_addsFault_4 : decode cX12_addsFault 4 = .ok (.ifCond .eq 27, 3) := by decide +kernel
theorem dX12_addsFault_7 : decode cX12_addsFault 7 = .ok (.iload_n 2, 1) := by decide +kernel
theorem dX12_addsFault_8 : decode cX12_addsFault 8 = .ok (.aload_n 0, 1) := by decide +kernel
theorem dX12_addsFault_9 : decode cX12_addsFault 9 = .ok (.getfield 139, 3) := by decide +kernel
theorem dX12_addsFault_12 : decode cX12_addsFault 12 = .ok (.if_icmp .lt 19, 3) := by decide +kernel
theorem dX12_addsFault_15 : decode cX12_addsFault 15 = .ok (.iload_n 2, 1) := by decide +kernel
theorem dX12_addsFault_16 : decode cX12_addsFault 16 = .ok (.aload_n 0, 1) := by decide +kernel
theorem dX12_addsFault_17 : decode cX12_addsFault 17 = .ok (.getfield 139, 3) := by decide +kernel
theorem dX12_addsFault_20 : decode cX12_addsFault 20 = .ok (.if_icmp .ne 21, 3) := by decide +kernel
theorem dX12_addsFault_23 : decode cX12_addsFault 23 = .ok (.iload_n 1, 1) := by decide +kernel
theorem dX12_addsFault_24 : decode cX12_addsFault 24 = .ok (.aload_n 0, 1) := by decide +kernel
theorem dX12_addsFault_25 : decode cX12_addsFault 25 = .ok (.getfield 136, 3) := by decide +kernel
theorem dX12_addsFault_28 : decode cX12_addsFault 28 = .ok (.if_icmp .ge 13, 3) := by decide +kernel
theorem dX12_addsFault_31 : decode cX12_addsFault 31 = .ok (.aload_n 0, 1) := by decide +kernel
theorem dX12_addsFault_32 : decode cX12_addsFault 32 = .ok (.iload_n 1, 1) := by decide +kernel
theorem dX12_addsFault_33 : decode cX12_addsFault 33 = .ok (.putfield 136, 3) := by decide +kernel
theorem dX12_addsFault_36 : decode cX12_addsFault 36 = .ok (.aload_n 0, 1) := by decide +kernel
theorem dX12_addsFault_37 : decode cX12_addsFault 37 = .ok (.iload_n 2, 1) := by decide +kernel
theorem dX12_addsFault_38 : decode cX12_addsFault 38 = .ok (.putfield 139, 3) := by decide +kernel
theorem dX12_addsFault_41 : decode cX12_addsFault 41 = .ok (.return_, 1) := by decide +kernel
theorem dX12_takeBut_0 : decode cX12_takeBut 0 = .ok (.aload_n 0, 1) := by decide +kernel
theorem dX12_takeBut_1 : decode cX12_takeBut 1 = .ok (.getfield 127, 3) := by decide +kernel
theorem dX12_takeBut_4 : decode cX12_takeBut 4 = .ok (.iconst 3, 1) := by decide +kernel
theorem dX12_takeBut_5 : decode cX12_takeBut 5 = .ok (.if_icmp .eq 8, 3) := by decide +kernel
theorem dX12_takeBut_8 : decode cX12_takeBut 8 = .ok (.aload_n 0, 1) := by decide +kernel
theorem dX12_takeBut_9 : decode cX12_takeBut 9 = .ok (.invokevirtual 142, 3) := by decide +kernel
theorem dX12_takeBut_12 : decode cX12_takeBut 12 = .ok (.ireturn, 1) := by decide +kernel
theorem dX12_takeBut_13 : decode cX12_takeBut 13 = .ok (.aload_n 0, 1) := by decide +kernel
theorem dX12_takeBut_14 : decode cX12_takeBut 14 = .ok (.getfield 41, 3) := by decide +kernel
theorem dX12_takeBut_17 : decode cX12_takeBut 17 = .ok (.iload_n 1, 1) := by decide +kernel
theorem dX12_takeBut_18 : decode cX12_takeBut 18 = .ok (.aload_n 0, 1) := by decide +kernel
theorem dX12_takeBut_19 : decode cX12_takeBut 19 = .ok (.getfield 130, 3) := by decide +kernel
theorem dX12_takeBut_22 : decode cX12_takeBut 22 = .ok (.iastore, 1) := by decide +kernel
theorem dX12_takeBut_23 : decode cX12_takeBut 23 = .ok (.aload_n 0, 1) := by decide +kernel
theorem dX12_takeBut_24 : decode cX12_takeBut 24 = .ok (.getfield 130, 3) := by decide +kernel
theorem dX12_takeBut_27 : decode cX12_takeBut 27 = .ok (.iload_n 2, 1) := by decide +kernel
theorem dX12_takeBut_28 : decode cX12_takeBut 28 = .ok (.iload_n 3, 1) := by decide +kernel
theorem dX12_takeBut_29 : decode cX12_takeBut 29 = .ok (.invokestatic 102, 3) := by decide +kernel
theorem dX12_takeBut_32 : decode cX12_takeBut 32 = .ok (.ifCond .eq 12, 3) := by decide +kernel
theorem dX12_takeBut_35 : decode cX12_takeBut 35 = .ok (.aload_n 0, 1) := by decide +kernel
theorem dX12_takeBut_36 : decode cX12_takeBut 36 = .ok (.getfield 130, 3) := by decide +kernel
theorem dX12_takeBut_39 : decode cX12_takeBut 39 = .ok (.iload 4, 2) := by decide +kernel
theorem dX12_takeBut_41 : decode cX12_takeBut 41 = .ok (.if_icmp .ne 17, 3) := by decide +kernel
theorem dX12_takeBut_44 : decode cX12_takeBut 44 = .ok (.aload_n 0, 1) := by decide +kernel
theorem dX12_takeBut_45 : decode cX12_takeBut 45 = .ok (.iconst 2, 1) := by decide +kernel
theorem dX12_takeBut_46 : decode cX12_takeBut 46 = .ok (.aload_n 0, 1) := by decide +kernel
theorem dX12_takeBut_47 : decode cX12_takeBut 47 = .ok (.getfield 120, 3) := by decide +kernel
theorem dX12_takeBut_50 : decode cX12_takeBut 50 = .ok (.invokevirtual 146, 3) := by decide +kernel
theorem dX12_takeBut_53 : decode cX12_takeBut 53 = .ok (.aload_n 0, 1) := by decide +kernel
theorem dX12_takeBut_54 : decode cX12_takeBut 54 = .ok (.iconst 0, 1) := by decide +kernel
theorem dX12_takeBut_55 : decode cX12_takeBut 55 = .ok (.putfield 150, 3) := by decide +kernel
theorem dX12_takeBut_58 : decode cX12_takeBut 58 = .ok (.aload_n 0, 1) := by decide +kernel
theorem dX12_takeBut_59 : decode cX12_takeBut 59 = .ok (.invokevirtual 154, 3) := by decide +kernel
theorem dX12_takeBut_62 : decode cX12_takeBut 62 = .ok (.iconst 1, 1) := by decide +kernel
theorem dX12_takeBut_63 : decode cX12_takeBut 63 = .ok (.ireturn, 1) := by decide +kernel
theorem dX12_take_0 : decode cX12_take 0 = .ok (.aload_n 0, 1) := by decide +kernel
theorem dX12_take_1 : decode cX12_take 1 = .ok (.iload_n 1, 1) := by decide +kernel
theorem dX12_take_2 : decode cX12_take 2 = .ok (.iload_n 2, 1) := by decide +kernel
theorem dX12_take_3 : decode cX12_take 3 = .ok (.iload_n 3, 1) := by decide +kernel
theorem dX12_take_4 : decode cX12_take 4 = .ok (.iconst (-1), 1) := by decide +kernel
theorem dX12_take_5 : decode cX12_take 5 = .ok (.invokevirtual 157, 3) := by decide +kernel
theorem dX12_take_8 : decode cX12_take 8 = .ok (.ireturn, 1) := by decide +kernel
theorem dX12_takeTwo_0 : decode cX12_takeTwo 0 = .ok (.aload_n 0, 1) := by decide +kernel
theorem dX12_takeTwo_1 : decode cX12_takeTwo 1 = .ok (.iload_n 1, 1) := by decide +kernel
theorem dX12_takeTwo_2 : decode cX12_takeTwo 2 = .ok (.iconst 0, 1) := by decide +kernel
theorem dX12_takeTwo_3 : decode cX12_takeTwo 3 = .ok (.iload_n 2, 1) := by decide +kernel
theorem dX12_takeTwo_4 : decode cX12_takeTwo 4 = .ok (.invokevirtual 161, 3) := by decide +kernel
theorem dX12_takeTwo_7 : decode cX12_takeTwo 7 = .ok (.ifCond .eq 25, 3) := by decide +kernel
theorem dX12_takeTwo_10 : decode cX12_takeTwo 10 = .ok (.aload_n 0, 1) := by decide +kernel
theorem dX12_takeTwo_11 : decode cX12_takeTwo 11 = .ok (.iload_n 1, 1) := by decide +kernel
theorem dX12_takeTwo_12 : decode cX12_takeTwo 12 = .ok (.iconst 1, 1) := by decide +kernel
theorem dX12_takeTwo_13 : decode cX12_takeTwo 13 = .ok (.iadd, 1) := by decide +kernel
theorem dX12_takeTwo_14 : decode cX12_takeTwo 14 = .ok (.iconst 0, 1) := by decide +kernel
theorem dX12_takeTwo_15 : decode cX12_takeTwo 15 = .ok (.iload_n 2, 1) := by decide +kernel
theorem dX12_takeTwo_16 : decode cX12_takeTwo 16 = .ok (.aload_n 0, 1) := by decide +kernel
theorem dX12_takeTwo_17 : decode cX12_takeTwo 17 = .ok (.getfield 41, 3) := by decide +kernel
theorem dX12_takeTwo_20 : decode cX12_takeTwo 20 = .ok (.iload_n 1, 1) := by decide +kernel
theorem dX12_takeTwo_21 : decode cX12_takeTwo 21 = .ok (.iaload, 1) := by decide +kernel
theorem dX12_takeTwo_22 : decode cX12_takeTwo 22 = .ok (.invokevirtual 157, 3) := by decide +kernel
theorem dX12_takeTwo_25 : decode cX12_takeTwo 25 = .ok (.ifCond .eq 7, 3) := by decide +kernel
theorem dX12_takeTwo_28 : decode cX12_takeTwo 28 = .ok (.iconst 1, 1) := by decide +kernel
theorem dX12_takeTwo_29 : decode cX12_takeTwo 29 = .ok (.goto 4, 3) := by decide +kernel
theorem dX12_takeTwo_32 : decode cX12_takeTwo 32 = .ok (.iconst 0, 1) := by decide +kernel
theorem dX12_takeTwo_33 : decode cX12_takeTwo 33 = .ok (.ireturn, 1) := by decide +kernel
theorem dX12_full_0 : decode cX12_full 0 = .ok (.aload_n 0, 1) := by decide +kernel
theorem dX12_full_1 : decode cX12_full 1 = .ok (.getfield 38, 3) := by decide +kernel
theorem dX12_full_4 : decode cX12_full 4 = .ok (.iload_n 1, 1) := by decide +kernel
theorem dX12_full_5 : decode cX12_full 5 = .ok (.iaload, 1) := by decide +kernel
theorem dX12_full_6 : decode cX12_full 6 = .ok (.iload_n 2, 1) := by decide +kernel
theorem dX12_full_7 : decode cX12_full 7 = .ok (.if_icmp .ne 9, 3) := by decide +kernel
theorem dX12_full_10 : decode cX12_full 10 = .ok (.aload_n 0, 1) := by decide +kernel
theorem dX12_full_11 : decode cX12_full 11 = .ok (.iconst 3, 1) := by decide +kernel
theorem dX12_full_12 : decode cX12_full 12 = .ok (.iload_n 3, 1) := by decide +kernel
theorem dX12_full_13 : decode cX12_full 13 = .ok (.invokevirtual 146, 3) := by decide +kernel
theorem dX12_full_16 : decode cX12_full 16 = .ok (.return_, 1) := by decide +kernel
theorem dX12_folkLine_0 : decode cX12_folkLine 0 = .ok (.aload_n 0, 1) := by decide +kernel
theorem dX12_folkLine_1 : decode cX12_folkLine 1 = .ok (.iconst 0, 1) := by decide +kernel
theorem dX12_folkLine_2 : decode cX12_folkLine 2 = .ok (.bipush 6, 2) := by decide +kernel
theorem dX12_folkLine_4 : decode cX12_folkLine 4 = .ok (.iload_n 1, 1) := by decide +kernel
theorem dX12_folkLine_5 : decode cX12_folkLine 5 = .ok (.invokevirtual 164, 3) := by decide +kernel
theorem dX12_folkLine_8 : decode cX12_folkLine 8 = .ok (.aload_n 0, 1) := by decide +kernel
theorem dX12_folkLine_9 : decode cX12_folkLine 9 = .ok (.invokevirtual 154, 3) := by decide +kernel
theorem dX12_folkLine_12 : decode cX12_folkLine 12 = .ok (.aload_n 0, 1) := by decide +kernel
theorem dX12_folkLine_13 : decode cX12_folkLine 13 = .ok (.iconst 0, 1) := by decide +kernel
theorem dX12_folkLine_14 : decode cX12_folkLine 14 = .ok (.iconst 0, 1) := by decide +kernel
theorem dX12_folkLine_15 : decode cX12_folkLine 15 = .ok (.bipush 9, 2) := by decide +kernel
theorem dX12_folkLine_17 : decode cX12_folkLine 17 = .ok (.invokevirtual 161, 3) := by decide +kernel
theorem dX12_folkLine_20 : decode cX12_folkLine 20 = .ok (.ifCond .eq 13, 3) := by decide +kernel
theorem dX12_folkLine_23 : decode cX12_folkLine 23 = .ok (.aload_n 0, 1) := by decide +kernel
theorem dX12_folkLine_24 : decode cX12_folkLine 24 = .ok (.iconst 1, 1) := by decide +kernel
theorem dX12_folkLine_25 : decode cX12_folkLine 25 = .ok (.iconst 0, 1) := by decide +kernel
theorem dX12_folkLine_26 : decode cX12_folkLine 26 = .ok (.iconst 4, 1) := by decide +kernel
theorem dX12_folkLine_27 : decode cX12_folkLine 27 = .ok (.invokevirtual 161, 3) := by decide +kernel
theorem dX12_folkLine_30 : decode cX12_folkLine 30 = .ok (.ifCond .ne 5, 3) := by decide +kernel
theorem dX12_folkLine_33 : decode cX12_folkLine 33 = .ok (.iconst 0, 1) := by decide +kernel
theorem dX12_folkLine_34 : decode cX12_folkLine 34 = .ok (.ireturn, 1) := by decide +kernel
theorem dX12_folkLine_35 : decode cX12_folkLine 35 = .ok (.aload_n 0, 1) := by decide +kernel
theorem dX12_folkLine_36 : decode cX12_folkLine 36 = .ok (.getfield 38, 3) := by decide +kernel
theorem dX12_folkLine_39 : decode cX12_folkLine 39 = .ok (.iconst 0, 1) := by decide +kernel
theorem dX12_folkLine_40 : decode cX12_folkLine 40 = .ok (.iaload, 1) := by decide +kernel
theorem dX12_folkLine_41 : decode cX12_folkLine 41 = .ok (.istore_n 2, 1) := by decide +kernel
theorem dX12_folkLine_42 : decode cX12_folkLine 42 = .ok (.iload_n 2, 1) := by decide +kernel
theorem dX12_folkLine_43 : decode cX12_folkLine 43 = .ok (.bipush 6, 2) := by decide +kernel
theorem dX12_folkLine_45 : decode cX12_folkLine 45 = .ok (.if_icmp .ge 32, 3) := by decide +kernel
theorem dX12_folkLine_48 : decode cX12_folkLine 48 = .ok (.aload_n 0, 1) := by decide +kernel
theorem dX12_folkLine_49 : decode cX12_folkLine 49 = .ok (.getfield 38, 3) := by decide +kernel
theorem dX12_folkLine_52 : decode cX12_folkLine 52 = .ok (.iconst 2, 1) := by decide +kernel
theorem dX12_folkLine_53 : decode cX12_folkLine 53 = .ok (.iload_n 2, 1) := by decide +kernel
theorem dX12_folkLine_54 : decode cX12_folkLine 54 = .ok (.iadd, 1) := by decide +kernel
theorem dX12_folkLine_55 : decode cX12_folkLine 55 = .ok (.aload_n 0, 1) := by decide +kernel
theorem dX12_folkLine_56 : decode cX12_folkLine 56 = .ok (.getfield 41, 3) := by decide +kernel
theorem dX12_folkLine_59 : decode cX12_folkLine 59 = .ok (.iconst 0, 1) := by decide +kernel
theorem dX12_folkLine_60 : decode cX12_folkLine 60 = .ok (.iaload, 1) := by decide +kernel
theorem dX12_folkLine_61 : decode cX12_folkLine 61 = .ok (.iastore, 1) := by decide +kernel
theorem dX12_folkLine_62 : decode cX12_folkLine 62 = .ok (.aload_n 0, 1) := by decide +kernel
theorem dX12_folkLine_63 : decode cX12_folkLine 63 = .ok (.getfield 38, 3) := by decide +kernel
theorem dX12_folkLine_66 : decode cX12_folkLine 66 = .ok (.bipush 8, 2) := by decide +kernel
theorem dX12_folkLine_68 : decode cX12_folkLine 68 = .ok (.iload_n 2, 1) := by decide +kernel
theorem dX12_folkLine_69 : decode cX12_folkLine 69 = .ok (.iadd, 1) := by decide +kernel
theorem dX12_folkLine_70 : decode cX12_folkLine 70 = .ok (.aload_n 0, 1) := by decide +kernel
theorem dX12_folkLine_71 : decode cX12_folkLine 71 = .ok (.getfield 41, 3) := by decide +kernel
theorem dX12_folkLine_74 : decode cX12_folkLine 74 = .ok (.iconst 1, 1) := by decide +kernel
theorem dX12_folkLine_75 : decode cX12_folkLine 75 = .ok (.iaload, 1) := by decide +kernel
theorem dX12_folkLine_76 : decode cX12_folkLine 76 = .ok (.iastore, 1) := by decide +kernel
theorem dX12_folkLine_77 : decode cX12_folkLine 77 = .ok (.aload_n 0, 1) := by decide +kernel
theorem dX12_folkLine_78 : decode cX12_folkLine 78 = .ok (.getfield 38, 3) := by decide +kernel
theorem dX12_folkLine_81 : decode cX12_folkLine 81 = .ok (.iconst 0, 1) := by decide +kernel
theorem dX12_folkLine_82 : decode cX12_folkLine 82 = .ok (.bipush 6, 2) := by decide +kernel
theorem dX12_folkLine_84 : decode cX12_folkLine 84 = .ok (.iload_n 2, 1) := by decide +kernel
theorem dX12_folkLine_85 : decode cX12_folkLine 85 = .ok (.iconst 1, 1) := by decide +kernel
theorem dX12_folkLine_86 : decode cX12_folkLine 86 = .ok (.iadd, 1) := by decide +kernel
theorem dX12_folkLine_87 : decode cX12_folkLine 87 = .ok (.invokestatic 168, 3) := by decide +kernel
theorem dX12_folkLine_90 : decode cX12_folkLine 90 = .ok (.iastore, 1) := by decide +kernel
theorem dX12_folkLine_91 : decode cX12_folkLine 91 = .ok (.iconst 1, 1) := by decide +kernel
theorem dX12_folkLine_92 : decode cX12_folkLine 92 = .ok (.ireturn, 1) := by decide +kernel
theorem dX12_oathLine_0 : decode cX12_oathLine 0 = .ok (.aload_n 0, 1) := by decide +kernel
theorem dX12_oathLine_1 : decode cX12_oathLine 1 = .ok (.iconst 1, 1) := by decide +kernel
theorem dX12_oathLine_2 : decode cX12_oathLine 2 = .ok (.bipush 12, 2) := by decide +kernel
theorem dX12_oathLine_4 : decode cX12_oathLine 4 = .ok (.iload_n 1, 1) := by decide +kernel
theorem dX12_oathLine_5 : decode cX12_oathLine 5 = .ok (.invokevirtual 164, 3) := by decide +kernel
theorem dX12_oathLine_8 : decode cX12_oathLine 8 = .ok (.aload_n 0, 1) := by decide +kernel
theorem dX12_oathLine_9 : decode cX12_oathLine 9 = .ok (.invokevirtual 154, 3) := by decide +kernel
theorem dX12_oathLine_12 : decode cX12_oathLine 12 = .ok (.aload_n 0, 1) := by decide +kernel
theorem dX12_oathLine_13 : decode cX12_oathLine 13 = .ok (.iconst 0, 1) := by decide +kernel
theorem dX12_oathLine_14 : decode cX12_oathLine 14 = .ok (.iconst 5, 1) := by decide +kernel
theorem dX12_oathLine_15 : decode cX12_oathLine 15 = .ok (.invokevirtual 172, 3) := by decide +kernel
theorem dX12_oathLine_18 : decode cX12_oathLine 18 = .ok (.ifCond .eq 14, 3) := by decide +kernel
theorem dX12_oathLine_21 : decode cX12_oathLine 21 = .ok (.aload_n 0, 1) := by decide +kernel
theorem dX12_oathLine_22 : decode cX12_oathLine 22 = .ok (.iconst 2, 1) := by decide +kernel
theorem dX12_oathLine_23 : decode cX12_oathLine 23 = .ok (.iconst 0, 1) := by decide +kernel
theorem dX12_oathLine_24 : decode cX12_oathLine 24 = .ok (.bipush 7, 2) := by decide +kernel
theorem dX12_oathLine_26 : decode cX12_oathLine 26 = .ok (.invokevirtual 161, 3) := by decide +kernel
theorem dX12_oathLine_29 : decode cX12_oathLine 29 = .ok (.ifCond .ne 5, 3) := by decide +kernel
theorem dX12_oathLine_32 : decode cX12_oathLine 32 = .ok (.iconst 0, 1) := by decide +kernel
theorem dX12_oathLine_33 : decode cX12_oathLine 33 = .ok (.ireturn, 1) := by decide +kernel
theorem dX12_oathLine_34 : decode cX12_oathLine 34 = .ok (.aload_n 0, 1) := by decide +kernel
theorem dX12_oathLine_35 : decode cX12_oathLine 35 = .ok (.aload_n 0, 1) := by decide +kernel
theorem dX12_oathLine_36 : decode cX12_oathLine 36 = .ok (.getfield 175, 3) := by decide +kernel
theorem dX12_oathLine_39 : decode cX12_oathLine 39 = .ok (.aload_n 0, 1) := by decide +kernel
theorem dX12_oathLine_40 : decode cX12_oathLine 40 = .ok (.getfield 41, 3) := by decide +kernel
theorem dX12_oathLine_43 : decode cX12_oathLine 43 = .ok (.iconst 0, 1) := by decide +kernel
theorem dX12_oathLine_44 : decode cX12_oathLine 44 = .ok (.iaload, 1) := by decide +kernel
theorem dX12_oathLine_45 : decode cX12_oathLine 45 = .ok (.aload_n 0, 1) := by decide +kernel
theorem dX12_oathLine_46 : decode cX12_oathLine 46 = .ok (.getfield 41, 3) := by decide +kernel
theorem dX12_oathLine_49 : decode cX12_oathLine 49 = .ok (.iconst 1, 1) := by decide +kernel
theorem dX12_oathLine_50 : decode cX12_oathLine 50 = .ok (.iaload, 1) := by decide +kernel
theorem dX12_oathLine_51 : decode cX12_oathLine 51 = .ok (.invokestatic 178, 3) := by decide +kernel
theorem dX12_oathLine_54 : decode cX12_oathLine 54 = .ok (.invokestatic 178, 3) := by decide +kernel
theorem dX12_oathLine_57 : decode cX12_oathLine 57 = .ok (.putfield 175, 3) := by decide +kernel
theorem dX12_oathLine_60 : decode cX12_oathLine 60 = .ok (.aload_n 0, 1) := by decide +kernel
theorem dX12_oathLine_61 : decode cX12_oathLine 61 = .ok (.getfield 38, 3) := by decide +kernel
theorem dX12_oathLine_64 : decode cX12_oathLine 64 = .ok (.iconst 1, 1) := by decide +kernel
theorem dX12_oathLine_65 : decode cX12_oathLine 65 = .ok (.iaload, 1) := by decide +kernel
theorem dX12_oathLine_66 : decode cX12_oathLine 66 = .ok (.istore_n 2, 1) := by decide +kernel
theorem dX12_oathLine_67 : decode cX12_oathLine 67 = .ok (.iconst 0, 1) := by decide +kernel
theorem dX12_oathLine_68 : decode cX12_oathLine 68 = .ok (.istore_n 3, 1) := by decide +kernel
theorem dX12_oathLine_69 : decode cX12_oathLine 69 = .ok (.iload_n 3, 1) := by decide +kernel
theorem dX12_oathLine_70 : decode cX12_oathLine 70 = .ok (.iconst 3, 1) := by decide +kernel
theorem dX12_oathLine_71 : decode cX12_oathLine 71 = .ok (.if_icmp .ge 34, 3) := by decide +kernel
theorem dX12_oathLine_74 : decode cX12_oathLine 74 = .ok (.iload_n 2, 1) := by decide +kernel
theorem dX12_oathLine_75 : decode cX12_oathLine 75 = .ok (.bipush 12, 2) := by decide +kernel
theorem dX12_oathLine_77 : decode cX12_oathLine 77 = .ok (.if_icmp .ge 28, 3) := by decide +kernel
theorem dX12_oathLine_80 : decode cX12_oathLine 80 = .ok (.aload_n 0, 1) := by decide +kernel
theorem dX12_oathLine_81 : decode cX12_oathLine 81 = .ok (.getfield 38, 3) := by decide +kernel
theorem dX12_oathLine_84 : decode cX12_oathLine 84 = .ok (.bipush 36, 2) := by decide +kernel
theorem dX12_oathLine_86 : decode cX12_oathLine 86 = .ok (.iconst 3, 1) := by decide +kernel
theorem dX12_oathLine_87 : decode cX12_oathLine 87 = .ok (.iload_n 2, 1) := by decide +kernel
theorem dX12_oathLine_88 : decode cX12_oathLine 88 = .ok (.imul, 1) := by decide +kernel
theorem dX12_oathLine_89 : decode cX12_oathLine 89 = .ok (.iadd, 1) := by decide +kernel
theorem dX12_oathLine_90 : decode cX12_oathLine 90 = .ok (.iload_n 3, 1) := by decide +kernel
theorem dX12_oathLine_91 : decode cX12_oathLine 91 = .ok (.iadd, 1) := by decide +kernel
theorem dX12_oathLine_92 : decode cX12_oathLine 92 = .ok (.aload_n 0, 1) := by decide +kernel
theorem dX12_oathLine_93 : decode cX12_oathLine 93 = .ok (.getfield 41, 3) := by decide +kernel
theorem dX12_oathLine_96 : decode cX12_oathLine 96 = .ok (.iload_n 3, 1) := by decide +kernel
theorem dX12_oathLine_97 : decode cX12_oathLine 97 = .ok (.iaload, 1) := by decide +kernel
theorem dX12_oathLine_98 : decode cX12_oathLine 98 = .ok (.iastore, 1) := by decide +kernel
theorem dX12_oathLine_99 : decode cX12_oathLine 99 = .ok (.iinc 3 1, 3) := by decide +kernel
theorem dX12_oathLine_102 : decode cX12_oathLine 102 = .ok (.goto (-33), 3) := by decide +kernel
theorem dX12_oathLine_105 : decode cX12_oathLine 105 = .ok (.aload_n 0, 1) := by decide +kernel
theorem dX12_oathLine_106 : decode cX12_oathLine 106 = .ok (.getfield 38, 3) := by decide +kernel
theorem dX12_oathLine_109 : decode cX12_oathLine 109 = .ok (.iconst 1, 1) := by decide +kernel
theorem dX12_oathLine_110 : decode cX12_oathLine 110 = .ok (.bipush 12, 2) := by decide +kernel
theorem dX12_oathLine_112 : decode cX12_oathLine 112 = .ok (.iload_n 2, 1) := by decide +kernel
theorem dX12_oathLine_113 : decode cX12_oathLine 113 = .ok (.iconst 1, 1) := by decide +kernel
theorem dX12_oathLine_114 : decode cX12_oathLine 114 = .ok (.iadd, 1) := by decide +kernel
theorem dX12_oathLine_115 : decode cX12_oathLine 115 = .ok (.invokestatic 168, 3) := by decide +kernel
theorem dX12_oathLine_118 : decode cX12_oathLine 118 = .ok (.iastore, 1) := by decide +kernel
theorem dX12_oathLine_119 : decode cX12_oathLine 119 = .ok (.iconst 1, 1) := by decide +kernel
theorem dX12_oathLine_120 : decode cX12_oathLine 120 = .ok (.ireturn, 1) := by decide +kernel
theorem dX12_countyLine_0 : decode cX12_countyLine 0 = .ok (.lload_n 1, 1) := by decide +kernel
theorem dX12_countyLine_1 : decode cX12_countyLine 1 = .ok (.ldc2_w 181, 3) := by decide +kernel
theorem dX12_countyLine_4 : decode cX12_countyLine 4 = .ok (.lcmp, 1) := by decide +kernel
theorem dX12_countyLine_5 : decode cX12_countyLine 5 = .ok (.ifCond .ne 9, 3) := by decide +kernel
theorem dX12_countyLine_8 : decode cX12_countyLine 8 = .ok (.aload_n 0, 1) := by decide +kernel
theorem dX12_countyLine_9 : decode cX12_countyLine 9 = .ok (.iload_n 3, 1) := by decide +kernel
theorem dX12_countyLine_10 : decode cX12_countyLine 10 = .ok (.invokevirtual 183, 3) := by decide +kernel
theorem dX12_countyLine_13 : decode cX12_countyLine 13 = .ok (.ireturn, 1) := by decide +kernel
theorem dX12_countyLine_14 : decode cX12_countyLine 14 = .ok (.lload_n 1, 1) := by decide +kernel
theorem dX12_countyLine_15 : decode cX12_countyLine 15 = .ok (.ldc2_w 187, 3) := by decide +kernel
theorem dX12_countyLine_18 : decode cX12_countyLine 18 = .ok (.lcmp, 1) := by decide +kernel
theorem dX12_countyLine_19 : decode cX12_countyLine 19 = .ok (.ifCond .ne 9, 3) := by decide +kernel
theorem dX12_countyLine_22 : decode cX12_countyLine 22 = .ok (.aload_n 0, 1) := by decide +kernel
theorem dX12_countyLine_23 : decode cX12_countyLine 23 = .ok (.iload_n 3, 1) := by decide +kernel
theorem dX12_countyLine_24 : decode cX12_countyLine 24 = .ok (.invokevirtual 189, 3) := by decide +kernel
theorem dX12_countyLine_27 : decode cX12_countyLine 27 = .ok (.ireturn, 1) := by decide +kernel
theorem dX12_countyLine_28 : decode cX12_countyLine 28 = .ok (.lload_n 1, 1) := by decide +kernel
theorem dX12_countyLine_29 : decode cX12_countyLine 29 = .ok (.ldc2_w 192, 3) := by decide +kernel
theorem dX12_countyLine_32 : decode cX12_countyLine 32 = .ok (.lcmp, 1) := by decide +kernel
theorem dX12_countyLine_33 : decode cX12_countyLine 33 = .ok (.ifCond .eq 24, 3) := by decide +kernel
theorem dX12_countyLine_36 : decode cX12_countyLine 36 = .ok (.lload_n 1, 1) := by decide +kernel
theorem dX12_countyLine_37 : decode cX12_countyLine 37 = .ok (.ldc2_w 194, 3) := by decide +kernel
theorem dX12_countyLine_40 : decode cX12_countyLine 40 = .ok (.lcmp, 1) := by decide +kernel
theorem dX12_countyLine_41 : decode cX12_countyLine 41 = .ok (.ifCond .eq 16, 3) := by decide +kernel
theorem dX12_countyLine_44 : decode cX12_countyLine 44 = .ok (.lload_n 1, 1) := by decide +kernel
theorem dX12_countyLine_45 : decode cX12_countyLine 45 = .ok (.ldc2_w 196, 3) := by decide +kernel
theorem dX12_countyLine_48 : decode cX12_countyLine 48 = .ok (.lcmp, 1) := by decide +kernel
theorem dX12_countyLine_49 : decode cX12_countyLine 49 = .ok (.ifCond .eq 8, 3) := by decide +kernel
theorem dX12_countyLine_52 : decode cX12_countyLine 52 = .ok (.aload_n 0, 1) := by decide +kernel
theorem dX12_countyLine_53 : decode cX12_countyLine 53 = .ok (.invokevirtual 142, 3) := by decide +kernel
theorem dX12_countyLine_56 : decode cX12_countyLine 56 = .ok (.ireturn, 1) := by decide +kernel
theorem dX12_countyLine_57 : decode cX12_countyLine 57 = .ok (.aload_n 0, 1) := by decide +kernel
theorem dX12_countyLine_58 : decode cX12_countyLine 58 = .ok (.invokevirtual 154, 3) := by decide +kernel
theorem dX12_countyLine_61 : decode cX12_countyLine 61 = .ok (.lload_n 1, 1) := by decide +kernel
theorem dX12_countyLine_62 : decode cX12_countyLine 62 = .ok (.ldc2_w 192, 3) := by decide +kernel
theorem dX12_countyLine_65 : decode cX12_countyLine 65 = .ok (.lcmp, 1) := by decide +kernel
theorem dX12_countyLine_66 : decode cX12_countyLine 66 = .ok (.ifCond .ne 56, 3) := by decide +kernel
theorem dX12_countyLine_69 : decode cX12_countyLine 69 = .ok (.aload_n 0, 1) := by decide +kernel
theorem dX12_countyLine_70 : decode cX12_countyLine 70 = .ok (.iconst 0, 1) := by decide +kernel
theorem dX12_countyLine_71 : decode cX12_countyLine 71 = .ok (.iconst 0, 1) := by decide +kernel
theorem dX12_countyLine_72 : decode cX12_countyLine 72 = .ok (.bipush 7, 2) := by decide +kernel
theorem dX12_countyLine_74 : decode cX12_countyLine 74 = .ok (.invokevirtual 161, 3) := by decide +kernel
theorem dX12_countyLine_77 : decode cX12_countyLine 77 = .ok (.ifCond .eq 14, 3) := by decide +kernel
theorem dX12_countyLine_80 : decode cX12_countyLine 80 = .ok (.aload_n 0, 1) := by decide +kernel
theorem dX12_countyLine_81 : decode cX12_countyLine 81 = .ok (.iconst 1, 1) := by decide +kernel
theorem dX12_countyLine_82 : decode cX12_countyLine 82 = .ok (.iconst 0, 1) := by decide +kernel
theorem dX12_countyLine_83 : decode cX12_countyLine 83 = .ok (.bipush 9, 2) := by decide +kernel
theorem dX12_countyLine_85 : decode cX12_countyLine 85 = .ok (.invokevirtual 161, 3) := by decide +kernel
theorem dX12_countyLine_88 : decode cX12_countyLine 88 = .ok (.ifCond .ne 5, 3) := by decide +kernel
theorem dX12_countyLine_91 : decode cX12_countyLine 91 = .ok (.iconst 0, 1) := by decide +kernel
theorem dX12_countyLine_92 : decode cX12_countyLine 92 = .ok (.ireturn, 1) := by decide +kernel
theorem dX12_countyLine_93 : decode cX12_countyLine 93 = .ok (.aload_n 0, 1) := by decide +kernel
theorem dX12_countyLine_94 : decode cX12_countyLine 94 = .ok (.getfield 150, 3) := by decide +kernel
theorem dX12_countyLine_97 : decode cX12_countyLine 97 = .ok (.ifCond .eq 23, 3) := by decide +kernel
theorem dX12_countyLine_100 : decode cX12_countyLine 100 = .ok (.aload_n 0, 1) := by decide +kernel
theorem dX12_countyLine_101 : decode cX12_countyLine 101 = .ok (.getfield 38, 3) := by decide +kernel
theorem dX12_countyLine_104 : decode cX12_countyLine 104 = .ok (.bipush 20, 2) := by decide +kernel
theorem dX12_countyLine_106 : decode cX12_countyLine 106 = .ok (.aload_n 0, 1) := by decide +kernel
theorem dX12_countyLine_107 : decode cX12_countyLine 107 = .ok (.getfield 41, 3) := by decide +kernel
theorem dX12_countyLine_110 : decode cX12_countyLine 110 = .ok (.iconst 0, 1) := by decide +kernel
theorem dX12_countyLine_111 : decode cX12_countyLine 111 = .ok (.iaload, 1) := by decide +kernel
theorem dX12_countyLine_112 : decode cX12_countyLine 112 = .ok (.iadd, 1) := by decide +kernel
theorem dX12_countyLine_113 : decode cX12_countyLine 113 = .ok (.aload_n 0, 1) := by decide +kernel
theorem dX12_countyLine_114 : decode cX12_countyLine 114 = .ok (.getfield 41, 3) := by decide +kernel
theorem dX12_countyLine_117 : decode cX12_countyLine 117 = .ok (.iconst 1, 1) := by decide +kernel
theorem dX12_countyLine_118 : decode cX12_countyLine 118 = .ok (.iaload, 1) := by decide +kernel
theorem dX12_countyLine_119 : decode cX12_countyLine 119 = .ok (.iastore, 1) := by decide +kernel
theorem dX12_countyLine_120 : decode cX12_countyLine 120 = .ok (.iconst 1, 1) := by decide +kernel
theorem dX12_countyLine_121 : decode cX12_countyLine 121 = .ok (.ireturn, 1) := by decide +kernel
theorem dX12_countyLine_122 : decode cX12_countyLine 122 = .ok (.aload_n 0, 1) := by decide +kernel
theorem dX12_countyLine_123 : decode cX12_countyLine 123 = .ok (.iconst 0, 1) := by decide +kernel
theorem dX12_countyLine_124 : decode cX12_countyLine 124 = .ok (.lload_n 1, 1) := by decide +kernel
theorem dX12_countyLine_125 : decode cX12_countyLine 125 = .ok (.ldc2_w 194, 3) := by decide +kernel
theorem dX12_countyLine_128 : decode cX12_countyLine 128 = .ok (.lcmp, 1) := by decide +kernel
theorem dX12_countyLine_129 : decode cX12_countyLine 129 = .ok (.ifCond .ne 8, 3) := by decide +kernel
theorem dX12_countyLine_132 : decode cX12_countyLine 132 = .ok (.bipush 7, 2) := by decide +kernel
theorem dX12_countyLine_134 : decode cX12_countyLine 134 = .ok (.goto 4, 3) := by decide +kernel
theorem dX12_countyLine_137 : decode cX12_countyLine 137 = .ok (.iconst 5, 1) := by decide +kernel
theorem dX12_countyLine_138 : decode cX12_countyLine 138 = .ok (.invokevirtual 172, 3) := by decide +kernel
theorem dX12_countyLine_141 : decode cX12_countyLine 141 = .ok (.ifCond .ne 5, 3) := by decide +kernel
theorem dX12_countyLine_144 : decode cX12_countyLine 144 = .ok (.iconst 0, 1) := by decide +kernel
theorem dX12_countyLine_145 : decode cX12_countyLine 145 = .ok (.ireturn, 1) := by decide +kernel
theorem dX12_countyLine_146 : decode cX12_countyLine 146 = .ok (.lload_n 1, 1) := by decide +kernel
theorem dX12_countyLine_147 : decode cX12_countyLine 147 = .ok (.ldc2_w 196, 3) := by decide +kernel
theorem dX12_countyLine_150 : decode cX12_countyLine 150 = .ok (.lcmp, 1) := by decide +kernel
theorem dX12_countyLine_151 : decode cX12_countyLine 151 = .ok (.ifCond .ne 29, 3) := by decide +kernel
theorem dX12_countyLine_154 : decode cX12_countyLine 154 = .ok (.aload_n 0, 1) := by decide +kernel
theorem dX12_countyLine_155 : decode cX12_countyLine 155 = .ok (.aload_n 0, 1) := by decide +kernel
theorem dX12_countyLine_156 : decode cX12_countyLine 156 = .ok (.getfield 175, 3) := by decide +kernel
theorem dX12_countyLine_159 : decode cX12_countyLine 159 = .ok (.aload_n 0, 1) := by decide +kernel
theorem dX12_countyLine_160 : decode cX12_countyLine 160 = .ok (.getfield 41, 3) := by decide +kernel
theorem dX12_countyLine_163 : decode cX12_countyLine 163 = .ok (.iconst 0, 1) := by decide +kernel
theorem dX12_countyLine_164 : decode cX12_countyLine 164 = .ok (.iaload, 1) := by decide +kernel
theorem dX12_countyLine_165 : decode cX12_countyLine 165 = .ok (.aload_n 0, 1) := by decide +kernel
theorem dX12_countyLine_166 : decode cX12_countyLine 166 = .ok (.getfield 41, 3) := by decide +kernel
theorem dX12_countyLine_169 : decode cX12_countyLine 169 = .ok (.iconst 1, 1) := by decide +kernel
theorem dX12_countyLine_170 : decode cX12_countyLine 170 = .ok (.iaload, 1) := by decide +kernel
theorem dX12_countyLine_171 : decode cX12_countyLine 171 = .ok (.invokestatic 178, 3) := by decide +kernel
theorem dX12_countyLine_174 : decode cX12_countyLine 174 = .ok (.invokestatic 178, 3) := by decide +kernel
theorem dX12_countyLine_177 : decode cX12_countyLine 177 = .ok (.putfield 175, 3) := by decide +kernel
theorem dX12_countyLine_180 : decode cX12_countyLine 180 = .ok (.aload_n 0, 1) := by decide +kernel
theorem dX12_countyLine_181 : decode cX12_countyLine 181 = .ok (.getfield 150, 3) := by decide +kernel
theorem dX12_countyLine_184 : decode cX12_countyLine 184 = .ok (.ifCond .eq 39, 3) := by decide +kernel
theorem dX12_countyLine_187 : decode cX12_countyLine 187 = .ok (.lload_n 1, 1) := by decide +kernel
theorem dX12_countyLine_188 : decode cX12_countyLine 188 = .ok (.ldc2_w 196, 3) := by decide +kernel
theorem dX12_countyLine_191 : decode cX12_countyLine 191 = .ok (.lcmp, 1) := by decide +kernel
theorem dX12_countyLine_192 : decode cX12_countyLine 192 = .ok (.ifCond .ne 31, 3) := by decide +kernel
theorem dX12_countyLine_195 : decode cX12_countyLine 195 = .ok (.aload_n 0, 1) := by decide +kernel
theorem dX12_countyLine_196 : decode cX12_countyLine 196 = .ok (.getfield 38, 3) := by decide +kernel
theorem dX12_countyLine_199 : decode cX12_countyLine 199 = .ok (.bipush 14, 2) := by decide +kernel
theorem dX12_countyLine_201 : decode cX12_countyLine 201 = .ok (.aload_n 0, 1) := by decide +kernel
theorem dX12_countyLine_202 : decode cX12_countyLine 202 = .ok (.getfield 41, 3) := by decide +kernel
theorem dX12_countyLine_205 : decode cX12_countyLine 205 = .ok (.iconst 0, 1) := by decide +kernel
theorem dX12_countyLine_206 : decode cX12_countyLine 206 = .ok (.iaload, 1) := by decide +kernel
theorem dX12_countyLine_207 : decode cX12_countyLine 207 = .ok (.iadd, 1) := by decide +kernel
theorem dX12_countyLine_208 : decode cX12_countyLine 208 = .ok (.dup2, 1) := by decide +kernel
theorem dX12_countyLine_209 : decode cX12_countyLine 209 = .ok (.iaload, 1) := by decide +kernel
theorem dX12_countyLine_210 : decode cX12_countyLine 210 = .ok (.iconst 1, 1) := by decide +kernel
theorem dX12_countyLine_211 : decode cX12_countyLine 211 = .ok (.aload_n 0, 1) := by decide +kernel
theorem dX12_countyLine_212 : decode cX12_countyLine 212 = .ok (.getfield 41, 3) := by decide +kernel
theorem dX12_countyLine_215 : decode cX12_countyLine 215 = .ok (.iconst 1, 1) := by decide +kernel
theorem dX12_countyLine_216 : decode cX12_countyLine 216 = .ok (.iaload, 1) := by decide +kernel
theorem dX12_countyLine_217 : decode cX12_countyLine 217 = .ok (.ishl, 1) := by decide +kernel
theorem dX12_countyLine_218 : decode cX12_countyLine 218 = .ok (.ior, 1) := by decide +kernel
theorem dX12_countyLine_219 : decode cX12_countyLine 219 = .ok (.iastore, 1) := by decide +kernel
theorem dX12_countyLine_220 : decode cX12_countyLine 220 = .ok (.goto 60, 3) := by decide +kernel
theorem dX12_countyLine_223 : decode cX12_countyLine 223 = .ok (.aload_n 0, 1) := by decide +kernel
theorem dX12_countyLine_224 : decode cX12_countyLine 224 = .ok (.getfield 150, 3) := by decide +kernel
theorem dX12_countyLine_227 : decode cX12_countyLine 227 = .ok (.ifCond .eq 53, 3) := by decide +kernel
theorem dX12_countyLine_230 : decode cX12_countyLine 230 = .ok (.aload_n 0, 1) := by decide +kernel
theorem dX12_countyLine_231 : decode cX12_countyLine 231 = .ok (.getfield 38, 3) := by decide +kernel
theorem dX12_countyLine_234 : decode cX12_countyLine 234 = .ok (.bipush 28, 2) := by decide +kernel
theorem dX12_countyLine_236 : decode cX12_countyLine 236 = .ok (.aload_n 0, 1) := by decide +kernel
theorem dX12_countyLine_237 : decode cX12_countyLine 237 = .ok (.getfield 41, 3) := by decide +kernel
theorem dX12_countyLine_240 : decode cX12_countyLine 240 = .ok (.iconst 0, 1) := by decide +kernel
theorem dX12_countyLine_241 : decode cX12_countyLine 241 = .ok (.iaload, 1) := by decide +kernel
theorem dX12_countyLine_242 : decode cX12_countyLine 242 = .ok (.iadd, 1) := by decide +kernel
theorem dX12_countyLine_243 : decode cX12_countyLine 243 = .ok (.dup2, 1) := by decide +kernel
theorem dX12_countyLine_244 : decode cX12_countyLine 244 = .ok (.iaload, 1) := by decide +kernel
theorem dX12_countyLine_245 : decode cX12_countyLine 245 = .ok (.iconst 1, 1) := by decide +kernel
theorem dX12_countyLine_246 : decode cX12_countyLine 246 = .ok (.aload_n 0, 1) := by decide +kernel
theorem dX12_countyLine_247 : decode cX12_countyLine 247 = .ok (.getfield 41, 3) := by decide +kernel
theorem dX12_countyLine_250 : decode cX12_countyLine 250 = .ok (.iconst 1, 1) := by decide +kernel
theorem dX12_countyLine_251 : decode cX12_countyLine 251 = .ok (.iaload, 1) := by decide +kernel
theorem dX12_countyLine_252 : decode cX12_countyLine 252 = .ok (.ishl, 1) := by decide +kernel
theorem dX12_countyLine_253 : decode cX12_countyLine 253 = .ok (.ior, 1) := by decide +kernel
theorem dX12_countyLine_254 : decode cX12_countyLine 254 = .ok (.iastore, 1) := by decide +kernel
theorem dX12_countyLine_255 : decode cX12_countyLine 255 = .ok (.aload_n 0, 1) := by decide +kernel
theorem dX12_countyLine_256 : decode cX12_countyLine 256 = .ok (.getfield 38, 3) := by decide +kernel
theorem dX12_countyLine_259 : decode cX12_countyLine 259 = .ok (.bipush 28, 2) := by decide +kernel
theorem dX12_countyLine_261 : decode cX12_countyLine 261 = .ok (.aload_n 0, 1) := by decide +kernel
theorem dX12_countyLine_262 : decode cX12_countyLine 262 = .ok (.getfield 41, 3) := by decide +kernel
theorem dX12_countyLine_265 : decode cX12_countyLine 265 = .ok (.iconst 1, 1) := by decide +kernel
theorem dX12_countyLine_266 : decode cX12_countyLine 266 = .ok (.iaload, 1) := by decide +kernel
theorem dX12_countyLine_267 : decode cX12_countyLine 267 = .ok (.iadd, 1) := by decide +kernel
theorem dX12_countyLine_268 : decode cX12_countyLine 268 = .ok (.dup2, 1) := by decide +kernel
theorem dX12_countyLine_269 : decode cX12_countyLine 269 = .ok (.iaload, 1) := by decide +kernel
theorem dX12_countyLine_270 : decode cX12_countyLine 270 = .ok (.iconst 1, 1) := by decide +kernel
theorem dX12_countyLine_271 : decode cX12_countyLine 271 = .ok (.aload_n 0, 1) := by decide +kernel
theorem dX12_countyLine_272 : decode cX12_countyLine 272 = .ok (.getfield 41, 3) := by decide +kernel
theorem dX12_countyLine_275 : decode cX12_countyLine 275 = .ok (.iconst 0, 1) := by decide +kernel
theorem dX12_countyLine_276 : decode cX12_countyLine 276 = .ok (.iaload, 1) := by decide +kernel
theorem dX12_countyLine_277 : decode cX12_countyLine 277 = .ok (.ishl, 1) := by decide +kernel
theorem dX12_countyLine_278 : decode cX12_countyLine 278 = .ok (.ior, 1) := by decide +kernel
theorem dX12_countyLine_279 : decode cX12_countyLine 279 = .ok (.iastore, 1) := by decide +kernel
theorem dX12_countyLine_280 : decode cX12_countyLine 280 = .ok (.iconst 1, 1) := by decide +kernel
theorem dX12_countyLine_281 : decode cX12_countyLine 281 = .ok (.ireturn, 1) := by decide +kernel
theorem dX12_keepRow_0 : decode cX12_keepRow 0 = .ok (.aload_n 0, 1) := by decide +kernel
theorem dX12_keepRow_1 : decode cX12_keepRow 1 = .ok (.getfield 38, 3) := by decide +kernel
theorem dX12_keepRow_4 : decode cX12_keepRow 4 = .ok (.iconst 0, 1) := by decide +kernel
theorem dX12_keepRow_5 : decode cX12_keepRow 5 = .ok (.iaload, 1) := by decide +kernel
theorem dX12_keepRow_6 : decode cX12_keepRow 6 = .ok (.istore_n 3, 1) := by decide +kernel
theorem dX12_keepRow_7 : decode cX12_keepRow 7 = .ok (.iconst 0, 1) := by decide +kernel
theorem dX12_keepRow_8 : decode cX12_keepRow 8 = .ok (.istore 4, 2) := by decide +kernel
theorem dX12_keepRow_10 : decode cX12_keepRow 10 = .ok (.iload 4, 2) := by decide +kernel
theorem dX12_keepRow_12 : decode cX12_keepRow 12 = .ok (.iload_n 1, 1) := by decide +kernel
theorem dX12_keepRow_13 : decode cX12_keepRow 13 = .ok (.if_icmp .ge 34, 3) := by decide +kernel
theorem dX12_keepRow_16 : decode cX12_keepRow 16 = .ok (.iload_n 3, 1) := by decide +kernel
theorem dX12_keepRow_17 : decode cX12_keepRow 17 = .ok (.iload_n 2, 1) := by decide +kernel
theorem dX12_keepRow_18 : decode cX12_keepRow 18 = .ok (.if_icmp .ge 29, 3) := by decide +kernel
theorem dX12_keepRow_21 : decode cX12_keepRow 21 = .ok (.aload_n 0, 1) := by decide +kernel
theorem dX12_keepRow_22 : decode cX12_keepRow 22 = .ok (.getfield 38, 3) := by decide +kernel
theorem dX12_keepRow_25 : decode cX12_keepRow 25 = .ok (.iconst 1, 1) := by decide +kernel
theorem dX12_keepRow_26 : decode cX12_keepRow 26 = .ok (.iload_n 1, 1) := by decide +kernel
theorem dX12_keepRow_27 : decode cX12_keepRow 27 = .ok (.iload_n 3, 1) := by decide +kernel
theorem dX12_keepRow_28 : decode cX12_keepRow 28 = .ok (.imul, 1) := by decide +kernel
theorem dX12_keepRow_29 : decode cX12_keepRow 29 = .ok (.iadd, 1) := by decide +kernel
theorem dX12_keepRow_30 : decode cX12_keepRow 30 = .ok (.iload 4, 2) := by decide +kernel
theorem dX12_keepRow_32 : decode cX12_keepRow 32 = .ok (.iadd, 1) := by decide +kernel
theorem dX12_keepRow_33 : decode cX12_keepRow 33 = .ok (.aload_n 0, 1) := by decide +kernel
theorem dX12_keepRow_34 : decode cX12_keepRow 34 = .ok (.getfield 41, 3) := by decide +kernel
theorem dX12_keepRow_37 : decode cX12_keepRow 37 = .ok (.iload 4, 2) := by decide +kernel
theorem dX12_keepRow_39 : decode cX12_keepRow 39 = .ok (.iaload, 1) := by decide +kernel
theorem dX12_keepRow_40 : decode cX12_keepRow 40 = .ok (.iastore, 1) := by decide +kernel
theorem dX12_keepRow_41 : decode cX12_keepRow 41 = .ok (.iinc 4 1, 3) := by decide +kernel
theorem dX12_keepRow_44 : decode cX12_keepRow 44 = .ok (.goto (-34), 3) := by decide +kernel
theorem dX12_keepRow_47 : decode cX12_keepRow 47 = .ok (.aload_n 0, 1) := by decide +kernel
theorem dX12_keepRow_48 : decode cX12_keepRow 48 = .ok (.getfield 38, 3) := by decide +kernel
theorem dX12_keepRow_51 : decode cX12_keepRow 51 = .ok (.iconst 0, 1) := by decide +kernel
theorem dX12_keepRow_52 : decode cX12_keepRow 52 = .ok (.iload_n 2, 1) := by decide +kernel
theorem dX12_keepRow_53 : decode cX12_keepRow 53 = .ok (.iload_n 3, 1) := by decide +kernel
theorem dX12_keepRow_54 : decode cX12_keepRow 54 = .ok (.iconst 1, 1) := by decide +kernel
theorem dX12_keepRow_55 : decode cX12_keepRow 55 = .ok (.iadd, 1) := by decide +kernel
theorem dX12_keepRow_56 : decode cX12_keepRow 56 = .ok (.invokestatic 168, 3) := by decide +kernel
theorem dX12_keepRow_59 : decode cX12_keepRow 59 = .ok (.iastore, 1) := by decide +kernel
theorem dX12_keepRow_60 : decode cX12_keepRow 60 = .ok (.return_, 1) := by decide +kernel
theorem dX12_deedBy_0 : decode cX12_deedBy 0 = .ok (.lload_n 1, 1) := by decide +kernel
theorem dX12_deedBy_1 : decode cX12_deedBy 1 = .ok (.ldc2_w 198, 3) := by decide +kernel
theorem dX12_deedBy_4 : decode cX12_deedBy 4 = .ok (.lcmp, 1) := by decide +kernel
theorem dX12_deedBy_5 : decode cX12_deedBy 5 = .ok (.ifCond .ne 7, 3) := by decide +kernel
theorem dX12_deedBy_8 : decode cX12_deedBy 8 = .ok (.iconst 0, 1) := by decide +kernel
theorem dX12_deedBy_9 : decode cX12_deedBy 9 = .ok (.goto 77, 3) := by decide +kernel
theorem dX12_deedBy_12 : decode cX12_deedBy 12 = .ok (.lload_n 1, 1) := by decide +kernel
theorem dX12_deedBy_13 : decode cX12_deedBy 13 = .ok (.ldc2_w 200, 3) := by decide +kernel
theorem dX12_deedBy_16 : decode cX12_deedBy 16 = .ok (.lcmp, 1) := by decide +kernel
theorem dX12_deedBy_17 : decode cX12_deedBy 17 = .ok (.ifCond .ne 7, 3) := by decide +kernel
theorem dX12_deedBy_20 : decode cX12_deedBy 20 = .ok (.iconst 1, 1) := by decide +kernel
theorem dX12_deedBy_21 : decode cX12_deedBy 21 = .ok (.goto 65, 3) := by decide +kernel
theorem dX12_deedBy_24 : decode cX12_deedBy 24 = .ok (.lload_n 1, 1) := by decide +kernel
theorem dX12_deedBy_25 : decode cX12_deedBy 25 = .ok (.ldc2_w 202, 3) := by decide +kernel
theorem dX12_deedBy_28 : decode cX12_deedBy 28 = .ok (.lcmp, 1) := by decide +kernel
theorem dX12_deedBy_29 : decode cX12_deedBy 29 = .ok (.ifCond .ne 7, 3) := by decide +kernel
theorem dX12_deedBy_32 : decode cX12_deedBy 32 = .ok (.iconst 2, 1) := by decide +kernel
theorem dX12_deedBy_33 : decode cX12_deedBy 33 = .ok (.goto 53, 3) := by decide +kernel
theorem dX12_deedBy_36 : decode cX12_deedBy 36 = .ok (.lload_n 1, 1) := by decide +kernel
theorem dX12_deedBy_37 : decode cX12_deedBy 37 = .ok (.ldc2_w 204, 3) := by decide +kernel
theorem dX12_deedBy_40 : decode cX12_deedBy 40 = .ok (.lcmp, 1) := by decide +kernel
theorem dX12_deedBy_41 : decode cX12_deedBy 41 = .ok (.ifCond .ne 7, 3) := by decide +kernel
theorem dX12_deedBy_44 : decode cX12_deedBy 44 = .ok (.iconst 3, 1) := by decide +kernel
theorem dX12_deedBy_45 : decode cX12_deedBy 45 = .ok (.goto 41, 3) := by decide +kernel
theorem dX12_deedBy_48 : decode cX12_deedBy 48 = .ok (.lload_n 1, 1) := by decide +kernel
theorem dX12_deedBy_49 : decode cX12_deedBy 49 = .ok (.ldc2_w 206, 3) := by decide +kernel
theorem dX12_deedBy_52 : decode cX12_deedBy 52 = .ok (.lcmp, 1) := by decide +kernel
theorem dX12_deedBy_53 : decode cX12_deedBy 53 = .ok (.ifCond .ne 7, 3) := by decide +kernel
theorem dX12_deedBy_56 : decode cX12_deedBy 56 = .ok (.iconst 4, 1) := by decide +kernel
theorem dX12_deedBy_57 : decode cX12_deedBy 57 = .ok (.goto 29, 3) := by decide +kernel
theorem dX12_deedBy_60 : decode cX12_deedBy 60 = .ok (.lload_n 1, 1) := by decide +kernel
theorem dX12_deedBy_61 : decode cX12_deedBy 61 = .ok (.ldc2_w 208, 3) := by decide +kernel
theorem dX12_deedBy_64 : decode cX12_deedBy 64 = .ok (.lcmp, 1) := by decide +kernel
theorem dX12_deedBy_65 : decode cX12_deedBy 65 = .ok (.ifCond .ne 7, 3) := by decide +kernel
theorem dX12_deedBy_68 : decode cX12_deedBy 68 = .ok (.iconst 5, 1) := by decide +kernel
theorem dX12_deedBy_69 : decode cX12_deedBy 69 = .ok (.goto 17, 3) := by decide +kernel
theorem dX12_deedBy_72 : decode cX12_deedBy 72 = .ok (.lload_n 1, 1) := by decide +kernel
theorem dX12_deedBy_73 : decode cX12_deedBy 73 = .ok (.ldc2_w 210, 3) := by decide +kernel
theorem dX12_deedBy_76 : decode cX12_deedBy 76 = .ok (.lcmp, 1) := by decide +kernel
theorem dX12_deedBy_77 : decode cX12_deedBy 77 = .ok (.ifCond .ne 8, 3) := by decide +kernel
theorem dX12_deedBy_80 : decode cX12_deedBy 80 = .ok (.bipush 6, 2) := by decide +kernel
theorem dX12_deedBy_82 : decode cX12_deedBy 82 = .ok (.goto 4, 3) := by decide +kernel
theorem dX12_deedBy_85 : decode cX12_deedBy 85 = .ok (.iconst (-1), 1) := by decide +kernel
theorem dX12_deedBy_86 : decode cX12_deedBy 86 = .ok (.ireturn, 1) := by decide +kernel
theorem dX12_termLine_0 : decode cX12_termLine 0 = .ok (.aload_n 0, 1) := by decide +kernel
theorem dX12_termLine_1 : decode cX12_termLine 1 = .ok (.lload_n 1, 1) := by decide +kernel
theorem dX12_termLine_2 : decode cX12_termLine 2 = .ok (.invokevirtual 212, 3) := by decide +kernel
theorem dX12_termLine_5 : decode cX12_termLine 5 = .ok (.istore 4, 2) := by decide +kernel
theorem dX12_termLine_7 : decode cX12_termLine 7 = .ok (.iload 4, 2) := by decide +kernel
theorem dX12_termLine_9 : decode cX12_termLine 9 = .ok (.iconst (-1), 1) := by decide +kernel
theorem dX12_termLine_10 : decode cX12_termLine 10 = .ok (.if_icmp .ne 8, 3) := by decide +kernel
theorem dX12_termLine_13 : decode cX12_termLine 13 = .ok (.aload_n 0, 1) := by decide +kernel
theorem dX12_termLine_14 : decode cX12_termLine 14 = .ok (.invokevirtual 142, 3) := by decide +kernel
theorem dX12_termLine_17 : decode cX12_termLine 17 = .ok (.ireturn, 1) := by decide +kernel
theorem dX12_termLine_18 : decode cX12_termLine 18 = .ok (.aload_n 0, 1) := by decide +kernel
theorem dX12_termLine_19 : decode cX12_termLine 19 = .ok (.iconst 0, 1) := by decide +kernel
theorem dX12_termLine_20 : decode cX12_termLine 20 = .ok (.bipush 40, 2) := by decide +kernel
theorem dX12_termLine_22 : decode cX12_termLine 22 = .ok (.iload_n 3, 1) := by decide +kernel
theorem dX12_termLine_23 : decode cX12_termLine 23 = .ok (.invokevirtual 164, 3) := by decide +kernel
theorem dX12_termLine_26 : decode cX12_termLine 26 = .ok (.aload_n 0, 1) := by decide +kernel
theorem dX12_termLine_27 : decode cX12_termLine 27 = .ok (.invokevirtual 154, 3) := by decide +kernel
theorem dX12_termLine_30 : decode cX12_termLine 30 = .ok (.iconst 1, 1) := by decide +kernel
theorem dX12_termLine_31 : decode cX12_termLine 31 = .ok (.istore 5, 2) := by decide +kernel
theorem dX12_termLine_33 : decode cX12_termLine 33 = .ok (.iload 5, 2) := by decide +kernel
theorem dX12_termLine_35 : decode cX12_termLine 35 = .ok (.iconst 4, 1) := by decide +kernel
theorem dX12_termLine_36 : decode cX12_termLine 36 = .ok (.if_icmp .ge 17, 3) := by decide +kernel
theorem dX12_termLine_39 : decode cX12_termLine 39 = .ok (.aload_n 0, 1) := by decide +kernel
theorem dX12_termLine_40 : decode cX12_termLine 40 = .ok (.getfield 41, 3) := by decide +kernel
theorem dX12_termLine_43 : decode cX12_termLine 43 = .ok (.iload 5, 2) := by decide +kernel
theorem dX12_termLine_45 : decode cX12_termLine 45 = .ok (.iconst (-1), 1) := by decide +kernel
theorem dX12_termLine_46 : decode cX12_termLine 46 = .ok (.iastore, 1) := by decide +kernel
theorem dX12_termLine_47 : decode cX12_termLine 47 = .ok (.iinc 5 1, 3) := by decide +kernel
theorem dX12_termLine_50 : decode cX12_termLine 50 = .ok (.goto (-17), 3) := by decide +kernel
theorem dX12_termLine_53 : decode cX12_termLine 53 = .ok (.iload 4, 2) := by decide +kernel
theorem dX12_termLine_55 : decode cX12_termLine 55 = .ok (.iconst 1, 1) := by decide +kernel
theorem dX12_termLine_56 : decode cX12_termLine 56 = .ok (.iconst 2, 1) := by decide +kernel
theorem dX12_termLine_57 : decode cX12_termLine 57 = .ok (.invokestatic 102, 3) := by decide +kernel
theorem dX12_termLine_60 : decode cX12_termLine 60 = .ok (.ifCond .eq 13, 3) := by decide +kernel
theorem dX12_termLine_63 : decode cX12_termLine 63 = .ok (.aload_n 0, 1) := by decide +kernel
theorem dX12_termLine_64 : decode cX12_termLine 64 = .ok (.iconst 1, 1) := by decide +kernel
theorem dX12_termLine_65 : decode cX12_termLine 65 = .ok (.iconst 0, 1) := by decide +kernel
theorem dX12_termLine_66 : decode cX12_termLine 66 = .ok (.iconst 5, 1) := by decide +kernel
theorem dX12_termLine_67 : decode cX12_termLine 67 = .ok (.invokevirtual 161, 3) := by decide +kernel
theorem dX12_termLine_70 : decode cX12_termLine 70 = .ok (.ifCond .eq 36, 3) := by decide +kernel
theorem dX12_termLine_73 : decode cX12_termLine 73 = .ok (.iload 4, 2) := by decide +kernel
theorem dX12_termLine_75 : decode cX12_termLine 75 = .ok (.iconst 3, 1) := by decide +kernel
theorem dX12_termLine_76 : decode cX12_termLine 76 = .ok (.if_icmp .lt 12, 3) := by decide +kernel
theorem dX12_termLine_79 : decode cX12_termLine 79 = .ok (.aload_n 0, 1) := by decide +kernel
theorem dX12_termLine_80 : decode cX12_termLine 80 = .ok (.iconst 1, 1) := by decide +kernel
theorem dX12_termLine_81 : decode cX12_termLine 81 = .ok (.iconst 5, 1) := by decide +kernel
theorem dX12_termLine_82 : decode cX12_termLine 82 = .ok (.invokevirtual 172, 3) := by decide +kernel
theorem dX12_termLine_85 : decode cX12_termLine 85 = .ok (.ifCond .eq 21, 3) := by decide +kernel
theorem dX12_termLine_88 : decode cX12_termLine 88 = .ok (.iload 4, 2) := by decide +kernel
theorem dX12_termLine_90 : decode cX12_termLine 90 = .ok (.bipush 6, 2) := by decide +kernel
theorem dX12_termLine_92 : decode cX12_termLine 92 = .ok (.if_icmp .ne 16, 3) := by decide +kernel
theorem dX12_termLine_95 : decode cX12_termLine 95 = .ok (.aload_n 0, 1) := by decide +kernel
theorem dX12_termLine_96 : decode cX12_termLine 96 = .ok (.iconst 3, 1) := by decide +kernel
theorem dX12_termLine_97 : decode cX12_termLine 97 = .ok (.iconst 0, 1) := by decide +kernel
theorem dX12_termLine_98 : decode cX12_termLine 98 = .ok (.bipush 7, 2) := by decide +kernel
theorem dX12_termLine_100 : decode cX12_termLine 100 = .ok (.invokevirtual 161, 3) := by decide +kernel
theorem dX12_termLine_103 : decode cX12_termLine 103 = .ok (.ifCond .ne 5, 3) := by decide +kernel
theorem dX12_termLine_106 : decode cX12_termLine 106 = .ok (.iconst 0, 1) := by decide +kernel
theorem dX12_termLine_107 : decode cX12_termLine 107 = .ok (.ireturn, 1) := by decide +kernel
theorem dX12_termLine_108 : decode cX12_termLine 108 = .ok (.aload_n 0, 1) := by decide +kernel
theorem dX12_termLine_109 : decode cX12_termLine 109 = .ok (.getfield 41, 3) := by decide +kernel
theorem dX12_termLine_112 : decode cX12_termLine 112 = .ok (.iconst 0, 1) := by decide +kernel
theorem dX12_termLine_113 : decode cX12_termLine 113 = .ok (.iload 4, 2) := by decide +kernel
theorem dX12_termLine_115 : decode cX12_termLine 115 = .ok (.iastore, 1) := by decide +kernel
theorem dX12_termLine_116 : decode cX12_termLine 116 = .ok (.aload_n 0, 1) := by decide +kernel
theorem dX12_termLine_117 : decode cX12_termLine 117 = .ok (.iconst 4, 1) := by decide +kernel
theorem dX12_termLine_118 : decode cX12_termLine 118 = .ok (.bipush 40, 2) := by decide +kernel
theorem dX12_termLine_120 : decode cX12_termLine 120 = .ok (.invokevirtual 216, 3) := by decide +kernel
theorem dX12_termLine_123 : decode cX12_termLine 123 = .ok (.iconst 1, 1) := by decide +kernel
theorem dX12_termLine_124 : decode cX12_termLine 124 = .ok (.ireturn, 1) := by decide +kernel
theorem dX12_wantLine_0 : decode cX12_wantLine 0 = .ok (.lload_n 1, 1) := by decide +kernel
theorem dX12_wantLine_1 : decode cX12_wantLine 1 = .ok (.ldc2_w 219, 3) := by decide +kernel
theorem dX12_wantLine_4 : decode cX12_wantLine 4 = .ok (.lcmp, 1) := by decide +kernel
theorem dX12_wantLine_5 : decode cX12_wantLine 5 = .ok (.ifCond .eq 8, 3) := by decide +kernel
theorem dX12_wantLine_8 : decode cX12_wantLine 8 = .ok (.aload_n 0, 1) := by decide +kernel
theorem dX12_wantLine_9 : decode cX12_wantLine 9 = .ok (.invokevirtual 142, 3) := by decide +kernel
theorem dX12_wantLine_12 : decode cX12_wantLine 12 = .ok (.ireturn, 1) := by decide +kernel
theorem dX12_wantLine_13 : decode cX12_wantLine 13 = .ok (.aload_n 0, 1) := by decide +kernel
theorem dX12_wantLine_14 : decode cX12_wantLine 14 = .ok (.iconst 0, 1) := by decide +kernel
theorem dX12_wantLine_15 : decode cX12_wantLine 15 = .ok (.bipush 6, 2) := by decide +kernel
theorem dX12_wantLine_17 : decode cX12_wantLine 17 = .ok (.iload_n 3, 1) := by decide +kernel
theorem dX12_wantLine_18 : decode cX12_wantLine 18 = .ok (.invokevirtual 164, 3) := by decide +kernel
theorem dX12_wantLine_21 : decode cX12_wantLine 21 = .ok (.aload_n 0, 1) := by decide +kernel
theorem dX12_wantLine_22 : decode cX12_wantLine 22 = .ok (.invokevirtual 154, 3) := by decide +kernel
theorem dX12_wantLine_25 : decode cX12_wantLine 25 = .ok (.aload_n 0, 1) := by decide +kernel
theorem dX12_wantLine_26 : decode cX12_wantLine 26 = .ok (.iconst 0, 1) := by decide +kernel
theorem dX12_wantLine_27 : decode cX12_wantLine 27 = .ok (.iconst 0, 1) := by decide +kernel
theorem dX12_wantLine_28 : decode cX12_wantLine 28 = .ok (.iconst 5, 1) := by decide +kernel
theorem dX12_wantLine_29 : decode cX12_wantLine 29 = .ok (.invokevirtual 161, 3) := by decide +kernel
theorem dX12_wantLine_32 : decode cX12_wantLine 32 = .ok (.ifCond .eq 14, 3) := by decide +kernel
theorem dX12_wantLine_35 : decode cX12_wantLine 35 = .ok (.aload_n 0, 1) := by decide +kernel
theorem dX12_wantLine_36 : decode cX12_wantLine 36 = .ok (.iconst 1, 1) := by decide +kernel
theorem dX12_wantLine_37 : decode cX12_wantLine 37 = .ok (.iconst 0, 1) := by decide +kernel
theorem dX12_wantLine_38 : decode cX12_wantLine 38 = .ok (.bipush 7, 2) := by decide +kernel
theorem dX12_wantLine_40 : decode cX12_wantLine 40 = .ok (.invokevirtual 161, 3) := by decide +kernel
theorem dX12_wantLine_43 : decode cX12_wantLine 43 = .ok (.ifCond .ne 5, 3) := by decide +kernel
theorem dX12_wantLine_46 : decode cX12_wantLine 46 = .ok (.iconst 0, 1) := by decide +kernel
theorem dX12_wantLine_47 : decode cX12_wantLine 47 = .ok (.ireturn, 1) := by decide +kernel
theorem dX12_wantLine_48 : decode cX12_wantLine 48 = .ok (.aload_n 0, 1) := by decide +kernel
theorem dX12_wantLine_49 : decode cX12_wantLine 49 = .ok (.iconst 2, 1) := by decide +kernel
theorem dX12_wantLine_50 : decode cX12_wantLine 50 = .ok (.bipush 6, 2) := by decide +kernel
theorem dX12_wantLine_52 : decode cX12_wantLine 52 = .ok (.invokevirtual 216, 3) := by decide +kernel
theorem dX12_wantLine_55 : decode cX12_wantLine 55 = .ok (.iconst 1, 1) := by decide +kernel
theorem dX12_wantLine_56 : decode cX12_wantLine 56 = .ok (.ireturn, 1) := by decide +kernel
theorem dX12_logLine_0 : decode cX12_logLine 0 = .ok (.lload_n 1, 1) := by decide +kernel
theorem dX12_logLine_1 : decode cX12_logLine 1 = .ok (.ldc2_w 221, 3) := by decide +kernel
theorem dX12_logLine_4 : decode cX12_logLine 4 = .ok (.lcmp, 1) := by decide +kernel
theorem dX12_logLine_5 : decode cX12_logLine 5 = .ok (.ifCond .eq 16, 3) := by decide +kernel
theorem dX12_logLine_8 : decode cX12_logLine 8 = .ok (.lload_n 1, 1) := by decide +kernel
theorem dX12_logLine_9 : decode cX12_logLine 9 = .ok (.ldc2_w 223, 3) := by decide +kernel
theorem dX12_logLine_12 : decode cX12_logLine 12 = .ok (.lcmp, 1) := by decide +kernel
theorem dX12_logLine_13 : decode cX12_logLine 13 = .ok (.ifCond .eq 8, 3) := by decide +kernel
theorem dX12_logLine_16 : decode cX12_logLine 16 = .ok (.aload_n 0, 1) := by decide +kernel
theorem dX12_logLine_17 : decode cX12_logLine 17 = .ok (.invokevirtual 142, 3) := by decide +kernel
theorem dX12_logLine_20 : decode cX12_logLine 20 = .ok (.ireturn, 1) := by decide +kernel
theorem dX12_logLine_21 : decode cX12_logLine 21 = .ok (.aload_n 0, 1) := by decide +kernel
theorem dX12_logLine_22 : decode cX12_logLine 22 = .ok (.iconst 0, 1) := by decide +kernel
theorem dX12_logLine_23 : decode cX12_logLine 23 = .ok (.bipush 8, 2) := by decide +kernel
theorem dX12_logLine_25 : decode cX12_logLine 25 = .ok (.iload_n 3, 1) := by decide +kernel
theorem dX12_logLine_26 : decode cX12_logLine 26 = .ok (.invokevirtual 164, 3) := by decide +kernel
theorem dX12_logLine_29 : decode cX12_logLine 29 = .ok (.aload_n 0, 1) := by decide +kernel
theorem dX12_logLine_30 : decode cX12_logLine 30 = .ok (.invokevirtual 154, 3) := by decide +kernel
theorem dX12_logLine_33 : decode cX12_logLine 33 = .ok (.aload_n 0, 1) := by decide +kernel
theorem dX12_logLine_34 : decode cX12_logLine 34 = .ok (.iconst 1, 1) := by decide +kernel
theorem dX12_logLine_35 : decode cX12_logLine 35 = .ok (.iconst 0, 1) := by decide +kernel
theorem dX12_logLine_36 : decode cX12_logLine 36 = .ok (.iconst 5, 1) := by decide +kernel
theorem dX12_logLine_37 : decode cX12_logLine 37 = .ok (.invokevirtual 161, 3) := by decide +kernel
theorem dX12_logLine_40 : decode cX12_logLine 40 = .ok (.ifCond .eq 14, 3) := by decide +kernel
theorem dX12_logLine_43 : decode cX12_logLine 43 = .ok (.aload_n 0, 1) := by decide +kernel
theorem dX12_logLine_44 : decode cX12_logLine 44 = .ok (.iconst 2, 1) := by decide +kernel
theorem dX12_logLine_45 : decode cX12_logLine 45 = .ok (.iconst 0, 1) := by decide +kernel
theorem dX12_logLine_46 : decode cX12_logLine 46 = .ok (.bipush 7, 2) := by decide +kernel
theorem dX12_logLine_48 : decode cX12_logLine 48 = .ok (.invokevirtual 161, 3) := by decide +kernel
theorem dX12_logLine_51 : decode cX12_logLine 51 = .ok (.ifCond .ne 5, 3) := by decide +kernel
theorem dX12_logLine_54 : decode cX12_logLine 54 = .ok (.iconst 0, 1) := by decide +kernel
theorem dX12_logLine_55 : decode cX12_logLine 55 = .ok (.ireturn, 1) := by decide +kernel
theorem dX12_logLine_56 : decode cX12_logLine 56 = .ok (.aload_n 0, 1) := by decide +kernel
theorem dX12_logLine_57 : decode cX12_logLine 57 = .ok (.getfield 41, 3) := by decide +kernel
theorem dX12_logLine_60 : decode cX12_logLine 60 = .ok (.iconst 0, 1) := by decide +kernel
theorem dX12_logLine_61 : decode cX12_logLine 61 = .ok (.lload_n 1, 1) := by decide +kernel
theorem dX12_logLine_62 : decode cX12_logLine 62 = .ok (.ldc2_w 221, 3) := by decide +kernel
theorem dX12_logLine_65 : decode cX12_logLine 65 = .ok (.lcmp, 1) := by decide +kernel
theorem dX12_logLine_66 : decode cX12_logLine 66 = .ok (.ifCond .ne 7, 3) := by decide +kernel
theorem dX12_logLine_69 : decode cX12_logLine 69 = .ok (.iconst 1, 1) := by decide +kernel
theorem dX12_logLine_70 : decode cX12_logLine 70 = .ok (.goto 4, 3) := by decide +kernel
theorem dX12_logLine_73 : decode cX12_logLine 73 = .ok (.iconst 0, 1) := by decide +kernel
theorem dX12_logLine_74 : decode cX12_logLine 74 = .ok (.iastore, 1) := by decide +kernel
theorem dX12_logLine_75 : decode cX12_logLine 75 = .ok (.aload_n 0, 1) := by decide +kernel
theorem dX12_logLine_76 : decode cX12_logLine 76 = .ok (.iconst 3, 1) := by decide +kernel
theorem dX12_logLine_77 : decode cX12_logLine 77 = .ok (.bipush 8, 2) := by decide +kernel
theorem dX12_logLine_79 : decode cX12_logLine 79 = .ok (.invokevirtual 216, 3) := by decide +kernel
theorem dX12_logLine_82 : decode cX12_logLine 82 = .ok (.iconst 1, 1) := by decide +kernel
theorem dX12_logLine_83 : decode cX12_logLine 83 = .ok (.ireturn, 1) := by decide +kernel
theorem dX12_lineOf_0 : decode cX12_lineOf 0 = .ok (.iload_n 1, 1) := by decide +kernel
theorem dX12_lineOf_1 : decode cX12_lineOf 1 = .ok (.ifCond .ne 13, 3) := by decide +kernel
theorem dX12_lineOf_4 : decode cX12_lineOf 4 = .ok (.aload_n 0, 1) := by decide +kernel
theorem dX12_lineOf_5 : decode cX12_lineOf 5 = .ok (.lload_n 2, 1) := by decide +kernel
theorem dX12_lineOf_6 : decode cX12_lineOf 6 = .ok (.iload 4, 2) := by decide +kernel
theorem dX12_lineOf_8 : decode cX12_lineOf 8 = .ok (.invokevirtual 225, 3) := by decide +kernel
theorem dX12_lineOf_11 : decode cX12_lineOf 11 = .ok (.goto 40, 3) := by decide +kernel
theorem dX12_lineOf_14 : decode cX12_lineOf 14 = .ok (.iload_n 1, 1) := by decide +kernel
theorem dX12_lineOf_15 : decode cX12_lineOf 15 = .ok (.iconst 1, 1) := by decide +kernel
theorem dX12_lineOf_16 : decode cX12_lineOf 16 = .ok (.if_icmp .ne 13, 3) := by decide +kernel
theorem dX12_lineOf_19 : decode cX12_lineOf 19 = .ok (.aload_n 0, 1) := by decide +kernel
theorem dX12_lineOf_20 : decode cX12_lineOf 20 = .ok (.lload_n 2, 1) := by decide +kernel
theorem dX12_lineOf_21 : decode cX12_lineOf 21 = .ok (.iload 4, 2) := by decide +kernel
theorem dX12_lineOf_23 : decode cX12_lineOf 23 = .ok (.invokevirtual 229, 3) := by decide +kernel
theorem dX12_lineOf_26 : decode cX12_lineOf 26 = .ok (.goto 25, 3) := by decide +kernel
theorem dX12_lineOf_29 : decode cX12_lineOf 29 = .ok (.iload_n 1, 1) := by decide +kernel
theorem dX12_lineOf_30 : decode cX12_lineOf 30 = .ok (.iconst 2, 1) := by decide +kernel
theorem dX12_lineOf_31 : decode cX12_lineOf 31 = .ok (.if_icmp .ne 13, 3) := by decide +kernel
theorem dX12_lineOf_34 : decode cX12_lineOf 34 = .ok (.aload_n 0, 1) := by decide +kernel
theorem dX12_lineOf_35 : decode cX12_lineOf 35 = .ok (.lload_n 2, 1) := by decide +kernel
theorem dX12_lineOf_36 : decode cX12_lineOf 36 = .ok (.iload 4, 2) := by decide +kernel
theorem dX12_lineOf_38 : decode cX12_lineOf 38 = .ok (.invokevirtual 232, 3) := by decide +kernel
theorem dX12_lineOf_41 : decode cX12_lineOf 41 = .ok (.goto 10, 3) := by decide +kernel
theorem dX12_lineOf_44 : decode cX12_lineOf 44 = .ok (.aload_n 0, 1) := by decide +kernel
theorem dX12_lineOf_45 : decode cX12_lineOf 45 = .ok (.lload_n 2, 1) := by decide +kernel
theorem dX12_lineOf_46 : decode cX12_lineOf 46 = .ok (.iload 4, 2) := by decide +kernel
theorem dX12_lineOf_48 : decode cX12_lineOf 48 = .ok (.invokevirtual 235, 3) := by decide +kernel
theorem dX12_lineOf_51 : decode cX12_lineOf 51 = .ok (.ireturn, 1) := by decide +kernel
theorem dX12_allLines_0 : decode cX12_allLines 0 = .ok (.iconst 1, 1) := by decide +kernel
theorem dX12_allLines_1 : decode cX12_allLines 1 = .ok (.istore_n 2, 1) := by decide +kernel
theorem dX12_allLines_2 : decode cX12_allLines 2 = .ok (.iload_n 2, 1) := by decide +kernel
theorem dX12_allLines_3 : decode cX12_allLines 3 = .ok (.ifCond .eq 75, 3) := by decide +kernel
theorem dX12_allLines_6 : decode cX12_allLines 6 = .ok (.aload_n 0, 1) := by decide +kernel
theorem dX12_allLines_7 : decode cX12_allLines 7 = .ok (.getfield 127, 3) := by decide +kernel
theorem dX12_allLines_10 : decode cX12_allLines 10 = .ok (.ifCond .eq 68, 3) := by decide +kernel
theorem dX12_allLines_13 : decode cX12_allLines 13 = .ok (.aload_n 0, 1) := by decide +kernel
theorem dX12_allLines_14 : decode cX12_allLines 14 = .ok (.getfield 120, 3) := by decide +kernel
theorem dX12_allLines_17 : decode cX12_allLines 17 = .ok (.istore_n 3, 1) := by decide +kernel
theorem dX12_allLines_18 : decode cX12_allLines 18 = .ok (.aload_n 0, 1) := by decide +kernel
theorem dX12_allLines_19 : decode cX12_allLines 19 = .ok (.getfield 127, 3) := by decide +kernel
theorem dX12_allLines_22 : decode cX12_allLines 22 = .ok (.iconst 2, 1) := by decide +kernel
theorem dX12_allLines_23 : decode cX12_allLines 23 = .ok (.if_icmp .ne 10, 3) := by decide +kernel
theorem dX12_allLines_26 : decode cX12_allLines 26 = .ok (.aload_n 0, 1) := by decide +kernel
theorem dX12_allLines_27 : decode cX12_allLines 27 = .ok (.getfield 123, 3) := by decide +kernel
theorem dX12_allLines_30 : decode cX12_allLines 30 = .ok (.goto 4, 3) := by decide +kernel
theorem dX12_allLines_33 : decode cX12_allLines 33 = .ok (.lconst 0, 1) := by decide +kernel
theorem dX12_allLines_34 : decode cX12_allLines 34 = .ok (.lstore 4, 2) := by decide +kernel
theorem dX12_allLines_36 : decode cX12_allLines 36 = .ok (.aload_n 0, 1) := by decide +kernel
theorem dX12_allLines_37 : decode cX12_allLines 37 = .ok (.iconst 1, 1) := by decide +kernel
theorem dX12_allLines_38 : decode cX12_allLines 38 = .ok (.putfield 150, 3) := by decide +kernel
theorem dX12_allLines_41 : decode cX12_allLines 41 = .ok (.aload_n 0, 1) := by decide +kernel
theorem dX12_allLines_42 : decode cX12_allLines 42 = .ok (.iload_n 1, 1) := by decide +kernel
theorem dX12_allLines_43 : decode cX12_allLines 43 = .ok (.lload 4, 2) := by decide +kernel
theorem dX12_allLines_45 : decode cX12_allLines 45 = .ok (.iload_n 3, 1) := by decide +kernel
theorem dX12_allLines_46 : decode cX12_allLines 46 = .ok (.invokevirtual 238, 3) := by decide +kernel
theorem dX12_allLines_49 : decode cX12_allLines 49 = .ok (.istore_n 2, 1) := by decide +kernel
theorem dX12_allLines_50 : decode cX12_allLines 50 = .ok (.iload_n 2, 1) := by decide +kernel
theorem dX12_allLines_51 : decode cX12_allLines 51 = .ok (.ifCond .eq 16, 3) := by decide +kernel
theorem dX12_allLines_54 : decode cX12_allLines 54 = .ok (.aload_n 0, 1) := by decide +kernel
theorem dX12_allLines_55 : decode cX12_allLines 55 = .ok (.getfield 127, 3) := by decide +kernel
theorem dX12_allLines_58 : decode cX12_allLines 58 = .ok (.iconst 4, 1) := by decide +kernel
theorem dX12_allLines_59 : decode cX12_allLines 59 = .ok (.if_icmp .eq 8, 3) := by decide +kernel
theorem dX12_allLines_62 : decode cX12_allLines 62 = .ok (.aload_n 0, 1) := by decide +kernel
theorem dX12_allLines_63 : decode cX12_allLines 63 = .ok (.invokevirtual 142, 3) := by decide +kernel
theorem dX12_allLines_66 : decode cX12_allLines 66 = .ok (.istore_n 2, 1) := by decide +kernel
theorem dX12_allLines_67 : decode cX12_allLines 67 = .ok (.iload_n 2, 1) := by decide +kernel
theorem dX12_allLines_68 : decode cX12_allLines 68 = .ok (.ifCond .eq 7, 3) := by decide +kernel
theorem dX12_allLines_71 : decode cX12_allLines 71 = .ok (.aload_n 0, 1) := by decide +kernel
theorem dX12_allLines_72 : decode cX12_allLines 72 = .ok (.invokevirtual 154, 3) := by decide +kernel
theorem dX12_allLines_75 : decode cX12_allLines 75 = .ok (.goto (-73), 3) := by decide +kernel
theorem dX12_allLines_78 : decode cX12_allLines 78 = .ok (.iload_n 2, 1) := by decide +kernel
theorem dX12_allLines_79 : decode cX12_allLines 79 = .ok (.ireturn, 1) := by decide +kernel
theorem dX12_readText_0 : decode cX12_readText 0 = .ok (.iconst 0, 1) := by decide +kernel
theorem dX12_readText_1 : decode cX12_readText 1 = .ok (.istore_n 2, 1) := by decide +kernel
theorem dX12_readText_2 : decode cX12_readText 2 = .ok (.iload_n 2, 1) := by decide +kernel
theorem dX12_readText_3 : decode cX12_readText 3 = .ok (.sipush 161, 3) := by decide +kernel
theorem dX12_readText_6 : decode cX12_readText 6 = .ok (.if_icmp .ge 35, 3) := by decide +kernel
theorem dX12_readText_9 : decode cX12_readText 9 = .ok (.aload_n 0, 1) := by decide +kernel
theorem dX12_readText_10 : decode cX12_readText 10 = .ok (.getfield 38, 3) := by decide +kernel
theorem dX12_readText_13 : decode cX12_readText 13 = .ok (.iload_n 2, 1) := by decide +kernel
theorem dX12_readText_14 : decode cX12_readText 14 = .ok (.iload_n 1, 1) := by decide +kernel
theorem dX12_readText_15 : decode cX12_readText 15 = .ok (.ifCond .ne 18, 3) := by decide +kernel
theorem dX12_readText_18 : decode cX12_readText 18 = .ok (.iload_n 2, 1) := by decide +kernel
theorem dX12_readText_19 : decode cX12_readText 19 = .ok (.bipush 20, 2) := by decide +kernel
theorem dX12_readText_21 : decode cX12_readText 21 = .ok (.bipush 27, 2) := by decide +kernel
theorem dX12_readText_23 : decode cX12_readText 23 = .ok (.invokestatic 102, 3) := by decide +kernel
theorem dX12_readText_26 : decode cX12_readText 26 = .ok (.ifCond .eq 7, 3) := by decide +kernel
theorem dX12_readText_29 : decode cX12_readText 29 = .ok (.iconst 5, 1) := by decide +kernel
theorem dX12_readText_30 : decode cX12_readText 30 = .ok (.goto 4, 3) := by decide +kernel
theorem dX12_readText_33 : decode cX12_readText 33 = .ok (.iconst 0, 1) := by decide +kernel
theorem dX12_readText_34 : decode cX12_readText 34 = .ok (.iastore, 1) := by decide +kernel
theorem dX12_readText_35 : decode cX12_readText 35 = .ok (.iinc 2 1, 3) := by decide +kernel
theorem dX12_readText_38 : decode cX12_readText 38 = .ok (.goto (-36), 3) := by decide +kernel
theorem dX12_readText_41 : decode cX12_readText 41 = .ok (.aload_n 0, 1) := by decide +kernel
theorem dX12_readText_42 : decode cX12_readText 42 = .ok (.iconst (-1), 1) := by decide +kernel
theorem dX12_readText_43 : decode cX12_readText 43 = .ok (.putfield 175, 3) := by decide +kernel
theorem dX12_readText_46 : decode cX12_readText 46 = .ok (.aload_n 0, 1) := by decide +kernel
theorem dX12_readText_47 : decode cX12_readText 47 = .ok (.iconst 0, 1) := by decide +kernel
theorem dX12_readText_48 : decode cX12_readText 48 = .ok (.putfield 110, 3) := by decide +kernel
theorem dX12_readText_51 : decode cX12_readText 51 = .ok (.aload_n 0, 1) := by decide +kernel
theorem dX12_readText_52 : decode cX12_readText 52 = .ok (.iconst 0, 1) := by decide +kernel
theorem dX12_readText_53 : decode cX12_readText 53 = .ok (.putfield 136, 3) := by decide +kernel
theorem dX12_readText_56 : decode cX12_readText 56 = .ok (.aload_n 0, 1) := by decide +kernel
theorem dX12_readText_57 : decode cX12_readText 57 = .ok (.invokevirtual 154, 3) := by decide +kernel
theorem dX12_readText_60 : decode cX12_readText 60 = .ok (.aload_n 0, 1) := by decide +kernel
theorem dX12_readText_61 : decode cX12_readText 61 = .ok (.iload_n 1, 1) := by decide +kernel
theorem dX12_readText_62 : decode cX12_readText 62 = .ok (.invokevirtual 242, 3) := by decide +kernel
theorem dX12_readText_65 : decode cX12_readText 65 = .ok (.istore_n 2, 1) := by decide +kernel
theorem dX12_readText_66 : decode cX12_readText 66 = .ok (.iload_n 2, 1) := by decide +kernel
theorem dX12_readText_67 : decode cX12_readText 67 = .ok (.ifCond .eq 36, 3) := by decide +kernel
theorem dX12_readText_70 : decode cX12_readText 70 = .ok (.iload_n 1, 1) := by decide +kernel
theorem dX12_readText_71 : decode cX12_readText 71 = .ok (.ifCond .ne 32, 3) := by decide +kernel
theorem dX12_readText_74 : decode cX12_readText 74 = .ok (.aload_n 0, 1) := by decide +kernel
theorem dX12_readText_75 : decode cX12_readText 75 = .ok (.getfield 136, 3) := by decide +kernel
theorem dX12_readText_78 : decode cX12_readText 78 = .ok (.ifCond .ne 25, 3) := by decide +kernel
theorem dX12_readText_81 : decode cX12_readText 81 = .ok (.aload_n 0, 1) := by decide +kernel
theorem dX12_readText_82 : decode cX12_readText 82 = .ok (.getfield 175, 3) := by decide +kernel
theorem dX12_readText_85 : decode cX12_readText 85 = .ok (.aload_n 0, 1) := by decide +kernel
theorem dX12_readText_86 : decode cX12_readText 86 = .ok (.getfield 38, 3) := by decide +kernel
theorem dX12_readText_89 : decode cX12_readText 89 = .ok (.iconst 0, 1) := by decide +kernel
theorem dX12_readText_90 : decode cX12_readText 90 = .ok (.iaload, 1) := by decide +kernel
theorem dX12_readText_91 : decode cX12_readText 91 = .ok (.if_icmp .lt 12, 3) := by decide +kernel
theorem dX12_readText_94 : decode cX12_readText 94 = .ok (.aload_n 0, 1) := by decide +kernel
theorem dX12_readText_95 : decode cX12_readText 95 = .ok (.iconst 4, 1) := by decide +kernel
theorem dX12_readText_96 : decode cX12_readText 96 = .ok (.aload_n 0, 1) := by decide +kernel
theorem dX12_readText_97 : decode cX12_readText 97 = .ok (.getfield 120, 3) := by decide +kernel
theorem dX12_readText_100 : decode cX12_readText 100 = .ok (.invokevirtual 146, 3) := by decide +kernel
theorem dX12_readText_103 : decode cX12_readText 103 = .ok (.aload_n 0, 1) := by decide +kernel
theorem dX12_readText_104 : decode cX12_readText 104 = .ok (.getfield 17, 3) := by decide +kernel
theorem dX12_readText_107 : decode cX12_readText 107 = .ok (.iconst 0, 1) := by decide +kernel
theorem dX12_readText_108 : decode cX12_readText 108 = .ok (.iload_n 2, 1) := by decide +kernel
theorem dX12_readText_109 : decode cX12_readText 109 = .ok (.ifCond .eq 10, 3) := by decide +kernel
theorem dX12_readText_112 : decode cX12_readText 112 = .ok (.aload_n 0, 1) := by decide +kernel
theorem dX12_readText_113 : decode cX12_readText 113 = .ok (.getfield 136, 3) := by decide +kernel
theorem dX12_readText_116 : decode cX12_readText 116 = .ok (.goto 4, 3) := by decide +kernel
theorem dX12_readText_119 : decode cX12_readText 119 = .ok (.iconst 1, 1) := by decide +kernel
theorem dX12_readText_120 : decode cX12_readText 120 = .ok (.iastore, 1) := by decide +kernel
theorem dX12_readText_121 : decode cX12_readText 121 = .ok (.aload_n 0, 1) := by decide +kernel
theorem dX12_readText_122 : decode cX12_readText 122 = .ok (.getfield 20, 3) := by decide +kernel
theorem dX12_readText_125 : decode cX12_readText 125 = .ok (.iconst 0, 1) := by decide +kernel
theorem dX12_readText_126 : decode cX12_readText 126 = .ok (.iload_n 2, 1) := by decide +kernel
theorem dX12_readText_127 : decode cX12_readText 127 = .ok (.ifCond .ne 10, 3) := by decide +kernel
theorem dX12_readText_130 : decode cX12_readText 130 = .ok (.aload_n 0, 1) := by decide +kernel
theorem dX12_readText_131 : decode cX12_readText 131 = .ok (.getfield 133, 3) := by decide +kernel
theorem dX12_readText_134 : decode cX12_readText 134 = .ok (.goto 18, 3) := by decide +kernel
theorem dX12_readText_137 : decode cX12_readText 137 = .ok (.aload_n 0, 1) := by decide +kernel
theorem dX12_readText_138 : decode cX12_readText 138 = .ok (.getfield 136, 3) := by decide +kernel
theorem dX12_readText_141 : decode cX12_readText 141 = .ok (.ifCond .le 10, 3) := by decide +kernel
theorem dX12_readText_144 : decode cX12_readText 144 = .ok (.aload_n 0, 1) := by decide +kernel
theorem dX12_readText_145 : decode cX12_readText 145 = .ok (.getfield 139, 3) := by decide +kernel
theorem dX12_readText_148 : decode cX12_readText 148 = .ok (.goto 4, 3) := by decide +kernel
theorem dX12_readText_151 : decode cX12_readText 151 = .ok (.iconst (-1), 1) := by decide +kernel
theorem dX12_readText_152 : decode cX12_readText 152 = .ok (.iastore, 1) := by decide +kernel
theorem dX12_readText_153 : decode cX12_readText 153 = .ok (.aload_n 0, 1) := by decide +kernel
theorem dX12_readText_154 : decode cX12_readText 154 = .ok (.getfield 17, 3) := by decide +kernel
theorem dX12_readText_157 : decode cX12_readText 157 = .ok (.iconst 0, 1) := by decide +kernel
theorem dX12_readText_158 : decode cX12_readText 158 = .ok (.iaload, 1) := by decide +kernel
theorem dX12_readText_159 : decode cX12_readText 159 = .ok (.ifCond .ne 7, 3) := by decide +kernel
theorem dX12_readText_162 : decode cX12_readText 162 = .ok (.iconst 1, 1) := by decide +kernel
theorem dX12_readText_163 : decode cX12_readText 163 = .ok (.goto 4, 3) := by decide +kernel
theorem dX12_readText_166 : decode cX12_readText 166 = .ok (.iconst 0, 1) := by decide +kernel
theorem dX12_readText_167 : decode cX12_readText 167 = .ok (.ireturn, 1) := by decide +kernel
theorem dX12_store_0 : decode cX12_store 0 = .ok (.iconst 0, 1) := by decide +kernel
theorem dX12_store_1 : decode cX12_store 1 = .ok (.istore 4, 2) := by decide +kernel
theorem dX12_store_3 : decode cX12_store 3 = .ok (.iload 4, 2) := by decide +kernel
theorem dX12_store_5 : decode cX12_store 5 = .ok (.iload_n 2, 1) := by decide +kernel
theorem dX12_store_6 : decode cX12_store 6 = .ok (.if_icmp .ge 24, 3) := by decide +kernel
theorem dX12_store_9 : decode cX12_store 9 = .ok (.aload_n 1, 1) := by decide +kernel
theorem dX12_store_10 : decode cX12_store 10 = .ok (.iload_n 2, 1) := by decide +kernel
theorem dX12_store_11 : decode cX12_store 11 = .ok (.iload_n 3, 1) := by decide +kernel
theorem dX12_store_12 : decode cX12_store 12 = .ok (.imul, 1) := by decide +kernel
theorem dX12_store_13 : decode cX12_store 13 = .ok (.iload 4, 2) := by decide +kernel
theorem dX12_store_15 : decode cX12_store 15 = .ok (.iadd, 1) := by decide +kernel
theorem dX12_store_16 : decode cX12_store 16 = .ok (.aload_n 0, 1) := by decide +kernel
theorem dX12_store_17 : decode cX12_store 17 = .ok (.getfield 38, 3) := by decide +kernel
theorem dX12_store_20 : decode cX12_store 20 = .ok (.iload 4, 2) := by decide +kernel
theorem dX12_store_22 : decode cX12_store 22 = .ok (.iaload, 1) := by decide +kernel
theorem dX12_store_23 : decode cX12_store 23 = .ok (.iastore, 1) := by decide +kernel
theorem dX12_store_24 : decode cX12_store 24 = .ok (.iinc 4 1, 3) := by decide +kernel
theorem dX12_store_27 : decode cX12_store 27 = .ok (.goto (-24), 3) := by decide +kernel
theorem dX12_store_30 : decode cX12_store 30 = .ok (.return_, 1) := by decide +kernel
theorem dX12_storeOf_0 : decode cX12_storeOf 0 = .ok (.iload_n 1, 1) := by decide +kernel
theorem dX12_storeOf_1 : decode cX12_storeOf 1 = .ok (.ifCond .ne 17, 3) := by decide +kernel
theorem dX12_storeOf_4 : decode cX12_storeOf 4 = .ok (.aload_n 0, 1) := by decide +kernel
theorem dX12_storeOf_5 : decode cX12_storeOf 5 = .ok (.aload_n 0, 1) := by decide +kernel
theorem dX12_storeOf_6 : decode cX12_storeOf 6 = .ok (.getfield 26, 3) := by decide +kernel
theorem dX12_storeOf_9 : decode cX12_storeOf 9 = .ok (.bipush 72, 2) := by decide +kernel
theorem dX12_storeOf_11 : decode cX12_storeOf 11 = .ok (.iload_n 2, 1) := by decide +kernel
theorem dX12_storeOf_12 : decode cX12_storeOf 12 = .ok (.invokevirtual 245, 3) := by decide +kernel
theorem dX12_storeOf_15 : decode cX12_storeOf 15 = .ok (.goto 53, 3) := by decide +kernel
theorem dX12_storeOf_18 : decode cX12_storeOf 18 = .ok (.iload_n 1, 1) := by decide +kernel
theorem dX12_storeOf_19 : decode cX12_storeOf 19 = .ok (.iconst 1, 1) := by decide +kernel
theorem dX12_storeOf_20 : decode cX12_storeOf 20 = .ok (.if_icmp .ne 18, 3) := by decide +kernel
theorem dX12_storeOf_23 : decode cX12_storeOf 23 = .ok (.aload_n 0, 1) := by decide +kernel
theorem dX12_storeOf_24 : decode cX12_storeOf 24 = .ok (.aload_n 0, 1) := by decide +kernel
theorem dX12_storeOf_25 : decode cX12_storeOf 25 = .ok (.getfield 29, 3) := by decide +kernel
theorem dX12_storeOf_28 : decode cX12_storeOf 28 = .ok (.sipush 161, 3) := by decide +kernel
theorem dX12_storeOf_31 : decode cX12_storeOf 31 = .ok (.iload_n 2, 1) := by decide +kernel
theorem dX12_storeOf_32 : decode cX12_storeOf 32 = .ok (.invokevirtual 245, 3) := by decide +kernel
theorem dX12_storeOf_35 : decode cX12_storeOf 35 = .ok (.goto 33, 3) := by decide +kernel
theorem dX12_storeOf_38 : decode cX12_storeOf 38 = .ok (.iload_n 1, 1) := by decide +kernel
theorem dX12_storeOf_39 : decode cX12_storeOf 39 = .ok (.iconst 2, 1) := by decide +kernel
theorem dX12_storeOf_40 : decode cX12_storeOf 40 = .ok (.if_icmp .ne 17, 3) := by decide +kernel
theorem dX12_storeOf_43 : decode cX12_storeOf 43 = .ok (.aload_n 0, 1) := by decide +kernel
theorem dX12_storeOf_44 : decode cX12_storeOf 44 = .ok (.aload_n 0, 1) := by decide +kernel
theorem dX12_storeOf_45 : decode cX12_storeOf 45 = .ok (.getfield 32, 3) := by decide +kernel
theorem dX12_storeOf_48 : decode cX12_storeOf 48 = .ok (.bipush 13, 2) := by decide +kernel
theorem dX12_storeOf_50 : decode cX12_storeOf 50 = .ok (.iload_n 2, 1) := by decide +kernel
theorem dX12_storeOf_51 : decode cX12_storeOf 51 = .ok (.invokevirtual 245, 3) := by decide +kernel
theorem dX12_storeOf_54 : decode cX12_storeOf 54 = .ok (.goto 14, 3) := by decide +kernel
theorem dX12_storeOf_57 : decode cX12_storeOf 57 = .ok (.aload_n 0, 1) := by decide +kernel
theorem dX12_storeOf_58 : decode cX12_storeOf 58 = .ok (.aload_n 0, 1) := by decide +kernel
theorem dX12_storeOf_59 : decode cX12_storeOf 59 = .ok (.getfield 35, 3) := by decide +kernel
theorem dX12_storeOf_62 : decode cX12_storeOf 62 = .ok (.bipush 25, 2) := by decide +kernel
theorem dX12_storeOf_64 : decode cX12_storeOf 64 = .ok (.iload_n 2, 1) := by decide +kernel
theorem dX12_storeOf_65 : decode cX12_storeOf 65 = .ok (.invokevirtual 245, 3) := by decide +kernel
theorem dX12_storeOf_68 : decode cX12_storeOf 68 = .ok (.return_, 1) := by decide +kernel
theorem dX12_text_0 : decode cX12_text 0 = .ok (.aload_n 0, 1) := by decide +kernel
theorem dX12_text_1 : decode cX12_text 1 = .ok (.iconst 0, 1) := by decide +kernel
theorem dX12_text_2 : decode cX12_text 2 = .ok (.putfield 90, 3) := by decide +kernel
theorem dX12_text_5 : decode cX12_text 5 = .ok (.aload_n 0, 1) := by decide +kernel
theorem dX12_text_6 : decode cX12_text 6 = .ok (.aload_n 0, 1) := by decide +kernel
theorem dX12_text_7 : decode cX12_text 7 = .ok (.getfield 13, 3) := by decide +kernel
theorem dX12_text_10 : decode cX12_text 10 = .ok (.iconst 0, 1) := by decide +kernel
theorem dX12_text_11 : decode cX12_text 11 = .ok (.iaload, 1) := by decide +kernel
theorem dX12_text_12 : decode cX12_text 12 = .ok (.putfield 113, 3) := by decide +kernel
theorem dX12_text_15 : decode cX12_text 15 = .ok (.aload_n 0, 1) := by decide +kernel
theorem dX12_text_16 : decode cX12_text 16 = .ok (.getfield 13, 3) := by decide +kernel
theorem dX12_text_19 : decode cX12_text 19 = .ok (.iconst 0, 1) := by decide +kernel
theorem dX12_text_20 : decode cX12_text 20 = .ok (.iconst 0, 1) := by decide +kernel
theorem dX12_text_21 : decode cX12_text 21 = .ok (.iastore, 1) := by decide +kernel
theorem dX12_text_22 : decode cX12_text 22 = .ok (.aload_n 0, 1) := by decide +kernel
theorem dX12_text_23 : decode cX12_text 23 = .ok (.getfield 17, 3) := by decide +kernel
theorem dX12_text_26 : decode cX12_text 26 = .ok (.iconst 0, 1) := by decide +kernel
theorem dX12_text_27 : decode cX12_text 27 = .ok (.iconst 0, 1) := by decide +kernel
theorem dX12_text_28 : decode cX12_text 28 = .ok (.iastore, 1) := by decide +kernel
theorem dX12_text_29 : decode cX12_text 29 = .ok (.aload_n 0, 1) := by decide +kernel
theorem dX12_text_30 : decode cX12_text 30 = .ok (.getfield 20, 3) := by decide +kernel
theorem dX12_text_33 : decode cX12_text 33 = .ok (.iconst 0, 1) := by decide +kernel
theorem dX12_text_34 : decode cX12_text 34 = .ok (.iconst (-1), 1) := by decide +kernel
theorem dX12_text_35 : decode cX12_text 35 = .ok (.iastore, 1) := by decide +kernel
theorem dX12_text_36 : decode cX12_text 36 = .ok (.iload_n 1, 1) := by decide +kernel
theorem dX12_text_37 : decode cX12_text 37 = .ok (.iconst 0, 1) := by decide +kernel
theorem dX12_text_38 : decode cX12_text 38 = .ok (.iconst 3, 1) := by decide +kernel
theorem dX12_text_39 : decode cX12_text 39 = .ok (.invokestatic 102, 3) := by decide +kernel
theorem dX12_text_42 : decode cX12_text 42 = .ok (.ifCond .eq 30, 3) := by decide +kernel
theorem dX12_text_45 : decode cX12_text 45 = .ok (.iload_n 2, 1) := by decide +kernel
theorem dX12_text_46 : decode cX12_text 46 = .ok (.iconst (-1), 1) := by decide +kernel
theorem dX12_text_47 : decode cX12_text 47 = .ok (.if_icmp .ne 16, 3) := by decide +kernel
theorem dX12_text_50 : decode cX12_text 50 = .ok (.aload_n 0, 1) := by decide +kernel
theorem dX12_text_51 : decode cX12_text 51 = .ok (.getfield 23, 3) := by decide +kernel
theorem dX12_text_54 : decode cX12_text 54 = .ok (.iload_n 1, 1) := by decide +kernel
theorem dX12_text_55 : decode cX12_text 55 = .ok (.iaload, 1) := by decide +kernel
theorem dX12_text_56 : decode cX12_text 56 = .ok (.iconst 2, 1) := by decide +kernel
theorem dX12_text_57 : decode cX12_text 57 = .ok (.if_icmp .ne 18, 3) := by decide +kernel
theorem dX12_text_60 : decode cX12_text 60 = .ok (.goto 12, 3) := by decide +kernel
theorem dX12_text_63 : decode cX12_text 63 = .ok (.aload_n 0, 1) := by decide +kernel
theorem dX12_text_64 : decode cX12_text 64 = .ok (.iload_n 1, 1) := by decide +kernel
theorem dX12_text_65 : decode cX12_text 65 = .ok (.iload_n 2, 1) := by decide +kernel
theorem dX12_text_66 : decode cX12_text 66 = .ok (.invokevirtual 249, 3) := by decide +kernel
theorem dX12_text_69 : decode cX12_text 69 = .ok (.ifCond .ne 6, 3) := by decide +kernel
theorem dX12_text_72 : decode cX12_text 72 = .ok (.bipush (-2), 2) := by decide +kernel
theorem dX12_text_74 : decode cX12_text 74 = .ok (.ireturn, 1) := by decide +kernel
theorem dX12_text_75 : decode cX12_text 75 = .ok (.aload_n 0, 1) := by decide +kernel
theorem dX12_text_76 : decode cX12_text 76 = .ok (.iload_n 1, 1) := by decide +kernel
theorem dX12_text_77 : decode cX12_text 77 = .ok (.invokevirtual 252, 3) := by decide +kernel
theorem dX12_text_80 : decode cX12_text 80 = .ok (.ifCond .ne 5, 3) := by decide +kernel
theorem dX12_text_83 : decode cX12_text 83 = .ok (.iconst (-1), 1) := by decide +kernel
theorem dX12_text_84 : decode cX12_text 84 = .ok (.ireturn, 1) := by decide +kernel
theorem dX12_text_85 : decode cX12_text 85 = .ok (.iload_n 2, 1) := by decide +kernel
theorem dX12_text_86 : decode cX12_text 86 = .ok (.iconst (-1), 1) := by decide +kernel
theorem dX12_text_87 : decode cX12_text 87 = .ok (.if_icmp .ne 12, 3) := by decide +kernel
theorem dX12_text_90 : decode cX12_text 90 = .ok (.aload_n 0, 1) := by decide +kernel
theorem dX12_text_91 : decode cX12_text 91 = .ok (.getfield 23, 3) := by decide +kernel
theorem dX12_text_94 : decode cX12_text 94 = .ok (.iload_n 1, 1) := by decide +kernel
theorem dX12_text_95 : decode cX12_text 95 = .ok (.iaload, 1) := by decide +kernel
theorem dX12_text_96 : decode cX12_text 96 = .ok (.goto 4, 3) := by decide +kernel
theorem dX12_text_99 : decode cX12_text 99 = .ok (.iload_n 2, 1) := by decide +kernel
theorem dX12_text_100 : decode cX12_text 100 = .ok (.istore_n 3, 1) := by decide +kernel
theorem dX12_text_101 : decode cX12_text 101 = .ok (.aload_n 0, 1) := by decide +kernel
theorem dX12_text_102 : decode cX12_text 102 = .ok (.getfield 23, 3) := by decide +kernel
theorem dX12_text_105 : decode cX12_text 105 = .ok (.iload_n 1, 1) := by decide +kernel
theorem dX12_text_106 : decode cX12_text 106 = .ok (.dup2, 1) := by decide +kernel
theorem dX12_text_107 : decode cX12_text 107 = .ok (.iaload, 1) := by decide +kernel
theorem dX12_text_108 : decode cX12_text 108 = .ok (.iload_n 2, 1) := by decide +kernel
theorem dX12_text_109 : decode cX12_text 109 = .ok (.iconst (-1), 1) := by decide +kernel
theorem dX12_text_110 : decode cX12_text 110 = .ok (.if_icmp .ne 7, 3) := by decide +kernel
theorem dX12_text_113 : decode cX12_text 113 = .ok (.iconst 1, 1) := by decide +kernel
theorem dX12_text_114 : decode cX12_text 114 = .ok (.goto 4, 3) := by decide +kernel
theorem dX12_text_117 : decode cX12_text 117 = .ok (.iconst 0, 1) := by decide +kernel
theorem dX12_text_118 : decode cX12_text 118 = .ok (.iadd, 1) := by decide +kernel
theorem dX12_text_119 : decode cX12_text 119 = .ok (.iastore, 1) := by decide +kernel
theorem dX12_text_120 : decode cX12_text 120 = .ok (.aload_n 0, 1) := by decide +kernel
theorem dX12_text_121 : decode cX12_text 121 = .ok (.iload_n 1, 1) := by decide +kernel
theorem dX12_text_122 : decode cX12_text 122 = .ok (.iload_n 3, 1) := by decide +kernel
theorem dX12_text_123 : decode cX12_text 123 = .ok (.invokevirtual 255, 3) := by decide +kernel
theorem dX12_text_126 : decode cX12_text 126 = .ok (.iload_n 3, 1) := by decide +kernel
theorem dX12_text_127 : decode cX12_text 127 = .ok (.ireturn, 1) := by decide +kernel
theorem dX12_fault_0 : decode cX12_fault 0 = .ok (.aload_n 0, 1) := by decide +kernel
theorem dX12_fault_1 : decode cX12_fault 1 = .ok (.iconst 0, 1) := by decide +kernel
theorem dX12_fault_2 : decode cX12_fault 2 = .ok (.putfield 90, 3) := by decide +kernel
theorem dX12_fault_5 : decode cX12_fault 5 = .ok (.iload_n 1, 1) := by decide +kernel
theorem dX12_fault_6 : decode cX12_fault 6 = .ok (.ifCond .ne 12, 3) := by decide +kernel
theorem dX12_fault_9 : decode cX12_fault 9 = .ok (.aload_n 0, 1) := by decide +kernel
theorem dX12_fault_10 : decode cX12_fault 10 = .ok (.getfield 17, 3) := by decide +kernel
theorem dX12_fault_13 : decode cX12_fault 13 = .ok (.iconst 0, 1) := by decide +kernel
theorem dX12_fault_14 : decode cX12_fault 14 = .ok (.iaload, 1) := by decide +kernel
theorem dX12_fault_15 : decode cX12_fault 15 = .ok (.goto 18, 3) := by decide +kernel
theorem dX12_fault_18 : decode cX12_fault 18 = .ok (.iload_n 1, 1) := by decide +kernel
theorem dX12_fault_19 : decode cX12_fault 19 = .ok (.iconst 1, 1) := by decide +kernel
theorem dX12_fault_20 : decode cX12_fault 20 = .ok (.if_icmp .ne 12, 3) := by decide +kernel
theorem dX12_fault_23 : decode cX12_fault 23 = .ok (.aload_n 0, 1) := by decide +kernel
theorem dX12_fault_24 : decode cX12_fault 24 = .ok (.getfield 20, 3) := by decide +kernel
theorem dX12_fault_27 : decode cX12_fault 27 = .ok (.iconst 0, 1) := by decide +kernel
theorem dX12_fault_28 : decode cX12_fault 28 = .ok (.iaload, 1) := by decide +kernel
theorem dX12_fault_29 : decode cX12_fault 29 = .ok (.goto 4, 3) := by decide +kernel
theorem dX12_fault_32 : decode cX12_fault 32 = .ok (.iconst (-1), 1) := by decide +kernel
theorem dX12_fault_33 : decode cX12_fault 33 = .ok (.ireturn, 1) := by decide +kernel
theorem dX12_of_0 : decode cX12_of 0 = .ok (.aload_n 0, 1) := by decide +kernel
theorem dX12_of_1 : decode cX12_of 1 = .ok (.getfield 26, 3) := by decide +kernel
theorem dX12_of_4 : decode cX12_of 4 = .ok (.bipush 72, 2) := by decide +kernel
theorem dX12_of_6 : decode cX12_of 6 = .ok (.aload_n 0, 1) := by decide +kernel
theorem dX12_of_7 : decode cX12_of 7 = .ok (.getfield 258, 3) := by decide +kernel
theorem dX12_of_10 : decode cX12_of 10 = .ok (.imul, 1) := by decide +kernel
theorem dX12_of_11 : decode cX12_of 11 = .ok (.iload_n 1, 1) := by decide +kernel
theorem dX12_of_12 : decode cX12_of 12 = .ok (.iadd, 1) := by decide +kernel
theorem dX12_of_13 : decode cX12_of 13 = .ok (.iaload, 1) := by decide +kernel
theorem dX12_of_14 : decode cX12_of 14 = .ok (.ireturn, 1) := by decide +kernel
theorem dX12_asTold_0 : decode cX12_asTold 0 = .ok (.aload_n 0, 1) := by decide +kernel
theorem dX12_asTold_1 : decode cX12_asTold 1 = .ok (.iconst 0, 1) := by decide +kernel
theorem dX12_asTold_2 : decode cX12_asTold 2 = .ok (.putfield 261, 3) := by decide +kernel
theorem dX12_asTold_5 : decode cX12_asTold 5 = .ok (.aload_n 0, 1) := by decide +kernel
theorem dX12_asTold_6 : decode cX12_asTold 6 = .ok (.iconst 0, 1) := by decide +kernel
theorem dX12_asTold_7 : decode cX12_asTold 7 = .ok (.putfield 264, 3) := by decide +kernel
theorem dX12_asTold_10 : decode cX12_asTold 10 = .ok (.aload_n 0, 1) := by decide +kernel
theorem dX12_asTold_11 : decode cX12_asTold 11 = .ok (.iconst 0, 1) := by decide +kernel
theorem dX12_asTold_12 : decode cX12_asTold 12 = .ok (.putfield 267, 3) := by decide +kernel
theorem dX12_asTold_15 : decode cX12_asTold 15 = .ok (.aload_n 0, 1) := by decide +kernel
theorem dX12_asTold_16 : decode cX12_asTold 16 = .ok (.iconst 0, 1) := by decide +kernel
theorem dX12_asTold_17 : decode cX12_asTold 17 = .ok (.putfield 270, 3) := by decide +kernel
theorem dX12_asTold_20 : decode cX12_asTold 20 = .ok (.aload_n 0, 1) := by decide +kernel
theorem dX12_asTold_21 : decode cX12_asTold 21 = .ok (.iconst 0, 1) := by decide +kernel
theorem dX12_asTold_22 : decode cX12_asTold 22 = .ok (.putfield 273, 3) := by decide +kernel
theorem dX12_asTold_25 : decode cX12_asTold 25 = .ok (.aload_n 0, 1) := by decide +kernel
theorem dX12_asTold_26 : decode cX12_asTold 26 = .ok (.aload_n 0, 1) := by decide +kernel
theorem dX12_asTold_27 : decode cX12_asTold 27 = .ok (.iconst 1, 1) := by decide +kernel
theorem dX12_asTold_28 : decode cX12_asTold 28 = .ok (.invokevirtual 276, 3) := by decide +kernel
theorem dX12_asTold_31 : decode cX12_asTold 31 = .ok (.putfield 280, 3) := by decide +kernel
theorem dX12_asTold_34 : decode cX12_asTold 34 = .ok (.iconst 0, 1) := by decide +kernel
theorem dX12_asTold_35 : decode cX12_asTold 35 = .ok (.istore_n 1, 1) := by decide +kernel
theorem dX12_asTold_36 : decode cX12_asTold 36 = .ok (.iload_n 1, 1) := by decide +kernel
theorem dX12_asTold_37 : decode cX12_asTold 37 = .ok (.bipush 6, 2) := by decide +kernel
theorem dX12_asTold_39 : decode cX12_asTold 39 = .ok (.if_icmp .ge 50, 3) := by decide +kernel
theorem dX12_asTold_42 : decode cX12_asTold 42 = .ok (.aload_n 0, 1) := by decide +kernel
theorem dX12_asTold_43 : decode cX12_asTold 43 = .ok (.getfield 44, 3) := by decide +kernel
theorem dX12_asTold_46 : decode cX12_asTold 46 = .ok (.iload_n 1, 1) := by decide +kernel
theorem dX12_asTold_47 : decode cX12_asTold 47 = .ok (.aload_n 0, 1) := by decide +kernel
theorem dX12_asTold_48 : decode cX12_asTold 48 = .ok (.iconst 2, 1) := by decide +kernel
theorem dX12_asTold_49 : decode cX12_asTold 49 = .ok (.iload_n 1, 1) := by decide +kernel
theorem dX12_asTold_50 : decode cX12_asTold 50 = .ok (.iadd, 1) := by decide +kernel
theorem dX12_asTold_51 : decode cX12_asTold 51 = .ok (.invokevirtual 276, 3) := by decide +kernel
theorem dX12_asTold_54 : decode cX12_asTold 54 = .ok (.iastore, 1) := by decide +kernel
theorem dX12_asTold_55 : decode cX12_asTold 55 = .ok (.aload_n 0, 1) := by decide +kernel
theorem dX12_asTold_56 : decode cX12_asTold 56 = .ok (.getfield 47, 3) := by decide +kernel
theorem dX12_asTold_59 : decode cX12_asTold 59 = .ok (.iload_n 1, 1) := by decide +kernel
theorem dX12_asTold_60 : decode cX12_asTold 60 = .ok (.aload_n 0, 1) := by decide +kernel
theorem dX12_asTold_61 : decode cX12_asTold 61 = .ok (.bipush 8, 2) := by decide +kernel
theorem dX12_asTold_63 : decode cX12_asTold 63 = .ok (.iload_n 1, 1) := by decide +kernel
theorem dX12_asTold_64 : decode cX12_asTold 64 = .ok (.iadd, 1) := by decide +kernel
theorem dX12_asTold_65 : decode cX12_asTold 65 = .ok (.invokevirtual 276, 3) := by decide +kernel
theorem dX12_asTold_68 : decode cX12_asTold 68 = .ok (.iastore, 1) := by decide +kernel
theorem dX12_asTold_69 : decode cX12_asTold 69 = .ok (.aload_n 0, 1) := by decide +kernel
theorem dX12_asTold_70 : decode cX12_asTold 70 = .ok (.getfield 50, 3) := by decide +kernel
theorem dX12_asTold_73 : decode cX12_asTold 73 = .ok (.iload_n 1, 1) := by decide +kernel
theorem dX12_asTold_74 : decode cX12_asTold 74 = .ok (.aload_n 0, 1) := by decide +kernel
theorem dX12_asTold_75 : decode cX12_asTold 75 = .ok (.bipush 14, 2) := by decide +kernel
theorem dX12_asTold_77 : decode cX12_asTold 77 = .ok (.iload_n 1, 1) := by decide +kernel
theorem dX12_asTold_78 : decode cX12_asTold 78 = .ok (.iadd, 1) := by decide +kernel
theorem dX12_asTold_79 : decode cX12_asTold 79 = .ok (.invokevirtual 276, 3) := by decide +kernel
theorem dX12_asTold_82 : decode cX12_asTold 82 = .ok (.iastore, 1) := by decide +kernel
theorem dX12_asTold_83 : decode cX12_asTold 83 = .ok (.iinc 1 1, 3) := by decide +kernel
theorem dX12_asTold_86 : decode cX12_asTold 86 = .ok (.goto (-50), 3) := by decide +kernel
theorem dX12_asTold_89 : decode cX12_asTold 89 = .ok (.iconst 0, 1) := by decide +kernel
theorem dX12_asTold_90 : decode cX12_asTold 90 = .ok (.istore_n 1, 1) := by decide +kernel
theorem dX12_asTold_91 : decode cX12_asTold 91 = .ok (.iload_n 1, 1) := by decide +kernel
theorem dX12_asTold_92 : decode cX12_asTold 92 = .ok (.bipush 36, 2) := by decide +kernel
theorem dX12_asTold_94 : decode cX12_asTold 94 = .ok (.if_icmp .ge 16, 3) := by decide +kernel
theorem dX12_asTold_97 : decode cX12_asTold 97 = .ok (.aload_n 0, 1) := by decide +kernel
theorem dX12_asTold_98 : decode cX12_asTold 98 = .ok (.getfield 53, 3) := by decide +kernel
theorem dX12_asTold_101 : decode cX12_asTold 101 = .ok (.iload_n 1, 1) := by decide +kernel
theorem dX12_asTold_102 : decode cX12_asTold 102 = .ok (.iconst 0, 1) := by decide +kernel
theorem dX12_asTold_103 : decode cX12_asTold 103 = .ok (.iastore, 1) := by decide +kernel
theorem dX12_asTold_104 : decode cX12_asTold 104 = .ok (.iinc 1 1, 3) := by decide +kernel
theorem dX12_asTold_107 : decode cX12_asTold 107 = .ok (.goto (-16), 3) := by decide +kernel
theorem dX12_asTold_110 : decode cX12_asTold 110 = .ok (.iconst 0, 1) := by decide +kernel
theorem dX12_asTold_111 : decode cX12_asTold 111 = .ok (.istore_n 1, 1) := by decide +kernel
theorem dX12_asTold_112 : decode cX12_asTold 112 = .ok (.iload_n 1, 1) := by decide +kernel
theorem dX12_asTold_113 : decode cX12_asTold 113 = .ok (.bipush 12, 2) := by decide +kernel
theorem dX12_asTold_115 : decode cX12_asTold 115 = .ok (.if_icmp .ge 61, 3) := by decide +kernel
theorem dX12_asTold_118 : decode cX12_asTold 118 = .ok (.aload_n 0, 1) := by decide +kernel
theorem dX12_asTold_119 : decode cX12_asTold 119 = .ok (.getfield 56, 3) := by decide +kernel
theorem dX12_asTold_122 : decode cX12_asTold 122 = .ok (.iload_n 1, 1) := by decide +kernel
theorem dX12_asTold_123 : decode cX12_asTold 123 = .ok (.aload_n 0, 1) := by decide +kernel
theorem dX12_asTold_124 : decode cX12_asTold 124 = .ok (.bipush 36, 2) := by decide +kernel
theorem dX12_asTold_126 : decode cX12_asTold 126 = .ok (.iconst 3, 1) := by decide +kernel
theorem dX12_asTold_127 : decode cX12_asTold 127 = .ok (.iload_n 1, 1) := by decide +kernel
theorem dX12_asTold_128 : decode cX12_asTold 128 = .ok (.imul, 1) := by decide +kernel
theorem dX12_asTold_129 : decode cX12_asTold 129 = .ok (.iadd, 1) := by decide +kernel
theorem dX12_asTold_130 : decode cX12_asTold 130 = .ok (.invokevirtual 276, 3) := by decide +kernel
theorem dX12_asTold_133 : decode cX12_asTold 133 = .ok (.iastore, 1) := by decide +kernel
theorem dX12_asTold_134 : decode cX12_asTold 134 = .ok (.aload_n 0, 1) := by decide +kernel
theorem dX12_asTold_135 : decode cX12_asTold 135 = .ok (.getfield 59, 3) := by decide +kernel
theorem dX12_asTold_138 : decode cX12_asTold 138 = .ok (.iload_n 1, 1) := by decide +kernel
theorem dX12_asTold_139 : decode cX12_asTold 139 = .ok (.aload_n 0, 1) := by decide +kernel
theorem dX12_asTold_140 : decode cX12_asTold 140 = .ok (.bipush 36, 2) := by decide +kernel
theorem dX12_asTold_142 : decode cX12_asTold 142 = .ok (.iconst 3, 1) := by decide +kernel
theorem dX12_asTold_143 : decode cX12_asTold 143 = .ok (.iload_n 1, 1) := by decide +kernel
theorem dX12_asTold_144 : decode cX12_asTold 144 = .ok (.imul, 1) := by decide +kernel
theorem dX12_asTold_145 : decode cX12_asTold 145 = .ok (.iadd, 1) := by decide +kernel
theorem dX12_asTold_146 : decode cX12_asTold 146 = .ok (.iconst 1, 1) := by decide +kernel
theorem dX12_asTold_147 : decode cX12_asTold 147 = .ok (.iadd, 1) := by decide +kernel
theorem dX12_asTold_148 : decode cX12_asTold 148 = .ok (.invokevirtual 276, 3) := by decide +kernel
theorem dX12_asTold_151 : decode cX12_asTold 151 = .ok (.iastore, 1) := by decide +kernel
theorem dX12_asTold_152 : decode cX12_asTold 152 = .ok (.aload_n 0, 1) := by decide +kernel
theorem dX12_asTold_153 : decode cX12_asTold 153 = .ok (.getfield 62, 3) := by decide +kernel
theorem dX12_asTold_156 : decode cX12_asTold 156 = .ok (.iload_n 1, 1) := by decide +kernel
theorem dX12_asTold_157 : decode cX12_asTold 157 = .ok (.aload_n 0, 1) := by decide +kernel
theorem dX12_asTold_158 : decode cX12_asTold 158 = .ok (.bipush 36, 2) := by decide +kernel
theorem dX12_asTold_160 : decode cX12_asTold 160 = .ok (.iconst 3, 1) := by decide +kernel
theorem dX12_asTold_161 : decode cX12_asTold 161 = .ok (.iload_n 1, 1) := by decide +kernel
theorem dX12_asTold_162 : decode cX12_asTold 162 = .ok (.imul, 1) := by decide +kernel
theorem dX12_asTold_163 : decode cX12_asTold 163 = .ok (.iadd, 1) := by decide +kernel
theorem dX12_asTold_164 : decode cX12_asTold 164 = .ok (.iconst 2, 1) := by decide +kernel
theorem dX12_asTold_165 : decode cX12_asTold 165 = .ok (.iadd, 1) := by decide +kernel
theorem dX12_asTold_166 : decode cX12_asTold 166 = .ok (.invokevirtual 276, 3) := by decide +kernel
theorem dX12_asTold_169 : decode cX12_asTold 169 = .ok (.iastore, 1) := by decide +kernel
theorem dX12_asTold_170 : decode cX12_asTold 170 = .ok (.iinc 1 1, 3) := by decide +kernel
theorem dX12_asTold_173 : decode cX12_asTold 173 = .ok (.goto (-61), 3) := by decide +kernel
theorem dX12_asTold_176 : decode cX12_asTold 176 = .ok (.return_, 1) := by decide +kernel
theorem dX12_hand_0 : decode cX12_hand 0 = .ok (.aload_n 0, 1) := by decide +kernel
theorem dX12_hand_1 : decode cX12_hand 1 = .ok (.iconst 0, 1) := by decide +kernel
theorem dX12_hand_2 : decode cX12_hand 2 = .ok (.iload_n 1, 1) := by decide +kernel
theorem dX12_hand_3 : decode cX12_hand 3 = .ok (.invokevirtual 249, 3) := by decide +kernel
theorem dX12_hand_6 : decode cX12_hand 6 = .ok (.ifCond .ne 5, 3) := by decide +kernel
theorem dX12_hand_9 : decode cX12_hand 9 = .ok (.iconst 0, 1) := by decide +kernel
theorem dX12_hand_10 : decode cX12_hand 10 = .ok (.ireturn, 1) := by decide +kernel
theorem dX12_hand_11 : decode cX12_hand 11 = .ok (.aload_n 0, 1) := by decide +kernel
theorem dX12_hand_12 : decode cX12_hand 12 = .ok (.iload_n 1, 1) := by decide +kernel
theorem dX12_hand_13 : decode cX12_hand 13 = .ok (.putfield 258, 3) := by decide +kernel
theorem dX12_hand_16 : decode cX12_hand 16 = .ok (.aload_n 0, 1) := by decide +kernel
theorem dX12_hand_17 : decode cX12_hand 17 = .ok (.aload_n 0, 1) := by decide +kernel
theorem dX12_hand_18 : decode cX12_hand 18 = .ok (.iconst 0, 1) := by decide +kernel
theorem dX12_hand_19 : decode cX12_hand 19 = .ok (.invokevirtual 276, 3) := by decide +kernel
theorem dX12_hand_22 : decode cX12_hand 22 = .ok (.putfield 283, 3) := by decide +kernel
theorem dX12_hand_25 : decode cX12_hand 25 = .ok (.aload_n 0, 1) := by decide +kernel
theorem dX12_hand_26 : decode cX12_hand 26 = .ok (.invokevirtual 286, 3) := by decide +kernel
theorem dX12_hand_29 : decode cX12_hand 29 = .ok (.iconst 1, 1) := by decide +kernel
theorem dX12_hand_30 : decode cX12_hand 30 = .ok (.ireturn, 1) := by decide +kernel
theorem dX12_isOne_0 : decode cX12_isOne 0 = .ok (.iload_n 1, 1) := by decide +kernel
theorem dX12_isOne_1 : decode cX12_isOne 1 = .ok (.iconst 0, 1) := by decide +kernel
theorem dX12_isOne_2 : decode cX12_isOne 2 = .ok (.aload_n 0, 1) := by decide +kernel
theorem dX12_isOne_3 : decode cX12_isOne 3 = .ok (.getfield 283, 3) := by decide +kernel
theorem dX12_isOne_6 : decode cX12_isOne 6 = .ok (.iconst 1, 1) := by decide +kernel
theorem dX12_isOne_7 : decode cX12_isOne 7 = .ok (.isub, 1) := by decide +kernel
theorem dX12_isOne_8 : decode cX12_isOne 8 = .ok (.invokestatic 102, 3) := by decide +kernel
theorem dX12_isOne_11 : decode cX12_isOne 11 = .ok (.ireturn, 1) := by decide +kernel
theorem dX12_areTwo_0 : decode cX12_areTwo 0 = .ok (.aload_n 0, 1) := by decide +kernel
theorem dX12_areTwo_1 : decode cX12_areTwo 1 = .ok (.iload_n 1, 1) := by decide +kernel
theorem dX12_areTwo_2 : decode cX12_areTwo 2 = .ok (.invokevirtual 289, 3) := by decide +kernel
theorem dX12_areTwo_5 : decode cX12_areTwo 5 = .ok (.ifCond .eq 20, 3) := by decide +kernel
theorem dX12_areTwo_8 : decode cX12_areTwo 8 = .ok (.aload_n 0, 1) := by decide +kernel
theorem dX12_areTwo_9 : decode cX12_areTwo 9 = .ok (.iload_n 2, 1) := by decide +kernel
theorem dX12_areTwo_10 : decode cX12_areTwo 10 = .ok (.invokevirtual 289, 3) := by decide +kernel
theorem dX12_areTwo_13 : decode cX12_areTwo 13 = .ok (.ifCond .eq 12, 3) := by decide +kernel
theorem dX12_areTwo_16 : decode cX12_areTwo 16 = .ok (.iload_n 1, 1) := by decide +kernel
theorem dX12_areTwo_17 : decode cX12_areTwo 17 = .ok (.iload_n 2, 1) := by decide +kernel
theorem dX12_areTwo_18 : decode cX12_areTwo 18 = .ok (.if_icmp .eq 7, 3) := by decide +kernel
theorem dX12_areTwo_21 : decode cX12_areTwo 21 = .ok (.iconst 1, 1) := by decide +kernel
theorem dX12_areTwo_22 : decode cX12_areTwo 22 = .ok (.goto 4, 3) := by decide +kernel
theorem dX12_areTwo_25 : decode cX12_areTwo 25 = .ok (.iconst 0, 1) := by decide +kernel
theorem dX12_areTwo_26 : decode cX12_areTwo 26 = .ok (.ireturn, 1) := by decide +kernel
theorem dX12_heartOf_0 : decode cX12_heartOf 0 = .ok (.aload_n 0, 1) := by decide +kernel
theorem dX12_heartOf_1 : decode cX12_heartOf 1 = .ok (.getfield 44, 3) := by decide +kernel
theorem dX12_heartOf_4 : decode cX12_heartOf 4 = .ok (.iload_n 2, 1) := by decide +kernel
theorem dX12_heartOf_5 : decode cX12_heartOf 5 = .ok (.iaload, 1) := by decide +kernel
theorem dX12_heartOf_6 : decode cX12_heartOf 6 = .ok (.aload_n 0, 1) := by decide +kernel
theorem dX12_heartOf_7 : decode cX12_heartOf 7 = .ok (.getfield 50, 3) := by decide +kernel
theorem dX12_heartOf_10 : decode cX12_heartOf 10 = .ok (.iload_n 2, 1) := by decide +kernel
theorem dX12_heartOf_11 : decode cX12_heartOf 11 = .ok (.iaload, 1) := by decide +kernel
theorem dX12_heartOf_12 : decode cX12_heartOf 12 = .ok (.iload_n 1, 1) := by decide +kernel
theorem dX12_heartOf_13 : decode cX12_heartOf 13 = .ok (.invokestatic 94, 3) := by decide +kernel
theorem dX12_heartOf_16 : decode cX12_heartOf 16 = .ok (.ifCond .eq 7, 3) := by decide +kernel
theorem dX12_heartOf_19 : decode cX12_heartOf 19 = .ok (.iconst 2, 1) := by decide +kernel
theorem dX12_heartOf_20 : decode cX12_heartOf 20 = .ok (.goto 4, 3) := by decide +kernel
theorem dX12_heartOf_23 : decode cX12_heartOf 23 = .ok (.iconst 0, 1) := by decide +kernel
theorem dX12_heartOf_24 : decode cX12_heartOf 24 = .ok (.iadd, 1) := by decide +kernel
theorem dX12_heartOf_25 : decode cX12_heartOf 25 = .ok (.aload_n 0, 1) := by decide +kernel
theorem dX12_heartOf_26 : decode cX12_heartOf 26 = .ok (.getfield 53, 3) := by decide +kernel
theorem dX12_heartOf_29 : decode cX12_heartOf 29 = .ok (.bipush 6, 2) := by decide +kernel
theorem dX12_heartOf_31 : decode cX12_heartOf 31 = .ok (.iload_n 1, 1) := by decide +kernel
theorem dX12_heartOf_32 : decode cX12_heartOf 32 = .ok (.imul, 1) := by decide +kernel
theorem dX12_heartOf_33 : decode cX12_heartOf 33 = .ok (.iload_n 2, 1) := by decide +kernel
theorem dX12_heartOf_34 : decode cX12_heartOf 34 = .ok (.iadd, 1) := by decide +kernel
theorem dX12_heartOf_35 : decode cX12_heartOf 35 = .ok (.iaload, 1) := by decide +kernel
theorem dX12_heartOf_36 : decode cX12_heartOf 36 = .ok (.iadd, 1) := by decide +kernel
theorem dX12_heartOf_37 : decode cX12_heartOf 37 = .ok (.ireturn, 1) := by decide +kernel
theorem dX12_swornFor_0 : decode cX12_swornFor 0 = .ok (.iconst 0, 1) := by decide +kernel
theorem dX12_swornFor_1 : decode cX12_swornFor 1 = .ok (.istore_n 2, 1) := by decide +kernel
theorem dX12_swornFor_2 : decode cX12_swornFor 2 = .ok (.iconst 0, 1) := by decide +kernel
theorem dX12_swornFor_3 : decode cX12_swornFor 3 = .ok (.istore_n 3, 1) := by decide +kernel
theorem dX12_swornFor_4 : decode cX12_swornFor 4 = .ok (.iload_n 3, 1) := by decide +kernel
theorem dX12_swornFor_5 : decode cX12_swornFor 5 = .ok (.aload_n 0, 1) := by decide +kernel
theorem dX12_swornFor_6 : decode cX12_swornFor 6 = .ok (.getfield 280, 3) := by decide +kernel
theorem dX12_swornFor_9 : decode cX12_swornFor 9 = .ok (.if_icmp .ge 45, 3) := by decide +kernel
theorem dX12_swornFor_12 : decode cX12_swornFor 12 = .ok (.iload_n 2, 1) := by decide +kernel
theorem dX12_swornFor_13 : decode cX12_swornFor 13 = .ok (.aload_n 0, 1) := by decide +kernel
theorem dX12_swornFor_14 : decode cX12_swornFor 14 = .ok (.getfield 59, 3) := by decide +kernel
theorem dX12_swornFor_17 : decode cX12_swornFor 17 = .ok (.iload_n 3, 1) := by decide +kernel
theorem dX12_swornFor_18 : decode cX12_swornFor 18 = .ok (.iaload, 1) := by decide +kernel
theorem dX12_swornFor_19 : decode cX12_swornFor 19 = .ok (.iload_n 1, 1) := by decide +kernel
theorem dX12_swornFor_20 : decode cX12_swornFor 20 = .ok (.if_icmp .ne 25, 3) := by decide +kernel
theorem dX12_swornFor_23 : decode cX12_swornFor 23 = .ok (.aload_n 0, 1) := by decide +kernel
theorem dX12_swornFor_24 : decode cX12_swornFor 24 = .ok (.getfield 261, 3) := by decide +kernel
theorem dX12_swornFor_27 : decode cX12_swornFor 27 = .ok (.iload_n 3, 1) := by decide +kernel
theorem dX12_swornFor_28 : decode cX12_swornFor 28 = .ok (.invokestatic 94, 3) := by decide +kernel
theorem dX12_swornFor_31 : decode cX12_swornFor 31 = .ok (.ifCond .ne 14, 3) := by decide +kernel
theorem dX12_swornFor_34 : decode cX12_swornFor 34 = .ok (.iconst 1, 1) := by decide +kernel
theorem dX12_swornFor_35 : decode cX12_swornFor 35 = .ok (.aload_n 0, 1) := by decide +kernel
theorem dX12_swornFor_36 : decode cX12_swornFor 36 = .ok (.getfield 62, 3) := by decide +kernel
theorem dX12_swornFor_39 : decode cX12_swornFor 39 = .ok (.iload_n 3, 1) := by decide +kernel
theorem dX12_swornFor_40 : decode cX12_swornFor 40 = .ok (.iaload, 1) := by decide +kernel
theorem dX12_swornFor_41 : decode cX12_swornFor 41 = .ok (.ishl, 1) := by decide +kernel
theorem dX12_swornFor_42 : decode cX12_swornFor 42 = .ok (.goto 4, 3) := by decide +kernel
theorem dX12_swornFor_45 : decode cX12_swornFor 45 = .ok (.iconst 0, 1) := by decide +kernel
theorem dX12_swornFor_46 : decode cX12_swornFor 46 = .ok (.ior, 1) := by decide +kernel
theorem dX12_swornFor_47 : decode cX12_swornFor 47 = .ok (.istore_n 2, 1) := by decide +kernel
theorem dX12_swornFor_48 : decode cX12_swornFor 48 = .ok (.iinc 3 1, 3) := by decide +kernel
theorem dX12_swornFor_51 : decode cX12_swornFor 51 = .ok (.goto (-47), 3) := by decide +kernel
theorem dX12_swornFor_54 : decode cX12_swornFor 54 = .ok (.iload_n 2, 1) := by decide +kernel
theorem dX12_swornFor_55 : decode cX12_swornFor 55 = .ok (.ireturn, 1) := by decide +kernel
theorem dX12_openTo_0 : decode cX12_openTo 0 = .ok (.iconst 0, 1) := by decide +kernel
theorem dX12_openTo_1 : decode cX12_openTo 1 = .ok (.istore_n 2, 1) := by decide +kernel
theorem dX12_openTo_2 : decode cX12_openTo 2 = .ok (.iconst 0, 1) := by decide +kernel
theorem dX12_openTo_3 : decode cX12_openTo 3 = .ok (.istore_n 3, 1) := by decide +kernel
theorem dX12_openTo_4 : decode cX12_openTo 4 = .ok (.iload_n 3, 1) := by decide +kernel
theorem dX12_openTo_5 : decode cX12_openTo 5 = .ok (.aload_n 0, 1) := by decide +kernel
theorem dX12_openTo_6 : decode cX12_openTo 6 = .ok (.getfield 280, 3) := by decide +kernel
theorem dX12_openTo_9 : decode cX12_openTo 9 = .ok (.if_icmp .ge 84, 3) := by decide +kernel
theorem dX12_openTo_12 : decode cX12_openTo 12 = .ok (.aload_n 0, 1) := by decide +kernel
theorem dX12_openTo_13 : decode cX12_openTo 13 = .ok (.getfield 59, 3) := by decide +kernel
theorem dX12_openTo_16 : decode cX12_openTo 16 = .ok (.iload_n 3, 1) := by decide +kernel
theorem dX12_openTo_17 : decode cX12_openTo 17 = .ok (.iaload, 1) := by decide +kernel
theorem dX12_openTo_18 : decode cX12_openTo 18 = .ok (.iload_n 1, 1) := by decide +kernel
theorem dX12_openTo_19 : decode cX12_openTo 19 = .ok (.if_icmp .ne 45, 3) := by decide +kernel
theorem dX12_openTo_22 : decode cX12_openTo 22 = .ok (.aload_n 0, 1) := by decide +kernel
theorem dX12_openTo_23 : decode cX12_openTo 23 = .ok (.getfield 261, 3) := by decide +kernel
theorem dX12_openTo_26 : decode cX12_openTo 26 = .ok (.iload_n 3, 1) := by decide +kernel
theorem dX12_openTo_27 : decode cX12_openTo 27 = .ok (.invokestatic 94, 3) := by decide +kernel
theorem dX12_openTo_30 : decode cX12_openTo 30 = .ok (.ifCond .ne 34, 3) := by decide +kernel
theorem dX12_openTo_33 : decode cX12_openTo 33 = .ok (.aload_n 0, 1) := by decide +kernel
theorem dX12_openTo_34 : decode cX12_openTo 34 = .ok (.aload_n 0, 1) := by decide +kernel
theorem dX12_openTo_35 : decode cX12_openTo 35 = .ok (.getfield 56, 3) := by decide +kernel
theorem dX12_openTo_38 : decode cX12_openTo 38 = .ok (.iload_n 3, 1) := by decide +kernel
theorem dX12_openTo_39 : decode cX12_openTo 39 = .ok (.iaload, 1) := by decide +kernel
theorem dX12_openTo_40 : decode cX12_openTo 40 = .ok (.iload_n 1, 1) := by decide +kernel
theorem dX12_openTo_41 : decode cX12_openTo 41 = .ok (.invokevirtual 292, 3) := by decide +kernel
theorem dX12_openTo_44 : decode cX12_openTo 44 = .ok (.aload_n 0, 1) := by decide +kernel
theorem dX12_openTo_45 : decode cX12_openTo 45 = .ok (.bipush 20, 2) := by decide +kernel
theorem dX12_openTo_47 : decode cX12_openTo 47 = .ok (.aload_n 0, 1) := by decide +kernel
theorem dX12_openTo_48 : decode cX12_openTo 48 = .ok (.getfield 62, 3) := by decide +kernel
theorem dX12_openTo_51 : decode cX12_openTo 51 = .ok (.iload_n 3, 1) := by decide +kernel
theorem dX12_openTo_52 : decode cX12_openTo 52 = .ok (.iaload, 1) := by decide +kernel
theorem dX12_openTo_53 : decode cX12_openTo 53 = .ok (.iadd, 1) := by decide +kernel
theorem dX12_openTo_54 : decode cX12_openTo 54 = .ok (.invokevirtual 276, 3) := by decide +kernel
theorem dX12_openTo_57 : decode cX12_openTo 57 = .ok (.if_icmp .lt 7, 3) := by decide +kernel
theorem dX12_openTo_60 : decode cX12_openTo 60 = .ok (.iconst 1, 1) := by decide +kernel
theorem dX12_openTo_61 : decode cX12_openTo 61 = .ok (.goto 4, 3) := by decide +kernel
theorem dX12_openTo_64 : decode cX12_openTo 64 = .ok (.iconst 0, 1) := by decide +kernel
theorem dX12_openTo_65 : decode cX12_openTo 65 = .ok (.istore 4, 2) := by decide +kernel
theorem dX12_openTo_67 : decode cX12_openTo 67 = .ok (.iload_n 2, 1) := by decide +kernel
theorem dX12_openTo_68 : decode cX12_openTo 68 = .ok (.iload 4, 2) := by decide +kernel
theorem dX12_openTo_70 : decode cX12_openTo 70 = .ok (.ifCond .eq 14, 3) := by decide +kernel
theorem dX12_openTo_73 : decode cX12_openTo 73 = .ok (.iconst 1, 1) := by decide +kernel
theorem dX12_openTo_74 : decode cX12_openTo 74 = .ok (.aload_n 0, 1) := by decide +kernel
theorem dX12_openTo_75 : decode cX12_openTo 75 = .ok (.getfield 62, 3) := by decide +kernel
theorem dX12_openTo_78 : decode cX12_openTo 78 = .ok (.iload_n 3, 1) := by decide +kernel
theorem dX12_openTo_79 : decode cX12_openTo 79 = .ok (.iaload, 1) := by decide +kernel
theorem dX12_openTo_80 : decode cX12_openTo 80 = .ok (.ishl, 1) := by decide +kernel
theorem dX12_openTo_81 : decode cX12_openTo 81 = .ok (.goto 4, 3) := by decide +kernel
theorem dX12_openTo_84 : decode cX12_openTo 84 = .ok (.iconst 0, 1) := by decide +kernel
theorem dX12_openTo_85 : decode cX12_openTo 85 = .ok (.ior, 1) := by decide +kernel
theorem dX12_openTo_86 : decode cX12_openTo 86 = .ok (.istore_n 2, 1) := by decide +kernel
theorem dX12_openTo_87 : decode cX12_openTo 87 = .ok (.iinc 3 1, 3) := by decide +kernel
theorem dX12_openTo_90 : decode cX12_openTo 90 = .ok (.goto (-86), 3) := by decide +kernel
theorem dX12_openTo_93 : decode cX12_openTo 93 = .ok (.iload_n 2, 1) := by decide +kernel
theorem dX12_openTo_94 : decode cX12_openTo 94 = .ok (.ireturn, 1) := by decide +kernel
theorem dX12_isPeace_0 : decode cX12_isPeace 0 = .ok (.iconst 1, 1) := by decide +kernel
theorem dX12_isPeace_1 : decode cX12_isPeace 1 = .ok (.istore_n 2, 1) := by decide +kernel
theorem dX12_isPeace_2 : decode cX12_isPeace 2 = .ok (.iconst 0, 1) := by decide +kernel
theorem dX12_isPeace_3 : decode cX12_isPeace 3 = .ok (.istore_n 3, 1) := by decide +kernel
theorem dX12_isPeace_4 : decode cX12_isPeace 4 = .ok (.iload_n 3, 1) := by decide +kernel
theorem dX12_isPeace_5 : decode cX12_isPeace 5 = .ok (.bipush 8, 2) := by decide +kernel
theorem dX12_isPeace_7 : decode cX12_isPeace 7 = .ok (.if_icmp .ge 40, 3) := by decide +kernel
theorem dX12_isPeace_10 : decode cX12_isPeace 10 = .ok (.iload_n 2, 1) := by decide +kernel
theorem dX12_isPeace_11 : decode cX12_isPeace 11 = .ok (.ifCond .eq 28, 3) := by decide +kernel
theorem dX12_isPeace_14 : decode cX12_isPeace 14 = .ok (.iload_n 1, 1) := by decide +kernel
theorem dX12_isPeace_15 : decode cX12_isPeace 15 = .ok (.iload_n 3, 1) := by decide +kernel
theorem dX12_isPeace_16 : decode cX12_isPeace 16 = .ok (.invokestatic 94, 3) := by decide +kernel
theorem dX12_isPeace_19 : decode cX12_isPeace 19 = .ok (.ifCond .eq 16, 3) := by decide +kernel
theorem dX12_isPeace_22 : decode cX12_isPeace 22 = .ok (.aload_n 0, 1) := by decide +kernel
theorem dX12_isPeace_23 : decode cX12_isPeace 23 = .ok (.bipush 28, 2) := by decide +kernel
theorem dX12_isPeace_25 : decode cX12_isPeace 25 = .ok (.iload_n 3, 1) := by decide +kernel
theorem dX12_isPeace_26 : decode cX12_isPeace 26 = .ok (.iadd, 1) := by decide +kernel
theorem dX12_isPeace_27 : decode cX12_isPeace 27 = .ok (.invokevirtual 276, 3) := by decide +kernel
theorem dX12_isPeace_30 : decode cX12_isPeace 30 = .ok (.iload_n 1, 1) := by decide +kernel
theorem dX12_isPeace_31 : decode cX12_isPeace 31 = .ok (.iand, 1) := by decide +kernel
theorem dX12_isPeace_32 : decode cX12_isPeace 32 = .ok (.ifCond .ne 7, 3) := by decide +kernel
theorem dX12_isPeace_35 : decode cX12_isPeace 35 = .ok (.iconst 1, 1) := by decide +kernel
theorem dX12_isPeace_36 : decode cX12_isPeace 36 = .ok (.goto 4, 3) := by decide +kernel
theorem dX12_isPeace_39 : decode cX12_isPeace 39 = .ok (.iconst 0, 1) := by decide +kernel
theorem dX12_isPeace_40 : decode cX12_isPeace 40 = .ok (.istore_n 2, 1) := by decide +kernel
theorem dX12_isPeace_41 : decode cX12_isPeace 41 = .ok (.iinc 3 1, 3) := by decide +kernel
theorem dX12_isPeace_44 : decode cX12_isPeace 44 = .ok (.goto (-40), 3) := by decide +kernel
theorem dX12_isPeace_47 : decode cX12_isPeace 47 = .ok (.iload_n 2, 1) := by decide +kernel
theorem dX12_isPeace_48 : decode cX12_isPeace 48 = .ok (.ireturn, 1) := by decide +kernel
theorem dX12_mostOf_0 : decode cX12_mostOf 0 = .ok (.iconst 0, 1) := by decide +kernel
theorem dX12_mostOf_1 : decode cX12_mostOf 1 = .ok (.istore_n 3, 1) := by decide +kernel
theorem dX12_mostOf_2 : decode cX12_mostOf 2 = .ok (.iload_n 1, 1) := by decide +kernel
theorem dX12_mostOf_3 : decode cX12_mostOf 3 = .ok (.istore 4, 2) := by decide +kernel
theorem dX12_mostOf_5 : decode cX12_mostOf 5 = .ok (.iload 4, 2) := by decide +kernel
theorem dX12_mostOf_7 : decode cX12_mostOf 7 = .ok (.ifCond .le 63, 3) := by decide +kernel
theorem dX12_mostOf_10 : decode cX12_mostOf 10 = .ok (.iload 4, 2) := by decide +kernel
theorem dX12_mostOf_12 : decode cX12_mostOf 12 = .ok (.invokestatic 295, 3) := by decide +kernel
theorem dX12_mostOf_15 : decode cX12_mostOf 15 = .ok (.iload_n 3, 1) := by decide +kernel
theorem dX12_mostOf_16 : decode cX12_mostOf 16 = .ok (.invokestatic 295, 3) := by decide +kernel
theorem dX12_mostOf_19 : decode cX12_mostOf 19 = .ok (.if_icmp .lt 16, 3) := by decide +kernel
theorem dX12_mostOf_22 : decode cX12_mostOf 22 = .ok (.iload 4, 2) := by decide +kernel
theorem dX12_mostOf_24 : decode cX12_mostOf 24 = .ok (.invokestatic 295, 3) := by decide +kernel
theorem dX12_mostOf_27 : decode cX12_mostOf 27 = .ok (.iload_n 2, 1) := by decide +kernel
theorem dX12_mostOf_28 : decode cX12_mostOf 28 = .ok (.if_icmp .gt 7, 3) := by decide +kernel
theorem dX12_mostOf_31 : decode cX12_mostOf 31 = .ok (.iconst 1, 1) := by decide +kernel
theorem dX12_mostOf_32 : decode cX12_mostOf 32 = .ok (.goto 4, 3) := by decide +kernel
theorem dX12_mostOf_35 : decode cX12_mostOf 35 = .ok (.iconst 0, 1) := by decide +kernel
theorem dX12_mostOf_36 : decode cX12_mostOf 36 = .ok (.istore 5, 2) := by decide +kernel
theorem dX12_mostOf_38 : decode cX12_mostOf 38 = .ok (.iload 5, 2) := by decide +kernel
theorem dX12_mostOf_40 : decode cX12_mostOf 40 = .ok (.ifCond .eq 17, 3) := by decide +kernel
theorem dX12_mostOf_43 : decode cX12_mostOf 43 = .ok (.aload_n 0, 1) := by decide +kernel
theorem dX12_mostOf_44 : decode cX12_mostOf 44 = .ok (.iload 4, 2) := by decide +kernel
theorem dX12_mostOf_46 : decode cX12_mostOf 46 = .ok (.invokevirtual 298, 3) := by decide +kernel
theorem dX12_mostOf_49 : decode cX12_mostOf 49 = .ok (.ifCond .eq 8, 3) := by decide +kernel
theorem dX12_mostOf_52 : decode cX12_mostOf 52 = .ok (.iload 4, 2) := by decide +kernel
theorem dX12_mostOf_54 : decode cX12_mostOf 54 = .ok (.goto 4, 3) := by decide +kernel
theorem dX12_mostOf_57 : decode cX12_mostOf 57 = .ok (.iload_n 3, 1) := by decide +kernel
theorem dX12_mostOf_58 : decode cX12_mostOf 58 = .ok (.istore_n 3, 1) := by decide +kernel
theorem dX12_mostOf_59 : decode cX12_mostOf 59 = .ok (.iload 4, 2) := by decide +kernel
theorem dX12_mostOf_61 : decode cX12_mostOf 61 = .ok (.iconst 1, 1) := by decide +kernel
theorem dX12_mostOf_62 : decode cX12_mostOf 62 = .ok (.isub, 1) := by decide +kernel
theorem dX12_mostOf_63 : decode cX12_mostOf 63 = .ok (.iload_n 1, 1) := by decide +kernel
theorem dX12_mostOf_64 : decode cX12_mostOf 64 = .ok (.iand, 1) := by decide +kernel
theorem dX12_mostOf_65 : decode cX12_mostOf 65 = .ok (.istore 4, 2) := by decide +kernel
theorem dX12_mostOf_67 : decode cX12_mostOf 67 = .ok (.goto (-62), 3) := by decide +kernel
theorem dX12_mostOf_70 : decode cX12_mostOf 70 = .ok (.iload_n 3, 1) := by decide +kernel
theorem dX12_mostOf_71 : decode cX12_mostOf 71 = .ok (.ireturn, 1) := by decide +kernel
theorem dX12_keptBy_0 : decode cX12_keptBy 0 = .ok (.aload_n 0, 1) := by decide +kernel
theorem dX12_keptBy_1 : decode cX12_keptBy 1 = .ok (.aload_n 0, 1) := by decide +kernel
theorem dX12_keptBy_2 : decode cX12_keptBy 2 = .ok (.iload_n 1, 1) := by decide +kernel
theorem dX12_keptBy_3 : decode cX12_keptBy 3 = .ok (.invokevirtual 301, 3) := by decide +kernel
theorem dX12_keptBy_6 : decode cX12_keptBy 6 = .ok (.aload_n 0, 1) := by decide +kernel
theorem dX12_keptBy_7 : decode cX12_keptBy 7 = .ok (.getfield 47, 3) := by decide +kernel
theorem dX12_keptBy_10 : decode cX12_keptBy 10 = .ok (.iload_n 1, 1) := by decide +kernel
theorem dX12_keptBy_11 : decode cX12_keptBy 11 = .ok (.iaload, 1) := by decide +kernel
theorem dX12_keptBy_12 : decode cX12_keptBy 12 = .ok (.invokevirtual 304, 3) := by decide +kernel
theorem dX12_keptBy_15 : decode cX12_keptBy 15 = .ok (.ireturn, 1) := by decide +kernel
theorem dX12_brokenOnes_0 : decode cX12_brokenOnes 0 = .ok (.iconst 0, 1) := by decide +kernel
theorem dX12_brokenOnes_1 : decode cX12_brokenOnes 1 = .ok (.istore_n 1, 1) := by decide +kernel
theorem dX12_brokenOnes_2 : decode cX12_brokenOnes 2 = .ok (.iconst 0, 1) := by decide +kernel
theorem dX12_brokenOnes_3 : decode cX12_brokenOnes 3 = .ok (.istore_n 2, 1) := by decide +kernel
theorem dX12_brokenOnes_4 : decode cX12_brokenOnes 4 = .ok (.iload_n 2, 1) := by decide +kernel
theorem dX12_brokenOnes_5 : decode cX12_brokenOnes 5 = .ok (.aload_n 0, 1) := by decide +kernel
theorem dX12_brokenOnes_6 : decode cX12_brokenOnes 6 = .ok (.getfield 283, 3) := by decide +kernel
theorem dX12_brokenOnes_9 : decode cX12_brokenOnes 9 = .ok (.if_icmp .ge 81, 3) := by decide +kernel
theorem dX12_brokenOnes_12 : decode cX12_brokenOnes 12 = .ok (.aload_n 0, 1) := by decide +kernel
theorem dX12_brokenOnes_13 : decode cX12_brokenOnes 13 = .ok (.iload_n 2, 1) := by decide +kernel
theorem dX12_brokenOnes_14 : decode cX12_brokenOnes 14 = .ok (.invokevirtual 307, 3) := by decide +kernel
theorem dX12_brokenOnes_17 : decode cX12_brokenOnes 17 = .ok (.istore_n 3, 1) := by decide +kernel
theorem dX12_brokenOnes_18 : decode cX12_brokenOnes 18 = .ok (.iconst 0, 1) := by decide +kernel
theorem dX12_brokenOnes_19 : decode cX12_brokenOnes 19 = .ok (.istore 4, 2) := by decide +kernel
theorem dX12_brokenOnes_21 : decode cX12_brokenOnes 21 = .ok (.iload 4, 2) := by decide +kernel
theorem dX12_brokenOnes_23 : decode cX12_brokenOnes 23 = .ok (.aload_n 0, 1) := by decide +kernel
theorem dX12_brokenOnes_24 : decode cX12_brokenOnes 24 = .ok (.getfield 280, 3) := by decide +kernel
theorem dX12_brokenOnes_27 : decode cX12_brokenOnes 27 = .ok (.if_icmp .ge 57, 3) := by decide +kernel
theorem dX12_brokenOnes_30 : decode cX12_brokenOnes 30 = .ok (.iload_n 1, 1) := by decide +kernel
theorem dX12_brokenOnes_31 : decode cX12_brokenOnes 31 = .ok (.aload_n 0, 1) := by decide +kernel
theorem dX12_brokenOnes_32 : decode cX12_brokenOnes 32 = .ok (.getfield 59, 3) := by decide +kernel
theorem dX12_brokenOnes_35 : decode cX12_brokenOnes 35 = .ok (.iload 4, 2) := by decide +kernel
theorem dX12_brokenOnes_37 : decode cX12_brokenOnes 37 = .ok (.iaload, 1) := by decide +kernel
theorem dX12_brokenOnes_38 : decode cX12_brokenOnes 38 = .ok (.iload_n 2, 1) := by decide +kernel
theorem dX12_brokenOnes_39 : decode cX12_brokenOnes 39 = .ok (.if_icmp .ne 36, 3) := by decide +kernel
theorem dX12_brokenOnes_42 : decode cX12_brokenOnes 42 = .ok (.aload_n 0, 1) := by decide +kernel
theorem dX12_brokenOnes_43 : decode cX12_brokenOnes 43 = .ok (.getfield 261, 3) := by decide +kernel
theorem dX12_brokenOnes_46 : decode cX12_brokenOnes 46 = .ok (.iload 4, 2) := by decide +kernel
theorem dX12_brokenOnes_48 : decode cX12_brokenOnes 48 = .ok (.invokestatic 94, 3) := by decide +kernel
theorem dX12_brokenOnes_51 : decode cX12_brokenOnes 51 = .ok (.ifCond .ne 24, 3) := by decide +kernel
theorem dX12_brokenOnes_54 : decode cX12_brokenOnes 54 = .ok (.iload_n 3, 1) := by decide +kernel
theorem dX12_brokenOnes_55 : decode cX12_brokenOnes 55 = .ok (.aload_n 0, 1) := by decide +kernel
theorem dX12_brokenOnes_56 : decode cX12_brokenOnes 56 = .ok (.getfield 62, 3) := by decide +kernel
theorem dX12_brokenOnes_59 : decode cX12_brokenOnes 59 = .ok (.iload 4, 2) := by decide +kernel
theorem dX12_brokenOnes_61 : decode cX12_brokenOnes 61 = .ok (.iaload, 1) := by decide +kernel
theorem dX12_brokenOnes_62 : decode cX12_brokenOnes 62 = .ok (.invokestatic 94, 3) := by decide +kernel
theorem dX12_brokenOnes_65 : decode cX12_brokenOnes 65 = .ok (.ifCond .ne 10, 3) := by decide +kernel
theorem dX12_brokenOnes_68 : decode cX12_brokenOnes 68 = .ok (.iconst 1, 1) := by decide +kernel
theorem dX12_brokenOnes_69 : decode cX12_brokenOnes 69 = .ok (.iload 4, 2) := by decide +kernel
theorem dX12_brokenOnes_71 : decode cX12_brokenOnes 71 = .ok (.ishl, 1) := by decide +kernel
theorem dX12_brokenOnes_72 : decode cX12_brokenOnes 72 = .ok (.goto 4, 3) := by decide +kernel
theorem dX12_brokenOnes_75 : decode cX12_brokenOnes 75 = .ok (.iconst 0, 1) := by decide +kernel
theorem dX12_brokenOnes_76 : decode cX12_brokenOnes 76 = .ok (.ior, 1) := by decide +kernel
theorem dX12_brokenOnes_77 : decode cX12_brokenOnes 77 = .ok (.istore_n 1, 1) := by decide +kernel
theorem dX12_brokenOnes_78 : decode cX12_brokenOnes 78 = .ok (.iinc 4 1, 3) := by decide +kernel
theorem dX12_brokenOnes_81 : decode cX12_brokenOnes 81 = .ok (.goto (-60), 3) := by decide +kernel
theorem dX12_brokenOnes_84 : decode cX12_brokenOnes 84 = .ok (.iinc 2 1, 3) := by decide +kernel
theorem dX12_brokenOnes_87 : decode cX12_brokenOnes 87 = .ok (.goto (-83), 3) := by decide +kernel
theorem dX12_brokenOnes_90 : decode cX12_brokenOnes 90 = .ok (.iload_n 1, 1) := by decide +kernel
theorem dX12_brokenOnes_91 : decode cX12_brokenOnes 91 = .ok (.ireturn, 1) := by decide +kernel
theorem dX12_ofOath_0 : decode cX12_ofOath 0 = .ok (.iload_n 1, 1) := by decide +kernel
theorem dX12_ofOath_1 : decode cX12_ofOath 1 = .ok (.iconst 0, 1) := by decide +kernel
theorem dX12_ofOath_2 : decode cX12_ofOath 2 = .ok (.aload_n 0, 1) := by decide +kernel
theorem dX12_ofOath_3 : decode cX12_ofOath 3 = .ok (.iconst 1, 1) := by decide +kernel
theorem dX12_ofOath_4 : decode cX12_ofOath 4 = .ok (.invokevirtual 276, 3) := by decide +kernel
theorem dX12_ofOath_7 : decode cX12_ofOath 7 = .ok (.iconst 1, 1) := by decide +kernel
theorem dX12_ofOath_8 : decode cX12_ofOath 8 = .ok (.isub, 1) := by decide +kernel
theorem dX12_ofOath_9 : decode cX12_ofOath 9 = .ok (.invokestatic 102, 3) := by decide +kernel
theorem dX12_ofOath_12 : decode cX12_ofOath 12 = .ok (.ifCond .ne 5, 3) := by decide +kernel
theorem dX12_ofOath_15 : decode cX12_ofOath 15 = .ok (.iconst (-1), 1) := by decide +kernel
theorem dX12_ofOath_16 : decode cX12_ofOath 16 = .ok (.ireturn, 1) := by decide +kernel
theorem dX12_ofOath_17 : decode cX12_ofOath 17 = .ok (.iload_n 2, 1) := by decide +kernel
theorem dX12_ofOath_18 : decode cX12_ofOath 18 = .ok (.iconst 1, 1) := by decide +kernel
theorem dX12_ofOath_19 : decode cX12_ofOath 19 = .ok (.if_icmp .ne 12, 3) := by decide +kernel
theorem dX12_ofOath_22 : decode cX12_ofOath 22 = .ok (.aload_n 0, 1) := by decide +kernel
theorem dX12_ofOath_23 : decode cX12_ofOath 23 = .ok (.getfield 56, 3) := by decide +kernel
theorem dX12_ofOath_26 : decode cX12_ofOath 26 = .ok (.iload_n 1, 1) := by decide +kernel
theorem dX12_ofOath_27 : decode cX12_ofOath 27 = .ok (.iaload, 1) := by decide +kernel
theorem dX12_ofOath_28 : decode cX12_ofOath 28 = .ok (.goto 23, 3) := by decide +kernel
theorem dX12_ofOath_31 : decode cX12_ofOath 31 = .ok (.iload_n 2, 1) := by decide +kernel
theorem dX12_ofOath_32 : decode cX12_ofOath 32 = .ok (.iconst 2, 1) := by decide +kernel
theorem dX12_ofOath_33 : decode cX12_ofOath 33 = .ok (.if_icmp .ne 12, 3) := by decide +kernel
theorem dX12_ofOath_36 : decode cX12_ofOath 36 = .ok (.aload_n 0, 1) := by decide +kernel
theorem dX12_ofOath_37 : decode cX12_ofOath 37 = .ok (.getfield 59, 3) := by decide +kernel
theorem dX12_ofOath_40 : decode cX12_ofOath 40 = .ok (.iload_n 1, 1) := by decide +kernel
theorem dX12_ofOath_41 : decode cX12_ofOath 41 = .ok (.iaload, 1) := by decide +kernel
theorem dX12_ofOath_42 : decode cX12_ofOath 42 = .ok (.goto 9, 3) := by decide +kernel
theorem dX12_ofOath_45 : decode cX12_ofOath 45 = .ok (.aload_n 0, 1) := by decide +kernel
theorem dX12_ofOath_46 : decode cX12_ofOath 46 = .ok (.getfield 62, 3) := by decide +kernel
theorem dX12_ofOath_49 : decode cX12_ofOath 49 = .ok (.iload_n 1, 1) := by decide +kernel
theorem dX12_ofOath_50 : decode cX12_ofOath 50 = .ok (.iaload, 1) := by decide +kernel
theorem dX12_ofOath_51 : decode cX12_ofOath 51 = .ok (.ireturn, 1) := by decide +kernel
theorem dX12_county_0 : decode cX12_county 0 = .ok (.aload_n 0, 1) := by decide +kernel
theorem dX12_county_1 : decode cX12_county 1 = .ok (.iconst 0, 1) := by decide +kernel
theorem dX12_county_2 : decode cX12_county 2 = .ok (.putfield 90, 3) := by decide +kernel
theorem dX12_county_5 : decode cX12_county 5 = .ok (.aload_n 0, 1) := by decide +kernel
theorem dX12_county_6 : decode cX12_county 6 = .ok (.iload_n 1, 1) := by decide +kernel
theorem dX12_county_7 : decode cX12_county 7 = .ok (.invokevirtual 310, 3) := by decide +kernel
theorem dX12_county_10 : decode cX12_county 10 = .ok (.ifCond .ne 5, 3) := by decide +kernel
theorem dX12_county_13 : decode cX12_county 13 = .ok (.iconst (-1), 1) := by decide +kernel
theorem dX12_county_14 : decode cX12_county 14 = .ok (.ireturn, 1) := by decide +kernel
theorem dX12_county_15 : decode cX12_county 15 = .ok (.iload_n 2, 1) := by decide +kernel
theorem dX12_county_16 : decode cX12_county 16 = .ok (.bipush 100, 2) := by decide +kernel
theorem dX12_county_18 : decode cX12_county 18 = .ok (.if_icmp .lt 27, 3) := by decide +kernel
theorem dX12_county_21 : decode cX12_county 21 = .ok (.iload_n 2, 1) := by decide +kernel
theorem dX12_county_22 : decode cX12_county 22 = .ok (.sipush 400, 3) := by decide +kernel
theorem dX12_county_25 : decode cX12_county 25 = .ok (.if_icmp .ge 18, 3) := by decide +kernel
theorem dX12_county_28 : decode cX12_county 28 = .ok (.aload_n 0, 1) := by decide +kernel
theorem dX12_county_29 : decode cX12_county 29 = .ok (.iload_n 2, 1) := by decide +kernel
theorem dX12_county_30 : decode cX12_county 30 = .ok (.bipush 100, 2) := by decide +kernel
theorem dX12_county_32 : decode cX12_county 32 = .ok (.irem, 1) := by decide +kernel
theorem dX12_county_33 : decode cX12_county 33 = .ok (.iload_n 2, 1) := by decide +kernel
theorem dX12_county_34 : decode cX12_county 34 = .ok (.bipush 100, 2) := by decide +kernel
theorem dX12_county_36 : decode cX12_county 36 = .ok (.idiv, 1) := by decide +kernel
theorem dX12_county_37 : decode cX12_county 37 = .ok (.invokevirtual 313, 3) := by decide +kernel
theorem dX12_county_40 : decode cX12_county 40 = .ok (.goto 4, 3) := by decide +kernel
theorem dX12_county_43 : decode cX12_county 43 = .ok (.iconst (-1), 1) := by decide +kernel
theorem dX12_county_44 : decode cX12_county 44 = .ok (.ireturn, 1) := by decide +kernel
theorem dX12_county_45 : decode cX12_county 45 = .ok (.iload_n 2, 1) := by decide +kernel
theorem dX12_county_46 : decode cX12_county 46 = .ok (.bipush 10, 2) := by decide +kernel
theorem dX12_county_48 : decode cX12_county 48 = .ok (.irem, 1) := by decide +kernel
theorem dX12_county_49 : decode cX12_county 49 = .ok (.istore_n 3, 1) := by decide +kernel
theorem dX12_county_50 : decode cX12_county 50 = .ok (.iload_n 2, 1) := by decide +kernel
theorem dX12_county_51 : decode cX12_county 51 = .ok (.bipush 10, 2) := by decide +kernel
theorem dX12_county_53 : decode cX12_county 53 = .ok (.idiv, 1) := by decide +kernel
theorem dX12_county_54 : decode cX12_county 54 = .ok (.tableswitch 144 0 5 #[38, 57, 76, 95, 114, 114], 38) := by decide +kernel
theorem dX12_county_92 : decode cX12_county 92 = .ok (.iload_n 2, 1) := by decide +kernel
theorem dX12_county_93 : decode cX12_county 93 = .ok (.iconst 0, 1) := by decide +kernel
theorem dX12_county_94 : decode cX12_county 94 = .ok (.iconst 1, 1) := by decide +kernel
theorem dX12_county_95 : decode cX12_county 95 = .ok (.invokestatic 102, 3) := by decide +kernel
theorem dX12_county_98 : decode cX12_county 98 = .ok (.ifCond .eq 11, 3) := by decide +kernel
theorem dX12_county_101 : decode cX12_county 101 = .ok (.aload_n 0, 1) := by decide +kernel
theorem dX12_county_102 : decode cX12_county 102 = .ok (.iload_n 2, 1) := by decide +kernel
theorem dX12_county_103 : decode cX12_county 103 = .ok (.invokevirtual 276, 3) := by decide +kernel
theorem dX12_county_106 : decode cX12_county 106 = .ok (.goto 4, 3) := by decide +kernel
theorem dX12_county_109 : decode cX12_county 109 = .ok (.iconst (-1), 1) := by decide +kernel
theorem dX12_county_110 : decode cX12_county 110 = .ok (.ireturn, 1) := by decide +kernel
theorem dX12_county_111 : decode cX12_county 111 = .ok (.aload_n 0, 1) := by decide +kernel
theorem dX12_county_112 : decode cX12_county 112 = .ok (.iload_n 3, 1) := by decide +kernel
theorem dX12_county_113 : decode cX12_county 113 = .ok (.invokevirtual 289, 3) := by decide +kernel
theorem dX12_county_116 : decode cX12_county 116 = .ok (.ifCond .eq 12, 3) := by decide +kernel
theorem dX12_county_119 : decode cX12_county 119 = .ok (.aload_n 0, 1) := by decide +kernel
theorem dX12_county_120 : decode cX12_county 120 = .ok (.getfield 44, 3) := by decide +kernel
theorem dX12_county_123 : decode cX12_county 123 = .ok (.iload_n 3, 1) := by decide +kernel
theorem dX12_county_124 : decode cX12_county 124 = .ok (.iaload, 1) := by decide +kernel
theorem dX12_county_125 : decode cX12_county 125 = .ok (.goto 4, 3) := by decide +kernel
theorem dX12_county_128 : decode cX12_county 128 = .ok (.iconst (-1), 1) := by decide +kernel
theorem dX12_county_129 : decode cX12_county 129 = .ok (.ireturn, 1) := by decide +kernel
theorem dX12_county_130 : decode cX12_county 130 = .ok (.aload_n 0, 1) := by decide +kernel
theorem dX12_county_131 : decode cX12_county 131 = .ok (.iload_n 3, 1) := by decide +kernel
theorem dX12_county_132 : decode cX12_county 132 = .ok (.invokevirtual 289, 3) := by decide +kernel
theorem dX12_county_135 : decode cX12_county 135 = .ok (.ifCond .eq 12, 3) := by decide +kernel
theorem dX12_county_138 : decode cX12_county 138 = .ok (.aload_n 0, 1) := by decide +kernel
theorem dX12_county_139 : decode cX12_county 139 = .ok (.getfield 47, 3) := by decide +kernel
theorem dX12_county_142 : decode cX12_county 142 = .ok (.iload_n 3, 1) := by decide +kernel
theorem dX12_county_143 : decode cX12_county 143 = .ok (.iaload, 1) := by decide +kernel
theorem dX12_county_144 : decode cX12_county 144 = .ok (.goto 4, 3) := by decide +kernel
theorem dX12_county_147 : decode cX12_county 147 = .ok (.iconst (-1), 1) := by decide +kernel
theorem dX12_county_148 : decode cX12_county 148 = .ok (.ireturn, 1) := by decide +kernel
theorem dX12_county_149 : decode cX12_county 149 = .ok (.aload_n 0, 1) := by decide +kernel
theorem dX12_county_150 : decode cX12_county 150 = .ok (.iload_n 3, 1) := by decide +kernel
theorem dX12_county_151 : decode cX12_county 151 = .ok (.invokevirtual 289, 3) := by decide +kernel
theorem dX12_county_154 : decode cX12_county 154 = .ok (.ifCond .eq 12, 3) := by decide +kernel
theorem dX12_county_157 : decode cX12_county 157 = .ok (.aload_n 0, 1) := by decide +kernel
theorem dX12_county_158 : decode cX12_county 158 = .ok (.getfield 50, 3) := by decide +kernel
theorem dX12_county_161 : decode cX12_county 161 = .ok (.iload_n 3, 1) := by decide +kernel
theorem dX12_county_162 : decode cX12_county 162 = .ok (.iaload, 1) := by decide +kernel
theorem dX12_county_163 : decode cX12_county 163 = .ok (.goto 4, 3) := by decide +kernel
theorem dX12_county_166 : decode cX12_county 166 = .ok (.iconst (-1), 1) := by decide +kernel
theorem dX12_county_167 : decode cX12_county 167 = .ok (.ireturn, 1) := by decide +kernel
theorem dX12_county_168 : decode cX12_county 168 = .ok (.iload_n 3, 1) := by decide +kernel
theorem dX12_county_169 : decode cX12_county 169 = .ok (.bipush 8, 2) := by decide +kernel
theorem dX12_county_171 : decode cX12_county 171 = .ok (.if_icmp .ge 25, 3) := by decide +kernel
theorem dX12_county_174 : decode cX12_county 174 = .ok (.aload_n 0, 1) := by decide +kernel
theorem dX12_county_175 : decode cX12_county 175 = .ok (.iload_n 2, 1) := by decide +kernel
theorem dX12_county_176 : decode cX12_county 176 = .ok (.bipush 50, 2) := by decide +kernel
theorem dX12_county_178 : decode cX12_county 178 = .ok (.if_icmp .ge 8, 3) := by decide +kernel
theorem dX12_county_181 : decode cX12_county 181 = .ok (.bipush 20, 2) := by decide +kernel
theorem dX12_county_183 : decode cX12_county 183 = .ok (.goto 5, 3) := by decide +kernel
theorem dX12_county_186 : decode cX12_county 186 = .ok (.bipush 28, 2) := by decide +kernel
theorem dX12_county_188 : decode cX12_county 188 = .ok (.iload_n 3, 1) := by decide +kernel
theorem dX12_county_189 : decode cX12_county 189 = .ok (.iadd, 1) := by decide +kernel
theorem dX12_county_190 : decode cX12_county 190 = .ok (.invokevirtual 276, 3) := by decide +kernel
theorem dX12_county_193 : decode cX12_county 193 = .ok (.goto 4, 3) := by decide +kernel
theorem dX12_county_196 : decode cX12_county 196 = .ok (.iconst (-1), 1) := by decide +kernel
theorem dX12_county_197 : decode cX12_county 197 = .ok (.ireturn, 1) := by decide +kernel
theorem dX12_county_198 : decode cX12_county 198 = .ok (.iconst (-1), 1) := by decide +kernel
theorem dX12_county_199 : decode cX12_county 199 = .ok (.ireturn, 1) := by decide +kernel
theorem dX12_deeds_0 : decode cX12_deeds 0 = .ok (.aload_n 0, 1) := by decide +kernel
theorem dX12_deeds_1 : decode cX12_deeds 1 = .ok (.getfield 29, 3) := by decide +kernel
theorem dX12_deeds_4 : decode cX12_deeds 4 = .ok (.sipush 161, 3) := by decide +kernel
theorem dX12_deeds_7 : decode cX12_deeds 7 = .ok (.aload_n 0, 1) := by decide +kernel
theorem dX12_deeds_8 : decode cX12_deeds 8 = .ok (.getfield 316, 3) := by decide +kernel
theorem dX12_deeds_11 : decode cX12_deeds 11 = .ok (.imul, 1) := by decide +kernel
theorem dX12_deeds_12 : decode cX12_deeds 12 = .ok (.iaload, 1) := by decide +kernel
theorem dX12_deeds_13 : decode cX12_deeds 13 = .ok (.ireturn, 1) := by decide +kernel
theorem dX12_deedOf_0 : decode cX12_deedOf 0 = .ok (.aload_n 0, 1) := by decide +kernel
theorem dX12_deedOf_1 : decode cX12_deedOf 1 = .ok (.getfield 29, 3) := by decide +kernel
theorem dX12_deedOf_4 : decode cX12_deedOf 4 = .ok (.sipush 161, 3) := by decide +kernel
theorem dX12_deedOf_7 : decode cX12_deedOf 7 = .ok (.aload_n 0, 1) := by decide +kernel
theorem dX12_deedOf_8 : decode cX12_deedOf 8 = .ok (.getfield 316, 3) := by decide +kernel
theorem dX12_deedOf_11 : decode cX12_deedOf 11 = .ok (.imul, 1) := by decide +kernel
theorem dX12_deedOf_12 : decode cX12_deedOf 12 = .ok (.iconst 1, 1) := by decide +kernel
theorem dX12_deedOf_13 : decode cX12_deedOf 13 = .ok (.iadd, 1) := by decide +kernel
theorem dX12_deedOf_14 : decode cX12_deedOf 14 = .ok (.iconst 4, 1) := by decide +kernel
theorem dX12_deedOf_15 : decode cX12_deedOf 15 = .ok (.iload_n 1, 1) := by decide +kernel
theorem dX12_deedOf_16 : decode cX12_deedOf 16 = .ok (.imul, 1) := by decide +kernel
theorem dX12_deedOf_17 : decode cX12_deedOf 17 = .ok (.iadd, 1) := by decide +kernel
theorem dX12_deedOf_18 : decode cX12_deedOf 18 = .ok (.iload_n 2, 1) := by decide +kernel
theorem dX12_deedOf_19 : decode cX12_deedOf 19 = .ok (.iadd, 1) := by decide +kernel
theorem dX12_deedOf_20 : decode cX12_deedOf 20 = .ok (.iaload, 1) := by decide +kernel
theorem dX12_deedOf_21 : decode cX12_deedOf 21 = .ok (.ireturn, 1) := by decide +kernel
theorem dX12_hasTerm_0 : decode cX12_hasTerm 0 = .ok (.aload_n 0, 1) := by decide +kernel
theorem dX12_hasTerm_1 : decode cX12_hasTerm 1 = .ok (.iload_n 1, 1) := by decide +kernel
theorem dX12_hasTerm_2 : decode cX12_hasTerm 2 = .ok (.putfield 316, 3) := by decide +kernel
theorem dX12_hasTerm_5 : decode cX12_hasTerm 5 = .ok (.aload_n 0, 1) := by decide +kernel
theorem dX12_hasTerm_6 : decode cX12_hasTerm 6 = .ok (.iconst 1, 1) := by decide +kernel
theorem dX12_hasTerm_7 : decode cX12_hasTerm 7 = .ok (.iload_n 1, 1) := by decide +kernel
theorem dX12_hasTerm_8 : decode cX12_hasTerm 8 = .ok (.invokevirtual 249, 3) := by decide +kernel
theorem dX12_hasTerm_11 : decode cX12_hasTerm 11 = .ok (.ireturn, 1) := by decide +kernel
theorem dX12_deed_0 : decode cX12_deed 0 = .ok (.aload_n 0, 1) := by decide +kernel
theorem dX12_deed_1 : decode cX12_deed 1 = .ok (.iconst 0, 1) := by decide +kernel
theorem dX12_deed_2 : decode cX12_deed 2 = .ok (.putfield 90, 3) := by decide +kernel
theorem dX12_deed_5 : decode cX12_deed 5 = .ok (.aload_n 0, 1) := by decide +kernel
theorem dX12_deed_6 : decode cX12_deed 6 = .ok (.iload_n 1, 1) := by decide +kernel
theorem dX12_deed_7 : decode cX12_deed 7 = .ok (.invokevirtual 319, 3) := by decide +kernel
theorem dX12_deed_10 : decode cX12_deed 10 = .ok (.ifCond .ne 6, 3) := by decide +kernel
theorem dX12_deed_13 : decode cX12_deed 13 = .ok (.bipush (-2), 2) := by decide +kernel
theorem dX12_deed_15 : decode cX12_deed 15 = .ok (.ireturn, 1) := by decide +kernel
theorem dX12_deed_16 : decode cX12_deed 16 = .ok (.iload_n 2, 1) := by decide +kernel
theorem dX12_deed_17 : decode cX12_deed 17 = .ok (.iconst (-1), 1) := by decide +kernel
theorem dX12_deed_18 : decode cX12_deed 18 = .ok (.if_icmp .ne 17, 3) := by decide +kernel
theorem dX12_deed_21 : decode cX12_deed 21 = .ok (.iload_n 3, 1) := by decide +kernel
theorem dX12_deed_22 : decode cX12_deed 22 = .ok (.ifCond .ne 10, 3) := by decide +kernel
theorem dX12_deed_25 : decode cX12_deed 25 = .ok (.aload_n 0, 1) := by decide +kernel
theorem dX12_deed_26 : decode cX12_deed 26 = .ok (.invokevirtual 322, 3) := by decide +kernel
theorem dX12_deed_29 : decode cX12_deed 29 = .ok (.goto 5, 3) := by decide +kernel
theorem dX12_deed_32 : decode cX12_deed 32 = .ok (.bipush (-2), 2) := by decide +kernel
theorem dX12_deed_34 : decode cX12_deed 34 = .ok (.ireturn, 1) := by decide +kernel
theorem dX12_deed_35 : decode cX12_deed 35 = .ok (.iload_n 2, 1) := by decide +kernel
theorem dX12_deed_36 : decode cX12_deed 36 = .ok (.iconst 0, 1) := by decide +kernel
theorem dX12_deed_37 : decode cX12_deed 37 = .ok (.aload_n 0, 1) := by decide +kernel
theorem dX12_deed_38 : decode cX12_deed 38 = .ok (.invokevirtual 322, 3) := by decide +kernel
theorem dX12_deed_41 : decode cX12_deed 41 = .ok (.iconst 1, 1) := by decide +kernel
theorem dX12_deed_42 : decode cX12_deed 42 = .ok (.isub, 1) := by decide +kernel
theorem dX12_deed_43 : decode cX12_deed 43 = .ok (.invokestatic 102, 3) := by decide +kernel
theorem dX12_deed_46 : decode cX12_deed 46 = .ok (.ifCond .eq 21, 3) := by decide +kernel
theorem dX12_deed_49 : decode cX12_deed 49 = .ok (.iload_n 3, 1) := by decide +kernel
theorem dX12_deed_50 : decode cX12_deed 50 = .ok (.iconst 0, 1) := by decide +kernel
theorem dX12_deed_51 : decode cX12_deed 51 = .ok (.iconst 3, 1) := by decide +kernel
theorem dX12_deed_52 : decode cX12_deed 52 = .ok (.invokestatic 102, 3) := by decide +kernel
theorem dX12_deed_55 : decode cX12_deed 55 = .ok (.ifCond .eq 12, 3) := by decide +kernel
theorem dX12_deed_58 : decode cX12_deed 58 = .ok (.aload_n 0, 1) := by decide +kernel
theorem dX12_deed_59 : decode cX12_deed 59 = .ok (.iload_n 2, 1) := by decide +kernel
theorem dX12_deed_60 : decode cX12_deed 60 = .ok (.iload_n 3, 1) := by decide +kernel
theorem dX12_deed_61 : decode cX12_deed 61 = .ok (.invokevirtual 325, 3) := by decide +kernel
theorem dX12_deed_64 : decode cX12_deed 64 = .ok (.goto 5, 3) := by decide +kernel
theorem dX12_deed_67 : decode cX12_deed 67 = .ok (.bipush (-2), 2) := by decide +kernel
theorem dX12_deed_69 : decode cX12_deed 69 = .ok (.ireturn, 1) := by decide +kernel
theorem dX12_isThere_0 : decode cX12_isThere 0 = .ok (.iconst 0, 1) := by decide +kernel
theorem dX12_isThere_1 : decode cX12_isThere 1 = .ok (.istore 4, 2) := by decide +kernel
theorem dX12_isThere_3 : decode cX12_isThere 3 = .ok (.iload 4, 2) := by decide +kernel
theorem dX12_isThere_5 : decode cX12_isThere 5 = .ok (.aload_n 0, 1) := by decide +kernel
theorem dX12_isThere_6 : decode cX12_isThere 6 = .ok (.getfield 280, 3) := by decide +kernel
theorem dX12_isThere_9 : decode cX12_isThere 9 = .ok (.if_icmp .ge 44, 3) := by decide +kernel
theorem dX12_isThere_12 : decode cX12_isThere 12 = .ok (.aload_n 0, 1) := by decide +kernel
theorem dX12_isThere_13 : decode cX12_isThere 13 = .ok (.getfield 56, 3) := by decide +kernel
theorem dX12_isThere_16 : decode cX12_isThere 16 = .ok (.iload 4, 2) := by decide +kernel
theorem dX12_isThere_18 : decode cX12_isThere 18 = .ok (.iaload, 1) := by decide +kernel
theorem dX12_isThere_19 : decode cX12_isThere 19 = .ok (.iload_n 1, 1) := by decide +kernel
theorem dX12_isThere_20 : decode cX12_isThere 20 = .ok (.if_icmp .ne 27, 3) := by decide +kernel
theorem dX12_isThere_23 : decode cX12_isThere 23 = .ok (.aload_n 0, 1) := by decide +kernel
theorem dX12_isThere_24 : decode cX12_isThere 24 = .ok (.getfield 59, 3) := by decide +kernel
theorem dX12_isThere_27 : decode cX12_isThere 27 = .ok (.iload 4, 2) := by decide +kernel
theorem dX12_isThere_29 : decode cX12_isThere 29 = .ok (.iaload, 1) := by decide +kernel
theorem dX12_isThere_30 : decode cX12_isThere 30 = .ok (.iload_n 2, 1) := by decide +kernel
theorem dX12_isThere_31 : decode cX12_isThere 31 = .ok (.if_icmp .ne 16, 3) := by decide +kernel
theorem dX12_isThere_34 : decode cX12_isThere 34 = .ok (.aload_n 0, 1) := by decide +kernel
theorem dX12_isThere_35 : decode cX12_isThere 35 = .ok (.getfield 62, 3) := by decide +kernel
theorem dX12_isThere_38 : decode cX12_isThere 38 = .ok (.iload 4, 2) := by decide +kernel
theorem dX12_isThere_40 : decode cX12_isThere 40 = .ok (.iaload, 1) := by decide +kernel
theorem dX12_isThere_41 : decode cX12_isThere 41 = .ok (.iload_n 3, 1) := by decide +kernel
theorem dX12_isThere_42 : decode cX12_isThere 42 = .ok (.if_icmp .ne 5, 3) := by decide +kernel
theorem dX12_isThere_45 : decode cX12_isThere 45 = .ok (.iconst 1, 1) := by decide +kernel
theorem dX12_isThere_46 : decode cX12_isThere 46 = .ok (.ireturn, 1) := by decide +kernel
theorem dX12_isThere_47 : decode cX12_isThere 47 = .ok (.iinc 4 1, 3) := by decide +kernel
theorem dX12_isThere_50 : decode cX12_isThere 50 = .ok (.goto (-47), 3) := by decide +kernel
theorem dX12_isThere_53 : decode cX12_isThere 53 = .ok (.iconst 0, 1) := by decide +kernel
theorem dX12_isThere_54 : decode cX12_isThere 54 = .ok (.ireturn, 1) := by decide +kernel
theorem dX12_addOath_0 : decode cX12_addOath 0 = .ok (.aload_n 0, 1) := by decide +kernel
theorem dX12_addOath_1 : decode cX12_addOath 1 = .ok (.getfield 56, 3) := by decide +kernel
theorem dX12_addOath_4 : decode cX12_addOath 4 = .ok (.aload_n 0, 1) := by decide +kernel
theorem dX12_addOath_5 : decode cX12_addOath 5 = .ok (.getfield 280, 3) := by decide +kernel
theorem dX12_addOath_8 : decode cX12_addOath 8 = .ok (.iload_n 1, 1) := by decide +kernel
theorem dX12_addOath_9 : decode cX12_addOath 9 = .ok (.iastore, 1) := by decide +kernel
theorem dX12_addOath_10 : decode cX12_addOath 10 = .ok (.aload_n 0, 1) := by decide +kernel
theorem dX12_addOath_11 : decode cX12_addOath 11 = .ok (.getfield 59, 3) := by decide +kernel
theorem dX12_addOath_14 : decode cX12_addOath 14 = .ok (.aload_n 0, 1) := by decide +kernel
theorem dX12_addOath_15 : decode cX12_addOath 15 = .ok (.getfield 280, 3) := by decide +kernel
theorem dX12_addOath_18 : decode cX12_addOath 18 = .ok (.iload_n 2, 1) := by decide +kernel
theorem dX12_addOath_19 : decode cX12_addOath 19 = .ok (.iastore, 1) := by decide +kernel
theorem dX12_addOath_20 : decode cX12_addOath 20 = .ok (.aload_n 0, 1) := by decide +kernel
theorem dX12_addOath_21 : decode cX12_addOath 21 = .ok (.getfield 62, 3) := by decide +kernel
theorem dX12_addOath_24 : decode cX12_addOath 24 = .ok (.aload_n 0, 1) := by decide +kernel
theorem dX12_addOath_25 : decode cX12_addOath 25 = .ok (.getfield 280, 3) := by decide +kernel
theorem dX12_addOath_28 : decode cX12_addOath 28 = .ok (.iload_n 3, 1) := by decide +kernel
theorem dX12_addOath_29 : decode cX12_addOath 29 = .ok (.iastore, 1) := by decide +kernel
theorem dX12_addOath_30 : decode cX12_addOath 30 = .ok (.aload_n 0, 1) := by decide +kernel
theorem dX12_addOath_31 : decode cX12_addOath 31 = .ok (.dup, 1) := by decide +kernel
theorem dX12_addOath_32 : decode cX12_addOath 32 = .ok (.getfield 280, 3) := by decide +kernel
theorem dX12_addOath_35 : decode cX12_addOath 35 = .ok (.iconst 1, 1) := by decide +kernel
theorem dX12_addOath_36 : decode cX12_addOath 36 = .ok (.iadd, 1) := by decide +kernel
theorem dX12_addOath_37 : decode cX12_addOath 37 = .ok (.putfield 280, 3) := by decide +kernel
theorem dX12_addOath_40 : decode cX12_addOath 40 = .ok (.return_, 1) := by decide +kernel
theorem dX12_swears_0 : decode cX12_swears 0 = .ok (.aload_n 0, 1) := by decide +kernel
theorem dX12_swears_1 : decode cX12_swears 1 = .ok (.getfield 264, 3) := by decide +kernel
theorem dX12_swears_4 : decode cX12_swears 4 = .ok (.iload_n 1, 1) := by decide +kernel
theorem dX12_swears_5 : decode cX12_swears 5 = .ok (.invokestatic 94, 3) := by decide +kernel
theorem dX12_swears_8 : decode cX12_swears 8 = .ok (.ifCond .ne 22, 3) := by decide +kernel
theorem dX12_swears_11 : decode cX12_swears 11 = .ok (.aload_n 0, 1) := by decide +kernel
theorem dX12_swears_12 : decode cX12_swears 12 = .ok (.getfield 280, 3) := by decide +kernel
theorem dX12_swears_15 : decode cX12_swears 15 = .ok (.bipush 12, 2) := by decide +kernel
theorem dX12_swears_17 : decode cX12_swears 17 = .ok (.if_icmp .eq 13, 3) := by decide +kernel
theorem dX12_swears_20 : decode cX12_swears 20 = .ok (.aload_n 0, 1) := by decide +kernel
theorem dX12_swears_21 : decode cX12_swears 21 = .ok (.iload_n 1, 1) := by decide +kernel
theorem dX12_swears_22 : decode cX12_swears 22 = .ok (.iload_n 2, 1) := by decide +kernel
theorem dX12_swears_23 : decode cX12_swears 23 = .ok (.iload_n 3, 1) := by decide +kernel
theorem dX12_swears_24 : decode cX12_swears 24 = .ok (.invokevirtual 328, 3) := by decide +kernel
theorem dX12_swears_27 : decode cX12_swears 27 = .ok (.ifCond .eq 5, 3) := by decide +kernel
theorem dX12_swears_30 : decode cX12_swears 30 = .ok (.iconst 0, 1) := by decide +kernel
theorem dX12_swears_31 : decode cX12_swears 31 = .ok (.ireturn, 1) := by decide +kernel
theorem dX12_swears_32 : decode cX12_swears 32 = .ok (.aload_n 0, 1) := by decide +kernel
theorem dX12_swears_33 : decode cX12_swears 33 = .ok (.iload_n 1, 1) := by decide +kernel
theorem dX12_swears_34 : decode cX12_swears 34 = .ok (.iload_n 2, 1) := by decide +kernel
theorem dX12_swears_35 : decode cX12_swears 35 = .ok (.iload_n 3, 1) := by decide +kernel
theorem dX12_swears_36 : decode cX12_swears 36 = .ok (.invokevirtual 331, 3) := by decide +kernel
theorem dX12_swears_39 : decode cX12_swears 39 = .ok (.iconst 1, 1) := by decide +kernel
theorem dX12_swears_40 : decode cX12_swears 40 = .ok (.ireturn, 1) := by decide +kernel
theorem dX12_itIsMonday_0 : decode cX12_itIsMonday 0 = .ok (.aload_n 0, 1) := by decide +kernel
theorem dX12_itIsMonday_1 : decode cX12_itIsMonday 1 = .ok (.invokevirtual 334, 3) := by decide +kernel
theorem dX12_itIsMonday_4 : decode cX12_itIsMonday 4 = .ok (.istore_n 1, 1) := by decide +kernel
theorem dX12_itIsMonday_5 : decode cX12_itIsMonday 5 = .ok (.iconst 0, 1) := by decide +kernel
theorem dX12_itIsMonday_6 : decode cX12_itIsMonday 6 = .ok (.istore_n 2, 1) := by decide +kernel
theorem dX12_itIsMonday_7 : decode cX12_itIsMonday 7 = .ok (.iload_n 2, 1) := by decide +kernel
theorem dX12_itIsMonday_8 : decode cX12_itIsMonday 8 = .ok (.aload_n 0, 1) := by decide +kernel
theorem dX12_itIsMonday_9 : decode cX12_itIsMonday 9 = .ok (.getfield 280, 3) := by decide +kernel
theorem dX12_itIsMonday_12 : decode cX12_itIsMonday 12 = .ok (.if_icmp .ge 38, 3) := by decide +kernel
theorem dX12_itIsMonday_15 : decode cX12_itIsMonday 15 = .ok (.aload_n 0, 1) := by decide +kernel
theorem dX12_itIsMonday_16 : decode cX12_itIsMonday 16 = .ok (.dup, 1) := by decide +kernel
theorem dX12_itIsMonday_17 : decode cX12_itIsMonday 17 = .ok (.getfield 264, 3) := by decide +kernel
theorem dX12_itIsMonday_20 : decode cX12_itIsMonday 20 = .ok (.iload_n 1, 1) := by decide +kernel
theorem dX12_itIsMonday_21 : decode cX12_itIsMonday 21 = .ok (.iload_n 2, 1) := by decide +kernel
theorem dX12_itIsMonday_22 : decode cX12_itIsMonday 22 = .ok (.invokestatic 94, 3) := by decide +kernel
theorem dX12_itIsMonday_25 : decode cX12_itIsMonday 25 = .ok (.ifCond .eq 14, 3) := by decide +kernel
theorem dX12_itIsMonday_28 : decode cX12_itIsMonday 28 = .ok (.iconst 1, 1) := by decide +kernel
theorem dX12_itIsMonday_29 : decode cX12_itIsMonday 29 = .ok (.aload_n 0, 1) := by decide +kernel
theorem dX12_itIsMonday_30 : decode cX12_itIsMonday 30 = .ok (.getfield 56, 3) := by decide +kernel
theorem dX12_itIsMonday_33 : decode cX12_itIsMonday 33 = .ok (.iload_n 2, 1) := by decide +kernel
theorem dX12_itIsMonday_34 : decode cX12_itIsMonday 34 = .ok (.iaload, 1) := by decide +kernel
theorem dX12_itIsMonday_35 : decode cX12_itIsMonday 35 = .ok (.ishl, 1) := by decide +kernel
theorem dX12_itIsMonday_36 : decode cX12_itIsMonday 36 = .ok (.goto 4, 3) := by decide +kernel
theorem dX12_itIsMonday_39 : decode cX12_itIsMonday 39 = .ok (.iconst 0, 1) := by decide +kernel
theorem dX12_itIsMonday_40 : decode cX12_itIsMonday 40 = .ok (.ior, 1) := by decide +kernel
theorem dX12_itIsMonday_41 : decode cX12_itIsMonday 41 = .ok (.putfield 264, 3) := by decide +kernel
theorem dX12_itIsMonday_44 : decode cX12_itIsMonday 44 = .ok (.iinc 2 1, 3) := by decide +kernel
theorem dX12_itIsMonday_47 : decode cX12_itIsMonday 47 = .ok (.goto (-40), 3) := by decide +kernel
theorem dX12_itIsMonday_50 : decode cX12_itIsMonday 50 = .ok (.aload_n 0, 1) := by decide +kernel
theorem dX12_itIsMonday_51 : decode cX12_itIsMonday 51 = .ok (.dup, 1) := by decide +kernel
theorem dX12_itIsMonday_52 : decode cX12_itIsMonday 52 = .ok (.getfield 273, 3) := by decide +kernel
theorem dX12_itIsMonday_55 : decode cX12_itIsMonday 55 = .ok (.iload_n 1, 1) := by decide +kernel
theorem dX12_itIsMonday_56 : decode cX12_itIsMonday 56 = .ok (.invokestatic 295, 3) := by decide +kernel
theorem dX12_itIsMonday_59 : decode cX12_itIsMonday 59 = .ok (.iadd, 1) := by decide +kernel
theorem dX12_itIsMonday_60 : decode cX12_itIsMonday 60 = .ok (.putfield 273, 3) := by decide +kernel
theorem dX12_itIsMonday_63 : decode cX12_itIsMonday 63 = .ok (.aload_n 0, 1) := by decide +kernel
theorem dX12_itIsMonday_64 : decode cX12_itIsMonday 64 = .ok (.dup, 1) := by decide +kernel
theorem dX12_itIsMonday_65 : decode cX12_itIsMonday 65 = .ok (.getfield 270, 3) := by decide +kernel
theorem dX12_itIsMonday_68 : decode cX12_itIsMonday 68 = .ok (.aload_n 0, 1) := by decide +kernel
theorem dX12_itIsMonday_69 : decode cX12_itIsMonday 69 = .ok (.getfield 280, 3) := by decide +kernel
theorem dX12_itIsMonday_72 : decode cX12_itIsMonday 72 = .ok (.iload_n 1, 1) := by decide +kernel
theorem dX12_itIsMonday_73 : decode cX12_itIsMonday 73 = .ok (.invokestatic 295, 3) := by decide +kernel
theorem dX12_itIsMonday_76 : decode cX12_itIsMonday 76 = .ok (.isub, 1) := by decide +kernel
theorem dX12_itIsMonday_77 : decode cX12_itIsMonday 77 = .ok (.iadd, 1) := by decide +kernel
theorem dX12_itIsMonday_78 : decode cX12_itIsMonday 78 = .ok (.putfield 270, 3) := by decide +kernel
theorem dX12_itIsMonday_81 : decode cX12_itIsMonday 81 = .ok (.aload_n 0, 1) := by decide +kernel
theorem dX12_itIsMonday_82 : decode cX12_itIsMonday 82 = .ok (.dup, 1) := by decide +kernel
theorem dX12_itIsMonday_83 : decode cX12_itIsMonday 83 = .ok (.getfield 267, 3) := by decide +kernel
theorem dX12_itIsMonday_86 : decode cX12_itIsMonday 86 = .ok (.iconst 1, 1) := by decide +kernel
theorem dX12_itIsMonday_87 : decode cX12_itIsMonday 87 = .ok (.iadd, 1) := by decide +kernel
theorem dX12_itIsMonday_88 : decode cX12_itIsMonday 88 = .ok (.putfield 267, 3) := by decide +kernel
theorem dX12_itIsMonday_91 : decode cX12_itIsMonday 91 = .ok (.aload_n 0, 1) := by decide +kernel
theorem dX12_itIsMonday_92 : decode cX12_itIsMonday 92 = .ok (.iconst 0, 1) := by decide +kernel
theorem dX12_itIsMonday_93 : decode cX12_itIsMonday 93 = .ok (.putfield 280, 3) := by decide +kernel
theorem dX12_itIsMonday_96 : decode cX12_itIsMonday 96 = .ok (.iconst 1, 1) := by decide +kernel
theorem dX12_itIsMonday_97 : decode cX12_itIsMonday 97 = .ok (.ireturn, 1) := by decide +kernel
theorem dX12_changesWill_0 : decode cX12_changesWill 0 = .ok (.aload_n 0, 1) := by decide +kernel
theorem dX12_changesWill_1 : decode cX12_changesWill 1 = .ok (.iload_n 1, 1) := by decide +kernel
theorem dX12_changesWill_2 : decode cX12_changesWill 2 = .ok (.invokevirtual 289, 3) := by decide +kernel
theorem dX12_changesWill_5 : decode cX12_changesWill 5 = .ok (.ifCond .eq 20, 3) := by decide +kernel
theorem dX12_changesWill_8 : decode cX12_changesWill 8 = .ok (.aload_n 0, 1) := by decide +kernel
theorem dX12_changesWill_9 : decode cX12_changesWill 9 = .ok (.getfield 44, 3) := by decide +kernel
theorem dX12_changesWill_12 : decode cX12_changesWill 12 = .ok (.iload_n 1, 1) := by decide +kernel
theorem dX12_changesWill_13 : decode cX12_changesWill 13 = .ok (.iaload, 1) := by decide +kernel
theorem dX12_changesWill_14 : decode cX12_changesWill 14 = .ok (.iload_n 2, 1) := by decide +kernel
theorem dX12_changesWill_15 : decode cX12_changesWill 15 = .ok (.iadd, 1) := by decide +kernel
theorem dX12_changesWill_16 : decode cX12_changesWill 16 = .ok (.iconst 0, 1) := by decide +kernel
theorem dX12_changesWill_17 : decode cX12_changesWill 17 = .ok (.bipush 9, 2) := by decide +kernel
theorem dX12_changesWill_19 : decode cX12_changesWill 19 = .ok (.invokestatic 102, 3) := by decide +kernel
theorem dX12_changesWill_22 : decode cX12_changesWill 22 = .ok (.ifCond .ne 5, 3) := by decide +kernel
theorem dX12_changesWill_25 : decode cX12_changesWill 25 = .ok (.iconst 0, 1) := by decide +kernel
theorem dX12_changesWill_26 : decode cX12_changesWill 26 = .ok (.ireturn, 1) := by decide +kernel
theorem dX12_changesWill_27 : decode cX12_changesWill 27 = .ok (.aload_n 0, 1) := by decide +kernel
theorem dX12_changesWill_28 : decode cX12_changesWill 28 = .ok (.getfield 44, 3) := by decide +kernel
theorem dX12_changesWill_31 : decode cX12_changesWill 31 = .ok (.iload_n 1, 1) := by decide +kernel
theorem dX12_changesWill_32 : decode cX12_changesWill 32 = .ok (.dup2, 1) := by decide +kernel
theorem dX12_changesWill_33 : decode cX12_changesWill 33 = .ok (.iaload, 1) := by decide +kernel
theorem dX12_changesWill_34 : decode cX12_changesWill 34 = .ok (.iload_n 2, 1) := by decide +kernel
theorem dX12_changesWill_35 : decode cX12_changesWill 35 = .ok (.iadd, 1) := by decide +kernel
theorem dX12_changesWill_36 : decode cX12_changesWill 36 = .ok (.iastore, 1) := by decide +kernel
theorem dX12_changesWill_37 : decode cX12_changesWill 37 = .ok (.iconst 1, 1) := by decide +kernel
theorem dX12_changesWill_38 : decode cX12_changesWill 38 = .ok (.ireturn, 1) := by decide +kernel
theorem dX12_visitsOne_0 : decode cX12_visitsOne 0 = .ok (.aload_n 0, 1) := by decide +kernel
theorem dX12_visitsOne_1 : decode cX12_visitsOne 1 = .ok (.getfield 53, 3) := by decide +kernel
theorem dX12_visitsOne_4 : decode cX12_visitsOne 4 = .ok (.bipush 6, 2) := by decide +kernel
theorem dX12_visitsOne_6 : decode cX12_visitsOne 6 = .ok (.iload_n 1, 1) := by decide +kernel
theorem dX12_visitsOne_7 : decode cX12_visitsOne 7 = .ok (.imul, 1) := by decide +kernel
theorem dX12_visitsOne_8 : decode cX12_visitsOne 8 = .ok (.iload_n 2, 1) := by decide +kernel
theorem dX12_visitsOne_9 : decode cX12_visitsOne 9 = .ok (.iadd, 1) := by decide +kernel
theorem dX12_visitsOne_10 : decode cX12_visitsOne 10 = .ok (.iaload, 1) := by decide +kernel
theorem dX12_visitsOne_11 : decode cX12_visitsOne 11 = .ok (.bipush 9, 2) := by decide +kernel
theorem dX12_visitsOne_13 : decode cX12_visitsOne 13 = .ok (.if_icmp .ne 5, 3) := by decide +kernel
theorem dX12_visitsOne_16 : decode cX12_visitsOne 16 = .ok (.iconst 0, 1) := by decide +kernel
theorem dX12_visitsOne_17 : decode cX12_visitsOne 17 = .ok (.ireturn, 1) := by decide +kernel
theorem dX12_visitsOne_18 : decode cX12_visitsOne 18 = .ok (.aload_n 0, 1) := by decide +kernel
theorem dX12_visitsOne_19 : decode cX12_visitsOne 19 = .ok (.getfield 53, 3) := by decide +kernel
theorem dX12_visitsOne_22 : decode cX12_visitsOne 22 = .ok (.bipush 6, 2) := by decide +kernel
theorem dX12_visitsOne_24 : decode cX12_visitsOne 24 = .ok (.iload_n 1, 1) := by decide +kernel
theorem dX12_visitsOne_25 : decode cX12_visitsOne 25 = .ok (.imul, 1) := by decide +kernel
theorem dX12_visitsOne_26 : decode cX12_visitsOne 26 = .ok (.iload_n 2, 1) := by decide +kernel
theorem dX12_visitsOne_27 : decode cX12_visitsOne 27 = .ok (.iadd, 1) := by decide +kernel
theorem dX12_visitsOne_28 : decode cX12_visitsOne 28 = .ok (.dup2, 1) := by decide +kernel
theorem dX12_visitsOne_29 : decode cX12_visitsOne 29 = .ok (.iaload, 1) := by decide +kernel
theorem dX12_visitsOne_30 : decode cX12_visitsOne 30 = .ok (.iconst 1, 1) := by decide +kernel
theorem dX12_visitsOne_31 : decode cX12_visitsOne 31 = .ok (.iadd, 1) := by decide +kernel
theorem dX12_visitsOne_32 : decode cX12_visitsOne 32 = .ok (.iastore, 1) := by decide +kernel
theorem dX12_visitsOne_33 : decode cX12_visitsOne 33 = .ok (.iconst 1, 1) := by decide +kernel
theorem dX12_visitsOne_34 : decode cX12_visitsOne 34 = .ok (.ireturn, 1) := by decide +kernel
theorem dX12_courts_0 : decode cX12_courts 0 = .ok (.aload_n 0, 1) := by decide +kernel
theorem dX12_courts_1 : decode cX12_courts 1 = .ok (.getfield 50, 3) := by decide +kernel
theorem dX12_courts_4 : decode cX12_courts 4 = .ok (.iload_n 2, 1) := by decide +kernel
theorem dX12_courts_5 : decode cX12_courts 5 = .ok (.iaload, 1) := by decide +kernel
theorem dX12_courts_6 : decode cX12_courts 6 = .ok (.iload_n 1, 1) := by decide +kernel
theorem dX12_courts_7 : decode cX12_courts 7 = .ok (.invokestatic 94, 3) := by decide +kernel
theorem dX12_courts_10 : decode cX12_courts 10 = .ok (.iload_n 3, 1) := by decide +kernel
theorem dX12_courts_11 : decode cX12_courts 11 = .ok (.if_icmp .ne 5, 3) := by decide +kernel
theorem dX12_courts_14 : decode cX12_courts 14 = .ok (.iconst 0, 1) := by decide +kernel
theorem dX12_courts_15 : decode cX12_courts 15 = .ok (.ireturn, 1) := by decide +kernel
theorem dX12_courts_16 : decode cX12_courts 16 = .ok (.aload_n 0, 1) := by decide +kernel
theorem dX12_courts_17 : decode cX12_courts 17 = .ok (.getfield 50, 3) := by decide +kernel
theorem dX12_courts_20 : decode cX12_courts 20 = .ok (.iload_n 2, 1) := by decide +kernel
theorem dX12_courts_21 : decode cX12_courts 21 = .ok (.iload_n 3, 1) := by decide +kernel
theorem dX12_courts_22 : decode cX12_courts 22 = .ok (.ifCond .eq 16, 3) := by decide +kernel
theorem dX12_courts_25 : decode cX12_courts 25 = .ok (.aload_n 0, 1) := by decide +kernel
theorem dX12_courts_26 : decode cX12_courts 26 = .ok (.getfield 50, 3) := by decide +kernel
theorem dX12_courts_29 : decode cX12_courts 29 = .ok (.iload_n 2, 1) := by decide +kernel
theorem dX12_courts_30 : decode cX12_courts 30 = .ok (.iaload, 1) := by decide +kernel
theorem dX12_courts_31 : decode cX12_courts 31 = .ok (.iconst 1, 1) := by decide +kernel
theorem dX12_courts_32 : decode cX12_courts 32 = .ok (.iload_n 1, 1) := by decide +kernel
theorem dX12_courts_33 : decode cX12_courts 33 = .ok (.ishl, 1) := by decide +kernel
theorem dX12_courts_34 : decode cX12_courts 34 = .ok (.ior, 1) := by decide +kernel
theorem dX12_courts_35 : decode cX12_courts 35 = .ok (.goto 15, 3) := by decide +kernel
theorem dX12_courts_38 : decode cX12_courts 38 = .ok (.aload_n 0, 1) := by decide +kernel
theorem dX12_courts_39 : decode cX12_courts 39 = .ok (.getfield 50, 3) := by decide +kernel
theorem dX12_courts_42 : decode cX12_courts 42 = .ok (.iload_n 2, 1) := by decide +kernel
theorem dX12_courts_43 : decode cX12_courts 43 = .ok (.iaload, 1) := by decide +kernel
theorem dX12_courts_44 : decode cX12_courts 44 = .ok (.iconst 1, 1) := by decide +kernel
theorem dX12_courts_45 : decode cX12_courts 45 = .ok (.iload_n 1, 1) := by decide +kernel
theorem dX12_courts_46 : decode cX12_courts 46 = .ok (.ishl, 1) := by decide +kernel
theorem dX12_courts_47 : decode cX12_courts 47 = .ok (.iconst (-1), 1) := by decide +kernel
theorem dX12_courts_48 : decode cX12_courts 48 = .ok (.ixor, 1) := by decide +kernel
theorem dX12_courts_49 : decode cX12_courts 49 = .ok (.iand, 1) := by decide +kernel
theorem dX12_courts_50 : decode cX12_courts 50 = .ok (.iastore, 1) := by decide +kernel
theorem dX12_courts_51 : decode cX12_courts 51 = .ok (.iconst 1, 1) := by decide +kernel
theorem dX12_courts_52 : decode cX12_courts 52 = .ok (.ireturn, 1) := by decide +kernel
theorem dX12_does_0 : decode cX12_does 0 = .ok (.iload_n 1, 1) := by decide +kernel
theorem dX12_does_1 : decode cX12_does 1 = .ok (.ifCond .ne 8, 3) := by decide +kernel
theorem dX12_does_4 : decode cX12_does 4 = .ok (.aload_n 0, 1) := by decide +kernel
theorem dX12_does_5 : decode cX12_does 5 = .ok (.invokevirtual 337, 3) := by decide +kernel
theorem dX12_does_8 : decode cX12_does 8 = .ok (.ireturn, 1) := by decide +kernel
theorem dX12_does_9 : decode cX12_does 9 = .ok (.iload_n 1, 1) := by decide +kernel
theorem dX12_does_10 : decode cX12_does 10 = .ok (.iconst 2, 1) := by decide +kernel
theorem dX12_does_11 : decode cX12_does 11 = .ok (.if_icmp .gt 19, 3) := by decide +kernel
theorem dX12_does_14 : decode cX12_does 14 = .ok (.aload_n 0, 1) := by decide +kernel
theorem dX12_does_15 : decode cX12_does 15 = .ok (.iload_n 2, 1) := by decide +kernel
theorem dX12_does_16 : decode cX12_does 16 = .ok (.iload_n 1, 1) := by decide +kernel
theorem dX12_does_17 : decode cX12_does 17 = .ok (.iconst 2, 1) := by decide +kernel
theorem dX12_does_18 : decode cX12_does 18 = .ok (.if_icmp .ne 7, 3) := by decide +kernel
theorem dX12_does_21 : decode cX12_does 21 = .ok (.iconst 1, 1) := by decide +kernel
theorem dX12_does_22 : decode cX12_does 22 = .ok (.goto 4, 3) := by decide +kernel
theorem dX12_does_25 : decode cX12_does 25 = .ok (.iconst (-1), 1) := by decide +kernel
theorem dX12_does_26 : decode cX12_does 26 = .ok (.invokevirtual 340, 3) := by decide +kernel
theorem dX12_does_29 : decode cX12_does 29 = .ok (.ireturn, 1) := by decide +kernel
theorem dX12_does_30 : decode cX12_does 30 = .ok (.aload_n 0, 1) := by decide +kernel
theorem dX12_does_31 : decode cX12_does 31 = .ok (.iload_n 2, 1) := by decide +kernel
theorem dX12_does_32 : decode cX12_does 32 = .ok (.iload_n 3, 1) := by decide +kernel
theorem dX12_does_33 : decode cX12_does 33 = .ok (.invokevirtual 343, 3) := by decide +kernel
theorem dX12_does_36 : decode cX12_does 36 = .ok (.ifCond .ne 5, 3) := by decide +kernel
theorem dX12_does_39 : decode cX12_does 39 = .ok (.iconst 0, 1) := by decide +kernel
theorem dX12_does_40 : decode cX12_does 40 = .ok (.ireturn, 1) := by decide +kernel
theorem dX12_does_41 : decode cX12_does 41 = .ok (.iload_n 1, 1) := by decide +kernel
theorem dX12_does_42 : decode cX12_does 42 = .ok (.tableswitch 50 3 5 #[26, 33, 33], 26) := by decide +kernel
theorem dX12_does_68 : decode cX12_does 68 = .ok (.aload_n 0, 1) := by decide +kernel
theorem dX12_does_69 : decode cX12_does 69 = .ok (.iload_n 2, 1) := by decide +kernel
theorem dX12_does_70 : decode cX12_does 70 = .ok (.iload_n 3, 1) := by decide +kernel
theorem dX12_does_71 : decode cX12_does 71 = .ok (.invokevirtual 346, 3) := by decide +kernel
theorem dX12_does_74 : decode cX12_does 74 = .ok (.ireturn, 1) := by decide +kernel
theorem dX12_does_75 : decode cX12_does 75 = .ok (.aload_n 0, 1) := by decide +kernel
theorem dX12_does_76 : decode cX12_does 76 = .ok (.iload_n 2, 1) := by decide +kernel
theorem dX12_does_77 : decode cX12_does 77 = .ok (.iload_n 3, 1) := by decide +kernel
theorem dX12_does_78 : decode cX12_does 78 = .ok (.iload_n 1, 1) := by decide +kernel
theorem dX12_does_79 : decode cX12_does 79 = .ok (.iconst 4, 1) := by decide +kernel
theorem dX12_does_80 : decode cX12_does 80 = .ok (.if_icmp .ne 7, 3) := by decide +kernel
theorem dX12_does_83 : decode cX12_does 83 = .ok (.iconst 1, 1) := by decide +kernel
theorem dX12_does_84 : decode cX12_does 84 = .ok (.goto 4, 3) := by decide +kernel
theorem dX12_does_87 : decode cX12_does 87 = .ok (.iconst 0, 1) := by decide +kernel
theorem dX12_does_88 : decode cX12_does 88 = .ok (.invokevirtual 349, 3) := by decide +kernel
theorem dX12_does_91 : decode cX12_does 91 = .ok (.ireturn, 1) := by decide +kernel
theorem dX12_does_92 : decode cX12_does 92 = .ok (.aload_n 0, 1) := by decide +kernel
theorem dX12_does_93 : decode cX12_does 93 = .ok (.iload_n 2, 1) := by decide +kernel
theorem dX12_does_94 : decode cX12_does 94 = .ok (.iload_n 3, 1) := by decide +kernel
theorem dX12_does_95 : decode cX12_does 95 = .ok (.iload 4, 2) := by decide +kernel
theorem dX12_does_97 : decode cX12_does 97 = .ok (.invokevirtual 353, 3) := by decide +kernel
theorem dX12_does_100 : decode cX12_does 100 = .ok (.ireturn, 1) := by decide +kernel
theorem dX12_doesDeed_0 : decode cX12_doesDeed 0 = .ok (.aload_n 0, 1) := by decide +kernel
theorem dX12_doesDeed_1 : decode cX12_doesDeed 1 = .ok (.aload_n 0, 1) := by decide +kernel
theorem dX12_doesDeed_2 : decode cX12_doesDeed 2 = .ok (.iload_n 1, 1) := by decide +kernel
theorem dX12_doesDeed_3 : decode cX12_doesDeed 3 = .ok (.iconst 0, 1) := by decide +kernel
theorem dX12_doesDeed_4 : decode cX12_doesDeed 4 = .ok (.invokevirtual 325, 3) := by decide +kernel
theorem dX12_doesDeed_7 : decode cX12_doesDeed 7 = .ok (.aload_n 0, 1) := by decide +kernel
theorem dX12_doesDeed_8 : decode cX12_doesDeed 8 = .ok (.iload_n 1, 1) := by decide +kernel
theorem dX12_doesDeed_9 : decode cX12_doesDeed 9 = .ok (.iconst 1, 1) := by decide +kernel
theorem dX12_doesDeed_10 : decode cX12_doesDeed 10 = .ok (.invokevirtual 325, 3) := by decide +kernel
theorem dX12_doesDeed_13 : decode cX12_doesDeed 13 = .ok (.aload_n 0, 1) := by decide +kernel
theorem dX12_doesDeed_14 : decode cX12_doesDeed 14 = .ok (.iload_n 1, 1) := by decide +kernel
theorem dX12_doesDeed_15 : decode cX12_doesDeed 15 = .ok (.iconst 2, 1) := by decide +kernel
theorem dX12_doesDeed_16 : decode cX12_doesDeed 16 = .ok (.invokevirtual 325, 3) := by decide +kernel
theorem dX12_doesDeed_19 : decode cX12_doesDeed 19 = .ok (.aload_n 0, 1) := by decide +kernel
theorem dX12_doesDeed_20 : decode cX12_doesDeed 20 = .ok (.iload_n 1, 1) := by decide +kernel
theorem dX12_doesDeed_21 : decode cX12_doesDeed 21 = .ok (.iconst 3, 1) := by decide +kernel
theorem dX12_doesDeed_22 : decode cX12_doesDeed 22 = .ok (.invokevirtual 325, 3) := by decide +kernel
theorem dX12_doesDeed_25 : decode cX12_doesDeed 25 = .ok (.invokevirtual 356, 3) := by decide +kernel
theorem dX12_doesDeed_28 : decode cX12_doesDeed 28 = .ok (.ireturn, 1) := by decide +kernel
theorem dX12_play_0 : decode cX12_play 0 = .ok (.iconst 0, 1) := by decide +kernel
theorem dX12_play_1 : decode cX12_play 1 = .ok (.istore_n 2, 1) := by decide +kernel
theorem dX12_play_2 : decode cX12_play 2 = .ok (.iload_n 2, 1) := by decide +kernel
theorem dX12_play_3 : decode cX12_play 3 = .ok (.iload_n 1, 1) := by decide +kernel
theorem dX12_play_4 : decode cX12_play 4 = .ok (.if_icmp .ge 17, 3) := by decide +kernel
theorem dX12_play_7 : decode cX12_play 7 = .ok (.aload_n 0, 1) := by decide +kernel
theorem dX12_play_8 : decode cX12_play 8 = .ok (.iload_n 2, 1) := by decide +kernel
theorem dX12_play_9 : decode cX12_play 9 = .ok (.invokevirtual 359, 3) := by decide +kernel
theorem dX12_play_12 : decode cX12_play 12 = .ok (.ifCond .eq 9, 3) := by decide +kernel
theorem dX12_play_15 : decode cX12_play 15 = .ok (.iinc 2 1, 3) := by decide +kernel
theorem dX12_play_18 : decode cX12_play 18 = .ok (.goto (-16), 3) := by decide +kernel
theorem dX12_play_21 : decode cX12_play 21 = .ok (.iload_n 2, 1) := by decide +kernel
theorem dX12_play_22 : decode cX12_play 22 = .ok (.ireturn, 1) := by decide +kernel
theorem dX12_layAll_0 : decode cX12_layAll 0 = .ok (.aload_n 0, 1) := by decide +kernel
theorem dX12_layAll_1 : decode cX12_layAll 1 = .ok (.iload_n 2, 1) := by decide +kernel
theorem dX12_layAll_2 : decode cX12_layAll 2 = .ok (.invokevirtual 319, 3) := by decide +kernel
theorem dX12_layAll_5 : decode cX12_layAll 5 = .ok (.ifCond .eq 15, 3) := by decide +kernel
theorem dX12_layAll_8 : decode cX12_layAll 8 = .ok (.aload_n 0, 1) := by decide +kernel
theorem dX12_layAll_9 : decode cX12_layAll 9 = .ok (.iload_n 1, 1) := by decide +kernel
theorem dX12_layAll_10 : decode cX12_layAll 10 = .ok (.invokevirtual 310, 3) := by decide +kernel
theorem dX12_layAll_13 : decode cX12_layAll 13 = .ok (.ifCond .eq 7, 3) := by decide +kernel
theorem dX12_layAll_16 : decode cX12_layAll 16 = .ok (.iconst 1, 1) := by decide +kernel
theorem dX12_layAll_17 : decode cX12_layAll 17 = .ok (.goto 4, 3) := by decide +kernel
theorem dX12_layAll_20 : decode cX12_layAll 20 = .ok (.iconst 0, 1) := by decide +kernel
theorem dX12_layAll_21 : decode cX12_layAll 21 = .ok (.ireturn, 1) := by decide +kernel
theorem dX12_stop_0 : decode cX12_stop 0 = .ok (.aload_n 0, 1) := by decide +kernel
theorem dX12_stop_1 : decode cX12_stop 1 = .ok (.iconst 0, 1) := by decide +kernel
theorem dX12_stop_2 : decode cX12_stop 2 = .ok (.putfield 90, 3) := by decide +kernel
theorem dX12_stop_5 : decode cX12_stop 5 = .ok (.aload_n 0, 1) := by decide +kernel
theorem dX12_stop_6 : decode cX12_stop 6 = .ok (.iload_n 1, 1) := by decide +kernel
theorem dX12_stop_7 : decode cX12_stop 7 = .ok (.iload_n 2, 1) := by decide +kernel
theorem dX12_stop_8 : decode cX12_stop 8 = .ok (.invokevirtual 362, 3) := by decide +kernel
theorem dX12_stop_11 : decode cX12_stop 11 = .ok (.ifCond .eq 14, 3) := by decide +kernel
theorem dX12_stop_14 : decode cX12_stop 14 = .ok (.aload_n 0, 1) := by decide +kernel
theorem dX12_stop_15 : decode cX12_stop 15 = .ok (.aload_n 0, 1) := by decide +kernel
theorem dX12_stop_16 : decode cX12_stop 16 = .ok (.invokevirtual 322, 3) := by decide +kernel
theorem dX12_stop_19 : decode cX12_stop 19 = .ok (.invokevirtual 365, 3) := by decide +kernel
theorem dX12_stop_22 : decode cX12_stop 22 = .ok (.goto 4, 3) := by decide +kernel
theorem dX12_stop_25 : decode cX12_stop 25 = .ok (.iconst (-1), 1) := by decide +kernel
theorem dX12_stop_26 : decode cX12_stop 26 = .ok (.ireturn, 1) := by decide +kernel
theorem dX12_visitsTo_0 : decode cX12_visitsTo 0 = .ok (.iconst 0, 1) := by decide +kernel
theorem dX12_visitsTo_1 : decode cX12_visitsTo 1 = .ok (.istore_n 2, 1) := by decide +kernel
theorem dX12_visitsTo_2 : decode cX12_visitsTo 2 = .ok (.iconst 0, 1) := by decide +kernel
theorem dX12_visitsTo_3 : decode cX12_visitsTo 3 = .ok (.istore_n 3, 1) := by decide +kernel
theorem dX12_visitsTo_4 : decode cX12_visitsTo 4 = .ok (.iload_n 3, 1) := by decide +kernel
theorem dX12_visitsTo_5 : decode cX12_visitsTo 5 = .ok (.aload_n 0, 1) := by decide +kernel
theorem dX12_visitsTo_6 : decode cX12_visitsTo 6 = .ok (.getfield 283, 3) := by decide +kernel
theorem dX12_visitsTo_9 : decode cX12_visitsTo 9 = .ok (.if_icmp .ge 23, 3) := by decide +kernel
theorem dX12_visitsTo_12 : decode cX12_visitsTo 12 = .ok (.iload_n 2, 1) := by decide +kernel
theorem dX12_visitsTo_13 : decode cX12_visitsTo 13 = .ok (.aload_n 0, 1) := by decide +kernel
theorem dX12_visitsTo_14 : decode cX12_visitsTo 14 = .ok (.getfield 53, 3) := by decide +kernel
theorem dX12_visitsTo_17 : decode cX12_visitsTo 17 = .ok (.bipush 6, 2) := by decide +kernel
theorem dX12_visitsTo_19 : decode cX12_visitsTo 19 = .ok (.iload_n 3, 1) := by decide +kernel
theorem dX12_visitsTo_20 : decode cX12_visitsTo 20 = .ok (.imul, 1) := by decide +kernel
theorem dX12_visitsTo_21 : decode cX12_visitsTo 21 = .ok (.iload_n 1, 1) := by decide +kernel
theorem dX12_visitsTo_22 : decode cX12_visitsTo 22 = .ok (.iadd, 1) := by decide +kernel
theorem dX12_visitsTo_23 : decode cX12_visitsTo 23 = .ok (.iaload, 1) := by decide +kernel
theorem dX12_visitsTo_24 : decode cX12_visitsTo 24 = .ok (.iadd, 1) := by decide +kernel
theorem dX12_visitsTo_25 : decode cX12_visitsTo 25 = .ok (.istore_n 2, 1) := by decide +kernel
theorem dX12_visitsTo_26 : decode cX12_visitsTo 26 = .ok (.iinc 3 1, 3) := by decide +kernel
theorem dX12_visitsTo_29 : decode cX12_visitsTo 29 = .ok (.goto (-25), 3) := by decide +kernel
theorem dX12_visitsTo_32 : decode cX12_visitsTo 32 = .ok (.iload_n 2, 1) := by decide +kernel
theorem dX12_visitsTo_33 : decode cX12_visitsTo 33 = .ok (.ireturn, 1) := by decide +kernel
theorem dX12_ofState_0 : decode cX12_ofState 0 = .ok (.iload_n 1, 1) := by decide +kernel
theorem dX12_ofState_1 : decode cX12_ofState 1 = .ok (.bipush 10, 2) := by decide +kernel
theorem dX12_ofState_3 : decode cX12_ofState 3 = .ok (.irem, 1) := by decide +kernel
theorem dX12_ofState_4 : decode cX12_ofState 4 = .ok (.istore_n 2, 1) := by decide +kernel
theorem dX12_ofState_5 : decode cX12_ofState 5 = .ok (.iload_n 1, 1) := by decide +kernel
theorem dX12_ofState_6 : decode cX12_ofState 6 = .ok (.bipush 10, 2) := by decide +kernel
theorem dX12_ofState_8 : decode cX12_ofState 8 = .ok (.if_icmp .ge 67, 3) := by decide +kernel
theorem dX12_ofState_11 : decode cX12_ofState 11 = .ok (.iload_n 1, 1) := by decide +kernel
theorem dX12_ofState_12 : decode cX12_ofState 12 = .ok (.tableswitch 61 0 4 #[36, 41, 46, 51, 56], 36) := by decide +kernel
theorem dX12_ofState_48 : decode cX12_ofState 48 = .ok (.aload_n 0, 1) := by decide +kernel
theorem dX12_ofState_49 : decode cX12_ofState 49 = .ok (.getfield 267, 3) := by decide +kernel
theorem dX12_ofState_52 : decode cX12_ofState 52 = .ok (.ireturn, 1) := by decide +kernel
theorem dX12_ofState_53 : decode cX12_ofState 53 = .ok (.aload_n 0, 1) := by decide +kernel
theorem dX12_ofState_54 : decode cX12_ofState 54 = .ok (.getfield 270, 3) := by decide +kernel
theorem dX12_ofState_57 : decode cX12_ofState 57 = .ok (.ireturn, 1) := by decide +kernel
theorem dX12_ofState_58 : decode cX12_ofState 58 = .ok (.aload_n 0, 1) := by decide +kernel
theorem dX12_ofState_59 : decode cX12_ofState 59 = .ok (.getfield 273, 3) := by decide +kernel
theorem dX12_ofState_62 : decode cX12_ofState 62 = .ok (.ireturn, 1) := by decide +kernel
theorem dX12_ofState_63 : decode cX12_ofState 63 = .ok (.aload_n 0, 1) := by decide +kernel
theorem dX12_ofState_64 : decode cX12_ofState 64 = .ok (.getfield 264, 3) := by decide +kernel
theorem dX12_ofState_67 : decode cX12_ofState 67 = .ok (.ireturn, 1) := by decide +kernel
theorem dX12_ofState_68 : decode cX12_ofState 68 = .ok (.aload_n 0, 1) := by decide +kernel
theorem dX12_ofState_69 : decode cX12_ofState 69 = .ok (.getfield 280, 3) := by decide +kernel
theorem dX12_ofState_72 : decode cX12_ofState 72 = .ok (.ireturn, 1) := by decide +kernel
theorem dX12_ofState_73 : decode cX12_ofState 73 = .ok (.iconst (-1), 1) := by decide +kernel
theorem dX12_ofState_74 : decode cX12_ofState 74 = .ok (.ireturn, 1) := by decide +kernel
theorem dX12_ofState_75 : decode cX12_ofState 75 = .ok (.aload_n 0, 1) := by decide +kernel
theorem dX12_ofState_76 : decode cX12_ofState 76 = .ok (.iload_n 2, 1) := by decide +kernel
theorem dX12_ofState_77 : decode cX12_ofState 77 = .ok (.invokevirtual 289, 3) := by decide +kernel
theorem dX12_ofState_80 : decode cX12_ofState 80 = .ok (.ifCond .ne 5, 3) := by decide +kernel
theorem dX12_ofState_83 : decode cX12_ofState 83 = .ok (.iconst (-1), 1) := by decide +kernel
theorem dX12_ofState_84 : decode cX12_ofState 84 = .ok (.ireturn, 1) := by decide +kernel
theorem dX12_ofState_85 : decode cX12_ofState 85 = .ok (.iload_n 1, 1) := by decide +kernel
theorem dX12_ofState_86 : decode cX12_ofState 86 = .ok (.bipush 10, 2) := by decide +kernel
theorem dX12_ofState_88 : decode cX12_ofState 88 = .ok (.idiv, 1) := by decide +kernel
theorem dX12_ofState_89 : decode cX12_ofState 89 = .ok (.tableswitch 67 1 5 #[35, 42, 48, 54, 61], 35) := by decide +kernel
theorem dX12_ofState_124 : decode cX12_ofState 124 = .ok (.aload_n 0, 1) := by decide +kernel
theorem dX12_ofState_125 : decode cX12_ofState 125 = .ok (.getfield 44, 3) := by decide +kernel
theorem dX12_ofState_128 : decode cX12_ofState 128 = .ok (.iload_n 2, 1) := by decide +kernel
theorem dX12_ofState_129 : decode cX12_ofState 129 = .ok (.iaload, 1) := by decide +kernel
theorem dX12_ofState_130 : decode cX12_ofState 130 = .ok (.ireturn, 1) := by decide +kernel
theorem dX12_ofState_131 : decode cX12_ofState 131 = .ok (.aload_n 0, 1) := by decide +kernel
theorem dX12_ofState_132 : decode cX12_ofState 132 = .ok (.iload_n 2, 1) := by decide +kernel
theorem dX12_ofState_133 : decode cX12_ofState 133 = .ok (.invokevirtual 368, 3) := by decide +kernel
theorem dX12_ofState_136 : decode cX12_ofState 136 = .ok (.ireturn, 1) := by decide +kernel
theorem dX12_ofState_137 : decode cX12_ofState 137 = .ok (.aload_n 0, 1) := by decide +kernel
theorem dX12_ofState_138 : decode cX12_ofState 138 = .ok (.iload_n 2, 1) := by decide +kernel
theorem dX12_ofState_139 : decode cX12_ofState 139 = .ok (.invokevirtual 307, 3) := by decide +kernel
theorem dX12_ofState_142 : decode cX12_ofState 142 = .ok (.ireturn, 1) := by decide +kernel
theorem dX12_ofState_143 : decode cX12_ofState 143 = .ok (.aload_n 0, 1) := by decide +kernel
theorem dX12_ofState_144 : decode cX12_ofState 144 = .ok (.getfield 50, 3) := by decide +kernel
theorem dX12_ofState_147 : decode cX12_ofState 147 = .ok (.iload_n 2, 1) := by decide +kernel
theorem dX12_ofState_148 : decode cX12_ofState 148 = .ok (.iaload, 1) := by decide +kernel
theorem dX12_ofState_149 : decode cX12_ofState 149 = .ok (.ireturn, 1) := by decide +kernel
theorem dX12_ofState_150 : decode cX12_ofState 150 = .ok (.aload_n 0, 1) := by decide +kernel
theorem dX12_ofState_151 : decode cX12_ofState 151 = .ok (.iload_n 2, 1) := by decide +kernel
theorem dX12_ofState_152 : decode cX12_ofState 152 = .ok (.invokevirtual 371, 3) := by decide +kernel
theorem dX12_ofState_155 : decode cX12_ofState 155 = .ok (.ireturn, 1) := by decide +kernel
theorem dX12_ofState_156 : decode cX12_ofState 156 = .ok (.iconst (-1), 1) := by decide +kernel
theorem dX12_ofState_157 : decode cX12_ofState 157 = .ok (.ireturn, 1) := by decide +kernel
theorem dX12_state_0 : decode cX12_state 0 = .ok (.aload_n 0, 1) := by decide +kernel
theorem dX12_state_1 : decode cX12_state 1 = .ok (.iconst 0, 1) := by decide +kernel
theorem dX12_state_2 : decode cX12_state 2 = .ok (.putfield 90, 3) := by decide +kernel
theorem dX12_state_5 : decode cX12_state 5 = .ok (.aload_n 0, 1) := by decide +kernel
theorem dX12_state_6 : decode cX12_state 6 = .ok (.iload_n 1, 1) := by decide +kernel
theorem dX12_state_7 : decode cX12_state 7 = .ok (.iload_n 2, 1) := by decide +kernel
theorem dX12_state_8 : decode cX12_state 8 = .ok (.invokevirtual 362, 3) := by decide +kernel
theorem dX12_state_11 : decode cX12_state 11 = .ok (.ifCond .eq 33, 3) := by decide +kernel
theorem dX12_state_14 : decode cX12_state 14 = .ok (.iload_n 3, 1) := by decide +kernel
theorem dX12_state_15 : decode cX12_state 15 = .ok (.iconst 0, 1) := by decide +kernel
theorem dX12_state_16 : decode cX12_state 16 = .ok (.aload_n 0, 1) := by decide +kernel
theorem dX12_state_17 : decode cX12_state 17 = .ok (.invokevirtual 322, 3) := by decide +kernel
theorem dX12_state_20 : decode cX12_state 20 = .ok (.invokestatic 102, 3) := by decide +kernel
theorem dX12_state_23 : decode cX12_state 23 = .ok (.ifCond .eq 21, 3) := by decide +kernel
theorem dX12_state_26 : decode cX12_state 26 = .ok (.aload_n 0, 1) := by decide +kernel
theorem dX12_state_27 : decode cX12_state 27 = .ok (.iload_n 3, 1) := by decide +kernel
theorem dX12_state_28 : decode cX12_state 28 = .ok (.invokevirtual 365, 3) := by decide +kernel
theorem dX12_state_31 : decode cX12_state 31 = .ok (.iload_n 3, 1) := by decide +kernel
theorem dX12_state_32 : decode cX12_state 32 = .ok (.if_icmp .ne 12, 3) := by decide +kernel
theorem dX12_state_35 : decode cX12_state 35 = .ok (.aload_n 0, 1) := by decide +kernel
theorem dX12_state_36 : decode cX12_state 36 = .ok (.iload 4, 2) := by decide +kernel
theorem dX12_state_38 : decode cX12_state 38 = .ok (.invokevirtual 374, 3) := by decide +kernel
theorem dX12_state_41 : decode cX12_state 41 = .ok (.goto 4, 3) := by decide +kernel
theorem dX12_state_44 : decode cX12_state 44 = .ok (.iconst (-1), 1) := by decide +kernel
theorem dX12_state_45 : decode cX12_state 45 = .ok (.ireturn, 1) := by decide +kernel
theorem dX12_needOf_0 : decode cX12_needOf 0 = .ok (.iconst 0, 1) := by decide +kernel
theorem dX12_needOf_1 : decode cX12_needOf 1 = .ok (.aload_n 0, 1) := by decide +kernel
theorem dX12_needOf_2 : decode cX12_needOf 2 = .ok (.bipush 20, 2) := by decide +kernel
theorem dX12_needOf_4 : decode cX12_needOf 4 = .ok (.aload_n 0, 1) := by decide +kernel
theorem dX12_needOf_5 : decode cX12_needOf 5 = .ok (.getfield 62, 3) := by decide +kernel
theorem dX12_needOf_8 : decode cX12_needOf 8 = .ok (.iload_n 1, 1) := by decide +kernel
theorem dX12_needOf_9 : decode cX12_needOf 9 = .ok (.iaload, 1) := by decide +kernel
theorem dX12_needOf_10 : decode cX12_needOf 10 = .ok (.iadd, 1) := by decide +kernel
theorem dX12_needOf_11 : decode cX12_needOf 11 = .ok (.invokevirtual 276, 3) := by decide +kernel
theorem dX12_needOf_14 : decode cX12_needOf 14 = .ok (.aload_n 0, 1) := by decide +kernel
theorem dX12_needOf_15 : decode cX12_needOf 15 = .ok (.aload_n 0, 1) := by decide +kernel
theorem dX12_needOf_16 : decode cX12_needOf 16 = .ok (.getfield 56, 3) := by decide +kernel
theorem dX12_needOf_19 : decode cX12_needOf 19 = .ok (.iload_n 1, 1) := by decide +kernel
theorem dX12_needOf_20 : decode cX12_needOf 20 = .ok (.iaload, 1) := by decide +kernel
theorem dX12_needOf_21 : decode cX12_needOf 21 = .ok (.aload_n 0, 1) := by decide +kernel
