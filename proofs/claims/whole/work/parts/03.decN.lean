theorem dX12_needOf_22 : decode cX12_needOf 22 = .ok (.getfield 59, 3) := by decide +kernel
theorem dX12_needOf_25 : decode cX12_needOf 25 = .ok (.iload_n 1, 1) := by decide +kernel
theorem dX12_needOf_26 : decode cX12_needOf 26 = .ok (.iaload, 1) := by decide +kernel
theorem dX12_needOf_27 : decode cX12_needOf 27 = .ok (.invokevirtual 292, 3) := by decide +kernel
theorem dX12_needOf_30 : decode cX12_needOf 30 = .ok (.isub, 1) := by decide +kernel
theorem dX12_needOf_31 : decode cX12_needOf 31 = .ok (.invokestatic 178, 3) := by decide +kernel
theorem dX12_needOf_34 : decode cX12_needOf 34 = .ok (.ireturn, 1) := by decide +kernel
theorem dX12_visitsBy_0 : decode cX12_visitsBy 0 = .ok (.iconst 0, 1) := by decide +kernel
theorem dX12_visitsBy_1 : decode cX12_visitsBy 1 = .ok (.istore 4, 2) := by decide +kernel
theorem dX12_visitsBy_3 : decode cX12_visitsBy 3 = .ok (.iload 4, 2) := by decide +kernel
theorem dX12_visitsBy_5 : decode cX12_visitsBy 5 = .ok (.bipush 6, 2) := by decide +kernel
theorem dX12_visitsBy_7 : decode cX12_visitsBy 7 = .ok (.if_icmp .ge 17, 3) := by decide +kernel
theorem dX12_visitsBy_10 : decode cX12_visitsBy 10 = .ok (.aload_n 0, 1) := by decide +kernel
theorem dX12_visitsBy_11 : decode cX12_visitsBy 11 = .ok (.getfield 68, 3) := by decide +kernel
theorem dX12_visitsBy_14 : decode cX12_visitsBy 14 = .ok (.iload 4, 2) := by decide +kernel
theorem dX12_visitsBy_16 : decode cX12_visitsBy 16 = .ok (.iconst 0, 1) := by decide +kernel
theorem dX12_visitsBy_17 : decode cX12_visitsBy 17 = .ok (.iastore, 1) := by decide +kernel
theorem dX12_visitsBy_18 : decode cX12_visitsBy 18 = .ok (.iinc 4 1, 3) := by decide +kernel
theorem dX12_visitsBy_21 : decode cX12_visitsBy 21 = .ok (.goto (-18), 3) := by decide +kernel
theorem dX12_visitsBy_24 : decode cX12_visitsBy 24 = .ok (.iload_n 1, 1) := by decide +kernel
theorem dX12_visitsBy_25 : decode cX12_visitsBy 25 = .ok (.istore 4, 2) := by decide +kernel
theorem dX12_visitsBy_27 : decode cX12_visitsBy 27 = .ok (.iconst 0, 1) := by decide +kernel
theorem dX12_visitsBy_28 : decode cX12_visitsBy 28 = .ok (.istore 5, 2) := by decide +kernel
theorem dX12_visitsBy_30 : decode cX12_visitsBy 30 = .ok (.iload 5, 2) := by decide +kernel
theorem dX12_visitsBy_32 : decode cX12_visitsBy 32 = .ok (.bipush 8, 2) := by decide +kernel
theorem dX12_visitsBy_34 : decode cX12_visitsBy 34 = .ok (.if_icmp .ge 99, 3) := by decide +kernel
theorem dX12_visitsBy_37 : decode cX12_visitsBy 37 = .ok (.iload_n 3, 1) := by decide +kernel
theorem dX12_visitsBy_38 : decode cX12_visitsBy 38 = .ok (.iload 5, 2) := by decide +kernel
theorem dX12_visitsBy_40 : decode cX12_visitsBy 40 = .ok (.invokestatic 94, 3) := by decide +kernel
theorem dX12_visitsBy_43 : decode cX12_visitsBy 43 = .ok (.ifCond .eq 84, 3) := by decide +kernel
theorem dX12_visitsBy_46 : decode cX12_visitsBy 46 = .ok (.iload 4, 2) := by decide +kernel
theorem dX12_visitsBy_48 : decode cX12_visitsBy 48 = .ok (.bipush 12, 2) := by decide +kernel
theorem dX12_visitsBy_50 : decode cX12_visitsBy 50 = .ok (.irem, 1) := by decide +kernel
theorem dX12_visitsBy_51 : decode cX12_visitsBy 51 = .ok (.istore 6, 2) := by decide +kernel
theorem dX12_visitsBy_53 : decode cX12_visitsBy 53 = .ok (.iload 4, 2) := by decide +kernel
theorem dX12_visitsBy_55 : decode cX12_visitsBy 55 = .ok (.bipush 12, 2) := by decide +kernel
theorem dX12_visitsBy_57 : decode cX12_visitsBy 57 = .ok (.idiv, 1) := by decide +kernel
theorem dX12_visitsBy_58 : decode cX12_visitsBy 58 = .ok (.istore 4, 2) := by decide +kernel
theorem dX12_visitsBy_60 : decode cX12_visitsBy 60 = .ok (.iload 6, 2) := by decide +kernel
theorem dX12_visitsBy_62 : decode cX12_visitsBy 62 = .ok (.aload_n 0, 1) := by decide +kernel
theorem dX12_visitsBy_63 : decode cX12_visitsBy 63 = .ok (.getfield 280, 3) := by decide +kernel
theorem dX12_visitsBy_66 : decode cX12_visitsBy 66 = .ok (.if_icmp .ge 26, 3) := by decide +kernel
theorem dX12_visitsBy_69 : decode cX12_visitsBy 69 = .ok (.aload_n 0, 1) := by decide +kernel
theorem dX12_visitsBy_70 : decode cX12_visitsBy 70 = .ok (.getfield 59, 3) := by decide +kernel
theorem dX12_visitsBy_73 : decode cX12_visitsBy 73 = .ok (.iload 6, 2) := by decide +kernel
theorem dX12_visitsBy_75 : decode cX12_visitsBy 75 = .ok (.iaload, 1) := by decide +kernel
theorem dX12_visitsBy_76 : decode cX12_visitsBy 76 = .ok (.iload_n 2, 1) := by decide +kernel
theorem dX12_visitsBy_77 : decode cX12_visitsBy 77 = .ok (.if_icmp .ne 15, 3) := by decide +kernel
theorem dX12_visitsBy_80 : decode cX12_visitsBy 80 = .ok (.aload_n 0, 1) := by decide +kernel
theorem dX12_visitsBy_81 : decode cX12_visitsBy 81 = .ok (.getfield 62, 3) := by decide +kernel
theorem dX12_visitsBy_84 : decode cX12_visitsBy 84 = .ok (.iload 6, 2) := by decide +kernel
theorem dX12_visitsBy_86 : decode cX12_visitsBy 86 = .ok (.iaload, 1) := by decide +kernel
theorem dX12_visitsBy_87 : decode cX12_visitsBy 87 = .ok (.iload 5, 2) := by decide +kernel
theorem dX12_visitsBy_89 : decode cX12_visitsBy 89 = .ok (.if_icmp .eq 5, 3) := by decide +kernel
theorem dX12_visitsBy_92 : decode cX12_visitsBy 92 = .ok (.iconst (-1), 1) := by decide +kernel
theorem dX12_visitsBy_93 : decode cX12_visitsBy 93 = .ok (.ireturn, 1) := by decide +kernel
theorem dX12_visitsBy_94 : decode cX12_visitsBy 94 = .ok (.aload_n 0, 1) := by decide +kernel
theorem dX12_visitsBy_95 : decode cX12_visitsBy 95 = .ok (.getfield 68, 3) := by decide +kernel
theorem dX12_visitsBy_98 : decode cX12_visitsBy 98 = .ok (.aload_n 0, 1) := by decide +kernel
theorem dX12_visitsBy_99 : decode cX12_visitsBy 99 = .ok (.getfield 56, 3) := by decide +kernel
theorem dX12_visitsBy_102 : decode cX12_visitsBy 102 = .ok (.iload 6, 2) := by decide +kernel
theorem dX12_visitsBy_104 : decode cX12_visitsBy 104 = .ok (.iaload, 1) := by decide +kernel
theorem dX12_visitsBy_105 : decode cX12_visitsBy 105 = .ok (.aload_n 0, 1) := by decide +kernel
theorem dX12_visitsBy_106 : decode cX12_visitsBy 106 = .ok (.getfield 68, 3) := by decide +kernel
theorem dX12_visitsBy_109 : decode cX12_visitsBy 109 = .ok (.aload_n 0, 1) := by decide +kernel
theorem dX12_visitsBy_110 : decode cX12_visitsBy 110 = .ok (.getfield 56, 3) := by decide +kernel
theorem dX12_visitsBy_113 : decode cX12_visitsBy 113 = .ok (.iload 6, 2) := by decide +kernel
theorem dX12_visitsBy_115 : decode cX12_visitsBy 115 = .ok (.iaload, 1) := by decide +kernel
theorem dX12_visitsBy_116 : decode cX12_visitsBy 116 = .ok (.iaload, 1) := by decide +kernel
theorem dX12_visitsBy_117 : decode cX12_visitsBy 117 = .ok (.aload_n 0, 1) := by decide +kernel
theorem dX12_visitsBy_118 : decode cX12_visitsBy 118 = .ok (.iload 6, 2) := by decide +kernel
theorem dX12_visitsBy_120 : decode cX12_visitsBy 120 = .ok (.invokevirtual 377, 3) := by decide +kernel
theorem dX12_visitsBy_123 : decode cX12_visitsBy 123 = .ok (.invokestatic 178, 3) := by decide +kernel
theorem dX12_visitsBy_126 : decode cX12_visitsBy 126 = .ok (.iastore, 1) := by decide +kernel
theorem dX12_visitsBy_127 : decode cX12_visitsBy 127 = .ok (.iinc 5 1, 3) := by decide +kernel
theorem dX12_visitsBy_130 : decode cX12_visitsBy 130 = .ok (.goto (-100), 3) := by decide +kernel
theorem dX12_visitsBy_133 : decode cX12_visitsBy 133 = .ok (.iconst 0, 1) := by decide +kernel
theorem dX12_visitsBy_134 : decode cX12_visitsBy 134 = .ok (.istore 5, 2) := by decide +kernel
theorem dX12_visitsBy_136 : decode cX12_visitsBy 136 = .ok (.iconst 0, 1) := by decide +kernel
theorem dX12_visitsBy_137 : decode cX12_visitsBy 137 = .ok (.istore 6, 2) := by decide +kernel
theorem dX12_visitsBy_139 : decode cX12_visitsBy 139 = .ok (.iload 6, 2) := by decide +kernel
theorem dX12_visitsBy_141 : decode cX12_visitsBy 141 = .ok (.bipush 6, 2) := by decide +kernel
theorem dX12_visitsBy_143 : decode cX12_visitsBy 143 = .ok (.if_icmp .ge 21, 3) := by decide +kernel
theorem dX12_visitsBy_146 : decode cX12_visitsBy 146 = .ok (.iload 5, 2) := by decide +kernel
theorem dX12_visitsBy_148 : decode cX12_visitsBy 148 = .ok (.aload_n 0, 1) := by decide +kernel
theorem dX12_visitsBy_149 : decode cX12_visitsBy 149 = .ok (.getfield 68, 3) := by decide +kernel
theorem dX12_visitsBy_152 : decode cX12_visitsBy 152 = .ok (.iload 6, 2) := by decide +kernel
theorem dX12_visitsBy_154 : decode cX12_visitsBy 154 = .ok (.iaload, 1) := by decide +kernel
theorem dX12_visitsBy_155 : decode cX12_visitsBy 155 = .ok (.iadd, 1) := by decide +kernel
theorem dX12_visitsBy_156 : decode cX12_visitsBy 156 = .ok (.istore 5, 2) := by decide +kernel
theorem dX12_visitsBy_158 : decode cX12_visitsBy 158 = .ok (.iinc 6 1, 3) := by decide +kernel
theorem dX12_visitsBy_161 : decode cX12_visitsBy 161 = .ok (.goto (-22), 3) := by decide +kernel
theorem dX12_visitsBy_164 : decode cX12_visitsBy 164 = .ok (.iload 5, 2) := by decide +kernel
theorem dX12_visitsBy_166 : decode cX12_visitsBy 166 = .ok (.ireturn, 1) := by decide +kernel
theorem dX12_fewestVisits_0 : decode cX12_fewestVisits 0 = .ok (.aload_n 0, 1) := by decide +kernel
theorem dX12_fewestVisits_1 : decode cX12_fewestVisits 1 = .ok (.iload_n 1, 1) := by decide +kernel
theorem dX12_fewestVisits_2 : decode cX12_fewestVisits 2 = .ok (.invokevirtual 368, 3) := by decide +kernel
theorem dX12_fewestVisits_5 : decode cX12_fewestVisits 5 = .ok (.istore_n 2, 1) := by decide +kernel
theorem dX12_fewestVisits_6 : decode cX12_fewestVisits 6 = .ok (.iload_n 2, 1) := by decide +kernel
theorem dX12_fewestVisits_7 : decode cX12_fewestVisits 7 = .ok (.invokestatic 295, 3) := by decide +kernel
theorem dX12_fewestVisits_10 : decode cX12_fewestVisits 10 = .ok (.aload_n 0, 1) := by decide +kernel
theorem dX12_fewestVisits_11 : decode cX12_fewestVisits 11 = .ok (.getfield 47, 3) := by decide +kernel
theorem dX12_fewestVisits_14 : decode cX12_fewestVisits 14 = .ok (.iload_n 1, 1) := by decide +kernel
theorem dX12_fewestVisits_15 : decode cX12_fewestVisits 15 = .ok (.iaload, 1) := by decide +kernel
theorem dX12_fewestVisits_16 : decode cX12_fewestVisits 16 = .ok (.if_icmp .gt 11, 3) := by decide +kernel
theorem dX12_fewestVisits_19 : decode cX12_fewestVisits 19 = .ok (.aload_n 0, 1) := by decide +kernel
theorem dX12_fewestVisits_20 : decode cX12_fewestVisits 20 = .ok (.iload_n 2, 1) := by decide +kernel
theorem dX12_fewestVisits_21 : decode cX12_fewestVisits 21 = .ok (.invokevirtual 298, 3) := by decide +kernel
theorem dX12_fewestVisits_24 : decode cX12_fewestVisits 24 = .ok (.ifCond .ne 5, 3) := by decide +kernel
theorem dX12_fewestVisits_27 : decode cX12_fewestVisits 27 = .ok (.iconst (-1), 1) := by decide +kernel
theorem dX12_fewestVisits_28 : decode cX12_fewestVisits 28 = .ok (.ireturn, 1) := by decide +kernel
theorem dX12_fewestVisits_29 : decode cX12_fewestVisits 29 = .ok (.iconst 1, 1) := by decide +kernel
theorem dX12_fewestVisits_30 : decode cX12_fewestVisits 30 = .ok (.istore_n 3, 1) := by decide +kernel
theorem dX12_fewestVisits_31 : decode cX12_fewestVisits 31 = .ok (.iconst 0, 1) := by decide +kernel
theorem dX12_fewestVisits_32 : decode cX12_fewestVisits 32 = .ok (.istore 4, 2) := by decide +kernel
theorem dX12_fewestVisits_34 : decode cX12_fewestVisits 34 = .ok (.iload 4, 2) := by decide +kernel
theorem dX12_fewestVisits_36 : decode cX12_fewestVisits 36 = .ok (.iload_n 2, 1) := by decide +kernel
theorem dX12_fewestVisits_37 : decode cX12_fewestVisits 37 = .ok (.invokestatic 295, 3) := by decide +kernel
theorem dX12_fewestVisits_40 : decode cX12_fewestVisits 40 = .ok (.if_icmp .ge 14, 3) := by decide +kernel
theorem dX12_fewestVisits_43 : decode cX12_fewestVisits 43 = .ok (.iload_n 3, 1) := by decide +kernel
theorem dX12_fewestVisits_44 : decode cX12_fewestVisits 44 = .ok (.bipush 12, 2) := by decide +kernel
theorem dX12_fewestVisits_46 : decode cX12_fewestVisits 46 = .ok (.imul, 1) := by decide +kernel
theorem dX12_fewestVisits_47 : decode cX12_fewestVisits 47 = .ok (.istore_n 3, 1) := by decide +kernel
theorem dX12_fewestVisits_48 : decode cX12_fewestVisits 48 = .ok (.iinc 4 1, 3) := by decide +kernel
theorem dX12_fewestVisits_51 : decode cX12_fewestVisits 51 = .ok (.goto (-17), 3) := by decide +kernel
theorem dX12_fewestVisits_54 : decode cX12_fewestVisits 54 = .ok (.ldc_w 380, 3) := by decide +kernel
theorem dX12_fewestVisits_57 : decode cX12_fewestVisits 57 = .ok (.istore 4, 2) := by decide +kernel
theorem dX12_fewestVisits_59 : decode cX12_fewestVisits 59 = .ok (.iconst 0, 1) := by decide +kernel
theorem dX12_fewestVisits_60 : decode cX12_fewestVisits 60 = .ok (.istore 5, 2) := by decide +kernel
theorem dX12_fewestVisits_62 : decode cX12_fewestVisits 62 = .ok (.iload 5, 2) := by decide +kernel
theorem dX12_fewestVisits_64 : decode cX12_fewestVisits 64 = .ok (.iload_n 3, 1) := by decide +kernel
theorem dX12_fewestVisits_65 : decode cX12_fewestVisits 65 = .ok (.if_icmp .ge 39, 3) := by decide +kernel
theorem dX12_fewestVisits_68 : decode cX12_fewestVisits 68 = .ok (.aload_n 0, 1) := by decide +kernel
theorem dX12_fewestVisits_69 : decode cX12_fewestVisits 69 = .ok (.iload 5, 2) := by decide +kernel
theorem dX12_fewestVisits_71 : decode cX12_fewestVisits 71 = .ok (.iload_n 1, 1) := by decide +kernel
theorem dX12_fewestVisits_72 : decode cX12_fewestVisits 72 = .ok (.iload_n 2, 1) := by decide +kernel
theorem dX12_fewestVisits_73 : decode cX12_fewestVisits 73 = .ok (.invokevirtual 381, 3) := by decide +kernel
theorem dX12_fewestVisits_76 : decode cX12_fewestVisits 76 = .ok (.istore 6, 2) := by decide +kernel
theorem dX12_fewestVisits_78 : decode cX12_fewestVisits 78 = .ok (.iload 6, 2) := by decide +kernel
theorem dX12_fewestVisits_80 : decode cX12_fewestVisits 80 = .ok (.iconst (-1), 1) := by decide +kernel
theorem dX12_fewestVisits_81 : decode cX12_fewestVisits 81 = .ok (.if_icmp .ne 8, 3) := by decide +kernel
theorem dX12_fewestVisits_84 : decode cX12_fewestVisits 84 = .ok (.iload 4, 2) := by decide +kernel
theorem dX12_fewestVisits_86 : decode cX12_fewestVisits 86 = .ok (.goto 10, 3) := by decide +kernel
theorem dX12_fewestVisits_89 : decode cX12_fewestVisits 89 = .ok (.iload 4, 2) := by decide +kernel
theorem dX12_fewestVisits_91 : decode cX12_fewestVisits 91 = .ok (.iload 6, 2) := by decide +kernel
theorem dX12_fewestVisits_93 : decode cX12_fewestVisits 93 = .ok (.invokestatic 168, 3) := by decide +kernel
theorem dX12_fewestVisits_96 : decode cX12_fewestVisits 96 = .ok (.istore 4, 2) := by decide +kernel
theorem dX12_fewestVisits_98 : decode cX12_fewestVisits 98 = .ok (.iinc 5 1, 3) := by decide +kernel
theorem dX12_fewestVisits_101 : decode cX12_fewestVisits 101 = .ok (.goto (-39), 3) := by decide +kernel
theorem dX12_fewestVisits_104 : decode cX12_fewestVisits 104 = .ok (.iload 4, 2) := by decide +kernel
theorem dX12_fewestVisits_106 : decode cX12_fewestVisits 106 = .ok (.ireturn, 1) := by decide +kernel
theorem dX12_balance_0 : decode cX12_balance 0 = .ok (.aload_n 0, 1) := by decide +kernel
theorem dX12_balance_1 : decode cX12_balance 1 = .ok (.invokevirtual 334, 3) := by decide +kernel
theorem dX12_balance_4 : decode cX12_balance 4 = .ok (.istore_n 2, 1) := by decide +kernel
theorem dX12_balance_5 : decode cX12_balance 5 = .ok (.aload_n 0, 1) := by decide +kernel
theorem dX12_balance_6 : decode cX12_balance 6 = .ok (.iload_n 1, 1) := by decide +kernel
theorem dX12_balance_7 : decode cX12_balance 7 = .ok (.invokevirtual 307, 3) := by decide +kernel
theorem dX12_balance_10 : decode cX12_balance 10 = .ok (.invokestatic 295, 3) := by decide +kernel
theorem dX12_balance_13 : decode cX12_balance 13 = .ok (.istore_n 3, 1) := by decide +kernel
theorem dX12_balance_14 : decode cX12_balance 14 = .ok (.iconst 0, 1) := by decide +kernel
theorem dX12_balance_15 : decode cX12_balance 15 = .ok (.istore 4, 2) := by decide +kernel
theorem dX12_balance_17 : decode cX12_balance 17 = .ok (.iload 4, 2) := by decide +kernel
theorem dX12_balance_19 : decode cX12_balance 19 = .ok (.aload_n 0, 1) := by decide +kernel
theorem dX12_balance_20 : decode cX12_balance 20 = .ok (.getfield 280, 3) := by decide +kernel
theorem dX12_balance_23 : decode cX12_balance 23 = .ok (.if_icmp .ge 37, 3) := by decide +kernel
theorem dX12_balance_26 : decode cX12_balance 26 = .ok (.iload_n 3, 1) := by decide +kernel
theorem dX12_balance_27 : decode cX12_balance 27 = .ok (.aload_n 0, 1) := by decide +kernel
theorem dX12_balance_28 : decode cX12_balance 28 = .ok (.getfield 56, 3) := by decide +kernel
theorem dX12_balance_31 : decode cX12_balance 31 = .ok (.iload 4, 2) := by decide +kernel
theorem dX12_balance_33 : decode cX12_balance 33 = .ok (.iaload, 1) := by decide +kernel
theorem dX12_balance_34 : decode cX12_balance 34 = .ok (.iload_n 1, 1) := by decide +kernel
theorem dX12_balance_35 : decode cX12_balance 35 = .ok (.if_icmp .ne 16, 3) := by decide +kernel
theorem dX12_balance_38 : decode cX12_balance 38 = .ok (.iload_n 2, 1) := by decide +kernel
theorem dX12_balance_39 : decode cX12_balance 39 = .ok (.iload 4, 2) := by decide +kernel
theorem dX12_balance_41 : decode cX12_balance 41 = .ok (.invokestatic 94, 3) := by decide +kernel
theorem dX12_balance_44 : decode cX12_balance 44 = .ok (.ifCond .eq 7, 3) := by decide +kernel
theorem dX12_balance_47 : decode cX12_balance 47 = .ok (.iconst 1, 1) := by decide +kernel
theorem dX12_balance_48 : decode cX12_balance 48 = .ok (.goto 4, 3) := by decide +kernel
theorem dX12_balance_51 : decode cX12_balance 51 = .ok (.iconst 0, 1) := by decide +kernel
theorem dX12_balance_52 : decode cX12_balance 52 = .ok (.isub, 1) := by decide +kernel
theorem dX12_balance_53 : decode cX12_balance 53 = .ok (.istore_n 3, 1) := by decide +kernel
theorem dX12_balance_54 : decode cX12_balance 54 = .ok (.iinc 4 1, 3) := by decide +kernel
theorem dX12_balance_57 : decode cX12_balance 57 = .ok (.goto (-40), 3) := by decide +kernel
theorem dX12_balance_60 : decode cX12_balance 60 = .ok (.iload_n 3, 1) := by decide +kernel
theorem dX12_balance_61 : decode cX12_balance 61 = .ok (.ireturn, 1) := by decide +kernel
theorem dX12_hearten_0 : decode cX12_hearten 0 = .ok (.iconst 0, 1) := by decide +kernel
theorem dX12_hearten_1 : decode cX12_hearten 1 = .ok (.istore_n 2, 1) := by decide +kernel
theorem dX12_hearten_2 : decode cX12_hearten 2 = .ok (.aload_n 0, 1) := by decide +kernel
theorem dX12_hearten_3 : decode cX12_hearten 3 = .ok (.iconst 2, 1) := by decide +kernel
theorem dX12_hearten_4 : decode cX12_hearten 4 = .ok (.iload_n 1, 1) := by decide +kernel
theorem dX12_hearten_5 : decode cX12_hearten 5 = .ok (.iadd, 1) := by decide +kernel
theorem dX12_hearten_6 : decode cX12_hearten 6 = .ok (.invokevirtual 276, 3) := by decide +kernel
theorem dX12_hearten_9 : decode cX12_hearten 9 = .ok (.iload_n 2, 1) := by decide +kernel
theorem dX12_hearten_10 : decode cX12_hearten 10 = .ok (.iadd, 1) := by decide +kernel
theorem dX12_hearten_11 : decode cX12_hearten 11 = .ok (.bipush 9, 2) := by decide +kernel
theorem dX12_hearten_13 : decode cX12_hearten 13 = .ok (.if_icmp .gt 39, 3) := by decide +kernel
theorem dX12_hearten_16 : decode cX12_hearten 16 = .ok (.aload_n 0, 1) := by decide +kernel
theorem dX12_hearten_17 : decode cX12_hearten 17 = .ok (.getfield 44, 3) := by decide +kernel
theorem dX12_hearten_20 : decode cX12_hearten 20 = .ok (.iload_n 1, 1) := by decide +kernel
theorem dX12_hearten_21 : decode cX12_hearten 21 = .ok (.aload_n 0, 1) := by decide +kernel
theorem dX12_hearten_22 : decode cX12_hearten 22 = .ok (.iconst 2, 1) := by decide +kernel
theorem dX12_hearten_23 : decode cX12_hearten 23 = .ok (.iload_n 1, 1) := by decide +kernel
theorem dX12_hearten_24 : decode cX12_hearten 24 = .ok (.iadd, 1) := by decide +kernel
theorem dX12_hearten_25 : decode cX12_hearten 25 = .ok (.invokevirtual 276, 3) := by decide +kernel
theorem dX12_hearten_28 : decode cX12_hearten 28 = .ok (.iload_n 2, 1) := by decide +kernel
theorem dX12_hearten_29 : decode cX12_hearten 29 = .ok (.iadd, 1) := by decide +kernel
theorem dX12_hearten_30 : decode cX12_hearten 30 = .ok (.iastore, 1) := by decide +kernel
theorem dX12_hearten_31 : decode cX12_hearten 31 = .ok (.aload_n 0, 1) := by decide +kernel
theorem dX12_hearten_32 : decode cX12_hearten 32 = .ok (.iload_n 1, 1) := by decide +kernel
theorem dX12_hearten_33 : decode cX12_hearten 33 = .ok (.invokevirtual 307, 3) := by decide +kernel
theorem dX12_hearten_36 : decode cX12_hearten 36 = .ok (.aload_n 0, 1) := by decide +kernel
theorem dX12_hearten_37 : decode cX12_hearten 37 = .ok (.iload_n 1, 1) := by decide +kernel
theorem dX12_hearten_38 : decode cX12_hearten 38 = .ok (.invokevirtual 368, 3) := by decide +kernel
theorem dX12_hearten_41 : decode cX12_hearten 41 = .ok (.if_icmp .ne 5, 3) := by decide +kernel
theorem dX12_hearten_44 : decode cX12_hearten 44 = .ok (.iload_n 2, 1) := by decide +kernel
theorem dX12_hearten_45 : decode cX12_hearten 45 = .ok (.ireturn, 1) := by decide +kernel
theorem dX12_hearten_46 : decode cX12_hearten 46 = .ok (.iinc 2 1, 3) := by decide +kernel
theorem dX12_hearten_49 : decode cX12_hearten 49 = .ok (.goto (-47), 3) := by decide +kernel
theorem dX12_hearten_52 : decode cX12_hearten 52 = .ok (.iconst (-1), 1) := by decide +kernel
theorem dX12_hearten_53 : decode cX12_hearten 53 = .ok (.ireturn, 1) := by decide +kernel
theorem dX12_keeps_0 : decode cX12_keeps 0 = .ok (.aload_n 0, 1) := by decide +kernel
theorem dX12_keeps_1 : decode cX12_keeps 1 = .ok (.iconst 0, 1) := by decide +kernel
theorem dX12_keeps_2 : decode cX12_keeps 2 = .ok (.putfield 90, 3) := by decide +kernel
theorem dX12_keeps_5 : decode cX12_keeps 5 = .ok (.aload_n 0, 1) := by decide +kernel
theorem dX12_keeps_6 : decode cX12_keeps 6 = .ok (.iload_n 1, 1) := by decide +kernel
theorem dX12_keeps_7 : decode cX12_keeps 7 = .ok (.invokevirtual 310, 3) := by decide +kernel
theorem dX12_keeps_10 : decode cX12_keeps 10 = .ok (.ifCond .eq 11, 3) := by decide +kernel
theorem dX12_keeps_13 : decode cX12_keeps 13 = .ok (.aload_n 0, 1) := by decide +kernel
theorem dX12_keeps_14 : decode cX12_keeps 14 = .ok (.iload_n 2, 1) := by decide +kernel
theorem dX12_keeps_15 : decode cX12_keeps 15 = .ok (.invokevirtual 289, 3) := by decide +kernel
theorem dX12_keeps_18 : decode cX12_keeps 18 = .ok (.ifCond .ne 6, 3) := by decide +kernel
theorem dX12_keeps_21 : decode cX12_keeps 21 = .ok (.bipush (-99), 2) := by decide +kernel
theorem dX12_keeps_23 : decode cX12_keeps 23 = .ok (.ireturn, 1) := by decide +kernel
theorem dX12_keeps_24 : decode cX12_keeps 24 = .ok (.iload_n 3, 1) := by decide +kernel
theorem dX12_keeps_25 : decode cX12_keeps 25 = .ok (.tableswitch 75 0 5 #[39, 45, 51, 57, 63, 69], 39) := by decide +kernel
theorem dX12_keeps_64 : decode cX12_keeps 64 = .ok (.aload_n 0, 1) := by decide +kernel
theorem dX12_keeps_65 : decode cX12_keeps 65 = .ok (.iload_n 2, 1) := by decide +kernel
theorem dX12_keeps_66 : decode cX12_keeps 66 = .ok (.invokevirtual 368, 3) := by decide +kernel
theorem dX12_keeps_69 : decode cX12_keeps 69 = .ok (.ireturn, 1) := by decide +kernel
theorem dX12_keeps_70 : decode cX12_keeps 70 = .ok (.aload_n 0, 1) := by decide +kernel
theorem dX12_keeps_71 : decode cX12_keeps 71 = .ok (.iload_n 2, 1) := by decide +kernel
theorem dX12_keeps_72 : decode cX12_keeps 72 = .ok (.invokevirtual 301, 3) := by decide +kernel
theorem dX12_keeps_75 : decode cX12_keeps 75 = .ok (.ireturn, 1) := by decide +kernel
theorem dX12_keeps_76 : decode cX12_keeps 76 = .ok (.aload_n 0, 1) := by decide +kernel
theorem dX12_keeps_77 : decode cX12_keeps 77 = .ok (.iload_n 2, 1) := by decide +kernel
theorem dX12_keeps_78 : decode cX12_keeps 78 = .ok (.invokevirtual 307, 3) := by decide +kernel
theorem dX12_keeps_81 : decode cX12_keeps 81 = .ok (.ireturn, 1) := by decide +kernel
theorem dX12_keeps_82 : decode cX12_keeps 82 = .ok (.aload_n 0, 1) := by decide +kernel
theorem dX12_keeps_83 : decode cX12_keeps 83 = .ok (.iload_n 2, 1) := by decide +kernel
theorem dX12_keeps_84 : decode cX12_keeps 84 = .ok (.invokevirtual 385, 3) := by decide +kernel
theorem dX12_keeps_87 : decode cX12_keeps 87 = .ok (.ireturn, 1) := by decide +kernel
theorem dX12_keeps_88 : decode cX12_keeps 88 = .ok (.aload_n 0, 1) := by decide +kernel
theorem dX12_keeps_89 : decode cX12_keeps 89 = .ok (.iload_n 2, 1) := by decide +kernel
theorem dX12_keeps_90 : decode cX12_keeps 90 = .ok (.invokevirtual 388, 3) := by decide +kernel
theorem dX12_keeps_93 : decode cX12_keeps 93 = .ok (.ireturn, 1) := by decide +kernel
theorem dX12_keeps_94 : decode cX12_keeps 94 = .ok (.aload_n 0, 1) := by decide +kernel
theorem dX12_keeps_95 : decode cX12_keeps 95 = .ok (.iload_n 2, 1) := by decide +kernel
theorem dX12_keeps_96 : decode cX12_keeps 96 = .ok (.invokevirtual 391, 3) := by decide +kernel
theorem dX12_keeps_99 : decode cX12_keeps 99 = .ok (.ireturn, 1) := by decide +kernel
theorem dX12_keeps_100 : decode cX12_keeps 100 = .ok (.bipush (-99), 2) := by decide +kernel
theorem dX12_keeps_102 : decode cX12_keeps 102 = .ok (.ireturn, 1) := by decide +kernel
theorem dX12_heart_0 : decode cX12_heart 0 = .ok (.aload_n 0, 1) := by decide +kernel
theorem dX12_heart_1 : decode cX12_heart 1 = .ok (.iconst 0, 1) := by decide +kernel
theorem dX12_heart_2 : decode cX12_heart 2 = .ok (.putfield 90, 3) := by decide +kernel
theorem dX12_heart_5 : decode cX12_heart 5 = .ok (.aload_n 0, 1) := by decide +kernel
theorem dX12_heart_6 : decode cX12_heart 6 = .ok (.iload_n 1, 1) := by decide +kernel
theorem dX12_heart_7 : decode cX12_heart 7 = .ok (.invokevirtual 310, 3) := by decide +kernel
theorem dX12_heart_10 : decode cX12_heart 10 = .ok (.ifCond .eq 21, 3) := by decide +kernel
theorem dX12_heart_13 : decode cX12_heart 13 = .ok (.aload_n 0, 1) := by decide +kernel
theorem dX12_heart_14 : decode cX12_heart 14 = .ok (.iload_n 2, 1) := by decide +kernel
theorem dX12_heart_15 : decode cX12_heart 15 = .ok (.iload_n 3, 1) := by decide +kernel
theorem dX12_heart_16 : decode cX12_heart 16 = .ok (.invokevirtual 343, 3) := by decide +kernel
theorem dX12_heart_19 : decode cX12_heart 19 = .ok (.ifCond .eq 12, 3) := by decide +kernel
theorem dX12_heart_22 : decode cX12_heart 22 = .ok (.aload_n 0, 1) := by decide +kernel
theorem dX12_heart_23 : decode cX12_heart 23 = .ok (.iload_n 2, 1) := by decide +kernel
theorem dX12_heart_24 : decode cX12_heart 24 = .ok (.iload_n 3, 1) := by decide +kernel
theorem dX12_heart_25 : decode cX12_heart 25 = .ok (.invokevirtual 292, 3) := by decide +kernel
theorem dX12_heart_28 : decode cX12_heart 28 = .ok (.goto 4, 3) := by decide +kernel
theorem dX12_heart_31 : decode cX12_heart 31 = .ok (.iconst (-1), 1) := by decide +kernel
theorem dX12_heart_32 : decode cX12_heart 32 = .ok (.ireturn, 1) := by decide +kernel
theorem dX12_fallen_0 : decode cX12_fallen 0 = .ok (.aload_n 0, 1) := by decide +kernel
theorem dX12_fallen_1 : decode cX12_fallen 1 = .ok (.invokevirtual 334, 3) := by decide +kernel
theorem dX12_fallen_4 : decode cX12_fallen 4 = .ok (.istore_n 1, 1) := by decide +kernel
theorem dX12_fallen_5 : decode cX12_fallen 5 = .ok (.iconst 0, 1) := by decide +kernel
theorem dX12_fallen_6 : decode cX12_fallen 6 = .ok (.istore_n 2, 1) := by decide +kernel
theorem dX12_fallen_7 : decode cX12_fallen 7 = .ok (.iconst 0, 1) := by decide +kernel
theorem dX12_fallen_8 : decode cX12_fallen 8 = .ok (.istore_n 3, 1) := by decide +kernel
theorem dX12_fallen_9 : decode cX12_fallen 9 = .ok (.iload_n 3, 1) := by decide +kernel
theorem dX12_fallen_10 : decode cX12_fallen 10 = .ok (.aload_n 0, 1) := by decide +kernel
theorem dX12_fallen_11 : decode cX12_fallen 11 = .ok (.getfield 280, 3) := by decide +kernel
theorem dX12_fallen_14 : decode cX12_fallen 14 = .ok (.if_icmp .ge 32, 3) := by decide +kernel
theorem dX12_fallen_17 : decode cX12_fallen 17 = .ok (.iload_n 2, 1) := by decide +kernel
theorem dX12_fallen_18 : decode cX12_fallen 18 = .ok (.iload_n 1, 1) := by decide +kernel
theorem dX12_fallen_19 : decode cX12_fallen 19 = .ok (.iload_n 3, 1) := by decide +kernel
theorem dX12_fallen_20 : decode cX12_fallen 20 = .ok (.invokestatic 94, 3) := by decide +kernel
theorem dX12_fallen_23 : decode cX12_fallen 23 = .ok (.ifCond .eq 14, 3) := by decide +kernel
theorem dX12_fallen_26 : decode cX12_fallen 26 = .ok (.iconst 1, 1) := by decide +kernel
theorem dX12_fallen_27 : decode cX12_fallen 27 = .ok (.aload_n 0, 1) := by decide +kernel
theorem dX12_fallen_28 : decode cX12_fallen 28 = .ok (.getfield 56, 3) := by decide +kernel
theorem dX12_fallen_31 : decode cX12_fallen 31 = .ok (.iload_n 3, 1) := by decide +kernel
theorem dX12_fallen_32 : decode cX12_fallen 32 = .ok (.iaload, 1) := by decide +kernel
theorem dX12_fallen_33 : decode cX12_fallen 33 = .ok (.ishl, 1) := by decide +kernel
theorem dX12_fallen_34 : decode cX12_fallen 34 = .ok (.goto 4, 3) := by decide +kernel
theorem dX12_fallen_37 : decode cX12_fallen 37 = .ok (.iconst 0, 1) := by decide +kernel
theorem dX12_fallen_38 : decode cX12_fallen 38 = .ok (.ior, 1) := by decide +kernel
theorem dX12_fallen_39 : decode cX12_fallen 39 = .ok (.istore_n 2, 1) := by decide +kernel
theorem dX12_fallen_40 : decode cX12_fallen 40 = .ok (.iinc 3 1, 3) := by decide +kernel
theorem dX12_fallen_43 : decode cX12_fallen 43 = .ok (.goto (-34), 3) := by decide +kernel
theorem dX12_fallen_46 : decode cX12_fallen 46 = .ok (.iload_n 2, 1) := by decide +kernel
theorem dX12_fallen_47 : decode cX12_fallen 47 = .ok (.ireturn, 1) := by decide +kernel
theorem dX12_strikes_0 : decode cX12_strikes 0 = .ok (.iconst (-1), 1) := by decide +kernel
theorem dX12_strikes_1 : decode cX12_strikes 1 = .ok (.istore_n 1, 1) := by decide +kernel
theorem dX12_strikes_2 : decode cX12_strikes 2 = .ok (.iconst 0, 1) := by decide +kernel
theorem dX12_strikes_3 : decode cX12_strikes 3 = .ok (.istore_n 2, 1) := by decide +kernel
theorem dX12_strikes_4 : decode cX12_strikes 4 = .ok (.iload_n 2, 1) := by decide +kernel
theorem dX12_strikes_5 : decode cX12_strikes 5 = .ok (.iconst 1, 1) := by decide +kernel
theorem dX12_strikes_6 : decode cX12_strikes 6 = .ok (.aload_n 0, 1) := by decide +kernel
theorem dX12_strikes_7 : decode cX12_strikes 7 = .ok (.getfield 280, 3) := by decide +kernel
theorem dX12_strikes_10 : decode cX12_strikes 10 = .ok (.ishl, 1) := by decide +kernel
theorem dX12_strikes_11 : decode cX12_strikes 11 = .ok (.if_icmp .ge 53, 3) := by decide +kernel
theorem dX12_strikes_14 : decode cX12_strikes 14 = .ok (.aload_n 0, 1) := by decide +kernel
theorem dX12_strikes_15 : decode cX12_strikes 15 = .ok (.iload_n 2, 1) := by decide +kernel
theorem dX12_strikes_16 : decode cX12_strikes 16 = .ok (.putfield 261, 3) := by decide +kernel
theorem dX12_strikes_19 : decode cX12_strikes 19 = .ok (.iload_n 1, 1) := by decide +kernel
theorem dX12_strikes_20 : decode cX12_strikes 20 = .ok (.iconst (-1), 1) := by decide +kernel
theorem dX12_strikes_21 : decode cX12_strikes 21 = .ok (.if_icmp .eq 14, 3) := by decide +kernel
theorem dX12_strikes_24 : decode cX12_strikes 24 = .ok (.iload_n 2, 1) := by decide +kernel
theorem dX12_strikes_25 : decode cX12_strikes 25 = .ok (.invokestatic 295, 3) := by decide +kernel
theorem dX12_strikes_28 : decode cX12_strikes 28 = .ok (.iload_n 1, 1) := by decide +kernel
theorem dX12_strikes_29 : decode cX12_strikes 29 = .ok (.invokestatic 295, 3) := by decide +kernel
theorem dX12_strikes_32 : decode cX12_strikes 32 = .ok (.if_icmp .ge 7, 3) := by decide +kernel
theorem dX12_strikes_35 : decode cX12_strikes 35 = .ok (.iconst 1, 1) := by decide +kernel
theorem dX12_strikes_36 : decode cX12_strikes 36 = .ok (.goto 4, 3) := by decide +kernel
theorem dX12_strikes_39 : decode cX12_strikes 39 = .ok (.iconst 0, 1) := by decide +kernel
theorem dX12_strikes_40 : decode cX12_strikes 40 = .ok (.istore_n 3, 1) := by decide +kernel
theorem dX12_strikes_41 : decode cX12_strikes 41 = .ok (.iload_n 3, 1) := by decide +kernel
theorem dX12_strikes_42 : decode cX12_strikes 42 = .ok (.ifCond .eq 14, 3) := by decide +kernel
theorem dX12_strikes_45 : decode cX12_strikes 45 = .ok (.aload_n 0, 1) := by decide +kernel
theorem dX12_strikes_46 : decode cX12_strikes 46 = .ok (.invokevirtual 334, 3) := by decide +kernel
theorem dX12_strikes_49 : decode cX12_strikes 49 = .ok (.ifCond .ne 7, 3) := by decide +kernel
theorem dX12_strikes_52 : decode cX12_strikes 52 = .ok (.iload_n 2, 1) := by decide +kernel
theorem dX12_strikes_53 : decode cX12_strikes 53 = .ok (.goto 4, 3) := by decide +kernel
theorem dX12_strikes_56 : decode cX12_strikes 56 = .ok (.iload_n 1, 1) := by decide +kernel
theorem dX12_strikes_57 : decode cX12_strikes 57 = .ok (.istore_n 1, 1) := by decide +kernel
theorem dX12_strikes_58 : decode cX12_strikes 58 = .ok (.iinc 2 1, 3) := by decide +kernel
theorem dX12_strikes_61 : decode cX12_strikes 61 = .ok (.goto (-57), 3) := by decide +kernel
theorem dX12_strikes_64 : decode cX12_strikes 64 = .ok (.iload_n 1, 1) := by decide +kernel
theorem dX12_strikes_65 : decode cX12_strikes 65 = .ok (.ireturn, 1) := by decide +kernel
theorem dX12_swornTo_0 : decode cX12_swornTo 0 = .ok (.iconst 0, 1) := by decide +kernel
theorem dX12_swornTo_1 : decode cX12_swornTo 1 = .ok (.istore_n 2, 1) := by decide +kernel
theorem dX12_swornTo_2 : decode cX12_swornTo 2 = .ok (.iconst 0, 1) := by decide +kernel
theorem dX12_swornTo_3 : decode cX12_swornTo 3 = .ok (.istore_n 3, 1) := by decide +kernel
theorem dX12_swornTo_4 : decode cX12_swornTo 4 = .ok (.iload_n 3, 1) := by decide +kernel
theorem dX12_swornTo_5 : decode cX12_swornTo 5 = .ok (.aload_n 0, 1) := by decide +kernel
theorem dX12_swornTo_6 : decode cX12_swornTo 6 = .ok (.getfield 280, 3) := by decide +kernel
theorem dX12_swornTo_9 : decode cX12_swornTo 9 = .ok (.if_icmp .ge 37, 3) := by decide +kernel
theorem dX12_swornTo_12 : decode cX12_swornTo 12 = .ok (.iload_n 2, 1) := by decide +kernel
theorem dX12_swornTo_13 : decode cX12_swornTo 13 = .ok (.iload_n 1, 1) := by decide +kernel
theorem dX12_swornTo_14 : decode cX12_swornTo 14 = .ok (.aload_n 0, 1) := by decide +kernel
theorem dX12_swornTo_15 : decode cX12_swornTo 15 = .ok (.getfield 56, 3) := by decide +kernel
theorem dX12_swornTo_18 : decode cX12_swornTo 18 = .ok (.iload_n 3, 1) := by decide +kernel
theorem dX12_swornTo_19 : decode cX12_swornTo 19 = .ok (.iaload, 1) := by decide +kernel
theorem dX12_swornTo_20 : decode cX12_swornTo 20 = .ok (.invokestatic 94, 3) := by decide +kernel
theorem dX12_swornTo_23 : decode cX12_swornTo 23 = .ok (.ifCond .eq 14, 3) := by decide +kernel
theorem dX12_swornTo_26 : decode cX12_swornTo 26 = .ok (.iconst 1, 1) := by decide +kernel
theorem dX12_swornTo_27 : decode cX12_swornTo 27 = .ok (.aload_n 0, 1) := by decide +kernel
theorem dX12_swornTo_28 : decode cX12_swornTo 28 = .ok (.getfield 59, 3) := by decide +kernel
theorem dX12_swornTo_31 : decode cX12_swornTo 31 = .ok (.iload_n 3, 1) := by decide +kernel
theorem dX12_swornTo_32 : decode cX12_swornTo 32 = .ok (.iaload, 1) := by decide +kernel
theorem dX12_swornTo_33 : decode cX12_swornTo 33 = .ok (.ishl, 1) := by decide +kernel
theorem dX12_swornTo_34 : decode cX12_swornTo 34 = .ok (.goto 4, 3) := by decide +kernel
theorem dX12_swornTo_37 : decode cX12_swornTo 37 = .ok (.iconst 0, 1) := by decide +kernel
theorem dX12_swornTo_38 : decode cX12_swornTo 38 = .ok (.ior, 1) := by decide +kernel
theorem dX12_swornTo_39 : decode cX12_swornTo 39 = .ok (.istore_n 2, 1) := by decide +kernel
theorem dX12_swornTo_40 : decode cX12_swornTo 40 = .ok (.iinc 3 1, 3) := by decide +kernel
theorem dX12_swornTo_43 : decode cX12_swornTo 43 = .ok (.goto (-39), 3) := by decide +kernel
theorem dX12_swornTo_46 : decode cX12_swornTo 46 = .ok (.iload_n 2, 1) := by decide +kernel
theorem dX12_swornTo_47 : decode cX12_swornTo 47 = .ok (.ireturn, 1) := by decide +kernel
theorem dX12_ringOf_0 : decode cX12_ringOf 0 = .ok (.iconst 1, 1) := by decide +kernel
theorem dX12_ringOf_1 : decode cX12_ringOf 1 = .ok (.iload_n 1, 1) := by decide +kernel
theorem dX12_ringOf_2 : decode cX12_ringOf 2 = .ok (.ishl, 1) := by decide +kernel
theorem dX12_ringOf_3 : decode cX12_ringOf 3 = .ok (.istore_n 2, 1) := by decide +kernel
theorem dX12_ringOf_4 : decode cX12_ringOf 4 = .ok (.iconst 1, 1) := by decide +kernel
theorem dX12_ringOf_5 : decode cX12_ringOf 5 = .ok (.istore_n 3, 1) := by decide +kernel
theorem dX12_ringOf_6 : decode cX12_ringOf 6 = .ok (.iload_n 3, 1) := by decide +kernel
theorem dX12_ringOf_7 : decode cX12_ringOf 7 = .ok (.bipush 6, 2) := by decide +kernel
theorem dX12_ringOf_9 : decode cX12_ringOf 9 = .ok (.if_icmp .gt 25, 3) := by decide +kernel
theorem dX12_ringOf_12 : decode cX12_ringOf 12 = .ok (.aload_n 0, 1) := by decide +kernel
theorem dX12_ringOf_13 : decode cX12_ringOf 13 = .ok (.iload_n 2, 1) := by decide +kernel
theorem dX12_ringOf_14 : decode cX12_ringOf 14 = .ok (.invokevirtual 394, 3) := by decide +kernel
theorem dX12_ringOf_17 : decode cX12_ringOf 17 = .ok (.istore_n 2, 1) := by decide +kernel
theorem dX12_ringOf_18 : decode cX12_ringOf 18 = .ok (.iload_n 2, 1) := by decide +kernel
theorem dX12_ringOf_19 : decode cX12_ringOf 19 = .ok (.iload_n 1, 1) := by decide +kernel
theorem dX12_ringOf_20 : decode cX12_ringOf 20 = .ok (.invokestatic 94, 3) := by decide +kernel
theorem dX12_ringOf_23 : decode cX12_ringOf 23 = .ok (.ifCond .eq 5, 3) := by decide +kernel
theorem dX12_ringOf_26 : decode cX12_ringOf 26 = .ok (.iload_n 3, 1) := by decide +kernel
theorem dX12_ringOf_27 : decode cX12_ringOf 27 = .ok (.ireturn, 1) := by decide +kernel
theorem dX12_ringOf_28 : decode cX12_ringOf 28 = .ok (.iinc 3 1, 3) := by decide +kernel
theorem dX12_ringOf_31 : decode cX12_ringOf 31 = .ok (.goto (-25), 3) := by decide +kernel
theorem dX12_ringOf_34 : decode cX12_ringOf 34 = .ok (.iconst (-1), 1) := by decide +kernel
theorem dX12_ringOf_35 : decode cX12_ringOf 35 = .ok (.ireturn, 1) := by decide +kernel
theorem dX12_ring_0 : decode cX12_ring 0 = .ok (.iconst (-1), 1) := by decide +kernel
theorem dX12_ring_1 : decode cX12_ring 1 = .ok (.istore_n 2, 1) := by decide +kernel
theorem dX12_ring_2 : decode cX12_ring 2 = .ok (.iconst 0, 1) := by decide +kernel
theorem dX12_ring_3 : decode cX12_ring 3 = .ok (.istore_n 3, 1) := by decide +kernel
theorem dX12_ring_4 : decode cX12_ring 4 = .ok (.iconst 0, 1) := by decide +kernel
theorem dX12_ring_5 : decode cX12_ring 5 = .ok (.istore 4, 2) := by decide +kernel
theorem dX12_ring_7 : decode cX12_ring 7 = .ok (.iload 4, 2) := by decide +kernel
theorem dX12_ring_9 : decode cX12_ring 9 = .ok (.aload_n 0, 1) := by decide +kernel
theorem dX12_ring_10 : decode cX12_ring 10 = .ok (.getfield 283, 3) := by decide +kernel
theorem dX12_ring_13 : decode cX12_ring 13 = .ok (.if_icmp .ge 58, 3) := by decide +kernel
theorem dX12_ring_16 : decode cX12_ring 16 = .ok (.aload_n 0, 1) := by decide +kernel
theorem dX12_ring_17 : decode cX12_ring 17 = .ok (.iload 4, 2) := by decide +kernel
theorem dX12_ring_19 : decode cX12_ring 19 = .ok (.invokevirtual 397, 3) := by decide +kernel
theorem dX12_ring_22 : decode cX12_ring 22 = .ok (.istore 5, 2) := by decide +kernel
theorem dX12_ring_24 : decode cX12_ring 24 = .ok (.iload_n 3, 1) := by decide +kernel
theorem dX12_ring_25 : decode cX12_ring 25 = .ok (.iload 5, 2) := by decide +kernel
theorem dX12_ring_27 : decode cX12_ring 27 = .ok (.iconst (-1), 1) := by decide +kernel
theorem dX12_ring_28 : decode cX12_ring 28 = .ok (.if_icmp .ne 7, 3) := by decide +kernel
theorem dX12_ring_31 : decode cX12_ring 31 = .ok (.iconst 0, 1) := by decide +kernel
theorem dX12_ring_32 : decode cX12_ring 32 = .ok (.goto 7, 3) := by decide +kernel
theorem dX12_ring_35 : decode cX12_ring 35 = .ok (.iconst 1, 1) := by decide +kernel
theorem dX12_ring_36 : decode cX12_ring 36 = .ok (.iload 4, 2) := by decide +kernel
theorem dX12_ring_38 : decode cX12_ring 38 = .ok (.ishl, 1) := by decide +kernel
theorem dX12_ring_39 : decode cX12_ring 39 = .ok (.ior, 1) := by decide +kernel
theorem dX12_ring_40 : decode cX12_ring 40 = .ok (.istore_n 3, 1) := by decide +kernel
theorem dX12_ring_41 : decode cX12_ring 41 = .ok (.iload 5, 2) := by decide +kernel
theorem dX12_ring_43 : decode cX12_ring 43 = .ok (.iconst (-1), 1) := by decide +kernel
theorem dX12_ring_44 : decode cX12_ring 44 = .ok (.if_icmp .eq 19, 3) := by decide +kernel
theorem dX12_ring_47 : decode cX12_ring 47 = .ok (.iload_n 2, 1) := by decide +kernel
theorem dX12_ring_48 : decode cX12_ring 48 = .ok (.iconst (-1), 1) := by decide +kernel
theorem dX12_ring_49 : decode cX12_ring 49 = .ok (.if_icmp .eq 9, 3) := by decide +kernel
theorem dX12_ring_52 : decode cX12_ring 52 = .ok (.iload 5, 2) := by decide +kernel
theorem dX12_ring_54 : decode cX12_ring 54 = .ok (.iload_n 2, 1) := by decide +kernel
theorem dX12_ring_55 : decode cX12_ring 55 = .ok (.if_icmp .ge 8, 3) := by decide +kernel
theorem dX12_ring_58 : decode cX12_ring 58 = .ok (.iload 5, 2) := by decide +kernel
theorem dX12_ring_60 : decode cX12_ring 60 = .ok (.goto 4, 3) := by decide +kernel
theorem dX12_ring_63 : decode cX12_ring 63 = .ok (.iload_n 2, 1) := by decide +kernel
theorem dX12_ring_64 : decode cX12_ring 64 = .ok (.istore_n 2, 1) := by decide +kernel
theorem dX12_ring_65 : decode cX12_ring 65 = .ok (.iinc 4 1, 3) := by decide +kernel
theorem dX12_ring_68 : decode cX12_ring 68 = .ok (.goto (-61), 3) := by decide +kernel
theorem dX12_ring_71 : decode cX12_ring 71 = .ok (.iload_n 1, 1) := by decide +kernel
theorem dX12_ring_72 : decode cX12_ring 72 = .ok (.ifCond .eq 7, 3) := by decide +kernel
theorem dX12_ring_75 : decode cX12_ring 75 = .ok (.iload_n 3, 1) := by decide +kernel
theorem dX12_ring_76 : decode cX12_ring 76 = .ok (.goto 4, 3) := by decide +kernel
theorem dX12_ring_79 : decode cX12_ring 79 = .ok (.iload_n 2, 1) := by decide +kernel
theorem dX12_ring_80 : decode cX12_ring 80 = .ok (.ireturn, 1) := by decide +kernel
theorem dX12_fall_0 : decode cX12_fall 0 = .ok (.aload_n 0, 1) := by decide +kernel
theorem dX12_fall_1 : decode cX12_fall 1 = .ok (.iconst 0, 1) := by decide +kernel
theorem dX12_fall_2 : decode cX12_fall 2 = .ok (.putfield 90, 3) := by decide +kernel
theorem dX12_fall_5 : decode cX12_fall 5 = .ok (.aload_n 0, 1) := by decide +kernel
theorem dX12_fall_6 : decode cX12_fall 6 = .ok (.iload_n 1, 1) := by decide +kernel
theorem dX12_fall_7 : decode cX12_fall 7 = .ok (.invokevirtual 310, 3) := by decide +kernel
theorem dX12_fall_10 : decode cX12_fall 10 = .ok (.ifCond .ne 6, 3) := by decide +kernel
theorem dX12_fall_13 : decode cX12_fall 13 = .ok (.bipush (-2), 2) := by decide +kernel
theorem dX12_fall_15 : decode cX12_fall 15 = .ok (.ireturn, 1) := by decide +kernel
theorem dX12_fall_16 : decode cX12_fall 16 = .ok (.iload_n 2, 1) := by decide +kernel
theorem dX12_fall_17 : decode cX12_fall 17 = .ok (.tableswitch 68 0 4 #[35, 40, 48, 53, 53], 35) := by decide +kernel
theorem dX12_fall_52 : decode cX12_fall 52 = .ok (.aload_n 0, 1) := by decide +kernel
theorem dX12_fall_53 : decode cX12_fall 53 = .ok (.invokevirtual 400, 3) := by decide +kernel
theorem dX12_fall_56 : decode cX12_fall 56 = .ok (.ireturn, 1) := by decide +kernel
theorem dX12_fall_57 : decode cX12_fall 57 = .ok (.aload_n 0, 1) := by decide +kernel
theorem dX12_fall_58 : decode cX12_fall 58 = .ok (.invokevirtual 403, 3) := by decide +kernel
theorem dX12_fall_61 : decode cX12_fall 61 = .ok (.invokestatic 295, 3) := by decide +kernel
theorem dX12_fall_64 : decode cX12_fall 64 = .ok (.ireturn, 1) := by decide +kernel
theorem dX12_fall_65 : decode cX12_fall 65 = .ok (.aload_n 0, 1) := by decide +kernel
theorem dX12_fall_66 : decode cX12_fall 66 = .ok (.invokevirtual 403, 3) := by decide +kernel
theorem dX12_fall_69 : decode cX12_fall 69 = .ok (.ireturn, 1) := by decide +kernel
theorem dX12_fall_70 : decode cX12_fall 70 = .ok (.aload_n 0, 1) := by decide +kernel
theorem dX12_fall_71 : decode cX12_fall 71 = .ok (.iload_n 2, 1) := by decide +kernel
theorem dX12_fall_72 : decode cX12_fall 72 = .ok (.iconst 4, 1) := by decide +kernel
theorem dX12_fall_73 : decode cX12_fall 73 = .ok (.if_icmp .ne 7, 3) := by decide +kernel
theorem dX12_fall_76 : decode cX12_fall 76 = .ok (.iconst 1, 1) := by decide +kernel
theorem dX12_fall_77 : decode cX12_fall 77 = .ok (.goto 4, 3) := by decide +kernel
theorem dX12_fall_80 : decode cX12_fall 80 = .ok (.iconst 0, 1) := by decide +kernel
theorem dX12_fall_81 : decode cX12_fall 81 = .ok (.invokevirtual 406, 3) := by decide +kernel
theorem dX12_fall_84 : decode cX12_fall 84 = .ok (.ireturn, 1) := by decide +kernel
theorem dX12_fall_85 : decode cX12_fall 85 = .ok (.bipush (-2), 2) := by decide +kernel
theorem dX12_fall_87 : decode cX12_fall 87 = .ok (.ireturn, 1) := by decide +kernel
theorem dX12_allWants_0 : decode cX12_allWants 0 = .ok (.aload_n 0, 1) := by decide +kernel
theorem dX12_allWants_1 : decode cX12_allWants 1 = .ok (.getfield 32, 3) := by decide +kernel
theorem dX12_allWants_4 : decode cX12_allWants 4 = .ok (.bipush 13, 2) := by decide +kernel
theorem dX12_allWants_6 : decode cX12_allWants 6 = .ok (.aload_n 0, 1) := by decide +kernel
theorem dX12_allWants_7 : decode cX12_allWants 7 = .ok (.getfield 410, 3) := by decide +kernel
theorem dX12_allWants_10 : decode cX12_allWants 10 = .ok (.imul, 1) := by decide +kernel
theorem dX12_allWants_11 : decode cX12_allWants 11 = .ok (.iaload, 1) := by decide +kernel
theorem dX12_allWants_12 : decode cX12_allWants 12 = .ok (.ireturn, 1) := by decide +kernel
theorem dX12_wantOf_0 : decode cX12_wantOf 0 = .ok (.aload_n 0, 1) := by decide +kernel
theorem dX12_wantOf_1 : decode cX12_wantOf 1 = .ok (.getfield 32, 3) := by decide +kernel
theorem dX12_wantOf_4 : decode cX12_wantOf 4 = .ok (.bipush 13, 2) := by decide +kernel
theorem dX12_wantOf_6 : decode cX12_wantOf 6 = .ok (.aload_n 0, 1) := by decide +kernel
theorem dX12_wantOf_7 : decode cX12_wantOf 7 = .ok (.getfield 410, 3) := by decide +kernel
theorem dX12_wantOf_10 : decode cX12_wantOf 10 = .ok (.imul, 1) := by decide +kernel
theorem dX12_wantOf_11 : decode cX12_wantOf 11 = .ok (.iconst 1, 1) := by decide +kernel
theorem dX12_wantOf_12 : decode cX12_wantOf 12 = .ok (.iadd, 1) := by decide +kernel
theorem dX12_wantOf_13 : decode cX12_wantOf 13 = .ok (.iconst 2, 1) := by decide +kernel
theorem dX12_wantOf_14 : decode cX12_wantOf 14 = .ok (.iload_n 1, 1) := by decide +kernel
theorem dX12_wantOf_15 : decode cX12_wantOf 15 = .ok (.imul, 1) := by decide +kernel
theorem dX12_wantOf_16 : decode cX12_wantOf 16 = .ok (.iadd, 1) := by decide +kernel
theorem dX12_wantOf_17 : decode cX12_wantOf 17 = .ok (.iload_n 2, 1) := by decide +kernel
theorem dX12_wantOf_18 : decode cX12_wantOf 18 = .ok (.iadd, 1) := by decide +kernel
theorem dX12_wantOf_19 : decode cX12_wantOf 19 = .ok (.iaload, 1) := by decide +kernel
theorem dX12_wantOf_20 : decode cX12_wantOf 20 = .ok (.ireturn, 1) := by decide +kernel
theorem dX12_hasWants_0 : decode cX12_hasWants 0 = .ok (.aload_n 0, 1) := by decide +kernel
theorem dX12_hasWants_1 : decode cX12_hasWants 1 = .ok (.iload_n 1, 1) := by decide +kernel
theorem dX12_hasWants_2 : decode cX12_hasWants 2 = .ok (.putfield 410, 3) := by decide +kernel
theorem dX12_hasWants_5 : decode cX12_hasWants 5 = .ok (.aload_n 0, 1) := by decide +kernel
theorem dX12_hasWants_6 : decode cX12_hasWants 6 = .ok (.iconst 2, 1) := by decide +kernel
theorem dX12_hasWants_7 : decode cX12_hasWants 7 = .ok (.iload_n 1, 1) := by decide +kernel
theorem dX12_hasWants_8 : decode cX12_hasWants 8 = .ok (.invokevirtual 249, 3) := by decide +kernel
theorem dX12_hasWants_11 : decode cX12_hasWants 11 = .ok (.ireturn, 1) := by decide +kernel
theorem dX12_want_0 : decode cX12_want 0 = .ok (.aload_n 0, 1) := by decide +kernel
theorem dX12_want_1 : decode cX12_want 1 = .ok (.iconst 0, 1) := by decide +kernel
theorem dX12_want_2 : decode cX12_want 2 = .ok (.putfield 90, 3) := by decide +kernel
theorem dX12_want_5 : decode cX12_want 5 = .ok (.aload_n 0, 1) := by decide +kernel
theorem dX12_want_6 : decode cX12_want 6 = .ok (.iload_n 1, 1) := by decide +kernel
theorem dX12_want_7 : decode cX12_want 7 = .ok (.invokevirtual 413, 3) := by decide +kernel
theorem dX12_want_10 : decode cX12_want 10 = .ok (.ifCond .ne 6, 3) := by decide +kernel
theorem dX12_want_13 : decode cX12_want 13 = .ok (.bipush (-2), 2) := by decide +kernel
theorem dX12_want_15 : decode cX12_want 15 = .ok (.ireturn, 1) := by decide +kernel
theorem dX12_want_16 : decode cX12_want 16 = .ok (.iload_n 2, 1) := by decide +kernel
theorem dX12_want_17 : decode cX12_want 17 = .ok (.iconst (-1), 1) := by decide +kernel
theorem dX12_want_18 : decode cX12_want 18 = .ok (.if_icmp .ne 17, 3) := by decide +kernel
theorem dX12_want_21 : decode cX12_want 21 = .ok (.iload_n 3, 1) := by decide +kernel
theorem dX12_want_22 : decode cX12_want 22 = .ok (.ifCond .ne 10, 3) := by decide +kernel
theorem dX12_want_25 : decode cX12_want 25 = .ok (.aload_n 0, 1) := by decide +kernel
theorem dX12_want_26 : decode cX12_want 26 = .ok (.invokevirtual 416, 3) := by decide +kernel
theorem dX12_want_29 : decode cX12_want 29 = .ok (.goto 5, 3) := by decide +kernel
theorem dX12_want_32 : decode cX12_want 32 = .ok (.bipush (-2), 2) := by decide +kernel
theorem dX12_want_34 : decode cX12_want 34 = .ok (.ireturn, 1) := by decide +kernel
theorem dX12_want_35 : decode cX12_want 35 = .ok (.iload_n 2, 1) := by decide +kernel
theorem dX12_want_36 : decode cX12_want 36 = .ok (.iconst 0, 1) := by decide +kernel
theorem dX12_want_37 : decode cX12_want 37 = .ok (.aload_n 0, 1) := by decide +kernel
theorem dX12_want_38 : decode cX12_want 38 = .ok (.invokevirtual 416, 3) := by decide +kernel
theorem dX12_want_41 : decode cX12_want 41 = .ok (.iconst 1, 1) := by decide +kernel
theorem dX12_want_42 : decode cX12_want 42 = .ok (.isub, 1) := by decide +kernel
theorem dX12_want_43 : decode cX12_want 43 = .ok (.invokestatic 102, 3) := by decide +kernel
theorem dX12_want_46 : decode cX12_want 46 = .ok (.ifCond .eq 21, 3) := by decide +kernel
theorem dX12_want_49 : decode cX12_want 49 = .ok (.iload_n 3, 1) := by decide +kernel
theorem dX12_want_50 : decode cX12_want 50 = .ok (.iconst 0, 1) := by decide +kernel
theorem dX12_want_51 : decode cX12_want 51 = .ok (.iconst 1, 1) := by decide +kernel
theorem dX12_want_52 : decode cX12_want 52 = .ok (.invokestatic 102, 3) := by decide +kernel
theorem dX12_want_55 : decode cX12_want 55 = .ok (.ifCond .eq 12, 3) := by decide +kernel
theorem dX12_want_58 : decode cX12_want 58 = .ok (.aload_n 0, 1) := by decide +kernel
theorem dX12_want_59 : decode cX12_want 59 = .ok (.iload_n 2, 1) := by decide +kernel
theorem dX12_want_60 : decode cX12_want 60 = .ok (.iload_n 3, 1) := by decide +kernel
theorem dX12_want_61 : decode cX12_want 61 = .ok (.invokevirtual 419, 3) := by decide +kernel
theorem dX12_want_64 : decode cX12_want 64 = .ok (.goto 5, 3) := by decide +kernel
theorem dX12_want_67 : decode cX12_want 67 = .ok (.bipush (-2), 2) := by decide +kernel
theorem dX12_want_69 : decode cX12_want 69 = .ok (.ireturn, 1) := by decide +kernel
theorem dX12_layRow_0 : decode cX12_layRow 0 = .ok (.iload_n 1, 1) := by decide +kernel
theorem dX12_layRow_1 : decode cX12_layRow 1 = .ok (.istore_n 2, 1) := by decide +kernel
theorem dX12_layRow_2 : decode cX12_layRow 2 = .ok (.iconst 0, 1) := by decide +kernel
theorem dX12_layRow_3 : decode cX12_layRow 3 = .ok (.istore_n 3, 1) := by decide +kernel
theorem dX12_layRow_4 : decode cX12_layRow 4 = .ok (.aload_n 0, 1) := by decide +kernel
theorem dX12_layRow_5 : decode cX12_layRow 5 = .ok (.invokevirtual 416, 3) := by decide +kernel
theorem dX12_layRow_8 : decode cX12_layRow 8 = .ok (.iconst 1, 1) := by decide +kernel
theorem dX12_layRow_9 : decode cX12_layRow 9 = .ok (.isub, 1) := by decide +kernel
theorem dX12_layRow_10 : decode cX12_layRow 10 = .ok (.istore 4, 2) := by decide +kernel
theorem dX12_layRow_12 : decode cX12_layRow 12 = .ok (.iload 4, 2) := by decide +kernel
theorem dX12_layRow_14 : decode cX12_layRow 14 = .ok (.ifCond .lt 112, 3) := by decide +kernel
theorem dX12_layRow_17 : decode cX12_layRow 17 = .ok (.aload_n 0, 1) := by decide +kernel
theorem dX12_layRow_18 : decode cX12_layRow 18 = .ok (.getfield 71, 3) := by decide +kernel
theorem dX12_layRow_21 : decode cX12_layRow 21 = .ok (.iload 4, 2) := by decide +kernel
theorem dX12_layRow_23 : decode cX12_layRow 23 = .ok (.iload_n 2, 1) := by decide +kernel
theorem dX12_layRow_24 : decode cX12_layRow 24 = .ok (.bipush 7, 2) := by decide +kernel
theorem dX12_layRow_26 : decode cX12_layRow 26 = .ok (.irem, 1) := by decide +kernel
theorem dX12_layRow_27 : decode cX12_layRow 27 = .ok (.iastore, 1) := by decide +kernel
theorem dX12_layRow_28 : decode cX12_layRow 28 = .ok (.iload_n 2, 1) := by decide +kernel
theorem dX12_layRow_29 : decode cX12_layRow 29 = .ok (.bipush 7, 2) := by decide +kernel
theorem dX12_layRow_31 : decode cX12_layRow 31 = .ok (.idiv, 1) := by decide +kernel
theorem dX12_layRow_32 : decode cX12_layRow 32 = .ok (.istore_n 2, 1) := by decide +kernel
theorem dX12_layRow_33 : decode cX12_layRow 33 = .ok (.aload_n 0, 1) := by decide +kernel
theorem dX12_layRow_34 : decode cX12_layRow 34 = .ok (.getfield 71, 3) := by decide +kernel
theorem dX12_layRow_37 : decode cX12_layRow 37 = .ok (.iload 4, 2) := by decide +kernel
theorem dX12_layRow_39 : decode cX12_layRow 39 = .ok (.iaload, 1) := by decide +kernel
theorem dX12_layRow_40 : decode cX12_layRow 40 = .ok (.bipush 6, 2) := by decide +kernel
theorem dX12_layRow_42 : decode cX12_layRow 42 = .ok (.if_icmp .ge 50, 3) := by decide +kernel
theorem dX12_layRow_45 : decode cX12_layRow 45 = .ok (.aload_n 0, 1) := by decide +kernel
theorem dX12_layRow_46 : decode cX12_layRow 46 = .ok (.getfield 71, 3) := by decide +kernel
theorem dX12_layRow_49 : decode cX12_layRow 49 = .ok (.iload 4, 2) := by decide +kernel
theorem dX12_layRow_51 : decode cX12_layRow 51 = .ok (.iaload, 1) := by decide +kernel
theorem dX12_layRow_52 : decode cX12_layRow 52 = .ok (.aload_n 0, 1) := by decide +kernel
theorem dX12_layRow_53 : decode cX12_layRow 53 = .ok (.getfield 283, 3) := by decide +kernel
theorem dX12_layRow_56 : decode cX12_layRow 56 = .ok (.if_icmp .ge 34, 3) := by decide +kernel
theorem dX12_layRow_59 : decode cX12_layRow 59 = .ok (.iload_n 3, 1) := by decide +kernel
theorem dX12_layRow_60 : decode cX12_layRow 60 = .ok (.aload_n 0, 1) := by decide +kernel
theorem dX12_layRow_61 : decode cX12_layRow 61 = .ok (.getfield 71, 3) := by decide +kernel
theorem dX12_layRow_64 : decode cX12_layRow 64 = .ok (.iload 4, 2) := by decide +kernel
theorem dX12_layRow_66 : decode cX12_layRow 66 = .ok (.iaload, 1) := by decide +kernel
theorem dX12_layRow_67 : decode cX12_layRow 67 = .ok (.invokestatic 94, 3) := by decide +kernel
theorem dX12_layRow_70 : decode cX12_layRow 70 = .ok (.ifCond .ne 20, 3) := by decide +kernel
theorem dX12_layRow_73 : decode cX12_layRow 73 = .ok (.aload_n 0, 1) := by decide +kernel
theorem dX12_layRow_74 : decode cX12_layRow 74 = .ok (.getfield 71, 3) := by decide +kernel
theorem dX12_layRow_77 : decode cX12_layRow 77 = .ok (.iload 4, 2) := by decide +kernel
theorem dX12_layRow_79 : decode cX12_layRow 79 = .ok (.iaload, 1) := by decide +kernel
theorem dX12_layRow_80 : decode cX12_layRow 80 = .ok (.aload_n 0, 1) := by decide +kernel
theorem dX12_layRow_81 : decode cX12_layRow 81 = .ok (.iload 4, 2) := by decide +kernel
theorem dX12_layRow_83 : decode cX12_layRow 83 = .ok (.iconst 0, 1) := by decide +kernel
theorem dX12_layRow_84 : decode cX12_layRow 84 = .ok (.invokevirtual 419, 3) := by decide +kernel
theorem dX12_layRow_87 : decode cX12_layRow 87 = .ok (.if_icmp .ne 5, 3) := by decide +kernel
theorem dX12_layRow_90 : decode cX12_layRow 90 = .ok (.iconst 0, 1) := by decide +kernel
theorem dX12_layRow_91 : decode cX12_layRow 91 = .ok (.ireturn, 1) := by decide +kernel
theorem dX12_layRow_92 : decode cX12_layRow 92 = .ok (.iload_n 3, 1) := by decide +kernel
theorem dX12_layRow_93 : decode cX12_layRow 93 = .ok (.aload_n 0, 1) := by decide +kernel
theorem dX12_layRow_94 : decode cX12_layRow 94 = .ok (.getfield 71, 3) := by decide +kernel
theorem dX12_layRow_97 : decode cX12_layRow 97 = .ok (.iload 4, 2) := by decide +kernel
theorem dX12_layRow_99 : decode cX12_layRow 99 = .ok (.iaload, 1) := by decide +kernel
theorem dX12_layRow_100 : decode cX12_layRow 100 = .ok (.bipush 6, 2) := by decide +kernel
theorem dX12_layRow_102 : decode cX12_layRow 102 = .ok (.if_icmp .ge 15, 3) := by decide +kernel
theorem dX12_layRow_105 : decode cX12_layRow 105 = .ok (.iconst 1, 1) := by decide +kernel
theorem dX12_layRow_106 : decode cX12_layRow 106 = .ok (.aload_n 0, 1) := by decide +kernel
theorem dX12_layRow_107 : decode cX12_layRow 107 = .ok (.getfield 71, 3) := by decide +kernel
theorem dX12_layRow_110 : decode cX12_layRow 110 = .ok (.iload 4, 2) := by decide +kernel
theorem dX12_layRow_112 : decode cX12_layRow 112 = .ok (.iaload, 1) := by decide +kernel
theorem dX12_layRow_113 : decode cX12_layRow 113 = .ok (.ishl, 1) := by decide +kernel
theorem dX12_layRow_114 : decode cX12_layRow 114 = .ok (.goto 4, 3) := by decide +kernel
theorem dX12_layRow_117 : decode cX12_layRow 117 = .ok (.iconst 0, 1) := by decide +kernel
theorem dX12_layRow_118 : decode cX12_layRow 118 = .ok (.ior, 1) := by decide +kernel
theorem dX12_layRow_119 : decode cX12_layRow 119 = .ok (.istore_n 3, 1) := by decide +kernel
theorem dX12_layRow_120 : decode cX12_layRow 120 = .ok (.iinc 4 (-1), 3) := by decide +kernel
theorem dX12_layRow_123 : decode cX12_layRow 123 = .ok (.goto (-111), 3) := by decide +kernel
theorem dX12_layRow_126 : decode cX12_layRow 126 = .ok (.iconst 1, 1) := by decide +kernel
theorem dX12_layRow_127 : decode cX12_layRow 127 = .ok (.ireturn, 1) := by decide +kernel
theorem dX12_keptWants_0 : decode cX12_keptWants 0 = .ok (.aload_n 0, 1) := by decide +kernel
theorem dX12_keptWants_1 : decode cX12_keptWants 1 = .ok (.iconst 0, 1) := by decide +kernel
theorem dX12_keptWants_2 : decode cX12_keptWants 2 = .ok (.putfield 280, 3) := by decide +kernel
theorem dX12_keptWants_5 : decode cX12_keptWants 5 = .ok (.iconst 0, 1) := by decide +kernel
theorem dX12_keptWants_6 : decode cX12_keptWants 6 = .ok (.istore_n 1, 1) := by decide +kernel
theorem dX12_keptWants_7 : decode cX12_keptWants 7 = .ok (.iload_n 1, 1) := by decide +kernel
theorem dX12_keptWants_8 : decode cX12_keptWants 8 = .ok (.aload_n 0, 1) := by decide +kernel
theorem dX12_keptWants_9 : decode cX12_keptWants 9 = .ok (.invokevirtual 416, 3) := by decide +kernel
theorem dX12_keptWants_12 : decode cX12_keptWants 12 = .ok (.if_icmp .ge 42, 3) := by decide +kernel
theorem dX12_keptWants_15 : decode cX12_keptWants 15 = .ok (.aload_n 0, 1) := by decide +kernel
theorem dX12_keptWants_16 : decode cX12_keptWants 16 = .ok (.getfield 71, 3) := by decide +kernel
theorem dX12_keptWants_19 : decode cX12_keptWants 19 = .ok (.iload_n 1, 1) := by decide +kernel
theorem dX12_keptWants_20 : decode cX12_keptWants 20 = .ok (.iaload, 1) := by decide +kernel
theorem dX12_keptWants_21 : decode cX12_keptWants 21 = .ok (.bipush 6, 2) := by decide +kernel
theorem dX12_keptWants_23 : decode cX12_keptWants 23 = .ok (.if_icmp .ge 25, 3) := by decide +kernel
theorem dX12_keptWants_26 : decode cX12_keptWants 26 = .ok (.aload_n 0, 1) := by decide +kernel
theorem dX12_keptWants_27 : decode cX12_keptWants 27 = .ok (.aload_n 0, 1) := by decide +kernel
theorem dX12_keptWants_28 : decode cX12_keptWants 28 = .ok (.getfield 71, 3) := by decide +kernel
theorem dX12_keptWants_31 : decode cX12_keptWants 31 = .ok (.iload_n 1, 1) := by decide +kernel
theorem dX12_keptWants_32 : decode cX12_keptWants 32 = .ok (.iaload, 1) := by decide +kernel
theorem dX12_keptWants_33 : decode cX12_keptWants 33 = .ok (.aload_n 0, 1) := by decide +kernel
theorem dX12_keptWants_34 : decode cX12_keptWants 34 = .ok (.iload_n 1, 1) := by decide +kernel
theorem dX12_keptWants_35 : decode cX12_keptWants 35 = .ok (.iconst 0, 1) := by decide +kernel
theorem dX12_keptWants_36 : decode cX12_keptWants 36 = .ok (.invokevirtual 419, 3) := by decide +kernel
theorem dX12_keptWants_39 : decode cX12_keptWants 39 = .ok (.aload_n 0, 1) := by decide +kernel
theorem dX12_keptWants_40 : decode cX12_keptWants 40 = .ok (.iload_n 1, 1) := by decide +kernel
theorem dX12_keptWants_41 : decode cX12_keptWants 41 = .ok (.iconst 1, 1) := by decide +kernel
theorem dX12_keptWants_42 : decode cX12_keptWants 42 = .ok (.invokevirtual 419, 3) := by decide +kernel
theorem dX12_keptWants_45 : decode cX12_keptWants 45 = .ok (.invokevirtual 331, 3) := by decide +kernel
theorem dX12_keptWants_48 : decode cX12_keptWants 48 = .ok (.iinc 1 1, 3) := by decide +kernel
theorem dX12_keptWants_51 : decode cX12_keptWants 51 = .ok (.goto (-44), 3) := by decide +kernel
theorem dX12_keptWants_54 : decode cX12_keptWants 54 = .ok (.iconst 0, 1) := by decide +kernel
theorem dX12_keptWants_55 : decode cX12_keptWants 55 = .ok (.istore_n 1, 1) := by decide +kernel
theorem dX12_keptWants_56 : decode cX12_keptWants 56 = .ok (.iconst 0, 1) := by decide +kernel
theorem dX12_keptWants_57 : decode cX12_keptWants 57 = .ok (.istore_n 2, 1) := by decide +kernel
theorem dX12_keptWants_58 : decode cX12_keptWants 58 = .ok (.iload_n 2, 1) := by decide +kernel
theorem dX12_keptWants_59 : decode cX12_keptWants 59 = .ok (.aload_n 0, 1) := by decide +kernel
theorem dX12_keptWants_60 : decode cX12_keptWants 60 = .ok (.invokevirtual 416, 3) := by decide +kernel
theorem dX12_keptWants_63 : decode cX12_keptWants 63 = .ok (.if_icmp .ge 39, 3) := by decide +kernel
theorem dX12_keptWants_66 : decode cX12_keptWants 66 = .ok (.iload_n 1, 1) := by decide +kernel
theorem dX12_keptWants_67 : decode cX12_keptWants 67 = .ok (.aload_n 0, 1) := by decide +kernel
theorem dX12_keptWants_68 : decode cX12_keptWants 68 = .ok (.aload_n 0, 1) := by decide +kernel
theorem dX12_keptWants_69 : decode cX12_keptWants 69 = .ok (.iload_n 2, 1) := by decide +kernel
theorem dX12_keptWants_70 : decode cX12_keptWants 70 = .ok (.iconst 0, 1) := by decide +kernel
theorem dX12_keptWants_71 : decode cX12_keptWants 71 = .ok (.invokevirtual 419, 3) := by decide +kernel
theorem dX12_keptWants_74 : decode cX12_keptWants 74 = .ok (.invokevirtual 307, 3) := by decide +kernel
theorem dX12_keptWants_77 : decode cX12_keptWants 77 = .ok (.aload_n 0, 1) := by decide +kernel
theorem dX12_keptWants_78 : decode cX12_keptWants 78 = .ok (.iload_n 2, 1) := by decide +kernel
theorem dX12_keptWants_79 : decode cX12_keptWants 79 = .ok (.iconst 1, 1) := by decide +kernel
theorem dX12_keptWants_80 : decode cX12_keptWants 80 = .ok (.invokevirtual 419, 3) := by decide +kernel
theorem dX12_keptWants_83 : decode cX12_keptWants 83 = .ok (.invokestatic 94, 3) := by decide +kernel
theorem dX12_keptWants_86 : decode cX12_keptWants 86 = .ok (.ifCond .eq 7, 3) := by decide +kernel
theorem dX12_keptWants_89 : decode cX12_keptWants 89 = .ok (.iconst 1, 1) := by decide +kernel
theorem dX12_keptWants_90 : decode cX12_keptWants 90 = .ok (.goto 4, 3) := by decide +kernel
theorem dX12_keptWants_93 : decode cX12_keptWants 93 = .ok (.iconst 0, 1) := by decide +kernel
theorem dX12_keptWants_94 : decode cX12_keptWants 94 = .ok (.iadd, 1) := by decide +kernel
theorem dX12_keptWants_95 : decode cX12_keptWants 95 = .ok (.istore_n 1, 1) := by decide +kernel
theorem dX12_keptWants_96 : decode cX12_keptWants 96 = .ok (.iinc 2 1, 3) := by decide +kernel
theorem dX12_keptWants_99 : decode cX12_keptWants 99 = .ok (.goto (-41), 3) := by decide +kernel
theorem dX12_keptWants_102 : decode cX12_keptWants 102 = .ok (.iload_n 1, 1) := by decide +kernel
theorem dX12_keptWants_103 : decode cX12_keptWants 103 = .ok (.ireturn, 1) := by decide +kernel
theorem dX12_power_0 : decode cX12_power 0 = .ok (.iconst 1, 1) := by decide +kernel
theorem dX12_power_1 : decode cX12_power 1 = .ok (.istore_n 2, 1) := by decide +kernel
theorem dX12_power_2 : decode cX12_power 2 = .ok (.iconst 0, 1) := by decide +kernel
theorem dX12_power_3 : decode cX12_power 3 = .ok (.istore_n 3, 1) := by decide +kernel
theorem dX12_power_4 : decode cX12_power 4 = .ok (.iload_n 3, 1) := by decide +kernel
theorem dX12_power_5 : decode cX12_power 5 = .ok (.iload_n 1, 1) := by decide +kernel
theorem dX12_power_6 : decode cX12_power 6 = .ok (.if_icmp .ge 13, 3) := by decide +kernel
theorem dX12_power_9 : decode cX12_power 9 = .ok (.iload_n 2, 1) := by decide +kernel
theorem dX12_power_10 : decode cX12_power 10 = .ok (.iload_n 0, 1) := by decide +kernel
theorem dX12_power_11 : decode cX12_power 11 = .ok (.imul, 1) := by decide +kernel
theorem dX12_power_12 : decode cX12_power 12 = .ok (.istore_n 2, 1) := by decide +kernel
theorem dX12_power_13 : decode cX12_power 13 = .ok (.iinc 3 1, 3) := by decide +kernel
theorem dX12_power_16 : decode cX12_power 16 = .ok (.goto (-12), 3) := by decide +kernel
theorem dX12_power_19 : decode cX12_power 19 = .ok (.iload_n 2, 1) := by decide +kernel
theorem dX12_power_20 : decode cX12_power 20 = .ok (.ireturn, 1) := by decide +kernel
theorem dX12_swearers_0 : decode cX12_swearers 0 = .ok (.aload_n 0, 1) := by decide +kernel
theorem dX12_swearers_1 : decode cX12_swearers 1 = .ok (.iconst 0, 1) := by decide +kernel
theorem dX12_swearers_2 : decode cX12_swearers 2 = .ok (.putfield 90, 3) := by decide +kernel
theorem dX12_swearers_5 : decode cX12_swearers 5 = .ok (.aload_n 0, 1) := by decide +kernel
theorem dX12_swearers_6 : decode cX12_swearers 6 = .ok (.iload_n 2, 1) := by decide +kernel
theorem dX12_swearers_7 : decode cX12_swearers 7 = .ok (.invokevirtual 413, 3) := by decide +kernel
theorem dX12_swearers_10 : decode cX12_swearers 10 = .ok (.ifCond .eq 25, 3) := by decide +kernel
theorem dX12_swearers_13 : decode cX12_swearers 13 = .ok (.aload_n 0, 1) := by decide +kernel
theorem dX12_swearers_14 : decode cX12_swearers 14 = .ok (.iload_n 1, 1) := by decide +kernel
theorem dX12_swearers_15 : decode cX12_swearers 15 = .ok (.invokevirtual 310, 3) := by decide +kernel
theorem dX12_swearers_18 : decode cX12_swearers 18 = .ok (.ifCond .eq 17, 3) := by decide +kernel
theorem dX12_swearers_21 : decode cX12_swearers 21 = .ok (.iload_n 3, 1) := by decide +kernel
theorem dX12_swearers_22 : decode cX12_swearers 22 = .ok (.iconst (-1), 1) := by decide +kernel
theorem dX12_swearers_23 : decode cX12_swearers 23 = .ok (.aload_n 0, 1) := by decide +kernel
theorem dX12_swearers_24 : decode cX12_swearers 24 = .ok (.invokevirtual 416, 3) := by decide +kernel
theorem dX12_swearers_27 : decode cX12_swearers 27 = .ok (.iconst 1, 1) := by decide +kernel
theorem dX12_swearers_28 : decode cX12_swearers 28 = .ok (.isub, 1) := by decide +kernel
theorem dX12_swearers_29 : decode cX12_swearers 29 = .ok (.invokestatic 102, 3) := by decide +kernel
theorem dX12_swearers_32 : decode cX12_swearers 32 = .ok (.ifCond .ne 5, 3) := by decide +kernel
theorem dX12_swearers_35 : decode cX12_swearers 35 = .ok (.iconst (-1), 1) := by decide +kernel
theorem dX12_swearers_36 : decode cX12_swearers 36 = .ok (.ireturn, 1) := by decide +kernel
theorem dX12_swearers_37 : decode cX12_swearers 37 = .ok (.iconst 0, 1) := by decide +kernel
theorem dX12_swearers_38 : decode cX12_swearers 38 = .ok (.istore 4, 2) := by decide +kernel
theorem dX12_swearers_40 : decode cX12_swearers 40 = .ok (.iload 4, 2) := by decide +kernel
theorem dX12_swearers_42 : decode cX12_swearers 42 = .ok (.aload_n 0, 1) := by decide +kernel
theorem dX12_swearers_43 : decode cX12_swearers 43 = .ok (.invokevirtual 416, 3) := by decide +kernel
theorem dX12_swearers_46 : decode cX12_swearers 46 = .ok (.if_icmp .ge 25, 3) := by decide +kernel
theorem dX12_swearers_49 : decode cX12_swearers 49 = .ok (.aload_n 0, 1) := by decide +kernel
theorem dX12_swearers_50 : decode cX12_swearers 50 = .ok (.aload_n 0, 1) := by decide +kernel
theorem dX12_swearers_51 : decode cX12_swearers 51 = .ok (.iload 4, 2) := by decide +kernel
theorem dX12_swearers_53 : decode cX12_swearers 53 = .ok (.iconst 0, 1) := by decide +kernel
theorem dX12_swearers_54 : decode cX12_swearers 54 = .ok (.invokevirtual 419, 3) := by decide +kernel
theorem dX12_swearers_57 : decode cX12_swearers 57 = .ok (.invokevirtual 289, 3) := by decide +kernel
theorem dX12_swearers_60 : decode cX12_swearers 60 = .ok (.ifCond .ne 5, 3) := by decide +kernel
theorem dX12_swearers_63 : decode cX12_swearers 63 = .ok (.iconst (-1), 1) := by decide +kernel
theorem dX12_swearers_64 : decode cX12_swearers 64 = .ok (.ireturn, 1) := by decide +kernel
theorem dX12_swearers_65 : decode cX12_swearers 65 = .ok (.iinc 4 1, 3) := by decide +kernel
theorem dX12_swearers_68 : decode cX12_swearers 68 = .ok (.goto (-28), 3) := by decide +kernel
theorem dX12_swearers_71 : decode cX12_swearers 71 = .ok (.iconst (-1), 1) := by decide +kernel
theorem dX12_swearers_72 : decode cX12_swearers 72 = .ok (.istore 4, 2) := by decide +kernel
theorem dX12_swearers_74 : decode cX12_swearers 74 = .ok (.bipush 7, 2) := by decide +kernel
theorem dX12_swearers_76 : decode cX12_swearers 76 = .ok (.aload_n 0, 1) := by decide +kernel
theorem dX12_swearers_77 : decode cX12_swearers 77 = .ok (.invokevirtual 416, 3) := by decide +kernel
theorem dX12_swearers_80 : decode cX12_swearers 80 = .ok (.invokestatic 422, 3) := by decide +kernel
theorem dX12_swearers_83 : decode cX12_swearers 83 = .ok (.istore 5, 2) := by decide +kernel
theorem dX12_swearers_85 : decode cX12_swearers 85 = .ok (.iconst 0, 1) := by decide +kernel
theorem dX12_swearers_86 : decode cX12_swearers 86 = .ok (.istore 6, 2) := by decide +kernel
theorem dX12_swearers_88 : decode cX12_swearers 88 = .ok (.iload 6, 2) := by decide +kernel
theorem dX12_swearers_90 : decode cX12_swearers 90 = .ok (.iload 5, 2) := by decide +kernel
theorem dX12_swearers_92 : decode cX12_swearers 92 = .ok (.if_icmp .ge 74, 3) := by decide +kernel
theorem dX12_swearers_95 : decode cX12_swearers 95 = .ok (.aload_n 0, 1) := by decide +kernel
theorem dX12_swearers_96 : decode cX12_swearers 96 = .ok (.iload 6, 2) := by decide +kernel
theorem dX12_swearers_98 : decode cX12_swearers 98 = .ok (.invokevirtual 425, 3) := by decide +kernel
theorem dX12_swearers_101 : decode cX12_swearers 101 = .ok (.ifCond .eq 10, 3) := by decide +kernel
theorem dX12_swearers_104 : decode cX12_swearers 104 = .ok (.aload_n 0, 1) := by decide +kernel
theorem dX12_swearers_105 : decode cX12_swearers 105 = .ok (.invokevirtual 428, 3) := by decide +kernel
theorem dX12_swearers_108 : decode cX12_swearers 108 = .ok (.goto 4, 3) := by decide +kernel
theorem dX12_swearers_111 : decode cX12_swearers 111 = .ok (.iconst (-1), 1) := by decide +kernel
theorem dX12_swearers_112 : decode cX12_swearers 112 = .ok (.istore 7, 2) := by decide +kernel
theorem dX12_swearers_114 : decode cX12_swearers 114 = .ok (.iconst 0, 1) := by decide +kernel
theorem dX12_swearers_115 : decode cX12_swearers 115 = .ok (.istore 8, 2) := by decide +kernel
theorem dX12_swearers_117 : decode cX12_swearers 117 = .ok (.iload 8, 2) := by decide +kernel
theorem dX12_swearers_119 : decode cX12_swearers 119 = .ok (.bipush 6, 2) := by decide +kernel
theorem dX12_swearers_121 : decode cX12_swearers 121 = .ok (.if_icmp .ge 30, 3) := by decide +kernel
theorem dX12_swearers_124 : decode cX12_swearers 124 = .ok (.iload 7, 2) := by decide +kernel
theorem dX12_swearers_126 : decode cX12_swearers 126 = .ok (.iload 4, 2) := by decide +kernel
theorem dX12_swearers_128 : decode cX12_swearers 128 = .ok (.if_icmp .le 23, 3) := by decide +kernel
theorem dX12_swearers_131 : decode cX12_swearers 131 = .ok (.aload_n 0, 1) := by decide +kernel
theorem dX12_swearers_132 : decode cX12_swearers 132 = .ok (.getfield 74, 3) := by decide +kernel
theorem dX12_swearers_135 : decode cX12_swearers 135 = .ok (.iload 8, 2) := by decide +kernel
theorem dX12_swearers_137 : decode cX12_swearers 137 = .ok (.aload_n 0, 1) := by decide +kernel
theorem dX12_swearers_138 : decode cX12_swearers 138 = .ok (.getfield 71, 3) := by decide +kernel
theorem dX12_swearers_141 : decode cX12_swearers 141 = .ok (.iload 8, 2) := by decide +kernel
theorem dX12_swearers_143 : decode cX12_swearers 143 = .ok (.iaload, 1) := by decide +kernel
theorem dX12_swearers_144 : decode cX12_swearers 144 = .ok (.iastore, 1) := by decide +kernel
theorem dX12_swearers_145 : decode cX12_swearers 145 = .ok (.iinc 8 1, 3) := by decide +kernel
theorem dX12_swearers_148 : decode cX12_swearers 148 = .ok (.goto (-31), 3) := by decide +kernel
theorem dX12_swearers_151 : decode cX12_swearers 151 = .ok (.iload 4, 2) := by decide +kernel
theorem dX12_swearers_153 : decode cX12_swearers 153 = .ok (.iload 7, 2) := by decide +kernel
theorem dX12_swearers_155 : decode cX12_swearers 155 = .ok (.invokestatic 178, 3) := by decide +kernel
theorem dX12_swearers_158 : decode cX12_swearers 158 = .ok (.istore 4, 2) := by decide +kernel
theorem dX12_swearers_160 : decode cX12_swearers 160 = .ok (.iinc 6 1, 3) := by decide +kernel
theorem dX12_swearers_163 : decode cX12_swearers 163 = .ok (.goto (-75), 3) := by decide +kernel
theorem dX12_swearers_166 : decode cX12_swearers 166 = .ok (.iload_n 3, 1) := by decide +kernel
theorem dX12_swearers_167 : decode cX12_swearers 167 = .ok (.iconst (-1), 1) := by decide +kernel
theorem dX12_swearers_168 : decode cX12_swearers 168 = .ok (.if_icmp .ne 8, 3) := by decide +kernel
theorem dX12_swearers_171 : decode cX12_swearers 171 = .ok (.iload 4, 2) := by decide +kernel
theorem dX12_swearers_173 : decode cX12_swearers 173 = .ok (.goto 9, 3) := by decide +kernel
theorem dX12_swearers_176 : decode cX12_swearers 176 = .ok (.aload_n 0, 1) := by decide +kernel
theorem dX12_swearers_177 : decode cX12_swearers 177 = .ok (.getfield 74, 3) := by decide +kernel
theorem dX12_swearers_180 : decode cX12_swearers 180 = .ok (.iload_n 3, 1) := by decide +kernel
theorem dX12_swearers_181 : decode cX12_swearers 181 = .ok (.iaload, 1) := by decide +kernel
theorem dX12_swearers_182 : decode cX12_swearers 182 = .ok (.ireturn, 1) := by decide +kernel
theorem dX12_endOf_0 : decode cX12_endOf 0 = .ok (.aload_n 0, 1) := by decide +kernel
theorem dX12_endOf_1 : decode cX12_endOf 1 = .ok (.aload_n 0, 1) := by decide +kernel
theorem dX12_endOf_2 : decode cX12_endOf 2 = .ok (.iconst 1, 1) := by decide +kernel
theorem dX12_endOf_3 : decode cX12_endOf 3 = .ok (.invokevirtual 276, 3) := by decide +kernel
theorem dX12_endOf_6 : decode cX12_endOf 6 = .ok (.putfield 280, 3) := by decide +kernel
theorem dX12_endOf_9 : decode cX12_endOf 9 = .ok (.iload 4, 2) := by decide +kernel
theorem dX12_endOf_11 : decode cX12_endOf 11 = .ok (.istore 5, 2) := by decide +kernel
theorem dX12_endOf_13 : decode cX12_endOf 13 = .ok (.iload_n 3, 1) := by decide +kernel
theorem dX12_endOf_14 : decode cX12_endOf 14 = .ok (.iconst 1, 1) := by decide +kernel
theorem dX12_endOf_15 : decode cX12_endOf 15 = .ok (.isub, 1) := by decide +kernel
theorem dX12_endOf_16 : decode cX12_endOf 16 = .ok (.istore 6, 2) := by decide +kernel
theorem dX12_endOf_18 : decode cX12_endOf 18 = .ok (.iload 6, 2) := by decide +kernel
theorem dX12_endOf_20 : decode cX12_endOf 20 = .ok (.ifCond .lt 60, 3) := by decide +kernel
theorem dX12_endOf_23 : decode cX12_endOf 23 = .ok (.iload 5, 2) := by decide +kernel
theorem dX12_endOf_25 : decode cX12_endOf 25 = .ok (.bipush 9, 2) := by decide +kernel
theorem dX12_endOf_27 : decode cX12_endOf 27 = .ok (.irem, 1) := by decide +kernel
theorem dX12_endOf_28 : decode cX12_endOf 28 = .ok (.istore 7, 2) := by decide +kernel
theorem dX12_endOf_30 : decode cX12_endOf 30 = .ok (.iload 5, 2) := by decide +kernel
theorem dX12_endOf_32 : decode cX12_endOf 32 = .ok (.bipush 9, 2) := by decide +kernel
theorem dX12_endOf_34 : decode cX12_endOf 34 = .ok (.idiv, 1) := by decide +kernel
theorem dX12_endOf_35 : decode cX12_endOf 35 = .ok (.istore 5, 2) := by decide +kernel
theorem dX12_endOf_37 : decode cX12_endOf 37 = .ok (.iload 7, 2) := by decide +kernel
theorem dX12_endOf_39 : decode cX12_endOf 39 = .ok (.bipush 8, 2) := by decide +kernel
theorem dX12_endOf_41 : decode cX12_endOf 41 = .ok (.if_icmp .ge 33, 3) := by decide +kernel
theorem dX12_endOf_44 : decode cX12_endOf 44 = .ok (.aload_n 0, 1) := by decide +kernel
theorem dX12_endOf_45 : decode cX12_endOf 45 = .ok (.iload 6, 2) := by decide +kernel
theorem dX12_endOf_47 : decode cX12_endOf 47 = .ok (.iconst 2, 1) := by decide +kernel
theorem dX12_endOf_48 : decode cX12_endOf 48 = .ok (.irem, 1) := by decide +kernel
theorem dX12_endOf_49 : decode cX12_endOf 49 = .ok (.ifCond .ne 7, 3) := by decide +kernel
theorem dX12_endOf_52 : decode cX12_endOf 52 = .ok (.iload_n 1, 1) := by decide +kernel
theorem dX12_endOf_53 : decode cX12_endOf 53 = .ok (.goto 4, 3) := by decide +kernel
theorem dX12_endOf_56 : decode cX12_endOf 56 = .ok (.iload_n 2, 1) := by decide +kernel
theorem dX12_endOf_57 : decode cX12_endOf 57 = .ok (.iload 6, 2) := by decide +kernel
theorem dX12_endOf_59 : decode cX12_endOf 59 = .ok (.iconst 2, 1) := by decide +kernel
theorem dX12_endOf_60 : decode cX12_endOf 60 = .ok (.irem, 1) := by decide +kernel
theorem dX12_endOf_61 : decode cX12_endOf 61 = .ok (.ifCond .ne 7, 3) := by decide +kernel
theorem dX12_endOf_64 : decode cX12_endOf 64 = .ok (.iload_n 2, 1) := by decide +kernel
theorem dX12_endOf_65 : decode cX12_endOf 65 = .ok (.goto 4, 3) := by decide +kernel
theorem dX12_endOf_68 : decode cX12_endOf 68 = .ok (.iload_n 1, 1) := by decide +kernel
theorem dX12_endOf_69 : decode cX12_endOf 69 = .ok (.iload 7, 2) := by decide +kernel
theorem dX12_endOf_71 : decode cX12_endOf 71 = .ok (.invokevirtual 331, 3) := by decide +kernel
theorem dX12_endOf_74 : decode cX12_endOf 74 = .ok (.iinc 6 (-1), 3) := by decide +kernel
theorem dX12_endOf_77 : decode cX12_endOf 77 = .ok (.goto (-59), 3) := by decide +kernel
theorem dX12_endOf_80 : decode cX12_endOf 80 = .ok (.aload_n 0, 1) := by decide +kernel
theorem dX12_endOf_81 : decode cX12_endOf 81 = .ok (.iload_n 2, 1) := by decide +kernel
theorem dX12_endOf_82 : decode cX12_endOf 82 = .ok (.invokevirtual 307, 3) := by decide +kernel
theorem dX12_endOf_85 : decode cX12_endOf 85 = .ok (.invokestatic 295, 3) := by decide +kernel
theorem dX12_endOf_88 : decode cX12_endOf 88 = .ok (.aload_n 0, 1) := by decide +kernel
theorem dX12_endOf_89 : decode cX12_endOf 89 = .ok (.iload_n 1, 1) := by decide +kernel
theorem dX12_endOf_90 : decode cX12_endOf 90 = .ok (.invokevirtual 307, 3) := by decide +kernel
theorem dX12_endOf_93 : decode cX12_endOf 93 = .ok (.invokestatic 295, 3) := by decide +kernel
theorem dX12_endOf_96 : decode cX12_endOf 96 = .ok (.isub, 1) := by decide +kernel
theorem dX12_endOf_97 : decode cX12_endOf 97 = .ok (.ireturn, 1) := by decide +kernel
theorem dX12_fold_0 : decode cX12_fold 0 = .ok (.iconst 0, 1) := by decide +kernel
theorem dX12_fold_1 : decode cX12_fold 1 = .ok (.istore_n 3, 1) := by decide +kernel
theorem dX12_fold_2 : decode cX12_fold 2 = .ok (.aload_n 0, 1) := by decide +kernel
theorem dX12_fold_3 : decode cX12_fold 3 = .ok (.iconst (-1), 1) := by decide +kernel
theorem dX12_fold_4 : decode cX12_fold 4 = .ok (.putfield 431, 3) := by decide +kernel
theorem dX12_fold_7 : decode cX12_fold 7 = .ok (.iconst 0, 1) := by decide +kernel
theorem dX12_fold_8 : decode cX12_fold 8 = .ok (.istore 4, 2) := by decide +kernel
theorem dX12_fold_10 : decode cX12_fold 10 = .ok (.iload 4, 2) := by decide +kernel
theorem dX12_fold_12 : decode cX12_fold 12 = .ok (.bipush 9, 2) := by decide +kernel
theorem dX12_fold_14 : decode cX12_fold 14 = .ok (.if_icmp .ge 56, 3) := by decide +kernel
theorem dX12_fold_17 : decode cX12_fold 17 = .ok (.aload_n 0, 1) := by decide +kernel
theorem dX12_fold_18 : decode cX12_fold 18 = .ok (.getfield 77, 3) := by decide +kernel
theorem dX12_fold_21 : decode cX12_fold 21 = .ok (.iload_n 1, 1) := by decide +kernel
theorem dX12_fold_22 : decode cX12_fold 22 = .ok (.iload 4, 2) := by decide +kernel
theorem dX12_fold_24 : decode cX12_fold 24 = .ok (.iadd, 1) := by decide +kernel
theorem dX12_fold_25 : decode cX12_fold 25 = .ok (.iaload, 1) := by decide +kernel
theorem dX12_fold_26 : decode cX12_fold 26 = .ok (.istore 5, 2) := by decide +kernel
theorem dX12_fold_28 : decode cX12_fold 28 = .ok (.aload_n 0, 1) := by decide +kernel
theorem dX12_fold_29 : decode cX12_fold 29 = .ok (.getfield 431, 3) := by decide +kernel
theorem dX12_fold_32 : decode cX12_fold 32 = .ok (.iconst (-1), 1) := by decide +kernel
theorem dX12_fold_33 : decode cX12_fold 33 = .ok (.if_icmp .eq 22, 3) := by decide +kernel
theorem dX12_fold_36 : decode cX12_fold 36 = .ok (.iload_n 2, 1) := by decide +kernel
theorem dX12_fold_37 : decode cX12_fold 37 = .ok (.ifCond .eq 12, 3) := by decide +kernel
theorem dX12_fold_40 : decode cX12_fold 40 = .ok (.iload 5, 2) := by decide +kernel
theorem dX12_fold_42 : decode cX12_fold 42 = .ok (.iload_n 3, 1) := by decide +kernel
theorem dX12_fold_43 : decode cX12_fold 43 = .ok (.if_icmp .le 21, 3) := by decide +kernel
theorem dX12_fold_46 : decode cX12_fold 46 = .ok (.goto 9, 3) := by decide +kernel
theorem dX12_fold_49 : decode cX12_fold 49 = .ok (.iload 5, 2) := by decide +kernel
theorem dX12_fold_51 : decode cX12_fold 51 = .ok (.iload_n 3, 1) := by decide +kernel
theorem dX12_fold_52 : decode cX12_fold 52 = .ok (.if_icmp .ge 12, 3) := by decide +kernel
theorem dX12_fold_55 : decode cX12_fold 55 = .ok (.iload 5, 2) := by decide +kernel
theorem dX12_fold_57 : decode cX12_fold 57 = .ok (.istore_n 3, 1) := by decide +kernel
theorem dX12_fold_58 : decode cX12_fold 58 = .ok (.aload_n 0, 1) := by decide +kernel
theorem dX12_fold_59 : decode cX12_fold 59 = .ok (.iload 4, 2) := by decide +kernel
theorem dX12_fold_61 : decode cX12_fold 61 = .ok (.putfield 431, 3) := by decide +kernel
theorem dX12_fold_64 : decode cX12_fold 64 = .ok (.iinc 4 1, 3) := by decide +kernel
theorem dX12_fold_67 : decode cX12_fold 67 = .ok (.goto (-57), 3) := by decide +kernel
theorem dX12_fold_70 : decode cX12_fold 70 = .ok (.iload_n 3, 1) := by decide +kernel
theorem dX12_fold_71 : decode cX12_fold 71 = .ok (.ireturn, 1) := by decide +kernel
theorem dX12_dare_0 : decode cX12_dare 0 = .ok (.aload_n 0, 1) := by decide +kernel
theorem dX12_dare_1 : decode cX12_dare 1 = .ok (.iconst 0, 1) := by decide +kernel
theorem dX12_dare_2 : decode cX12_dare 2 = .ok (.putfield 90, 3) := by decide +kernel
theorem dX12_dare_5 : decode cX12_dare 5 = .ok (.iload 4, 2) := by decide +kernel
theorem dX12_dare_7 : decode cX12_dare 7 = .ok (.iconst 0, 1) := by decide +kernel
theorem dX12_dare_8 : decode cX12_dare 8 = .ok (.iconst 3, 1) := by decide +kernel
theorem dX12_dare_9 : decode cX12_dare 9 = .ok (.invokestatic 102, 3) := by decide +kernel
theorem dX12_dare_12 : decode cX12_dare 12 = .ok (.ifCond .eq 20, 3) := by decide +kernel
theorem dX12_dare_15 : decode cX12_dare 15 = .ok (.aload_n 0, 1) := by decide +kernel
theorem dX12_dare_16 : decode cX12_dare 16 = .ok (.iload_n 1, 1) := by decide +kernel
theorem dX12_dare_17 : decode cX12_dare 17 = .ok (.invokevirtual 310, 3) := by decide +kernel
theorem dX12_dare_20 : decode cX12_dare 20 = .ok (.ifCond .eq 12, 3) := by decide +kernel
theorem dX12_dare_23 : decode cX12_dare 23 = .ok (.aload_n 0, 1) := by decide +kernel
theorem dX12_dare_24 : decode cX12_dare 24 = .ok (.iload_n 2, 1) := by decide +kernel
theorem dX12_dare_25 : decode cX12_dare 25 = .ok (.iload_n 3, 1) := by decide +kernel
theorem dX12_dare_26 : decode cX12_dare 26 = .ok (.invokevirtual 343, 3) := by decide +kernel
theorem dX12_dare_29 : decode cX12_dare 29 = .ok (.ifCond .ne 6, 3) := by decide +kernel
theorem dX12_dare_32 : decode cX12_dare 32 = .ok (.bipush (-9), 2) := by decide +kernel
theorem dX12_dare_34 : decode cX12_dare 34 = .ok (.ireturn, 1) := by decide +kernel
theorem dX12_dare_35 : decode cX12_dare 35 = .ok (.bipush 9, 2) := by decide +kernel
theorem dX12_dare_37 : decode cX12_dare 37 = .ok (.iload 4, 2) := by decide +kernel
theorem dX12_dare_39 : decode cX12_dare 39 = .ok (.invokestatic 422, 3) := by decide +kernel
theorem dX12_dare_42 : decode cX12_dare 42 = .ok (.istore 6, 2) := by decide +kernel
theorem dX12_dare_44 : decode cX12_dare 44 = .ok (.iconst 0, 1) := by decide +kernel
theorem dX12_dare_45 : decode cX12_dare 45 = .ok (.istore 7, 2) := by decide +kernel
theorem dX12_dare_47 : decode cX12_dare 47 = .ok (.iload 7, 2) := by decide +kernel
theorem dX12_dare_49 : decode cX12_dare 49 = .ok (.iload 6, 2) := by decide +kernel
theorem dX12_dare_51 : decode cX12_dare 51 = .ok (.if_icmp .ge 26, 3) := by decide +kernel
theorem dX12_dare_54 : decode cX12_dare 54 = .ok (.aload_n 0, 1) := by decide +kernel
theorem dX12_dare_55 : decode cX12_dare 55 = .ok (.getfield 77, 3) := by decide +kernel
theorem dX12_dare_58 : decode cX12_dare 58 = .ok (.iload 7, 2) := by decide +kernel
theorem dX12_dare_60 : decode cX12_dare 60 = .ok (.aload_n 0, 1) := by decide +kernel
theorem dX12_dare_61 : decode cX12_dare 61 = .ok (.iload_n 2, 1) := by decide +kernel
theorem dX12_dare_62 : decode cX12_dare 62 = .ok (.iload_n 3, 1) := by decide +kernel
theorem dX12_dare_63 : decode cX12_dare 63 = .ok (.iload 4, 2) := by decide +kernel
theorem dX12_dare_65 : decode cX12_dare 65 = .ok (.iload 7, 2) := by decide +kernel
theorem dX12_dare_67 : decode cX12_dare 67 = .ok (.invokevirtual 434, 3) := by decide +kernel
theorem dX12_dare_70 : decode cX12_dare 70 = .ok (.iastore, 1) := by decide +kernel
theorem dX12_dare_71 : decode cX12_dare 71 = .ok (.iinc 7 1, 3) := by decide +kernel
theorem dX12_dare_74 : decode cX12_dare 74 = .ok (.goto (-27), 3) := by decide +kernel
theorem dX12_dare_77 : decode cX12_dare 77 = .ok (.aload_n 0, 1) := by decide +kernel
theorem dX12_dare_78 : decode cX12_dare 78 = .ok (.iconst (-1), 1) := by decide +kernel
theorem dX12_dare_79 : decode cX12_dare 79 = .ok (.putfield 431, 3) := by decide +kernel
theorem dX12_dare_82 : decode cX12_dare 82 = .ok (.iload 4, 2) := by decide +kernel
theorem dX12_dare_84 : decode cX12_dare 84 = .ok (.iconst 1, 1) := by decide +kernel
theorem dX12_dare_85 : decode cX12_dare 85 = .ok (.isub, 1) := by decide +kernel
theorem dX12_dare_86 : decode cX12_dare 86 = .ok (.istore 7, 2) := by decide +kernel
theorem dX12_dare_88 : decode cX12_dare 88 = .ok (.iload 7, 2) := by decide +kernel
theorem dX12_dare_90 : decode cX12_dare 90 = .ok (.ifCond .lt 60, 3) := by decide +kernel
theorem dX12_dare_93 : decode cX12_dare 93 = .ok (.iload 6, 2) := by decide +kernel
theorem dX12_dare_95 : decode cX12_dare 95 = .ok (.bipush 9, 2) := by decide +kernel
theorem dX12_dare_97 : decode cX12_dare 97 = .ok (.idiv, 1) := by decide +kernel
theorem dX12_dare_98 : decode cX12_dare 98 = .ok (.istore 6, 2) := by decide +kernel
theorem dX12_dare_100 : decode cX12_dare 100 = .ok (.iconst 0, 1) := by decide +kernel
theorem dX12_dare_101 : decode cX12_dare 101 = .ok (.istore 8, 2) := by decide +kernel
theorem dX12_dare_103 : decode cX12_dare 103 = .ok (.iload 8, 2) := by decide +kernel
theorem dX12_dare_105 : decode cX12_dare 105 = .ok (.iload 6, 2) := by decide +kernel
theorem dX12_dare_107 : decode cX12_dare 107 = .ok (.if_icmp .ge 37, 3) := by decide +kernel
theorem dX12_dare_110 : decode cX12_dare 110 = .ok (.aload_n 0, 1) := by decide +kernel
theorem dX12_dare_111 : decode cX12_dare 111 = .ok (.getfield 77, 3) := by decide +kernel
theorem dX12_dare_114 : decode cX12_dare 114 = .ok (.iload 8, 2) := by decide +kernel
theorem dX12_dare_116 : decode cX12_dare 116 = .ok (.aload_n 0, 1) := by decide +kernel
theorem dX12_dare_117 : decode cX12_dare 117 = .ok (.bipush 9, 2) := by decide +kernel
theorem dX12_dare_119 : decode cX12_dare 119 = .ok (.iload 8, 2) := by decide +kernel
theorem dX12_dare_121 : decode cX12_dare 121 = .ok (.imul, 1) := by decide +kernel
theorem dX12_dare_122 : decode cX12_dare 122 = .ok (.iload 7, 2) := by decide +kernel
theorem dX12_dare_124 : decode cX12_dare 124 = .ok (.iconst 2, 1) := by decide +kernel
theorem dX12_dare_125 : decode cX12_dare 125 = .ok (.irem, 1) := by decide +kernel
theorem dX12_dare_126 : decode cX12_dare 126 = .ok (.ifCond .ne 7, 3) := by decide +kernel
theorem dX12_dare_129 : decode cX12_dare 129 = .ok (.iconst 1, 1) := by decide +kernel
theorem dX12_dare_130 : decode cX12_dare 130 = .ok (.goto 4, 3) := by decide +kernel
theorem dX12_dare_133 : decode cX12_dare 133 = .ok (.iconst 0, 1) := by decide +kernel
theorem dX12_dare_134 : decode cX12_dare 134 = .ok (.invokevirtual 438, 3) := by decide +kernel
theorem dX12_dare_137 : decode cX12_dare 137 = .ok (.iastore, 1) := by decide +kernel
theorem dX12_dare_138 : decode cX12_dare 138 = .ok (.iinc 8 1, 3) := by decide +kernel
theorem dX12_dare_141 : decode cX12_dare 141 = .ok (.goto (-38), 3) := by decide +kernel
theorem dX12_dare_144 : decode cX12_dare 144 = .ok (.iinc 7 (-1), 3) := by decide +kernel
theorem dX12_dare_147 : decode cX12_dare 147 = .ok (.goto (-59), 3) := by decide +kernel
theorem dX12_dare_150 : decode cX12_dare 150 = .ok (.iload 5, 2) := by decide +kernel
theorem dX12_dare_152 : decode cX12_dare 152 = .ok (.ifCond .eq 10, 3) := by decide +kernel
theorem dX12_dare_155 : decode cX12_dare 155 = .ok (.aload_n 0, 1) := by decide +kernel
theorem dX12_dare_156 : decode cX12_dare 156 = .ok (.getfield 431, 3) := by decide +kernel
theorem dX12_dare_159 : decode cX12_dare 159 = .ok (.goto 9, 3) := by decide +kernel
theorem dX12_dare_162 : decode cX12_dare 162 = .ok (.aload_n 0, 1) := by decide +kernel
theorem dX12_dare_163 : decode cX12_dare 163 = .ok (.getfield 77, 3) := by decide +kernel
theorem dX12_dare_166 : decode cX12_dare 166 = .ok (.iconst 0, 1) := by decide +kernel
theorem dX12_dare_167 : decode cX12_dare 167 = .ok (.iaload, 1) := by decide +kernel
theorem dX12_dare_168 : decode cX12_dare 168 = .ok (.ireturn, 1) := by decide +kernel
theorem dX12_common_0 : decode cX12_common 0 = .ok (.iload_n 0, 1) := by decide +kernel
theorem dX12_common_1 : decode cX12_common 1 = .ok (.istore_n 2, 1) := by decide +kernel
theorem dX12_common_2 : decode cX12_common 2 = .ok (.iload_n 1, 1) := by decide +kernel
theorem dX12_common_3 : decode cX12_common 3 = .ok (.istore_n 3, 1) := by decide +kernel
theorem dX12_common_4 : decode cX12_common 4 = .ok (.iload_n 3, 1) := by decide +kernel
theorem dX12_common_5 : decode cX12_common 5 = .ok (.ifCond .eq 16, 3) := by decide +kernel
theorem dX12_common_8 : decode cX12_common 8 = .ok (.iload_n 2, 1) := by decide +kernel
theorem dX12_common_9 : decode cX12_common 9 = .ok (.iload_n 3, 1) := by decide +kernel
theorem dX12_common_10 : decode cX12_common 10 = .ok (.irem, 1) := by decide +kernel
theorem dX12_common_11 : decode cX12_common 11 = .ok (.istore 4, 2) := by decide +kernel
theorem dX12_common_13 : decode cX12_common 13 = .ok (.iload_n 3, 1) := by decide +kernel
theorem dX12_common_14 : decode cX12_common 14 = .ok (.istore_n 2, 1) := by decide +kernel
theorem dX12_common_15 : decode cX12_common 15 = .ok (.iload 4, 2) := by decide +kernel
theorem dX12_common_17 : decode cX12_common 17 = .ok (.istore_n 3, 1) := by decide +kernel
theorem dX12_common_18 : decode cX12_common 18 = .ok (.goto (-14), 3) := by decide +kernel
theorem dX12_common_21 : decode cX12_common 21 = .ok (.iload_n 2, 1) := by decide +kernel
theorem dX12_common_22 : decode cX12_common 22 = .ok (.ireturn, 1) := by decide +kernel
theorem dX12_part_0 : decode cX12_part 0 = .ok (.iload_n 2, 1) := by decide +kernel
theorem dX12_part_1 : decode cX12_part 1 = .ok (.ifCond .eq 7, 3) := by decide +kernel
theorem dX12_part_4 : decode cX12_part 4 = .ok (.iload_n 1, 1) := by decide +kernel
theorem dX12_part_5 : decode cX12_part 5 = .ok (.goto 4, 3) := by decide +kernel
theorem dX12_part_8 : decode cX12_part 8 = .ok (.iload_n 0, 1) := by decide +kernel
theorem dX12_part_9 : decode cX12_part 9 = .ok (.iload_n 1, 1) := by decide +kernel
theorem dX12_part_10 : decode cX12_part 10 = .ok (.iload_n 0, 1) := by decide +kernel
theorem dX12_part_11 : decode cX12_part 11 = .ok (.invokestatic 442, 3) := by decide +kernel
theorem dX12_part_14 : decode cX12_part 14 = .ok (.idiv, 1) := by decide +kernel
theorem dX12_part_15 : decode cX12_part 15 = .ok (.ireturn, 1) := by decide +kernel
theorem dX12_chance_0 : decode cX12_chance 0 = .ok (.aload_n 0, 1) := by decide +kernel
theorem dX12_chance_1 : decode cX12_chance 1 = .ok (.iconst 0, 1) := by decide +kernel
theorem dX12_chance_2 : decode cX12_chance 2 = .ok (.putfield 90, 3) := by decide +kernel
theorem dX12_chance_5 : decode cX12_chance 5 = .ok (.iload 4, 2) := by decide +kernel
theorem dX12_chance_7 : decode cX12_chance 7 = .ok (.iconst 0, 1) := by decide +kernel
theorem dX12_chance_8 : decode cX12_chance 8 = .ok (.bipush 7, 2) := by decide +kernel
theorem dX12_chance_10 : decode cX12_chance 10 = .ok (.invokestatic 102, 3) := by decide +kernel
theorem dX12_chance_13 : decode cX12_chance 13 = .ok (.ifCond .eq 42, 3) := by decide +kernel
theorem dX12_chance_16 : decode cX12_chance 16 = .ok (.iload 5, 2) := by decide +kernel
theorem dX12_chance_18 : decode cX12_chance 18 = .ok (.iconst 0, 1) := by decide +kernel
theorem dX12_chance_19 : decode cX12_chance 19 = .ok (.bipush 10, 2) := by decide +kernel
theorem dX12_chance_21 : decode cX12_chance 21 = .ok (.invokestatic 102, 3) := by decide +kernel
theorem dX12_chance_24 : decode cX12_chance 24 = .ok (.ifCond .eq 31, 3) := by decide +kernel
theorem dX12_chance_27 : decode cX12_chance 27 = .ok (.iload 6, 2) := by decide +kernel
theorem dX12_chance_29 : decode cX12_chance 29 = .ok (.iconst 0, 1) := by decide +kernel
theorem dX12_chance_30 : decode cX12_chance 30 = .ok (.bipush 6, 2) := by decide +kernel
theorem dX12_chance_32 : decode cX12_chance 32 = .ok (.invokestatic 102, 3) := by decide +kernel
theorem dX12_chance_35 : decode cX12_chance 35 = .ok (.ifCond .eq 20, 3) := by decide +kernel
theorem dX12_chance_38 : decode cX12_chance 38 = .ok (.aload_n 0, 1) := by decide +kernel
theorem dX12_chance_39 : decode cX12_chance 39 = .ok (.iload_n 1, 1) := by decide +kernel
theorem dX12_chance_40 : decode cX12_chance 40 = .ok (.invokevirtual 310, 3) := by decide +kernel
theorem dX12_chance_43 : decode cX12_chance 43 = .ok (.ifCond .eq 12, 3) := by decide +kernel
theorem dX12_chance_46 : decode cX12_chance 46 = .ok (.aload_n 0, 1) := by decide +kernel
theorem dX12_chance_47 : decode cX12_chance 47 = .ok (.iload_n 2, 1) := by decide +kernel
theorem dX12_chance_48 : decode cX12_chance 48 = .ok (.iload_n 3, 1) := by decide +kernel
theorem dX12_chance_49 : decode cX12_chance 49 = .ok (.invokevirtual 343, 3) := by decide +kernel
theorem dX12_chance_52 : decode cX12_chance 52 = .ok (.ifCond .ne 5, 3) := by decide +kernel
theorem dX12_chance_55 : decode cX12_chance 55 = .ok (.iconst (-1), 1) := by decide +kernel
theorem dX12_chance_56 : decode cX12_chance 56 = .ok (.ireturn, 1) := by decide +kernel
theorem dX12_chance_57 : decode cX12_chance 57 = .ok (.aload_n 0, 1) := by decide +kernel
theorem dX12_chance_58 : decode cX12_chance 58 = .ok (.bipush 20, 2) := by decide +kernel
theorem dX12_chance_60 : decode cX12_chance 60 = .ok (.iload 4, 2) := by decide +kernel
theorem dX12_chance_62 : decode cX12_chance 62 = .ok (.iadd, 1) := by decide +kernel
theorem dX12_chance_63 : decode cX12_chance 63 = .ok (.invokevirtual 276, 3) := by decide +kernel
theorem dX12_chance_66 : decode cX12_chance 66 = .ok (.aload_n 0, 1) := by decide +kernel
theorem dX12_chance_67 : decode cX12_chance 67 = .ok (.iload_n 2, 1) := by decide +kernel
theorem dX12_chance_68 : decode cX12_chance 68 = .ok (.iload_n 3, 1) := by decide +kernel
theorem dX12_chance_69 : decode cX12_chance 69 = .ok (.invokevirtual 292, 3) := by decide +kernel
theorem dX12_chance_72 : decode cX12_chance 72 = .ok (.isub, 1) := by decide +kernel
theorem dX12_chance_73 : decode cX12_chance 73 = .ok (.istore 8, 2) := by decide +kernel
theorem dX12_chance_75 : decode cX12_chance 75 = .ok (.iconst 0, 1) := by decide +kernel
theorem dX12_chance_76 : decode cX12_chance 76 = .ok (.istore 9, 2) := by decide +kernel
theorem dX12_chance_78 : decode cX12_chance 78 = .ok (.iconst 1, 1) := by decide +kernel
theorem dX12_chance_79 : decode cX12_chance 79 = .ok (.istore 10, 2) := by decide +kernel
theorem dX12_chance_81 : decode cX12_chance 81 = .ok (.iconst 0, 1) := by decide +kernel
theorem dX12_chance_82 : decode cX12_chance 82 = .ok (.istore 11, 2) := by decide +kernel
theorem dX12_chance_84 : decode cX12_chance 84 = .ok (.iload 11, 2) := by decide +kernel
theorem dX12_chance_86 : decode cX12_chance 86 = .ok (.iload 6, 2) := by decide +kernel
theorem dX12_chance_88 : decode cX12_chance 88 = .ok (.if_icmp .gt 64, 3) := by decide +kernel
theorem dX12_chance_91 : decode cX12_chance 91 = .ok (.iload 9, 2) := by decide +kernel
theorem dX12_chance_93 : decode cX12_chance 93 = .ok (.iload 11, 2) := by decide +kernel
theorem dX12_chance_95 : decode cX12_chance 95 = .ok (.iload 8, 2) := by decide +kernel
theorem dX12_chance_97 : decode cX12_chance 97 = .ok (.if_icmp .lt 30, 3) := by decide +kernel
theorem dX12_chance_100 : decode cX12_chance 100 = .ok (.iload 10, 2) := by decide +kernel
theorem dX12_chance_102 : decode cX12_chance 102 = .ok (.iload 5, 2) := by decide +kernel
theorem dX12_chance_104 : decode cX12_chance 104 = .ok (.iload 11, 2) := by decide +kernel
theorem dX12_chance_106 : decode cX12_chance 106 = .ok (.invokestatic 422, 3) := by decide +kernel
theorem dX12_chance_109 : decode cX12_chance 109 = .ok (.imul, 1) := by decide +kernel
theorem dX12_chance_110 : decode cX12_chance 110 = .ok (.bipush 10, 2) := by decide +kernel
theorem dX12_chance_112 : decode cX12_chance 112 = .ok (.iload 5, 2) := by decide +kernel
theorem dX12_chance_114 : decode cX12_chance 114 = .ok (.isub, 1) := by decide +kernel
theorem dX12_chance_115 : decode cX12_chance 115 = .ok (.iload 6, 2) := by decide +kernel
theorem dX12_chance_117 : decode cX12_chance 117 = .ok (.iload 11, 2) := by decide +kernel
theorem dX12_chance_119 : decode cX12_chance 119 = .ok (.isub, 1) := by decide +kernel
theorem dX12_chance_120 : decode cX12_chance 120 = .ok (.invokestatic 422, 3) := by decide +kernel
theorem dX12_chance_123 : decode cX12_chance 123 = .ok (.imul, 1) := by decide +kernel
theorem dX12_chance_124 : decode cX12_chance 124 = .ok (.goto 4, 3) := by decide +kernel
theorem dX12_chance_127 : decode cX12_chance 127 = .ok (.iconst 0, 1) := by decide +kernel
theorem dX12_chance_128 : decode cX12_chance 128 = .ok (.iadd, 1) := by decide +kernel
theorem dX12_chance_129 : decode cX12_chance 129 = .ok (.istore 9, 2) := by decide +kernel
theorem dX12_chance_131 : decode cX12_chance 131 = .ok (.iload 10, 2) := by decide +kernel
theorem dX12_chance_133 : decode cX12_chance 133 = .ok (.iload 6, 2) := by decide +kernel
theorem dX12_chance_135 : decode cX12_chance 135 = .ok (.iload 11, 2) := by decide +kernel
theorem dX12_chance_137 : decode cX12_chance 137 = .ok (.isub, 1) := by decide +kernel
theorem dX12_chance_138 : decode cX12_chance 138 = .ok (.imul, 1) := by decide +kernel
theorem dX12_chance_139 : decode cX12_chance 139 = .ok (.iload 11, 2) := by decide +kernel
theorem dX12_chance_141 : decode cX12_chance 141 = .ok (.iconst 1, 1) := by decide +kernel
theorem dX12_chance_142 : decode cX12_chance 142 = .ok (.iadd, 1) := by decide +kernel
theorem dX12_chance_143 : decode cX12_chance 143 = .ok (.idiv, 1) := by decide +kernel
theorem dX12_chance_144 : decode cX12_chance 144 = .ok (.istore 10, 2) := by decide +kernel
theorem dX12_chance_146 : decode cX12_chance 146 = .ok (.iinc 11 1, 3) := by decide +kernel
theorem dX12_chance_149 : decode cX12_chance 149 = .ok (.goto (-65), 3) := by decide +kernel
theorem dX12_chance_152 : decode cX12_chance 152 = .ok (.iload 9, 2) := by decide +kernel
theorem dX12_chance_154 : decode cX12_chance 154 = .ok (.bipush 10, 2) := by decide +kernel
theorem dX12_chance_156 : decode cX12_chance 156 = .ok (.iload 6, 2) := by decide +kernel
theorem dX12_chance_158 : decode cX12_chance 158 = .ok (.invokestatic 422, 3) := by decide +kernel
theorem dX12_chance_161 : decode cX12_chance 161 = .ok (.iload 7, 2) := by decide +kernel
theorem dX12_chance_163 : decode cX12_chance 163 = .ok (.invokestatic 445, 3) := by decide +kernel
theorem dX12_chance_166 : decode cX12_chance 166 = .ok (.ireturn, 1) := by decide +kernel
theorem dX12_facts_0 : decode cX12_facts 0 = .ok (.aload_n 0, 1) := by decide +kernel
theorem dX12_facts_1 : decode cX12_facts 1 = .ok (.getfield 35, 3) := by decide +kernel
theorem dX12_facts_4 : decode cX12_facts 4 = .ok (.bipush 25, 2) := by decide +kernel
theorem dX12_facts_6 : decode cX12_facts 6 = .ok (.aload_n 0, 1) := by decide +kernel
theorem dX12_facts_7 : decode cX12_facts 7 = .ok (.getfield 449, 3) := by decide +kernel
theorem dX12_facts_10 : decode cX12_facts 10 = .ok (.imul, 1) := by decide +kernel
theorem dX12_facts_11 : decode cX12_facts 11 = .ok (.iaload, 1) := by decide +kernel
theorem dX12_facts_12 : decode cX12_facts 12 = .ok (.ireturn, 1) := by decide +kernel
theorem dX12_factOf_0 : decode cX12_factOf 0 = .ok (.aload_n 0, 1) := by decide +kernel
theorem dX12_factOf_1 : decode cX12_factOf 1 = .ok (.getfield 35, 3) := by decide +kernel
theorem dX12_factOf_4 : decode cX12_factOf 4 = .ok (.bipush 25, 2) := by decide +kernel
theorem dX12_factOf_6 : decode cX12_factOf 6 = .ok (.aload_n 0, 1) := by decide +kernel
theorem dX12_factOf_7 : decode cX12_factOf 7 = .ok (.getfield 449, 3) := by decide +kernel
theorem dX12_factOf_10 : decode cX12_factOf 10 = .ok (.imul, 1) := by decide +kernel
theorem dX12_factOf_11 : decode cX12_factOf 11 = .ok (.iconst 1, 1) := by decide +kernel
theorem dX12_factOf_12 : decode cX12_factOf 12 = .ok (.iadd, 1) := by decide +kernel
theorem dX12_factOf_13 : decode cX12_factOf 13 = .ok (.iconst 3, 1) := by decide +kernel
theorem dX12_factOf_14 : decode cX12_factOf 14 = .ok (.iload_n 1, 1) := by decide +kernel
theorem dX12_factOf_15 : decode cX12_factOf 15 = .ok (.imul, 1) := by decide +kernel
theorem dX12_factOf_16 : decode cX12_factOf 16 = .ok (.iadd, 1) := by decide +kernel
theorem dX12_factOf_17 : decode cX12_factOf 17 = .ok (.iload_n 2, 1) := by decide +kernel
theorem dX12_factOf_18 : decode cX12_factOf 18 = .ok (.iadd, 1) := by decide +kernel
theorem dX12_factOf_19 : decode cX12_factOf 19 = .ok (.iaload, 1) := by decide +kernel
theorem dX12_factOf_20 : decode cX12_factOf 20 = .ok (.ireturn, 1) := by decide +kernel
theorem dX12_hasLog_0 : decode cX12_hasLog 0 = .ok (.aload_n 0, 1) := by decide +kernel
theorem dX12_hasLog_1 : decode cX12_hasLog 1 = .ok (.iload_n 1, 1) := by decide +kernel
theorem dX12_hasLog_2 : decode cX12_hasLog 2 = .ok (.putfield 449, 3) := by decide +kernel
theorem dX12_hasLog_5 : decode cX12_hasLog 5 = .ok (.aload_n 0, 1) := by decide +kernel
theorem dX12_hasLog_6 : decode cX12_hasLog 6 = .ok (.iconst 3, 1) := by decide +kernel
theorem dX12_hasLog_7 : decode cX12_hasLog 7 = .ok (.iload_n 1, 1) := by decide +kernel
theorem dX12_hasLog_8 : decode cX12_hasLog 8 = .ok (.invokevirtual 249, 3) := by decide +kernel
theorem dX12_hasLog_11 : decode cX12_hasLog 11 = .ok (.ireturn, 1) := by decide +kernel
theorem dX12_fact_0 : decode cX12_fact 0 = .ok (.aload_n 0, 1) := by decide +kernel
theorem dX12_fact_1 : decode cX12_fact 1 = .ok (.iconst 0, 1) := by decide +kernel
theorem dX12_fact_2 : decode cX12_fact 2 = .ok (.putfield 90, 3) := by decide +kernel
theorem dX12_fact_5 : decode cX12_fact 5 = .ok (.aload_n 0, 1) := by decide +kernel
theorem dX12_fact_6 : decode cX12_fact 6 = .ok (.iload_n 1, 1) := by decide +kernel
theorem dX12_fact_7 : decode cX12_fact 7 = .ok (.invokevirtual 452, 3) := by decide +kernel
theorem dX12_fact_10 : decode cX12_fact 10 = .ok (.ifCond .ne 6, 3) := by decide +kernel
theorem dX12_fact_13 : decode cX12_fact 13 = .ok (.bipush (-2), 2) := by decide +kernel
theorem dX12_fact_15 : decode cX12_fact 15 = .ok (.ireturn, 1) := by decide +kernel
theorem dX12_fact_16 : decode cX12_fact 16 = .ok (.iload_n 2, 1) := by decide +kernel
theorem dX12_fact_17 : decode cX12_fact 17 = .ok (.iconst (-1), 1) := by decide +kernel
theorem dX12_fact_18 : decode cX12_fact 18 = .ok (.if_icmp .ne 17, 3) := by decide +kernel
theorem dX12_fact_21 : decode cX12_fact 21 = .ok (.iload_n 3, 1) := by decide +kernel
theorem dX12_fact_22 : decode cX12_fact 22 = .ok (.ifCond .ne 10, 3) := by decide +kernel
theorem dX12_fact_25 : decode cX12_fact 25 = .ok (.aload_n 0, 1) := by decide +kernel
theorem dX12_fact_26 : decode cX12_fact 26 = .ok (.invokevirtual 455, 3) := by decide +kernel
theorem dX12_fact_29 : decode cX12_fact 29 = .ok (.goto 5, 3) := by decide +kernel
theorem dX12_fact_32 : decode cX12_fact 32 = .ok (.bipush (-2), 2) := by decide +kernel
theorem dX12_fact_34 : decode cX12_fact 34 = .ok (.ireturn, 1) := by decide +kernel
theorem dX12_fact_35 : decode cX12_fact 35 = .ok (.iload_n 2, 1) := by decide +kernel
theorem dX12_fact_36 : decode cX12_fact 36 = .ok (.iconst 0, 1) := by decide +kernel
theorem dX12_fact_37 : decode cX12_fact 37 = .ok (.aload_n 0, 1) := by decide +kernel
theorem dX12_fact_38 : decode cX12_fact 38 = .ok (.invokevirtual 455, 3) := by decide +kernel
theorem dX12_fact_41 : decode cX12_fact 41 = .ok (.iconst 1, 1) := by decide +kernel
theorem dX12_fact_42 : decode cX12_fact 42 = .ok (.isub, 1) := by decide +kernel
theorem dX12_fact_43 : decode cX12_fact 43 = .ok (.invokestatic 102, 3) := by decide +kernel
theorem dX12_fact_46 : decode cX12_fact 46 = .ok (.ifCond .eq 21, 3) := by decide +kernel
theorem dX12_fact_49 : decode cX12_fact 49 = .ok (.iload_n 3, 1) := by decide +kernel
theorem dX12_fact_50 : decode cX12_fact 50 = .ok (.iconst 0, 1) := by decide +kernel
theorem dX12_fact_51 : decode cX12_fact 51 = .ok (.iconst 2, 1) := by decide +kernel
theorem dX12_fact_52 : decode cX12_fact 52 = .ok (.invokestatic 102, 3) := by decide +kernel
theorem dX12_fact_55 : decode cX12_fact 55 = .ok (.ifCond .eq 12, 3) := by decide +kernel
theorem dX12_fact_58 : decode cX12_fact 58 = .ok (.aload_n 0, 1) := by decide +kernel
theorem dX12_fact_59 : decode cX12_fact 59 = .ok (.iload_n 2, 1) := by decide +kernel
theorem dX12_fact_60 : decode cX12_fact 60 = .ok (.iload_n 3, 1) := by decide +kernel
theorem dX12_fact_61 : decode cX12_fact 61 = .ok (.invokevirtual 458, 3) := by decide +kernel
theorem dX12_fact_64 : decode cX12_fact 64 = .ok (.goto 5, 3) := by decide +kernel
theorem dX12_fact_67 : decode cX12_fact 67 = .ok (.bipush (-2), 2) := by decide +kernel
theorem dX12_fact_69 : decode cX12_fact 69 = .ok (.ireturn, 1) := by decide +kernel
theorem dX12_isSo_0 : decode cX12_isSo 0 = .ok (.iconst 0, 1) := by decide +kernel
theorem dX12_isSo_1 : decode cX12_isSo 1 = .ok (.istore_n 1, 1) := by decide +kernel
theorem dX12_isSo_2 : decode cX12_isSo 2 = .ok (.iload_n 1, 1) := by decide +kernel
theorem dX12_isSo_3 : decode cX12_isSo 3 = .ok (.aload_n 0, 1) := by decide +kernel
theorem dX12_isSo_4 : decode cX12_isSo 4 = .ok (.invokevirtual 455, 3) := by decide +kernel
theorem dX12_isSo_7 : decode cX12_isSo 7 = .ok (.if_icmp .ge 58, 3) := by decide +kernel
theorem dX12_isSo_10 : decode cX12_isSo 10 = .ok (.aload_n 0, 1) := by decide +kernel
theorem dX12_isSo_11 : decode cX12_isSo 11 = .ok (.iload_n 1, 1) := by decide +kernel
theorem dX12_isSo_12 : decode cX12_isSo 12 = .ok (.iconst 1, 1) := by decide +kernel
theorem dX12_isSo_13 : decode cX12_isSo 13 = .ok (.invokevirtual 458, 3) := by decide +kernel
theorem dX12_isSo_16 : decode cX12_isSo 16 = .ok (.istore_n 2, 1) := by decide +kernel
theorem dX12_isSo_17 : decode cX12_isSo 17 = .ok (.aload_n 0, 1) := by decide +kernel
theorem dX12_isSo_18 : decode cX12_isSo 18 = .ok (.iload_n 2, 1) := by decide +kernel
theorem dX12_isSo_19 : decode cX12_isSo 19 = .ok (.invokevirtual 289, 3) := by decide +kernel
theorem dX12_isSo_22 : decode cX12_isSo 22 = .ok (.ifCond .eq 35, 3) := by decide +kernel
theorem dX12_isSo_25 : decode cX12_isSo 25 = .ok (.aload_n 0, 1) := by decide +kernel
theorem dX12_isSo_26 : decode cX12_isSo 26 = .ok (.iload_n 2, 1) := by decide +kernel
theorem dX12_isSo_27 : decode cX12_isSo 27 = .ok (.invokevirtual 307, 3) := by decide +kernel
theorem dX12_isSo_30 : decode cX12_isSo 30 = .ok (.aload_n 0, 1) := by decide +kernel
theorem dX12_isSo_31 : decode cX12_isSo 31 = .ok (.iload_n 1, 1) := by decide +kernel
theorem dX12_isSo_32 : decode cX12_isSo 32 = .ok (.iconst 2, 1) := by decide +kernel
theorem dX12_isSo_33 : decode cX12_isSo 33 = .ok (.invokevirtual 458, 3) := by decide +kernel
theorem dX12_isSo_36 : decode cX12_isSo 36 = .ok (.invokestatic 94, 3) := by decide +kernel
theorem dX12_isSo_39 : decode cX12_isSo 39 = .ok (.aload_n 0, 1) := by decide +kernel
theorem dX12_isSo_40 : decode cX12_isSo 40 = .ok (.iload_n 1, 1) := by decide +kernel
theorem dX12_isSo_41 : decode cX12_isSo 41 = .ok (.iconst 0, 1) := by decide +kernel
theorem dX12_isSo_42 : decode cX12_isSo 42 = .ok (.invokevirtual 458, 3) := by decide +kernel
theorem dX12_isSo_45 : decode cX12_isSo 45 = .ok (.iconst 1, 1) := by decide +kernel
theorem dX12_isSo_46 : decode cX12_isSo 46 = .ok (.if_icmp .ne 7, 3) := by decide +kernel
theorem dX12_isSo_49 : decode cX12_isSo 49 = .ok (.iconst 1, 1) := by decide +kernel
theorem dX12_isSo_50 : decode cX12_isSo 50 = .ok (.goto 4, 3) := by decide +kernel
theorem dX12_isSo_53 : decode cX12_isSo 53 = .ok (.iconst 0, 1) := by decide +kernel
theorem dX12_isSo_54 : decode cX12_isSo 54 = .ok (.if_icmp .eq 5, 3) := by decide +kernel
theorem dX12_isSo_57 : decode cX12_isSo 57 = .ok (.iconst 0, 1) := by decide +kernel
theorem dX12_isSo_58 : decode cX12_isSo 58 = .ok (.ireturn, 1) := by decide +kernel
theorem dX12_isSo_59 : decode cX12_isSo 59 = .ok (.iinc 1 1, 3) := by decide +kernel
theorem dX12_isSo_62 : decode cX12_isSo 62 = .ok (.goto (-60), 3) := by decide +kernel
theorem dX12_isSo_65 : decode cX12_isSo 65 = .ok (.iconst 1, 1) := by decide +kernel
theorem dX12_isSo_66 : decode cX12_isSo 66 = .ok (.ireturn, 1) := by decide +kernel
theorem dX12_noteFit_0 : decode cX12_noteFit 0 = .ok (.aload_n 0, 1) := by decide +kernel
theorem dX12_noteFit_1 : decode cX12_noteFit 1 = .ok (.aload_n 0, 1) := by decide +kernel
theorem dX12_noteFit_2 : decode cX12_noteFit 2 = .ok (.getfield 461, 3) := by decide +kernel
theorem dX12_noteFit_5 : decode cX12_noteFit 5 = .ok (.iload 4, 2) := by decide +kernel
theorem dX12_noteFit_7 : decode cX12_noteFit 7 = .ok (.if_icmp .ne 12, 3) := by decide +kernel
theorem dX12_noteFit_10 : decode cX12_noteFit 10 = .ok (.bipush 10, 2) := by decide +kernel
theorem dX12_noteFit_12 : decode cX12_noteFit 12 = .ok (.iload_n 2, 1) := by decide +kernel
theorem dX12_noteFit_13 : decode cX12_noteFit 13 = .ok (.imul, 1) := by decide +kernel
theorem dX12_noteFit_14 : decode cX12_noteFit 14 = .ok (.iload_n 3, 1) := by decide +kernel
theorem dX12_noteFit_15 : decode cX12_noteFit 15 = .ok (.iadd, 1) := by decide +kernel
theorem dX12_noteFit_16 : decode cX12_noteFit 16 = .ok (.goto 7, 3) := by decide +kernel
theorem dX12_noteFit_19 : decode cX12_noteFit 19 = .ok (.aload_n 0, 1) := by decide +kernel
theorem dX12_noteFit_20 : decode cX12_noteFit 20 = .ok (.getfield 464, 3) := by decide +kernel
theorem dX12_noteFit_23 : decode cX12_noteFit 23 = .ok (.putfield 464, 3) := by decide +kernel
theorem dX12_noteFit_26 : decode cX12_noteFit 26 = .ok (.aload_n 0, 1) := by decide +kernel
theorem dX12_noteFit_27 : decode cX12_noteFit 27 = .ok (.dup, 1) := by decide +kernel
theorem dX12_noteFit_28 : decode cX12_noteFit 28 = .ok (.getfield 461, 3) := by decide +kernel
theorem dX12_noteFit_31 : decode cX12_noteFit 31 = .ok (.iconst 1, 1) := by decide +kernel
theorem dX12_noteFit_32 : decode cX12_noteFit 32 = .ok (.iadd, 1) := by decide +kernel
theorem dX12_noteFit_33 : decode cX12_noteFit 33 = .ok (.putfield 461, 3) := by decide +kernel
theorem dX12_noteFit_36 : decode cX12_noteFit 36 = .ok (.aload_n 0, 1) := by decide +kernel
theorem dX12_noteFit_37 : decode cX12_noteFit 37 = .ok (.aload_n 0, 1) := by decide +kernel
theorem dX12_noteFit_38 : decode cX12_noteFit 38 = .ok (.getfield 467, 3) := by decide +kernel
theorem dX12_noteFit_41 : decode cX12_noteFit 41 = .ok (.iload_n 2, 1) := by decide +kernel
theorem dX12_noteFit_42 : decode cX12_noteFit 42 = .ok (.invokestatic 168, 3) := by decide +kernel
theorem dX12_noteFit_45 : decode cX12_noteFit 45 = .ok (.putfield 467, 3) := by decide +kernel
theorem dX12_noteFit_48 : decode cX12_noteFit 48 = .ok (.aload_n 0, 1) := by decide +kernel
theorem dX12_noteFit_49 : decode cX12_noteFit 49 = .ok (.aload_n 0, 1) := by decide +kernel
theorem dX12_noteFit_50 : decode cX12_noteFit 50 = .ok (.getfield 470, 3) := by decide +kernel
theorem dX12_noteFit_53 : decode cX12_noteFit 53 = .ok (.iload_n 2, 1) := by decide +kernel
theorem dX12_noteFit_54 : decode cX12_noteFit 54 = .ok (.invokestatic 178, 3) := by decide +kernel
theorem dX12_noteFit_57 : decode cX12_noteFit 57 = .ok (.putfield 470, 3) := by decide +kernel
theorem dX12_noteFit_60 : decode cX12_noteFit 60 = .ok (.aload_n 0, 1) := by decide +kernel
theorem dX12_noteFit_61 : decode cX12_noteFit 61 = .ok (.dup, 1) := by decide +kernel
theorem dX12_noteFit_62 : decode cX12_noteFit 62 = .ok (.getfield 473, 3) := by decide +kernel
theorem dX12_noteFit_65 : decode cX12_noteFit 65 = .ok (.iconst 1, 1) := by decide +kernel
theorem dX12_noteFit_66 : decode cX12_noteFit 66 = .ok (.iload_n 2, 1) := by decide +kernel
theorem dX12_noteFit_67 : decode cX12_noteFit 67 = .ok (.ishl, 1) := by decide +kernel
theorem dX12_noteFit_68 : decode cX12_noteFit 68 = .ok (.ior, 1) := by decide +kernel
theorem dX12_noteFit_69 : decode cX12_noteFit 69 = .ok (.putfield 473, 3) := by decide +kernel
theorem dX12_noteFit_72 : decode cX12_noteFit 72 = .ok (.aload_n 0, 1) := by decide +kernel
theorem dX12_noteFit_73 : decode cX12_noteFit 73 = .ok (.dup, 1) := by decide +kernel
theorem dX12_noteFit_74 : decode cX12_noteFit 74 = .ok (.getfield 476, 3) := by decide +kernel
theorem dX12_noteFit_77 : decode cX12_noteFit 77 = .ok (.iconst 1, 1) := by decide +kernel
theorem dX12_noteFit_78 : decode cX12_noteFit 78 = .ok (.iload_n 3, 1) := by decide +kernel
theorem dX12_noteFit_79 : decode cX12_noteFit 79 = .ok (.ishl, 1) := by decide +kernel
theorem dX12_noteFit_80 : decode cX12_noteFit 80 = .ok (.ior, 1) := by decide +kernel
theorem dX12_noteFit_81 : decode cX12_noteFit 81 = .ok (.putfield 476, 3) := by decide +kernel
theorem dX12_noteFit_84 : decode cX12_noteFit 84 = .ok (.aload_n 0, 1) := by decide +kernel
theorem dX12_noteFit_85 : decode cX12_noteFit 85 = .ok (.iload_n 1, 1) := by decide +kernel
theorem dX12_noteFit_86 : decode cX12_noteFit 86 = .ok (.invokevirtual 307, 3) := by decide +kernel
theorem dX12_noteFit_89 : decode cX12_noteFit 89 = .ok (.istore 5, 2) := by decide +kernel
theorem dX12_noteFit_91 : decode cX12_noteFit 91 = .ok (.iconst 0, 1) := by decide +kernel
theorem dX12_noteFit_92 : decode cX12_noteFit 92 = .ok (.istore 6, 2) := by decide +kernel
theorem dX12_noteFit_94 : decode cX12_noteFit 94 = .ok (.iload 6, 2) := by decide +kernel
theorem dX12_noteFit_96 : decode cX12_noteFit 96 = .ok (.bipush 8, 2) := by decide +kernel
theorem dX12_noteFit_98 : decode cX12_noteFit 98 = .ok (.if_icmp .ge 34, 3) := by decide +kernel
theorem dX12_noteFit_101 : decode cX12_noteFit 101 = .ok (.aload_n 0, 1) := by decide +kernel
theorem dX12_noteFit_102 : decode cX12_noteFit 102 = .ok (.getfield 80, 3) := by decide +kernel
theorem dX12_noteFit_105 : decode cX12_noteFit 105 = .ok (.iload 6, 2) := by decide +kernel
theorem dX12_noteFit_107 : decode cX12_noteFit 107 = .ok (.dup2, 1) := by decide +kernel
theorem dX12_noteFit_108 : decode cX12_noteFit 108 = .ok (.iaload, 1) := by decide +kernel
theorem dX12_noteFit_109 : decode cX12_noteFit 109 = .ok (.iload 5, 2) := by decide +kernel
theorem dX12_noteFit_111 : decode cX12_noteFit 111 = .ok (.iload 6, 2) := by decide +kernel
theorem dX12_noteFit_113 : decode cX12_noteFit 113 = .ok (.invokestatic 94, 3) := by decide +kernel
theorem dX12_noteFit_116 : decode cX12_noteFit 116 = .ok (.ifCond .eq 7, 3) := by decide +kernel
theorem dX12_noteFit_119 : decode cX12_noteFit 119 = .ok (.iconst 1, 1) := by decide +kernel
theorem dX12_noteFit_120 : decode cX12_noteFit 120 = .ok (.goto 4, 3) := by decide +kernel
theorem dX12_noteFit_123 : decode cX12_noteFit 123 = .ok (.iconst 0, 1) := by decide +kernel
theorem dX12_noteFit_124 : decode cX12_noteFit 124 = .ok (.iadd, 1) := by decide +kernel
theorem dX12_noteFit_125 : decode cX12_noteFit 125 = .ok (.iastore, 1) := by decide +kernel
theorem dX12_noteFit_126 : decode cX12_noteFit 126 = .ok (.iinc 6 1, 3) := by decide +kernel
theorem dX12_noteFit_129 : decode cX12_noteFit 129 = .ok (.goto (-35), 3) := by decide +kernel
theorem dX12_noteFit_132 : decode cX12_noteFit 132 = .ok (.return_, 1) := by decide +kernel
theorem dX12_findFits_0 : decode cX12_findFits 0 = .ok (.aload_n 0, 1) := by decide +kernel
theorem dX12_findFits_1 : decode cX12_findFits 1 = .ok (.iconst 0, 1) := by decide +kernel
theorem dX12_findFits_2 : decode cX12_findFits 2 = .ok (.putfield 461, 3) := by decide +kernel
theorem dX12_findFits_5 : decode cX12_findFits 5 = .ok (.aload_n 0, 1) := by decide +kernel
theorem dX12_findFits_6 : decode cX12_findFits 6 = .ok (.bipush (-2), 2) := by decide +kernel
theorem dX12_findFits_8 : decode cX12_findFits 8 = .ok (.putfield 464, 3) := by decide +kernel
theorem dX12_findFits_11 : decode cX12_findFits 11 = .ok (.aload_n 0, 1) := by decide +kernel
theorem dX12_findFits_12 : decode cX12_findFits 12 = .ok (.ldc_w 380, 3) := by decide +kernel
theorem dX12_findFits_15 : decode cX12_findFits 15 = .ok (.putfield 467, 3) := by decide +kernel
theorem dX12_findFits_18 : decode cX12_findFits 18 = .ok (.aload_n 0, 1) := by decide +kernel
theorem dX12_findFits_19 : decode cX12_findFits 19 = .ok (.iconst (-1), 1) := by decide +kernel
theorem dX12_findFits_20 : decode cX12_findFits 20 = .ok (.putfield 470, 3) := by decide +kernel
theorem dX12_findFits_23 : decode cX12_findFits 23 = .ok (.aload_n 0, 1) := by decide +kernel
theorem dX12_findFits_24 : decode cX12_findFits 24 = .ok (.iconst 0, 1) := by decide +kernel
theorem dX12_findFits_25 : decode cX12_findFits 25 = .ok (.putfield 473, 3) := by decide +kernel
theorem dX12_findFits_28 : decode cX12_findFits 28 = .ok (.aload_n 0, 1) := by decide +kernel
theorem dX12_findFits_29 : decode cX12_findFits 29 = .ok (.iconst 0, 1) := by decide +kernel
theorem dX12_findFits_30 : decode cX12_findFits 30 = .ok (.putfield 476, 3) := by decide +kernel
theorem dX12_findFits_33 : decode cX12_findFits 33 = .ok (.iconst 0, 1) := by decide +kernel
theorem dX12_findFits_34 : decode cX12_findFits 34 = .ok (.istore_n 3, 1) := by decide +kernel
theorem dX12_findFits_35 : decode cX12_findFits 35 = .ok (.iload_n 3, 1) := by decide +kernel
theorem dX12_findFits_36 : decode cX12_findFits 36 = .ok (.bipush 8, 2) := by decide +kernel
theorem dX12_findFits_38 : decode cX12_findFits 38 = .ok (.if_icmp .ge 16, 3) := by decide +kernel
theorem dX12_findFits_41 : decode cX12_findFits 41 = .ok (.aload_n 0, 1) := by decide +kernel
theorem dX12_findFits_42 : decode cX12_findFits 42 = .ok (.getfield 80, 3) := by decide +kernel
theorem dX12_findFits_45 : decode cX12_findFits 45 = .ok (.iload_n 3, 1) := by decide +kernel
theorem dX12_findFits_46 : decode cX12_findFits 46 = .ok (.iconst 0, 1) := by decide +kernel
theorem dX12_findFits_47 : decode cX12_findFits 47 = .ok (.iastore, 1) := by decide +kernel
theorem dX12_findFits_48 : decode cX12_findFits 48 = .ok (.iinc 3 1, 3) := by decide +kernel
theorem dX12_findFits_51 : decode cX12_findFits 51 = .ok (.goto (-16), 3) := by decide +kernel
theorem dX12_findFits_54 : decode cX12_findFits 54 = .ok (.iconst 0, 1) := by decide +kernel
theorem dX12_findFits_55 : decode cX12_findFits 55 = .ok (.istore_n 3, 1) := by decide +kernel
theorem dX12_findFits_56 : decode cX12_findFits 56 = .ok (.iload_n 3, 1) := by decide +kernel
theorem dX12_findFits_57 : decode cX12_findFits 57 = .ok (.bipush 10, 2) := by decide +kernel
theorem dX12_findFits_59 : decode cX12_findFits 59 = .ok (.if_icmp .ge 55, 3) := by decide +kernel
theorem dX12_findFits_62 : decode cX12_findFits 62 = .ok (.iconst 0, 1) := by decide +kernel
theorem dX12_findFits_63 : decode cX12_findFits 63 = .ok (.istore 4, 2) := by decide +kernel
theorem dX12_findFits_65 : decode cX12_findFits 65 = .ok (.iload 4, 2) := by decide +kernel
theorem dX12_findFits_67 : decode cX12_findFits 67 = .ok (.iconst 5, 1) := by decide +kernel
theorem dX12_findFits_68 : decode cX12_findFits 68 = .ok (.if_icmp .ge 40, 3) := by decide +kernel
theorem dX12_findFits_71 : decode cX12_findFits 71 = .ok (.aload_n 0, 1) := by decide +kernel
theorem dX12_findFits_72 : decode cX12_findFits 72 = .ok (.getfield 44, 3) := by decide +kernel
theorem dX12_findFits_75 : decode cX12_findFits 75 = .ok (.iload_n 1, 1) := by decide +kernel
theorem dX12_findFits_76 : decode cX12_findFits 76 = .ok (.iload_n 3, 1) := by decide +kernel
theorem dX12_findFits_77 : decode cX12_findFits 77 = .ok (.iastore, 1) := by decide +kernel
theorem dX12_findFits_78 : decode cX12_findFits 78 = .ok (.aload_n 0, 1) := by decide +kernel
theorem dX12_findFits_79 : decode cX12_findFits 79 = .ok (.getfield 47, 3) := by decide +kernel
theorem dX12_findFits_82 : decode cX12_findFits 82 = .ok (.iload_n 1, 1) := by decide +kernel
theorem dX12_findFits_83 : decode cX12_findFits 83 = .ok (.iload 4, 2) := by decide +kernel
theorem dX12_findFits_85 : decode cX12_findFits 85 = .ok (.iastore, 1) := by decide +kernel
theorem dX12_findFits_86 : decode cX12_findFits 86 = .ok (.aload_n 0, 1) := by decide +kernel
theorem dX12_findFits_87 : decode cX12_findFits 87 = .ok (.invokevirtual 479, 3) := by decide +kernel
theorem dX12_findFits_90 : decode cX12_findFits 90 = .ok (.ifCond .eq 12, 3) := by decide +kernel
theorem dX12_findFits_93 : decode cX12_findFits 93 = .ok (.aload_n 0, 1) := by decide +kernel
theorem dX12_findFits_94 : decode cX12_findFits 94 = .ok (.iload_n 1, 1) := by decide +kernel
theorem dX12_findFits_95 : decode cX12_findFits 95 = .ok (.iload_n 3, 1) := by decide +kernel
theorem dX12_findFits_96 : decode cX12_findFits 96 = .ok (.iload 4, 2) := by decide +kernel
theorem dX12_findFits_98 : decode cX12_findFits 98 = .ok (.iload_n 2, 1) := by decide +kernel
theorem dX12_findFits_99 : decode cX12_findFits 99 = .ok (.invokevirtual 482, 3) := by decide +kernel
theorem dX12_findFits_102 : decode cX12_findFits 102 = .ok (.iinc 4 1, 3) := by decide +kernel
theorem dX12_findFits_105 : decode cX12_findFits 105 = .ok (.goto (-40), 3) := by decide +kernel
theorem dX12_findFits_108 : decode cX12_findFits 108 = .ok (.iinc 3 1, 3) := by decide +kernel
theorem dX12_findFits_111 : decode cX12_findFits 111 = .ok (.goto (-55), 3) := by decide +kernel
theorem dX12_findFits_114 : decode cX12_findFits 114 = .ok (.return_, 1) := by decide +kernel
theorem dX12_sure_0 : decode cX12_sure 0 = .ok (.iconst 0, 1) := by decide +kernel
theorem dX12_sure_1 : decode cX12_sure 1 = .ok (.istore_n 1, 1) := by decide +kernel
theorem dX12_sure_2 : decode cX12_sure 2 = .ok (.iload_n 1, 1) := by decide +kernel
theorem dX12_sure_3 : decode cX12_sure 3 = .ok (.bipush 10, 2) := by decide +kernel
theorem dX12_sure_5 : decode cX12_sure 5 = .ok (.if_icmp .ge 18, 3) := by decide +kernel
theorem dX12_sure_8 : decode cX12_sure 8 = .ok (.iload_n 0, 1) := by decide +kernel
theorem dX12_sure_9 : decode cX12_sure 9 = .ok (.iconst 1, 1) := by decide +kernel
theorem dX12_sure_10 : decode cX12_sure 10 = .ok (.iload_n 1, 1) := by decide +kernel
theorem dX12_sure_11 : decode cX12_sure 11 = .ok (.ishl, 1) := by decide +kernel
theorem dX12_sure_12 : decode cX12_sure 12 = .ok (.if_icmp .ne 5, 3) := by decide +kernel
theorem dX12_sure_15 : decode cX12_sure 15 = .ok (.iload_n 1, 1) := by decide +kernel
theorem dX12_sure_16 : decode cX12_sure 16 = .ok (.ireturn, 1) := by decide +kernel
theorem dX12_sure_17 : decode cX12_sure 17 = .ok (.iinc 1 1, 3) := by decide +kernel
theorem dX12_sure_20 : decode cX12_sure 20 = .ok (.goto (-18), 3) := by decide +kernel
theorem dX12_sure_23 : decode cX12_sure 23 = .ok (.iconst (-1), 1) := by decide +kernel
theorem dX12_sure_24 : decode cX12_sure 24 = .ok (.ireturn, 1) := by decide +kernel
theorem dX12_askWhat_0 : decode cX12_askWhat 0 = .ok (.iconst (-1), 1) := by decide +kernel
theorem dX12_askWhat_1 : decode cX12_askWhat 1 = .ok (.istore_n 1, 1) := by decide +kernel
theorem dX12_askWhat_2 : decode cX12_askWhat 2 = .ok (.ldc_w 380, 3) := by decide +kernel
theorem dX12_askWhat_5 : decode cX12_askWhat 5 = .ok (.istore_n 2, 1) := by decide +kernel
theorem dX12_askWhat_6 : decode cX12_askWhat 6 = .ok (.iconst 0, 1) := by decide +kernel
theorem dX12_askWhat_7 : decode cX12_askWhat 7 = .ok (.istore_n 3, 1) := by decide +kernel
theorem dX12_askWhat_8 : decode cX12_askWhat 8 = .ok (.iload_n 3, 1) := by decide +kernel
theorem dX12_askWhat_9 : decode cX12_askWhat 9 = .ok (.bipush 8, 2) := by decide +kernel
theorem dX12_askWhat_11 : decode cX12_askWhat 11 = .ok (.if_icmp .ge 57, 3) := by decide +kernel
theorem dX12_askWhat_14 : decode cX12_askWhat 14 = .ok (.aload_n 0, 1) := by decide +kernel
theorem dX12_askWhat_15 : decode cX12_askWhat 15 = .ok (.getfield 461, 3) := by decide +kernel
theorem dX12_askWhat_18 : decode cX12_askWhat 18 = .ok (.ifCond .le 50, 3) := by decide +kernel
theorem dX12_askWhat_21 : decode cX12_askWhat 21 = .ok (.aload_n 0, 1) := by decide +kernel
theorem dX12_askWhat_22 : decode cX12_askWhat 22 = .ok (.getfield 80, 3) := by decide +kernel
theorem dX12_askWhat_25 : decode cX12_askWhat 25 = .ok (.iload_n 3, 1) := by decide +kernel
theorem dX12_askWhat_26 : decode cX12_askWhat 26 = .ok (.iaload, 1) := by decide +kernel
theorem dX12_askWhat_27 : decode cX12_askWhat 27 = .ok (.aload_n 0, 1) := by decide +kernel
theorem dX12_askWhat_28 : decode cX12_askWhat 28 = .ok (.getfield 461, 3) := by decide +kernel
theorem dX12_askWhat_31 : decode cX12_askWhat 31 = .ok (.aload_n 0, 1) := by decide +kernel
theorem dX12_askWhat_32 : decode cX12_askWhat 32 = .ok (.getfield 80, 3) := by decide +kernel
theorem dX12_askWhat_35 : decode cX12_askWhat 35 = .ok (.iload_n 3, 1) := by decide +kernel
theorem dX12_askWhat_36 : decode cX12_askWhat 36 = .ok (.iaload, 1) := by decide +kernel
theorem dX12_askWhat_37 : decode cX12_askWhat 37 = .ok (.isub, 1) := by decide +kernel
theorem dX12_askWhat_38 : decode cX12_askWhat 38 = .ok (.invokestatic 178, 3) := by decide +kernel
theorem dX12_askWhat_41 : decode cX12_askWhat 41 = .ok (.istore 4, 2) := by decide +kernel
theorem dX12_askWhat_43 : decode cX12_askWhat 43 = .ok (.iload 4, 2) := by decide +kernel
theorem dX12_askWhat_45 : decode cX12_askWhat 45 = .ok (.iload_n 2, 1) := by decide +kernel
theorem dX12_askWhat_46 : decode cX12_askWhat 46 = .ok (.if_icmp .ge 7, 3) := by decide +kernel
theorem dX12_askWhat_49 : decode cX12_askWhat 49 = .ok (.iload_n 3, 1) := by decide +kernel
theorem dX12_askWhat_50 : decode cX12_askWhat 50 = .ok (.goto 4, 3) := by decide +kernel
theorem dX12_askWhat_53 : decode cX12_askWhat 53 = .ok (.iload_n 1, 1) := by decide +kernel
theorem dX12_askWhat_54 : decode cX12_askWhat 54 = .ok (.istore_n 1, 1) := by decide +kernel
theorem dX12_askWhat_55 : decode cX12_askWhat 55 = .ok (.iload_n 2, 1) := by decide +kernel
theorem dX12_askWhat_56 : decode cX12_askWhat 56 = .ok (.iload 4, 2) := by decide +kernel
theorem dX12_askWhat_58 : decode cX12_askWhat 58 = .ok (.invokestatic 168, 3) := by decide +kernel
theorem dX12_askWhat_61 : decode cX12_askWhat 61 = .ok (.istore_n 2, 1) := by decide +kernel
theorem dX12_askWhat_62 : decode cX12_askWhat 62 = .ok (.iinc 3 1, 3) := by decide +kernel
theorem dX12_askWhat_65 : decode cX12_askWhat 65 = .ok (.goto (-57), 3) := by decide +kernel
theorem dX12_askWhat_68 : decode cX12_askWhat 68 = .ok (.iload_n 1, 1) := by decide +kernel
theorem dX12_askWhat_69 : decode cX12_askWhat 69 = .ok (.ireturn, 1) := by decide +kernel
theorem dX12_fits_0 : decode cX12_fits 0 = .ok (.aload_n 0, 1) := by decide +kernel
theorem dX12_fits_1 : decode cX12_fits 1 = .ok (.iconst 0, 1) := by decide +kernel
theorem dX12_fits_2 : decode cX12_fits 2 = .ok (.putfield 90, 3) := by decide +kernel
theorem dX12_fits_5 : decode cX12_fits 5 = .ok (.aload_n 0, 1) := by decide +kernel
theorem dX12_fits_6 : decode cX12_fits 6 = .ok (.iload_n 2, 1) := by decide +kernel
theorem dX12_fits_7 : decode cX12_fits 7 = .ok (.invokevirtual 452, 3) := by decide +kernel
theorem dX12_fits_10 : decode cX12_fits 10 = .ok (.ifCond .eq 19, 3) := by decide +kernel
theorem dX12_fits_13 : decode cX12_fits 13 = .ok (.aload_n 0, 1) := by decide +kernel
theorem dX12_fits_14 : decode cX12_fits 14 = .ok (.iload_n 1, 1) := by decide +kernel
theorem dX12_fits_15 : decode cX12_fits 15 = .ok (.invokevirtual 310, 3) := by decide +kernel
theorem dX12_fits_18 : decode cX12_fits 18 = .ok (.ifCond .eq 11, 3) := by decide +kernel
theorem dX12_fits_21 : decode cX12_fits 21 = .ok (.aload_n 0, 1) := by decide +kernel
theorem dX12_fits_22 : decode cX12_fits 22 = .ok (.iload_n 3, 1) := by decide +kernel
theorem dX12_fits_23 : decode cX12_fits 23 = .ok (.invokevirtual 289, 3) := by decide +kernel
theorem dX12_fits_26 : decode cX12_fits 26 = .ok (.ifCond .ne 6, 3) := by decide +kernel
theorem dX12_fits_29 : decode cX12_fits 29 = .ok (.bipush (-2), 2) := by decide +kernel
theorem dX12_fits_31 : decode cX12_fits 31 = .ok (.ireturn, 1) := by decide +kernel
theorem dX12_fits_32 : decode cX12_fits 32 = .ok (.aload_n 0, 1) := by decide +kernel
theorem dX12_fits_33 : decode cX12_fits 33 = .ok (.iload_n 3, 1) := by decide +kernel
theorem dX12_fits_34 : decode cX12_fits 34 = .ok (.iload 4, 2) := by decide +kernel
theorem dX12_fits_36 : decode cX12_fits 36 = .ok (.bipush 10, 2) := by decide +kernel
theorem dX12_fits_38 : decode cX12_fits 38 = .ok (.isub, 1) := by decide +kernel
theorem dX12_fits_39 : decode cX12_fits 39 = .ok (.invokevirtual 486, 3) := by decide +kernel
theorem dX12_fits_42 : decode cX12_fits 42 = .ok (.iload 4, 2) := by decide +kernel
theorem dX12_fits_44 : decode cX12_fits 44 = .ok (.bipush 10, 2) := by decide +kernel
theorem dX12_fits_46 : decode cX12_fits 46 = .ok (.if_icmp .lt 8, 3) := by decide +kernel
theorem dX12_fits_49 : decode cX12_fits 49 = .ok (.aload_n 0, 1) := by decide +kernel
theorem dX12_fits_50 : decode cX12_fits 50 = .ok (.getfield 464, 3) := by decide +kernel
theorem dX12_fits_53 : decode cX12_fits 53 = .ok (.ireturn, 1) := by decide +kernel
theorem dX12_fits_54 : decode cX12_fits 54 = .ok (.iload 4, 2) := by decide +kernel
theorem dX12_fits_56 : decode cX12_fits 56 = .ok (.tableswitch 87 0 5 #[40, 45, 53, 61, 66, 82], 40) := by decide +kernel
theorem dX12_fits_96 : decode cX12_fits 96 = .ok (.aload_n 0, 1) := by decide +kernel
theorem dX12_fits_97 : decode cX12_fits 97 = .ok (.getfield 461, 3) := by decide +kernel
theorem dX12_fits_100 : decode cX12_fits 100 = .ok (.ireturn, 1) := by decide +kernel
theorem dX12_fits_101 : decode cX12_fits 101 = .ok (.aload_n 0, 1) := by decide +kernel
theorem dX12_fits_102 : decode cX12_fits 102 = .ok (.getfield 473, 3) := by decide +kernel
theorem dX12_fits_105 : decode cX12_fits 105 = .ok (.invokestatic 489, 3) := by decide +kernel
theorem dX12_fits_108 : decode cX12_fits 108 = .ok (.ireturn, 1) := by decide +kernel
theorem dX12_fits_109 : decode cX12_fits 109 = .ok (.aload_n 0, 1) := by decide +kernel
theorem dX12_fits_110 : decode cX12_fits 110 = .ok (.getfield 476, 3) := by decide +kernel
theorem dX12_fits_113 : decode cX12_fits 113 = .ok (.invokestatic 489, 3) := by decide +kernel
theorem dX12_fits_116 : decode cX12_fits 116 = .ok (.ireturn, 1) := by decide +kernel
theorem dX12_fits_117 : decode cX12_fits 117 = .ok (.aload_n 0, 1) := by decide +kernel
theorem dX12_fits_118 : decode cX12_fits 118 = .ok (.invokevirtual 492, 3) := by decide +kernel
theorem dX12_fits_121 : decode cX12_fits 121 = .ok (.ireturn, 1) := by decide +kernel
theorem dX12_fits_122 : decode cX12_fits 122 = .ok (.aload_n 0, 1) := by decide +kernel
theorem dX12_fits_123 : decode cX12_fits 123 = .ok (.getfield 461, 3) := by decide +kernel
theorem dX12_fits_126 : decode cX12_fits 126 = .ok (.ifCond .ne 7, 3) := by decide +kernel
theorem dX12_fits_129 : decode cX12_fits 129 = .ok (.iconst (-1), 1) := by decide +kernel
theorem dX12_fits_130 : decode cX12_fits 130 = .ok (.goto 7, 3) := by decide +kernel
theorem dX12_fits_133 : decode cX12_fits 133 = .ok (.aload_n 0, 1) := by decide +kernel
theorem dX12_fits_134 : decode cX12_fits 134 = .ok (.getfield 467, 3) := by decide +kernel
theorem dX12_fits_137 : decode cX12_fits 137 = .ok (.ireturn, 1) := by decide +kernel
theorem dX12_fits_138 : decode cX12_fits 138 = .ok (.aload_n 0, 1) := by decide +kernel
theorem dX12_fits_139 : decode cX12_fits 139 = .ok (.getfield 470, 3) := by decide +kernel
theorem dX12_fits_142 : decode cX12_fits 142 = .ok (.ireturn, 1) := by decide +kernel
theorem dX12_fits_143 : decode cX12_fits 143 = .ok (.bipush (-2), 2) := by decide +kernel
theorem dX12_fits_145 : decode cX12_fits 145 = .ok (.ireturn, 1) := by decide +kernel
theorem dX12_draw_0 : decode cX12_draw 0 = .ok (.aload_n 0, 1) := by decide +kernel
theorem dX12_draw_1 : decode cX12_draw 1 = .ok (.aload_n 0, 1) := by decide +kernel
theorem dX12_draw_2 : decode cX12_draw 2 = .ok (.getfield 495, 3) := by decide +kernel
theorem dX12_draw_5 : decode cX12_draw 5 = .ok (.ldc_w 498, 3) := by decide +kernel
theorem dX12_draw_8 : decode cX12_draw 8 = .ok (.imul, 1) := by decide +kernel
theorem dX12_draw_9 : decode cX12_draw 9 = .ok (.sipush 12345, 3) := by decide +kernel
theorem dX12_draw_12 : decode cX12_draw 12 = .ok (.iadd, 1) := by decide +kernel
theorem dX12_draw_13 : decode cX12_draw 13 = .ok (.putfield 495, 3) := by decide +kernel
theorem dX12_draw_16 : decode cX12_draw 16 = .ok (.aload_n 0, 1) := by decide +kernel
theorem dX12_draw_17 : decode cX12_draw 17 = .ok (.getfield 495, 3) := by decide +kernel
theorem dX12_draw_20 : decode cX12_draw 20 = .ok (.bipush 16, 2) := by decide +kernel
theorem dX12_draw_22 : decode cX12_draw 22 = .ok (.iushr, 1) := by decide +kernel
theorem dX12_draw_23 : decode cX12_draw 23 = .ok (.iload_n 1, 1) := by decide +kernel
theorem dX12_draw_24 : decode cX12_draw 24 = .ok (.irem, 1) := by decide +kernel
theorem dX12_draw_25 : decode cX12_draw 25 = .ok (.ireturn, 1) := by decide +kernel
theorem dX12_drawDeed_0 : decode cX12_drawDeed 0 = .ok (.aload_n 0, 1) := by decide +kernel
theorem dX12_drawDeed_1 : decode cX12_drawDeed 1 = .ok (.bipush 10, 2) := by decide +kernel
theorem dX12_drawDeed_3 : decode cX12_drawDeed 3 = .ok (.invokevirtual 499, 3) := by decide +kernel
theorem dX12_drawDeed_6 : decode cX12_drawDeed 6 = .ok (.istore_n 1, 1) := by decide +kernel
theorem dX12_drawDeed_7 : decode cX12_drawDeed 7 = .ok (.iload_n 1, 1) := by decide +kernel
theorem dX12_drawDeed_8 : decode cX12_drawDeed 8 = .ok (.bipush 9, 2) := by decide +kernel
theorem dX12_drawDeed_10 : decode cX12_drawDeed 10 = .ok (.if_icmp .ne 13, 3) := by decide +kernel
theorem dX12_drawDeed_13 : decode cX12_drawDeed 13 = .ok (.aload_n 0, 1) := by decide +kernel
theorem dX12_drawDeed_14 : decode cX12_drawDeed 14 = .ok (.iconst 0, 1) := by decide +kernel
theorem dX12_drawDeed_15 : decode cX12_drawDeed 15 = .ok (.iconst (-1), 1) := by decide +kernel
theorem dX12_drawDeed_16 : decode cX12_drawDeed 16 = .ok (.iconst (-1), 1) := by decide +kernel
theorem dX12_drawDeed_17 : decode cX12_drawDeed 17 = .ok (.iconst (-1), 1) := by decide +kernel
theorem dX12_drawDeed_18 : decode cX12_drawDeed 18 = .ok (.invokevirtual 356, 3) := by decide +kernel
theorem dX12_drawDeed_21 : decode cX12_drawDeed 21 = .ok (.pop, 1) := by decide +kernel
theorem dX12_drawDeed_22 : decode cX12_drawDeed 22 = .ok (.return_, 1) := by decide +kernel
theorem dX12_drawDeed_23 : decode cX12_drawDeed 23 = .ok (.aload_n 0, 1) := by decide +kernel
theorem dX12_drawDeed_24 : decode cX12_drawDeed 24 = .ok (.getfield 283, 3) := by decide +kernel
theorem dX12_drawDeed_27 : decode cX12_drawDeed 27 = .ok (.iload_n 1, 1) := by decide +kernel
theorem dX12_drawDeed_28 : decode cX12_drawDeed 28 = .ok (.bipush 8, 2) := by decide +kernel
theorem dX12_drawDeed_30 : decode cX12_drawDeed 30 = .ok (.if_icmp .ne 7, 3) := by decide +kernel
theorem dX12_drawDeed_33 : decode cX12_drawDeed 33 = .ok (.iconst 1, 1) := by decide +kernel
theorem dX12_drawDeed_34 : decode cX12_drawDeed 34 = .ok (.goto 4, 3) := by decide +kernel
theorem dX12_drawDeed_37 : decode cX12_drawDeed 37 = .ok (.iconst 2, 1) := by decide +kernel
theorem dX12_drawDeed_38 : decode cX12_drawDeed 38 = .ok (.if_icmp .ge 4, 3) := by decide +kernel
theorem dX12_drawDeed_41 : decode cX12_drawDeed 41 = .ok (.return_, 1) := by decide +kernel
theorem dX12_drawDeed_42 : decode cX12_drawDeed 42 = .ok (.aload_n 0, 1) := by decide +kernel
theorem dX12_drawDeed_43 : decode cX12_drawDeed 43 = .ok (.aload_n 0, 1) := by decide +kernel
theorem dX12_drawDeed_44 : decode cX12_drawDeed 44 = .ok (.getfield 283, 3) := by decide +kernel
theorem dX12_drawDeed_47 : decode cX12_drawDeed 47 = .ok (.invokevirtual 499, 3) := by decide +kernel
theorem dX12_drawDeed_50 : decode cX12_drawDeed 50 = .ok (.istore_n 2, 1) := by decide +kernel
theorem dX12_drawDeed_51 : decode cX12_drawDeed 51 = .ok (.iload_n 1, 1) := by decide +kernel
theorem dX12_drawDeed_52 : decode cX12_drawDeed 52 = .ok (.bipush 8, 2) := by decide +kernel
theorem dX12_drawDeed_54 : decode cX12_drawDeed 54 = .ok (.if_icmp .ne 25, 3) := by decide +kernel
theorem dX12_drawDeed_57 : decode cX12_drawDeed 57 = .ok (.aload_n 0, 1) := by decide +kernel
theorem dX12_drawDeed_58 : decode cX12_drawDeed 58 = .ok (.aload_n 0, 1) := by decide +kernel
theorem dX12_drawDeed_59 : decode cX12_drawDeed 59 = .ok (.iconst 2, 1) := by decide +kernel
theorem dX12_drawDeed_60 : decode cX12_drawDeed 60 = .ok (.invokevirtual 499, 3) := by decide +kernel
theorem dX12_drawDeed_63 : decode cX12_drawDeed 63 = .ok (.ifCond .ne 7, 3) := by decide +kernel
theorem dX12_drawDeed_66 : decode cX12_drawDeed 66 = .ok (.iconst 1, 1) := by decide +kernel
theorem dX12_drawDeed_67 : decode cX12_drawDeed 67 = .ok (.goto 4, 3) := by decide +kernel
theorem dX12_drawDeed_70 : decode cX12_drawDeed 70 = .ok (.iconst 2, 1) := by decide +kernel
theorem dX12_drawDeed_71 : decode cX12_drawDeed 71 = .ok (.iload_n 2, 1) := by decide +kernel
theorem dX12_drawDeed_72 : decode cX12_drawDeed 72 = .ok (.iconst (-1), 1) := by decide +kernel
theorem dX12_drawDeed_73 : decode cX12_drawDeed 73 = .ok (.iconst (-1), 1) := by decide +kernel
theorem dX12_drawDeed_74 : decode cX12_drawDeed 74 = .ok (.invokevirtual 356, 3) := by decide +kernel
theorem dX12_drawDeed_77 : decode cX12_drawDeed 77 = .ok (.pop, 1) := by decide +kernel
theorem dX12_drawDeed_78 : decode cX12_drawDeed 78 = .ok (.return_, 1) := by decide +kernel
theorem dX12_drawDeed_79 : decode cX12_drawDeed 79 = .ok (.iload_n 2, 1) := by decide +kernel
theorem dX12_drawDeed_80 : decode cX12_drawDeed 80 = .ok (.iconst 1, 1) := by decide +kernel
theorem dX12_drawDeed_81 : decode cX12_drawDeed 81 = .ok (.iadd, 1) := by decide +kernel
theorem dX12_drawDeed_82 : decode cX12_drawDeed 82 = .ok (.aload_n 0, 1) := by decide +kernel
theorem dX12_drawDeed_83 : decode cX12_drawDeed 83 = .ok (.aload_n 0, 1) := by decide +kernel
theorem dX12_drawDeed_84 : decode cX12_drawDeed 84 = .ok (.getfield 283, 3) := by decide +kernel
theorem dX12_drawDeed_87 : decode cX12_drawDeed 87 = .ok (.iconst 1, 1) := by decide +kernel
theorem dX12_drawDeed_88 : decode cX12_drawDeed 88 = .ok (.isub, 1) := by decide +kernel
theorem dX12_drawDeed_89 : decode cX12_drawDeed 89 = .ok (.invokevirtual 499, 3) := by decide +kernel
theorem dX12_drawDeed_92 : decode cX12_drawDeed 92 = .ok (.iadd, 1) := by decide +kernel
theorem dX12_drawDeed_93 : decode cX12_drawDeed 93 = .ok (.aload_n 0, 1) := by decide +kernel
theorem dX12_drawDeed_94 : decode cX12_drawDeed 94 = .ok (.getfield 283, 3) := by decide +kernel
theorem dX12_drawDeed_97 : decode cX12_drawDeed 97 = .ok (.irem, 1) := by decide +kernel
theorem dX12_drawDeed_98 : decode cX12_drawDeed 98 = .ok (.istore_n 3, 1) := by decide +kernel
theorem dX12_drawDeed_99 : decode cX12_drawDeed 99 = .ok (.iload_n 1, 1) := by decide +kernel
theorem dX12_drawDeed_100 : decode cX12_drawDeed 100 = .ok (.iconst 4, 1) := by decide +kernel
theorem dX12_drawDeed_101 : decode cX12_drawDeed 101 = .ok (.if_icmp .ge 12, 3) := by decide +kernel
theorem dX12_drawDeed_104 : decode cX12_drawDeed 104 = .ok (.aload_n 0, 1) := by decide +kernel
theorem dX12_drawDeed_105 : decode cX12_drawDeed 105 = .ok (.bipush 8, 2) := by decide +kernel
theorem dX12_drawDeed_107 : decode cX12_drawDeed 107 = .ok (.invokevirtual 499, 3) := by decide +kernel
theorem dX12_drawDeed_110 : decode cX12_drawDeed 110 = .ok (.goto 4, 3) := by decide +kernel
theorem dX12_drawDeed_113 : decode cX12_drawDeed 113 = .ok (.iconst (-1), 1) := by decide +kernel
theorem dX12_drawDeed_114 : decode cX12_drawDeed 114 = .ok (.istore 4, 2) := by decide +kernel
theorem dX12_drawDeed_116 : decode cX12_drawDeed 116 = .ok (.aload_n 0, 1) := by decide +kernel
theorem dX12_drawDeed_117 : decode cX12_drawDeed 117 = .ok (.iload_n 1, 1) := by decide +kernel
theorem dX12_drawDeed_118 : decode cX12_drawDeed 118 = .ok (.iconst 4, 1) := by decide +kernel
theorem dX12_drawDeed_119 : decode cX12_drawDeed 119 = .ok (.if_icmp .ge 8, 3) := by decide +kernel
theorem dX12_drawDeed_122 : decode cX12_drawDeed 122 = .ok (.bipush 6, 2) := by decide +kernel
theorem dX12_drawDeed_124 : decode cX12_drawDeed 124 = .ok (.goto 24, 3) := by decide +kernel
theorem dX12_drawDeed_127 : decode cX12_drawDeed 127 = .ok (.iload_n 1, 1) := by decide +kernel
theorem dX12_drawDeed_128 : decode cX12_drawDeed 128 = .ok (.bipush 6, 2) := by decide +kernel
theorem dX12_drawDeed_130 : decode cX12_drawDeed 130 = .ok (.if_icmp .ge 7, 3) := by decide +kernel
theorem dX12_drawDeed_133 : decode cX12_drawDeed 133 = .ok (.iconst 3, 1) := by decide +kernel
theorem dX12_drawDeed_134 : decode cX12_drawDeed 134 = .ok (.goto 14, 3) := by decide +kernel
theorem dX12_drawDeed_137 : decode cX12_drawDeed 137 = .ok (.iload_n 1, 1) := by decide +kernel
theorem dX12_drawDeed_138 : decode cX12_drawDeed 138 = .ok (.bipush 6, 2) := by decide +kernel
theorem dX12_drawDeed_140 : decode cX12_drawDeed 140 = .ok (.if_icmp .ne 7, 3) := by decide +kernel
theorem dX12_drawDeed_143 : decode cX12_drawDeed 143 = .ok (.iconst 4, 1) := by decide +kernel
theorem dX12_drawDeed_144 : decode cX12_drawDeed 144 = .ok (.goto 4, 3) := by decide +kernel
theorem dX12_drawDeed_147 : decode cX12_drawDeed 147 = .ok (.iconst 5, 1) := by decide +kernel
theorem dX12_drawDeed_148 : decode cX12_drawDeed 148 = .ok (.iload_n 2, 1) := by decide +kernel
theorem dX12_drawDeed_149 : decode cX12_drawDeed 149 = .ok (.iload_n 3, 1) := by decide +kernel
theorem dX12_drawDeed_150 : decode cX12_drawDeed 150 = .ok (.iload 4, 2) := by decide +kernel
theorem dX12_drawDeed_152 : decode cX12_drawDeed 152 = .ok (.invokevirtual 356, 3) := by decide +kernel
theorem dX12_drawDeed_155 : decode cX12_drawDeed 155 = .ok (.pop, 1) := by decide +kernel
theorem dX12_drawDeed_156 : decode cX12_drawDeed 156 = .ok (.return_, 1) := by decide +kernel
theorem dX12_drawn_0 : decode cX12_drawn 0 = .ok (.aload_n 0, 1) := by decide +kernel
theorem dX12_drawn_1 : decode cX12_drawn 1 = .ok (.iconst 0, 1) := by decide +kernel
theorem dX12_drawn_2 : decode cX12_drawn 2 = .ok (.putfield 90, 3) := by decide +kernel
theorem dX12_drawn_5 : decode cX12_drawn 5 = .ok (.iload_n 3, 1) := by decide +kernel
theorem dX12_drawn_6 : decode cX12_drawn 6 = .ok (.iconst 0, 1) := by decide +kernel
theorem dX12_drawn_7 : decode cX12_drawn 7 = .ok (.bipush 60, 2) := by decide +kernel
theorem dX12_drawn_9 : decode cX12_drawn 9 = .ok (.invokestatic 102, 3) := by decide +kernel
theorem dX12_drawn_12 : decode cX12_drawn 12 = .ok (.ifCond .eq 11, 3) := by decide +kernel
theorem dX12_drawn_15 : decode cX12_drawn 15 = .ok (.aload_n 0, 1) := by decide +kernel
theorem dX12_drawn_16 : decode cX12_drawn 16 = .ok (.iload_n 1, 1) := by decide +kernel
theorem dX12_drawn_17 : decode cX12_drawn 17 = .ok (.invokevirtual 310, 3) := by decide +kernel
theorem dX12_drawn_20 : decode cX12_drawn 20 = .ok (.ifCond .ne 5, 3) := by decide +kernel
theorem dX12_drawn_23 : decode cX12_drawn 23 = .ok (.iconst (-1), 1) := by decide +kernel
theorem dX12_drawn_24 : decode cX12_drawn 24 = .ok (.ireturn, 1) := by decide +kernel
theorem dX12_drawn_25 : decode cX12_drawn 25 = .ok (.aload_n 0, 1) := by decide +kernel
theorem dX12_drawn_26 : decode cX12_drawn 26 = .ok (.iload_n 2, 1) := by decide +kernel
theorem dX12_drawn_27 : decode cX12_drawn 27 = .ok (.putfield 495, 3) := by decide +kernel
theorem dX12_drawn_30 : decode cX12_drawn 30 = .ok (.iconst 0, 1) := by decide +kernel
theorem dX12_drawn_31 : decode cX12_drawn 31 = .ok (.istore 5, 2) := by decide +kernel
theorem dX12_drawn_33 : decode cX12_drawn 33 = .ok (.iload 5, 2) := by decide +kernel
theorem dX12_drawn_35 : decode cX12_drawn 35 = .ok (.iload_n 3, 1) := by decide +kernel
theorem dX12_drawn_36 : decode cX12_drawn 36 = .ok (.if_icmp .ge 13, 3) := by decide +kernel
theorem dX12_drawn_39 : decode cX12_drawn 39 = .ok (.aload_n 0, 1) := by decide +kernel
theorem dX12_drawn_40 : decode cX12_drawn 40 = .ok (.invokevirtual 502, 3) := by decide +kernel
theorem dX12_drawn_43 : decode cX12_drawn 43 = .ok (.iinc 5 1, 3) := by decide +kernel
theorem dX12_drawn_46 : decode cX12_drawn 46 = .ok (.goto (-13), 3) := by decide +kernel
theorem dX12_drawn_49 : decode cX12_drawn 49 = .ok (.aload_n 0, 1) := by decide +kernel
theorem dX12_drawn_50 : decode cX12_drawn 50 = .ok (.iload 4, 2) := by decide +kernel
theorem dX12_drawn_52 : decode cX12_drawn 52 = .ok (.invokevirtual 374, 3) := by decide +kernel
theorem dX12_drawn_55 : decode cX12_drawn 55 = .ok (.ireturn, 1) := by decide +kernel
theorem dX12_forNone_0 : decode cX12_forNone 0 = .ok (.iconst 1, 1) := by decide +kernel
theorem dX12_forNone_1 : decode cX12_forNone 1 = .ok (.aload_n 0, 1) := by decide +kernel
theorem dX12_forNone_2 : decode cX12_forNone 2 = .ok (.getfield 283, 3) := by decide +kernel
theorem dX12_forNone_5 : decode cX12_forNone 5 = .ok (.ishl, 1) := by decide +kernel
theorem dX12_forNone_6 : decode cX12_forNone 6 = .ok (.iconst 1, 1) := by decide +kernel
theorem dX12_forNone_7 : decode cX12_forNone 7 = .ok (.isub, 1) := by decide +kernel
theorem dX12_forNone_8 : decode cX12_forNone 8 = .ok (.istore_n 1, 1) := by decide +kernel
theorem dX12_forNone_9 : decode cX12_forNone 9 = .ok (.iconst 0, 1) := by decide +kernel
theorem dX12_forNone_10 : decode cX12_forNone 10 = .ok (.istore_n 2, 1) := by decide +kernel
theorem dX12_forNone_11 : decode cX12_forNone 11 = .ok (.iload_n 2, 1) := by decide +kernel
theorem dX12_forNone_12 : decode cX12_forNone 12 = .ok (.aload_n 0, 1) := by decide +kernel
theorem dX12_forNone_13 : decode cX12_forNone 13 = .ok (.getfield 280, 3) := by decide +kernel
theorem dX12_forNone_16 : decode cX12_forNone 16 = .ok (.if_icmp .ge 22, 3) := by decide +kernel
theorem dX12_forNone_19 : decode cX12_forNone 19 = .ok (.iload_n 1, 1) := by decide +kernel
theorem dX12_forNone_20 : decode cX12_forNone 20 = .ok (.iconst 1, 1) := by decide +kernel
theorem dX12_forNone_21 : decode cX12_forNone 21 = .ok (.aload_n 0, 1) := by decide +kernel
theorem dX12_forNone_22 : decode cX12_forNone 22 = .ok (.getfield 59, 3) := by decide +kernel
theorem dX12_forNone_25 : decode cX12_forNone 25 = .ok (.iload_n 2, 1) := by decide +kernel
theorem dX12_forNone_26 : decode cX12_forNone 26 = .ok (.iaload, 1) := by decide +kernel
theorem dX12_forNone_27 : decode cX12_forNone 27 = .ok (.ishl, 1) := by decide +kernel
theorem dX12_forNone_28 : decode cX12_forNone 28 = .ok (.iconst (-1), 1) := by decide +kernel
theorem dX12_forNone_29 : decode cX12_forNone 29 = .ok (.ixor, 1) := by decide +kernel
theorem dX12_forNone_30 : decode cX12_forNone 30 = .ok (.iand, 1) := by decide +kernel
theorem dX12_forNone_31 : decode cX12_forNone 31 = .ok (.istore_n 1, 1) := by decide +kernel
theorem dX12_forNone_32 : decode cX12_forNone 32 = .ok (.iinc 2 1, 3) := by decide +kernel
theorem dX12_forNone_35 : decode cX12_forNone 35 = .ok (.goto (-24), 3) := by decide +kernel
theorem dX12_forNone_38 : decode cX12_forNone 38 = .ok (.iload_n 1, 1) := by decide +kernel
theorem dX12_forNone_39 : decode cX12_forNone 39 = .ok (.ireturn, 1) := by decide +kernel
theorem dX12_silent_0 : decode cX12_silent 0 = .ok (.iconst 1, 1) := by decide +kernel
theorem dX12_silent_1 : decode cX12_silent 1 = .ok (.aload_n 0, 1) := by decide +kernel
theorem dX12_silent_2 : decode cX12_silent 2 = .ok (.getfield 283, 3) := by decide +kernel
theorem dX12_silent_5 : decode cX12_silent 5 = .ok (.ishl, 1) := by decide +kernel
theorem dX12_silent_6 : decode cX12_silent 6 = .ok (.iconst 1, 1) := by decide +kernel
theorem dX12_silent_7 : decode cX12_silent 7 = .ok (.isub, 1) := by decide +kernel
theorem dX12_silent_8 : decode cX12_silent 8 = .ok (.istore_n 1, 1) := by decide +kernel
theorem dX12_silent_9 : decode cX12_silent 9 = .ok (.iconst 0, 1) := by decide +kernel
theorem dX12_silent_10 : decode cX12_silent 10 = .ok (.istore_n 2, 1) := by decide +kernel
theorem dX12_silent_11 : decode cX12_silent 11 = .ok (.iload_n 2, 1) := by decide +kernel
theorem dX12_silent_12 : decode cX12_silent 12 = .ok (.aload_n 0, 1) := by decide +kernel
theorem dX12_silent_13 : decode cX12_silent 13 = .ok (.getfield 280, 3) := by decide +kernel
theorem dX12_silent_16 : decode cX12_silent 16 = .ok (.if_icmp .ge 22, 3) := by decide +kernel
theorem dX12_silent_19 : decode cX12_silent 19 = .ok (.iload_n 1, 1) := by decide +kernel
theorem dX12_silent_20 : decode cX12_silent 20 = .ok (.iconst 1, 1) := by decide +kernel
theorem dX12_silent_21 : decode cX12_silent 21 = .ok (.aload_n 0, 1) := by decide +kernel
theorem dX12_silent_22 : decode cX12_silent 22 = .ok (.getfield 56, 3) := by decide +kernel
theorem dX12_silent_25 : decode cX12_silent 25 = .ok (.iload_n 2, 1) := by decide +kernel
theorem dX12_silent_26 : decode cX12_silent 26 = .ok (.iaload, 1) := by decide +kernel
theorem dX12_silent_27 : decode cX12_silent 27 = .ok (.ishl, 1) := by decide +kernel
theorem dX12_silent_28 : decode cX12_silent 28 = .ok (.iconst (-1), 1) := by decide +kernel
theorem dX12_silent_29 : decode cX12_silent 29 = .ok (.ixor, 1) := by decide +kernel
theorem dX12_silent_30 : decode cX12_silent 30 = .ok (.iand, 1) := by decide +kernel
theorem dX12_silent_31 : decode cX12_silent 31 = .ok (.istore_n 1, 1) := by decide +kernel
theorem dX12_silent_32 : decode cX12_silent 32 = .ok (.iinc 2 1, 3) := by decide +kernel
theorem dX12_silent_35 : decode cX12_silent 35 = .ok (.goto (-24), 3) := by decide +kernel
theorem dX12_silent_38 : decode cX12_silent 38 = .ok (.iload_n 1, 1) := by decide +kernel
theorem dX12_silent_39 : decode cX12_silent 39 = .ok (.ireturn, 1) := by decide +kernel
theorem dX12_mostly_0 : decode cX12_mostly 0 = .ok (.iconst (-1), 1) := by decide +kernel
theorem dX12_mostly_1 : decode cX12_mostly 1 = .ok (.istore_n 2, 1) := by decide +kernel
theorem dX12_mostly_2 : decode cX12_mostly 2 = .ok (.iconst 0, 1) := by decide +kernel
theorem dX12_mostly_3 : decode cX12_mostly 3 = .ok (.istore_n 3, 1) := by decide +kernel
theorem dX12_mostly_4 : decode cX12_mostly 4 = .ok (.iconst 0, 1) := by decide +kernel
theorem dX12_mostly_5 : decode cX12_mostly 5 = .ok (.istore 4, 2) := by decide +kernel
theorem dX12_mostly_7 : decode cX12_mostly 7 = .ok (.iload 4, 2) := by decide +kernel
theorem dX12_mostly_9 : decode cX12_mostly 9 = .ok (.aload_n 0, 1) := by decide +kernel
theorem dX12_mostly_10 : decode cX12_mostly 10 = .ok (.getfield 283, 3) := by decide +kernel
theorem dX12_mostly_13 : decode cX12_mostly 13 = .ok (.if_icmp .ge 139, 3) := by decide +kernel
theorem dX12_mostly_16 : decode cX12_mostly 16 = .ok (.iconst 0, 1) := by decide +kernel
theorem dX12_mostly_17 : decode cX12_mostly 17 = .ok (.istore 5, 2) := by decide +kernel
theorem dX12_mostly_19 : decode cX12_mostly 19 = .ok (.iconst 0, 1) := by decide +kernel
theorem dX12_mostly_20 : decode cX12_mostly 20 = .ok (.istore 6, 2) := by decide +kernel
theorem dX12_mostly_22 : decode cX12_mostly 22 = .ok (.iload 6, 2) := by decide +kernel
theorem dX12_mostly_24 : decode cX12_mostly 24 = .ok (.aload_n 0, 1) := by decide +kernel
theorem dX12_mostly_25 : decode cX12_mostly 25 = .ok (.getfield 280, 3) := by decide +kernel
theorem dX12_mostly_28 : decode cX12_mostly 28 = .ok (.if_icmp .ge 50, 3) := by decide +kernel
theorem dX12_mostly_31 : decode cX12_mostly 31 = .ok (.iload_n 1, 1) := by decide +kernel
theorem dX12_mostly_32 : decode cX12_mostly 32 = .ok (.iconst 2, 1) := by decide +kernel
theorem dX12_mostly_33 : decode cX12_mostly 33 = .ok (.if_icmp .ge 45, 3) := by decide +kernel
theorem dX12_mostly_36 : decode cX12_mostly 36 = .ok (.iload 5, 2) := by decide +kernel
theorem dX12_mostly_38 : decode cX12_mostly 38 = .ok (.iload_n 1, 1) := by decide +kernel
theorem dX12_mostly_39 : decode cX12_mostly 39 = .ok (.ifCond .ne 13, 3) := by decide +kernel
theorem dX12_mostly_42 : decode cX12_mostly 42 = .ok (.aload_n 0, 1) := by decide +kernel
theorem dX12_mostly_43 : decode cX12_mostly 43 = .ok (.getfield 56, 3) := by decide +kernel
theorem dX12_mostly_46 : decode cX12_mostly 46 = .ok (.iload 6, 2) := by decide +kernel
theorem dX12_mostly_48 : decode cX12_mostly 48 = .ok (.iaload, 1) := by decide +kernel
theorem dX12_mostly_49 : decode cX12_mostly 49 = .ok (.goto 10, 3) := by decide +kernel
theorem dX12_mostly_52 : decode cX12_mostly 52 = .ok (.aload_n 0, 1) := by decide +kernel
theorem dX12_mostly_53 : decode cX12_mostly 53 = .ok (.getfield 59, 3) := by decide +kernel
theorem dX12_mostly_56 : decode cX12_mostly 56 = .ok (.iload 6, 2) := by decide +kernel
theorem dX12_mostly_58 : decode cX12_mostly 58 = .ok (.iaload, 1) := by decide +kernel
theorem dX12_mostly_59 : decode cX12_mostly 59 = .ok (.iload 4, 2) := by decide +kernel
theorem dX12_mostly_61 : decode cX12_mostly 61 = .ok (.if_icmp .ne 7, 3) := by decide +kernel
theorem dX12_mostly_64 : decode cX12_mostly 64 = .ok (.iconst 1, 1) := by decide +kernel
theorem dX12_mostly_65 : decode cX12_mostly 65 = .ok (.goto 4, 3) := by decide +kernel
theorem dX12_mostly_68 : decode cX12_mostly 68 = .ok (.iconst 0, 1) := by decide +kernel
theorem dX12_mostly_69 : decode cX12_mostly 69 = .ok (.iadd, 1) := by decide +kernel
theorem dX12_mostly_70 : decode cX12_mostly 70 = .ok (.istore 5, 2) := by decide +kernel
theorem dX12_mostly_72 : decode cX12_mostly 72 = .ok (.iinc 6 1, 3) := by decide +kernel
theorem dX12_mostly_75 : decode cX12_mostly 75 = .ok (.goto (-53), 3) := by decide +kernel
theorem dX12_mostly_78 : decode cX12_mostly 78 = .ok (.iconst 0, 1) := by decide +kernel
theorem dX12_mostly_79 : decode cX12_mostly 79 = .ok (.istore 6, 2) := by decide +kernel
theorem dX12_mostly_81 : decode cX12_mostly 81 = .ok (.iload 6, 2) := by decide +kernel
theorem dX12_mostly_83 : decode cX12_mostly 83 = .ok (.aload_n 0, 1) := by decide +kernel
theorem dX12_mostly_84 : decode cX12_mostly 84 = .ok (.getfield 283, 3) := by decide +kernel
theorem dX12_mostly_87 : decode cX12_mostly 87 = .ok (.if_icmp .ge 39, 3) := by decide +kernel
theorem dX12_mostly_90 : decode cX12_mostly 90 = .ok (.iload_n 1, 1) := by decide +kernel
theorem dX12_mostly_91 : decode cX12_mostly 91 = .ok (.iconst 2, 1) := by decide +kernel
theorem dX12_mostly_92 : decode cX12_mostly 92 = .ok (.if_icmp .ne 34, 3) := by decide +kernel
theorem dX12_mostly_95 : decode cX12_mostly 95 = .ok (.iload 5, 2) := by decide +kernel
theorem dX12_mostly_97 : decode cX12_mostly 97 = .ok (.aload_n 0, 1) := by decide +kernel
theorem dX12_mostly_98 : decode cX12_mostly 98 = .ok (.getfield 50, 3) := by decide +kernel
theorem dX12_mostly_101 : decode cX12_mostly 101 = .ok (.iload 6, 2) := by decide +kernel
theorem dX12_mostly_103 : decode cX12_mostly 103 = .ok (.iaload, 1) := by decide +kernel
theorem dX12_mostly_104 : decode cX12_mostly 104 = .ok (.iload 4, 2) := by decide +kernel
theorem dX12_mostly_106 : decode cX12_mostly 106 = .ok (.invokestatic 94, 3) := by decide +kernel
theorem dX12_mostly_109 : decode cX12_mostly 109 = .ok (.ifCond .eq 7, 3) := by decide +kernel
theorem dX12_mostly_112 : decode cX12_mostly 112 = .ok (.iconst 1, 1) := by decide +kernel
theorem dX12_mostly_113 : decode cX12_mostly 113 = .ok (.goto 4, 3) := by decide +kernel
theorem dX12_mostly_116 : decode cX12_mostly 116 = .ok (.iconst 0, 1) := by decide +kernel
theorem dX12_mostly_117 : decode cX12_mostly 117 = .ok (.iadd, 1) := by decide +kernel
theorem dX12_mostly_118 : decode cX12_mostly 118 = .ok (.istore 5, 2) := by decide +kernel
theorem dX12_mostly_120 : decode cX12_mostly 120 = .ok (.iinc 6 1, 3) := by decide +kernel
theorem dX12_mostly_123 : decode cX12_mostly 123 = .ok (.goto (-42), 3) := by decide +kernel
theorem dX12_mostly_126 : decode cX12_mostly 126 = .ok (.iload 5, 2) := by decide +kernel
theorem dX12_mostly_128 : decode cX12_mostly 128 = .ok (.iload_n 3, 1) := by decide +kernel
theorem dX12_mostly_129 : decode cX12_mostly 129 = .ok (.if_icmp .le 8, 3) := by decide +kernel
theorem dX12_mostly_132 : decode cX12_mostly 132 = .ok (.iload 4, 2) := by decide +kernel
theorem dX12_mostly_134 : decode cX12_mostly 134 = .ok (.goto 4, 3) := by decide +kernel
theorem dX12_mostly_137 : decode cX12_mostly 137 = .ok (.iload_n 2, 1) := by decide +kernel
theorem dX12_mostly_138 : decode cX12_mostly 138 = .ok (.istore_n 2, 1) := by decide +kernel
theorem dX12_mostly_139 : decode cX12_mostly 139 = .ok (.iload_n 3, 1) := by decide +kernel
theorem dX12_mostly_140 : decode cX12_mostly 140 = .ok (.iload 5, 2) := by decide +kernel
theorem dX12_mostly_142 : decode cX12_mostly 142 = .ok (.invokestatic 178, 3) := by decide +kernel
theorem dX12_mostly_145 : decode cX12_mostly 145 = .ok (.istore_n 3, 1) := by decide +kernel
theorem dX12_mostly_146 : decode cX12_mostly 146 = .ok (.iinc 4 1, 3) := by decide +kernel
theorem dX12_mostly_149 : decode cX12_mostly 149 = .ok (.goto (-142), 3) := by decide +kernel
theorem dX12_mostly_152 : decode cX12_mostly 152 = .ok (.iload_n 2, 1) := by decide +kernel
theorem dX12_mostly_153 : decode cX12_mostly 153 = .ok (.ireturn, 1) := by decide +kernel
theorem dX12_hasSworn_0 : decode cX12_hasSworn 0 = .ok (.iconst 0, 1) := by decide +kernel
theorem dX12_hasSworn_1 : decode cX12_hasSworn 1 = .ok (.istore_n 3, 1) := by decide +kernel
theorem dX12_hasSworn_2 : decode cX12_hasSworn 2 = .ok (.iconst 0, 1) := by decide +kernel
theorem dX12_hasSworn_3 : decode cX12_hasSworn 3 = .ok (.istore 4, 2) := by decide +kernel
theorem dX12_hasSworn_5 : decode cX12_hasSworn 5 = .ok (.iload 4, 2) := by decide +kernel
theorem dX12_hasSworn_7 : decode cX12_hasSworn 7 = .ok (.aload_n 0, 1) := by decide +kernel
theorem dX12_hasSworn_8 : decode cX12_hasSworn 8 = .ok (.getfield 280, 3) := by decide +kernel
theorem dX12_hasSworn_11 : decode cX12_hasSworn 11 = .ok (.if_icmp .ge 41, 3) := by decide +kernel
theorem dX12_hasSworn_14 : decode cX12_hasSworn 14 = .ok (.iload_n 3, 1) := by decide +kernel
theorem dX12_hasSworn_15 : decode cX12_hasSworn 15 = .ok (.ifCond .ne 25, 3) := by decide +kernel
theorem dX12_hasSworn_18 : decode cX12_hasSworn 18 = .ok (.aload_n 0, 1) := by decide +kernel
theorem dX12_hasSworn_19 : decode cX12_hasSworn 19 = .ok (.getfield 56, 3) := by decide +kernel
theorem dX12_hasSworn_22 : decode cX12_hasSworn 22 = .ok (.iload 4, 2) := by decide +kernel
theorem dX12_hasSworn_24 : decode cX12_hasSworn 24 = .ok (.iaload, 1) := by decide +kernel
theorem dX12_hasSworn_25 : decode cX12_hasSworn 25 = .ok (.iload_n 1, 1) := by decide +kernel
theorem dX12_hasSworn_26 : decode cX12_hasSworn 26 = .ok (.if_icmp .ne 18, 3) := by decide +kernel
theorem dX12_hasSworn_29 : decode cX12_hasSworn 29 = .ok (.aload_n 0, 1) := by decide +kernel
theorem dX12_hasSworn_30 : decode cX12_hasSworn 30 = .ok (.getfield 59, 3) := by decide +kernel
theorem dX12_hasSworn_33 : decode cX12_hasSworn 33 = .ok (.iload 4, 2) := by decide +kernel
theorem dX12_hasSworn_35 : decode cX12_hasSworn 35 = .ok (.iaload, 1) := by decide +kernel
theorem dX12_hasSworn_36 : decode cX12_hasSworn 36 = .ok (.iload_n 2, 1) := by decide +kernel
theorem dX12_hasSworn_37 : decode cX12_hasSworn 37 = .ok (.if_icmp .ne 7, 3) := by decide +kernel
theorem dX12_hasSworn_40 : decode cX12_hasSworn 40 = .ok (.iconst 1, 1) := by decide +kernel
theorem dX12_hasSworn_41 : decode cX12_hasSworn 41 = .ok (.goto 4, 3) := by decide +kernel
theorem dX12_hasSworn_44 : decode cX12_hasSworn 44 = .ok (.iconst 0, 1) := by decide +kernel
theorem dX12_hasSworn_45 : decode cX12_hasSworn 45 = .ok (.istore_n 3, 1) := by decide +kernel
theorem dX12_hasSworn_46 : decode cX12_hasSworn 46 = .ok (.iinc 4 1, 3) := by decide +kernel
theorem dX12_hasSworn_49 : decode cX12_hasSworn 49 = .ok (.goto (-44), 3) := by decide +kernel
theorem dX12_hasSworn_52 : decode cX12_hasSworn 52 = .ok (.iload_n 3, 1) := by decide +kernel
theorem dX12_hasSworn_53 : decode cX12_hasSworn 53 = .ok (.ireturn, 1) := by decide +kernel
theorem dX12_mutual_0 : decode cX12_mutual 0 = .ok (.iconst 0, 1) := by decide +kernel
theorem dX12_mutual_1 : decode cX12_mutual 1 = .ok (.istore_n 1, 1) := by decide +kernel
theorem dX12_mutual_2 : decode cX12_mutual 2 = .ok (.iconst 0, 1) := by decide +kernel
theorem dX12_mutual_3 : decode cX12_mutual 3 = .ok (.istore_n 2, 1) := by decide +kernel
theorem dX12_mutual_4 : decode cX12_mutual 4 = .ok (.iload_n 2, 1) := by decide +kernel
theorem dX12_mutual_5 : decode cX12_mutual 5 = .ok (.aload_n 0, 1) := by decide +kernel
theorem dX12_mutual_6 : decode cX12_mutual 6 = .ok (.getfield 283, 3) := by decide +kernel
theorem dX12_mutual_9 : decode cX12_mutual 9 = .ok (.if_icmp .ge 48, 3) := by decide +kernel
theorem dX12_mutual_12 : decode cX12_mutual 12 = .ok (.iconst 0, 1) := by decide +kernel
theorem dX12_mutual_13 : decode cX12_mutual 13 = .ok (.istore_n 3, 1) := by decide +kernel
theorem dX12_mutual_14 : decode cX12_mutual 14 = .ok (.iload_n 3, 1) := by decide +kernel
theorem dX12_mutual_15 : decode cX12_mutual 15 = .ok (.iload_n 2, 1) := by decide +kernel
theorem dX12_mutual_16 : decode cX12_mutual 16 = .ok (.if_icmp .ge 35, 3) := by decide +kernel
theorem dX12_mutual_19 : decode cX12_mutual 19 = .ok (.iload_n 1, 1) := by decide +kernel
theorem dX12_mutual_20 : decode cX12_mutual 20 = .ok (.aload_n 0, 1) := by decide +kernel
theorem dX12_mutual_21 : decode cX12_mutual 21 = .ok (.iload_n 2, 1) := by decide +kernel
theorem dX12_mutual_22 : decode cX12_mutual 22 = .ok (.iload_n 3, 1) := by decide +kernel
theorem dX12_mutual_23 : decode cX12_mutual 23 = .ok (.invokevirtual 505, 3) := by decide +kernel
theorem dX12_mutual_26 : decode cX12_mutual 26 = .ok (.ifCond .eq 16, 3) := by decide +kernel
theorem dX12_mutual_29 : decode cX12_mutual 29 = .ok (.aload_n 0, 1) := by decide +kernel
theorem dX12_mutual_30 : decode cX12_mutual 30 = .ok (.iload_n 3, 1) := by decide +kernel
theorem dX12_mutual_31 : decode cX12_mutual 31 = .ok (.iload_n 2, 1) := by decide +kernel
theorem dX12_mutual_32 : decode cX12_mutual 32 = .ok (.invokevirtual 505, 3) := by decide +kernel
theorem dX12_mutual_35 : decode cX12_mutual 35 = .ok (.ifCond .eq 7, 3) := by decide +kernel
theorem dX12_mutual_38 : decode cX12_mutual 38 = .ok (.iconst 1, 1) := by decide +kernel
theorem dX12_mutual_39 : decode cX12_mutual 39 = .ok (.goto 4, 3) := by decide +kernel
theorem dX12_mutual_42 : decode cX12_mutual 42 = .ok (.iconst 0, 1) := by decide +kernel
theorem dX12_mutual_43 : decode cX12_mutual 43 = .ok (.iadd, 1) := by decide +kernel
theorem dX12_mutual_44 : decode cX12_mutual 44 = .ok (.istore_n 1, 1) := by decide +kernel
theorem dX12_mutual_45 : decode cX12_mutual 45 = .ok (.iinc 3 1, 3) := by decide +kernel
theorem dX12_mutual_48 : decode cX12_mutual 48 = .ok (.goto (-34), 3) := by decide +kernel
theorem dX12_mutual_51 : decode cX12_mutual 51 = .ok (.iinc 2 1, 3) := by decide +kernel
theorem dX12_mutual_54 : decode cX12_mutual 54 = .ok (.goto (-50), 3) := by decide +kernel
theorem dX12_mutual_57 : decode cX12_mutual 57 = .ok (.iload_n 1, 1) := by decide +kernel
theorem dX12_mutual_58 : decode cX12_mutual 58 = .ok (.ireturn, 1) := by decide +kernel
theorem dX12_hardest_0 : decode cX12_hardest 0 = .ok (.iconst 0, 1) := by decide +kernel
theorem dX12_hardest_1 : decode cX12_hardest 1 = .ok (.istore_n 1, 1) := by decide +kernel
theorem dX12_hardest_2 : decode cX12_hardest 2 = .ok (.iconst 1, 1) := by decide +kernel
theorem dX12_hardest_3 : decode cX12_hardest 3 = .ok (.istore_n 2, 1) := by decide +kernel
theorem dX12_hardest_4 : decode cX12_hardest 4 = .ok (.iload_n 2, 1) := by decide +kernel
theorem dX12_hardest_5 : decode cX12_hardest 5 = .ok (.bipush 8, 2) := by decide +kernel
theorem dX12_hardest_7 : decode cX12_hardest 7 = .ok (.if_icmp .ge 34, 3) := by decide +kernel
theorem dX12_hardest_10 : decode cX12_hardest 10 = .ok (.aload_n 0, 1) := by decide +kernel
theorem dX12_hardest_11 : decode cX12_hardest 11 = .ok (.bipush 20, 2) := by decide +kernel
theorem dX12_hardest_13 : decode cX12_hardest 13 = .ok (.iload_n 2, 1) := by decide +kernel
theorem dX12_hardest_14 : decode cX12_hardest 14 = .ok (.iadd, 1) := by decide +kernel
theorem dX12_hardest_15 : decode cX12_hardest 15 = .ok (.invokevirtual 276, 3) := by decide +kernel
theorem dX12_hardest_18 : decode cX12_hardest 18 = .ok (.aload_n 0, 1) := by decide +kernel
theorem dX12_hardest_19 : decode cX12_hardest 19 = .ok (.bipush 20, 2) := by decide +kernel
theorem dX12_hardest_21 : decode cX12_hardest 21 = .ok (.iload_n 1, 1) := by decide +kernel
theorem dX12_hardest_22 : decode cX12_hardest 22 = .ok (.iadd, 1) := by decide +kernel
theorem dX12_hardest_23 : decode cX12_hardest 23 = .ok (.invokevirtual 276, 3) := by decide +kernel
theorem dX12_hardest_26 : decode cX12_hardest 26 = .ok (.if_icmp .le 7, 3) := by decide +kernel
theorem dX12_hardest_29 : decode cX12_hardest 29 = .ok (.iload_n 2, 1) := by decide +kernel
theorem dX12_hardest_30 : decode cX12_hardest 30 = .ok (.goto 4, 3) := by decide +kernel
theorem dX12_hardest_33 : decode cX12_hardest 33 = .ok (.iload_n 1, 1) := by decide +kernel
theorem dX12_hardest_34 : decode cX12_hardest 34 = .ok (.istore_n 1, 1) := by decide +kernel
theorem dX12_hardest_35 : decode cX12_hardest 35 = .ok (.iinc 2 1, 3) := by decide +kernel
theorem dX12_hardest_38 : decode cX12_hardest 38 = .ok (.goto (-34), 3) := by decide +kernel
theorem dX12_hardest_41 : decode cX12_hardest 41 = .ok (.iload_n 1, 1) := by decide +kernel
theorem dX12_hardest_42 : decode cX12_hardest 42 = .ok (.ireturn, 1) := by decide +kernel
theorem dX12_safe_0 : decode cX12_safe 0 = .ok (.iconst 1, 1) := by decide +kernel
theorem dX12_safe_1 : decode cX12_safe 1 = .ok (.aload_n 0, 1) := by decide +kernel
theorem dX12_safe_2 : decode cX12_safe 2 = .ok (.getfield 280, 3) := by decide +kernel
theorem dX12_safe_5 : decode cX12_safe 5 = .ok (.ishl, 1) := by decide +kernel
theorem dX12_safe_6 : decode cX12_safe 6 = .ok (.iconst 1, 1) := by decide +kernel
theorem dX12_safe_7 : decode cX12_safe 7 = .ok (.isub, 1) := by decide +kernel
theorem dX12_safe_8 : decode cX12_safe 8 = .ok (.aload_n 0, 1) := by decide +kernel
theorem dX12_safe_9 : decode cX12_safe 9 = .ok (.invokevirtual 334, 3) := by decide +kernel
theorem dX12_safe_12 : decode cX12_safe 12 = .ok (.iconst (-1), 1) := by decide +kernel
theorem dX12_safe_13 : decode cX12_safe 13 = .ok (.ixor, 1) := by decide +kernel
theorem dX12_safe_14 : decode cX12_safe 14 = .ok (.iand, 1) := by decide +kernel
theorem dX12_safe_15 : decode cX12_safe 15 = .ok (.ireturn, 1) := by decide +kernel
theorem dX12_spoilers_0 : decode cX12_spoilers 0 = .ok (.aload_n 0, 1) := by decide +kernel
theorem dX12_spoilers_1 : decode cX12_spoilers 1 = .ok (.iconst 0, 1) := by decide +kernel
theorem dX12_spoilers_2 : decode cX12_spoilers 2 = .ok (.putfield 261, 3) := by decide +kernel
theorem dX12_spoilers_5 : decode cX12_spoilers 5 = .ok (.aload_n 0, 1) := by decide +kernel
theorem dX12_spoilers_6 : decode cX12_spoilers 6 = .ok (.invokevirtual 334, 3) := by decide +kernel
theorem dX12_spoilers_9 : decode cX12_spoilers 9 = .ok (.istore_n 1, 1) := by decide +kernel
theorem dX12_spoilers_10 : decode cX12_spoilers 10 = .ok (.iconst 0, 1) := by decide +kernel
theorem dX12_spoilers_11 : decode cX12_spoilers 11 = .ok (.istore_n 2, 1) := by decide +kernel
theorem dX12_spoilers_12 : decode cX12_spoilers 12 = .ok (.iconst 0, 1) := by decide +kernel
theorem dX12_spoilers_13 : decode cX12_spoilers 13 = .ok (.istore_n 3, 1) := by decide +kernel
theorem dX12_spoilers_14 : decode cX12_spoilers 14 = .ok (.iload_n 3, 1) := by decide +kernel
theorem dX12_spoilers_15 : decode cX12_spoilers 15 = .ok (.aload_n 0, 1) := by decide +kernel
theorem dX12_spoilers_16 : decode cX12_spoilers 16 = .ok (.getfield 280, 3) := by decide +kernel
theorem dX12_spoilers_19 : decode cX12_spoilers 19 = .ok (.if_icmp .ge 46, 3) := by decide +kernel
theorem dX12_spoilers_22 : decode cX12_spoilers 22 = .ok (.aload_n 0, 1) := by decide +kernel
theorem dX12_spoilers_23 : decode cX12_spoilers 23 = .ok (.iconst 1, 1) := by decide +kernel
theorem dX12_spoilers_24 : decode cX12_spoilers 24 = .ok (.iload_n 3, 1) := by decide +kernel
theorem dX12_spoilers_25 : decode cX12_spoilers 25 = .ok (.ishl, 1) := by decide +kernel
theorem dX12_spoilers_26 : decode cX12_spoilers 26 = .ok (.putfield 261, 3) := by decide +kernel
theorem dX12_spoilers_29 : decode cX12_spoilers 29 = .ok (.iload_n 2, 1) := by decide +kernel
theorem dX12_spoilers_30 : decode cX12_spoilers 30 = .ok (.aload_n 0, 1) := by decide +kernel
theorem dX12_spoilers_31 : decode cX12_spoilers 31 = .ok (.invokevirtual 334, 3) := by decide +kernel
theorem dX12_spoilers_34 : decode cX12_spoilers 34 = .ok (.invokestatic 295, 3) := by decide +kernel
theorem dX12_spoilers_37 : decode cX12_spoilers 37 = .ok (.iload_n 1, 1) := by decide +kernel
theorem dX12_spoilers_38 : decode cX12_spoilers 38 = .ok (.iconst 1, 1) := by decide +kernel
theorem dX12_spoilers_39 : decode cX12_spoilers 39 = .ok (.iload_n 3, 1) := by decide +kernel
theorem dX12_spoilers_40 : decode cX12_spoilers 40 = .ok (.ishl, 1) := by decide +kernel
theorem dX12_spoilers_41 : decode cX12_spoilers 41 = .ok (.iconst (-1), 1) := by decide +kernel
theorem dX12_spoilers_42 : decode cX12_spoilers 42 = .ok (.ixor, 1) := by decide +kernel
theorem dX12_spoilers_43 : decode cX12_spoilers 43 = .ok (.iand, 1) := by decide +kernel
theorem dX12_spoilers_44 : decode cX12_spoilers 44 = .ok (.invokestatic 295, 3) := by decide +kernel
theorem dX12_spoilers_47 : decode cX12_spoilers 47 = .ok (.if_icmp .ge 9, 3) := by decide +kernel
theorem dX12_spoilers_50 : decode cX12_spoilers 50 = .ok (.iconst 1, 1) := by decide +kernel
theorem dX12_spoilers_51 : decode cX12_spoilers 51 = .ok (.iload_n 3, 1) := by decide +kernel
theorem dX12_spoilers_52 : decode cX12_spoilers 52 = .ok (.ishl, 1) := by decide +kernel
theorem dX12_spoilers_53 : decode cX12_spoilers 53 = .ok (.goto 4, 3) := by decide +kernel
theorem dX12_spoilers_56 : decode cX12_spoilers 56 = .ok (.iconst 0, 1) := by decide +kernel
theorem dX12_spoilers_57 : decode cX12_spoilers 57 = .ok (.ior, 1) := by decide +kernel
theorem dX12_spoilers_58 : decode cX12_spoilers 58 = .ok (.istore_n 2, 1) := by decide +kernel
theorem dX12_spoilers_59 : decode cX12_spoilers 59 = .ok (.iinc 3 1, 3) := by decide +kernel
theorem dX12_spoilers_62 : decode cX12_spoilers 62 = .ok (.goto (-48), 3) := by decide +kernel
theorem dX12_spoilers_65 : decode cX12_spoilers 65 = .ok (.aload_n 0, 1) := by decide +kernel
theorem dX12_spoilers_66 : decode cX12_spoilers 66 = .ok (.iconst 0, 1) := by decide +kernel
theorem dX12_spoilers_67 : decode cX12_spoilers 67 = .ok (.putfield 261, 3) := by decide +kernel
theorem dX12_spoilers_70 : decode cX12_spoilers 70 = .ok (.iload_n 2, 1) := by decide +kernel
theorem dX12_spoilers_71 : decode cX12_spoilers 71 = .ok (.ireturn, 1) := by decide +kernel
theorem dX12_moreOaths_0 : decode cX12_moreOaths 0 = .ok (.aload_n 0, 1) := by decide +kernel
theorem dX12_moreOaths_1 : decode cX12_moreOaths 1 = .ok (.invokevirtual 334, 3) := by decide +kernel
theorem dX12_moreOaths_4 : decode cX12_moreOaths 4 = .ok (.istore_n 2, 1) := by decide +kernel
theorem dX12_moreOaths_5 : decode cX12_moreOaths 5 = .ok (.iconst 0, 1) := by decide +kernel
theorem dX12_moreOaths_6 : decode cX12_moreOaths 6 = .ok (.istore_n 3, 1) := by decide +kernel
theorem dX12_moreOaths_7 : decode cX12_moreOaths 7 = .ok (.iconst 0, 1) := by decide +kernel
theorem dX12_moreOaths_8 : decode cX12_moreOaths 8 = .ok (.istore 4, 2) := by decide +kernel
theorem dX12_moreOaths_10 : decode cX12_moreOaths 10 = .ok (.iload 4, 2) := by decide +kernel
theorem dX12_moreOaths_12 : decode cX12_moreOaths 12 = .ok (.sipush 288, 3) := by decide +kernel
theorem dX12_moreOaths_15 : decode cX12_moreOaths 15 = .ok (.if_icmp .ge 134, 3) := by decide +kernel
theorem dX12_moreOaths_18 : decode cX12_moreOaths 18 = .ok (.iload 4, 2) := by decide +kernel
theorem dX12_moreOaths_20 : decode cX12_moreOaths 20 = .ok (.bipush 48, 2) := by decide +kernel
theorem dX12_moreOaths_22 : decode cX12_moreOaths 22 = .ok (.idiv, 1) := by decide +kernel
theorem dX12_moreOaths_23 : decode cX12_moreOaths 23 = .ok (.istore 5, 2) := by decide +kernel
theorem dX12_moreOaths_25 : decode cX12_moreOaths 25 = .ok (.iload 4, 2) := by decide +kernel
theorem dX12_moreOaths_27 : decode cX12_moreOaths 27 = .ok (.bipush 8, 2) := by decide +kernel
theorem dX12_moreOaths_29 : decode cX12_moreOaths 29 = .ok (.idiv, 1) := by decide +kernel
theorem dX12_moreOaths_30 : decode cX12_moreOaths 30 = .ok (.bipush 6, 2) := by decide +kernel
theorem dX12_moreOaths_32 : decode cX12_moreOaths 32 = .ok (.irem, 1) := by decide +kernel
theorem dX12_moreOaths_33 : decode cX12_moreOaths 33 = .ok (.istore 6, 2) := by decide +kernel
theorem dX12_moreOaths_35 : decode cX12_moreOaths 35 = .ok (.aload_n 0, 1) := by decide +kernel
theorem dX12_moreOaths_36 : decode cX12_moreOaths 36 = .ok (.iload 5, 2) := by decide +kernel
theorem dX12_moreOaths_38 : decode cX12_moreOaths 38 = .ok (.iload 6, 2) := by decide +kernel
theorem dX12_moreOaths_40 : decode cX12_moreOaths 40 = .ok (.invokevirtual 343, 3) := by decide +kernel
theorem dX12_moreOaths_43 : decode cX12_moreOaths 43 = .ok (.ifCond .eq 100, 3) := by decide +kernel
theorem dX12_moreOaths_46 : decode cX12_moreOaths 46 = .ok (.aload_n 0, 1) := by decide +kernel
theorem dX12_moreOaths_47 : decode cX12_moreOaths 47 = .ok (.iload 5, 2) := by decide +kernel
theorem dX12_moreOaths_49 : decode cX12_moreOaths 49 = .ok (.iload 6, 2) := by decide +kernel
theorem dX12_moreOaths_51 : decode cX12_moreOaths 51 = .ok (.iload 4, 2) := by decide +kernel
theorem dX12_moreOaths_53 : decode cX12_moreOaths 53 = .ok (.bipush 8, 2) := by decide +kernel
theorem dX12_moreOaths_55 : decode cX12_moreOaths 55 = .ok (.irem, 1) := by decide +kernel
theorem dX12_moreOaths_56 : decode cX12_moreOaths 56 = .ok (.invokevirtual 328, 3) := by decide +kernel
theorem dX12_moreOaths_59 : decode cX12_moreOaths 59 = .ok (.ifCond .ne 84, 3) := by decide +kernel
theorem dX12_moreOaths_62 : decode cX12_moreOaths 62 = .ok (.aload_n 0, 1) := by decide +kernel
theorem dX12_moreOaths_63 : decode cX12_moreOaths 63 = .ok (.iload 5, 2) := by decide +kernel
theorem dX12_moreOaths_65 : decode cX12_moreOaths 65 = .ok (.iload 6, 2) := by decide +kernel
theorem dX12_moreOaths_67 : decode cX12_moreOaths 67 = .ok (.iload 4, 2) := by decide +kernel
theorem dX12_moreOaths_69 : decode cX12_moreOaths 69 = .ok (.bipush 8, 2) := by decide +kernel
theorem dX12_moreOaths_71 : decode cX12_moreOaths 71 = .ok (.irem, 1) := by decide +kernel
theorem dX12_moreOaths_72 : decode cX12_moreOaths 72 = .ok (.invokevirtual 331, 3) := by decide +kernel
theorem dX12_moreOaths_75 : decode cX12_moreOaths 75 = .ok (.aload_n 0, 1) := by decide +kernel
theorem dX12_moreOaths_76 : decode cX12_moreOaths 76 = .ok (.invokevirtual 334, 3) := by decide +kernel
theorem dX12_moreOaths_79 : decode cX12_moreOaths 79 = .ok (.iload_n 2, 1) := by decide +kernel
theorem dX12_moreOaths_80 : decode cX12_moreOaths 80 = .ok (.iconst (-1), 1) := by decide +kernel
theorem dX12_moreOaths_81 : decode cX12_moreOaths 81 = .ok (.ixor, 1) := by decide +kernel
theorem dX12_moreOaths_82 : decode cX12_moreOaths 82 = .ok (.iand, 1) := by decide +kernel
theorem dX12_moreOaths_83 : decode cX12_moreOaths 83 = .ok (.ifCond .ne 7, 3) := by decide +kernel
theorem dX12_moreOaths_86 : decode cX12_moreOaths 86 = .ok (.iconst 1, 1) := by decide +kernel
theorem dX12_moreOaths_87 : decode cX12_moreOaths 87 = .ok (.goto 4, 3) := by decide +kernel
theorem dX12_moreOaths_90 : decode cX12_moreOaths 90 = .ok (.iconst 0, 1) := by decide +kernel
theorem dX12_moreOaths_91 : decode cX12_moreOaths 91 = .ok (.istore 7, 2) := by decide +kernel
theorem dX12_moreOaths_93 : decode cX12_moreOaths 93 = .ok (.aload_n 0, 1) := by decide +kernel
theorem dX12_moreOaths_94 : decode cX12_moreOaths 94 = .ok (.dup, 1) := by decide +kernel
theorem dX12_moreOaths_95 : decode cX12_moreOaths 95 = .ok (.getfield 280, 3) := by decide +kernel
theorem dX12_moreOaths_98 : decode cX12_moreOaths 98 = .ok (.iconst 1, 1) := by decide +kernel
theorem dX12_moreOaths_99 : decode cX12_moreOaths 99 = .ok (.isub, 1) := by decide +kernel
theorem dX12_moreOaths_100 : decode cX12_moreOaths 100 = .ok (.putfield 280, 3) := by decide +kernel
theorem dX12_moreOaths_103 : decode cX12_moreOaths 103 = .ok (.iload 7, 2) := by decide +kernel
theorem dX12_moreOaths_105 : decode cX12_moreOaths 105 = .ok (.ifCond .eq 25, 3) := by decide +kernel
theorem dX12_moreOaths_108 : decode cX12_moreOaths 108 = .ok (.iload_n 1, 1) := by decide +kernel
theorem dX12_moreOaths_109 : decode cX12_moreOaths 109 = .ok (.ifCond .eq 21, 3) := by decide +kernel
theorem dX12_moreOaths_112 : decode cX12_moreOaths 112 = .ok (.bipush 100, 2) := by decide +kernel
theorem dX12_moreOaths_114 : decode cX12_moreOaths 114 = .ok (.iload 5, 2) := by decide +kernel
theorem dX12_moreOaths_116 : decode cX12_moreOaths 116 = .ok (.imul, 1) := by decide +kernel
theorem dX12_moreOaths_117 : decode cX12_moreOaths 117 = .ok (.bipush 10, 2) := by decide +kernel
theorem dX12_moreOaths_119 : decode cX12_moreOaths 119 = .ok (.iload 6, 2) := by decide +kernel
theorem dX12_moreOaths_121 : decode cX12_moreOaths 121 = .ok (.imul, 1) := by decide +kernel
theorem dX12_moreOaths_122 : decode cX12_moreOaths 122 = .ok (.iadd, 1) := by decide +kernel
theorem dX12_moreOaths_123 : decode cX12_moreOaths 123 = .ok (.iload 4, 2) := by decide +kernel
theorem dX12_moreOaths_125 : decode cX12_moreOaths 125 = .ok (.bipush 8, 2) := by decide +kernel
theorem dX12_moreOaths_127 : decode cX12_moreOaths 127 = .ok (.irem, 1) := by decide +kernel
theorem dX12_moreOaths_128 : decode cX12_moreOaths 128 = .ok (.iadd, 1) := by decide +kernel
theorem dX12_moreOaths_129 : decode cX12_moreOaths 129 = .ok (.ireturn, 1) := by decide +kernel
theorem dX12_moreOaths_130 : decode cX12_moreOaths 130 = .ok (.iload_n 3, 1) := by decide +kernel
theorem dX12_moreOaths_131 : decode cX12_moreOaths 131 = .ok (.iload 7, 2) := by decide +kernel
theorem dX12_moreOaths_133 : decode cX12_moreOaths 133 = .ok (.ifCond .eq 7, 3) := by decide +kernel
theorem dX12_moreOaths_136 : decode cX12_moreOaths 136 = .ok (.iconst 1, 1) := by decide +kernel
theorem dX12_moreOaths_137 : decode cX12_moreOaths 137 = .ok (.goto 4, 3) := by decide +kernel
theorem dX12_moreOaths_140 : decode cX12_moreOaths 140 = .ok (.iconst 0, 1) := by decide +kernel
theorem dX12_moreOaths_141 : decode cX12_moreOaths 141 = .ok (.iadd, 1) := by decide +kernel
theorem dX12_moreOaths_142 : decode cX12_moreOaths 142 = .ok (.istore_n 3, 1) := by decide +kernel
theorem dX12_moreOaths_143 : decode cX12_moreOaths 143 = .ok (.iinc 4 1, 3) := by decide +kernel
theorem dX12_moreOaths_146 : decode cX12_moreOaths 146 = .ok (.goto (-136), 3) := by decide +kernel
theorem dX12_moreOaths_149 : decode cX12_moreOaths 149 = .ok (.iload_n 1, 1) := by decide +kernel
theorem dX12_moreOaths_150 : decode cX12_moreOaths 150 = .ok (.ifCond .eq 7, 3) := by decide +kernel
theorem dX12_moreOaths_153 : decode cX12_moreOaths 153 = .ok (.iconst (-1), 1) := by decide +kernel
theorem dX12_moreOaths_154 : decode cX12_moreOaths 154 = .ok (.goto 4, 3) := by decide +kernel
theorem dX12_moreOaths_157 : decode cX12_moreOaths 157 = .ok (.iload_n 3, 1) := by decide +kernel
theorem dX12_moreOaths_158 : decode cX12_moreOaths 158 = .ok (.ireturn, 1) := by decide +kernel
theorem dX12_weak_0 : decode cX12_weak 0 = .ok (.iconst (-1), 1) := by decide +kernel
theorem dX12_weak_1 : decode cX12_weak 1 = .ok (.istore_n 1, 1) := by decide +kernel
theorem dX12_weak_2 : decode cX12_weak 2 = .ok (.iconst 0, 1) := by decide +kernel
theorem dX12_weak_3 : decode cX12_weak 3 = .ok (.istore_n 2, 1) := by decide +kernel
theorem dX12_weak_4 : decode cX12_weak 4 = .ok (.iload_n 2, 1) := by decide +kernel
theorem dX12_weak_5 : decode cX12_weak 5 = .ok (.aload_n 0, 1) := by decide +kernel
theorem dX12_weak_6 : decode cX12_weak 6 = .ok (.getfield 283, 3) := by decide +kernel
theorem dX12_weak_9 : decode cX12_weak 9 = .ok (.if_icmp .ge 59, 3) := by decide +kernel
theorem dX12_weak_12 : decode cX12_weak 12 = .ok (.aload_n 0, 1) := by decide +kernel
theorem dX12_weak_13 : decode cX12_weak 13 = .ok (.iload_n 2, 1) := by decide +kernel
theorem dX12_weak_14 : decode cX12_weak 14 = .ok (.invokevirtual 368, 3) := by decide +kernel
theorem dX12_weak_17 : decode cX12_weak 17 = .ok (.invokestatic 295, 3) := by decide +kernel
theorem dX12_weak_20 : decode cX12_weak 20 = .ok (.istore_n 3, 1) := by decide +kernel
theorem dX12_weak_21 : decode cX12_weak 21 = .ok (.iload_n 3, 1) := by decide +kernel
theorem dX12_weak_22 : decode cX12_weak 22 = .ok (.ifCond .le 40, 3) := by decide +kernel
theorem dX12_weak_25 : decode cX12_weak 25 = .ok (.iload_n 1, 1) := by decide +kernel
theorem dX12_weak_26 : decode cX12_weak 26 = .ok (.iconst (-1), 1) := by decide +kernel
theorem dX12_weak_27 : decode cX12_weak 27 = .ok (.if_icmp .eq 33, 3) := by decide +kernel
theorem dX12_weak_30 : decode cX12_weak 30 = .ok (.aload_n 0, 1) := by decide +kernel
theorem dX12_weak_31 : decode cX12_weak 31 = .ok (.iload_n 2, 1) := by decide +kernel
theorem dX12_weak_32 : decode cX12_weak 32 = .ok (.invokevirtual 307, 3) := by decide +kernel
theorem dX12_weak_35 : decode cX12_weak 35 = .ok (.invokestatic 295, 3) := by decide +kernel
theorem dX12_weak_38 : decode cX12_weak 38 = .ok (.aload_n 0, 1) := by decide +kernel
theorem dX12_weak_39 : decode cX12_weak 39 = .ok (.iload_n 1, 1) := by decide +kernel
theorem dX12_weak_40 : decode cX12_weak 40 = .ok (.invokevirtual 368, 3) := by decide +kernel
theorem dX12_weak_43 : decode cX12_weak 43 = .ok (.invokestatic 295, 3) := by decide +kernel
theorem dX12_weak_46 : decode cX12_weak 46 = .ok (.imul, 1) := by decide +kernel
theorem dX12_weak_47 : decode cX12_weak 47 = .ok (.aload_n 0, 1) := by decide +kernel
theorem dX12_weak_48 : decode cX12_weak 48 = .ok (.iload_n 1, 1) := by decide +kernel
theorem dX12_weak_49 : decode cX12_weak 49 = .ok (.invokevirtual 307, 3) := by decide +kernel
theorem dX12_weak_52 : decode cX12_weak 52 = .ok (.invokestatic 295, 3) := by decide +kernel
theorem dX12_weak_55 : decode cX12_weak 55 = .ok (.iload_n 3, 1) := by decide +kernel
theorem dX12_weak_56 : decode cX12_weak 56 = .ok (.imul, 1) := by decide +kernel
theorem dX12_weak_57 : decode cX12_weak 57 = .ok (.if_icmp .ge 5, 3) := by decide +kernel
theorem dX12_weak_60 : decode cX12_weak 60 = .ok (.iload_n 2, 1) := by decide +kernel
theorem dX12_weak_61 : decode cX12_weak 61 = .ok (.istore_n 1, 1) := by decide +kernel
theorem dX12_weak_62 : decode cX12_weak 62 = .ok (.iinc 2 1, 3) := by decide +kernel
theorem dX12_weak_65 : decode cX12_weak 65 = .ok (.goto (-61), 3) := by decide +kernel
theorem dX12_weak_68 : decode cX12_weak 68 = .ok (.iload_n 1, 1) := by decide +kernel
theorem dX12_weak_69 : decode cX12_weak 69 = .ok (.ireturn, 1) := by decide +kernel
theorem dX12_ofWeak_0 : decode cX12_ofWeak 0 = .ok (.aload_n 0, 1) := by decide +kernel
theorem dX12_ofWeak_1 : decode cX12_ofWeak 1 = .ok (.invokevirtual 508, 3) := by decide +kernel
theorem dX12_ofWeak_4 : decode cX12_ofWeak 4 = .ok (.istore_n 2, 1) := by decide +kernel
theorem dX12_ofWeak_5 : decode cX12_ofWeak 5 = .ok (.iload_n 2, 1) := by decide +kernel
theorem dX12_ofWeak_6 : decode cX12_ofWeak 6 = .ok (.iconst (-1), 1) := by decide +kernel
theorem dX12_ofWeak_7 : decode cX12_ofWeak 7 = .ok (.if_icmp .eq 9, 3) := by decide +kernel
theorem dX12_ofWeak_10 : decode cX12_ofWeak 10 = .ok (.iload_n 1, 1) := by decide +kernel
theorem dX12_ofWeak_11 : decode cX12_ofWeak 11 = .ok (.bipush 13, 2) := by decide +kernel
theorem dX12_ofWeak_13 : decode cX12_ofWeak 13 = .ok (.if_icmp .ne 7, 3) := by decide +kernel
theorem dX12_ofWeak_16 : decode cX12_ofWeak 16 = .ok (.iload_n 2, 1) := by decide +kernel
theorem dX12_ofWeak_17 : decode cX12_ofWeak 17 = .ok (.goto 33, 3) := by decide +kernel
theorem dX12_ofWeak_20 : decode cX12_ofWeak 20 = .ok (.aload_n 0, 1) := by decide +kernel
theorem dX12_ofWeak_21 : decode cX12_ofWeak 21 = .ok (.iload_n 2, 1) := by decide +kernel
theorem dX12_ofWeak_22 : decode cX12_ofWeak 22 = .ok (.invokevirtual 307, 3) := by decide +kernel
theorem dX12_ofWeak_25 : decode cX12_ofWeak 25 = .ok (.invokestatic 295, 3) := by decide +kernel
theorem dX12_ofWeak_28 : decode cX12_ofWeak 28 = .ok (.aload_n 0, 1) := by decide +kernel
theorem dX12_ofWeak_29 : decode cX12_ofWeak 29 = .ok (.iload_n 2, 1) := by decide +kernel
theorem dX12_ofWeak_30 : decode cX12_ofWeak 30 = .ok (.invokevirtual 368, 3) := by decide +kernel
theorem dX12_ofWeak_33 : decode cX12_ofWeak 33 = .ok (.invokestatic 295, 3) := by decide +kernel
theorem dX12_ofWeak_36 : decode cX12_ofWeak 36 = .ok (.iload_n 1, 1) := by decide +kernel
theorem dX12_ofWeak_37 : decode cX12_ofWeak 37 = .ok (.bipush 15, 2) := by decide +kernel
theorem dX12_ofWeak_39 : decode cX12_ofWeak 39 = .ok (.if_icmp .ne 7, 3) := by decide +kernel
theorem dX12_ofWeak_42 : decode cX12_ofWeak 42 = .ok (.iconst 1, 1) := by decide +kernel
theorem dX12_ofWeak_43 : decode cX12_ofWeak 43 = .ok (.goto 4, 3) := by decide +kernel
theorem dX12_ofWeak_46 : decode cX12_ofWeak 46 = .ok (.iconst 0, 1) := by decide +kernel
theorem dX12_ofWeak_47 : decode cX12_ofWeak 47 = .ok (.invokestatic 445, 3) := by decide +kernel
theorem dX12_ofWeak_50 : decode cX12_ofWeak 50 = .ok (.ireturn, 1) := by decide +kernel
theorem dX12_ofLone_0 : decode cX12_ofLone 0 = .ok (.iload_n 1, 1) := by decide +kernel
theorem dX12_ofLone_1 : decode cX12_ofLone 1 = .ok (.tableswitch 58 0 4 #[35, 40, 45, 45, 53], 35) := by decide +kernel
theorem dX12_ofLone_36 : decode cX12_ofLone 36 = .ok (.aload_n 0, 1) := by decide +kernel
theorem dX12_ofLone_37 : decode cX12_ofLone 37 = .ok (.invokevirtual 511, 3) := by decide +kernel
theorem dX12_ofLone_40 : decode cX12_ofLone 40 = .ok (.ireturn, 1) := by decide +kernel
theorem dX12_ofLone_41 : decode cX12_ofLone 41 = .ok (.aload_n 0, 1) := by decide +kernel
theorem dX12_ofLone_42 : decode cX12_ofLone 42 = .ok (.invokevirtual 514, 3) := by decide +kernel
theorem dX12_ofLone_45 : decode cX12_ofLone 45 = .ok (.ireturn, 1) := by decide +kernel
theorem dX12_ofLone_46 : decode cX12_ofLone 46 = .ok (.aload_n 0, 1) := by decide +kernel
theorem dX12_ofLone_47 : decode cX12_ofLone 47 = .ok (.iload_n 1, 1) := by decide +kernel
theorem dX12_ofLone_48 : decode cX12_ofLone 48 = .ok (.iconst 2, 1) := by decide +kernel
theorem dX12_ofLone_49 : decode cX12_ofLone 49 = .ok (.isub, 1) := by decide +kernel
theorem dX12_ofLone_50 : decode cX12_ofLone 50 = .ok (.invokevirtual 517, 3) := by decide +kernel
theorem dX12_ofLone_53 : decode cX12_ofLone 53 = .ok (.ireturn, 1) := by decide +kernel
theorem dX12_ofLone_54 : decode cX12_ofLone 54 = .ok (.aload_n 0, 1) := by decide +kernel
theorem dX12_ofLone_55 : decode cX12_ofLone 55 = .ok (.invokevirtual 520, 3) := by decide +kernel
theorem dX12_ofLone_58 : decode cX12_ofLone 58 = .ok (.ireturn, 1) := by decide +kernel
theorem dX12_ofLone_59 : decode cX12_ofLone 59 = .ok (.aload_n 0, 1) := by decide +kernel
theorem dX12_ofLone_60 : decode cX12_ofLone 60 = .ok (.iconst 2, 1) := by decide +kernel
theorem dX12_ofLone_61 : decode cX12_ofLone 61 = .ok (.invokevirtual 517, 3) := by decide +kernel
theorem dX12_ofLone_64 : decode cX12_ofLone 64 = .ok (.ireturn, 1) := by decide +kernel
theorem dX12_lone_0 : decode cX12_lone 0 = .ok (.aload_n 0, 1) := by decide +kernel
theorem dX12_lone_1 : decode cX12_lone 1 = .ok (.iconst 0, 1) := by decide +kernel
theorem dX12_lone_2 : decode cX12_lone 2 = .ok (.putfield 90, 3) := by decide +kernel
theorem dX12_lone_5 : decode cX12_lone 5 = .ok (.aload_n 0, 1) := by decide +kernel
theorem dX12_lone_6 : decode cX12_lone 6 = .ok (.iload_n 1, 1) := by decide +kernel
theorem dX12_lone_7 : decode cX12_lone 7 = .ok (.invokevirtual 310, 3) := by decide +kernel
theorem dX12_lone_10 : decode cX12_lone 10 = .ok (.ifCond .ne 6, 3) := by decide +kernel
theorem dX12_lone_13 : decode cX12_lone 13 = .ok (.bipush (-2), 2) := by decide +kernel
theorem dX12_lone_15 : decode cX12_lone 15 = .ok (.ireturn, 1) := by decide +kernel
theorem dX12_lone_16 : decode cX12_lone 16 = .ok (.iload_n 2, 1) := by decide +kernel
theorem dX12_lone_17 : decode cX12_lone 17 = .ok (.iconst 0, 1) := by decide +kernel
theorem dX12_lone_18 : decode cX12_lone 18 = .ok (.iconst 5, 1) := by decide +kernel
theorem dX12_lone_19 : decode cX12_lone 19 = .ok (.invokestatic 102, 3) := by decide +kernel
theorem dX12_lone_22 : decode cX12_lone 22 = .ok (.ifCond .eq 9, 3) := by decide +kernel
theorem dX12_lone_25 : decode cX12_lone 25 = .ok (.aload_n 0, 1) := by decide +kernel
theorem dX12_lone_26 : decode cX12_lone 26 = .ok (.iload_n 2, 1) := by decide +kernel
theorem dX12_lone_27 : decode cX12_lone 27 = .ok (.invokevirtual 523, 3) := by decide +kernel
theorem dX12_lone_30 : decode cX12_lone 30 = .ok (.ireturn, 1) := by decide +kernel
theorem dX12_lone_31 : decode cX12_lone 31 = .ok (.iload_n 2, 1) := by decide +kernel
theorem dX12_lone_32 : decode cX12_lone 32 = .ok (.tableswitch 116 6 15 #[56, 69, 79, 84, 89, 94, 94, 110, 110, 110], 56) := by decide +kernel
theorem dX12_lone_88 : decode cX12_lone 88 = .ok (.aload_n 0, 1) := by decide +kernel
theorem dX12_lone_89 : decode cX12_lone 89 = .ok (.sipush 255, 3) := by decide +kernel
theorem dX12_lone_92 : decode cX12_lone 92 = .ok (.bipush 8, 2) := by decide +kernel
theorem dX12_lone_94 : decode cX12_lone 94 = .ok (.invokevirtual 304, 3) := by decide +kernel
theorem dX12_lone_97 : decode cX12_lone 97 = .ok (.invokestatic 295, 3) := by decide +kernel
theorem dX12_lone_100 : decode cX12_lone 100 = .ok (.ireturn, 1) := by decide +kernel
theorem dX12_lone_101 : decode cX12_lone 101 = .ok (.aload_n 0, 1) := by decide +kernel
theorem dX12_lone_102 : decode cX12_lone 102 = .ok (.sipush 255, 3) := by decide +kernel
theorem dX12_lone_105 : decode cX12_lone 105 = .ok (.bipush 8, 2) := by decide +kernel
theorem dX12_lone_107 : decode cX12_lone 107 = .ok (.invokevirtual 304, 3) := by decide +kernel
theorem dX12_lone_110 : decode cX12_lone 110 = .ok (.ireturn, 1) := by decide +kernel
theorem dX12_lone_111 : decode cX12_lone 111 = .ok (.aload_n 0, 1) := by decide +kernel
theorem dX12_lone_112 : decode cX12_lone 112 = .ok (.invokevirtual 526, 3) := by decide +kernel
theorem dX12_lone_115 : decode cX12_lone 115 = .ok (.ireturn, 1) := by decide +kernel
theorem dX12_lone_116 : decode cX12_lone 116 = .ok (.aload_n 0, 1) := by decide +kernel
theorem dX12_lone_117 : decode cX12_lone 117 = .ok (.invokevirtual 529, 3) := by decide +kernel
theorem dX12_lone_120 : decode cX12_lone 120 = .ok (.ireturn, 1) := by decide +kernel
theorem dX12_lone_121 : decode cX12_lone 121 = .ok (.aload_n 0, 1) := by decide +kernel
theorem dX12_lone_122 : decode cX12_lone 122 = .ok (.invokevirtual 532, 3) := by decide +kernel
theorem dX12_lone_125 : decode cX12_lone 125 = .ok (.ireturn, 1) := by decide +kernel
theorem dX12_lone_126 : decode cX12_lone 126 = .ok (.aload_n 0, 1) := by decide +kernel
theorem dX12_lone_127 : decode cX12_lone 127 = .ok (.iload_n 2, 1) := by decide +kernel
theorem dX12_lone_128 : decode cX12_lone 128 = .ok (.bipush 12, 2) := by decide +kernel
theorem dX12_lone_130 : decode cX12_lone 130 = .ok (.if_icmp .ne 7, 3) := by decide +kernel
theorem dX12_lone_133 : decode cX12_lone 133 = .ok (.iconst 1, 1) := by decide +kernel
theorem dX12_lone_134 : decode cX12_lone 134 = .ok (.goto 4, 3) := by decide +kernel
theorem dX12_lone_137 : decode cX12_lone 137 = .ok (.iconst 0, 1) := by decide +kernel
theorem dX12_lone_138 : decode cX12_lone 138 = .ok (.invokevirtual 535, 3) := by decide +kernel
theorem dX12_lone_141 : decode cX12_lone 141 = .ok (.ireturn, 1) := by decide +kernel
theorem dX12_lone_142 : decode cX12_lone 142 = .ok (.aload_n 0, 1) := by decide +kernel
theorem dX12_lone_143 : decode cX12_lone 143 = .ok (.iload_n 2, 1) := by decide +kernel
theorem dX12_lone_144 : decode cX12_lone 144 = .ok (.invokevirtual 538, 3) := by decide +kernel
theorem dX12_lone_147 : decode cX12_lone 147 = .ok (.ireturn, 1) := by decide +kernel
theorem dX12_lone_148 : decode cX12_lone 148 = .ok (.bipush (-2), 2) := by decide +kernel
theorem dX12_lone_150 : decode cX12_lone 150 = .ok (.ireturn, 1) := by decide +kernel
theorem dX12_chainBy_0 : decode cX12_chainBy 0 = .ok (.iload_n 1, 1) := by decide +kernel
theorem dX12_chainBy_1 : decode cX12_chainBy 1 = .ok (.iload_n 3, 1) := by decide +kernel
theorem dX12_chainBy_2 : decode cX12_chainBy 2 = .ok (.invokestatic 94, 3) := by decide +kernel
theorem dX12_chainBy_5 : decode cX12_chainBy 5 = .ok (.ifCond .ne 18, 3) := by decide +kernel
theorem dX12_chainBy_8 : decode cX12_chainBy 8 = .ok (.iload_n 2, 1) := by decide +kernel
theorem dX12_chainBy_9 : decode cX12_chainBy 9 = .ok (.bipush 6, 2) := by decide +kernel
theorem dX12_chainBy_11 : decode cX12_chainBy 11 = .ok (.if_icmp .ge 16, 3) := by decide +kernel
theorem dX12_chainBy_14 : decode cX12_chainBy 14 = .ok (.aload_n 0, 1) := by decide +kernel
theorem dX12_chainBy_15 : decode cX12_chainBy 15 = .ok (.iload_n 2, 1) := by decide +kernel
theorem dX12_chainBy_16 : decode cX12_chainBy 16 = .ok (.iload_n 3, 1) := by decide +kernel
theorem dX12_chainBy_17 : decode cX12_chainBy 17 = .ok (.invokevirtual 505, 3) := by decide +kernel
theorem dX12_chainBy_20 : decode cX12_chainBy 20 = .ok (.ifCond .ne 7, 3) := by decide +kernel
theorem dX12_chainBy_23 : decode cX12_chainBy 23 = .ok (.iconst 0, 1) := by decide +kernel
theorem dX12_chainBy_24 : decode cX12_chainBy 24 = .ok (.goto 20, 3) := by decide +kernel
theorem dX12_chainBy_27 : decode cX12_chainBy 27 = .ok (.iconst 1, 1) := by decide +kernel
theorem dX12_chainBy_28 : decode cX12_chainBy 28 = .ok (.aload_n 0, 1) := by decide +kernel
theorem dX12_chainBy_29 : decode cX12_chainBy 29 = .ok (.getfield 83, 3) := by decide +kernel
theorem dX12_chainBy_32 : decode cX12_chainBy 32 = .ok (.bipush 64, 2) := by decide +kernel
theorem dX12_chainBy_34 : decode cX12_chainBy 34 = .ok (.iload_n 3, 1) := by decide +kernel
theorem dX12_chainBy_35 : decode cX12_chainBy 35 = .ok (.imul, 1) := by decide +kernel
theorem dX12_chainBy_36 : decode cX12_chainBy 36 = .ok (.iload_n 1, 1) := by decide +kernel
theorem dX12_chainBy_37 : decode cX12_chainBy 37 = .ok (.iconst 1, 1) := by decide +kernel
theorem dX12_chainBy_38 : decode cX12_chainBy 38 = .ok (.iload_n 3, 1) := by decide +kernel
theorem dX12_chainBy_39 : decode cX12_chainBy 39 = .ok (.ishl, 1) := by decide +kernel
theorem dX12_chainBy_40 : decode cX12_chainBy 40 = .ok (.ior, 1) := by decide +kernel
theorem dX12_chainBy_41 : decode cX12_chainBy 41 = .ok (.iadd, 1) := by decide +kernel
theorem dX12_chainBy_42 : decode cX12_chainBy 42 = .ok (.iaload, 1) := by decide +kernel
theorem dX12_chainBy_43 : decode cX12_chainBy 43 = .ok (.iadd, 1) := by decide +kernel
theorem dX12_chainBy_44 : decode cX12_chainBy 44 = .ok (.ireturn, 1) := by decide +kernel
theorem dX12_chain_0 : decode cX12_chain 0 = .ok (.aload_n 0, 1) := by decide +kernel
theorem dX12_chain_1 : decode cX12_chain 1 = .ok (.iconst 0, 1) := by decide +kernel
theorem dX12_chain_2 : decode cX12_chain 2 = .ok (.putfield 90, 3) := by decide +kernel
theorem dX12_chain_5 : decode cX12_chain 5 = .ok (.aload_n 0, 1) := by decide +kernel
theorem dX12_chain_6 : decode cX12_chain 6 = .ok (.iload_n 1, 1) := by decide +kernel
theorem dX12_chain_7 : decode cX12_chain 7 = .ok (.invokevirtual 310, 3) := by decide +kernel
theorem dX12_chain_10 : decode cX12_chain 10 = .ok (.ifCond .ne 5, 3) := by decide +kernel
theorem dX12_chain_13 : decode cX12_chain 13 = .ok (.iconst (-1), 1) := by decide +kernel
theorem dX12_chain_14 : decode cX12_chain 14 = .ok (.ireturn, 1) := by decide +kernel
theorem dX12_chain_15 : decode cX12_chain 15 = .ok (.iconst 1, 1) := by decide +kernel
theorem dX12_chain_16 : decode cX12_chain 16 = .ok (.aload_n 0, 1) := by decide +kernel
theorem dX12_chain_17 : decode cX12_chain 17 = .ok (.getfield 283, 3) := by decide +kernel
theorem dX12_chain_20 : decode cX12_chain 20 = .ok (.ishl, 1) := by decide +kernel
theorem dX12_chain_21 : decode cX12_chain 21 = .ok (.iconst 1, 1) := by decide +kernel
theorem dX12_chain_22 : decode cX12_chain 22 = .ok (.isub, 1) := by decide +kernel
theorem dX12_chain_23 : decode cX12_chain 23 = .ok (.istore_n 3, 1) := by decide +kernel
theorem dX12_chain_24 : decode cX12_chain 24 = .ok (.iload_n 3, 1) := by decide +kernel
theorem dX12_chain_25 : decode cX12_chain 25 = .ok (.ifCond .lt 76, 3) := by decide +kernel
theorem dX12_chain_28 : decode cX12_chain 28 = .ok (.iconst 0, 1) := by decide +kernel
theorem dX12_chain_29 : decode cX12_chain 29 = .ok (.istore 4, 2) := by decide +kernel
theorem dX12_chain_31 : decode cX12_chain 31 = .ok (.iload 4, 2) := by decide +kernel
theorem dX12_chain_33 : decode cX12_chain 33 = .ok (.bipush 6, 2) := by decide +kernel
theorem dX12_chain_35 : decode cX12_chain 35 = .ok (.if_icmp .gt 60, 3) := by decide +kernel
theorem dX12_chain_38 : decode cX12_chain 38 = .ok (.iconst 0, 1) := by decide +kernel
theorem dX12_chain_39 : decode cX12_chain 39 = .ok (.istore 5, 2) := by decide +kernel
theorem dX12_chain_41 : decode cX12_chain 41 = .ok (.iconst 0, 1) := by decide +kernel
theorem dX12_chain_42 : decode cX12_chain 42 = .ok (.istore 6, 2) := by decide +kernel
theorem dX12_chain_44 : decode cX12_chain 44 = .ok (.iload 6, 2) := by decide +kernel
theorem dX12_chain_46 : decode cX12_chain 46 = .ok (.aload_n 0, 1) := by decide +kernel
theorem dX12_chain_47 : decode cX12_chain 47 = .ok (.getfield 283, 3) := by decide +kernel
theorem dX12_chain_50 : decode cX12_chain 50 = .ok (.if_icmp .ge 25, 3) := by decide +kernel
theorem dX12_chain_53 : decode cX12_chain 53 = .ok (.iload 5, 2) := by decide +kernel
theorem dX12_chain_55 : decode cX12_chain 55 = .ok (.aload_n 0, 1) := by decide +kernel
theorem dX12_chain_56 : decode cX12_chain 56 = .ok (.iload_n 3, 1) := by decide +kernel
theorem dX12_chain_57 : decode cX12_chain 57 = .ok (.iload 4, 2) := by decide +kernel
theorem dX12_chain_59 : decode cX12_chain 59 = .ok (.iload 6, 2) := by decide +kernel
theorem dX12_chain_61 : decode cX12_chain 61 = .ok (.invokevirtual 541, 3) := by decide +kernel
theorem dX12_chain_64 : decode cX12_chain 64 = .ok (.invokestatic 178, 3) := by decide +kernel
theorem dX12_chain_67 : decode cX12_chain 67 = .ok (.istore 5, 2) := by decide +kernel
theorem dX12_chain_69 : decode cX12_chain 69 = .ok (.iinc 6 1, 3) := by decide +kernel
theorem dX12_chain_72 : decode cX12_chain 72 = .ok (.goto (-28), 3) := by decide +kernel
theorem dX12_chain_75 : decode cX12_chain 75 = .ok (.aload_n 0, 1) := by decide +kernel
theorem dX12_chain_76 : decode cX12_chain 76 = .ok (.getfield 83, 3) := by decide +kernel
theorem dX12_chain_79 : decode cX12_chain 79 = .ok (.bipush 64, 2) := by decide +kernel
theorem dX12_chain_81 : decode cX12_chain 81 = .ok (.iload 4, 2) := by decide +kernel
theorem dX12_chain_83 : decode cX12_chain 83 = .ok (.imul, 1) := by decide +kernel
theorem dX12_chain_84 : decode cX12_chain 84 = .ok (.iload_n 3, 1) := by decide +kernel
theorem dX12_chain_85 : decode cX12_chain 85 = .ok (.iadd, 1) := by decide +kernel
theorem dX12_chain_86 : decode cX12_chain 86 = .ok (.iload 5, 2) := by decide +kernel
theorem dX12_chain_88 : decode cX12_chain 88 = .ok (.iastore, 1) := by decide +kernel
theorem dX12_chain_89 : decode cX12_chain 89 = .ok (.iinc 4 1, 3) := by decide +kernel
theorem dX12_chain_92 : decode cX12_chain 92 = .ok (.goto (-61), 3) := by decide +kernel
theorem dX12_chain_95 : decode cX12_chain 95 = .ok (.iinc 3 (-1), 3) := by decide +kernel
theorem dX12_chain_98 : decode cX12_chain 98 = .ok (.goto (-74), 3) := by decide +kernel
theorem dX12_chain_101 : decode cX12_chain 101 = .ok (.aload_n 0, 1) := by decide +kernel
theorem dX12_chain_102 : decode cX12_chain 102 = .ok (.getfield 83, 3) := by decide +kernel
theorem dX12_chain_105 : decode cX12_chain 105 = .ok (.sipush 384, 3) := by decide +kernel
theorem dX12_chain_108 : decode cX12_chain 108 = .ok (.iaload, 1) := by decide +kernel
theorem dX12_chain_109 : decode cX12_chain 109 = .ok (.istore_n 3, 1) := by decide +kernel
theorem dX12_chain_110 : decode cX12_chain 110 = .ok (.iload_n 2, 1) := by decide +kernel
theorem dX12_chain_111 : decode cX12_chain 111 = .ok (.iconst (-1), 1) := by decide +kernel
theorem dX12_chain_112 : decode cX12_chain 112 = .ok (.if_icmp .eq 14, 3) := by decide +kernel
theorem dX12_chain_115 : decode cX12_chain 115 = .ok (.iload_n 2, 1) := by decide +kernel
theorem dX12_chain_116 : decode cX12_chain 116 = .ok (.iconst 0, 1) := by decide +kernel
theorem dX12_chain_117 : decode cX12_chain 117 = .ok (.iload_n 3, 1) := by decide +kernel
theorem dX12_chain_118 : decode cX12_chain 118 = .ok (.iconst 1, 1) := by decide +kernel
theorem dX12_chain_119 : decode cX12_chain 119 = .ok (.isub, 1) := by decide +kernel
theorem dX12_chain_120 : decode cX12_chain 120 = .ok (.invokestatic 102, 3) := by decide +kernel
theorem dX12_chain_123 : decode cX12_chain 123 = .ok (.ifCond .ne 14, 3) := by decide +kernel
theorem dX12_chain_126 : decode cX12_chain 126 = .ok (.iload_n 2, 1) := by decide +kernel
theorem dX12_chain_127 : decode cX12_chain 127 = .ok (.iconst (-1), 1) := by decide +kernel
theorem dX12_chain_128 : decode cX12_chain 128 = .ok (.if_icmp .ne 7, 3) := by decide +kernel
theorem dX12_chain_131 : decode cX12_chain 131 = .ok (.iload_n 3, 1) := by decide +kernel
theorem dX12_chain_132 : decode cX12_chain 132 = .ok (.goto 4, 3) := by decide +kernel
theorem dX12_chain_135 : decode cX12_chain 135 = .ok (.iconst (-1), 1) := by decide +kernel
theorem dX12_chain_136 : decode cX12_chain 136 = .ok (.ireturn, 1) := by decide +kernel
theorem dX12_chain_137 : decode cX12_chain 137 = .ok (.iconst 0, 1) := by decide +kernel
theorem dX12_chain_138 : decode cX12_chain 138 = .ok (.istore 4, 2) := by decide +kernel
theorem dX12_chain_140 : decode cX12_chain 140 = .ok (.bipush 6, 2) := by decide +kernel
theorem dX12_chain_142 : decode cX12_chain 142 = .ok (.istore 5, 2) := by decide +kernel
theorem dX12_chain_144 : decode cX12_chain 144 = .ok (.iconst 0, 1) := by decide +kernel
theorem dX12_chain_145 : decode cX12_chain 145 = .ok (.istore 6, 2) := by decide +kernel
theorem dX12_chain_147 : decode cX12_chain 147 = .ok (.iload 6, 2) := by decide +kernel
theorem dX12_chain_149 : decode cX12_chain 149 = .ok (.iload_n 2, 1) := by decide +kernel
theorem dX12_chain_150 : decode cX12_chain 150 = .ok (.if_icmp .gt 57, 3) := by decide +kernel
theorem dX12_chain_153 : decode cX12_chain 153 = .ok (.iconst 0, 1) := by decide +kernel
theorem dX12_chain_154 : decode cX12_chain 154 = .ok (.istore 7, 2) := by decide +kernel
theorem dX12_chain_156 : decode cX12_chain 156 = .ok (.aload_n 0, 1) := by decide +kernel
theorem dX12_chain_157 : decode cX12_chain 157 = .ok (.iload 4, 2) := by decide +kernel
theorem dX12_chain_159 : decode cX12_chain 159 = .ok (.iload 5, 2) := by decide +kernel
theorem dX12_chain_161 : decode cX12_chain 161 = .ok (.iload 7, 2) := by decide +kernel
theorem dX12_chain_163 : decode cX12_chain 163 = .ok (.invokevirtual 541, 3) := by decide +kernel
theorem dX12_chain_166 : decode cX12_chain 166 = .ok (.aload_n 0, 1) := by decide +kernel
theorem dX12_chain_167 : decode cX12_chain 167 = .ok (.getfield 83, 3) := by decide +kernel
theorem dX12_chain_170 : decode cX12_chain 170 = .ok (.bipush 64, 2) := by decide +kernel
theorem dX12_chain_172 : decode cX12_chain 172 = .ok (.iload 5, 2) := by decide +kernel
theorem dX12_chain_174 : decode cX12_chain 174 = .ok (.imul, 1) := by decide +kernel
theorem dX12_chain_175 : decode cX12_chain 175 = .ok (.iload 4, 2) := by decide +kernel
theorem dX12_chain_177 : decode cX12_chain 177 = .ok (.iadd, 1) := by decide +kernel
theorem dX12_chain_178 : decode cX12_chain 178 = .ok (.iaload, 1) := by decide +kernel
theorem dX12_chain_179 : decode cX12_chain 179 = .ok (.if_icmp .eq 9, 3) := by decide +kernel
theorem dX12_chain_182 : decode cX12_chain 182 = .ok (.iinc 7 1, 3) := by decide +kernel
theorem dX12_chain_185 : decode cX12_chain 185 = .ok (.goto (-29), 3) := by decide +kernel
theorem dX12_chain_188 : decode cX12_chain 188 = .ok (.iload 4, 2) := by decide +kernel
theorem dX12_chain_190 : decode cX12_chain 190 = .ok (.iconst 1, 1) := by decide +kernel
theorem dX12_chain_191 : decode cX12_chain 191 = .ok (.iload 7, 2) := by decide +kernel
theorem dX12_chain_193 : decode cX12_chain 193 = .ok (.ishl, 1) := by decide +kernel
theorem dX12_chain_194 : decode cX12_chain 194 = .ok (.ior, 1) := by decide +kernel
theorem dX12_chain_195 : decode cX12_chain 195 = .ok (.istore 4, 2) := by decide +kernel
theorem dX12_chain_197 : decode cX12_chain 197 = .ok (.iload 7, 2) := by decide +kernel
theorem dX12_chain_199 : decode cX12_chain 199 = .ok (.istore 5, 2) := by decide +kernel
theorem dX12_chain_201 : decode cX12_chain 201 = .ok (.iinc 6 1, 3) := by decide +kernel
theorem dX12_chain_204 : decode cX12_chain 204 = .ok (.goto (-57), 3) := by decide +kernel
theorem dX12_chain_207 : decode cX12_chain 207 = .ok (.iload 5, 2) := by decide +kernel
theorem dX12_chain_209 : decode cX12_chain 209 = .ok (.ireturn, 1) := by decide +kernel
theorem dX12_steps_0 : decode cX12_steps 0 = .ok (.aload_n 0, 1) := by decide +kernel
theorem dX12_steps_1 : decode cX12_steps 1 = .ok (.iconst 0, 1) := by decide +kernel
theorem dX12_steps_2 : decode cX12_steps 2 = .ok (.putfield 90, 3) := by decide +kernel
theorem dX12_steps_5 : decode cX12_steps 5 = .ok (.aload_n 0, 1) := by decide +kernel
theorem dX12_steps_6 : decode cX12_steps 6 = .ok (.iload_n 1, 1) := by decide +kernel
theorem dX12_steps_7 : decode cX12_steps 7 = .ok (.invokevirtual 310, 3) := by decide +kernel
theorem dX12_steps_10 : decode cX12_steps 10 = .ok (.ifCond .eq 19, 3) := by decide +kernel
theorem dX12_steps_13 : decode cX12_steps 13 = .ok (.aload_n 0, 1) := by decide +kernel
theorem dX12_steps_14 : decode cX12_steps 14 = .ok (.iload_n 2, 1) := by decide +kernel
theorem dX12_steps_15 : decode cX12_steps 15 = .ok (.invokevirtual 289, 3) := by decide +kernel
theorem dX12_steps_18 : decode cX12_steps 18 = .ok (.ifCond .eq 11, 3) := by decide +kernel
theorem dX12_steps_21 : decode cX12_steps 21 = .ok (.aload_n 0, 1) := by decide +kernel
theorem dX12_steps_22 : decode cX12_steps 22 = .ok (.iload_n 3, 1) := by decide +kernel
theorem dX12_steps_23 : decode cX12_steps 23 = .ok (.invokevirtual 289, 3) := by decide +kernel
theorem dX12_steps_26 : decode cX12_steps 26 = .ok (.ifCond .ne 5, 3) := by decide +kernel
theorem dX12_steps_29 : decode cX12_steps 29 = .ok (.iconst (-1), 1) := by decide +kernel
theorem dX12_steps_30 : decode cX12_steps 30 = .ok (.ireturn, 1) := by decide +kernel
theorem dX12_steps_31 : decode cX12_steps 31 = .ok (.iconst 1, 1) := by decide +kernel
theorem dX12_steps_32 : decode cX12_steps 32 = .ok (.iload_n 2, 1) := by decide +kernel
theorem dX12_steps_33 : decode cX12_steps 33 = .ok (.ishl, 1) := by decide +kernel
theorem dX12_steps_34 : decode cX12_steps 34 = .ok (.istore 4, 2) := by decide +kernel
theorem dX12_steps_36 : decode cX12_steps 36 = .ok (.iconst 0, 1) := by decide +kernel
theorem dX12_steps_37 : decode cX12_steps 37 = .ok (.istore 5, 2) := by decide +kernel
theorem dX12_steps_39 : decode cX12_steps 39 = .ok (.iload 5, 2) := by decide +kernel
theorem dX12_steps_41 : decode cX12_steps 41 = .ok (.bipush 6, 2) := by decide +kernel
theorem dX12_steps_43 : decode cX12_steps 43 = .ok (.if_icmp .ge 73, 3) := by decide +kernel
theorem dX12_steps_46 : decode cX12_steps 46 = .ok (.iload 4, 2) := by decide +kernel
theorem dX12_steps_48 : decode cX12_steps 48 = .ok (.iload_n 3, 1) := by decide +kernel
theorem dX12_steps_49 : decode cX12_steps 49 = .ok (.invokestatic 94, 3) := by decide +kernel
theorem dX12_steps_52 : decode cX12_steps 52 = .ok (.ifCond .eq 6, 3) := by decide +kernel
theorem dX12_steps_55 : decode cX12_steps 55 = .ok (.iload 5, 2) := by decide +kernel
theorem dX12_steps_57 : decode cX12_steps 57 = .ok (.ireturn, 1) := by decide +kernel
theorem dX12_steps_58 : decode cX12_steps 58 = .ok (.iload 4, 2) := by decide +kernel
theorem dX12_steps_60 : decode cX12_steps 60 = .ok (.istore 6, 2) := by decide +kernel
theorem dX12_steps_62 : decode cX12_steps 62 = .ok (.iconst 0, 1) := by decide +kernel
theorem dX12_steps_63 : decode cX12_steps 63 = .ok (.istore 7, 2) := by decide +kernel
theorem dX12_steps_65 : decode cX12_steps 65 = .ok (.iload 7, 2) := by decide +kernel
theorem dX12_steps_67 : decode cX12_steps 67 = .ok (.aload_n 0, 1) := by decide +kernel
theorem dX12_steps_68 : decode cX12_steps 68 = .ok (.getfield 283, 3) := by decide +kernel
theorem dX12_steps_71 : decode cX12_steps 71 = .ok (.if_icmp .ge 35, 3) := by decide +kernel
theorem dX12_steps_74 : decode cX12_steps 74 = .ok (.iload 6, 2) := by decide +kernel
theorem dX12_steps_76 : decode cX12_steps 76 = .ok (.iload 4, 2) := by decide +kernel
theorem dX12_steps_78 : decode cX12_steps 78 = .ok (.iload 7, 2) := by decide +kernel
theorem dX12_steps_80 : decode cX12_steps 80 = .ok (.invokestatic 94, 3) := by decide +kernel
theorem dX12_steps_83 : decode cX12_steps 83 = .ok (.ifCond .eq 13, 3) := by decide +kernel
theorem dX12_steps_86 : decode cX12_steps 86 = .ok (.aload_n 0, 1) := by decide +kernel
theorem dX12_steps_87 : decode cX12_steps 87 = .ok (.getfield 50, 3) := by decide +kernel
theorem dX12_steps_90 : decode cX12_steps 90 = .ok (.iload 7, 2) := by decide +kernel
theorem dX12_steps_92 : decode cX12_steps 92 = .ok (.iaload, 1) := by decide +kernel
theorem dX12_steps_93 : decode cX12_steps 93 = .ok (.goto 4, 3) := by decide +kernel
theorem dX12_steps_96 : decode cX12_steps 96 = .ok (.iconst 0, 1) := by decide +kernel
theorem dX12_steps_97 : decode cX12_steps 97 = .ok (.ior, 1) := by decide +kernel
theorem dX12_steps_98 : decode cX12_steps 98 = .ok (.istore 6, 2) := by decide +kernel
theorem dX12_steps_100 : decode cX12_steps 100 = .ok (.iinc 7 1, 3) := by decide +kernel
theorem dX12_steps_103 : decode cX12_steps 103 = .ok (.goto (-38), 3) := by decide +kernel
theorem dX12_steps_106 : decode cX12_steps 106 = .ok (.iload 6, 2) := by decide +kernel
theorem dX12_steps_108 : decode cX12_steps 108 = .ok (.istore 4, 2) := by decide +kernel
theorem dX12_steps_110 : decode cX12_steps 110 = .ok (.iinc 5 1, 3) := by decide +kernel
theorem dX12_steps_113 : decode cX12_steps 113 = .ok (.goto (-74), 3) := by decide +kernel
theorem dX12_steps_116 : decode cX12_steps 116 = .ok (.iconst (-1), 1) := by decide +kernel
theorem dX12_steps_117 : decode cX12_steps 117 = .ok (.ireturn, 1) := by decide +kernel
theorem dX12_visitedMost_0 : decode cX12_visitedMost 0 = .ok (.iconst (-1), 1) := by decide +kernel
theorem dX12_visitedMost_1 : decode cX12_visitedMost 1 = .ok (.istore_n 1, 1) := by decide +kernel
theorem dX12_visitedMost_2 : decode cX12_visitedMost 2 = .ok (.iconst 0, 1) := by decide +kernel
theorem dX12_visitedMost_3 : decode cX12_visitedMost 3 = .ok (.istore_n 2, 1) := by decide +kernel
theorem dX12_visitedMost_4 : decode cX12_visitedMost 4 = .ok (.iload_n 2, 1) := by decide +kernel
theorem dX12_visitedMost_5 : decode cX12_visitedMost 5 = .ok (.aload_n 0, 1) := by decide +kernel
theorem dX12_visitedMost_6 : decode cX12_visitedMost 6 = .ok (.getfield 283, 3) := by decide +kernel
theorem dX12_visitedMost_9 : decode cX12_visitedMost 9 = .ok (.if_icmp .ge 37, 3) := by decide +kernel
theorem dX12_visitedMost_12 : decode cX12_visitedMost 12 = .ok (.aload_n 0, 1) := by decide +kernel
theorem dX12_visitedMost_13 : decode cX12_visitedMost 13 = .ok (.iload_n 2, 1) := by decide +kernel
theorem dX12_visitedMost_14 : decode cX12_visitedMost 14 = .ok (.invokevirtual 371, 3) := by decide +kernel
theorem dX12_visitedMost_17 : decode cX12_visitedMost 17 = .ok (.iload_n 1, 1) := by decide +kernel
theorem dX12_visitedMost_18 : decode cX12_visitedMost 18 = .ok (.iconst (-1), 1) := by decide +kernel
theorem dX12_visitedMost_19 : decode cX12_visitedMost 19 = .ok (.if_icmp .ne 7, 3) := by decide +kernel
theorem dX12_visitedMost_22 : decode cX12_visitedMost 22 = .ok (.iconst 0, 1) := by decide +kernel
theorem dX12_visitedMost_23 : decode cX12_visitedMost 23 = .ok (.goto 8, 3) := by decide +kernel
theorem dX12_visitedMost_26 : decode cX12_visitedMost 26 = .ok (.aload_n 0, 1) := by decide +kernel
theorem dX12_visitedMost_27 : decode cX12_visitedMost 27 = .ok (.iload_n 1, 1) := by decide +kernel
theorem dX12_visitedMost_28 : decode cX12_visitedMost 28 = .ok (.invokevirtual 371, 3) := by decide +kernel
theorem dX12_visitedMost_31 : decode cX12_visitedMost 31 = .ok (.if_icmp .le 7, 3) := by decide +kernel
theorem dX12_visitedMost_34 : decode cX12_visitedMost 34 = .ok (.iload_n 2, 1) := by decide +kernel
theorem dX12_visitedMost_35 : decode cX12_visitedMost 35 = .ok (.goto 4, 3) := by decide +kernel
theorem dX12_visitedMost_38 : decode cX12_visitedMost 38 = .ok (.iload_n 1, 1) := by decide +kernel
theorem dX12_visitedMost_39 : decode cX12_visitedMost 39 = .ok (.istore_n 1, 1) := by decide +kernel
theorem dX12_visitedMost_40 : decode cX12_visitedMost 40 = .ok (.iinc 2 1, 3) := by decide +kernel
theorem dX12_visitedMost_43 : decode cX12_visitedMost 43 = .ok (.goto (-39), 3) := by decide +kernel
theorem dX12_visitedMost_46 : decode cX12_visitedMost 46 = .ok (.iload_n 1, 1) := by decide +kernel
theorem dX12_visitedMost_47 : decode cX12_visitedMost 47 = .ok (.ireturn, 1) := by decide +kernel
theorem dX12_likings_0 : decode cX12_likings 0 = .ok (.iconst 0, 1) := by decide +kernel
theorem dX12_likings_1 : decode cX12_likings 1 = .ok (.istore_n 1, 1) := by decide +kernel
theorem dX12_likings_2 : decode cX12_likings 2 = .ok (.iconst 0, 1) := by decide +kernel
theorem dX12_likings_3 : decode cX12_likings 3 = .ok (.istore_n 2, 1) := by decide +kernel
theorem dX12_likings_4 : decode cX12_likings 4 = .ok (.iload_n 2, 1) := by decide +kernel
theorem dX12_likings_5 : decode cX12_likings 5 = .ok (.aload_n 0, 1) := by decide +kernel
theorem dX12_likings_6 : decode cX12_likings 6 = .ok (.getfield 283, 3) := by decide +kernel
theorem dX12_likings_9 : decode cX12_likings 9 = .ok (.if_icmp .ge 21, 3) := by decide +kernel
theorem dX12_likings_12 : decode cX12_likings 12 = .ok (.iload_n 1, 1) := by decide +kernel
theorem dX12_likings_13 : decode cX12_likings 13 = .ok (.aload_n 0, 1) := by decide +kernel
theorem dX12_likings_14 : decode cX12_likings 14 = .ok (.getfield 50, 3) := by decide +kernel
theorem dX12_likings_17 : decode cX12_likings 17 = .ok (.iload_n 2, 1) := by decide +kernel
theorem dX12_likings_18 : decode cX12_likings 18 = .ok (.iaload, 1) := by decide +kernel
theorem dX12_likings_19 : decode cX12_likings 19 = .ok (.invokestatic 295, 3) := by decide +kernel
theorem dX12_likings_22 : decode cX12_likings 22 = .ok (.iadd, 1) := by decide +kernel
theorem dX12_likings_23 : decode cX12_likings 23 = .ok (.istore_n 1, 1) := by decide +kernel
theorem dX12_likings_24 : decode cX12_likings 24 = .ok (.iinc 2 1, 3) := by decide +kernel
theorem dX12_likings_27 : decode cX12_likings 27 = .ok (.goto (-23), 3) := by decide +kernel
theorem dX12_likings_30 : decode cX12_likings 30 = .ok (.iload_n 1, 1) := by decide +kernel
theorem dX12_likings_31 : decode cX12_likings 31 = .ok (.ireturn, 1) := by decide +kernel
theorem dX12_after_0 : decode cX12_after 0 = .ok (.aload_n 0, 1) := by decide +kernel
theorem dX12_after_1 : decode cX12_after 1 = .ok (.iconst 0, 1) := by decide +kernel
theorem dX12_after_2 : decode cX12_after 2 = .ok (.putfield 90, 3) := by decide +kernel
theorem dX12_after_5 : decode cX12_after 5 = .ok (.aload_n 0, 1) := by decide +kernel
theorem dX12_after_6 : decode cX12_after 6 = .ok (.iload_n 1, 1) := by decide +kernel
theorem dX12_after_7 : decode cX12_after 7 = .ok (.iload_n 2, 1) := by decide +kernel
theorem dX12_after_8 : decode cX12_after 8 = .ok (.invokevirtual 362, 3) := by decide +kernel
theorem dX12_after_11 : decode cX12_after 11 = .ok (.ifCond .eq 12, 3) := by decide +kernel
theorem dX12_after_14 : decode cX12_after 14 = .ok (.iload_n 3, 1) := by decide +kernel
theorem dX12_after_15 : decode cX12_after 15 = .ok (.iconst 0, 1) := by decide +kernel
theorem dX12_after_16 : decode cX12_after 16 = .ok (.iconst 4, 1) := by decide +kernel
theorem dX12_after_17 : decode cX12_after 17 = .ok (.invokestatic 102, 3) := by decide +kernel
theorem dX12_after_20 : decode cX12_after 20 = .ok (.ifCond .ne 6, 3) := by decide +kernel
theorem dX12_after_23 : decode cX12_after 23 = .ok (.bipush (-2), 2) := by decide +kernel
theorem dX12_after_25 : decode cX12_after 25 = .ok (.ireturn, 1) := by decide +kernel
theorem dX12_after_26 : decode cX12_after 26 = .ok (.iconst (-1), 1) := by decide +kernel
theorem dX12_after_27 : decode cX12_after 27 = .ok (.istore 4, 2) := by decide +kernel
theorem dX12_after_29 : decode cX12_after 29 = .ok (.iconst (-1), 1) := by decide +kernel
theorem dX12_after_30 : decode cX12_after 30 = .ok (.istore 5, 2) := by decide +kernel
theorem dX12_after_32 : decode cX12_after 32 = .ok (.iconst (-1), 1) := by decide +kernel
theorem dX12_after_33 : decode cX12_after 33 = .ok (.istore 6, 2) := by decide +kernel
theorem dX12_after_35 : decode cX12_after 35 = .ok (.iconst 0, 1) := by decide +kernel
theorem dX12_after_36 : decode cX12_after 36 = .ok (.istore 7, 2) := by decide +kernel
theorem dX12_after_38 : decode cX12_after 38 = .ok (.iconst 1, 1) := by decide +kernel
theorem dX12_after_39 : decode cX12_after 39 = .ok (.istore 8, 2) := by decide +kernel
theorem dX12_after_41 : decode cX12_after 41 = .ok (.iconst 0, 1) := by decide +kernel
theorem dX12_after_42 : decode cX12_after 42 = .ok (.istore 9, 2) := by decide +kernel
theorem dX12_after_44 : decode cX12_after 44 = .ok (.iload 8, 2) := by decide +kernel
theorem dX12_after_46 : decode cX12_after 46 = .ok (.ifCond .eq 121, 3) := by decide +kernel
theorem dX12_after_49 : decode cX12_after 49 = .ok (.iload 9, 2) := by decide +kernel
theorem dX12_after_51 : decode cX12_after 51 = .ok (.aload_n 0, 1) := by decide +kernel
theorem dX12_after_52 : decode cX12_after 52 = .ok (.invokevirtual 322, 3) := by decide +kernel
theorem dX12_after_55 : decode cX12_after 55 = .ok (.if_icmp .ge 112, 3) := by decide +kernel
theorem dX12_after_58 : decode cX12_after 58 = .ok (.aload_n 0, 1) := by decide +kernel
theorem dX12_after_59 : decode cX12_after 59 = .ok (.getfield 270, 3) := by decide +kernel
theorem dX12_after_62 : decode cX12_after 62 = .ok (.istore 10, 2) := by decide +kernel
theorem dX12_after_64 : decode cX12_after 64 = .ok (.aload_n 0, 1) := by decide +kernel
theorem dX12_after_65 : decode cX12_after 65 = .ok (.iload 9, 2) := by decide +kernel
theorem dX12_after_67 : decode cX12_after 67 = .ok (.invokevirtual 359, 3) := by decide +kernel
theorem dX12_after_70 : decode cX12_after 70 = .ok (.istore 8, 2) := by decide +kernel
theorem dX12_after_72 : decode cX12_after 72 = .ok (.iload 8, 2) := by decide +kernel
theorem dX12_after_74 : decode cX12_after 74 = .ok (.ifCond .eq 13, 3) := by decide +kernel
theorem dX12_after_77 : decode cX12_after 77 = .ok (.aload_n 0, 1) := by decide +kernel
theorem dX12_after_78 : decode cX12_after 78 = .ok (.iload 9, 2) := by decide +kernel
theorem dX12_after_80 : decode cX12_after 80 = .ok (.iconst 0, 1) := by decide +kernel
theorem dX12_after_81 : decode cX12_after 81 = .ok (.invokevirtual 325, 3) := by decide +kernel
theorem dX12_after_84 : decode cX12_after 84 = .ok (.goto 4, 3) := by decide +kernel
theorem dX12_after_87 : decode cX12_after 87 = .ok (.iconst (-1), 1) := by decide +kernel
theorem dX12_after_88 : decode cX12_after 88 = .ok (.istore 11, 2) := by decide +kernel
theorem dX12_after_90 : decode cX12_after 90 = .ok (.iload 4, 2) := by decide +kernel
theorem dX12_after_92 : decode cX12_after 92 = .ok (.iconst (-1), 1) := by decide +kernel
theorem dX12_after_93 : decode cX12_after 93 = .ok (.if_icmp .ne 15, 3) := by decide +kernel
theorem dX12_after_96 : decode cX12_after 96 = .ok (.aload_n 0, 1) := by decide +kernel
theorem dX12_after_97 : decode cX12_after 97 = .ok (.getfield 264, 3) := by decide +kernel
theorem dX12_after_100 : decode cX12_after 100 = .ok (.ifCond .eq 8, 3) := by decide +kernel
theorem dX12_after_103 : decode cX12_after 103 = .ok (.iload 9, 2) := by decide +kernel
theorem dX12_after_105 : decode cX12_after 105 = .ok (.goto 5, 3) := by decide +kernel
theorem dX12_after_108 : decode cX12_after 108 = .ok (.iload 4, 2) := by decide +kernel
theorem dX12_after_110 : decode cX12_after 110 = .ok (.istore 4, 2) := by decide +kernel
theorem dX12_after_112 : decode cX12_after 112 = .ok (.iload 7, 2) := by decide +kernel
theorem dX12_after_114 : decode cX12_after 114 = .ok (.iload 11, 2) := by decide +kernel
theorem dX12_after_116 : decode cX12_after 116 = .ok (.bipush 6, 2) := by decide +kernel
theorem dX12_after_118 : decode cX12_after 118 = .ok (.if_icmp .ne 7, 3) := by decide +kernel
theorem dX12_after_121 : decode cX12_after 121 = .ok (.iconst 1, 1) := by decide +kernel
theorem dX12_after_122 : decode cX12_after 122 = .ok (.goto 4, 3) := by decide +kernel
theorem dX12_after_125 : decode cX12_after 125 = .ok (.iconst 0, 1) := by decide +kernel
theorem dX12_after_126 : decode cX12_after 126 = .ok (.iadd, 1) := by decide +kernel
theorem dX12_after_127 : decode cX12_after 127 = .ok (.istore 7, 2) := by decide +kernel
theorem dX12_after_129 : decode cX12_after 129 = .ok (.iload 11, 2) := by decide +kernel
theorem dX12_after_131 : decode cX12_after 131 = .ok (.ifCond .ne 30, 3) := by decide +kernel
theorem dX12_after_134 : decode cX12_after 134 = .ok (.aload_n 0, 1) := by decide +kernel
theorem dX12_after_135 : decode cX12_after 135 = .ok (.getfield 270, 3) := by decide +kernel
theorem dX12_after_138 : decode cX12_after 138 = .ok (.iload 10, 2) := by decide +kernel
theorem dX12_after_140 : decode cX12_after 140 = .ok (.isub, 1) := by decide +kernel
theorem dX12_after_141 : decode cX12_after 141 = .ok (.iload 6, 2) := by decide +kernel
theorem dX12_after_143 : decode cX12_after 143 = .ok (.if_icmp .le 18, 3) := by decide +kernel
theorem dX12_after_146 : decode cX12_after 146 = .ok (.aload_n 0, 1) := by decide +kernel
theorem dX12_after_147 : decode cX12_after 147 = .ok (.getfield 267, 3) := by decide +kernel
theorem dX12_after_150 : decode cX12_after 150 = .ok (.istore 5, 2) := by decide +kernel
theorem dX12_after_152 : decode cX12_after 152 = .ok (.aload_n 0, 1) := by decide +kernel
theorem dX12_after_153 : decode cX12_after 153 = .ok (.getfield 270, 3) := by decide +kernel
theorem dX12_after_156 : decode cX12_after 156 = .ok (.iload 10, 2) := by decide +kernel
theorem dX12_after_158 : decode cX12_after 158 = .ok (.isub, 1) := by decide +kernel
theorem dX12_after_159 : decode cX12_after 159 = .ok (.istore 6, 2) := by decide +kernel
theorem dX12_after_161 : decode cX12_after 161 = .ok (.iinc 9 1, 3) := by decide +kernel
theorem dX12_after_164 : decode cX12_after 164 = .ok (.goto (-120), 3) := by decide +kernel
theorem dX12_after_167 : decode cX12_after 167 = .ok (.iload_n 3, 1) := by decide +kernel
theorem dX12_after_168 : decode cX12_after 168 = .ok (.tableswitch 48 0 3 #[32, 35, 40, 43], 32) := by decide +kernel
theorem dX12_after_200 : decode cX12_after 200 = .ok (.iload 4, 2) := by decide +kernel
theorem dX12_after_202 : decode cX12_after 202 = .ok (.ireturn, 1) := by decide +kernel
theorem dX12_after_203 : decode cX12_after 203 = .ok (.aload_n 0, 1) := by decide +kernel
theorem dX12_after_204 : decode cX12_after 204 = .ok (.invokevirtual 544, 3) := by decide +kernel
theorem dX12_after_207 : decode cX12_after 207 = .ok (.ireturn, 1) := by decide +kernel
theorem dX12_after_208 : decode cX12_after 208 = .ok (.iload 5, 2) := by decide +kernel
theorem dX12_after_210 : decode cX12_after 210 = .ok (.ireturn, 1) := by decide +kernel
theorem dX12_after_211 : decode cX12_after 211 = .ok (.aload_n 0, 1) := by decide +kernel
theorem dX12_after_212 : decode cX12_after 212 = .ok (.invokevirtual 547, 3) := by decide +kernel
theorem dX12_after_215 : decode cX12_after 215 = .ok (.ireturn, 1) := by decide +kernel
theorem dX12_after_216 : decode cX12_after 216 = .ok (.iload 7, 2) := by decide +kernel
theorem dX12_after_218 : decode cX12_after 218 = .ok (.ireturn, 1) := by decide +kernel
theorem dX12_count_0 : decode cX12_count 0 = .ok (.aload_n 0, 1) := by decide +kernel
theorem dX12_count_1 : decode cX12_count 1 = .ok (.iconst 0, 1) := by decide +kernel
theorem dX12_count_2 : decode cX12_count 2 = .ok (.putfield 90, 3) := by decide +kernel
theorem dX12_count_5 : decode cX12_count 5 = .ok (.iload_n 1, 1) := by decide +kernel
theorem dX12_count_6 : decode cX12_count 6 = .ok (.iconst 0, 1) := by decide +kernel
theorem dX12_count_7 : decode cX12_count 7 = .ok (.iconst 3, 1) := by decide +kernel
theorem dX12_count_8 : decode cX12_count 8 = .ok (.invokestatic 102, 3) := by decide +kernel
theorem dX12_count_11 : decode cX12_count 11 = .ok (.ifCond .eq 12, 3) := by decide +kernel
theorem dX12_count_14 : decode cX12_count 14 = .ok (.aload_n 0, 1) := by decide +kernel
theorem dX12_count_15 : decode cX12_count 15 = .ok (.getfield 23, 3) := by decide +kernel
theorem dX12_count_18 : decode cX12_count 18 = .ok (.iload_n 1, 1) := by decide +kernel
theorem dX12_count_19 : decode cX12_count 19 = .ok (.iaload, 1) := by decide +kernel
theorem dX12_count_20 : decode cX12_count 20 = .ok (.goto 5, 3) := by decide +kernel
theorem dX12_count_23 : decode cX12_count 23 = .ok (.bipush (-2), 2) := by decide +kernel
theorem dX12_count_25 : decode cX12_count 25 = .ok (.ireturn, 1) := by decide +kernel
theorem dX12_image_0 : decode cX12_image 0 = .ok (.aload_n 0, 1) := by decide +kernel
theorem dX12_image_1 : decode cX12_image 1 = .ok (.iconst 0, 1) := by decide +kernel
theorem dX12_image_2 : decode cX12_image 2 = .ok (.putfield 90, 3) := by decide +kernel
theorem dX12_image_5 : decode cX12_image 5 = .ok (.iload_n 1, 1) := by decide +kernel
theorem dX12_image_6 : decode cX12_image 6 = .ok (.iconst 0, 1) := by decide +kernel
theorem dX12_image_7 : decode cX12_image 7 = .ok (.iconst 2, 1) := by decide +kernel
theorem dX12_image_8 : decode cX12_image 8 = .ok (.invokestatic 102, 3) := by decide +kernel
theorem dX12_image_11 : decode cX12_image 11 = .ok (.ifCond .ne 5, 3) := by decide +kernel
theorem dX12_image_14 : decode cX12_image 14 = .ok (.iconst 0, 1) := by decide +kernel
theorem dX12_image_15 : decode cX12_image 15 = .ok (.ireturn, 1) := by decide +kernel
theorem dX12_image_16 : decode cX12_image 16 = .ok (.aload_n 0, 1) := by decide +kernel
theorem dX12_image_17 : decode cX12_image 17 = .ok (.iconst 0, 1) := by decide +kernel
theorem dX12_image_18 : decode cX12_image 18 = .ok (.iload_n 1, 1) := by decide +kernel
theorem dX12_image_19 : decode cX12_image 19 = .ok (.iconst 1, 1) := by decide +kernel
theorem dX12_image_20 : decode cX12_image 20 = .ok (.iadd, 1) := by decide +kernel
theorem dX12_image_21 : decode cX12_image 21 = .ok (.invokevirtual 550, 3) := by decide +kernel
theorem dX12_image_24 : decode cX12_image 24 = .ok (.aload_n 0, 1) := by decide +kernel
theorem dX12_image_25 : decode cX12_image 25 = .ok (.getfield 86, 3) := by decide +kernel
theorem dX12_image_28 : decode cX12_image 28 = .ok (.iload_n 1, 1) := by decide +kernel
theorem dX12_image_29 : decode cX12_image 29 = .ok (.iconst 1, 1) := by decide +kernel
theorem dX12_image_30 : decode cX12_image 30 = .ok (.bastore, 1) := by decide +kernel
theorem dX12_image_31 : decode cX12_image 31 = .ok (.iconst 1, 1) := by decide +kernel
theorem dX12_image_32 : decode cX12_image 32 = .ok (.ireturn, 1) := by decide +kernel
theorem dX12_again_0 : decode cX12_again 0 = .ok (.aload_n 0, 1) := by decide +kernel
theorem dX12_again_1 : decode cX12_again 1 = .ok (.iconst 0, 1) := by decide +kernel
theorem dX12_again_2 : decode cX12_again 2 = .ok (.putfield 90, 3) := by decide +kernel
theorem dX12_again_5 : decode cX12_again 5 = .ok (.iload_n 1, 1) := by decide +kernel
theorem dX12_again_6 : decode cX12_again 6 = .ok (.iconst 0, 1) := by decide +kernel
theorem dX12_again_7 : decode cX12_again 7 = .ok (.iconst 2, 1) := by decide +kernel
theorem dX12_again_8 : decode cX12_again 8 = .ok (.invokestatic 102, 3) := by decide +kernel
theorem dX12_again_11 : decode cX12_again 11 = .ok (.ifCond .eq 12, 3) := by decide +kernel
theorem dX12_again_14 : decode cX12_again 14 = .ok (.aload_n 0, 1) := by decide +kernel
theorem dX12_again_15 : decode cX12_again 15 = .ok (.getfield 86, 3) := by decide +kernel
theorem dX12_again_18 : decode cX12_again 18 = .ok (.iload_n 1, 1) := by decide +kernel
theorem dX12_again_19 : decode cX12_again 19 = .ok (.baload, 1) := by decide +kernel
theorem dX12_again_20 : decode cX12_again 20 = .ok (.ifCond .ne 5, 3) := by decide +kernel
theorem dX12_again_23 : decode cX12_again 23 = .ok (.iconst 0, 1) := by decide +kernel
theorem dX12_again_24 : decode cX12_again 24 = .ok (.ireturn, 1) := by decide +kernel
theorem dX12_again_25 : decode cX12_again 25 = .ok (.aload_n 0, 1) := by decide +kernel
theorem dX12_again_26 : decode cX12_again 26 = .ok (.iload_n 1, 1) := by decide +kernel
theorem dX12_again_27 : decode cX12_again 27 = .ok (.iconst 1, 1) := by decide +kernel
theorem dX12_again_28 : decode cX12_again 28 = .ok (.iadd, 1) := by decide +kernel
theorem dX12_again_29 : decode cX12_again 29 = .ok (.iconst 0, 1) := by decide +kernel
theorem dX12_again_30 : decode cX12_again 30 = .ok (.invokevirtual 550, 3) := by decide +kernel
theorem dX12_again_33 : decode cX12_again 33 = .ok (.iconst 1, 1) := by decide +kernel
theorem dX12_again_34 : decode cX12_again 34 = .ok (.ireturn, 1) := by decide +kernel
