theorem dX6_init_0 : decode cX6_init 0 = .ok (.aload_n 0, 1) := by decide +kernel
theorem dX6_init_1 : decode cX6_init 1 = .ok (.invokespecial 3, 3) := by decide +kernel
theorem dX6_init_4 : decode cX6_init 4 = .ok (.aload_n 0, 1) := by decide +kernel
theorem dX6_init_5 : decode cX6_init 5 = .ok (.iconst 0, 1) := by decide +kernel
theorem dX6_init_6 : decode cX6_init 6 = .ok (.putfield 9, 3) := by decide +kernel
theorem dX6_init_9 : decode cX6_init 9 = .ok (.aload_n 0, 1) := by decide +kernel
theorem dX6_init_10 : decode cX6_init 10 = .ok (.iload_n 1, 1) := by decide +kernel
theorem dX6_init_11 : decode cX6_init 11 = .ok (.iconst 0, 1) := by decide +kernel
theorem dX6_init_12 : decode cX6_init 12 = .ok (.invokestatic 15, 3) := by decide +kernel
theorem dX6_init_15 : decode cX6_init 15 = .ok (.iconst 4, 1) := by decide +kernel
theorem dX6_init_16 : decode cX6_init 16 = .ok (.imul, 1) := by decide +kernel
theorem dX6_init_17 : decode cX6_init 17 = .ok (.newarray .int, 2) := by decide +kernel
theorem dX6_init_19 : decode cX6_init 19 = .ok (.putfield 21, 3) := by decide +kernel
theorem dX6_init_22 : decode cX6_init 22 = .ok (.return_, 1) := by decide +kernel
theorem dX6_add_0 : decode cX6_add 0 = .ok (.aload_n 0, 1) := by decide +kernel
theorem dX6_add_1 : decode cX6_add 1 = .ok (.getfield 9, 3) := by decide +kernel
theorem dX6_add_4 : decode cX6_add 4 = .ok (.iconst 4, 1) := by decide +kernel
theorem dX6_add_5 : decode cX6_add 5 = .ok (.imul, 1) := by decide +kernel
theorem dX6_add_6 : decode cX6_add 6 = .ok (.istore 5, 2) := by decide +kernel
theorem dX6_add_8 : decode cX6_add 8 = .ok (.iload 5, 2) := by decide +kernel
theorem dX6_add_10 : decode cX6_add 10 = .ok (.iconst 4, 1) := by decide +kernel
theorem dX6_add_11 : decode cX6_add 11 = .ok (.iadd, 1) := by decide +kernel
theorem dX6_add_12 : decode cX6_add 12 = .ok (.aload_n 0, 1) := by decide +kernel
theorem dX6_add_13 : decode cX6_add 13 = .ok (.getfield 21, 3) := by decide +kernel
theorem dX6_add_16 : decode cX6_add 16 = .ok (.arraylength, 1) := by decide +kernel
theorem dX6_add_17 : decode cX6_add 17 = .ok (.if_icmp .le 4, 3) := by decide +kernel
theorem dX6_add_20 : decode cX6_add 20 = .ok (.return_, 1) := by decide +kernel
theorem dX6_add_21 : decode cX6_add 21 = .ok (.aload_n 0, 1) := by decide +kernel
theorem dX6_add_22 : decode cX6_add 22 = .ok (.getfield 21, 3) := by decide +kernel
theorem dX6_add_25 : decode cX6_add 25 = .ok (.iload 5, 2) := by decide +kernel
theorem dX6_add_27 : decode cX6_add 27 = .ok (.iload_n 1, 1) := by decide +kernel
theorem dX6_add_28 : decode cX6_add 28 = .ok (.iastore, 1) := by decide +kernel
theorem dX6_add_29 : decode cX6_add 29 = .ok (.aload_n 0, 1) := by decide +kernel
theorem dX6_add_30 : decode cX6_add 30 = .ok (.getfield 21, 3) := by decide +kernel
theorem dX6_add_33 : decode cX6_add 33 = .ok (.iload 5, 2) := by decide +kernel
theorem dX6_add_35 : decode cX6_add 35 = .ok (.iconst 1, 1) := by decide +kernel
theorem dX6_add_36 : decode cX6_add 36 = .ok (.iadd, 1) := by decide +kernel
theorem dX6_add_37 : decode cX6_add 37 = .ok (.iload_n 2, 1) := by decide +kernel
theorem dX6_add_38 : decode cX6_add 38 = .ok (.iastore, 1) := by decide +kernel
theorem dX6_add_39 : decode cX6_add 39 = .ok (.aload_n 0, 1) := by decide +kernel
theorem dX6_add_40 : decode cX6_add 40 = .ok (.getfield 21, 3) := by decide +kernel
theorem dX6_add_43 : decode cX6_add 43 = .ok (.iload 5, 2) := by decide +kernel
theorem dX6_add_45 : decode cX6_add 45 = .ok (.iconst 2, 1) := by decide +kernel
theorem dX6_add_46 : decode cX6_add 46 = .ok (.iadd, 1) := by decide +kernel
theorem dX6_add_47 : decode cX6_add 47 = .ok (.iload_n 3, 1) := by decide +kernel
theorem dX6_add_48 : decode cX6_add 48 = .ok (.iastore, 1) := by decide +kernel
theorem dX6_add_49 : decode cX6_add 49 = .ok (.aload_n 0, 1) := by decide +kernel
theorem dX6_add_50 : decode cX6_add 50 = .ok (.getfield 21, 3) := by decide +kernel
theorem dX6_add_53 : decode cX6_add 53 = .ok (.iload 5, 2) := by decide +kernel
theorem dX6_add_55 : decode cX6_add 55 = .ok (.iconst 3, 1) := by decide +kernel
theorem dX6_add_56 : decode cX6_add 56 = .ok (.iadd, 1) := by decide +kernel
theorem dX6_add_57 : decode cX6_add 57 = .ok (.iload 4, 2) := by decide +kernel
theorem dX6_add_59 : decode cX6_add 59 = .ok (.iastore, 1) := by decide +kernel
theorem dX6_add_60 : decode cX6_add 60 = .ok (.aload_n 0, 1) := by decide +kernel
theorem dX6_add_61 : decode cX6_add 61 = .ok (.dup, 1) := by decide +kernel
theorem dX6_add_62 : decode cX6_add 62 = .ok (.getfield 9, 3) := by decide +kernel
theorem dX6_add_65 : decode cX6_add 65 = .ok (.iconst 1, 1) := by decide +kernel
theorem dX6_add_66 : decode cX6_add 66 = .ok (.iadd, 1) := by decide +kernel
theorem dX6_add_67 : decode cX6_add 67 = .ok (.putfield 9, 3) := by decide +kernel
theorem dX6_add_70 : decode cX6_add 70 = .ok (.return_, 1) := by decide +kernel
theorem dX6_cell_0 : decode cX6_cell 0 = .ok (.iload_n 1, 1) := by decide +kernel
theorem dX6_cell_1 : decode cX6_cell 1 = .ok (.ifCond .lt 20, 3) := by decide +kernel
theorem dX6_cell_4 : decode cX6_cell 4 = .ok (.iload_n 1, 1) := by decide +kernel
theorem dX6_cell_5 : decode cX6_cell 5 = .ok (.aload_n 0, 1) := by decide +kernel
theorem dX6_cell_6 : decode cX6_cell 6 = .ok (.getfield 9, 3) := by decide +kernel
theorem dX6_cell_9 : decode cX6_cell 9 = .ok (.if_icmp .ge 12, 3) := by decide +kernel
theorem dX6_cell_12 : decode cX6_cell 12 = .ok (.iload_n 2, 1) := by decide +kernel
theorem dX6_cell_13 : decode cX6_cell 13 = .ok (.ifCond .lt 8, 3) := by decide +kernel
theorem dX6_cell_16 : decode cX6_cell 16 = .ok (.iload_n 2, 1) := by decide +kernel
theorem dX6_cell_17 : decode cX6_cell 17 = .ok (.iconst 4, 1) := by decide +kernel
theorem dX6_cell_18 : decode cX6_cell 18 = .ok (.if_icmp .lt 5, 3) := by decide +kernel
theorem dX6_cell_21 : decode cX6_cell 21 = .ok (.iconst (-1), 1) := by decide +kernel
theorem dX6_cell_22 : decode cX6_cell 22 = .ok (.ireturn, 1) := by decide +kernel
theorem dX6_cell_23 : decode cX6_cell 23 = .ok (.aload_n 0, 1) := by decide +kernel
theorem dX6_cell_24 : decode cX6_cell 24 = .ok (.getfield 21, 3) := by decide +kernel
theorem dX6_cell_27 : decode cX6_cell 27 = .ok (.iload_n 1, 1) := by decide +kernel
theorem dX6_cell_28 : decode cX6_cell 28 = .ok (.iconst 4, 1) := by decide +kernel
theorem dX6_cell_29 : decode cX6_cell 29 = .ok (.imul, 1) := by decide +kernel
theorem dX6_cell_30 : decode cX6_cell 30 = .ok (.iload_n 2, 1) := by decide +kernel
theorem dX6_cell_31 : decode cX6_cell 31 = .ok (.iadd, 1) := by decide +kernel
theorem dX6_cell_32 : decode cX6_cell 32 = .ok (.iaload, 1) := by decide +kernel
theorem dX6_cell_33 : decode cX6_cell 33 = .ok (.ireturn, 1) := by decide +kernel
theorem dX6_copy_0 : decode cX6_copy 0 = .ok (.new 10, 3) := by decide +kernel
theorem dX6_copy_3 : decode cX6_copy 3 = .ok (.dup, 1) := by decide +kernel
theorem dX6_copy_4 : decode cX6_copy 4 = .ok (.aload_n 0, 1) := by decide +kernel
theorem dX6_copy_5 : decode cX6_copy 5 = .ok (.getfield 9, 3) := by decide +kernel
theorem dX6_copy_8 : decode cX6_copy 8 = .ok (.invokespecial 25, 3) := by decide +kernel
theorem dX6_copy_11 : decode cX6_copy 11 = .ok (.astore_n 1, 1) := by decide +kernel
theorem dX6_copy_12 : decode cX6_copy 12 = .ok (.aload_n 0, 1) := by decide +kernel
theorem dX6_copy_13 : decode cX6_copy 13 = .ok (.getfield 21, 3) := by decide +kernel
theorem dX6_copy_16 : decode cX6_copy 16 = .ok (.iconst 0, 1) := by decide +kernel
theorem dX6_copy_17 : decode cX6_copy 17 = .ok (.aload_n 1, 1) := by decide +kernel
theorem dX6_copy_18 : decode cX6_copy 18 = .ok (.getfield 21, 3) := by decide +kernel
theorem dX6_copy_21 : decode cX6_copy 21 = .ok (.iconst 0, 1) := by decide +kernel
theorem dX6_copy_22 : decode cX6_copy 22 = .ok (.aload_n 0, 1) := by decide +kernel
theorem dX6_copy_23 : decode cX6_copy 23 = .ok (.getfield 9, 3) := by decide +kernel
theorem dX6_copy_26 : decode cX6_copy 26 = .ok (.iconst 4, 1) := by decide +kernel
theorem dX6_copy_27 : decode cX6_copy 27 = .ok (.imul, 1) := by decide +kernel
theorem dX6_copy_28 : decode cX6_copy 28 = .ok (.invokestatic 28, 3) := by decide +kernel
theorem dX6_copy_31 : decode cX6_copy 31 = .ok (.aload_n 1, 1) := by decide +kernel
theorem dX6_copy_32 : decode cX6_copy 32 = .ok (.aload_n 0, 1) := by decide +kernel
theorem dX6_copy_33 : decode cX6_copy 33 = .ok (.getfield 9, 3) := by decide +kernel
theorem dX6_copy_36 : decode cX6_copy 36 = .ok (.putfield 9, 3) := by decide +kernel
theorem dX6_copy_39 : decode cX6_copy 39 = .ok (.aload_n 1, 1) := by decide +kernel
theorem dX6_copy_40 : decode cX6_copy 40 = .ok (.areturn, 1) := by decide +kernel
theorem dX5_init_0 : decode cX5_init 0 = .ok (.aload_n 0, 1) := by decide +kernel
theorem dX5_init_1 : decode cX5_init 1 = .ok (.invokespecial 3, 3) := by decide +kernel
theorem dX5_init_4 : decode cX5_init 4 = .ok (.aload_n 0, 1) := by decide +kernel
theorem dX5_init_5 : decode cX5_init 5 = .ok (.new 9, 3) := by decide +kernel
theorem dX5_init_8 : decode cX5_init 8 = .ok (.dup, 1) := by decide +kernel
theorem dX5_init_9 : decode cX5_init 9 = .ok (.bipush 100, 2) := by decide +kernel
theorem dX5_init_11 : decode cX5_init 11 = .ok (.invokespecial 13, 3) := by decide +kernel
theorem dX5_init_14 : decode cX5_init 14 = .ok (.putfield 16, 3) := by decide +kernel
theorem dX5_init_17 : decode cX5_init 17 = .ok (.aload_n 0, 1) := by decide +kernel
theorem dX5_init_18 : decode cX5_init 18 = .ok (.iconst 0, 1) := by decide +kernel
theorem dX5_init_19 : decode cX5_init 19 = .ok (.putfield 20, 3) := by decide +kernel
theorem dX5_init_22 : decode cX5_init 22 = .ok (.aload_n 0, 1) := by decide +kernel
theorem dX5_init_23 : decode cX5_init 23 = .ok (.iconst (-1), 1) := by decide +kernel
theorem dX5_init_24 : decode cX5_init 24 = .ok (.putfield 24, 3) := by decide +kernel
theorem dX5_init_27 : decode cX5_init 27 = .ok (.aload_n 0, 1) := by decide +kernel
theorem dX5_init_28 : decode cX5_init 28 = .ok (.bipush 7, 2) := by decide +kernel
theorem dX5_init_30 : decode cX5_init 30 = .ok (.newarray .int, 2) := by decide +kernel
theorem dX5_init_32 : decode cX5_init 32 = .ok (.putfield 27, 3) := by decide +kernel
theorem dX5_init_35 : decode cX5_init 35 = .ok (.aload_n 0, 1) := by decide +kernel
theorem dX5_init_36 : decode cX5_init 36 = .ok (.iconst 3, 1) := by decide +kernel
theorem dX5_init_37 : decode cX5_init 37 = .ok (.newarray .int, 2) := by decide +kernel
theorem dX5_init_39 : decode cX5_init 39 = .ok (.putfield 31, 3) := by decide +kernel
theorem dX5_init_42 : decode cX5_init 42 = .ok (.aload_n 0, 1) := by decide +kernel
theorem dX5_init_43 : decode cX5_init 43 = .ok (.iconst 0, 1) := by decide +kernel
theorem dX5_init_44 : decode cX5_init 44 = .ok (.newarray .byte, 2) := by decide +kernel
theorem dX5_init_46 : decode cX5_init 46 = .ok (.putfield 34, 3) := by decide +kernel
theorem dX5_init_49 : decode cX5_init 49 = .ok (.aload_n 0, 1) := by decide +kernel
theorem dX5_init_50 : decode cX5_init 50 = .ok (.iconst 0, 1) := by decide +kernel
theorem dX5_init_51 : decode cX5_init 51 = .ok (.putfield 38, 3) := by decide +kernel
theorem dX5_init_54 : decode cX5_init 54 = .ok (.aload_n 0, 1) := by decide +kernel
theorem dX5_init_55 : decode cX5_init 55 = .ok (.iconst 0, 1) := by decide +kernel
theorem dX5_init_56 : decode cX5_init 56 = .ok (.putfield 41, 3) := by decide +kernel
theorem dX5_init_59 : decode cX5_init 59 = .ok (.aload_n 0, 1) := by decide +kernel
theorem dX5_init_60 : decode cX5_init 60 = .ok (.iconst 0, 1) := by decide +kernel
theorem dX5_init_61 : decode cX5_init 61 = .ok (.putfield 44, 3) := by decide +kernel
theorem dX5_init_64 : decode cX5_init 64 = .ok (.aload_n 0, 1) := by decide +kernel
theorem dX5_init_65 : decode cX5_init 65 = .ok (.iconst 0, 1) := by decide +kernel
theorem dX5_init_66 : decode cX5_init 66 = .ok (.putfield 47, 3) := by decide +kernel
theorem dX5_init_69 : decode cX5_init 69 = .ok (.aload_n 0, 1) := by decide +kernel
theorem dX5_init_70 : decode cX5_init 70 = .ok (.iconst 0, 1) := by decide +kernel
theorem dX5_init_71 : decode cX5_init 71 = .ok (.putfield 50, 3) := by decide +kernel
theorem dX5_init_74 : decode cX5_init 74 = .ok (.aload_n 0, 1) := by decide +kernel
theorem dX5_init_75 : decode cX5_init 75 = .ok (.iconst 0, 1) := by decide +kernel
theorem dX5_init_76 : decode cX5_init 76 = .ok (.putfield 53, 3) := by decide +kernel
theorem dX5_init_79 : decode cX5_init 79 = .ok (.return_, 1) := by decide +kernel
theorem dX5_read_0 : decode cX5_read 0 = .ok (.aload_n 0, 1) := by decide +kernel
theorem dX5_read_1 : decode cX5_read 1 = .ok (.aload_n 1, 1) := by decide +kernel
theorem dX5_read_2 : decode cX5_read 2 = .ok (.putfield 34, 3) := by decide +kernel
theorem dX5_read_5 : decode cX5_read 5 = .ok (.aload_n 0, 1) := by decide +kernel
theorem dX5_read_6 : decode cX5_read 6 = .ok (.iload_n 2, 1) := by decide +kernel
theorem dX5_read_7 : decode cX5_read 7 = .ok (.aload_n 1, 1) := by decide +kernel
theorem dX5_read_8 : decode cX5_read 8 = .ok (.arraylength, 1) := by decide +kernel
theorem dX5_read_9 : decode cX5_read 9 = .ok (.invokestatic 56, 3) := by decide +kernel
theorem dX5_read_12 : decode cX5_read 12 = .ok (.putfield 38, 3) := by decide +kernel
theorem dX5_read_15 : decode cX5_read 15 = .ok (.aload_n 0, 1) := by decide +kernel
theorem dX5_read_16 : decode cX5_read 16 = .ok (.iload_n 3, 1) := by decide +kernel
theorem dX5_read_17 : decode cX5_read 17 = .ok (.putfield 41, 3) := by decide +kernel
theorem dX5_read_20 : decode cX5_read 20 = .ok (.aload_n 0, 1) := by decide +kernel
theorem dX5_read_21 : decode cX5_read 21 = .ok (.iconst 0, 1) := by decide +kernel
theorem dX5_read_22 : decode cX5_read 22 = .ok (.putfield 20, 3) := by decide +kernel
theorem dX5_read_25 : decode cX5_read 25 = .ok (.aload_n 0, 1) := by decide +kernel
theorem dX5_read_26 : decode cX5_read 26 = .ok (.iconst (-1), 1) := by decide +kernel
theorem dX5_read_27 : decode cX5_read 27 = .ok (.putfield 24, 3) := by decide +kernel
theorem dX5_read_30 : decode cX5_read 30 = .ok (.aload_n 0, 1) := by decide +kernel
theorem dX5_read_31 : decode cX5_read 31 = .ok (.getfield 16, 3) := by decide +kernel
theorem dX5_read_34 : decode cX5_read 34 = .ok (.iconst 0, 1) := by decide +kernel
theorem dX5_read_35 : decode cX5_read 35 = .ok (.putfield 62, 3) := by decide +kernel
theorem dX5_read_38 : decode cX5_read 38 = .ok (.iconst 0, 1) := by decide +kernel
theorem dX5_read_39 : decode cX5_read 39 = .ok (.istore 4, 2) := by decide +kernel
theorem dX5_read_41 : decode cX5_read 41 = .ok (.iload 4, 2) := by decide +kernel
theorem dX5_read_43 : decode cX5_read 43 = .ok (.aload_n 0, 1) := by decide +kernel
theorem dX5_read_44 : decode cX5_read 44 = .ok (.getfield 27, 3) := by decide +kernel
theorem dX5_read_47 : decode cX5_read 47 = .ok (.arraylength, 1) := by decide +kernel
theorem dX5_read_48 : decode cX5_read 48 = .ok (.if_icmp .ge 17, 3) := by decide +kernel
theorem dX5_read_51 : decode cX5_read 51 = .ok (.aload_n 0, 1) := by decide +kernel
theorem dX5_read_52 : decode cX5_read 52 = .ok (.getfield 27, 3) := by decide +kernel
theorem dX5_read_55 : decode cX5_read 55 = .ok (.iload 4, 2) := by decide +kernel
theorem dX5_read_57 : decode cX5_read 57 = .ok (.iconst 0, 1) := by decide +kernel
theorem dX5_read_58 : decode cX5_read 58 = .ok (.iastore, 1) := by decide +kernel
theorem dX5_read_59 : decode cX5_read 59 = .ok (.iinc 4 1, 3) := by decide +kernel
theorem dX5_read_62 : decode cX5_read 62 = .ok (.goto (-21), 3) := by decide +kernel
theorem dX5_read_65 : decode cX5_read 65 = .ok (.aload_n 0, 1) := by decide +kernel
theorem dX5_read_66 : decode cX5_read 66 = .ok (.iconst 0, 1) := by decide +kernel
theorem dX5_read_67 : decode cX5_read 67 = .ok (.putfield 50, 3) := by decide +kernel
theorem dX5_read_70 : decode cX5_read 70 = .ok (.aload_n 0, 1) := by decide +kernel
theorem dX5_read_71 : decode cX5_read 71 = .ok (.invokevirtual 65, 3) := by decide +kernel
theorem dX5_read_74 : decode cX5_read 74 = .ok (.iconst 0, 1) := by decide +kernel
theorem dX5_read_75 : decode cX5_read 75 = .ok (.istore 4, 2) := by decide +kernel
theorem dX5_read_77 : decode cX5_read 77 = .ok (.iload 4, 2) := by decide +kernel
theorem dX5_read_79 : decode cX5_read 79 = .ok (.aload_n 0, 1) := by decide +kernel
theorem dX5_read_80 : decode cX5_read 80 = .ok (.getfield 38, 3) := by decide +kernel
theorem dX5_read_83 : decode cX5_read 83 = .ok (.if_icmp .ge 28, 3) := by decide +kernel
theorem dX5_read_86 : decode cX5_read 86 = .ok (.aload_n 0, 1) := by decide +kernel
theorem dX5_read_87 : decode cX5_read 87 = .ok (.getfield 44, 3) := by decide +kernel
theorem dX5_read_90 : decode cX5_read 90 = .ok (.ifCond .eq 21, 3) := by decide +kernel
theorem dX5_read_93 : decode cX5_read 93 = .ok (.aload_n 0, 1) := by decide +kernel
theorem dX5_read_94 : decode cX5_read 94 = .ok (.getfield 20, 3) := by decide +kernel
theorem dX5_read_97 : decode cX5_read 97 = .ok (.iconst 1, 1) := by decide +kernel
theorem dX5_read_98 : decode cX5_read 98 = .ok (.if_icmp .eq 13, 3) := by decide +kernel
theorem dX5_read_101 : decode cX5_read 101 = .ok (.aload_n 0, 1) := by decide +kernel
theorem dX5_read_102 : decode cX5_read 102 = .ok (.invokevirtual 68, 3) := by decide +kernel
theorem dX5_read_105 : decode cX5_read 105 = .ok (.iinc 4 1, 3) := by decide +kernel
theorem dX5_read_108 : decode cX5_read 108 = .ok (.goto (-31), 3) := by decide +kernel
theorem dX5_read_111 : decode cX5_read 111 = .ok (.aload_n 0, 1) := by decide +kernel
theorem dX5_read_112 : decode cX5_read 112 = .ok (.getfield 20, 3) := by decide +kernel
theorem dX5_read_115 : decode cX5_read 115 = .ok (.ifCond .ne 26, 3) := by decide +kernel
theorem dX5_read_118 : decode cX5_read 118 = .ok (.aload_n 0, 1) := by decide +kernel
theorem dX5_read_119 : decode cX5_read 119 = .ok (.getfield 41, 3) := by decide +kernel
theorem dX5_read_122 : decode cX5_read 122 = .ok (.ifCond .ne 19, 3) := by decide +kernel
theorem dX5_read_125 : decode cX5_read 125 = .ok (.aload_n 0, 1) := by decide +kernel
theorem dX5_read_126 : decode cX5_read 126 = .ok (.invokevirtual 71, 3) := by decide +kernel
theorem dX5_read_129 : decode cX5_read 129 = .ok (.ifCond .eq 12, 3) := by decide +kernel
theorem dX5_read_132 : decode cX5_read 132 = .ok (.aload_n 0, 1) := by decide +kernel
theorem dX5_read_133 : decode cX5_read 133 = .ok (.iconst 4, 1) := by decide +kernel
theorem dX5_read_134 : decode cX5_read 134 = .ok (.aload_n 0, 1) := by decide +kernel
theorem dX5_read_135 : decode cX5_read 135 = .ok (.getfield 38, 3) := by decide +kernel
theorem dX5_read_138 : decode cX5_read 138 = .ok (.invokevirtual 75, 3) := by decide +kernel
theorem dX5_read_141 : decode cX5_read 141 = .ok (.return_, 1) := by decide +kernel
theorem dX5_readLine_0 : decode cX5_readLine 0 = .ok (.aload_n 0, 1) := by decide +kernel
theorem dX5_readLine_1 : decode cX5_readLine 1 = .ok (.invokevirtual 79, 3) := by decide +kernel
theorem dX5_readLine_4 : decode cX5_readLine 4 = .ok (.istore_n 1, 1) := by decide +kernel
theorem dX5_readLine_5 : decode cX5_readLine 5 = .ok (.iload_n 1, 1) := by decide +kernel
theorem dX5_readLine_6 : decode cX5_readLine 6 = .ok (.iconst (-1), 1) := by decide +kernel
theorem dX5_readLine_7 : decode cX5_readLine 7 = .ok (.if_icmp .ne 8, 3) := by decide +kernel
theorem dX5_readLine_10 : decode cX5_readLine 10 = .ok (.aload_n 0, 1) := by decide +kernel
theorem dX5_readLine_11 : decode cX5_readLine 11 = .ok (.invokevirtual 83, 3) := by decide +kernel
theorem dX5_readLine_14 : decode cX5_readLine 14 = .ok (.return_, 1) := by decide +kernel
theorem dX5_readLine_15 : decode cX5_readLine 15 = .ok (.aload_n 0, 1) := by decide +kernel
theorem dX5_readLine_16 : decode cX5_readLine 16 = .ok (.iload_n 1, 1) := by decide +kernel
theorem dX5_readLine_17 : decode cX5_readLine 17 = .ok (.invokevirtual 86, 3) := by decide +kernel
theorem dX5_readLine_20 : decode cX5_readLine 20 = .ok (.ifCond .eq 12, 3) := by decide +kernel
theorem dX5_readLine_23 : decode cX5_readLine 23 = .ok (.aload_n 0, 1) := by decide +kernel
theorem dX5_readLine_24 : decode cX5_readLine 24 = .ok (.iconst 3, 1) := by decide +kernel
theorem dX5_readLine_25 : decode cX5_readLine 25 = .ok (.aload_n 0, 1) := by decide +kernel
theorem dX5_readLine_26 : decode cX5_readLine 26 = .ok (.getfield 47, 3) := by decide +kernel
theorem dX5_readLine_29 : decode cX5_readLine 29 = .ok (.invokevirtual 75, 3) := by decide +kernel
theorem dX5_readLine_32 : decode cX5_readLine 32 = .ok (.aload_n 0, 1) := by decide +kernel
theorem dX5_readLine_33 : decode cX5_readLine 33 = .ok (.invokevirtual 65, 3) := by decide +kernel
theorem dX5_readLine_36 : decode cX5_readLine 36 = .ok (.aload_n 0, 1) := by decide +kernel
theorem dX5_readLine_37 : decode cX5_readLine 37 = .ok (.getfield 41, 3) := by decide +kernel
theorem dX5_readLine_40 : decode cX5_readLine 40 = .ok (.iload_n 1, 1) := by decide +kernel
theorem dX5_readLine_41 : decode cX5_readLine 41 = .ok (.invokestatic 90, 3) := by decide +kernel
theorem dX5_readLine_44 : decode cX5_readLine 44 = .ok (.astore_n 2, 1) := by decide +kernel
theorem dX5_readLine_45 : decode cX5_readLine 45 = .ok (.iconst 0, 1) := by decide +kernel
theorem dX5_readLine_46 : decode cX5_readLine 46 = .ok (.istore_n 3, 1) := by decide +kernel
theorem dX5_readLine_47 : decode cX5_readLine 47 = .ok (.iload_n 3, 1) := by decide +kernel
theorem dX5_readLine_48 : decode cX5_readLine 48 = .ok (.aload_n 0, 1) := by decide +kernel
theorem dX5_readLine_49 : decode cX5_readLine 49 = .ok (.getfield 31, 3) := by decide +kernel
theorem dX5_readLine_52 : decode cX5_readLine 52 = .ok (.arraylength, 1) := by decide +kernel
theorem dX5_readLine_53 : decode cX5_readLine 53 = .ok (.if_icmp .ge 30, 3) := by decide +kernel
theorem dX5_readLine_56 : decode cX5_readLine 56 = .ok (.aload_n 0, 1) := by decide +kernel
theorem dX5_readLine_57 : decode cX5_readLine 57 = .ok (.getfield 31, 3) := by decide +kernel
theorem dX5_readLine_60 : decode cX5_readLine 60 = .ok (.iload_n 3, 1) := by decide +kernel
theorem dX5_readLine_61 : decode cX5_readLine 61 = .ok (.iconst (-1), 1) := by decide +kernel
theorem dX5_readLine_62 : decode cX5_readLine 62 = .ok (.iastore, 1) := by decide +kernel
theorem dX5_readLine_63 : decode cX5_readLine 63 = .ok (.iload_n 3, 1) := by decide +kernel
theorem dX5_readLine_64 : decode cX5_readLine 64 = .ok (.aload_n 2, 1) := by decide +kernel
theorem dX5_readLine_65 : decode cX5_readLine 65 = .ok (.invokevirtual 94, 3) := by decide +kernel
theorem dX5_readLine_68 : decode cX5_readLine 68 = .ok (.if_icmp .ge 9, 3) := by decide +kernel
theorem dX5_readLine_71 : decode cX5_readLine 71 = .ok (.aload_n 0, 1) := by decide +kernel
theorem dX5_readLine_72 : decode cX5_readLine 72 = .ok (.aload_n 2, 1) := by decide +kernel
theorem dX5_readLine_73 : decode cX5_readLine 73 = .ok (.iload_n 3, 1) := by decide +kernel
theorem dX5_readLine_74 : decode cX5_readLine 74 = .ok (.invokevirtual 98, 3) := by decide +kernel
theorem dX5_readLine_77 : decode cX5_readLine 77 = .ok (.iinc 3 1, 3) := by decide +kernel
theorem dX5_readLine_80 : decode cX5_readLine 80 = .ok (.goto (-33), 3) := by decide +kernel
theorem dX5_readLine_83 : decode cX5_readLine 83 = .ok (.aload_n 0, 1) := by decide +kernel
theorem dX5_readLine_84 : decode cX5_readLine 84 = .ok (.getfield 20, 3) := by decide +kernel
theorem dX5_readLine_87 : decode cX5_readLine 87 = .ok (.iconst 1, 1) := by decide +kernel
theorem dX5_readLine_88 : decode cX5_readLine 88 = .ok (.if_icmp .ne 4, 3) := by decide +kernel
theorem dX5_readLine_91 : decode cX5_readLine 91 = .ok (.return_, 1) := by decide +kernel
theorem dX5_readLine_92 : decode cX5_readLine 92 = .ok (.aload_n 0, 1) := by decide +kernel
theorem dX5_readLine_93 : decode cX5_readLine 93 = .ok (.getfield 44, 3) := by decide +kernel
theorem dX5_readLine_96 : decode cX5_readLine 96 = .ok (.iconst 3, 1) := by decide +kernel
theorem dX5_readLine_97 : decode cX5_readLine 97 = .ok (.if_icmp .eq 8, 3) := by decide +kernel
theorem dX5_readLine_100 : decode cX5_readLine 100 = .ok (.aload_n 0, 1) := by decide +kernel
theorem dX5_readLine_101 : decode cX5_readLine 101 = .ok (.invokevirtual 83, 3) := by decide +kernel
theorem dX5_readLine_104 : decode cX5_readLine 104 = .ok (.return_, 1) := by decide +kernel
theorem dX5_readLine_105 : decode cX5_readLine 105 = .ok (.aload_n 0, 1) := by decide +kernel
theorem dX5_readLine_106 : decode cX5_readLine 106 = .ok (.invokevirtual 65, 3) := by decide +kernel
theorem dX5_readLine_109 : decode cX5_readLine 109 = .ok (.aload_n 0, 1) := by decide +kernel
theorem dX5_readLine_110 : decode cX5_readLine 110 = .ok (.getfield 16, 3) := by decide +kernel
theorem dX5_readLine_113 : decode cX5_readLine 113 = .ok (.iload_n 1, 1) := by decide +kernel
theorem dX5_readLine_114 : decode cX5_readLine 114 = .ok (.aload_n 0, 1) := by decide +kernel
theorem dX5_readLine_115 : decode cX5_readLine 115 = .ok (.getfield 31, 3) := by decide +kernel
theorem dX5_readLine_118 : decode cX5_readLine 118 = .ok (.iconst 0, 1) := by decide +kernel
theorem dX5_readLine_119 : decode cX5_readLine 119 = .ok (.iaload, 1) := by decide +kernel
theorem dX5_readLine_120 : decode cX5_readLine 120 = .ok (.aload_n 0, 1) := by decide +kernel
theorem dX5_readLine_121 : decode cX5_readLine 121 = .ok (.getfield 31, 3) := by decide +kernel
theorem dX5_readLine_124 : decode cX5_readLine 124 = .ok (.iconst 1, 1) := by decide +kernel
theorem dX5_readLine_125 : decode cX5_readLine 125 = .ok (.iaload, 1) := by decide +kernel
theorem dX5_readLine_126 : decode cX5_readLine 126 = .ok (.aload_n 0, 1) := by decide +kernel
theorem dX5_readLine_127 : decode cX5_readLine 127 = .ok (.getfield 31, 3) := by decide +kernel
theorem dX5_readLine_130 : decode cX5_readLine 130 = .ok (.iconst 2, 1) := by decide +kernel
theorem dX5_readLine_131 : decode cX5_readLine 131 = .ok (.iaload, 1) := by decide +kernel
theorem dX5_readLine_132 : decode cX5_readLine 132 = .ok (.invokevirtual 102, 3) := by decide +kernel
theorem dX5_readLine_135 : decode cX5_readLine 135 = .ok (.aload_n 0, 1) := by decide +kernel
theorem dX5_readLine_136 : decode cX5_readLine 136 = .ok (.getfield 27, 3) := by decide +kernel
theorem dX5_readLine_139 : decode cX5_readLine 139 = .ok (.iload_n 1, 1) := by decide +kernel
theorem dX5_readLine_140 : decode cX5_readLine 140 = .ok (.dup2, 1) := by decide +kernel
theorem dX5_readLine_141 : decode cX5_readLine 141 = .ok (.iaload, 1) := by decide +kernel
theorem dX5_readLine_142 : decode cX5_readLine 142 = .ok (.iconst 1, 1) := by decide +kernel
theorem dX5_readLine_143 : decode cX5_readLine 143 = .ok (.iadd, 1) := by decide +kernel
theorem dX5_readLine_144 : decode cX5_readLine 144 = .ok (.iastore, 1) := by decide +kernel
theorem dX5_readLine_145 : decode cX5_readLine 145 = .ok (.return_, 1) := by decide +kernel
theorem dX5_readNumber_0 : decode cX5_readNumber 0 = .ok (.aload_n 0, 1) := by decide +kernel
theorem dX5_readNumber_1 : decode cX5_readNumber 1 = .ok (.getfield 20, 3) := by decide +kernel
theorem dX5_readNumber_4 : decode cX5_readNumber 4 = .ok (.iconst 1, 1) := by decide +kernel
theorem dX5_readNumber_5 : decode cX5_readNumber 5 = .ok (.if_icmp .ne 4, 3) := by decide +kernel
theorem dX5_readNumber_8 : decode cX5_readNumber 8 = .ok (.return_, 1) := by decide +kernel
theorem dX5_readNumber_9 : decode cX5_readNumber 9 = .ok (.aload_n 0, 1) := by decide +kernel
theorem dX5_readNumber_10 : decode cX5_readNumber 10 = .ok (.getfield 44, 3) := by decide +kernel
theorem dX5_readNumber_13 : decode cX5_readNumber 13 = .ok (.iconst 2, 1) := by decide +kernel
theorem dX5_readNumber_14 : decode cX5_readNumber 14 = .ok (.if_icmp .eq 8, 3) := by decide +kernel
theorem dX5_readNumber_17 : decode cX5_readNumber 17 = .ok (.aload_n 0, 1) := by decide +kernel
theorem dX5_readNumber_18 : decode cX5_readNumber 18 = .ok (.invokevirtual 83, 3) := by decide +kernel
theorem dX5_readNumber_21 : decode cX5_readNumber 21 = .ok (.return_, 1) := by decide +kernel
theorem dX5_readNumber_22 : decode cX5_readNumber 22 = .ok (.iload_n 2, 1) := by decide +kernel
theorem dX5_readNumber_23 : decode cX5_readNumber 23 = .ok (.iconst 1, 1) := by decide +kernel
theorem dX5_readNumber_24 : decode cX5_readNumber 24 = .ok (.if_icmp .ne 33, 3) := by decide +kernel
theorem dX5_readNumber_27 : decode cX5_readNumber 27 = .ok (.aload_n 1, 1) := by decide +kernel
theorem dX5_readNumber_28 : decode cX5_readNumber 28 = .ok (.iconst 0, 1) := by decide +kernel
theorem dX5_readNumber_29 : decode cX5_readNumber 29 = .ok (.invokevirtual 106, 3) := by decide +kernel
theorem dX5_readNumber_32 : decode cX5_readNumber 32 = .ok (.aload_n 1, 1) := by decide +kernel
theorem dX5_readNumber_33 : decode cX5_readNumber 33 = .ok (.iconst 1, 1) := by decide +kernel
theorem dX5_readNumber_34 : decode cX5_readNumber 34 = .ok (.invokevirtual 106, 3) := by decide +kernel
theorem dX5_readNumber_37 : decode cX5_readNumber 37 = .ok (.if_icmp .ne 20, 3) := by decide +kernel
theorem dX5_readNumber_40 : decode cX5_readNumber 40 = .ok (.aload_n 0, 1) := by decide +kernel
theorem dX5_readNumber_41 : decode cX5_readNumber 41 = .ok (.getfield 53, 3) := by decide +kernel
theorem dX5_readNumber_44 : decode cX5_readNumber 44 = .ok (.aload_n 0, 1) := by decide +kernel
theorem dX5_readNumber_45 : decode cX5_readNumber 45 = .ok (.getfield 31, 3) := by decide +kernel
theorem dX5_readNumber_48 : decode cX5_readNumber 48 = .ok (.iconst 0, 1) := by decide +kernel
theorem dX5_readNumber_49 : decode cX5_readNumber 49 = .ok (.iaload, 1) := by decide +kernel
theorem dX5_readNumber_50 : decode cX5_readNumber 50 = .ok (.if_icmp .ne 7, 3) := by decide +kernel
theorem dX5_readNumber_53 : decode cX5_readNumber 53 = .ok (.iconst 1, 1) := by decide +kernel
theorem dX5_readNumber_54 : decode cX5_readNumber 54 = .ok (.goto 4, 3) := by decide +kernel
theorem dX5_readNumber_57 : decode cX5_readNumber 57 = .ok (.iconst 0, 1) := by decide +kernel
theorem dX5_readNumber_58 : decode cX5_readNumber 58 = .ok (.istore_n 3, 1) := by decide +kernel
theorem dX5_readNumber_59 : decode cX5_readNumber 59 = .ok (.iload_n 3, 1) := by decide +kernel
theorem dX5_readNumber_60 : decode cX5_readNumber 60 = .ok (.ifCond .ne 18, 3) := by decide +kernel
theorem dX5_readNumber_63 : decode cX5_readNumber 63 = .ok (.aload_n 0, 1) := by decide +kernel
theorem dX5_readNumber_64 : decode cX5_readNumber 64 = .ok (.getfield 53, 3) := by decide +kernel
theorem dX5_readNumber_67 : decode cX5_readNumber 67 = .ok (.aload_n 1, 1) := by decide +kernel
theorem dX5_readNumber_68 : decode cX5_readNumber 68 = .ok (.iload_n 2, 1) := by decide +kernel
theorem dX5_readNumber_69 : decode cX5_readNumber 69 = .ok (.invokevirtual 106, 3) := by decide +kernel
theorem dX5_readNumber_72 : decode cX5_readNumber 72 = .ok (.invokestatic 110, 3) := by decide +kernel
theorem dX5_readNumber_75 : decode cX5_readNumber 75 = .ok (.if_icmp .le 12, 3) := by decide +kernel
theorem dX5_readNumber_78 : decode cX5_readNumber 78 = .ok (.aload_n 0, 1) := by decide +kernel
theorem dX5_readNumber_79 : decode cX5_readNumber 79 = .ok (.iconst 2, 1) := by decide +kernel
theorem dX5_readNumber_80 : decode cX5_readNumber 80 = .ok (.aload_n 0, 1) := by decide +kernel
theorem dX5_readNumber_81 : decode cX5_readNumber 81 = .ok (.getfield 47, 3) := by decide +kernel
theorem dX5_readNumber_84 : decode cX5_readNumber 84 = .ok (.invokevirtual 75, 3) := by decide +kernel
theorem dX5_readNumber_87 : decode cX5_readNumber 87 = .ok (.aload_n 0, 1) := by decide +kernel
theorem dX5_readNumber_88 : decode cX5_readNumber 88 = .ok (.getfield 31, 3) := by decide +kernel
theorem dX5_readNumber_91 : decode cX5_readNumber 91 = .ok (.iload_n 2, 1) := by decide +kernel
theorem dX5_readNumber_92 : decode cX5_readNumber 92 = .ok (.aload_n 0, 1) := by decide +kernel
theorem dX5_readNumber_93 : decode cX5_readNumber 93 = .ok (.getfield 53, 3) := by decide +kernel
theorem dX5_readNumber_96 : decode cX5_readNumber 96 = .ok (.iastore, 1) := by decide +kernel
theorem dX5_readNumber_97 : decode cX5_readNumber 97 = .ok (.aload_n 0, 1) := by decide +kernel
theorem dX5_readNumber_98 : decode cX5_readNumber 98 = .ok (.invokevirtual 65, 3) := by decide +kernel
theorem dX5_readNumber_101 : decode cX5_readNumber 101 = .ok (.return_, 1) := by decide +kernel
theorem dX5_note_0 : decode cX5_note 0 = .ok (.aload_n 0, 1) := by decide +kernel
theorem dX5_note_1 : decode cX5_note 1 = .ok (.getfield 20, 3) := by decide +kernel
theorem dX5_note_4 : decode cX5_note 4 = .ok (.ifCond .ne 13, 3) := by decide +kernel
theorem dX5_note_7 : decode cX5_note 7 = .ok (.aload_n 0, 1) := by decide +kernel
theorem dX5_note_8 : decode cX5_note 8 = .ok (.iload_n 1, 1) := by decide +kernel
theorem dX5_note_9 : decode cX5_note 9 = .ok (.putfield 20, 3) := by decide +kernel
theorem dX5_note_12 : decode cX5_note 12 = .ok (.aload_n 0, 1) := by decide +kernel
theorem dX5_note_13 : decode cX5_note 13 = .ok (.iload_n 2, 1) := by decide +kernel
theorem dX5_note_14 : decode cX5_note 14 = .ok (.putfield 24, 3) := by decide +kernel
theorem dX5_note_17 : decode cX5_note 17 = .ok (.return_, 1) := by decide +kernel
theorem dX5_giveUp_0 : decode cX5_giveUp 0 = .ok (.aload_n 0, 1) := by decide +kernel
theorem dX5_giveUp_1 : decode cX5_giveUp 1 = .ok (.iconst 1, 1) := by decide +kernel
theorem dX5_giveUp_2 : decode cX5_giveUp 2 = .ok (.putfield 20, 3) := by decide +kernel
theorem dX5_giveUp_5 : decode cX5_giveUp 5 = .ok (.aload_n 0, 1) := by decide +kernel
theorem dX5_giveUp_6 : decode cX5_giveUp 6 = .ok (.aload_n 0, 1) := by decide +kernel
theorem dX5_giveUp_7 : decode cX5_giveUp 7 = .ok (.getfield 47, 3) := by decide +kernel
theorem dX5_giveUp_10 : decode cX5_giveUp 10 = .ok (.putfield 24, 3) := by decide +kernel
theorem dX5_giveUp_13 : decode cX5_giveUp 13 = .ok (.return_, 1) := by decide +kernel
theorem dX5_isFull_0 : decode cX5_isFull 0 = .ok (.aload_n 0, 1) := by decide +kernel
theorem dX5_isFull_1 : decode cX5_isFull 1 = .ok (.getfield 41, 3) := by decide +kernel
theorem dX5_isFull_4 : decode cX5_isFull 4 = .ok (.tableswitch 101 0 2 #[28, 65, 83], 28) := by decide +kernel
theorem dX5_isFull_32 : decode cX5_isFull 32 = .ok (.iload_n 1, 1) := by decide +kernel
theorem dX5_isFull_33 : decode cX5_isFull 33 = .ok (.ifCond .ne 14, 3) := by decide +kernel
theorem dX5_isFull_36 : decode cX5_isFull 36 = .ok (.aload_n 0, 1) := by decide +kernel
theorem dX5_isFull_37 : decode cX5_isFull 37 = .ok (.getfield 27, 3) := by decide +kernel
theorem dX5_isFull_40 : decode cX5_isFull 40 = .ok (.iload_n 1, 1) := by decide +kernel
theorem dX5_isFull_41 : decode cX5_isFull 41 = .ok (.iaload, 1) := by decide +kernel
theorem dX5_isFull_42 : decode cX5_isFull 42 = .ok (.bipush 6, 2) := by decide +kernel
theorem dX5_isFull_44 : decode cX5_isFull 44 = .ok (.if_icmp .ge 19, 3) := by decide +kernel
theorem dX5_isFull_47 : decode cX5_isFull 47 = .ok (.iload_n 1, 1) := by decide +kernel
theorem dX5_isFull_48 : decode cX5_isFull 48 = .ok (.iconst 4, 1) := by decide +kernel
theorem dX5_isFull_49 : decode cX5_isFull 49 = .ok (.if_icmp .ne 18, 3) := by decide +kernel
theorem dX5_isFull_52 : decode cX5_isFull 52 = .ok (.aload_n 0, 1) := by decide +kernel
theorem dX5_isFull_53 : decode cX5_isFull 53 = .ok (.getfield 27, 3) := by decide +kernel
theorem dX5_isFull_56 : decode cX5_isFull 56 = .ok (.iload_n 1, 1) := by decide +kernel
theorem dX5_isFull_57 : decode cX5_isFull 57 = .ok (.iaload, 1) := by decide +kernel
theorem dX5_isFull_58 : decode cX5_isFull 58 = .ok (.bipush 12, 2) := by decide +kernel
theorem dX5_isFull_60 : decode cX5_isFull 60 = .ok (.if_icmp .lt 7, 3) := by decide +kernel
theorem dX5_isFull_63 : decode cX5_isFull 63 = .ok (.iconst 1, 1) := by decide +kernel
theorem dX5_isFull_64 : decode cX5_isFull 64 = .ok (.goto 4, 3) := by decide +kernel
theorem dX5_isFull_67 : decode cX5_isFull 67 = .ok (.iconst 0, 1) := by decide +kernel
theorem dX5_isFull_68 : decode cX5_isFull 68 = .ok (.ireturn, 1) := by decide +kernel
theorem dX5_isFull_69 : decode cX5_isFull 69 = .ok (.aload_n 0, 1) := by decide +kernel
theorem dX5_isFull_70 : decode cX5_isFull 70 = .ok (.getfield 16, 3) := by decide +kernel
theorem dX5_isFull_73 : decode cX5_isFull 73 = .ok (.getfield 62, 3) := by decide +kernel
theorem dX5_isFull_76 : decode cX5_isFull 76 = .ok (.bipush 40, 2) := by decide +kernel
theorem dX5_isFull_78 : decode cX5_isFull 78 = .ok (.if_icmp .lt 7, 3) := by decide +kernel
theorem dX5_isFull_81 : decode cX5_isFull 81 = .ok (.iconst 1, 1) := by decide +kernel
theorem dX5_isFull_82 : decode cX5_isFull 82 = .ok (.goto 4, 3) := by decide +kernel
theorem dX5_isFull_85 : decode cX5_isFull 85 = .ok (.iconst 0, 1) := by decide +kernel
theorem dX5_isFull_86 : decode cX5_isFull 86 = .ok (.ireturn, 1) := by decide +kernel
theorem dX5_isFull_87 : decode cX5_isFull 87 = .ok (.aload_n 0, 1) := by decide +kernel
theorem dX5_isFull_88 : decode cX5_isFull 88 = .ok (.getfield 16, 3) := by decide +kernel
theorem dX5_isFull_91 : decode cX5_isFull 91 = .ok (.getfield 62, 3) := by decide +kernel
theorem dX5_isFull_94 : decode cX5_isFull 94 = .ok (.bipush 6, 2) := by decide +kernel
theorem dX5_isFull_96 : decode cX5_isFull 96 = .ok (.if_icmp .lt 7, 3) := by decide +kernel
theorem dX5_isFull_99 : decode cX5_isFull 99 = .ok (.iconst 1, 1) := by decide +kernel
theorem dX5_isFull_100 : decode cX5_isFull 100 = .ok (.goto 4, 3) := by decide +kernel
theorem dX5_isFull_103 : decode cX5_isFull 103 = .ok (.iconst 0, 1) := by decide +kernel
theorem dX5_isFull_104 : decode cX5_isFull 104 = .ok (.ireturn, 1) := by decide +kernel
theorem dX5_isFull_105 : decode cX5_isFull 105 = .ok (.aload_n 0, 1) := by decide +kernel
theorem dX5_isFull_106 : decode cX5_isFull 106 = .ok (.getfield 16, 3) := by decide +kernel
theorem dX5_isFull_109 : decode cX5_isFull 109 = .ok (.getfield 62, 3) := by decide +kernel
theorem dX5_isFull_112 : decode cX5_isFull 112 = .ok (.bipush 8, 2) := by decide +kernel
theorem dX5_isFull_114 : decode cX5_isFull 114 = .ok (.if_icmp .lt 7, 3) := by decide +kernel
theorem dX5_isFull_117 : decode cX5_isFull 117 = .ok (.iconst 1, 1) := by decide +kernel
theorem dX5_isFull_118 : decode cX5_isFull 118 = .ok (.goto 4, 3) := by decide +kernel
theorem dX5_isFull_121 : decode cX5_isFull 121 = .ok (.iconst 0, 1) := by decide +kernel
theorem dX5_isFull_122 : decode cX5_isFull 122 = .ok (.ireturn, 1) := by decide +kernel
theorem dX5_someoneIsMissing_0 : decode cX5_someoneIsMissing 0 = .ok (.aload_n 0, 1) := by decide +kernel
theorem dX5_someoneIsMissing_1 : decode cX5_someoneIsMissing 1 = .ok (.getfield 27, 3) := by decide +kernel
theorem dX5_someoneIsMissing_4 : decode cX5_someoneIsMissing 4 = .ok (.iconst 0, 1) := by decide +kernel
theorem dX5_someoneIsMissing_5 : decode cX5_someoneIsMissing 5 = .ok (.iaload, 1) := by decide +kernel
theorem dX5_someoneIsMissing_6 : decode cX5_someoneIsMissing 6 = .ok (.istore_n 1, 1) := by decide +kernel
theorem dX5_someoneIsMissing_7 : decode cX5_someoneIsMissing 7 = .ok (.iconst 0, 1) := by decide +kernel
theorem dX5_someoneIsMissing_8 : decode cX5_someoneIsMissing 8 = .ok (.istore_n 2, 1) := by decide +kernel
theorem dX5_someoneIsMissing_9 : decode cX5_someoneIsMissing 9 = .ok (.iload_n 2, 1) := by decide +kernel
theorem dX5_someoneIsMissing_10 : decode cX5_someoneIsMissing 10 = .ok (.aload_n 0, 1) := by decide +kernel
theorem dX5_someoneIsMissing_11 : decode cX5_someoneIsMissing 11 = .ok (.getfield 16, 3) := by decide +kernel
theorem dX5_someoneIsMissing_14 : decode cX5_someoneIsMissing 14 = .ok (.getfield 62, 3) := by decide +kernel
theorem dX5_someoneIsMissing_17 : decode cX5_someoneIsMissing 17 = .ok (.if_icmp .ge 69, 3) := by decide +kernel
theorem dX5_someoneIsMissing_20 : decode cX5_someoneIsMissing 20 = .ok (.aload_n 0, 1) := by decide +kernel
theorem dX5_someoneIsMissing_21 : decode cX5_someoneIsMissing 21 = .ok (.getfield 16, 3) := by decide +kernel
theorem dX5_someoneIsMissing_24 : decode cX5_someoneIsMissing 24 = .ok (.iload_n 2, 1) := by decide +kernel
theorem dX5_someoneIsMissing_25 : decode cX5_someoneIsMissing 25 = .ok (.iconst 0, 1) := by decide +kernel
theorem dX5_someoneIsMissing_26 : decode cX5_someoneIsMissing 26 = .ok (.invokevirtual 114, 3) := by decide +kernel
theorem dX5_someoneIsMissing_29 : decode cX5_someoneIsMissing 29 = .ok (.istore_n 3, 1) := by decide +kernel
theorem dX5_someoneIsMissing_30 : decode cX5_someoneIsMissing 30 = .ok (.iload_n 3, 1) := by decide +kernel
theorem dX5_someoneIsMissing_31 : decode cX5_someoneIsMissing 31 = .ok (.iconst 3, 1) := by decide +kernel
theorem dX5_someoneIsMissing_32 : decode cX5_someoneIsMissing 32 = .ok (.if_icmp .eq 8, 3) := by decide +kernel
theorem dX5_someoneIsMissing_35 : decode cX5_someoneIsMissing 35 = .ok (.iload_n 3, 1) := by decide +kernel
theorem dX5_someoneIsMissing_36 : decode cX5_someoneIsMissing 36 = .ok (.iconst 4, 1) := by decide +kernel
theorem dX5_someoneIsMissing_37 : decode cX5_someoneIsMissing 37 = .ok (.if_icmp .ne 7, 3) := by decide +kernel
theorem dX5_someoneIsMissing_40 : decode cX5_someoneIsMissing 40 = .ok (.iconst 1, 1) := by decide +kernel
theorem dX5_someoneIsMissing_41 : decode cX5_someoneIsMissing 41 = .ok (.goto 4, 3) := by decide +kernel
theorem dX5_someoneIsMissing_44 : decode cX5_someoneIsMissing 44 = .ok (.iconst 0, 1) := by decide +kernel
theorem dX5_someoneIsMissing_45 : decode cX5_someoneIsMissing 45 = .ok (.istore 4, 2) := by decide +kernel
theorem dX5_someoneIsMissing_47 : decode cX5_someoneIsMissing 47 = .ok (.iload 4, 2) := by decide +kernel
theorem dX5_someoneIsMissing_49 : decode cX5_someoneIsMissing 49 = .ok (.ifCond .eq 31, 3) := by decide +kernel
theorem dX5_someoneIsMissing_52 : decode cX5_someoneIsMissing 52 = .ok (.aload_n 0, 1) := by decide +kernel
theorem dX5_someoneIsMissing_53 : decode cX5_someoneIsMissing 53 = .ok (.getfield 16, 3) := by decide +kernel
theorem dX5_someoneIsMissing_56 : decode cX5_someoneIsMissing 56 = .ok (.iload_n 2, 1) := by decide +kernel
theorem dX5_someoneIsMissing_57 : decode cX5_someoneIsMissing 57 = .ok (.iconst 1, 1) := by decide +kernel
theorem dX5_someoneIsMissing_58 : decode cX5_someoneIsMissing 58 = .ok (.invokevirtual 114, 3) := by decide +kernel
theorem dX5_someoneIsMissing_61 : decode cX5_someoneIsMissing 61 = .ok (.iload_n 1, 1) := by decide +kernel
theorem dX5_someoneIsMissing_62 : decode cX5_someoneIsMissing 62 = .ok (.if_icmp .ge 16, 3) := by decide +kernel
theorem dX5_someoneIsMissing_65 : decode cX5_someoneIsMissing 65 = .ok (.aload_n 0, 1) := by decide +kernel
theorem dX5_someoneIsMissing_66 : decode cX5_someoneIsMissing 66 = .ok (.getfield 16, 3) := by decide +kernel
theorem dX5_someoneIsMissing_69 : decode cX5_someoneIsMissing 69 = .ok (.iload_n 2, 1) := by decide +kernel
theorem dX5_someoneIsMissing_70 : decode cX5_someoneIsMissing 70 = .ok (.iconst 2, 1) := by decide +kernel
theorem dX5_someoneIsMissing_71 : decode cX5_someoneIsMissing 71 = .ok (.invokevirtual 114, 3) := by decide +kernel
theorem dX5_someoneIsMissing_74 : decode cX5_someoneIsMissing 74 = .ok (.iload_n 1, 1) := by decide +kernel
theorem dX5_someoneIsMissing_75 : decode cX5_someoneIsMissing 75 = .ok (.if_icmp .lt 5, 3) := by decide +kernel
theorem dX5_someoneIsMissing_78 : decode cX5_someoneIsMissing 78 = .ok (.iconst 1, 1) := by decide +kernel
theorem dX5_someoneIsMissing_79 : decode cX5_someoneIsMissing 79 = .ok (.ireturn, 1) := by decide +kernel
theorem dX5_someoneIsMissing_80 : decode cX5_someoneIsMissing 80 = .ok (.iinc 2 1, 3) := by decide +kernel
theorem dX5_someoneIsMissing_83 : decode cX5_someoneIsMissing 83 = .ok (.goto (-74), 3) := by decide +kernel
theorem dX5_someoneIsMissing_86 : decode cX5_someoneIsMissing 86 = .ok (.iconst 0, 1) := by decide +kernel
theorem dX5_someoneIsMissing_87 : decode cX5_someoneIsMissing 87 = .ok (.ireturn, 1) := by decide +kernel
theorem dX5_kindOfWord_0 : decode cX5_kindOfWord 0 = .ok (.aload_n 0, 1) := by decide +kernel
theorem dX5_kindOfWord_1 : decode cX5_kindOfWord 1 = .ok (.getfield 44, 3) := by decide +kernel
theorem dX5_kindOfWord_4 : decode cX5_kindOfWord 4 = .ok (.iconst 1, 1) := by decide +kernel
theorem dX5_kindOfWord_5 : decode cX5_kindOfWord 5 = .ok (.if_icmp .eq 5, 3) := by decide +kernel
theorem dX5_kindOfWord_8 : decode cX5_kindOfWord 8 = .ok (.iconst (-1), 1) := by decide +kernel
theorem dX5_kindOfWord_9 : decode cX5_kindOfWord 9 = .ok (.ireturn, 1) := by decide +kernel
theorem dX5_kindOfWord_10 : decode cX5_kindOfWord 10 = .ok (.iconst 0, 1) := by decide +kernel
theorem dX5_kindOfWord_11 : decode cX5_kindOfWord 11 = .ok (.istore_n 1, 1) := by decide +kernel
theorem dX5_kindOfWord_12 : decode cX5_kindOfWord 12 = .ok (.iload_n 1, 1) := by decide +kernel
theorem dX5_kindOfWord_13 : decode cX5_kindOfWord 13 = .ok (.bipush 7, 2) := by decide +kernel
theorem dX5_kindOfWord_15 : decode cX5_kindOfWord 15 = .ok (.if_icmp .ge 26, 3) := by decide +kernel
theorem dX5_kindOfWord_18 : decode cX5_kindOfWord 18 = .ok (.aload_n 0, 1) := by decide +kernel
theorem dX5_kindOfWord_19 : decode cX5_kindOfWord 19 = .ok (.aload_n 0, 1) := by decide +kernel
theorem dX5_kindOfWord_20 : decode cX5_kindOfWord 20 = .ok (.getfield 41, 3) := by decide +kernel
theorem dX5_kindOfWord_23 : decode cX5_kindOfWord 23 = .ok (.iload_n 1, 1) := by decide +kernel
theorem dX5_kindOfWord_24 : decode cX5_kindOfWord 24 = .ok (.invokestatic 117, 3) := by decide +kernel
theorem dX5_kindOfWord_27 : decode cX5_kindOfWord 27 = .ok (.invokevirtual 120, 3) := by decide +kernel
theorem dX5_kindOfWord_30 : decode cX5_kindOfWord 30 = .ok (.ifCond .eq 5, 3) := by decide +kernel
theorem dX5_kindOfWord_33 : decode cX5_kindOfWord 33 = .ok (.iload_n 1, 1) := by decide +kernel
theorem dX5_kindOfWord_34 : decode cX5_kindOfWord 34 = .ok (.ireturn, 1) := by decide +kernel
theorem dX5_kindOfWord_35 : decode cX5_kindOfWord 35 = .ok (.iinc 1 1, 3) := by decide +kernel
theorem dX5_kindOfWord_38 : decode cX5_kindOfWord 38 = .ok (.goto (-26), 3) := by decide +kernel
theorem dX5_kindOfWord_41 : decode cX5_kindOfWord 41 = .ok (.iconst (-1), 1) := by decide +kernel
theorem dX5_kindOfWord_42 : decode cX5_kindOfWord 42 = .ok (.ireturn, 1) := by decide +kernel
theorem dX5_isWord_0 : decode cX5_isWord 0 = .ok (.aload_n 1, 1) := by decide +kernel
theorem dX5_isWord_1 : decode cX5_isWord 1 = .ok (.invokevirtual 94, 3) := by decide +kernel
theorem dX5_isWord_4 : decode cX5_isWord 4 = .ok (.aload_n 0, 1) := by decide +kernel
theorem dX5_isWord_5 : decode cX5_isWord 5 = .ok (.getfield 50, 3) := by decide +kernel
theorem dX5_isWord_8 : decode cX5_isWord 8 = .ok (.aload_n 0, 1) := by decide +kernel
theorem dX5_isWord_9 : decode cX5_isWord 9 = .ok (.getfield 47, 3) := by decide +kernel
theorem dX5_isWord_12 : decode cX5_isWord 12 = .ok (.isub, 1) := by decide +kernel
theorem dX5_isWord_13 : decode cX5_isWord 13 = .ok (.if_icmp .eq 5, 3) := by decide +kernel
theorem dX5_isWord_16 : decode cX5_isWord 16 = .ok (.iconst 0, 1) := by decide +kernel
theorem dX5_isWord_17 : decode cX5_isWord 17 = .ok (.ireturn, 1) := by decide +kernel
theorem dX5_isWord_18 : decode cX5_isWord 18 = .ok (.iconst 0, 1) := by decide +kernel
theorem dX5_isWord_19 : decode cX5_isWord 19 = .ok (.istore_n 2, 1) := by decide +kernel
theorem dX5_isWord_20 : decode cX5_isWord 20 = .ok (.iload_n 2, 1) := by decide +kernel
theorem dX5_isWord_21 : decode cX5_isWord 21 = .ok (.aload_n 1, 1) := by decide +kernel
theorem dX5_isWord_22 : decode cX5_isWord 22 = .ok (.invokevirtual 94, 3) := by decide +kernel
theorem dX5_isWord_25 : decode cX5_isWord 25 = .ok (.if_icmp .ge 30, 3) := by decide +kernel
theorem dX5_isWord_28 : decode cX5_isWord 28 = .ok (.aload_n 0, 1) := by decide +kernel
theorem dX5_isWord_29 : decode cX5_isWord 29 = .ok (.getfield 34, 3) := by decide +kernel
theorem dX5_isWord_32 : decode cX5_isWord 32 = .ok (.aload_n 0, 1) := by decide +kernel
theorem dX5_isWord_33 : decode cX5_isWord 33 = .ok (.getfield 47, 3) := by decide +kernel
theorem dX5_isWord_36 : decode cX5_isWord 36 = .ok (.iload_n 2, 1) := by decide +kernel
theorem dX5_isWord_37 : decode cX5_isWord 37 = .ok (.iadd, 1) := by decide +kernel
theorem dX5_isWord_38 : decode cX5_isWord 38 = .ok (.baload, 1) := by decide +kernel
theorem dX5_isWord_39 : decode cX5_isWord 39 = .ok (.aload_n 1, 1) := by decide +kernel
theorem dX5_isWord_40 : decode cX5_isWord 40 = .ok (.iload_n 2, 1) := by decide +kernel
theorem dX5_isWord_41 : decode cX5_isWord 41 = .ok (.invokevirtual 106, 3) := by decide +kernel
theorem dX5_isWord_44 : decode cX5_isWord 44 = .ok (.if_icmp .eq 5, 3) := by decide +kernel
theorem dX5_isWord_47 : decode cX5_isWord 47 = .ok (.iconst 0, 1) := by decide +kernel
theorem dX5_isWord_48 : decode cX5_isWord 48 = .ok (.ireturn, 1) := by decide +kernel
theorem dX5_isWord_49 : decode cX5_isWord 49 = .ok (.iinc 2 1, 3) := by decide +kernel
theorem dX5_isWord_52 : decode cX5_isWord 52 = .ok (.goto (-32), 3) := by decide +kernel
theorem dX5_isWord_55 : decode cX5_isWord 55 = .ok (.iconst 1, 1) := by decide +kernel
theorem dX5_isWord_56 : decode cX5_isWord 56 = .ok (.ireturn, 1) := by decide +kernel
theorem dX5_nextToken_0 : decode cX5_nextToken 0 = .ok (.aload_n 0, 1) := by decide +kernel
theorem dX5_nextToken_1 : decode cX5_nextToken 1 = .ok (.aload_n 0, 1) := by decide +kernel
theorem dX5_nextToken_2 : decode cX5_nextToken 2 = .ok (.getfield 50, 3) := by decide +kernel
theorem dX5_nextToken_5 : decode cX5_nextToken 5 = .ok (.putfield 47, 3) := by decide +kernel
theorem dX5_nextToken_8 : decode cX5_nextToken 8 = .ok (.aload_n 0, 1) := by decide +kernel
theorem dX5_nextToken_9 : decode cX5_nextToken 9 = .ok (.getfield 47, 3) := by decide +kernel
theorem dX5_nextToken_12 : decode cX5_nextToken 12 = .ok (.aload_n 0, 1) := by decide +kernel
theorem dX5_nextToken_13 : decode cX5_nextToken 13 = .ok (.getfield 38, 3) := by decide +kernel
theorem dX5_nextToken_16 : decode cX5_nextToken 16 = .ok (.if_icmp .ge 44, 3) := by decide +kernel
theorem dX5_nextToken_19 : decode cX5_nextToken 19 = .ok (.aload_n 0, 1) := by decide +kernel
theorem dX5_nextToken_20 : decode cX5_nextToken 20 = .ok (.getfield 34, 3) := by decide +kernel
theorem dX5_nextToken_23 : decode cX5_nextToken 23 = .ok (.aload_n 0, 1) := by decide +kernel
theorem dX5_nextToken_24 : decode cX5_nextToken 24 = .ok (.getfield 47, 3) := by decide +kernel
theorem dX5_nextToken_27 : decode cX5_nextToken 27 = .ok (.baload, 1) := by decide +kernel
theorem dX5_nextToken_28 : decode cX5_nextToken 28 = .ok (.bipush 32, 2) := by decide +kernel
theorem dX5_nextToken_30 : decode cX5_nextToken 30 = .ok (.if_icmp .eq 17, 3) := by decide +kernel
theorem dX5_nextToken_33 : decode cX5_nextToken 33 = .ok (.aload_n 0, 1) := by decide +kernel
theorem dX5_nextToken_34 : decode cX5_nextToken 34 = .ok (.getfield 34, 3) := by decide +kernel
theorem dX5_nextToken_37 : decode cX5_nextToken 37 = .ok (.aload_n 0, 1) := by decide +kernel
theorem dX5_nextToken_38 : decode cX5_nextToken 38 = .ok (.getfield 47, 3) := by decide +kernel
theorem dX5_nextToken_41 : decode cX5_nextToken 41 = .ok (.baload, 1) := by decide +kernel
theorem dX5_nextToken_42 : decode cX5_nextToken 42 = .ok (.bipush 10, 2) := by decide +kernel
theorem dX5_nextToken_44 : decode cX5_nextToken 44 = .ok (.if_icmp .ne 16, 3) := by decide +kernel
theorem dX5_nextToken_47 : decode cX5_nextToken 47 = .ok (.aload_n 0, 1) := by decide +kernel
theorem dX5_nextToken_48 : decode cX5_nextToken 48 = .ok (.dup, 1) := by decide +kernel
theorem dX5_nextToken_49 : decode cX5_nextToken 49 = .ok (.getfield 47, 3) := by decide +kernel
theorem dX5_nextToken_52 : decode cX5_nextToken 52 = .ok (.iconst 1, 1) := by decide +kernel
theorem dX5_nextToken_53 : decode cX5_nextToken 53 = .ok (.iadd, 1) := by decide +kernel
theorem dX5_nextToken_54 : decode cX5_nextToken 54 = .ok (.putfield 47, 3) := by decide +kernel
theorem dX5_nextToken_57 : decode cX5_nextToken 57 = .ok (.goto (-49), 3) := by decide +kernel
theorem dX5_nextToken_60 : decode cX5_nextToken 60 = .ok (.aload_n 0, 1) := by decide +kernel
theorem dX5_nextToken_61 : decode cX5_nextToken 61 = .ok (.aload_n 0, 1) := by decide +kernel
theorem dX5_nextToken_62 : decode cX5_nextToken 62 = .ok (.getfield 47, 3) := by decide +kernel
theorem dX5_nextToken_65 : decode cX5_nextToken 65 = .ok (.putfield 50, 3) := by decide +kernel
theorem dX5_nextToken_68 : decode cX5_nextToken 68 = .ok (.aload_n 0, 1) := by decide +kernel
theorem dX5_nextToken_69 : decode cX5_nextToken 69 = .ok (.getfield 47, 3) := by decide +kernel
theorem dX5_nextToken_72 : decode cX5_nextToken 72 = .ok (.aload_n 0, 1) := by decide +kernel
theorem dX5_nextToken_73 : decode cX5_nextToken 73 = .ok (.getfield 38, 3) := by decide +kernel
theorem dX5_nextToken_76 : decode cX5_nextToken 76 = .ok (.if_icmp .lt 11, 3) := by decide +kernel
theorem dX5_nextToken_79 : decode cX5_nextToken 79 = .ok (.aload_n 0, 1) := by decide +kernel
theorem dX5_nextToken_80 : decode cX5_nextToken 80 = .ok (.iconst 0, 1) := by decide +kernel
theorem dX5_nextToken_81 : decode cX5_nextToken 81 = .ok (.putfield 44, 3) := by decide +kernel
theorem dX5_nextToken_84 : decode cX5_nextToken 84 = .ok (.goto 105, 3) := by decide +kernel
theorem dX5_nextToken_87 : decode cX5_nextToken 87 = .ok (.aload_n 0, 1) := by decide +kernel
theorem dX5_nextToken_88 : decode cX5_nextToken 88 = .ok (.aload_n 0, 1) := by decide +kernel
theorem dX5_nextToken_89 : decode cX5_nextToken 89 = .ok (.getfield 47, 3) := by decide +kernel
theorem dX5_nextToken_92 : decode cX5_nextToken 92 = .ok (.invokevirtual 124, 3) := by decide +kernel
theorem dX5_nextToken_95 : decode cX5_nextToken 95 = .ok (.ifCond .eq 43, 3) := by decide +kernel
theorem dX5_nextToken_98 : decode cX5_nextToken 98 = .ok (.aload_n 0, 1) := by decide +kernel
theorem dX5_nextToken_99 : decode cX5_nextToken 99 = .ok (.iconst 1, 1) := by decide +kernel
theorem dX5_nextToken_100 : decode cX5_nextToken 100 = .ok (.putfield 44, 3) := by decide +kernel
theorem dX5_nextToken_103 : decode cX5_nextToken 103 = .ok (.aload_n 0, 1) := by decide +kernel
theorem dX5_nextToken_104 : decode cX5_nextToken 104 = .ok (.getfield 50, 3) := by decide +kernel
theorem dX5_nextToken_107 : decode cX5_nextToken 107 = .ok (.aload_n 0, 1) := by decide +kernel
theorem dX5_nextToken_108 : decode cX5_nextToken 108 = .ok (.getfield 38, 3) := by decide +kernel
theorem dX5_nextToken_111 : decode cX5_nextToken 111 = .ok (.if_icmp .ge 78, 3) := by decide +kernel
theorem dX5_nextToken_114 : decode cX5_nextToken 114 = .ok (.aload_n 0, 1) := by decide +kernel
theorem dX5_nextToken_115 : decode cX5_nextToken 115 = .ok (.aload_n 0, 1) := by decide +kernel
theorem dX5_nextToken_116 : decode cX5_nextToken 116 = .ok (.getfield 50, 3) := by decide +kernel
theorem dX5_nextToken_119 : decode cX5_nextToken 119 = .ok (.invokevirtual 124, 3) := by decide +kernel
theorem dX5_nextToken_122 : decode cX5_nextToken 122 = .ok (.ifCond .eq 67, 3) := by decide +kernel
theorem dX5_nextToken_125 : decode cX5_nextToken 125 = .ok (.aload_n 0, 1) := by decide +kernel
theorem dX5_nextToken_126 : decode cX5_nextToken 126 = .ok (.dup, 1) := by decide +kernel
theorem dX5_nextToken_127 : decode cX5_nextToken 127 = .ok (.getfield 50, 3) := by decide +kernel
theorem dX5_nextToken_130 : decode cX5_nextToken 130 = .ok (.iconst 1, 1) := by decide +kernel
theorem dX5_nextToken_131 : decode cX5_nextToken 131 = .ok (.iadd, 1) := by decide +kernel
theorem dX5_nextToken_132 : decode cX5_nextToken 132 = .ok (.putfield 50, 3) := by decide +kernel
theorem dX5_nextToken_135 : decode cX5_nextToken 135 = .ok (.goto (-32), 3) := by decide +kernel
theorem dX5_nextToken_138 : decode cX5_nextToken 138 = .ok (.aload_n 0, 1) := by decide +kernel
theorem dX5_nextToken_139 : decode cX5_nextToken 139 = .ok (.aload_n 0, 1) := by decide +kernel
theorem dX5_nextToken_140 : decode cX5_nextToken 140 = .ok (.getfield 47, 3) := by decide +kernel
theorem dX5_nextToken_143 : decode cX5_nextToken 143 = .ok (.invokevirtual 127, 3) := by decide +kernel
theorem dX5_nextToken_146 : decode cX5_nextToken 146 = .ok (.ifCond .eq 10, 3) := by decide +kernel
theorem dX5_nextToken_149 : decode cX5_nextToken 149 = .ok (.aload_n 0, 1) := by decide +kernel
theorem dX5_nextToken_150 : decode cX5_nextToken 150 = .ok (.invokevirtual 130, 3) := by decide +kernel
theorem dX5_nextToken_153 : decode cX5_nextToken 153 = .ok (.goto 36, 3) := by decide +kernel
theorem dX5_nextToken_156 : decode cX5_nextToken 156 = .ok (.aload_n 0, 1) := by decide +kernel
theorem dX5_nextToken_157 : decode cX5_nextToken 157 = .ok (.aload_n 0, 1) := by decide +kernel
theorem dX5_nextToken_158 : decode cX5_nextToken 158 = .ok (.getfield 34, 3) := by decide +kernel
theorem dX5_nextToken_161 : decode cX5_nextToken 161 = .ok (.aload_n 0, 1) := by decide +kernel
theorem dX5_nextToken_162 : decode cX5_nextToken 162 = .ok (.getfield 47, 3) := by decide +kernel
theorem dX5_nextToken_165 : decode cX5_nextToken 165 = .ok (.baload, 1) := by decide +kernel
theorem dX5_nextToken_166 : decode cX5_nextToken 166 = .ok (.bipush 59, 2) := by decide +kernel
theorem dX5_nextToken_168 : decode cX5_nextToken 168 = .ok (.if_icmp .ne 7, 3) := by decide +kernel
theorem dX5_nextToken_171 : decode cX5_nextToken 171 = .ok (.iconst 3, 1) := by decide +kernel
theorem dX5_nextToken_172 : decode cX5_nextToken 172 = .ok (.goto 4, 3) := by decide +kernel
theorem dX5_nextToken_175 : decode cX5_nextToken 175 = .ok (.iconst 4, 1) := by decide +kernel
theorem dX5_nextToken_176 : decode cX5_nextToken 176 = .ok (.putfield 44, 3) := by decide +kernel
theorem dX5_nextToken_179 : decode cX5_nextToken 179 = .ok (.aload_n 0, 1) := by decide +kernel
theorem dX5_nextToken_180 : decode cX5_nextToken 180 = .ok (.dup, 1) := by decide +kernel
theorem dX5_nextToken_181 : decode cX5_nextToken 181 = .ok (.getfield 50, 3) := by decide +kernel
theorem dX5_nextToken_184 : decode cX5_nextToken 184 = .ok (.iconst 1, 1) := by decide +kernel
theorem dX5_nextToken_185 : decode cX5_nextToken 185 = .ok (.iadd, 1) := by decide +kernel
theorem dX5_nextToken_186 : decode cX5_nextToken 186 = .ok (.putfield 50, 3) := by decide +kernel
theorem dX5_nextToken_189 : decode cX5_nextToken 189 = .ok (.return_, 1) := by decide +kernel
theorem dX5_takeNumber_0 : decode cX5_takeNumber 0 = .ok (.aload_n 0, 1) := by decide +kernel
theorem dX5_takeNumber_1 : decode cX5_takeNumber 1 = .ok (.iconst 0, 1) := by decide +kernel
theorem dX5_takeNumber_2 : decode cX5_takeNumber 2 = .ok (.putfield 53, 3) := by decide +kernel
theorem dX5_takeNumber_5 : decode cX5_takeNumber 5 = .ok (.aload_n 0, 1) := by decide +kernel
theorem dX5_takeNumber_6 : decode cX5_takeNumber 6 = .ok (.getfield 50, 3) := by decide +kernel
theorem dX5_takeNumber_9 : decode cX5_takeNumber 9 = .ok (.aload_n 0, 1) := by decide +kernel
theorem dX5_takeNumber_10 : decode cX5_takeNumber 10 = .ok (.getfield 38, 3) := by decide +kernel
theorem dX5_takeNumber_13 : decode cX5_takeNumber 13 = .ok (.if_icmp .ge 71, 3) := by decide +kernel
theorem dX5_takeNumber_16 : decode cX5_takeNumber 16 = .ok (.aload_n 0, 1) := by decide +kernel
theorem dX5_takeNumber_17 : decode cX5_takeNumber 17 = .ok (.aload_n 0, 1) := by decide +kernel
theorem dX5_takeNumber_18 : decode cX5_takeNumber 18 = .ok (.getfield 50, 3) := by decide +kernel
theorem dX5_takeNumber_21 : decode cX5_takeNumber 21 = .ok (.invokevirtual 127, 3) := by decide +kernel
theorem dX5_takeNumber_24 : decode cX5_takeNumber 24 = .ok (.ifCond .eq 60, 3) := by decide +kernel
theorem dX5_takeNumber_27 : decode cX5_takeNumber 27 = .ok (.aload_n 0, 1) := by decide +kernel
theorem dX5_takeNumber_28 : decode cX5_takeNumber 28 = .ok (.aload_n 0, 1) := by decide +kernel
theorem dX5_takeNumber_29 : decode cX5_takeNumber 29 = .ok (.getfield 50, 3) := by decide +kernel
theorem dX5_takeNumber_32 : decode cX5_takeNumber 32 = .ok (.aload_n 0, 1) := by decide +kernel
theorem dX5_takeNumber_33 : decode cX5_takeNumber 33 = .ok (.getfield 47, 3) := by decide +kernel
theorem dX5_takeNumber_36 : decode cX5_takeNumber 36 = .ok (.isub, 1) := by decide +kernel
theorem dX5_takeNumber_37 : decode cX5_takeNumber 37 = .ok (.iconst 2, 1) := by decide +kernel
theorem dX5_takeNumber_38 : decode cX5_takeNumber 38 = .ok (.if_icmp .ge 26, 3) := by decide +kernel
theorem dX5_takeNumber_41 : decode cX5_takeNumber 41 = .ok (.aload_n 0, 1) := by decide +kernel
theorem dX5_takeNumber_42 : decode cX5_takeNumber 42 = .ok (.getfield 53, 3) := by decide +kernel
theorem dX5_takeNumber_45 : decode cX5_takeNumber 45 = .ok (.bipush 10, 2) := by decide +kernel
theorem dX5_takeNumber_47 : decode cX5_takeNumber 47 = .ok (.imul, 1) := by decide +kernel
theorem dX5_takeNumber_48 : decode cX5_takeNumber 48 = .ok (.aload_n 0, 1) := by decide +kernel
theorem dX5_takeNumber_49 : decode cX5_takeNumber 49 = .ok (.getfield 34, 3) := by decide +kernel
theorem dX5_takeNumber_52 : decode cX5_takeNumber 52 = .ok (.aload_n 0, 1) := by decide +kernel
theorem dX5_takeNumber_53 : decode cX5_takeNumber 53 = .ok (.getfield 50, 3) := by decide +kernel
theorem dX5_takeNumber_56 : decode cX5_takeNumber 56 = .ok (.baload, 1) := by decide +kernel
theorem dX5_takeNumber_57 : decode cX5_takeNumber 57 = .ok (.iadd, 1) := by decide +kernel
theorem dX5_takeNumber_58 : decode cX5_takeNumber 58 = .ok (.bipush 48, 2) := by decide +kernel
theorem dX5_takeNumber_60 : decode cX5_takeNumber 60 = .ok (.isub, 1) := by decide +kernel
theorem dX5_takeNumber_61 : decode cX5_takeNumber 61 = .ok (.goto 7, 3) := by decide +kernel
theorem dX5_takeNumber_64 : decode cX5_takeNumber 64 = .ok (.aload_n 0, 1) := by decide +kernel
theorem dX5_takeNumber_65 : decode cX5_takeNumber 65 = .ok (.getfield 53, 3) := by decide +kernel
theorem dX5_takeNumber_68 : decode cX5_takeNumber 68 = .ok (.putfield 53, 3) := by decide +kernel
theorem dX5_takeNumber_71 : decode cX5_takeNumber 71 = .ok (.aload_n 0, 1) := by decide +kernel
theorem dX5_takeNumber_72 : decode cX5_takeNumber 72 = .ok (.dup, 1) := by decide +kernel
theorem dX5_takeNumber_73 : decode cX5_takeNumber 73 = .ok (.getfield 50, 3) := by decide +kernel
theorem dX5_takeNumber_76 : decode cX5_takeNumber 76 = .ok (.iconst 1, 1) := by decide +kernel
theorem dX5_takeNumber_77 : decode cX5_takeNumber 77 = .ok (.iadd, 1) := by decide +kernel
theorem dX5_takeNumber_78 : decode cX5_takeNumber 78 = .ok (.putfield 50, 3) := by decide +kernel
theorem dX5_takeNumber_81 : decode cX5_takeNumber 81 = .ok (.goto (-76), 3) := by decide +kernel
theorem dX5_takeNumber_84 : decode cX5_takeNumber 84 = .ok (.aload_n 0, 1) := by decide +kernel
theorem dX5_takeNumber_85 : decode cX5_takeNumber 85 = .ok (.aload_n 0, 1) := by decide +kernel
theorem dX5_takeNumber_86 : decode cX5_takeNumber 86 = .ok (.getfield 50, 3) := by decide +kernel
theorem dX5_takeNumber_89 : decode cX5_takeNumber 89 = .ok (.aload_n 0, 1) := by decide +kernel
theorem dX5_takeNumber_90 : decode cX5_takeNumber 90 = .ok (.getfield 47, 3) := by decide +kernel
theorem dX5_takeNumber_93 : decode cX5_takeNumber 93 = .ok (.isub, 1) := by decide +kernel
theorem dX5_takeNumber_94 : decode cX5_takeNumber 94 = .ok (.iconst 2, 1) := by decide +kernel
theorem dX5_takeNumber_95 : decode cX5_takeNumber 95 = .ok (.if_icmp .le 7, 3) := by decide +kernel
theorem dX5_takeNumber_98 : decode cX5_takeNumber 98 = .ok (.iconst 4, 1) := by decide +kernel
theorem dX5_takeNumber_99 : decode cX5_takeNumber 99 = .ok (.goto 4, 3) := by decide +kernel
theorem dX5_takeNumber_102 : decode cX5_takeNumber 102 = .ok (.iconst 2, 1) := by decide +kernel
theorem dX5_takeNumber_103 : decode cX5_takeNumber 103 = .ok (.putfield 44, 3) := by decide +kernel
theorem dX5_takeNumber_106 : decode cX5_takeNumber 106 = .ok (.return_, 1) := by decide +kernel
theorem dX5_isLetter_0 : decode cX5_isLetter 0 = .ok (.aload_n 0, 1) := by decide +kernel
theorem dX5_isLetter_1 : decode cX5_isLetter 1 = .ok (.getfield 34, 3) := by decide +kernel
theorem dX5_isLetter_4 : decode cX5_isLetter 4 = .ok (.iload_n 1, 1) := by decide +kernel
theorem dX5_isLetter_5 : decode cX5_isLetter 5 = .ok (.baload, 1) := by decide +kernel
theorem dX5_isLetter_6 : decode cX5_isLetter 6 = .ok (.bipush 97, 2) := by decide +kernel
theorem dX5_isLetter_8 : decode cX5_isLetter 8 = .ok (.if_icmp .lt 18, 3) := by decide +kernel
theorem dX5_isLetter_11 : decode cX5_isLetter 11 = .ok (.aload_n 0, 1) := by decide +kernel
theorem dX5_isLetter_12 : decode cX5_isLetter 12 = .ok (.getfield 34, 3) := by decide +kernel
theorem dX5_isLetter_15 : decode cX5_isLetter 15 = .ok (.iload_n 1, 1) := by decide +kernel
theorem dX5_isLetter_16 : decode cX5_isLetter 16 = .ok (.baload, 1) := by decide +kernel
theorem dX5_isLetter_17 : decode cX5_isLetter 17 = .ok (.bipush 122, 2) := by decide +kernel
theorem dX5_isLetter_19 : decode cX5_isLetter 19 = .ok (.if_icmp .gt 7, 3) := by decide +kernel
theorem dX5_isLetter_22 : decode cX5_isLetter 22 = .ok (.iconst 1, 1) := by decide +kernel
theorem dX5_isLetter_23 : decode cX5_isLetter 23 = .ok (.goto 4, 3) := by decide +kernel
theorem dX5_isLetter_26 : decode cX5_isLetter 26 = .ok (.iconst 0, 1) := by decide +kernel
theorem dX5_isLetter_27 : decode cX5_isLetter 27 = .ok (.ireturn, 1) := by decide +kernel
theorem dX5_isDigit_0 : decode cX5_isDigit 0 = .ok (.aload_n 0, 1) := by decide +kernel
theorem dX5_isDigit_1 : decode cX5_isDigit 1 = .ok (.getfield 34, 3) := by decide +kernel
theorem dX5_isDigit_4 : decode cX5_isDigit 4 = .ok (.iload_n 1, 1) := by decide +kernel
theorem dX5_isDigit_5 : decode cX5_isDigit 5 = .ok (.baload, 1) := by decide +kernel
theorem dX5_isDigit_6 : decode cX5_isDigit 6 = .ok (.bipush 48, 2) := by decide +kernel
theorem dX5_isDigit_8 : decode cX5_isDigit 8 = .ok (.if_icmp .lt 18, 3) := by decide +kernel
theorem dX5_isDigit_11 : decode cX5_isDigit 11 = .ok (.aload_n 0, 1) := by decide +kernel
theorem dX5_isDigit_12 : decode cX5_isDigit 12 = .ok (.getfield 34, 3) := by decide +kernel
theorem dX5_isDigit_15 : decode cX5_isDigit 15 = .ok (.iload_n 1, 1) := by decide +kernel
theorem dX5_isDigit_16 : decode cX5_isDigit 16 = .ok (.baload, 1) := by decide +kernel
theorem dX5_isDigit_17 : decode cX5_isDigit 17 = .ok (.bipush 57, 2) := by decide +kernel
theorem dX5_isDigit_19 : decode cX5_isDigit 19 = .ok (.if_icmp .gt 7, 3) := by decide +kernel
theorem dX5_isDigit_22 : decode cX5_isDigit 22 = .ok (.iconst 1, 1) := by decide +kernel
theorem dX5_isDigit_23 : decode cX5_isDigit 23 = .ok (.goto 4, 3) := by decide +kernel
theorem dX5_isDigit_26 : decode cX5_isDigit 26 = .ok (.iconst 0, 1) := by decide +kernel
theorem dX5_isDigit_27 : decode cX5_isDigit 27 = .ok (.ireturn, 1) := by decide +kernel
theorem dX5_wordOf_0 : decode cX5_wordOf 0 = .ok (.iload_n 0, 1) := by decide +kernel
theorem dX5_wordOf_1 : decode cX5_wordOf 1 = .ok (.tableswitch 49 0 2 #[27, 32, 37], 27) := by decide +kernel
theorem dX5_wordOf_28 : decode cX5_wordOf 28 = .ok (.iload_n 1, 1) := by decide +kernel
theorem dX5_wordOf_29 : decode cX5_wordOf 29 = .ok (.invokestatic 133, 3) := by decide +kernel
theorem dX5_wordOf_32 : decode cX5_wordOf 32 = .ok (.areturn, 1) := by decide +kernel
theorem dX5_wordOf_33 : decode cX5_wordOf 33 = .ok (.iload_n 1, 1) := by decide +kernel
theorem dX5_wordOf_34 : decode cX5_wordOf 34 = .ok (.invokestatic 137, 3) := by decide +kernel
theorem dX5_wordOf_37 : decode cX5_wordOf 37 = .ok (.areturn, 1) := by decide +kernel
theorem dX5_wordOf_38 : decode cX5_wordOf 38 = .ok (.iload_n 1, 1) := by decide +kernel
theorem dX5_wordOf_39 : decode cX5_wordOf 39 = .ok (.ifCond .ne 8, 3) := by decide +kernel
theorem dX5_wordOf_42 : decode cX5_wordOf 42 = .ok (.ldc 140, 2) := by decide +kernel
theorem dX5_wordOf_44 : decode cX5_wordOf 44 = .ok (.goto 5, 3) := by decide +kernel
theorem dX5_wordOf_47 : decode cX5_wordOf 47 = .ok (.ldc 142, 2) := by decide +kernel
theorem dX5_wordOf_49 : decode cX5_wordOf 49 = .ok (.areturn, 1) := by decide +kernel
theorem dX5_wordOf_50 : decode cX5_wordOf 50 = .ok (.iload_n 1, 1) := by decide +kernel
theorem dX5_wordOf_51 : decode cX5_wordOf 51 = .ok (.iconst 1, 1) := by decide +kernel
theorem dX5_wordOf_52 : decode cX5_wordOf 52 = .ok (.if_icmp .ne 8, 3) := by decide +kernel
theorem dX5_wordOf_55 : decode cX5_wordOf 55 = .ok (.ldc 144, 2) := by decide +kernel
theorem dX5_wordOf_57 : decode cX5_wordOf 57 = .ok (.goto 14, 3) := by decide +kernel
theorem dX5_wordOf_60 : decode cX5_wordOf 60 = .ok (.iload_n 1, 1) := by decide +kernel
theorem dX5_wordOf_61 : decode cX5_wordOf 61 = .ok (.ifCond .ne 8, 3) := by decide +kernel
theorem dX5_wordOf_64 : decode cX5_wordOf 64 = .ok (.ldc 146, 2) := by decide +kernel
theorem dX5_wordOf_66 : decode cX5_wordOf 66 = .ok (.goto 5, 3) := by decide +kernel
theorem dX5_wordOf_69 : decode cX5_wordOf 69 = .ok (.ldc 142, 2) := by decide +kernel
theorem dX5_wordOf_71 : decode cX5_wordOf 71 = .ok (.areturn, 1) := by decide +kernel
theorem dX5_countyWord_0 : decode cX5_countyWord 0 = .ok (.iload_n 0, 1) := by decide +kernel
theorem dX5_countyWord_1 : decode cX5_countyWord 1 = .ok (.tableswitch 50 0 4 #[35, 38, 41, 44, 47], 35) := by decide +kernel
theorem dX5_countyWord_36 : decode cX5_countyWord 36 = .ok (.ldc 148, 2) := by decide +kernel
theorem dX5_countyWord_38 : decode cX5_countyWord 38 = .ok (.areturn, 1) := by decide +kernel
theorem dX5_countyWord_39 : decode cX5_countyWord 39 = .ok (.ldc 150, 2) := by decide +kernel
theorem dX5_countyWord_41 : decode cX5_countyWord 41 = .ok (.areturn, 1) := by decide +kernel
theorem dX5_countyWord_42 : decode cX5_countyWord 42 = .ok (.ldc 152, 2) := by decide +kernel
theorem dX5_countyWord_44 : decode cX5_countyWord 44 = .ok (.areturn, 1) := by decide +kernel
theorem dX5_countyWord_45 : decode cX5_countyWord 45 = .ok (.ldc 154, 2) := by decide +kernel
theorem dX5_countyWord_47 : decode cX5_countyWord 47 = .ok (.areturn, 1) := by decide +kernel
theorem dX5_countyWord_48 : decode cX5_countyWord 48 = .ok (.ldc 156, 2) := by decide +kernel
theorem dX5_countyWord_50 : decode cX5_countyWord 50 = .ok (.areturn, 1) := by decide +kernel
theorem dX5_countyWord_51 : decode cX5_countyWord 51 = .ok (.ldc 142, 2) := by decide +kernel
theorem dX5_countyWord_53 : decode cX5_countyWord 53 = .ok (.areturn, 1) := by decide +kernel
theorem dX5_termWord_0 : decode cX5_termWord 0 = .ok (.iload_n 0, 1) := by decide +kernel
theorem dX5_termWord_1 : decode cX5_termWord 1 = .ok (.tableswitch 64 0 6 #[43, 46, 49, 52, 55, 58, 61], 43) := by decide +kernel
theorem dX5_termWord_44 : decode cX5_termWord 44 = .ok (.ldc 158, 2) := by decide +kernel
theorem dX5_termWord_46 : decode cX5_termWord 46 = .ok (.areturn, 1) := by decide +kernel
theorem dX5_termWord_47 : decode cX5_termWord 47 = .ok (.ldc 160, 2) := by decide +kernel
theorem dX5_termWord_49 : decode cX5_termWord 49 = .ok (.areturn, 1) := by decide +kernel
theorem dX5_termWord_50 : decode cX5_termWord 50 = .ok (.ldc 162, 2) := by decide +kernel
theorem dX5_termWord_52 : decode cX5_termWord 52 = .ok (.areturn, 1) := by decide +kernel
theorem dX5_termWord_53 : decode cX5_termWord 53 = .ok (.ldc 164, 2) := by decide +kernel
theorem dX5_termWord_55 : decode cX5_termWord 55 = .ok (.areturn, 1) := by decide +kernel
theorem dX5_termWord_56 : decode cX5_termWord 56 = .ok (.ldc 166, 2) := by decide +kernel
theorem dX5_termWord_58 : decode cX5_termWord 58 = .ok (.areturn, 1) := by decide +kernel
theorem dX5_termWord_59 : decode cX5_termWord 59 = .ok (.ldc 168, 2) := by decide +kernel
theorem dX5_termWord_61 : decode cX5_termWord 61 = .ok (.areturn, 1) := by decide +kernel
theorem dX5_termWord_62 : decode cX5_termWord 62 = .ok (.ldc 170, 2) := by decide +kernel
theorem dX5_termWord_64 : decode cX5_termWord 64 = .ok (.areturn, 1) := by decide +kernel
theorem dX5_termWord_65 : decode cX5_termWord 65 = .ok (.ldc 142, 2) := by decide +kernel
theorem dX5_termWord_67 : decode cX5_termWord 67 = .ok (.areturn, 1) := by decide +kernel
theorem dX5_signsOf_0 : decode cX5_signsOf 0 = .ok (.iload_n 0, 1) := by decide +kernel
theorem dX5_signsOf_1 : decode cX5_signsOf 1 = .ok (.lookupswitch 101 #[(0, 27), (1, 69)], 27) := by decide +kernel
theorem dX5_signsOf_28 : decode cX5_signsOf 28 = .ok (.iload_n 1, 1) := by decide +kernel
theorem dX5_signsOf_29 : decode cX5_signsOf 29 = .ok (.ifCond .ne 8, 3) := by decide +kernel
theorem dX5_signsOf_32 : decode cX5_signsOf 32 = .ok (.ldc 172, 2) := by decide +kernel
theorem dX5_signsOf_34 : decode cX5_signsOf 34 = .ok (.goto 35, 3) := by decide +kernel
theorem dX5_signsOf_37 : decode cX5_signsOf 37 = .ok (.iload_n 1, 1) := by decide +kernel
theorem dX5_signsOf_38 : decode cX5_signsOf 38 = .ok (.iconst 1, 1) := by decide +kernel
theorem dX5_signsOf_39 : decode cX5_signsOf 39 = .ok (.if_icmp .ne 8, 3) := by decide +kernel
theorem dX5_signsOf_42 : decode cX5_signsOf 42 = .ok (.ldc 174, 2) := by decide +kernel
theorem dX5_signsOf_44 : decode cX5_signsOf 44 = .ok (.goto 25, 3) := by decide +kernel
theorem dX5_signsOf_47 : decode cX5_signsOf 47 = .ok (.iload_n 1, 1) := by decide +kernel
theorem dX5_signsOf_48 : decode cX5_signsOf 48 = .ok (.iconst 2, 1) := by decide +kernel
theorem dX5_signsOf_49 : decode cX5_signsOf 49 = .ok (.if_icmp .ne 8, 3) := by decide +kernel
theorem dX5_signsOf_52 : decode cX5_signsOf 52 = .ok (.ldc 176, 2) := by decide +kernel
theorem dX5_signsOf_54 : decode cX5_signsOf 54 = .ok (.goto 15, 3) := by decide +kernel
theorem dX5_signsOf_57 : decode cX5_signsOf 57 = .ok (.iload_n 1, 1) := by decide +kernel
theorem dX5_signsOf_58 : decode cX5_signsOf 58 = .ok (.iconst 3, 1) := by decide +kernel
theorem dX5_signsOf_59 : decode cX5_signsOf 59 = .ok (.if_icmp .ne 8, 3) := by decide +kernel
theorem dX5_signsOf_62 : decode cX5_signsOf 62 = .ok (.ldc 178, 2) := by decide +kernel
theorem dX5_signsOf_64 : decode cX5_signsOf 64 = .ok (.goto 5, 3) := by decide +kernel
theorem dX5_signsOf_67 : decode cX5_signsOf 67 = .ok (.ldc 180, 2) := by decide +kernel
theorem dX5_signsOf_69 : decode cX5_signsOf 69 = .ok (.areturn, 1) := by decide +kernel
theorem dX5_signsOf_70 : decode cX5_signsOf 70 = .ok (.iload_n 1, 1) := by decide +kernel
theorem dX5_signsOf_71 : decode cX5_signsOf 71 = .ok (.ifCond .ne 8, 3) := by decide +kernel
theorem dX5_signsOf_74 : decode cX5_signsOf 74 = .ok (.ldc 142, 2) := by decide +kernel
theorem dX5_signsOf_76 : decode cX5_signsOf 76 = .ok (.goto 25, 3) := by decide +kernel
theorem dX5_signsOf_79 : decode cX5_signsOf 79 = .ok (.iload_n 1, 1) := by decide +kernel
theorem dX5_signsOf_80 : decode cX5_signsOf 80 = .ok (.iconst 2, 1) := by decide +kernel
theorem dX5_signsOf_81 : decode cX5_signsOf 81 = .ok (.if_icmp .gt 8, 3) := by decide +kernel
theorem dX5_signsOf_84 : decode cX5_signsOf 84 = .ok (.ldc 182, 2) := by decide +kernel
theorem dX5_signsOf_86 : decode cX5_signsOf 86 = .ok (.goto 15, 3) := by decide +kernel
theorem dX5_signsOf_89 : decode cX5_signsOf 89 = .ok (.iload_n 1, 1) := by decide +kernel
theorem dX5_signsOf_90 : decode cX5_signsOf 90 = .ok (.iconst 5, 1) := by decide +kernel
theorem dX5_signsOf_91 : decode cX5_signsOf 91 = .ok (.if_icmp .gt 8, 3) := by decide +kernel
theorem dX5_signsOf_94 : decode cX5_signsOf 94 = .ok (.ldc 178, 2) := by decide +kernel
theorem dX5_signsOf_96 : decode cX5_signsOf 96 = .ok (.goto 5, 3) := by decide +kernel
theorem dX5_signsOf_99 : decode cX5_signsOf 99 = .ok (.ldc 180, 2) := by decide +kernel
theorem dX5_signsOf_101 : decode cX5_signsOf 101 = .ok (.areturn, 1) := by decide +kernel
theorem dX5_signsOf_102 : decode cX5_signsOf 102 = .ok (.ldc 184, 2) := by decide +kernel
theorem dX5_signsOf_104 : decode cX5_signsOf 104 = .ok (.areturn, 1) := by decide +kernel
theorem dX5_mostOf_0 : decode cX5_mostOf 0 = .ok (.iload_n 0, 1) := by decide +kernel
theorem dX5_mostOf_1 : decode cX5_mostOf 1 = .ok (.bipush 119, 2) := by decide +kernel
theorem dX5_mostOf_3 : decode cX5_mostOf 3 = .ok (.if_icmp .ne 6, 3) := by decide +kernel
theorem dX5_mostOf_6 : decode cX5_mostOf 6 = .ok (.bipush 9, 2) := by decide +kernel
theorem dX5_mostOf_8 : decode cX5_mostOf 8 = .ok (.ireturn, 1) := by decide +kernel
theorem dX5_mostOf_9 : decode cX5_mostOf 9 = .ok (.iload_n 0, 1) := by decide +kernel
theorem dX5_mostOf_10 : decode cX5_mostOf 10 = .ok (.bipush 114, 2) := by decide +kernel
theorem dX5_mostOf_12 : decode cX5_mostOf 12 = .ok (.if_icmp .ne 5, 3) := by decide +kernel
theorem dX5_mostOf_15 : decode cX5_mostOf 15 = .ok (.iconst 4, 1) := by decide +kernel
theorem dX5_mostOf_16 : decode cX5_mostOf 16 = .ok (.ireturn, 1) := by decide +kernel
theorem dX5_mostOf_17 : decode cX5_mostOf 17 = .ok (.iload_n 0, 1) := by decide +kernel
theorem dX5_mostOf_18 : decode cX5_mostOf 18 = .ok (.bipush 104, 2) := by decide +kernel
theorem dX5_mostOf_20 : decode cX5_mostOf 20 = .ok (.if_icmp .ne 6, 3) := by decide +kernel
theorem dX5_mostOf_23 : decode cX5_mostOf 23 = .ok (.bipush 9, 2) := by decide +kernel
theorem dX5_mostOf_25 : decode cX5_mostOf 25 = .ok (.ireturn, 1) := by decide +kernel
theorem dX5_mostOf_26 : decode cX5_mostOf 26 = .ok (.iload_n 0, 1) := by decide +kernel
theorem dX5_mostOf_27 : decode cX5_mostOf 27 = .ok (.bipush 116, 2) := by decide +kernel
theorem dX5_mostOf_29 : decode cX5_mostOf 29 = .ok (.if_icmp .ne 8, 3) := by decide +kernel
theorem dX5_mostOf_32 : decode cX5_mostOf 32 = .ok (.bipush 7, 2) := by decide +kernel
theorem dX5_mostOf_34 : decode cX5_mostOf 34 = .ok (.goto 4, 3) := by decide +kernel
theorem dX5_mostOf_37 : decode cX5_mostOf 37 = .ok (.iconst 5, 1) := by decide +kernel
theorem dX5_mostOf_38 : decode cX5_mostOf 38 = .ok (.ireturn, 1) := by decide +kernel
theorem dX9_init_0 : decode cX9_init 0 = .ok (.aload_n 0, 1) := by decide +kernel
theorem dX9_init_1 : decode cX9_init 1 = .ok (.invokespecial 3, 3) := by decide +kernel
theorem dX9_init_4 : decode cX9_init 4 = .ok (.aload_n 0, 1) := by decide +kernel
theorem dX9_init_5 : decode cX9_init 5 = .ok (.sipush 600, 3) := by decide +kernel
theorem dX9_init_8 : decode cX9_init 8 = .ok (.newarray .byte, 2) := by decide +kernel
theorem dX9_init_10 : decode cX9_init 10 = .ok (.putfield 9, 3) := by decide +kernel
theorem dX9_init_13 : decode cX9_init 13 = .ok (.aload_n 0, 1) := by decide +kernel
theorem dX9_init_14 : decode cX9_init 14 = .ok (.iconst 0, 1) := by decide +kernel
theorem dX9_init_15 : decode cX9_init 15 = .ok (.putfield 15, 3) := by decide +kernel
theorem dX9_init_18 : decode cX9_init 18 = .ok (.aload_n 0, 1) := by decide +kernel
theorem dX9_init_19 : decode cX9_init 19 = .ok (.iconst 0, 1) := by decide +kernel
theorem dX9_init_20 : decode cX9_init 20 = .ok (.putfield 19, 3) := by decide +kernel
theorem dX9_init_23 : decode cX9_init 23 = .ok (.aload_n 0, 1) := by decide +kernel
theorem dX9_init_24 : decode cX9_init 24 = .ok (.iconst (-1), 1) := by decide +kernel
theorem dX9_init_25 : decode cX9_init 25 = .ok (.putfield 22, 3) := by decide +kernel
theorem dX9_init_28 : decode cX9_init 28 = .ok (.aload_n 0, 1) := by decide +kernel
theorem dX9_init_29 : decode cX9_init 29 = .ok (.iconst 4, 1) := by decide +kernel
theorem dX9_init_30 : decode cX9_init 30 = .ok (.newarray .int, 2) := by decide +kernel
theorem dX9_init_32 : decode cX9_init 32 = .ok (.putfield 25, 3) := by decide +kernel
theorem dX9_init_35 : decode cX9_init 35 = .ok (.aload_n 0, 1) := by decide +kernel
theorem dX9_init_36 : decode cX9_init 36 = .ok (.iconst 2, 1) := by decide +kernel
theorem dX9_init_37 : decode cX9_init 37 = .ok (.anewarray 29, 3) := by decide +kernel
theorem dX9_init_40 : decode cX9_init 40 = .ok (.putfield 31, 3) := by decide +kernel
theorem dX9_init_43 : decode cX9_init 43 = .ok (.aload_n 0, 1) := by decide +kernel
theorem dX9_init_44 : decode cX9_init 44 = .ok (.bipush 8, 2) := by decide +kernel
theorem dX9_init_46 : decode cX9_init 46 = .ok (.anewarray 35, 3) := by decide +kernel
theorem dX9_init_49 : decode cX9_init 49 = .ok (.putfield 37, 3) := by decide +kernel
theorem dX9_init_52 : decode cX9_init 52 = .ok (.return_, 1) := by decide +kernel
theorem dX9_append_0 : decode cX9_append 0 = .ok (.bipush 24, 2) := by decide +kernel
theorem dX9_append_2 : decode cX9_append 2 = .ok (.istore_n 2, 1) := by decide +kernel
theorem dX9_append_3 : decode cX9_append 3 = .ok (.iload_n 2, 1) := by decide +kernel
theorem dX9_append_4 : decode cX9_append 4 = .ok (.ifCond .lt 44, 3) := by decide +kernel
theorem dX9_append_7 : decode cX9_append 7 = .ok (.aload_n 0, 1) := by decide +kernel
theorem dX9_append_8 : decode cX9_append 8 = .ok (.getfield 15, 3) := by decide +kernel
theorem dX9_append_11 : decode cX9_append 11 = .ok (.aload_n 0, 1) := by decide +kernel
theorem dX9_append_12 : decode cX9_append 12 = .ok (.getfield 9, 3) := by decide +kernel
theorem dX9_append_15 : decode cX9_append 15 = .ok (.arraylength, 1) := by decide +kernel
theorem dX9_append_16 : decode cX9_append 16 = .ok (.if_icmp .ge 26, 3) := by decide +kernel
theorem dX9_append_19 : decode cX9_append 19 = .ok (.aload_n 0, 1) := by decide +kernel
theorem dX9_append_20 : decode cX9_append 20 = .ok (.getfield 9, 3) := by decide +kernel
theorem dX9_append_23 : decode cX9_append 23 = .ok (.aload_n 0, 1) := by decide +kernel
theorem dX9_append_24 : decode cX9_append 24 = .ok (.getfield 15, 3) := by decide +kernel
theorem dX9_append_27 : decode cX9_append 27 = .ok (.iload_n 1, 1) := by decide +kernel
theorem dX9_append_28 : decode cX9_append 28 = .ok (.iload_n 2, 1) := by decide +kernel
theorem dX9_append_29 : decode cX9_append 29 = .ok (.iushr, 1) := by decide +kernel
theorem dX9_append_30 : decode cX9_append 30 = .ok (.i2b, 1) := by decide +kernel
theorem dX9_append_31 : decode cX9_append 31 = .ok (.bastore, 1) := by decide +kernel
theorem dX9_append_32 : decode cX9_append 32 = .ok (.aload_n 0, 1) := by decide +kernel
theorem dX9_append_33 : decode cX9_append 33 = .ok (.dup, 1) := by decide +kernel
theorem dX9_append_34 : decode cX9_append 34 = .ok (.getfield 15, 3) := by decide +kernel
theorem dX9_append_37 : decode cX9_append 37 = .ok (.iconst 1, 1) := by decide +kernel
theorem dX9_append_38 : decode cX9_append 38 = .ok (.iadd, 1) := by decide +kernel
theorem dX9_append_39 : decode cX9_append 39 = .ok (.putfield 15, 3) := by decide +kernel
theorem dX9_append_42 : decode cX9_append 42 = .ok (.iinc 2 (-8), 3) := by decide +kernel
theorem dX9_append_45 : decode cX9_append 45 = .ok (.goto (-42), 3) := by decide +kernel
theorem dX9_append_48 : decode cX9_append 48 = .ok (.return_, 1) := by decide +kernel
theorem dX9_placeFor_0 : decode cX9_placeFor 0 = .ok (.iload_n 1, 1) := by decide +kernel
theorem dX9_placeFor_1 : decode cX9_placeFor 1 = .ok (.ifCond .lt 8, 3) := by decide +kernel
theorem dX9_placeFor_4 : decode cX9_placeFor 4 = .ok (.iload_n 1, 1) := by decide +kernel
theorem dX9_placeFor_5 : decode cX9_placeFor 5 = .ok (.iconst 4, 1) := by decide +kernel
theorem dX9_placeFor_6 : decode cX9_placeFor 6 = .ok (.if_icmp .lt 5, 3) := by decide +kernel
theorem dX9_placeFor_9 : decode cX9_placeFor 9 = .ok (.iconst (-1), 1) := by decide +kernel
theorem dX9_placeFor_10 : decode cX9_placeFor 10 = .ok (.ireturn, 1) := by decide +kernel
theorem dX9_placeFor_11 : decode cX9_placeFor 11 = .ok (.iload_n 2, 1) := by decide +kernel
theorem dX9_placeFor_12 : decode cX9_placeFor 12 = .ok (.iconst (-1), 1) := by decide +kernel
theorem dX9_placeFor_13 : decode cX9_placeFor 13 = .ok (.if_icmp .ne 24, 3) := by decide +kernel
theorem dX9_placeFor_16 : decode cX9_placeFor 16 = .ok (.aload_n 0, 1) := by decide +kernel
theorem dX9_placeFor_17 : decode cX9_placeFor 17 = .ok (.getfield 25, 3) := by decide +kernel
theorem dX9_placeFor_20 : decode cX9_placeFor 20 = .ok (.iload_n 1, 1) := by decide +kernel
theorem dX9_placeFor_21 : decode cX9_placeFor 21 = .ok (.iaload, 1) := by decide +kernel
theorem dX9_placeFor_22 : decode cX9_placeFor 22 = .ok (.iconst 2, 1) := by decide +kernel
theorem dX9_placeFor_23 : decode cX9_placeFor 23 = .ok (.if_icmp .ge 12, 3) := by decide +kernel
theorem dX9_placeFor_26 : decode cX9_placeFor 26 = .ok (.aload_n 0, 1) := by decide +kernel
theorem dX9_placeFor_27 : decode cX9_placeFor 27 = .ok (.getfield 25, 3) := by decide +kernel
theorem dX9_placeFor_30 : decode cX9_placeFor 30 = .ok (.iload_n 1, 1) := by decide +kernel
theorem dX9_placeFor_31 : decode cX9_placeFor 31 = .ok (.iaload, 1) := by decide +kernel
theorem dX9_placeFor_32 : decode cX9_placeFor 32 = .ok (.goto 4, 3) := by decide +kernel
theorem dX9_placeFor_35 : decode cX9_placeFor 35 = .ok (.iconst (-1), 1) := by decide +kernel
theorem dX9_placeFor_36 : decode cX9_placeFor 36 = .ok (.ireturn, 1) := by decide +kernel
theorem dX9_placeFor_37 : decode cX9_placeFor 37 = .ok (.iload_n 2, 1) := by decide +kernel
theorem dX9_placeFor_38 : decode cX9_placeFor 38 = .ok (.ifCond .lt 17, 3) := by decide +kernel
theorem dX9_placeFor_41 : decode cX9_placeFor 41 = .ok (.iload_n 2, 1) := by decide +kernel
theorem dX9_placeFor_42 : decode cX9_placeFor 42 = .ok (.aload_n 0, 1) := by decide +kernel
theorem dX9_placeFor_43 : decode cX9_placeFor 43 = .ok (.getfield 25, 3) := by decide +kernel
theorem dX9_placeFor_46 : decode cX9_placeFor 46 = .ok (.iload_n 1, 1) := by decide +kernel
theorem dX9_placeFor_47 : decode cX9_placeFor 47 = .ok (.iaload, 1) := by decide +kernel
theorem dX9_placeFor_48 : decode cX9_placeFor 48 = .ok (.if_icmp .ge 7, 3) := by decide +kernel
theorem dX9_placeFor_51 : decode cX9_placeFor 51 = .ok (.iload_n 2, 1) := by decide +kernel
theorem dX9_placeFor_52 : decode cX9_placeFor 52 = .ok (.goto 4, 3) := by decide +kernel
theorem dX9_placeFor_55 : decode cX9_placeFor 55 = .ok (.iconst (-1), 1) := by decide +kernel
theorem dX9_placeFor_56 : decode cX9_placeFor 56 = .ok (.ireturn, 1) := by decide +kernel
theorem dX9_store_0 : decode cX9_store 0 = .ok (.iload_n 1, 1) := by decide +kernel
theorem dX9_store_1 : decode cX9_store 1 = .ok (.ifCond .ne 20, 3) := by decide +kernel
theorem dX9_store_4 : decode cX9_store 4 = .ok (.aload_n 0, 1) := by decide +kernel
theorem dX9_store_5 : decode cX9_store 5 = .ok (.getfield 31, 3) := by decide +kernel
theorem dX9_store_8 : decode cX9_store 8 = .ok (.iload_n 2, 1) := by decide +kernel
theorem dX9_store_9 : decode cX9_store 9 = .ok (.new 29, 3) := by decide +kernel
theorem dX9_store_12 : decode cX9_store 12 = .ok (.dup, 1) := by decide +kernel
theorem dX9_store_13 : decode cX9_store 13 = .ok (.aload_n 3, 1) := by decide +kernel
theorem dX9_store_14 : decode cX9_store 14 = .ok (.invokespecial 41, 3) := by decide +kernel
theorem dX9_store_17 : decode cX9_store 17 = .ok (.aastore, 1) := by decide +kernel
theorem dX9_store_18 : decode cX9_store 18 = .ok (.goto 17, 3) := by decide +kernel
theorem dX9_store_21 : decode cX9_store 21 = .ok (.aload_n 0, 1) := by decide +kernel
theorem dX9_store_22 : decode cX9_store 22 = .ok (.getfield 37, 3) := by decide +kernel
theorem dX9_store_25 : decode cX9_store 25 = .ok (.iload_n 1, 1) := by decide +kernel
theorem dX9_store_26 : decode cX9_store 26 = .ok (.iconst 2, 1) := by decide +kernel
theorem dX9_store_27 : decode cX9_store 27 = .ok (.imul, 1) := by decide +kernel
theorem dX9_store_28 : decode cX9_store 28 = .ok (.iload_n 2, 1) := by decide +kernel
theorem dX9_store_29 : decode cX9_store 29 = .ok (.iadd, 1) := by decide +kernel
theorem dX9_store_30 : decode cX9_store 30 = .ok (.aload_n 3, 1) := by decide +kernel
theorem dX9_store_31 : decode cX9_store 31 = .ok (.invokevirtual 44, 3) := by decide +kernel
theorem dX9_store_34 : decode cX9_store 34 = .ok (.aastore, 1) := by decide +kernel
theorem dX9_store_35 : decode cX9_store 35 = .ok (.aload_n 0, 1) := by decide +kernel
theorem dX9_store_36 : decode cX9_store 36 = .ok (.getfield 25, 3) := by decide +kernel
theorem dX9_store_39 : decode cX9_store 39 = .ok (.iload_n 1, 1) := by decide +kernel
theorem dX9_store_40 : decode cX9_store 40 = .ok (.aload_n 0, 1) := by decide +kernel
theorem dX9_store_41 : decode cX9_store 41 = .ok (.getfield 25, 3) := by decide +kernel
theorem dX9_store_44 : decode cX9_store 44 = .ok (.iload_n 1, 1) := by decide +kernel
theorem dX9_store_45 : decode cX9_store 45 = .ok (.iaload, 1) := by decide +kernel
theorem dX9_store_46 : decode cX9_store 46 = .ok (.iload_n 2, 1) := by decide +kernel
theorem dX9_store_47 : decode cX9_store 47 = .ok (.iconst 1, 1) := by decide +kernel
theorem dX9_store_48 : decode cX9_store 48 = .ok (.iadd, 1) := by decide +kernel
theorem dX9_store_49 : decode cX9_store 49 = .ok (.invokestatic 48, 3) := by decide +kernel
theorem dX9_store_52 : decode cX9_store 52 = .ok (.iastore, 1) := by decide +kernel
theorem dX9_store_53 : decode cX9_store 53 = .ok (.return_, 1) := by decide +kernel
theorem dX9_countyAt_0 : decode cX9_countyAt 0 = .ok (.iload_n 1, 1) := by decide +kernel
theorem dX9_countyAt_1 : decode cX9_countyAt 1 = .ok (.ifCond .lt 13, 3) := by decide +kernel
theorem dX9_countyAt_4 : decode cX9_countyAt 4 = .ok (.iload_n 1, 1) := by decide +kernel
theorem dX9_countyAt_5 : decode cX9_countyAt 5 = .ok (.aload_n 0, 1) := by decide +kernel
theorem dX9_countyAt_6 : decode cX9_countyAt 6 = .ok (.getfield 25, 3) := by decide +kernel
theorem dX9_countyAt_9 : decode cX9_countyAt 9 = .ok (.iconst 0, 1) := by decide +kernel
theorem dX9_countyAt_10 : decode cX9_countyAt 10 = .ok (.iaload, 1) := by decide +kernel
theorem dX9_countyAt_11 : decode cX9_countyAt 11 = .ok (.if_icmp .lt 7, 3) := by decide +kernel
theorem dX9_countyAt_14 : decode cX9_countyAt 14 = .ok (.aconst_null, 1) := by decide +kernel
theorem dX9_countyAt_15 : decode cX9_countyAt 15 = .ok (.goto 9, 3) := by decide +kernel
theorem dX9_countyAt_18 : decode cX9_countyAt 18 = .ok (.aload_n 0, 1) := by decide +kernel
theorem dX9_countyAt_19 : decode cX9_countyAt 19 = .ok (.getfield 31, 3) := by decide +kernel
theorem dX9_countyAt_22 : decode cX9_countyAt 22 = .ok (.iload_n 1, 1) := by decide +kernel
theorem dX9_countyAt_23 : decode cX9_countyAt 23 = .ok (.aaload, 1) := by decide +kernel
theorem dX9_countyAt_24 : decode cX9_countyAt 24 = .ok (.areturn, 1) := by decide +kernel
theorem dX9_rowsAt_0 : decode cX9_rowsAt 0 = .ok (.iload_n 2, 1) := by decide +kernel
theorem dX9_rowsAt_1 : decode cX9_rowsAt 1 = .ok (.ifCond .lt 13, 3) := by decide +kernel
theorem dX9_rowsAt_4 : decode cX9_rowsAt 4 = .ok (.iload_n 2, 1) := by decide +kernel
theorem dX9_rowsAt_5 : decode cX9_rowsAt 5 = .ok (.aload_n 0, 1) := by decide +kernel
theorem dX9_rowsAt_6 : decode cX9_rowsAt 6 = .ok (.getfield 25, 3) := by decide +kernel
theorem dX9_rowsAt_9 : decode cX9_rowsAt 9 = .ok (.iload_n 1, 1) := by decide +kernel
theorem dX9_rowsAt_10 : decode cX9_rowsAt 10 = .ok (.iaload, 1) := by decide +kernel
theorem dX9_rowsAt_11 : decode cX9_rowsAt 11 = .ok (.if_icmp .lt 7, 3) := by decide +kernel
theorem dX9_rowsAt_14 : decode cX9_rowsAt 14 = .ok (.aconst_null, 1) := by decide +kernel
theorem dX9_rowsAt_15 : decode cX9_rowsAt 15 = .ok (.goto 13, 3) := by decide +kernel
theorem dX9_rowsAt_18 : decode cX9_rowsAt 18 = .ok (.aload_n 0, 1) := by decide +kernel
theorem dX9_rowsAt_19 : decode cX9_rowsAt 19 = .ok (.getfield 37, 3) := by decide +kernel
theorem dX9_rowsAt_22 : decode cX9_rowsAt 22 = .ok (.iload_n 1, 1) := by decide +kernel
theorem dX9_rowsAt_23 : decode cX9_rowsAt 23 = .ok (.iconst 2, 1) := by decide +kernel
theorem dX9_rowsAt_24 : decode cX9_rowsAt 24 = .ok (.imul, 1) := by decide +kernel
theorem dX9_rowsAt_25 : decode cX9_rowsAt 25 = .ok (.iload_n 2, 1) := by decide +kernel
theorem dX9_rowsAt_26 : decode cX9_rowsAt 26 = .ok (.iadd, 1) := by decide +kernel
theorem dX9_rowsAt_27 : decode cX9_rowsAt 27 = .ok (.aaload, 1) := by decide +kernel
theorem dX9_rowsAt_28 : decode cX9_rowsAt 28 = .ok (.areturn, 1) := by decide +kernel
theorem dX9_copyOf_0 : decode cX9_copyOf 0 = .ok (.aload_n 1, 1) := by decide +kernel
theorem dX9_copyOf_1 : decode cX9_copyOf 1 = .ok (.getfield 9, 3) := by decide +kernel
theorem dX9_copyOf_4 : decode cX9_copyOf 4 = .ok (.iconst 0, 1) := by decide +kernel
theorem dX9_copyOf_5 : decode cX9_copyOf 5 = .ok (.aload_n 0, 1) := by decide +kernel
theorem dX9_copyOf_6 : decode cX9_copyOf 6 = .ok (.getfield 9, 3) := by decide +kernel
theorem dX9_copyOf_9 : decode cX9_copyOf 9 = .ok (.iconst 0, 1) := by decide +kernel
theorem dX9_copyOf_10 : decode cX9_copyOf 10 = .ok (.aload_n 1, 1) := by decide +kernel
theorem dX9_copyOf_11 : decode cX9_copyOf 11 = .ok (.getfield 15, 3) := by decide +kernel
theorem dX9_copyOf_14 : decode cX9_copyOf 14 = .ok (.invokestatic 54, 3) := by decide +kernel
theorem dX9_copyOf_17 : decode cX9_copyOf 17 = .ok (.aload_n 0, 1) := by decide +kernel
theorem dX9_copyOf_18 : decode cX9_copyOf 18 = .ok (.aload_n 1, 1) := by decide +kernel
theorem dX9_copyOf_19 : decode cX9_copyOf 19 = .ok (.getfield 15, 3) := by decide +kernel
theorem dX9_copyOf_22 : decode cX9_copyOf 22 = .ok (.putfield 15, 3) := by decide +kernel
theorem dX9_copyOf_25 : decode cX9_copyOf 25 = .ok (.aload_n 0, 1) := by decide +kernel
theorem dX9_copyOf_26 : decode cX9_copyOf 26 = .ok (.aload_n 1, 1) := by decide +kernel
theorem dX9_copyOf_27 : decode cX9_copyOf 27 = .ok (.getfield 19, 3) := by decide +kernel
theorem dX9_copyOf_30 : decode cX9_copyOf 30 = .ok (.putfield 19, 3) := by decide +kernel
theorem dX9_copyOf_33 : decode cX9_copyOf 33 = .ok (.aload_n 0, 1) := by decide +kernel
theorem dX9_copyOf_34 : decode cX9_copyOf 34 = .ok (.aload_n 1, 1) := by decide +kernel
theorem dX9_copyOf_35 : decode cX9_copyOf 35 = .ok (.getfield 22, 3) := by decide +kernel
theorem dX9_copyOf_38 : decode cX9_copyOf 38 = .ok (.putfield 22, 3) := by decide +kernel
theorem dX9_copyOf_41 : decode cX9_copyOf 41 = .ok (.aload_n 1, 1) := by decide +kernel
theorem dX9_copyOf_42 : decode cX9_copyOf 42 = .ok (.getfield 25, 3) := by decide +kernel
theorem dX9_copyOf_45 : decode cX9_copyOf 45 = .ok (.iconst 0, 1) := by decide +kernel
theorem dX9_copyOf_46 : decode cX9_copyOf 46 = .ok (.aload_n 0, 1) := by decide +kernel
theorem dX9_copyOf_47 : decode cX9_copyOf 47 = .ok (.getfield 25, 3) := by decide +kernel
theorem dX9_copyOf_50 : decode cX9_copyOf 50 = .ok (.iconst 0, 1) := by decide +kernel
theorem dX9_copyOf_51 : decode cX9_copyOf 51 = .ok (.iconst 4, 1) := by decide +kernel
theorem dX9_copyOf_52 : decode cX9_copyOf 52 = .ok (.invokestatic 54, 3) := by decide +kernel
theorem dX9_copyOf_55 : decode cX9_copyOf 55 = .ok (.iconst 0, 1) := by decide +kernel
theorem dX9_copyOf_56 : decode cX9_copyOf 56 = .ok (.istore_n 2, 1) := by decide +kernel
theorem dX9_copyOf_57 : decode cX9_copyOf 57 = .ok (.iload_n 2, 1) := by decide +kernel
theorem dX9_copyOf_58 : decode cX9_copyOf 58 = .ok (.aload_n 0, 1) := by decide +kernel
theorem dX9_copyOf_59 : decode cX9_copyOf 59 = .ok (.getfield 31, 3) := by decide +kernel
theorem dX9_copyOf_62 : decode cX9_copyOf 62 = .ok (.arraylength, 1) := by decide +kernel
theorem dX9_copyOf_63 : decode cX9_copyOf 63 = .ok (.if_icmp .ge 21, 3) := by decide +kernel
theorem dX9_copyOf_66 : decode cX9_copyOf 66 = .ok (.aload_n 0, 1) := by decide +kernel
theorem dX9_copyOf_67 : decode cX9_copyOf 67 = .ok (.getfield 31, 3) := by decide +kernel
theorem dX9_copyOf_70 : decode cX9_copyOf 70 = .ok (.iload_n 2, 1) := by decide +kernel
theorem dX9_copyOf_71 : decode cX9_copyOf 71 = .ok (.aload_n 1, 1) := by decide +kernel
theorem dX9_copyOf_72 : decode cX9_copyOf 72 = .ok (.getfield 31, 3) := by decide +kernel
theorem dX9_copyOf_75 : decode cX9_copyOf 75 = .ok (.iload_n 2, 1) := by decide +kernel
theorem dX9_copyOf_76 : decode cX9_copyOf 76 = .ok (.aaload, 1) := by decide +kernel
theorem dX9_copyOf_77 : decode cX9_copyOf 77 = .ok (.aastore, 1) := by decide +kernel
theorem dX9_copyOf_78 : decode cX9_copyOf 78 = .ok (.iinc 2 1, 3) := by decide +kernel
theorem dX9_copyOf_81 : decode cX9_copyOf 81 = .ok (.goto (-24), 3) := by decide +kernel
theorem dX9_copyOf_84 : decode cX9_copyOf 84 = .ok (.iconst 0, 1) := by decide +kernel
theorem dX9_copyOf_85 : decode cX9_copyOf 85 = .ok (.istore_n 2, 1) := by decide +kernel
theorem dX9_copyOf_86 : decode cX9_copyOf 86 = .ok (.iload_n 2, 1) := by decide +kernel
theorem dX9_copyOf_87 : decode cX9_copyOf 87 = .ok (.aload_n 0, 1) := by decide +kernel
theorem dX9_copyOf_88 : decode cX9_copyOf 88 = .ok (.getfield 37, 3) := by decide +kernel
theorem dX9_copyOf_91 : decode cX9_copyOf 91 = .ok (.arraylength, 1) := by decide +kernel
theorem dX9_copyOf_92 : decode cX9_copyOf 92 = .ok (.if_icmp .ge 21, 3) := by decide +kernel
theorem dX9_copyOf_95 : decode cX9_copyOf 95 = .ok (.aload_n 0, 1) := by decide +kernel
theorem dX9_copyOf_96 : decode cX9_copyOf 96 = .ok (.getfield 37, 3) := by decide +kernel
theorem dX9_copyOf_99 : decode cX9_copyOf 99 = .ok (.iload_n 2, 1) := by decide +kernel
theorem dX9_copyOf_100 : decode cX9_copyOf 100 = .ok (.aload_n 1, 1) := by decide +kernel
theorem dX9_copyOf_101 : decode cX9_copyOf 101 = .ok (.getfield 37, 3) := by decide +kernel
theorem dX9_copyOf_104 : decode cX9_copyOf 104 = .ok (.iload_n 2, 1) := by decide +kernel
theorem dX9_copyOf_105 : decode cX9_copyOf 105 = .ok (.aaload, 1) := by decide +kernel
theorem dX9_copyOf_106 : decode cX9_copyOf 106 = .ok (.aastore, 1) := by decide +kernel
theorem dX9_copyOf_107 : decode cX9_copyOf 107 = .ok (.iinc 2 1, 3) := by decide +kernel
theorem dX9_copyOf_110 : decode cX9_copyOf 110 = .ok (.goto (-24), 3) := by decide +kernel
theorem dX9_copyOf_113 : decode cX9_copyOf 113 = .ok (.return_, 1) := by decide +kernel
theorem dX2_init_0 : decode cX2_init 0 = .ok (.aload_n 0, 1) := by decide +kernel
theorem dX2_init_1 : decode cX2_init 1 = .ok (.invokespecial 3, 3) := by decide +kernel
theorem dX2_init_4 : decode cX2_init 4 = .ok (.aload_n 0, 1) := by decide +kernel
theorem dX2_init_5 : decode cX2_init 5 = .ok (.bipush 6, 2) := by decide +kernel
theorem dX2_init_7 : decode cX2_init 7 = .ok (.newarray .int, 2) := by decide +kernel
theorem dX2_init_9 : decode cX2_init 9 = .ok (.putfield 9, 3) := by decide +kernel
theorem dX2_init_12 : decode cX2_init 12 = .ok (.aload_n 0, 1) := by decide +kernel
theorem dX2_init_13 : decode cX2_init 13 = .ok (.bipush 6, 2) := by decide +kernel
theorem dX2_init_15 : decode cX2_init 15 = .ok (.newarray .int, 2) := by decide +kernel
theorem dX2_init_17 : decode cX2_init 17 = .ok (.putfield 15, 3) := by decide +kernel
theorem dX2_init_20 : decode cX2_init 20 = .ok (.aload_n 0, 1) := by decide +kernel
theorem dX2_init_21 : decode cX2_init 21 = .ok (.bipush 6, 2) := by decide +kernel
theorem dX2_init_23 : decode cX2_init 23 = .ok (.newarray .int, 2) := by decide +kernel
theorem dX2_init_25 : decode cX2_init 25 = .ok (.putfield 18, 3) := by decide +kernel
theorem dX2_init_28 : decode cX2_init 28 = .ok (.aload_n 0, 1) := by decide +kernel
theorem dX2_init_29 : decode cX2_init 29 = .ok (.bipush 8, 2) := by decide +kernel
theorem dX2_init_31 : decode cX2_init 31 = .ok (.newarray .int, 2) := by decide +kernel
theorem dX2_init_33 : decode cX2_init 33 = .ok (.putfield 21, 3) := by decide +kernel
theorem dX2_init_36 : decode cX2_init 36 = .ok (.aload_n 0, 1) := by decide +kernel
theorem dX2_init_37 : decode cX2_init 37 = .ok (.bipush 8, 2) := by decide +kernel
theorem dX2_init_39 : decode cX2_init 39 = .ok (.newarray .int, 2) := by decide +kernel
theorem dX2_init_41 : decode cX2_init 41 = .ok (.putfield 24, 3) := by decide +kernel
theorem dX2_init_44 : decode cX2_init 44 = .ok (.aload_n 0, 1) := by decide +kernel
theorem dX2_init_45 : decode cX2_init 45 = .ok (.bipush 12, 2) := by decide +kernel
theorem dX2_init_47 : decode cX2_init 47 = .ok (.newarray .int, 2) := by decide +kernel
theorem dX2_init_49 : decode cX2_init 49 = .ok (.putfield 27, 3) := by decide +kernel
theorem dX2_init_52 : decode cX2_init 52 = .ok (.aload_n 0, 1) := by decide +kernel
theorem dX2_init_53 : decode cX2_init 53 = .ok (.bipush 12, 2) := by decide +kernel
theorem dX2_init_55 : decode cX2_init 55 = .ok (.newarray .int, 2) := by decide +kernel
theorem dX2_init_57 : decode cX2_init 57 = .ok (.putfield 30, 3) := by decide +kernel
theorem dX2_init_60 : decode cX2_init 60 = .ok (.aload_n 0, 1) := by decide +kernel
theorem dX2_init_61 : decode cX2_init 61 = .ok (.bipush 12, 2) := by decide +kernel
theorem dX2_init_63 : decode cX2_init 63 = .ok (.newarray .int, 2) := by decide +kernel
theorem dX2_init_65 : decode cX2_init 65 = .ok (.putfield 33, 3) := by decide +kernel
theorem dX2_init_68 : decode cX2_init 68 = .ok (.aload_n 0, 1) := by decide +kernel
theorem dX2_init_69 : decode cX2_init 69 = .ok (.iconst 0, 1) := by decide +kernel
theorem dX2_init_70 : decode cX2_init 70 = .ok (.putfield 36, 3) := by decide +kernel
theorem dX2_init_73 : decode cX2_init 73 = .ok (.aload_n 0, 1) := by decide +kernel
theorem dX2_init_74 : decode cX2_init 74 = .ok (.iconst 0, 1) := by decide +kernel
theorem dX2_init_75 : decode cX2_init 75 = .ok (.putfield 40, 3) := by decide +kernel
theorem dX2_init_78 : decode cX2_init 78 = .ok (.iconst 0, 1) := by decide +kernel
theorem dX2_init_79 : decode cX2_init 79 = .ok (.istore_n 2, 1) := by decide +kernel
theorem dX2_init_80 : decode cX2_init 80 = .ok (.iload_n 2, 1) := by decide +kernel
theorem dX2_init_81 : decode cX2_init 81 = .ok (.bipush 8, 2) := by decide +kernel
theorem dX2_init_83 : decode cX2_init 83 = .ok (.if_icmp .ge 16, 3) := by decide +kernel
theorem dX2_init_86 : decode cX2_init 86 = .ok (.aload_n 0, 1) := by decide +kernel
theorem dX2_init_87 : decode cX2_init 87 = .ok (.getfield 21, 3) := by decide +kernel
theorem dX2_init_90 : decode cX2_init 90 = .ok (.iload_n 2, 1) := by decide +kernel
theorem dX2_init_91 : decode cX2_init 91 = .ok (.iconst 5, 1) := by decide +kernel
theorem dX2_init_92 : decode cX2_init 92 = .ok (.iastore, 1) := by decide +kernel
theorem dX2_init_93 : decode cX2_init 93 = .ok (.iinc 2 1, 3) := by decide +kernel
theorem dX2_init_96 : decode cX2_init 96 = .ok (.goto (-16), 3) := by decide +kernel
theorem dX2_init_99 : decode cX2_init 99 = .ok (.iconst 0, 1) := by decide +kernel
theorem dX2_init_100 : decode cX2_init 100 = .ok (.istore_n 2, 1) := by decide +kernel
theorem dX2_init_101 : decode cX2_init 101 = .ok (.iload_n 2, 1) := by decide +kernel
theorem dX2_init_102 : decode cX2_init 102 = .ok (.aload_n 1, 1) := by decide +kernel
theorem dX2_init_103 : decode cX2_init 103 = .ok (.getfield 43, 3) := by decide +kernel
theorem dX2_init_106 : decode cX2_init 106 = .ok (.if_icmp .ge 37, 3) := by decide +kernel
theorem dX2_init_109 : decode cX2_init 109 = .ok (.aload_n 0, 1) := by decide +kernel
theorem dX2_init_110 : decode cX2_init 110 = .ok (.aload_n 1, 1) := by decide +kernel
theorem dX2_init_111 : decode cX2_init 111 = .ok (.iload_n 2, 1) := by decide +kernel
theorem dX2_init_112 : decode cX2_init 112 = .ok (.iconst 0, 1) := by decide +kernel
theorem dX2_init_113 : decode cX2_init 113 = .ok (.invokevirtual 48, 3) := by decide +kernel
theorem dX2_init_116 : decode cX2_init 116 = .ok (.aload_n 1, 1) := by decide +kernel
theorem dX2_init_117 : decode cX2_init 117 = .ok (.iload_n 2, 1) := by decide +kernel
theorem dX2_init_118 : decode cX2_init 118 = .ok (.iconst 1, 1) := by decide +kernel
theorem dX2_init_119 : decode cX2_init 119 = .ok (.invokevirtual 48, 3) := by decide +kernel
theorem dX2_init_122 : decode cX2_init 122 = .ok (.aload_n 1, 1) := by decide +kernel
theorem dX2_init_123 : decode cX2_init 123 = .ok (.iload_n 2, 1) := by decide +kernel
theorem dX2_init_124 : decode cX2_init 124 = .ok (.iconst 2, 1) := by decide +kernel
theorem dX2_init_125 : decode cX2_init 125 = .ok (.invokevirtual 48, 3) := by decide +kernel
theorem dX2_init_128 : decode cX2_init 128 = .ok (.aload_n 1, 1) := by decide +kernel
theorem dX2_init_129 : decode cX2_init 129 = .ok (.iload_n 2, 1) := by decide +kernel
theorem dX2_init_130 : decode cX2_init 130 = .ok (.iconst 3, 1) := by decide +kernel
theorem dX2_init_131 : decode cX2_init 131 = .ok (.invokevirtual 48, 3) := by decide +kernel
theorem dX2_init_134 : decode cX2_init 134 = .ok (.invokevirtual 52, 3) := by decide +kernel
theorem dX2_init_137 : decode cX2_init 137 = .ok (.iinc 2 1, 3) := by decide +kernel
theorem dX2_init_140 : decode cX2_init 140 = .ok (.goto (-39), 3) := by decide +kernel
theorem dX2_init_143 : decode cX2_init 143 = .ok (.return_, 1) := by decide +kernel
theorem dX2_take_0 : decode cX2_take 0 = .ok (.iload_n 1, 1) := by decide +kernel
theorem dX2_take_1 : decode cX2_take 1 = .ok (.tableswitch 116 0 3 #[31, 64, 74, 101], 31) := by decide +kernel
theorem dX2_take_32 : decode cX2_take 32 = .ok (.aload_n 0, 1) := by decide +kernel
theorem dX2_take_33 : decode cX2_take 33 = .ok (.getfield 9, 3) := by decide +kernel
theorem dX2_take_36 : decode cX2_take 36 = .ok (.aload_n 0, 1) := by decide +kernel
theorem dX2_take_37 : decode cX2_take 37 = .ok (.getfield 36, 3) := by decide +kernel
theorem dX2_take_40 : decode cX2_take 40 = .ok (.iload_n 2, 1) := by decide +kernel
theorem dX2_take_41 : decode cX2_take 41 = .ok (.iastore, 1) := by decide +kernel
theorem dX2_take_42 : decode cX2_take 42 = .ok (.aload_n 0, 1) := by decide +kernel
theorem dX2_take_43 : decode cX2_take 43 = .ok (.getfield 15, 3) := by decide +kernel
theorem dX2_take_46 : decode cX2_take 46 = .ok (.aload_n 0, 1) := by decide +kernel
theorem dX2_take_47 : decode cX2_take 47 = .ok (.getfield 36, 3) := by decide +kernel
theorem dX2_take_50 : decode cX2_take 50 = .ok (.iload_n 3, 1) := by decide +kernel
theorem dX2_take_51 : decode cX2_take 51 = .ok (.iastore, 1) := by decide +kernel
theorem dX2_take_52 : decode cX2_take 52 = .ok (.aload_n 0, 1) := by decide +kernel
theorem dX2_take_53 : decode cX2_take 53 = .ok (.dup, 1) := by decide +kernel
theorem dX2_take_54 : decode cX2_take 54 = .ok (.getfield 36, 3) := by decide +kernel
theorem dX2_take_57 : decode cX2_take 57 = .ok (.iconst 1, 1) := by decide +kernel
theorem dX2_take_58 : decode cX2_take 58 = .ok (.iadd, 1) := by decide +kernel
theorem dX2_take_59 : decode cX2_take 59 = .ok (.putfield 36, 3) := by decide +kernel
theorem dX2_take_62 : decode cX2_take 62 = .ok (.goto 96, 3) := by decide +kernel
theorem dX2_take_65 : decode cX2_take 65 = .ok (.aload_n 0, 1) := by decide +kernel
theorem dX2_take_66 : decode cX2_take 66 = .ok (.getfield 21, 3) := by decide +kernel
theorem dX2_take_69 : decode cX2_take 69 = .ok (.iload_n 2, 1) := by decide +kernel
theorem dX2_take_70 : decode cX2_take 70 = .ok (.iload_n 3, 1) := by decide +kernel
theorem dX2_take_71 : decode cX2_take 71 = .ok (.iastore, 1) := by decide +kernel
theorem dX2_take_72 : decode cX2_take 72 = .ok (.goto 86, 3) := by decide +kernel
theorem dX2_take_75 : decode cX2_take 75 = .ok (.aload_n 0, 1) := by decide +kernel
theorem dX2_take_76 : decode cX2_take 76 = .ok (.getfield 24, 3) := by decide +kernel
theorem dX2_take_79 : decode cX2_take 79 = .ok (.iload_n 2, 1) := by decide +kernel
theorem dX2_take_80 : decode cX2_take 80 = .ok (.dup2, 1) := by decide +kernel
theorem dX2_take_81 : decode cX2_take 81 = .ok (.iaload, 1) := by decide +kernel
theorem dX2_take_82 : decode cX2_take 82 = .ok (.iconst 1, 1) := by decide +kernel
theorem dX2_take_83 : decode cX2_take 83 = .ok (.iload_n 3, 1) := by decide +kernel
theorem dX2_take_84 : decode cX2_take 84 = .ok (.ishl, 1) := by decide +kernel
theorem dX2_take_85 : decode cX2_take 85 = .ok (.ior, 1) := by decide +kernel
theorem dX2_take_86 : decode cX2_take 86 = .ok (.iastore, 1) := by decide +kernel
theorem dX2_take_87 : decode cX2_take 87 = .ok (.aload_n 0, 1) := by decide +kernel
theorem dX2_take_88 : decode cX2_take 88 = .ok (.getfield 24, 3) := by decide +kernel
theorem dX2_take_91 : decode cX2_take 91 = .ok (.iload_n 3, 1) := by decide +kernel
theorem dX2_take_92 : decode cX2_take 92 = .ok (.dup2, 1) := by decide +kernel
theorem dX2_take_93 : decode cX2_take 93 = .ok (.iaload, 1) := by decide +kernel
theorem dX2_take_94 : decode cX2_take 94 = .ok (.iconst 1, 1) := by decide +kernel
theorem dX2_take_95 : decode cX2_take 95 = .ok (.iload_n 2, 1) := by decide +kernel
theorem dX2_take_96 : decode cX2_take 96 = .ok (.ishl, 1) := by decide +kernel
theorem dX2_take_97 : decode cX2_take 97 = .ok (.ior, 1) := by decide +kernel
theorem dX2_take_98 : decode cX2_take 98 = .ok (.iastore, 1) := by decide +kernel
theorem dX2_take_99 : decode cX2_take 99 = .ok (.goto 59, 3) := by decide +kernel
theorem dX2_take_102 : decode cX2_take 102 = .ok (.aload_n 0, 1) := by decide +kernel
theorem dX2_take_103 : decode cX2_take 103 = .ok (.getfield 18, 3) := by decide +kernel
theorem dX2_take_106 : decode cX2_take 106 = .ok (.iload_n 2, 1) := by decide +kernel
theorem dX2_take_107 : decode cX2_take 107 = .ok (.dup2, 1) := by decide +kernel
theorem dX2_take_108 : decode cX2_take 108 = .ok (.iaload, 1) := by decide +kernel
theorem dX2_take_109 : decode cX2_take 109 = .ok (.iconst 1, 1) := by decide +kernel
theorem dX2_take_110 : decode cX2_take 110 = .ok (.iload_n 3, 1) := by decide +kernel
theorem dX2_take_111 : decode cX2_take 111 = .ok (.ishl, 1) := by decide +kernel
theorem dX2_take_112 : decode cX2_take 112 = .ok (.ior, 1) := by decide +kernel
theorem dX2_take_113 : decode cX2_take 113 = .ok (.iastore, 1) := by decide +kernel
theorem dX2_take_114 : decode cX2_take 114 = .ok (.goto 44, 3) := by decide +kernel
theorem dX2_take_117 : decode cX2_take 117 = .ok (.aload_n 0, 1) := by decide +kernel
theorem dX2_take_118 : decode cX2_take 118 = .ok (.getfield 27, 3) := by decide +kernel
theorem dX2_take_121 : decode cX2_take 121 = .ok (.aload_n 0, 1) := by decide +kernel
theorem dX2_take_122 : decode cX2_take 122 = .ok (.getfield 40, 3) := by decide +kernel
theorem dX2_take_125 : decode cX2_take 125 = .ok (.iload_n 2, 1) := by decide +kernel
theorem dX2_take_126 : decode cX2_take 126 = .ok (.iastore, 1) := by decide +kernel
theorem dX2_take_127 : decode cX2_take 127 = .ok (.aload_n 0, 1) := by decide +kernel
theorem dX2_take_128 : decode cX2_take 128 = .ok (.getfield 30, 3) := by decide +kernel
theorem dX2_take_131 : decode cX2_take 131 = .ok (.aload_n 0, 1) := by decide +kernel
theorem dX2_take_132 : decode cX2_take 132 = .ok (.getfield 40, 3) := by decide +kernel
theorem dX2_take_135 : decode cX2_take 135 = .ok (.iload_n 3, 1) := by decide +kernel
theorem dX2_take_136 : decode cX2_take 136 = .ok (.iastore, 1) := by decide +kernel
theorem dX2_take_137 : decode cX2_take 137 = .ok (.aload_n 0, 1) := by decide +kernel
theorem dX2_take_138 : decode cX2_take 138 = .ok (.getfield 33, 3) := by decide +kernel
theorem dX2_take_141 : decode cX2_take 141 = .ok (.aload_n 0, 1) := by decide +kernel
theorem dX2_take_142 : decode cX2_take 142 = .ok (.getfield 40, 3) := by decide +kernel
theorem dX2_take_145 : decode cX2_take 145 = .ok (.iload 4, 2) := by decide +kernel
theorem dX2_take_147 : decode cX2_take 147 = .ok (.iastore, 1) := by decide +kernel
theorem dX2_take_148 : decode cX2_take 148 = .ok (.aload_n 0, 1) := by decide +kernel
theorem dX2_take_149 : decode cX2_take 149 = .ok (.dup, 1) := by decide +kernel
theorem dX2_take_150 : decode cX2_take 150 = .ok (.getfield 40, 3) := by decide +kernel
theorem dX2_take_153 : decode cX2_take 153 = .ok (.iconst 1, 1) := by decide +kernel
theorem dX2_take_154 : decode cX2_take 154 = .ok (.iadd, 1) := by decide +kernel
theorem dX2_take_155 : decode cX2_take 155 = .ok (.putfield 40, 3) := by decide +kernel
theorem dX2_take_158 : decode cX2_take 158 = .ok (.return_, 1) := by decide +kernel
theorem dX2_fillKeepable_0 : decode cX2_fillKeepable 0 = .ok (.iconst 1, 1) := by decide +kernel
theorem dX2_fillKeepable_1 : decode cX2_fillKeepable 1 = .ok (.istore_n 2, 1) := by decide +kernel
theorem dX2_fillKeepable_2 : decode cX2_fillKeepable 2 = .ok (.iload_n 2, 1) := by decide +kernel
theorem dX2_fillKeepable_3 : decode cX2_fillKeepable 3 = .ok (.iconst 4, 1) := by decide +kernel
theorem dX2_fillKeepable_4 : decode cX2_fillKeepable 4 = .ok (.if_icmp .gt 27, 3) := by decide +kernel
theorem dX2_fillKeepable_7 : decode cX2_fillKeepable 7 = .ok (.iload_n 2, 1) := by decide +kernel
theorem dX2_fillKeepable_8 : decode cX2_fillKeepable 8 = .ok (.iconst 1, 1) := by decide +kernel
theorem dX2_fillKeepable_9 : decode cX2_fillKeepable 9 = .ok (.iadd, 1) := by decide +kernel
theorem dX2_fillKeepable_10 : decode cX2_fillKeepable 10 = .ok (.sipush 256, 3) := by decide +kernel
theorem dX2_fillKeepable_13 : decode cX2_fillKeepable 13 = .ok (.imul, 1) := by decide +kernel
theorem dX2_fillKeepable_14 : decode cX2_fillKeepable 14 = .ok (.aload_n 1, 1) := by decide +kernel
theorem dX2_fillKeepable_15 : decode cX2_fillKeepable 15 = .ok (.arraylength, 1) := by decide +kernel
theorem dX2_fillKeepable_16 : decode cX2_fillKeepable 16 = .ok (.if_icmp .gt 15, 3) := by decide +kernel
theorem dX2_fillKeepable_19 : decode cX2_fillKeepable 19 = .ok (.aload_n 0, 1) := by decide +kernel
theorem dX2_fillKeepable_20 : decode cX2_fillKeepable 20 = .ok (.aload_n 1, 1) := by decide +kernel
theorem dX2_fillKeepable_21 : decode cX2_fillKeepable 21 = .ok (.iload_n 2, 1) := by decide +kernel
theorem dX2_fillKeepable_22 : decode cX2_fillKeepable 22 = .ok (.invokevirtual 56, 3) := by decide +kernel
theorem dX2_fillKeepable_25 : decode cX2_fillKeepable 25 = .ok (.iinc 2 1, 3) := by decide +kernel
theorem dX2_fillKeepable_28 : decode cX2_fillKeepable 28 = .ok (.goto (-26), 3) := by decide +kernel
theorem dX2_fillKeepable_31 : decode cX2_fillKeepable 31 = .ok (.return_, 1) := by decide +kernel
theorem dX2_fillKeepableOf_0 : decode cX2_fillKeepableOf 0 = .ok (.iload_n 2, 1) := by decide +kernel
theorem dX2_fillKeepableOf_1 : decode cX2_fillKeepableOf 1 = .ok (.sipush 256, 3) := by decide +kernel
theorem dX2_fillKeepableOf_4 : decode cX2_fillKeepableOf 4 = .ok (.imul, 1) := by decide +kernel
theorem dX2_fillKeepableOf_5 : decode cX2_fillKeepableOf 5 = .ok (.istore_n 3, 1) := by decide +kernel
theorem dX2_fillKeepableOf_6 : decode cX2_fillKeepableOf 6 = .ok (.iload_n 3, 1) := by decide +kernel
theorem dX2_fillKeepableOf_7 : decode cX2_fillKeepableOf 7 = .ok (.sipush 256, 3) := by decide +kernel
theorem dX2_fillKeepableOf_10 : decode cX2_fillKeepableOf 10 = .ok (.isub, 1) := by decide +kernel
theorem dX2_fillKeepableOf_11 : decode cX2_fillKeepableOf 11 = .ok (.istore 4, 2) := by decide +kernel
theorem dX2_fillKeepableOf_13 : decode cX2_fillKeepableOf 13 = .ok (.iconst 0, 1) := by decide +kernel
theorem dX2_fillKeepableOf_14 : decode cX2_fillKeepableOf 14 = .ok (.istore 5, 2) := by decide +kernel
theorem dX2_fillKeepableOf_16 : decode cX2_fillKeepableOf 16 = .ok (.iload 5, 2) := by decide +kernel
theorem dX2_fillKeepableOf_18 : decode cX2_fillKeepableOf 18 = .ok (.bipush 8, 2) := by decide +kernel
theorem dX2_fillKeepableOf_20 : decode cX2_fillKeepableOf 20 = .ok (.if_icmp .ge 102, 3) := by decide +kernel
theorem dX2_fillKeepableOf_23 : decode cX2_fillKeepableOf 23 = .ok (.iconst 0, 1) := by decide +kernel
theorem dX2_fillKeepableOf_24 : decode cX2_fillKeepableOf 24 = .ok (.istore 6, 2) := by decide +kernel
theorem dX2_fillKeepableOf_26 : decode cX2_fillKeepableOf 26 = .ok (.iload 6, 2) := by decide +kernel
theorem dX2_fillKeepableOf_28 : decode cX2_fillKeepableOf 28 = .ok (.iconst 1, 1) := by decide +kernel
theorem dX2_fillKeepableOf_29 : decode cX2_fillKeepableOf 29 = .ok (.iload 5, 2) := by decide +kernel
theorem dX2_fillKeepableOf_31 : decode cX2_fillKeepableOf 31 = .ok (.ishl, 1) := by decide +kernel
theorem dX2_fillKeepableOf_32 : decode cX2_fillKeepableOf 32 = .ok (.if_icmp .ge 84, 3) := by decide +kernel
theorem dX2_fillKeepableOf_35 : decode cX2_fillKeepableOf 35 = .ok (.aload_n 1, 1) := by decide +kernel
theorem dX2_fillKeepableOf_36 : decode cX2_fillKeepableOf 36 = .ok (.iload_n 3, 1) := by decide +kernel
theorem dX2_fillKeepableOf_37 : decode cX2_fillKeepableOf 37 = .ok (.iload 6, 2) := by decide +kernel
theorem dX2_fillKeepableOf_39 : decode cX2_fillKeepableOf 39 = .ok (.iadd, 1) := by decide +kernel
theorem dX2_fillKeepableOf_40 : decode cX2_fillKeepableOf 40 = .ok (.iaload, 1) := by decide +kernel
theorem dX2_fillKeepableOf_41 : decode cX2_fillKeepableOf 41 = .ok (.istore 7, 2) := by decide +kernel
theorem dX2_fillKeepableOf_43 : decode cX2_fillKeepableOf 43 = .ok (.aload_n 1, 1) := by decide +kernel
theorem dX2_fillKeepableOf_44 : decode cX2_fillKeepableOf 44 = .ok (.iload 4, 2) := by decide +kernel
theorem dX2_fillKeepableOf_46 : decode cX2_fillKeepableOf 46 = .ok (.iload 6, 2) := by decide +kernel
theorem dX2_fillKeepableOf_48 : decode cX2_fillKeepableOf 48 = .ok (.aload_n 0, 1) := by decide +kernel
theorem dX2_fillKeepableOf_49 : decode cX2_fillKeepableOf 49 = .ok (.getfield 24, 3) := by decide +kernel
theorem dX2_fillKeepableOf_52 : decode cX2_fillKeepableOf 52 = .ok (.iload 5, 2) := by decide +kernel
theorem dX2_fillKeepableOf_54 : decode cX2_fillKeepableOf 54 = .ok (.iaload, 1) := by decide +kernel
theorem dX2_fillKeepableOf_55 : decode cX2_fillKeepableOf 55 = .ok (.iconst (-1), 1) := by decide +kernel
theorem dX2_fillKeepableOf_56 : decode cX2_fillKeepableOf 56 = .ok (.ixor, 1) := by decide +kernel
theorem dX2_fillKeepableOf_57 : decode cX2_fillKeepableOf 57 = .ok (.iand, 1) := by decide +kernel
theorem dX2_fillKeepableOf_58 : decode cX2_fillKeepableOf 58 = .ok (.iadd, 1) := by decide +kernel
theorem dX2_fillKeepableOf_59 : decode cX2_fillKeepableOf 59 = .ok (.iaload, 1) := by decide +kernel
theorem dX2_fillKeepableOf_60 : decode cX2_fillKeepableOf 60 = .ok (.iconst 1, 1) := by decide +kernel
theorem dX2_fillKeepableOf_61 : decode cX2_fillKeepableOf 61 = .ok (.iload 5, 2) := by decide +kernel
theorem dX2_fillKeepableOf_63 : decode cX2_fillKeepableOf 63 = .ok (.ishl, 1) := by decide +kernel
theorem dX2_fillKeepableOf_64 : decode cX2_fillKeepableOf 64 = .ok (.ior, 1) := by decide +kernel
theorem dX2_fillKeepableOf_65 : decode cX2_fillKeepableOf 65 = .ok (.istore 8, 2) := by decide +kernel
theorem dX2_fillKeepableOf_67 : decode cX2_fillKeepableOf 67 = .ok (.iload 8, 2) := by decide +kernel
theorem dX2_fillKeepableOf_69 : decode cX2_fillKeepableOf 69 = .ok (.invokestatic 60, 3) := by decide +kernel
theorem dX2_fillKeepableOf_72 : decode cX2_fillKeepableOf 72 = .ok (.iload 7, 2) := by decide +kernel
theorem dX2_fillKeepableOf_74 : decode cX2_fillKeepableOf 74 = .ok (.invokestatic 60, 3) := by decide +kernel
theorem dX2_fillKeepableOf_77 : decode cX2_fillKeepableOf 77 = .ok (.if_icmp .le 7, 3) := by decide +kernel
theorem dX2_fillKeepableOf_80 : decode cX2_fillKeepableOf 80 = .ok (.iconst 1, 1) := by decide +kernel
theorem dX2_fillKeepableOf_81 : decode cX2_fillKeepableOf 81 = .ok (.goto 4, 3) := by decide +kernel
theorem dX2_fillKeepableOf_84 : decode cX2_fillKeepableOf 84 = .ok (.iconst 0, 1) := by decide +kernel
theorem dX2_fillKeepableOf_85 : decode cX2_fillKeepableOf 85 = .ok (.istore 9, 2) := by decide +kernel
theorem dX2_fillKeepableOf_87 : decode cX2_fillKeepableOf 87 = .ok (.aload_n 1, 1) := by decide +kernel
theorem dX2_fillKeepableOf_88 : decode cX2_fillKeepableOf 88 = .ok (.iload_n 3, 1) := by decide +kernel
theorem dX2_fillKeepableOf_89 : decode cX2_fillKeepableOf 89 = .ok (.iload 6, 2) := by decide +kernel
theorem dX2_fillKeepableOf_91 : decode cX2_fillKeepableOf 91 = .ok (.iconst 1, 1) := by decide +kernel
theorem dX2_fillKeepableOf_92 : decode cX2_fillKeepableOf 92 = .ok (.iload 5, 2) := by decide +kernel
theorem dX2_fillKeepableOf_94 : decode cX2_fillKeepableOf 94 = .ok (.ishl, 1) := by decide +kernel
theorem dX2_fillKeepableOf_95 : decode cX2_fillKeepableOf 95 = .ok (.ior, 1) := by decide +kernel
theorem dX2_fillKeepableOf_96 : decode cX2_fillKeepableOf 96 = .ok (.iadd, 1) := by decide +kernel
theorem dX2_fillKeepableOf_97 : decode cX2_fillKeepableOf 97 = .ok (.iload 9, 2) := by decide +kernel
theorem dX2_fillKeepableOf_99 : decode cX2_fillKeepableOf 99 = .ok (.ifCond .eq 8, 3) := by decide +kernel
theorem dX2_fillKeepableOf_102 : decode cX2_fillKeepableOf 102 = .ok (.iload 8, 2) := by decide +kernel
theorem dX2_fillKeepableOf_104 : decode cX2_fillKeepableOf 104 = .ok (.goto 5, 3) := by decide +kernel
theorem dX2_fillKeepableOf_107 : decode cX2_fillKeepableOf 107 = .ok (.iload 7, 2) := by decide +kernel
theorem dX2_fillKeepableOf_109 : decode cX2_fillKeepableOf 109 = .ok (.iastore, 1) := by decide +kernel
theorem dX2_fillKeepableOf_110 : decode cX2_fillKeepableOf 110 = .ok (.iinc 6 1, 3) := by decide +kernel
theorem dX2_fillKeepableOf_113 : decode cX2_fillKeepableOf 113 = .ok (.goto (-87), 3) := by decide +kernel
theorem dX2_fillKeepableOf_116 : decode cX2_fillKeepableOf 116 = .ok (.iinc 5 1, 3) := by decide +kernel
theorem dX2_fillKeepableOf_119 : decode cX2_fillKeepableOf 119 = .ok (.goto (-103), 3) := by decide +kernel
theorem dX2_fillKeepableOf_122 : decode cX2_fillKeepableOf 122 = .ok (.return_, 1) := by decide +kernel
theorem dX2_peace_0 : decode cX2_peace 0 = .ok (.iconst 0, 1) := by decide +kernel
theorem dX2_peace_1 : decode cX2_peace 1 = .ok (.istore_n 1, 1) := by decide +kernel
theorem dX2_peace_2 : decode cX2_peace 2 = .ok (.iconst 1, 1) := by decide +kernel
theorem dX2_peace_3 : decode cX2_peace 3 = .ok (.istore_n 2, 1) := by decide +kernel
theorem dX2_peace_4 : decode cX2_peace 4 = .ok (.iload_n 2, 1) := by decide +kernel
theorem dX2_peace_5 : decode cX2_peace 5 = .ok (.sipush 256, 3) := by decide +kernel
theorem dX2_peace_8 : decode cX2_peace 8 = .ok (.if_icmp .ge 30, 3) := by decide +kernel
theorem dX2_peace_11 : decode cX2_peace 11 = .ok (.iload_n 2, 1) := by decide +kernel
theorem dX2_peace_12 : decode cX2_peace 12 = .ok (.invokestatic 60, 3) := by decide +kernel
theorem dX2_peace_15 : decode cX2_peace 15 = .ok (.iload_n 1, 1) := by decide +kernel
theorem dX2_peace_16 : decode cX2_peace 16 = .ok (.invokestatic 60, 3) := by decide +kernel
theorem dX2_peace_19 : decode cX2_peace 19 = .ok (.if_icmp .le 13, 3) := by decide +kernel
theorem dX2_peace_22 : decode cX2_peace 22 = .ok (.aload_n 0, 1) := by decide +kernel
theorem dX2_peace_23 : decode cX2_peace 23 = .ok (.iload_n 2, 1) := by decide +kernel
theorem dX2_peace_24 : decode cX2_peace 24 = .ok (.invokevirtual 66, 3) := by decide +kernel
theorem dX2_peace_27 : decode cX2_peace 27 = .ok (.ifCond .eq 5, 3) := by decide +kernel
theorem dX2_peace_30 : decode cX2_peace 30 = .ok (.iload_n 2, 1) := by decide +kernel
theorem dX2_peace_31 : decode cX2_peace 31 = .ok (.istore_n 1, 1) := by decide +kernel
theorem dX2_peace_32 : decode cX2_peace 32 = .ok (.iinc 2 1, 3) := by decide +kernel
theorem dX2_peace_35 : decode cX2_peace 35 = .ok (.goto (-31), 3) := by decide +kernel
theorem dX2_peace_38 : decode cX2_peace 38 = .ok (.iload_n 1, 1) := by decide +kernel
theorem dX2_peace_39 : decode cX2_peace 39 = .ok (.ireturn, 1) := by decide +kernel
theorem dX2_isPeaceful_0 : decode cX2_isPeaceful 0 = .ok (.iconst 0, 1) := by decide +kernel
theorem dX2_isPeaceful_1 : decode cX2_isPeaceful 1 = .ok (.istore_n 2, 1) := by decide +kernel
theorem dX2_isPeaceful_2 : decode cX2_isPeaceful 2 = .ok (.iload_n 2, 1) := by decide +kernel
theorem dX2_isPeaceful_3 : decode cX2_isPeaceful 3 = .ok (.bipush 8, 2) := by decide +kernel
theorem dX2_isPeaceful_5 : decode cX2_isPeaceful 5 = .ok (.if_icmp .ge 30, 3) := by decide +kernel
theorem dX2_isPeaceful_8 : decode cX2_isPeaceful 8 = .ok (.iload_n 1, 1) := by decide +kernel
theorem dX2_isPeaceful_9 : decode cX2_isPeaceful 9 = .ok (.iload_n 2, 1) := by decide +kernel
theorem dX2_isPeaceful_10 : decode cX2_isPeaceful 10 = .ok (.invokestatic 70, 3) := by decide +kernel
theorem dX2_isPeaceful_13 : decode cX2_isPeaceful 13 = .ok (.ifCond .eq 16, 3) := by decide +kernel
theorem dX2_isPeaceful_16 : decode cX2_isPeaceful 16 = .ok (.iload_n 1, 1) := by decide +kernel
theorem dX2_isPeaceful_17 : decode cX2_isPeaceful 17 = .ok (.aload_n 0, 1) := by decide +kernel
theorem dX2_isPeaceful_18 : decode cX2_isPeaceful 18 = .ok (.getfield 24, 3) := by decide +kernel
theorem dX2_isPeaceful_21 : decode cX2_isPeaceful 21 = .ok (.iload_n 2, 1) := by decide +kernel
theorem dX2_isPeaceful_22 : decode cX2_isPeaceful 22 = .ok (.iaload, 1) := by decide +kernel
theorem dX2_isPeaceful_23 : decode cX2_isPeaceful 23 = .ok (.iand, 1) := by decide +kernel
theorem dX2_isPeaceful_24 : decode cX2_isPeaceful 24 = .ok (.ifCond .eq 5, 3) := by decide +kernel
theorem dX2_isPeaceful_27 : decode cX2_isPeaceful 27 = .ok (.iconst 0, 1) := by decide +kernel
theorem dX2_isPeaceful_28 : decode cX2_isPeaceful 28 = .ok (.ireturn, 1) := by decide +kernel
theorem dX2_isPeaceful_29 : decode cX2_isPeaceful 29 = .ok (.iinc 2 1, 3) := by decide +kernel
theorem dX2_isPeaceful_32 : decode cX2_isPeaceful 32 = .ok (.goto (-30), 3) := by decide +kernel
theorem dX2_isPeaceful_35 : decode cX2_isPeaceful 35 = .ok (.iconst 1, 1) := by decide +kernel
theorem dX2_isPeaceful_36 : decode cX2_isPeaceful 36 = .ok (.ireturn, 1) := by decide +kernel
theorem dX2_tell_0 : decode cX2_tell 0 = .ok (.iload_n 1, 1) := by decide +kernel
theorem dX2_tell_1 : decode cX2_tell 1 = .ok (.bipush 10, 2) := by decide +kernel
theorem dX2_tell_3 : decode cX2_tell 3 = .ok (.if_icmp .ge 28, 3) := by decide +kernel
theorem dX2_tell_6 : decode cX2_tell 6 = .ok (.iload_n 1, 1) := by decide +kernel
theorem dX2_tell_7 : decode cX2_tell 7 = .ok (.ifCond .ne 10, 3) := by decide +kernel
theorem dX2_tell_10 : decode cX2_tell 10 = .ok (.aload_n 0, 1) := by decide +kernel
theorem dX2_tell_11 : decode cX2_tell 11 = .ok (.getfield 36, 3) := by decide +kernel
theorem dX2_tell_14 : decode cX2_tell 14 = .ok (.goto 16, 3) := by decide +kernel
theorem dX2_tell_17 : decode cX2_tell 17 = .ok (.iload_n 1, 1) := by decide +kernel
theorem dX2_tell_18 : decode cX2_tell 18 = .ok (.iconst 1, 1) := by decide +kernel
theorem dX2_tell_19 : decode cX2_tell 19 = .ok (.if_icmp .ne 10, 3) := by decide +kernel
theorem dX2_tell_22 : decode cX2_tell 22 = .ok (.aload_n 0, 1) := by decide +kernel
theorem dX2_tell_23 : decode cX2_tell 23 = .ok (.getfield 40, 3) := by decide +kernel
theorem dX2_tell_26 : decode cX2_tell 26 = .ok (.goto 4, 3) := by decide +kernel
theorem dX2_tell_29 : decode cX2_tell 29 = .ok (.iconst (-1), 1) := by decide +kernel
theorem dX2_tell_30 : decode cX2_tell 30 = .ok (.ireturn, 1) := by decide +kernel
theorem dX2_tell_31 : decode cX2_tell 31 = .ok (.iload_n 1, 1) := by decide +kernel
theorem dX2_tell_32 : decode cX2_tell 32 = .ok (.bipush 100, 2) := by decide +kernel
theorem dX2_tell_34 : decode cX2_tell 34 = .ok (.if_icmp .ge 37, 3) := by decide +kernel
theorem dX2_tell_37 : decode cX2_tell 37 = .ok (.iload_n 1, 1) := by decide +kernel
theorem dX2_tell_38 : decode cX2_tell 38 = .ok (.bipush 40, 2) := by decide +kernel
theorem dX2_tell_40 : decode cX2_tell 40 = .ok (.if_icmp .ge 18, 3) := by decide +kernel
theorem dX2_tell_43 : decode cX2_tell 43 = .ok (.aload_n 0, 1) := by decide +kernel
theorem dX2_tell_44 : decode cX2_tell 44 = .ok (.iload_n 1, 1) := by decide +kernel
theorem dX2_tell_45 : decode cX2_tell 45 = .ok (.bipush 10, 2) := by decide +kernel
theorem dX2_tell_47 : decode cX2_tell 47 = .ok (.idiv, 1) := by decide +kernel
theorem dX2_tell_48 : decode cX2_tell 48 = .ok (.iload_n 1, 1) := by decide +kernel
theorem dX2_tell_49 : decode cX2_tell 49 = .ok (.bipush 10, 2) := by decide +kernel
theorem dX2_tell_51 : decode cX2_tell 51 = .ok (.irem, 1) := by decide +kernel
theorem dX2_tell_52 : decode cX2_tell 52 = .ok (.invokevirtual 74, 3) := by decide +kernel
theorem dX2_tell_55 : decode cX2_tell 55 = .ok (.goto 15, 3) := by decide +kernel
theorem dX2_tell_58 : decode cX2_tell 58 = .ok (.aload_n 0, 1) := by decide +kernel
theorem dX2_tell_59 : decode cX2_tell 59 = .ok (.iload_n 1, 1) := by decide +kernel
theorem dX2_tell_60 : decode cX2_tell 60 = .ok (.bipush 10, 2) := by decide +kernel
theorem dX2_tell_62 : decode cX2_tell 62 = .ok (.idiv, 1) := by decide +kernel
theorem dX2_tell_63 : decode cX2_tell 63 = .ok (.iload_n 1, 1) := by decide +kernel
theorem dX2_tell_64 : decode cX2_tell 64 = .ok (.bipush 10, 2) := by decide +kernel
theorem dX2_tell_66 : decode cX2_tell 66 = .ok (.irem, 1) := by decide +kernel
theorem dX2_tell_67 : decode cX2_tell 67 = .ok (.invokevirtual 77, 3) := by decide +kernel
theorem dX2_tell_70 : decode cX2_tell 70 = .ok (.ireturn, 1) := by decide +kernel
theorem dX2_tell_71 : decode cX2_tell 71 = .ok (.aload_n 0, 1) := by decide +kernel
theorem dX2_tell_72 : decode cX2_tell 72 = .ok (.iload_n 1, 1) := by decide +kernel
theorem dX2_tell_73 : decode cX2_tell 73 = .ok (.bipush 100, 2) := by decide +kernel
theorem dX2_tell_75 : decode cX2_tell 75 = .ok (.idiv, 1) := by decide +kernel
theorem dX2_tell_76 : decode cX2_tell 76 = .ok (.iload_n 1, 1) := by decide +kernel
theorem dX2_tell_77 : decode cX2_tell 77 = .ok (.bipush 100, 2) := by decide +kernel
theorem dX2_tell_79 : decode cX2_tell 79 = .ok (.irem, 1) := by decide +kernel
theorem dX2_tell_80 : decode cX2_tell 80 = .ok (.invokevirtual 80, 3) := by decide +kernel
theorem dX2_tell_83 : decode cX2_tell 83 = .ok (.ireturn, 1) := by decide +kernel
theorem dX2_tellOne_0 : decode cX2_tellOne 0 = .ok (.iload_n 2, 1) := by decide +kernel
theorem dX2_tellOne_1 : decode cX2_tellOne 1 = .ok (.aload_n 0, 1) := by decide +kernel
theorem dX2_tellOne_2 : decode cX2_tellOne 2 = .ok (.getfield 36, 3) := by decide +kernel
theorem dX2_tellOne_5 : decode cX2_tellOne 5 = .ok (.if_icmp .lt 5, 3) := by decide +kernel
theorem dX2_tellOne_8 : decode cX2_tellOne 8 = .ok (.iconst (-1), 1) := by decide +kernel
theorem dX2_tellOne_9 : decode cX2_tellOne 9 = .ok (.ireturn, 1) := by decide +kernel
theorem dX2_tellOne_10 : decode cX2_tellOne 10 = .ok (.iload_n 1, 1) := by decide +kernel
theorem dX2_tellOne_11 : decode cX2_tellOne 11 = .ok (.iconst 1, 1) := by decide +kernel
theorem dX2_tellOne_12 : decode cX2_tellOne 12 = .ok (.if_icmp .ne 12, 3) := by decide +kernel
theorem dX2_tellOne_15 : decode cX2_tellOne 15 = .ok (.aload_n 0, 1) := by decide +kernel
theorem dX2_tellOne_16 : decode cX2_tellOne 16 = .ok (.getfield 9, 3) := by decide +kernel
theorem dX2_tellOne_19 : decode cX2_tellOne 19 = .ok (.iload_n 2, 1) := by decide +kernel
theorem dX2_tellOne_20 : decode cX2_tellOne 20 = .ok (.iaload, 1) := by decide +kernel
theorem dX2_tellOne_21 : decode cX2_tellOne 21 = .ok (.goto 23, 3) := by decide +kernel
theorem dX2_tellOne_24 : decode cX2_tellOne 24 = .ok (.iload_n 1, 1) := by decide +kernel
theorem dX2_tellOne_25 : decode cX2_tellOne 25 = .ok (.iconst 2, 1) := by decide +kernel
theorem dX2_tellOne_26 : decode cX2_tellOne 26 = .ok (.if_icmp .ne 12, 3) := by decide +kernel
theorem dX2_tellOne_29 : decode cX2_tellOne 29 = .ok (.aload_n 0, 1) := by decide +kernel
theorem dX2_tellOne_30 : decode cX2_tellOne 30 = .ok (.getfield 15, 3) := by decide +kernel
theorem dX2_tellOne_33 : decode cX2_tellOne 33 = .ok (.iload_n 2, 1) := by decide +kernel
theorem dX2_tellOne_34 : decode cX2_tellOne 34 = .ok (.iaload, 1) := by decide +kernel
theorem dX2_tellOne_35 : decode cX2_tellOne 35 = .ok (.goto 9, 3) := by decide +kernel
theorem dX2_tellOne_38 : decode cX2_tellOne 38 = .ok (.aload_n 0, 1) := by decide +kernel
theorem dX2_tellOne_39 : decode cX2_tellOne 39 = .ok (.getfield 18, 3) := by decide +kernel
theorem dX2_tellOne_42 : decode cX2_tellOne 42 = .ok (.iload_n 2, 1) := by decide +kernel
theorem dX2_tellOne_43 : decode cX2_tellOne 43 = .ok (.iaload, 1) := by decide +kernel
theorem dX2_tellOne_44 : decode cX2_tellOne 44 = .ok (.ireturn, 1) := by decide +kernel
theorem dX2_tellThing_0 : decode cX2_tellThing 0 = .ok (.iload_n 2, 1) := by decide +kernel
theorem dX2_tellThing_1 : decode cX2_tellThing 1 = .ok (.bipush 8, 2) := by decide +kernel
theorem dX2_tellThing_3 : decode cX2_tellThing 3 = .ok (.if_icmp .lt 5, 3) := by decide +kernel
theorem dX2_tellThing_6 : decode cX2_tellThing 6 = .ok (.iconst (-1), 1) := by decide +kernel
theorem dX2_tellThing_7 : decode cX2_tellThing 7 = .ok (.ireturn, 1) := by decide +kernel
theorem dX2_tellThing_8 : decode cX2_tellThing 8 = .ok (.iload_n 1, 1) := by decide +kernel
theorem dX2_tellThing_9 : decode cX2_tellThing 9 = .ok (.iconst 4, 1) := by decide +kernel
theorem dX2_tellThing_10 : decode cX2_tellThing 10 = .ok (.if_icmp .ne 12, 3) := by decide +kernel
theorem dX2_tellThing_13 : decode cX2_tellThing 13 = .ok (.aload_n 0, 1) := by decide +kernel
theorem dX2_tellThing_14 : decode cX2_tellThing 14 = .ok (.getfield 21, 3) := by decide +kernel
theorem dX2_tellThing_17 : decode cX2_tellThing 17 = .ok (.iload_n 2, 1) := by decide +kernel
theorem dX2_tellThing_18 : decode cX2_tellThing 18 = .ok (.iaload, 1) := by decide +kernel
theorem dX2_tellThing_19 : decode cX2_tellThing 19 = .ok (.goto 18, 3) := by decide +kernel
theorem dX2_tellThing_22 : decode cX2_tellThing 22 = .ok (.iload_n 1, 1) := by decide +kernel
theorem dX2_tellThing_23 : decode cX2_tellThing 23 = .ok (.iconst 5, 1) := by decide +kernel
theorem dX2_tellThing_24 : decode cX2_tellThing 24 = .ok (.if_icmp .ne 12, 3) := by decide +kernel
theorem dX2_tellThing_27 : decode cX2_tellThing 27 = .ok (.aload_n 0, 1) := by decide +kernel
theorem dX2_tellThing_28 : decode cX2_tellThing 28 = .ok (.getfield 24, 3) := by decide +kernel
theorem dX2_tellThing_31 : decode cX2_tellThing 31 = .ok (.iload_n 2, 1) := by decide +kernel
theorem dX2_tellThing_32 : decode cX2_tellThing 32 = .ok (.iaload, 1) := by decide +kernel
theorem dX2_tellThing_33 : decode cX2_tellThing 33 = .ok (.goto 4, 3) := by decide +kernel
theorem dX2_tellThing_36 : decode cX2_tellThing 36 = .ok (.iconst (-1), 1) := by decide +kernel
theorem dX2_tellThing_37 : decode cX2_tellThing 37 = .ok (.ireturn, 1) := by decide +kernel
theorem dX2_tellOath_0 : decode cX2_tellOath 0 = .ok (.iload_n 2, 1) := by decide +kernel
theorem dX2_tellOath_1 : decode cX2_tellOath 1 = .ok (.aload_n 0, 1) := by decide +kernel
theorem dX2_tellOath_2 : decode cX2_tellOath 2 = .ok (.getfield 40, 3) := by decide +kernel
theorem dX2_tellOath_5 : decode cX2_tellOath 5 = .ok (.if_icmp .lt 5, 3) := by decide +kernel
theorem dX2_tellOath_8 : decode cX2_tellOath 8 = .ok (.iconst (-1), 1) := by decide +kernel
theorem dX2_tellOath_9 : decode cX2_tellOath 9 = .ok (.ireturn, 1) := by decide +kernel
theorem dX2_tellOath_10 : decode cX2_tellOath 10 = .ok (.iload_n 1, 1) := by decide +kernel
theorem dX2_tellOath_11 : decode cX2_tellOath 11 = .ok (.iconst 1, 1) := by decide +kernel
theorem dX2_tellOath_12 : decode cX2_tellOath 12 = .ok (.if_icmp .ne 12, 3) := by decide +kernel
theorem dX2_tellOath_15 : decode cX2_tellOath 15 = .ok (.aload_n 0, 1) := by decide +kernel
theorem dX2_tellOath_16 : decode cX2_tellOath 16 = .ok (.getfield 27, 3) := by decide +kernel
theorem dX2_tellOath_19 : decode cX2_tellOath 19 = .ok (.iload_n 2, 1) := by decide +kernel
theorem dX2_tellOath_20 : decode cX2_tellOath 20 = .ok (.iaload, 1) := by decide +kernel
theorem dX2_tellOath_21 : decode cX2_tellOath 21 = .ok (.goto 32, 3) := by decide +kernel
theorem dX2_tellOath_24 : decode cX2_tellOath 24 = .ok (.iload_n 1, 1) := by decide +kernel
theorem dX2_tellOath_25 : decode cX2_tellOath 25 = .ok (.iconst 2, 1) := by decide +kernel
theorem dX2_tellOath_26 : decode cX2_tellOath 26 = .ok (.if_icmp .ne 12, 3) := by decide +kernel
theorem dX2_tellOath_29 : decode cX2_tellOath 29 = .ok (.aload_n 0, 1) := by decide +kernel
theorem dX2_tellOath_30 : decode cX2_tellOath 30 = .ok (.getfield 30, 3) := by decide +kernel
theorem dX2_tellOath_33 : decode cX2_tellOath 33 = .ok (.iload_n 2, 1) := by decide +kernel
theorem dX2_tellOath_34 : decode cX2_tellOath 34 = .ok (.iaload, 1) := by decide +kernel
theorem dX2_tellOath_35 : decode cX2_tellOath 35 = .ok (.goto 18, 3) := by decide +kernel
theorem dX2_tellOath_38 : decode cX2_tellOath 38 = .ok (.iload_n 1, 1) := by decide +kernel
theorem dX2_tellOath_39 : decode cX2_tellOath 39 = .ok (.iconst 3, 1) := by decide +kernel
theorem dX2_tellOath_40 : decode cX2_tellOath 40 = .ok (.if_icmp .ne 12, 3) := by decide +kernel
theorem dX2_tellOath_43 : decode cX2_tellOath 43 = .ok (.aload_n 0, 1) := by decide +kernel
theorem dX2_tellOath_44 : decode cX2_tellOath 44 = .ok (.getfield 33, 3) := by decide +kernel
theorem dX2_tellOath_47 : decode cX2_tellOath 47 = .ok (.iload_n 2, 1) := by decide +kernel
theorem dX2_tellOath_48 : decode cX2_tellOath 48 = .ok (.iaload, 1) := by decide +kernel
theorem dX2_tellOath_49 : decode cX2_tellOath 49 = .ok (.goto 4, 3) := by decide +kernel
theorem dX2_tellOath_52 : decode cX2_tellOath 52 = .ok (.iconst (-1), 1) := by decide +kernel
theorem dX2_tellOath_53 : decode cX2_tellOath 53 = .ok (.ireturn, 1) := by decide +kernel
theorem dX7_init_0 : decode cX7_init 0 = .ok (.aload_n 0, 1) := by decide +kernel
theorem dX7_init_1 : decode cX7_init 1 = .ok (.invokespecial 3, 3) := by decide +kernel
theorem dX7_init_4 : decode cX7_init 4 = .ok (.aload_n 0, 1) := by decide +kernel
theorem dX7_init_5 : decode cX7_init 5 = .ok (.iconst 0, 1) := by decide +kernel
theorem dX7_init_6 : decode cX7_init 6 = .ok (.putfield 9, 3) := by decide +kernel
theorem dX7_init_9 : decode cX7_init 9 = .ok (.aload_n 0, 1) := by decide +kernel
theorem dX7_init_10 : decode cX7_init 10 = .ok (.iconst 0, 1) := by decide +kernel
theorem dX7_init_11 : decode cX7_init 11 = .ok (.putfield 15, 3) := by decide +kernel
theorem dX7_init_14 : decode cX7_init 14 = .ok (.aload_n 0, 1) := by decide +kernel
theorem dX7_init_15 : decode cX7_init 15 = .ok (.bipush 6, 2) := by decide +kernel
theorem dX7_init_17 : decode cX7_init 17 = .ok (.newarray .int, 2) := by decide +kernel
theorem dX7_init_19 : decode cX7_init 19 = .ok (.putfield 18, 3) := by decide +kernel
theorem dX7_init_22 : decode cX7_init 22 = .ok (.aload_n 0, 1) := by decide +kernel
theorem dX7_init_23 : decode cX7_init 23 = .ok (.bipush 6, 2) := by decide +kernel
theorem dX7_init_25 : decode cX7_init 25 = .ok (.newarray .int, 2) := by decide +kernel
theorem dX7_init_27 : decode cX7_init 27 = .ok (.putfield 22, 3) := by decide +kernel
theorem dX7_init_30 : decode cX7_init 30 = .ok (.aload_n 0, 1) := by decide +kernel
theorem dX7_init_31 : decode cX7_init 31 = .ok (.bipush 6, 2) := by decide +kernel
theorem dX7_init_33 : decode cX7_init 33 = .ok (.newarray .int, 2) := by decide +kernel
theorem dX7_init_35 : decode cX7_init 35 = .ok (.putfield 25, 3) := by decide +kernel
theorem dX7_init_38 : decode cX7_init 38 = .ok (.aload_n 0, 1) := by decide +kernel
theorem dX7_init_39 : decode cX7_init 39 = .ok (.bipush 36, 2) := by decide +kernel
theorem dX7_init_41 : decode cX7_init 41 = .ok (.newarray .int, 2) := by decide +kernel
theorem dX7_init_43 : decode cX7_init 43 = .ok (.putfield 28, 3) := by decide +kernel
theorem dX7_init_46 : decode cX7_init 46 = .ok (.aload_n 0, 1) := by decide +kernel
theorem dX7_init_47 : decode cX7_init 47 = .ok (.bipush 8, 2) := by decide +kernel
theorem dX7_init_49 : decode cX7_init 49 = .ok (.newarray .int, 2) := by decide +kernel
theorem dX7_init_51 : decode cX7_init 51 = .ok (.putfield 31, 3) := by decide +kernel
theorem dX7_init_54 : decode cX7_init 54 = .ok (.aload_n 0, 1) := by decide +kernel
theorem dX7_init_55 : decode cX7_init 55 = .ok (.bipush 12, 2) := by decide +kernel
theorem dX7_init_57 : decode cX7_init 57 = .ok (.newarray .int, 2) := by decide +kernel
theorem dX7_init_59 : decode cX7_init 59 = .ok (.putfield 34, 3) := by decide +kernel
theorem dX7_init_62 : decode cX7_init 62 = .ok (.aload_n 0, 1) := by decide +kernel
theorem dX7_init_63 : decode cX7_init 63 = .ok (.bipush 12, 2) := by decide +kernel
theorem dX7_init_65 : decode cX7_init 65 = .ok (.newarray .int, 2) := by decide +kernel
theorem dX7_init_67 : decode cX7_init 67 = .ok (.putfield 37, 3) := by decide +kernel
theorem dX7_init_70 : decode cX7_init 70 = .ok (.aload_n 0, 1) := by decide +kernel
theorem dX7_init_71 : decode cX7_init 71 = .ok (.bipush 12, 2) := by decide +kernel
theorem dX7_init_73 : decode cX7_init 73 = .ok (.newarray .int, 2) := by decide +kernel
theorem dX7_init_75 : decode cX7_init 75 = .ok (.putfield 40, 3) := by decide +kernel
theorem dX7_init_78 : decode cX7_init 78 = .ok (.aload_n 0, 1) := by decide +kernel
theorem dX7_init_79 : decode cX7_init 79 = .ok (.sipush 1280, 3) := by decide +kernel
theorem dX7_init_82 : decode cX7_init 82 = .ok (.newarray .int, 2) := by decide +kernel
theorem dX7_init_84 : decode cX7_init 84 = .ok (.putfield 43, 3) := by decide +kernel
theorem dX7_init_87 : decode cX7_init 87 = .ok (.aload_n 0, 1) := by decide +kernel
theorem dX7_init_88 : decode cX7_init 88 = .ok (.aconst_null, 1) := by decide +kernel
theorem dX7_init_89 : decode cX7_init 89 = .ok (.putfield 46, 3) := by decide +kernel
theorem dX7_init_92 : decode cX7_init 92 = .ok (.return_, 1) := by decide +kernel
theorem dX7_begin_0 : decode cX7_begin 0 = .ok (.aload_n 0, 1) := by decide +kernel
theorem dX7_begin_1 : decode cX7_begin 1 = .ok (.aload_n 1, 1) := by decide +kernel
theorem dX7_begin_2 : decode cX7_begin 2 = .ok (.getfield 50, 3) := by decide +kernel
theorem dX7_begin_5 : decode cX7_begin 5 = .ok (.putfield 9, 3) := by decide +kernel
theorem dX7_begin_8 : decode cX7_begin 8 = .ok (.aload_n 0, 1) := by decide +kernel
theorem dX7_begin_9 : decode cX7_begin 9 = .ok (.aload_n 1, 1) := by decide +kernel
theorem dX7_begin_10 : decode cX7_begin 10 = .ok (.getfield 53, 3) := by decide +kernel
theorem dX7_begin_13 : decode cX7_begin 13 = .ok (.putfield 15, 3) := by decide +kernel
theorem dX7_begin_16 : decode cX7_begin 16 = .ok (.aload_n 1, 1) := by decide +kernel
theorem dX7_begin_17 : decode cX7_begin 17 = .ok (.getfield 54, 3) := by decide +kernel
theorem dX7_begin_20 : decode cX7_begin 20 = .ok (.iconst 0, 1) := by decide +kernel
theorem dX7_begin_21 : decode cX7_begin 21 = .ok (.aload_n 0, 1) := by decide +kernel
theorem dX7_begin_22 : decode cX7_begin 22 = .ok (.getfield 18, 3) := by decide +kernel
theorem dX7_begin_25 : decode cX7_begin 25 = .ok (.iconst 0, 1) := by decide +kernel
theorem dX7_begin_26 : decode cX7_begin 26 = .ok (.bipush 6, 2) := by decide +kernel
theorem dX7_begin_28 : decode cX7_begin 28 = .ok (.invokestatic 55, 3) := by decide +kernel
theorem dX7_begin_31 : decode cX7_begin 31 = .ok (.aload_n 1, 1) := by decide +kernel
theorem dX7_begin_32 : decode cX7_begin 32 = .ok (.getfield 61, 3) := by decide +kernel
theorem dX7_begin_35 : decode cX7_begin 35 = .ok (.iconst 0, 1) := by decide +kernel
theorem dX7_begin_36 : decode cX7_begin 36 = .ok (.aload_n 0, 1) := by decide +kernel
theorem dX7_begin_37 : decode cX7_begin 37 = .ok (.getfield 22, 3) := by decide +kernel
theorem dX7_begin_40 : decode cX7_begin 40 = .ok (.iconst 0, 1) := by decide +kernel
theorem dX7_begin_41 : decode cX7_begin 41 = .ok (.bipush 6, 2) := by decide +kernel
theorem dX7_begin_43 : decode cX7_begin 43 = .ok (.invokestatic 55, 3) := by decide +kernel
theorem dX7_begin_46 : decode cX7_begin 46 = .ok (.aload_n 1, 1) := by decide +kernel
theorem dX7_begin_47 : decode cX7_begin 47 = .ok (.getfield 62, 3) := by decide +kernel
theorem dX7_begin_50 : decode cX7_begin 50 = .ok (.iconst 0, 1) := by decide +kernel
theorem dX7_begin_51 : decode cX7_begin 51 = .ok (.aload_n 0, 1) := by decide +kernel
theorem dX7_begin_52 : decode cX7_begin 52 = .ok (.getfield 25, 3) := by decide +kernel
theorem dX7_begin_55 : decode cX7_begin 55 = .ok (.iconst 0, 1) := by decide +kernel
theorem dX7_begin_56 : decode cX7_begin 56 = .ok (.bipush 6, 2) := by decide +kernel
theorem dX7_begin_58 : decode cX7_begin 58 = .ok (.invokestatic 55, 3) := by decide +kernel
theorem dX7_begin_61 : decode cX7_begin 61 = .ok (.aload_n 1, 1) := by decide +kernel
theorem dX7_begin_62 : decode cX7_begin 62 = .ok (.getfield 63, 3) := by decide +kernel
theorem dX7_begin_65 : decode cX7_begin 65 = .ok (.iconst 0, 1) := by decide +kernel
theorem dX7_begin_66 : decode cX7_begin 66 = .ok (.aload_n 0, 1) := by decide +kernel
theorem dX7_begin_67 : decode cX7_begin 67 = .ok (.getfield 31, 3) := by decide +kernel
theorem dX7_begin_70 : decode cX7_begin 70 = .ok (.iconst 0, 1) := by decide +kernel
theorem dX7_begin_71 : decode cX7_begin 71 = .ok (.bipush 8, 2) := by decide +kernel
theorem dX7_begin_73 : decode cX7_begin 73 = .ok (.invokestatic 55, 3) := by decide +kernel
theorem dX7_begin_76 : decode cX7_begin 76 = .ok (.aload_n 1, 1) := by decide +kernel
theorem dX7_begin_77 : decode cX7_begin 77 = .ok (.getfield 64, 3) := by decide +kernel
theorem dX7_begin_80 : decode cX7_begin 80 = .ok (.iconst 0, 1) := by decide +kernel
theorem dX7_begin_81 : decode cX7_begin 81 = .ok (.aload_n 0, 1) := by decide +kernel
theorem dX7_begin_82 : decode cX7_begin 82 = .ok (.getfield 34, 3) := by decide +kernel
theorem dX7_begin_85 : decode cX7_begin 85 = .ok (.iconst 0, 1) := by decide +kernel
theorem dX7_begin_86 : decode cX7_begin 86 = .ok (.bipush 12, 2) := by decide +kernel
theorem dX7_begin_88 : decode cX7_begin 88 = .ok (.invokestatic 55, 3) := by decide +kernel
theorem dX7_begin_91 : decode cX7_begin 91 = .ok (.aload_n 1, 1) := by decide +kernel
theorem dX7_begin_92 : decode cX7_begin 92 = .ok (.getfield 65, 3) := by decide +kernel
theorem dX7_begin_95 : decode cX7_begin 95 = .ok (.iconst 0, 1) := by decide +kernel
theorem dX7_begin_96 : decode cX7_begin 96 = .ok (.aload_n 0, 1) := by decide +kernel
theorem dX7_begin_97 : decode cX7_begin 97 = .ok (.getfield 37, 3) := by decide +kernel
theorem dX7_begin_100 : decode cX7_begin 100 = .ok (.iconst 0, 1) := by decide +kernel
theorem dX7_begin_101 : decode cX7_begin 101 = .ok (.bipush 12, 2) := by decide +kernel
theorem dX7_begin_103 : decode cX7_begin 103 = .ok (.invokestatic 55, 3) := by decide +kernel
theorem dX7_begin_106 : decode cX7_begin 106 = .ok (.aload_n 1, 1) := by decide +kernel
theorem dX7_begin_107 : decode cX7_begin 107 = .ok (.getfield 66, 3) := by decide +kernel
theorem dX7_begin_110 : decode cX7_begin 110 = .ok (.iconst 0, 1) := by decide +kernel
theorem dX7_begin_111 : decode cX7_begin 111 = .ok (.aload_n 0, 1) := by decide +kernel
theorem dX7_begin_112 : decode cX7_begin 112 = .ok (.getfield 40, 3) := by decide +kernel
theorem dX7_begin_115 : decode cX7_begin 115 = .ok (.iconst 0, 1) := by decide +kernel
theorem dX7_begin_116 : decode cX7_begin 116 = .ok (.bipush 12, 2) := by decide +kernel
theorem dX7_begin_118 : decode cX7_begin 118 = .ok (.invokestatic 55, 3) := by decide +kernel
theorem dX7_begin_121 : decode cX7_begin 121 = .ok (.iconst 0, 1) := by decide +kernel
theorem dX7_begin_122 : decode cX7_begin 122 = .ok (.istore_n 2, 1) := by decide +kernel
theorem dX7_begin_123 : decode cX7_begin 123 = .ok (.iload_n 2, 1) := by decide +kernel
theorem dX7_begin_124 : decode cX7_begin 124 = .ok (.aload_n 0, 1) := by decide +kernel
theorem dX7_begin_125 : decode cX7_begin 125 = .ok (.getfield 28, 3) := by decide +kernel
theorem dX7_begin_128 : decode cX7_begin 128 = .ok (.arraylength, 1) := by decide +kernel
theorem dX7_begin_129 : decode cX7_begin 129 = .ok (.if_icmp .ge 16, 3) := by decide +kernel
theorem dX7_begin_132 : decode cX7_begin 132 = .ok (.aload_n 0, 1) := by decide +kernel
theorem dX7_begin_133 : decode cX7_begin 133 = .ok (.getfield 28, 3) := by decide +kernel
theorem dX7_begin_136 : decode cX7_begin 136 = .ok (.iload_n 2, 1) := by decide +kernel
theorem dX7_begin_137 : decode cX7_begin 137 = .ok (.iconst 0, 1) := by decide +kernel
theorem dX7_begin_138 : decode cX7_begin 138 = .ok (.iastore, 1) := by decide +kernel
theorem dX7_begin_139 : decode cX7_begin 139 = .ok (.iinc 2 1, 3) := by decide +kernel
theorem dX7_begin_142 : decode cX7_begin 142 = .ok (.goto (-19), 3) := by decide +kernel
theorem dX7_begin_145 : decode cX7_begin 145 = .ok (.aload_n 1, 1) := by decide +kernel
theorem dX7_begin_146 : decode cX7_begin 146 = .ok (.aload_n 0, 1) := by decide +kernel
theorem dX7_begin_147 : decode cX7_begin 147 = .ok (.getfield 46, 3) := by decide +kernel
theorem dX7_begin_150 : decode cX7_begin 150 = .ok (.if_acmp .eq 16, 3) := by decide +kernel
theorem dX7_begin_153 : decode cX7_begin 153 = .ok (.aload_n 1, 1) := by decide +kernel
theorem dX7_begin_154 : decode cX7_begin 154 = .ok (.aload_n 0, 1) := by decide +kernel
theorem dX7_begin_155 : decode cX7_begin 155 = .ok (.getfield 43, 3) := by decide +kernel
theorem dX7_begin_158 : decode cX7_begin 158 = .ok (.invokevirtual 67, 3) := by decide +kernel
theorem dX7_begin_161 : decode cX7_begin 161 = .ok (.aload_n 0, 1) := by decide +kernel
theorem dX7_begin_162 : decode cX7_begin 162 = .ok (.aload_n 1, 1) := by decide +kernel
theorem dX7_begin_163 : decode cX7_begin 163 = .ok (.putfield 46, 3) := by decide +kernel
theorem dX7_begin_166 : decode cX7_begin 166 = .ok (.return_, 1) := by decide +kernel
theorem dX7_keptOf_0 : decode cX7_keptOf 0 = .ok (.iload_n 2, 1) := by decide +kernel
theorem dX7_keptOf_1 : decode cX7_keptOf 1 = .ok (.ifCond .lt 19, 3) := by decide +kernel
theorem dX7_keptOf_4 : decode cX7_keptOf 4 = .ok (.iload_n 2, 1) := by decide +kernel
theorem dX7_keptOf_5 : decode cX7_keptOf 5 = .ok (.iconst 4, 1) := by decide +kernel
theorem dX7_keptOf_6 : decode cX7_keptOf 6 = .ok (.if_icmp .gt 14, 3) := by decide +kernel
theorem dX7_keptOf_9 : decode cX7_keptOf 9 = .ok (.iload_n 1, 1) := by decide +kernel
theorem dX7_keptOf_10 : decode cX7_keptOf 10 = .ok (.ifCond .lt 10, 3) := by decide +kernel
theorem dX7_keptOf_13 : decode cX7_keptOf 13 = .ok (.iload_n 1, 1) := by decide +kernel
theorem dX7_keptOf_14 : decode cX7_keptOf 14 = .ok (.sipush 255, 3) := by decide +kernel
theorem dX7_keptOf_17 : decode cX7_keptOf 17 = .ok (.if_icmp .le 5, 3) := by decide +kernel
theorem dX7_keptOf_20 : decode cX7_keptOf 20 = .ok (.iconst 0, 1) := by decide +kernel
theorem dX7_keptOf_21 : decode cX7_keptOf 21 = .ok (.ireturn, 1) := by decide +kernel
theorem dX7_keptOf_22 : decode cX7_keptOf 22 = .ok (.iload_n 2, 1) := by decide +kernel
theorem dX7_keptOf_23 : decode cX7_keptOf 23 = .ok (.sipush 256, 3) := by decide +kernel
theorem dX7_keptOf_26 : decode cX7_keptOf 26 = .ok (.imul, 1) := by decide +kernel
theorem dX7_keptOf_27 : decode cX7_keptOf 27 = .ok (.iload_n 1, 1) := by decide +kernel
theorem dX7_keptOf_28 : decode cX7_keptOf 28 = .ok (.iadd, 1) := by decide +kernel
theorem dX7_keptOf_29 : decode cX7_keptOf 29 = .ok (.istore_n 3, 1) := by decide +kernel
theorem dX7_keptOf_30 : decode cX7_keptOf 30 = .ok (.iload_n 3, 1) := by decide +kernel
theorem dX7_keptOf_31 : decode cX7_keptOf 31 = .ok (.aload_n 0, 1) := by decide +kernel
theorem dX7_keptOf_32 : decode cX7_keptOf 32 = .ok (.getfield 43, 3) := by decide +kernel
theorem dX7_keptOf_35 : decode cX7_keptOf 35 = .ok (.arraylength, 1) := by decide +kernel
theorem dX7_keptOf_36 : decode cX7_keptOf 36 = .ok (.if_icmp .ge 12, 3) := by decide +kernel
theorem dX7_keptOf_39 : decode cX7_keptOf 39 = .ok (.aload_n 0, 1) := by decide +kernel
theorem dX7_keptOf_40 : decode cX7_keptOf 40 = .ok (.getfield 43, 3) := by decide +kernel
theorem dX7_keptOf_43 : decode cX7_keptOf 43 = .ok (.iload_n 3, 1) := by decide +kernel
theorem dX7_keptOf_44 : decode cX7_keptOf 44 = .ok (.iaload, 1) := by decide +kernel
theorem dX7_keptOf_45 : decode cX7_keptOf 45 = .ok (.goto 4, 3) := by decide +kernel
theorem dX7_keptOf_48 : decode cX7_keptOf 48 = .ok (.iconst 0, 1) := by decide +kernel
theorem dX7_keptOf_49 : decode cX7_keptOf 49 = .ok (.ireturn, 1) := by decide +kernel
theorem dX7_isThere_0 : decode cX7_isThere 0 = .ok (.iload_n 1, 1) := by decide +kernel
theorem dX7_isThere_1 : decode cX7_isThere 1 = .ok (.ifCond .lt 15, 3) := by decide +kernel
theorem dX7_isThere_4 : decode cX7_isThere 4 = .ok (.iload_n 1, 1) := by decide +kernel
theorem dX7_isThere_5 : decode cX7_isThere 5 = .ok (.aload_n 0, 1) := by decide +kernel
theorem dX7_isThere_6 : decode cX7_isThere 6 = .ok (.getfield 9, 3) := by decide +kernel
theorem dX7_isThere_9 : decode cX7_isThere 9 = .ok (.if_icmp .ge 7, 3) := by decide +kernel
theorem dX7_isThere_12 : decode cX7_isThere 12 = .ok (.iconst 1, 1) := by decide +kernel
theorem dX7_isThere_13 : decode cX7_isThere 13 = .ok (.goto 4, 3) := by decide +kernel
theorem dX7_isThere_16 : decode cX7_isThere 16 = .ok (.iconst 0, 1) := by decide +kernel
theorem dX7_isThere_17 : decode cX7_isThere 17 = .ok (.ireturn, 1) := by decide +kernel
theorem dX7_areTwo_0 : decode cX7_areTwo 0 = .ok (.aload_n 0, 1) := by decide +kernel
theorem dX7_areTwo_1 : decode cX7_areTwo 1 = .ok (.iload_n 1, 1) := by decide +kernel
theorem dX7_areTwo_2 : decode cX7_areTwo 2 = .ok (.invokevirtual 71, 3) := by decide +kernel
theorem dX7_areTwo_5 : decode cX7_areTwo 5 = .ok (.ifCond .eq 20, 3) := by decide +kernel
theorem dX7_areTwo_8 : decode cX7_areTwo 8 = .ok (.aload_n 0, 1) := by decide +kernel
theorem dX7_areTwo_9 : decode cX7_areTwo 9 = .ok (.iload_n 2, 1) := by decide +kernel
theorem dX7_areTwo_10 : decode cX7_areTwo 10 = .ok (.invokevirtual 71, 3) := by decide +kernel
theorem dX7_areTwo_13 : decode cX7_areTwo 13 = .ok (.ifCond .eq 12, 3) := by decide +kernel
theorem dX7_areTwo_16 : decode cX7_areTwo 16 = .ok (.iload_n 1, 1) := by decide +kernel
theorem dX7_areTwo_17 : decode cX7_areTwo 17 = .ok (.iload_n 2, 1) := by decide +kernel
theorem dX7_areTwo_18 : decode cX7_areTwo 18 = .ok (.if_icmp .eq 7, 3) := by decide +kernel
theorem dX7_areTwo_21 : decode cX7_areTwo 21 = .ok (.iconst 1, 1) := by decide +kernel
theorem dX7_areTwo_22 : decode cX7_areTwo 22 = .ok (.goto 4, 3) := by decide +kernel
theorem dX7_areTwo_25 : decode cX7_areTwo 25 = .ok (.iconst 0, 1) := by decide +kernel
theorem dX7_areTwo_26 : decode cX7_areTwo 26 = .ok (.ireturn, 1) := by decide +kernel
theorem dX7_heartOf_0 : decode cX7_heartOf 0 = .ok (.aload_n 0, 1) := by decide +kernel
theorem dX7_heartOf_1 : decode cX7_heartOf 1 = .ok (.getfield 25, 3) := by decide +kernel
theorem dX7_heartOf_4 : decode cX7_heartOf 4 = .ok (.iload_n 2, 1) := by decide +kernel
theorem dX7_heartOf_5 : decode cX7_heartOf 5 = .ok (.iaload, 1) := by decide +kernel
theorem dX7_heartOf_6 : decode cX7_heartOf 6 = .ok (.iload_n 1, 1) := by decide +kernel
theorem dX7_heartOf_7 : decode cX7_heartOf 7 = .ok (.ishr, 1) := by decide +kernel
theorem dX7_heartOf_8 : decode cX7_heartOf 8 = .ok (.iconst 1, 1) := by decide +kernel
theorem dX7_heartOf_9 : decode cX7_heartOf 9 = .ok (.iand, 1) := by decide +kernel
theorem dX7_heartOf_10 : decode cX7_heartOf 10 = .ok (.iconst 2, 1) := by decide +kernel
theorem dX7_heartOf_11 : decode cX7_heartOf 11 = .ok (.imul, 1) := by decide +kernel
theorem dX7_heartOf_12 : decode cX7_heartOf 12 = .ok (.istore_n 3, 1) := by decide +kernel
theorem dX7_heartOf_13 : decode cX7_heartOf 13 = .ok (.aload_n 0, 1) := by decide +kernel
theorem dX7_heartOf_14 : decode cX7_heartOf 14 = .ok (.getfield 18, 3) := by decide +kernel
theorem dX7_heartOf_17 : decode cX7_heartOf 17 = .ok (.iload_n 2, 1) := by decide +kernel
theorem dX7_heartOf_18 : decode cX7_heartOf 18 = .ok (.iaload, 1) := by decide +kernel
theorem dX7_heartOf_19 : decode cX7_heartOf 19 = .ok (.iload_n 3, 1) := by decide +kernel
theorem dX7_heartOf_20 : decode cX7_heartOf 20 = .ok (.iadd, 1) := by decide +kernel
theorem dX7_heartOf_21 : decode cX7_heartOf 21 = .ok (.aload_n 0, 1) := by decide +kernel
theorem dX7_heartOf_22 : decode cX7_heartOf 22 = .ok (.getfield 28, 3) := by decide +kernel
theorem dX7_heartOf_25 : decode cX7_heartOf 25 = .ok (.iload_n 1, 1) := by decide +kernel
theorem dX7_heartOf_26 : decode cX7_heartOf 26 = .ok (.bipush 6, 2) := by decide +kernel
theorem dX7_heartOf_28 : decode cX7_heartOf 28 = .ok (.imul, 1) := by decide +kernel
theorem dX7_heartOf_29 : decode cX7_heartOf 29 = .ok (.iload_n 2, 1) := by decide +kernel
theorem dX7_heartOf_30 : decode cX7_heartOf 30 = .ok (.iadd, 1) := by decide +kernel
theorem dX7_heartOf_31 : decode cX7_heartOf 31 = .ok (.iaload, 1) := by decide +kernel
theorem dX7_heartOf_32 : decode cX7_heartOf 32 = .ok (.iadd, 1) := by decide +kernel
theorem dX7_heartOf_33 : decode cX7_heartOf 33 = .ok (.ireturn, 1) := by decide +kernel
theorem dX7_reachOf_0 : decode cX7_reachOf 0 = .ok (.aload_n 0, 1) := by decide +kernel
theorem dX7_reachOf_1 : decode cX7_reachOf 1 = .ok (.iload_n 1, 1) := by decide +kernel
theorem dX7_reachOf_2 : decode cX7_reachOf 2 = .ok (.iload_n 2, 1) := by decide +kernel
theorem dX7_reachOf_3 : decode cX7_reachOf 3 = .ok (.invokevirtual 75, 3) := by decide +kernel
theorem dX7_reachOf_6 : decode cX7_reachOf 6 = .ok (.istore_n 3, 1) := by decide +kernel
theorem dX7_reachOf_7 : decode cX7_reachOf 7 = .ok (.iconst 0, 1) := by decide +kernel
theorem dX7_reachOf_8 : decode cX7_reachOf 8 = .ok (.istore 4, 2) := by decide +kernel
theorem dX7_reachOf_10 : decode cX7_reachOf 10 = .ok (.iconst 0, 1) := by decide +kernel
theorem dX7_reachOf_11 : decode cX7_reachOf 11 = .ok (.istore 5, 2) := by decide +kernel
theorem dX7_reachOf_13 : decode cX7_reachOf 13 = .ok (.iload 5, 2) := by decide +kernel
theorem dX7_reachOf_15 : decode cX7_reachOf 15 = .ok (.bipush 8, 2) := by decide +kernel
theorem dX7_reachOf_17 : decode cX7_reachOf 17 = .ok (.if_icmp .ge 29, 3) := by decide +kernel
theorem dX7_reachOf_20 : decode cX7_reachOf 20 = .ok (.iload_n 3, 1) := by decide +kernel
theorem dX7_reachOf_21 : decode cX7_reachOf 21 = .ok (.aload_n 0, 1) := by decide +kernel
theorem dX7_reachOf_22 : decode cX7_reachOf 22 = .ok (.getfield 31, 3) := by decide +kernel
theorem dX7_reachOf_25 : decode cX7_reachOf 25 = .ok (.iload 5, 2) := by decide +kernel
theorem dX7_reachOf_27 : decode cX7_reachOf 27 = .ok (.iaload, 1) := by decide +kernel
theorem dX7_reachOf_28 : decode cX7_reachOf 28 = .ok (.if_icmp .lt 12, 3) := by decide +kernel
theorem dX7_reachOf_31 : decode cX7_reachOf 31 = .ok (.iload 4, 2) := by decide +kernel
theorem dX7_reachOf_33 : decode cX7_reachOf 33 = .ok (.iconst 1, 1) := by decide +kernel
theorem dX7_reachOf_34 : decode cX7_reachOf 34 = .ok (.iload 5, 2) := by decide +kernel
theorem dX7_reachOf_36 : decode cX7_reachOf 36 = .ok (.ishl, 1) := by decide +kernel
theorem dX7_reachOf_37 : decode cX7_reachOf 37 = .ok (.ior, 1) := by decide +kernel
theorem dX7_reachOf_38 : decode cX7_reachOf 38 = .ok (.istore 4, 2) := by decide +kernel
theorem dX7_reachOf_40 : decode cX7_reachOf 40 = .ok (.iinc 5 1, 3) := by decide +kernel
theorem dX7_reachOf_43 : decode cX7_reachOf 43 = .ok (.goto (-30), 3) := by decide +kernel
theorem dX7_reachOf_46 : decode cX7_reachOf 46 = .ok (.iload 4, 2) := by decide +kernel
theorem dX7_reachOf_48 : decode cX7_reachOf 48 = .ok (.ireturn, 1) := by decide +kernel
theorem dX7_swornFor_0 : decode cX7_swornFor 0 = .ok (.iconst 0, 1) := by decide +kernel
theorem dX7_swornFor_1 : decode cX7_swornFor 1 = .ok (.istore_n 2, 1) := by decide +kernel
theorem dX7_swornFor_2 : decode cX7_swornFor 2 = .ok (.iconst 0, 1) := by decide +kernel
theorem dX7_swornFor_3 : decode cX7_swornFor 3 = .ok (.istore_n 3, 1) := by decide +kernel
theorem dX7_swornFor_4 : decode cX7_swornFor 4 = .ok (.iload_n 3, 1) := by decide +kernel
theorem dX7_swornFor_5 : decode cX7_swornFor 5 = .ok (.aload_n 0, 1) := by decide +kernel
theorem dX7_swornFor_6 : decode cX7_swornFor 6 = .ok (.getfield 15, 3) := by decide +kernel
theorem dX7_swornFor_9 : decode cX7_swornFor 9 = .ok (.if_icmp .ge 30, 3) := by decide +kernel
theorem dX7_swornFor_12 : decode cX7_swornFor 12 = .ok (.aload_n 0, 1) := by decide +kernel
theorem dX7_swornFor_13 : decode cX7_swornFor 13 = .ok (.getfield 37, 3) := by decide +kernel
theorem dX7_swornFor_16 : decode cX7_swornFor 16 = .ok (.iload_n 3, 1) := by decide +kernel
theorem dX7_swornFor_17 : decode cX7_swornFor 17 = .ok (.iaload, 1) := by decide +kernel
theorem dX7_swornFor_18 : decode cX7_swornFor 18 = .ok (.iload_n 1, 1) := by decide +kernel
theorem dX7_swornFor_19 : decode cX7_swornFor 19 = .ok (.if_icmp .ne 14, 3) := by decide +kernel
theorem dX7_swornFor_22 : decode cX7_swornFor 22 = .ok (.iload_n 2, 1) := by decide +kernel
theorem dX7_swornFor_23 : decode cX7_swornFor 23 = .ok (.iconst 1, 1) := by decide +kernel
theorem dX7_swornFor_24 : decode cX7_swornFor 24 = .ok (.aload_n 0, 1) := by decide +kernel
theorem dX7_swornFor_25 : decode cX7_swornFor 25 = .ok (.getfield 40, 3) := by decide +kernel
theorem dX7_swornFor_28 : decode cX7_swornFor 28 = .ok (.iload_n 3, 1) := by decide +kernel
theorem dX7_swornFor_29 : decode cX7_swornFor 29 = .ok (.iaload, 1) := by decide +kernel
theorem dX7_swornFor_30 : decode cX7_swornFor 30 = .ok (.ishl, 1) := by decide +kernel
theorem dX7_swornFor_31 : decode cX7_swornFor 31 = .ok (.ior, 1) := by decide +kernel
theorem dX7_swornFor_32 : decode cX7_swornFor 32 = .ok (.istore_n 2, 1) := by decide +kernel
theorem dX7_swornFor_33 : decode cX7_swornFor 33 = .ok (.iinc 3 1, 3) := by decide +kernel
theorem dX7_swornFor_36 : decode cX7_swornFor 36 = .ok (.goto (-32), 3) := by decide +kernel
theorem dX7_swornFor_39 : decode cX7_swornFor 39 = .ok (.iload_n 2, 1) := by decide +kernel
theorem dX7_swornFor_40 : decode cX7_swornFor 40 = .ok (.ireturn, 1) := by decide +kernel
theorem dX7_openTo_0 : decode cX7_openTo 0 = .ok (.iconst 0, 1) := by decide +kernel
theorem dX7_openTo_1 : decode cX7_openTo 1 = .ok (.istore_n 3, 1) := by decide +kernel
theorem dX7_openTo_2 : decode cX7_openTo 2 = .ok (.iconst 0, 1) := by decide +kernel
theorem dX7_openTo_3 : decode cX7_openTo 3 = .ok (.istore 4, 2) := by decide +kernel
theorem dX7_openTo_5 : decode cX7_openTo 5 = .ok (.iload 4, 2) := by decide +kernel
theorem dX7_openTo_7 : decode cX7_openTo 7 = .ok (.aload_n 0, 1) := by decide +kernel
theorem dX7_openTo_8 : decode cX7_openTo 8 = .ok (.getfield 15, 3) := by decide +kernel
theorem dX7_openTo_11 : decode cX7_openTo 11 = .ok (.if_icmp .ge 94, 3) := by decide +kernel
theorem dX7_openTo_14 : decode cX7_openTo 14 = .ok (.aload_n 0, 1) := by decide +kernel
theorem dX7_openTo_15 : decode cX7_openTo 15 = .ok (.getfield 37, 3) := by decide +kernel
theorem dX7_openTo_18 : decode cX7_openTo 18 = .ok (.iload 4, 2) := by decide +kernel
theorem dX7_openTo_20 : decode cX7_openTo 20 = .ok (.iaload, 1) := by decide +kernel
theorem dX7_openTo_21 : decode cX7_openTo 21 = .ok (.iload_n 1, 1) := by decide +kernel
theorem dX7_openTo_22 : decode cX7_openTo 22 = .ok (.if_icmp .ne 30, 3) := by decide +kernel
theorem dX7_openTo_25 : decode cX7_openTo 25 = .ok (.iload_n 2, 1) := by decide +kernel
theorem dX7_openTo_26 : decode cX7_openTo 26 = .ok (.iload 4, 2) := by decide +kernel
theorem dX7_openTo_28 : decode cX7_openTo 28 = .ok (.invokestatic 79, 3) := by decide +kernel
theorem dX7_openTo_31 : decode cX7_openTo 31 = .ok (.ifCond .ne 21, 3) := by decide +kernel
theorem dX7_openTo_34 : decode cX7_openTo 34 = .ok (.iload_n 3, 1) := by decide +kernel
theorem dX7_openTo_35 : decode cX7_openTo 35 = .ok (.aload_n 0, 1) := by decide +kernel
theorem dX7_openTo_36 : decode cX7_openTo 36 = .ok (.getfield 40, 3) := by decide +kernel
theorem dX7_openTo_39 : decode cX7_openTo 39 = .ok (.iload 4, 2) := by decide +kernel
theorem dX7_openTo_41 : decode cX7_openTo 41 = .ok (.iaload, 1) := by decide +kernel
theorem dX7_openTo_42 : decode cX7_openTo 42 = .ok (.invokestatic 79, 3) := by decide +kernel
theorem dX7_openTo_45 : decode cX7_openTo 45 = .ok (.ifCond .ne 7, 3) := by decide +kernel
theorem dX7_openTo_48 : decode cX7_openTo 48 = .ok (.iconst 1, 1) := by decide +kernel
theorem dX7_openTo_49 : decode cX7_openTo 49 = .ok (.goto 4, 3) := by decide +kernel
theorem dX7_openTo_52 : decode cX7_openTo 52 = .ok (.iconst 0, 1) := by decide +kernel
theorem dX7_openTo_53 : decode cX7_openTo 53 = .ok (.istore 5, 2) := by decide +kernel
theorem dX7_openTo_55 : decode cX7_openTo 55 = .ok (.iload 5, 2) := by decide +kernel
theorem dX7_openTo_57 : decode cX7_openTo 57 = .ok (.ifCond .eq 42, 3) := by decide +kernel
theorem dX7_openTo_60 : decode cX7_openTo 60 = .ok (.aload_n 0, 1) := by decide +kernel
theorem dX7_openTo_61 : decode cX7_openTo 61 = .ok (.aload_n 0, 1) := by decide +kernel
theorem dX7_openTo_62 : decode cX7_openTo 62 = .ok (.getfield 34, 3) := by decide +kernel
theorem dX7_openTo_65 : decode cX7_openTo 65 = .ok (.iload 4, 2) := by decide +kernel
theorem dX7_openTo_67 : decode cX7_openTo 67 = .ok (.iaload, 1) := by decide +kernel
theorem dX7_openTo_68 : decode cX7_openTo 68 = .ok (.iload_n 1, 1) := by decide +kernel
theorem dX7_openTo_69 : decode cX7_openTo 69 = .ok (.invokevirtual 75, 3) := by decide +kernel
theorem dX7_openTo_72 : decode cX7_openTo 72 = .ok (.aload_n 0, 1) := by decide +kernel
theorem dX7_openTo_73 : decode cX7_openTo 73 = .ok (.getfield 31, 3) := by decide +kernel
theorem dX7_openTo_76 : decode cX7_openTo 76 = .ok (.aload_n 0, 1) := by decide +kernel
theorem dX7_openTo_77 : decode cX7_openTo 77 = .ok (.getfield 40, 3) := by decide +kernel
theorem dX7_openTo_80 : decode cX7_openTo 80 = .ok (.iload 4, 2) := by decide +kernel
theorem dX7_openTo_82 : decode cX7_openTo 82 = .ok (.iaload, 1) := by decide +kernel
theorem dX7_openTo_83 : decode cX7_openTo 83 = .ok (.iaload, 1) := by decide +kernel
theorem dX7_openTo_84 : decode cX7_openTo 84 = .ok (.if_icmp .lt 15, 3) := by decide +kernel
theorem dX7_openTo_87 : decode cX7_openTo 87 = .ok (.iload_n 3, 1) := by decide +kernel
theorem dX7_openTo_88 : decode cX7_openTo 88 = .ok (.iconst 1, 1) := by decide +kernel
theorem dX7_openTo_89 : decode cX7_openTo 89 = .ok (.aload_n 0, 1) := by decide +kernel
theorem dX7_openTo_90 : decode cX7_openTo 90 = .ok (.getfield 40, 3) := by decide +kernel
theorem dX7_openTo_93 : decode cX7_openTo 93 = .ok (.iload 4, 2) := by decide +kernel
theorem dX7_openTo_95 : decode cX7_openTo 95 = .ok (.iaload, 1) := by decide +kernel
theorem dX7_openTo_96 : decode cX7_openTo 96 = .ok (.ishl, 1) := by decide +kernel
theorem dX7_openTo_97 : decode cX7_openTo 97 = .ok (.ior, 1) := by decide +kernel
theorem dX7_openTo_98 : decode cX7_openTo 98 = .ok (.istore_n 3, 1) := by decide +kernel
theorem dX7_openTo_99 : decode cX7_openTo 99 = .ok (.iinc 4 1, 3) := by decide +kernel
theorem dX7_openTo_102 : decode cX7_openTo 102 = .ok (.goto (-97), 3) := by decide +kernel
theorem dX7_openTo_105 : decode cX7_openTo 105 = .ok (.iload_n 3, 1) := by decide +kernel
theorem dX7_openTo_106 : decode cX7_openTo 106 = .ok (.ireturn, 1) := by decide +kernel
theorem dX7_keptBy_0 : decode cX7_keptBy 0 = .ok (.aload_n 0, 1) := by decide +kernel
theorem dX7_keptBy_1 : decode cX7_keptBy 1 = .ok (.aload_n 0, 1) := by decide +kernel
theorem dX7_keptBy_2 : decode cX7_keptBy 2 = .ok (.iload_n 1, 1) := by decide +kernel
theorem dX7_keptBy_3 : decode cX7_keptBy 3 = .ok (.iconst 0, 1) := by decide +kernel
theorem dX7_keptBy_4 : decode cX7_keptBy 4 = .ok (.invokevirtual 83, 3) := by decide +kernel
theorem dX7_keptBy_7 : decode cX7_keptBy 7 = .ok (.aload_n 0, 1) := by decide +kernel
theorem dX7_keptBy_8 : decode cX7_keptBy 8 = .ok (.getfield 22, 3) := by decide +kernel
theorem dX7_keptBy_11 : decode cX7_keptBy 11 = .ok (.iload_n 1, 1) := by decide +kernel
theorem dX7_keptBy_12 : decode cX7_keptBy 12 = .ok (.iaload, 1) := by decide +kernel
theorem dX7_keptBy_13 : decode cX7_keptBy 13 = .ok (.invokevirtual 86, 3) := by decide +kernel
theorem dX7_keptBy_16 : decode cX7_keptBy 16 = .ok (.ireturn, 1) := by decide +kernel
theorem dX7_brokenOaths_0 : decode cX7_brokenOaths 0 = .ok (.iconst 0, 1) := by decide +kernel
theorem dX7_brokenOaths_1 : decode cX7_brokenOaths 1 = .ok (.istore_n 2, 1) := by decide +kernel
theorem dX7_brokenOaths_2 : decode cX7_brokenOaths 2 = .ok (.iconst 0, 1) := by decide +kernel
theorem dX7_brokenOaths_3 : decode cX7_brokenOaths 3 = .ok (.istore_n 3, 1) := by decide +kernel
theorem dX7_brokenOaths_4 : decode cX7_brokenOaths 4 = .ok (.iload_n 3, 1) := by decide +kernel
theorem dX7_brokenOaths_5 : decode cX7_brokenOaths 5 = .ok (.aload_n 0, 1) := by decide +kernel
theorem dX7_brokenOaths_6 : decode cX7_brokenOaths 6 = .ok (.getfield 9, 3) := by decide +kernel
theorem dX7_brokenOaths_9 : decode cX7_brokenOaths 9 = .ok (.if_icmp .ge 78, 3) := by decide +kernel
theorem dX7_brokenOaths_12 : decode cX7_brokenOaths 12 = .ok (.aload_n 0, 1) := by decide +kernel
theorem dX7_brokenOaths_13 : decode cX7_brokenOaths 13 = .ok (.aload_n 0, 1) := by decide +kernel
theorem dX7_brokenOaths_14 : decode cX7_brokenOaths 14 = .ok (.iload_n 3, 1) := by decide +kernel
theorem dX7_brokenOaths_15 : decode cX7_brokenOaths 15 = .ok (.iload_n 1, 1) := by decide +kernel
theorem dX7_brokenOaths_16 : decode cX7_brokenOaths 16 = .ok (.invokevirtual 83, 3) := by decide +kernel
theorem dX7_brokenOaths_19 : decode cX7_brokenOaths 19 = .ok (.aload_n 0, 1) := by decide +kernel
theorem dX7_brokenOaths_20 : decode cX7_brokenOaths 20 = .ok (.getfield 22, 3) := by decide +kernel
theorem dX7_brokenOaths_23 : decode cX7_brokenOaths 23 = .ok (.iload_n 3, 1) := by decide +kernel
theorem dX7_brokenOaths_24 : decode cX7_brokenOaths 24 = .ok (.iaload, 1) := by decide +kernel
theorem dX7_brokenOaths_25 : decode cX7_brokenOaths 25 = .ok (.invokevirtual 86, 3) := by decide +kernel
theorem dX7_brokenOaths_28 : decode cX7_brokenOaths 28 = .ok (.istore 4, 2) := by decide +kernel
theorem dX7_brokenOaths_30 : decode cX7_brokenOaths 30 = .ok (.iconst 0, 1) := by decide +kernel
theorem dX7_brokenOaths_31 : decode cX7_brokenOaths 31 = .ok (.istore 5, 2) := by decide +kernel
theorem dX7_brokenOaths_33 : decode cX7_brokenOaths 33 = .ok (.iload 5, 2) := by decide +kernel
theorem dX7_brokenOaths_35 : decode cX7_brokenOaths 35 = .ok (.aload_n 0, 1) := by decide +kernel
theorem dX7_brokenOaths_36 : decode cX7_brokenOaths 36 = .ok (.getfield 15, 3) := by decide +kernel
theorem dX7_brokenOaths_39 : decode cX7_brokenOaths 39 = .ok (.if_icmp .ge 42, 3) := by decide +kernel
theorem dX7_brokenOaths_42 : decode cX7_brokenOaths 42 = .ok (.aload_n 0, 1) := by decide +kernel
theorem dX7_brokenOaths_43 : decode cX7_brokenOaths 43 = .ok (.getfield 37, 3) := by decide +kernel
theorem dX7_brokenOaths_46 : decode cX7_brokenOaths 46 = .ok (.iload 5, 2) := by decide +kernel
theorem dX7_brokenOaths_48 : decode cX7_brokenOaths 48 = .ok (.iaload, 1) := by decide +kernel
theorem dX7_brokenOaths_49 : decode cX7_brokenOaths 49 = .ok (.iload_n 3, 1) := by decide +kernel
theorem dX7_brokenOaths_50 : decode cX7_brokenOaths 50 = .ok (.if_icmp .ne 25, 3) := by decide +kernel
theorem dX7_brokenOaths_53 : decode cX7_brokenOaths 53 = .ok (.iload 4, 2) := by decide +kernel
theorem dX7_brokenOaths_55 : decode cX7_brokenOaths 55 = .ok (.aload_n 0, 1) := by decide +kernel
theorem dX7_brokenOaths_56 : decode cX7_brokenOaths 56 = .ok (.getfield 40, 3) := by decide +kernel
theorem dX7_brokenOaths_59 : decode cX7_brokenOaths 59 = .ok (.iload 5, 2) := by decide +kernel
theorem dX7_brokenOaths_61 : decode cX7_brokenOaths 61 = .ok (.iaload, 1) := by decide +kernel
theorem dX7_brokenOaths_62 : decode cX7_brokenOaths 62 = .ok (.invokestatic 79, 3) := by decide +kernel
theorem dX7_brokenOaths_65 : decode cX7_brokenOaths 65 = .ok (.ifCond .ne 10, 3) := by decide +kernel
theorem dX7_brokenOaths_68 : decode cX7_brokenOaths 68 = .ok (.iload_n 2, 1) := by decide +kernel
theorem dX7_brokenOaths_69 : decode cX7_brokenOaths 69 = .ok (.iconst 1, 1) := by decide +kernel
theorem dX7_brokenOaths_70 : decode cX7_brokenOaths 70 = .ok (.iload 5, 2) := by decide +kernel
theorem dX7_brokenOaths_72 : decode cX7_brokenOaths 72 = .ok (.ishl, 1) := by decide +kernel
theorem dX7_brokenOaths_73 : decode cX7_brokenOaths 73 = .ok (.ior, 1) := by decide +kernel
theorem dX7_brokenOaths_74 : decode cX7_brokenOaths 74 = .ok (.istore_n 2, 1) := by decide +kernel
theorem dX7_brokenOaths_75 : decode cX7_brokenOaths 75 = .ok (.iinc 5 1, 3) := by decide +kernel
theorem dX7_brokenOaths_78 : decode cX7_brokenOaths 78 = .ok (.goto (-45), 3) := by decide +kernel
theorem dX7_brokenOaths_81 : decode cX7_brokenOaths 81 = .ok (.iinc 3 1, 3) := by decide +kernel
theorem dX7_brokenOaths_84 : decode cX7_brokenOaths 84 = .ok (.goto (-80), 3) := by decide +kernel
theorem dX7_brokenOaths_87 : decode cX7_brokenOaths 87 = .ok (.iload_n 2, 1) := by decide +kernel
theorem dX7_brokenOaths_88 : decode cX7_brokenOaths 88 = .ok (.iload_n 1, 1) := by decide +kernel
theorem dX7_brokenOaths_89 : decode cX7_brokenOaths 89 = .ok (.iconst (-1), 1) := by decide +kernel
theorem dX7_brokenOaths_90 : decode cX7_brokenOaths 90 = .ok (.ixor, 1) := by decide +kernel
theorem dX7_brokenOaths_91 : decode cX7_brokenOaths 91 = .ok (.iand, 1) := by decide +kernel
theorem dX7_brokenOaths_92 : decode cX7_brokenOaths 92 = .ok (.ireturn, 1) := by decide +kernel
theorem dX7_swearersOf_0 : decode cX7_swearersOf 0 = .ok (.iconst 0, 1) := by decide +kernel
theorem dX7_swearersOf_1 : decode cX7_swearersOf 1 = .ok (.istore_n 2, 1) := by decide +kernel
theorem dX7_swearersOf_2 : decode cX7_swearersOf 2 = .ok (.iconst 0, 1) := by decide +kernel
theorem dX7_swearersOf_3 : decode cX7_swearersOf 3 = .ok (.istore_n 3, 1) := by decide +kernel
theorem dX7_swearersOf_4 : decode cX7_swearersOf 4 = .ok (.iload_n 3, 1) := by decide +kernel
theorem dX7_swearersOf_5 : decode cX7_swearersOf 5 = .ok (.aload_n 0, 1) := by decide +kernel
theorem dX7_swearersOf_6 : decode cX7_swearersOf 6 = .ok (.getfield 15, 3) := by decide +kernel
theorem dX7_swearersOf_9 : decode cX7_swearersOf 9 = .ok (.if_icmp .ge 28, 3) := by decide +kernel
theorem dX7_swearersOf_12 : decode cX7_swearersOf 12 = .ok (.iload_n 1, 1) := by decide +kernel
theorem dX7_swearersOf_13 : decode cX7_swearersOf 13 = .ok (.iload_n 3, 1) := by decide +kernel
theorem dX7_swearersOf_14 : decode cX7_swearersOf 14 = .ok (.invokestatic 79, 3) := by decide +kernel
theorem dX7_swearersOf_17 : decode cX7_swearersOf 17 = .ok (.ifCond .eq 14, 3) := by decide +kernel
theorem dX7_swearersOf_20 : decode cX7_swearersOf 20 = .ok (.iload_n 2, 1) := by decide +kernel
theorem dX7_swearersOf_21 : decode cX7_swearersOf 21 = .ok (.iconst 1, 1) := by decide +kernel
theorem dX7_swearersOf_22 : decode cX7_swearersOf 22 = .ok (.aload_n 0, 1) := by decide +kernel
theorem dX7_swearersOf_23 : decode cX7_swearersOf 23 = .ok (.getfield 34, 3) := by decide +kernel
theorem dX7_swearersOf_26 : decode cX7_swearersOf 26 = .ok (.iload_n 3, 1) := by decide +kernel
theorem dX7_swearersOf_27 : decode cX7_swearersOf 27 = .ok (.iaload, 1) := by decide +kernel
theorem dX7_swearersOf_28 : decode cX7_swearersOf 28 = .ok (.ishl, 1) := by decide +kernel
theorem dX7_swearersOf_29 : decode cX7_swearersOf 29 = .ok (.ior, 1) := by decide +kernel
theorem dX7_swearersOf_30 : decode cX7_swearersOf 30 = .ok (.istore_n 2, 1) := by decide +kernel
theorem dX7_swearersOf_31 : decode cX7_swearersOf 31 = .ok (.iinc 3 1, 3) := by decide +kernel
theorem dX7_swearersOf_34 : decode cX7_swearersOf 34 = .ok (.goto (-30), 3) := by decide +kernel
theorem dX7_swearersOf_37 : decode cX7_swearersOf 37 = .ok (.iload_n 2, 1) := by decide +kernel
theorem dX7_swearersOf_38 : decode cX7_swearersOf 38 = .ok (.ireturn, 1) := by decide +kernel
theorem dX7_hasOath_0 : decode cX7_hasOath 0 = .ok (.iconst 0, 1) := by decide +kernel
theorem dX7_hasOath_1 : decode cX7_hasOath 1 = .ok (.istore 4, 2) := by decide +kernel
theorem dX7_hasOath_3 : decode cX7_hasOath 3 = .ok (.iload 4, 2) := by decide +kernel
theorem dX7_hasOath_5 : decode cX7_hasOath 5 = .ok (.aload_n 0, 1) := by decide +kernel
theorem dX7_hasOath_6 : decode cX7_hasOath 6 = .ok (.getfield 15, 3) := by decide +kernel
theorem dX7_hasOath_9 : decode cX7_hasOath 9 = .ok (.if_icmp .ge 44, 3) := by decide +kernel
theorem dX7_hasOath_12 : decode cX7_hasOath 12 = .ok (.aload_n 0, 1) := by decide +kernel
theorem dX7_hasOath_13 : decode cX7_hasOath 13 = .ok (.getfield 34, 3) := by decide +kernel
theorem dX7_hasOath_16 : decode cX7_hasOath 16 = .ok (.iload 4, 2) := by decide +kernel
theorem dX7_hasOath_18 : decode cX7_hasOath 18 = .ok (.iaload, 1) := by decide +kernel
theorem dX7_hasOath_19 : decode cX7_hasOath 19 = .ok (.iload_n 1, 1) := by decide +kernel
theorem dX7_hasOath_20 : decode cX7_hasOath 20 = .ok (.if_icmp .ne 27, 3) := by decide +kernel
theorem dX7_hasOath_23 : decode cX7_hasOath 23 = .ok (.aload_n 0, 1) := by decide +kernel
theorem dX7_hasOath_24 : decode cX7_hasOath 24 = .ok (.getfield 37, 3) := by decide +kernel
theorem dX7_hasOath_27 : decode cX7_hasOath 27 = .ok (.iload 4, 2) := by decide +kernel
theorem dX7_hasOath_29 : decode cX7_hasOath 29 = .ok (.iaload, 1) := by decide +kernel
theorem dX7_hasOath_30 : decode cX7_hasOath 30 = .ok (.iload_n 2, 1) := by decide +kernel
theorem dX7_hasOath_31 : decode cX7_hasOath 31 = .ok (.if_icmp .ne 16, 3) := by decide +kernel
theorem dX7_hasOath_34 : decode cX7_hasOath 34 = .ok (.aload_n 0, 1) := by decide +kernel
theorem dX7_hasOath_35 : decode cX7_hasOath 35 = .ok (.getfield 40, 3) := by decide +kernel
theorem dX7_hasOath_38 : decode cX7_hasOath 38 = .ok (.iload 4, 2) := by decide +kernel
theorem dX7_hasOath_40 : decode cX7_hasOath 40 = .ok (.iaload, 1) := by decide +kernel
theorem dX7_hasOath_41 : decode cX7_hasOath 41 = .ok (.iload_n 3, 1) := by decide +kernel
theorem dX7_hasOath_42 : decode cX7_hasOath 42 = .ok (.if_icmp .ne 5, 3) := by decide +kernel
theorem dX7_hasOath_45 : decode cX7_hasOath 45 = .ok (.iconst 1, 1) := by decide +kernel
theorem dX7_hasOath_46 : decode cX7_hasOath 46 = .ok (.ireturn, 1) := by decide +kernel
theorem dX7_hasOath_47 : decode cX7_hasOath 47 = .ok (.iinc 4 1, 3) := by decide +kernel
theorem dX7_hasOath_50 : decode cX7_hasOath 50 = .ok (.goto (-47), 3) := by decide +kernel
theorem dX7_hasOath_53 : decode cX7_hasOath 53 = .ok (.iconst 0, 1) := by decide +kernel
theorem dX7_hasOath_54 : decode cX7_hasOath 54 = .ok (.ireturn, 1) := by decide +kernel
theorem dX10_init_0 : decode cX10_init 0 = .ok (.aload_n 0, 1) := by decide +kernel
theorem dX10_init_1 : decode cX10_init 1 = .ok (.invokespecial 3, 3) := by decide +kernel
theorem dX10_init_4 : decode cX10_init 4 = .ok (.aload_n 0, 1) := by decide +kernel
theorem dX10_init_5 : decode cX10_init 5 = .ok (.iconst 0, 1) := by decide +kernel
theorem dX10_init_6 : decode cX10_init 6 = .ok (.putfield 9, 3) := by decide +kernel
theorem dX10_init_9 : decode cX10_init 9 = .ok (.aload_n 0, 1) := by decide +kernel
theorem dX10_init_10 : decode cX10_init 10 = .ok (.iconst (-1), 1) := by decide +kernel
theorem dX10_init_11 : decode cX10_init 11 = .ok (.putfield 15, 3) := by decide +kernel
theorem dX10_init_14 : decode cX10_init 14 = .ok (.aload_n 0, 1) := by decide +kernel
theorem dX10_init_15 : decode cX10_init 15 = .ok (.iconst 0, 1) := by decide +kernel
theorem dX10_init_16 : decode cX10_init 16 = .ok (.putfield 18, 3) := by decide +kernel
theorem dX10_init_19 : decode cX10_init 19 = .ok (.aload_n 0, 1) := by decide +kernel
theorem dX10_init_20 : decode cX10_init 20 = .ok (.iconst 1, 1) := by decide +kernel
theorem dX10_init_21 : decode cX10_init 21 = .ok (.putfield 21, 3) := by decide +kernel
theorem dX10_init_24 : decode cX10_init 24 = .ok (.aload_n 0, 1) := by decide +kernel
theorem dX10_init_25 : decode cX10_init 25 = .ok (.aconst_null, 1) := by decide +kernel
theorem dX10_init_26 : decode cX10_init 26 = .ok (.putfield 24, 3) := by decide +kernel
theorem dX10_init_29 : decode cX10_init 29 = .ok (.aload_n 0, 1) := by decide +kernel
theorem dX10_init_30 : decode cX10_init 30 = .ok (.iconst 0, 1) := by decide +kernel
theorem dX10_init_31 : decode cX10_init 31 = .ok (.putfield 28, 3) := by decide +kernel
theorem dX10_init_34 : decode cX10_init 34 = .ok (.aload_n 0, 1) := by decide +kernel
theorem dX10_init_35 : decode cX10_init 35 = .ok (.iconst 0, 1) := by decide +kernel
theorem dX10_init_36 : decode cX10_init 36 = .ok (.putfield 31, 3) := by decide +kernel
theorem dX10_init_39 : decode cX10_init 39 = .ok (.aload_n 0, 1) := by decide +kernel
theorem dX10_init_40 : decode cX10_init 40 = .ok (.iconst 0, 1) := by decide +kernel
theorem dX10_init_41 : decode cX10_init 41 = .ok (.putfield 34, 3) := by decide +kernel
theorem dX10_init_44 : decode cX10_init 44 = .ok (.aload_n 0, 1) := by decide +kernel
theorem dX10_init_45 : decode cX10_init 45 = .ok (.iconst 0, 1) := by decide +kernel
theorem dX10_init_46 : decode cX10_init 46 = .ok (.putfield 37, 3) := by decide +kernel
theorem dX10_init_49 : decode cX10_init 49 = .ok (.aload_n 0, 1) := by decide +kernel
theorem dX10_init_50 : decode cX10_init 50 = .ok (.bipush 7, 2) := by decide +kernel
theorem dX10_init_52 : decode cX10_init 52 = .ok (.newarray .int, 2) := by decide +kernel
theorem dX10_init_54 : decode cX10_init 54 = .ok (.putfield 40, 3) := by decide +kernel
theorem dX10_init_57 : decode cX10_init 57 = .ok (.return_, 1) := by decide +kernel
theorem dX10_play_0 : decode cX10_play 0 = .ok (.aload_n 0, 1) := by decide +kernel
theorem dX10_play_1 : decode cX10_play 1 = .ok (.aload_n 1, 1) := by decide +kernel
theorem dX10_play_2 : decode cX10_play 2 = .ok (.putfield 24, 3) := by decide +kernel
theorem dX10_play_5 : decode cX10_play 5 = .ok (.aload_n 0, 1) := by decide +kernel
theorem dX10_play_6 : decode cX10_play 6 = .ok (.iload_n 2, 1) := by decide +kernel
theorem dX10_play_7 : decode cX10_play 7 = .ok (.putfield 28, 3) := by decide +kernel
theorem dX10_play_10 : decode cX10_play 10 = .ok (.aload_n 0, 1) := by decide +kernel
theorem dX10_play_11 : decode cX10_play 11 = .ok (.iload_n 3, 1) := by decide +kernel
theorem dX10_play_12 : decode cX10_play 12 = .ok (.putfield 31, 3) := by decide +kernel
theorem dX10_play_15 : decode cX10_play 15 = .ok (.aload_n 0, 1) := by decide +kernel
theorem dX10_play_16 : decode cX10_play 16 = .ok (.aload_n 1, 1) := by decide +kernel
theorem dX10_play_17 : decode cX10_play 17 = .ok (.iload_n 3, 1) := by decide +kernel
theorem dX10_play_18 : decode cX10_play 18 = .ok (.iload_n 2, 1) := by decide +kernel
theorem dX10_play_19 : decode cX10_play 19 = .ok (.invokevirtual 44, 3) := by decide +kernel
theorem dX10_play_22 : decode cX10_play 22 = .ok (.putfield 34, 3) := by decide +kernel
theorem dX10_play_25 : decode cX10_play 25 = .ok (.aload_n 0, 1) := by decide +kernel
theorem dX10_play_26 : decode cX10_play 26 = .ok (.aload_n 1, 1) := by decide +kernel
theorem dX10_play_27 : decode cX10_play 27 = .ok (.iload_n 2, 1) := by decide +kernel
theorem dX10_play_28 : decode cX10_play 28 = .ok (.iload_n 3, 1) := by decide +kernel
theorem dX10_play_29 : decode cX10_play 29 = .ok (.invokevirtual 44, 3) := by decide +kernel
theorem dX10_play_32 : decode cX10_play 32 = .ok (.putfield 37, 3) := by decide +kernel
theorem dX10_play_35 : decode cX10_play 35 = .ok (.aload_n 1, 1) := by decide +kernel
theorem dX10_play_36 : decode cX10_play 36 = .ok (.iload_n 2, 1) := by decide +kernel
theorem dX10_play_37 : decode cX10_play 37 = .ok (.iconst 0, 1) := by decide +kernel
theorem dX10_play_38 : decode cX10_play 38 = .ok (.invokevirtual 50, 3) := by decide +kernel
theorem dX10_play_41 : decode cX10_play 41 = .ok (.istore 5, 2) := by decide +kernel
theorem dX10_play_43 : decode cX10_play 43 = .ok (.aload_n 1, 1) := by decide +kernel
theorem dX10_play_44 : decode cX10_play 44 = .ok (.iload_n 3, 1) := by decide +kernel
theorem dX10_play_45 : decode cX10_play 45 = .ok (.iconst 0, 1) := by decide +kernel
theorem dX10_play_46 : decode cX10_play 46 = .ok (.invokevirtual 50, 3) := by decide +kernel
theorem dX10_play_49 : decode cX10_play 49 = .ok (.istore 6, 2) := by decide +kernel
theorem dX10_play_51 : decode cX10_play 51 = .ok (.aload_n 0, 1) := by decide +kernel
theorem dX10_play_52 : decode cX10_play 52 = .ok (.aload_n 0, 1) := by decide +kernel
theorem dX10_play_53 : decode cX10_play 53 = .ok (.iload 4, 2) := by decide +kernel
theorem dX10_play_55 : decode cX10_play 55 = .ok (.iload 5, 2) := by decide +kernel
theorem dX10_play_57 : decode cX10_play 57 = .ok (.iload 6, 2) := by decide +kernel
theorem dX10_play_59 : decode cX10_play 59 = .ok (.invokevirtual 53, 3) := by decide +kernel
theorem dX10_play_62 : decode cX10_play 62 = .ok (.putfield 9, 3) := by decide +kernel
theorem dX10_play_65 : decode cX10_play 65 = .ok (.aload_n 0, 1) := by decide +kernel
theorem dX10_play_66 : decode cX10_play 66 = .ok (.iconst (-1), 1) := by decide +kernel
theorem dX10_play_67 : decode cX10_play 67 = .ok (.putfield 15, 3) := by decide +kernel
theorem dX10_play_70 : decode cX10_play 70 = .ok (.iconst 0, 1) := by decide +kernel
theorem dX10_play_71 : decode cX10_play 71 = .ok (.istore 7, 2) := by decide +kernel
theorem dX10_play_73 : decode cX10_play 73 = .ok (.iload 7, 2) := by decide +kernel
theorem dX10_play_75 : decode cX10_play 75 = .ok (.bipush 8, 2) := by decide +kernel
theorem dX10_play_77 : decode cX10_play 77 = .ok (.if_icmp .gt 61, 3) := by decide +kernel
theorem dX10_play_80 : decode cX10_play 80 = .ok (.iload 4, 2) := by decide +kernel
theorem dX10_play_82 : decode cX10_play 82 = .ok (.ifCond .le 56, 3) := by decide +kernel
theorem dX10_play_85 : decode cX10_play 85 = .ok (.aload_n 0, 1) := by decide +kernel
theorem dX10_play_86 : decode cX10_play 86 = .ok (.getfield 15, 3) := by decide +kernel
theorem dX10_play_89 : decode cX10_play 89 = .ok (.iconst (-1), 1) := by decide +kernel
theorem dX10_play_90 : decode cX10_play 90 = .ok (.if_icmp .ne 48, 3) := by decide +kernel
theorem dX10_play_93 : decode cX10_play 93 = .ok (.iload 6, 2) := by decide +kernel
theorem dX10_play_95 : decode cX10_play 95 = .ok (.aload_n 0, 1) := by decide +kernel
theorem dX10_play_96 : decode cX10_play 96 = .ok (.getfield 37, 3) := by decide +kernel
theorem dX10_play_99 : decode cX10_play 99 = .ok (.iconst 1, 1) := by decide +kernel
theorem dX10_play_100 : decode cX10_play 100 = .ok (.iload 7, 2) := by decide +kernel
theorem dX10_play_102 : decode cX10_play 102 = .ok (.ishl, 1) := by decide +kernel
theorem dX10_play_103 : decode cX10_play 103 = .ok (.iand, 1) := by decide +kernel
theorem dX10_play_104 : decode cX10_play 104 = .ok (.ior, 1) := by decide +kernel
theorem dX10_play_105 : decode cX10_play 105 = .ok (.istore 8, 2) := by decide +kernel
theorem dX10_play_107 : decode cX10_play 107 = .ok (.aload_n 0, 1) := by decide +kernel
theorem dX10_play_108 : decode cX10_play 108 = .ok (.iload 4, 2) := by decide +kernel
theorem dX10_play_110 : decode cX10_play 110 = .ok (.iconst 1, 1) := by decide +kernel
theorem dX10_play_111 : decode cX10_play 111 = .ok (.isub, 1) := by decide +kernel
theorem dX10_play_112 : decode cX10_play 112 = .ok (.iload 5, 2) := by decide +kernel
theorem dX10_play_114 : decode cX10_play 114 = .ok (.iload 8, 2) := by decide +kernel
theorem dX10_play_116 : decode cX10_play 116 = .ok (.invokevirtual 57, 3) := by decide +kernel
theorem dX10_play_119 : decode cX10_play 119 = .ok (.aload_n 0, 1) := by decide +kernel
theorem dX10_play_120 : decode cX10_play 120 = .ok (.getfield 9, 3) := by decide +kernel
theorem dX10_play_123 : decode cX10_play 123 = .ok (.if_icmp .ne 9, 3) := by decide +kernel
theorem dX10_play_126 : decode cX10_play 126 = .ok (.aload_n 0, 1) := by decide +kernel
theorem dX10_play_127 : decode cX10_play 127 = .ok (.iload 7, 2) := by decide +kernel
theorem dX10_play_129 : decode cX10_play 129 = .ok (.putfield 15, 3) := by decide +kernel
theorem dX10_play_132 : decode cX10_play 132 = .ok (.iinc 7 1, 3) := by decide +kernel
theorem dX10_play_135 : decode cX10_play 135 = .ok (.goto (-62), 3) := by decide +kernel
theorem dX10_play_138 : decode cX10_play 138 = .ok (.return_, 1) := by decide +kernel
theorem dX10_firstTurn_0 : decode cX10_firstTurn 0 = .ok (.iload_n 1, 1) := by decide +kernel
theorem dX10_firstTurn_1 : decode cX10_firstTurn 1 = .ok (.ifCond .gt 10, 3) := by decide +kernel
theorem dX10_firstTurn_4 : decode cX10_firstTurn 4 = .ok (.aload_n 0, 1) := by decide +kernel
theorem dX10_firstTurn_5 : decode cX10_firstTurn 5 = .ok (.iload_n 2, 1) := by decide +kernel
theorem dX10_firstTurn_6 : decode cX10_firstTurn 6 = .ok (.iload_n 3, 1) := by decide +kernel
theorem dX10_firstTurn_7 : decode cX10_firstTurn 7 = .ok (.invokevirtual 60, 3) := by decide +kernel
theorem dX10_firstTurn_10 : decode cX10_firstTurn 10 = .ok (.ireturn, 1) := by decide +kernel
theorem dX10_firstTurn_11 : decode cX10_firstTurn 11 = .ok (.bipush (-8), 2) := by decide +kernel
theorem dX10_firstTurn_13 : decode cX10_firstTurn 13 = .ok (.istore 4, 2) := by decide +kernel
theorem dX10_firstTurn_15 : decode cX10_firstTurn 15 = .ok (.iconst 0, 1) := by decide +kernel
theorem dX10_firstTurn_16 : decode cX10_firstTurn 16 = .ok (.istore 5, 2) := by decide +kernel
theorem dX10_firstTurn_18 : decode cX10_firstTurn 18 = .ok (.iload 5, 2) := by decide +kernel
theorem dX10_firstTurn_20 : decode cX10_firstTurn 20 = .ok (.bipush 8, 2) := by decide +kernel
theorem dX10_firstTurn_22 : decode cX10_firstTurn 22 = .ok (.if_icmp .gt 39, 3) := by decide +kernel
theorem dX10_firstTurn_25 : decode cX10_firstTurn 25 = .ok (.iload_n 3, 1) := by decide +kernel
theorem dX10_firstTurn_26 : decode cX10_firstTurn 26 = .ok (.aload_n 0, 1) := by decide +kernel
theorem dX10_firstTurn_27 : decode cX10_firstTurn 27 = .ok (.getfield 37, 3) := by decide +kernel
theorem dX10_firstTurn_30 : decode cX10_firstTurn 30 = .ok (.iconst 1, 1) := by decide +kernel
theorem dX10_firstTurn_31 : decode cX10_firstTurn 31 = .ok (.iload 5, 2) := by decide +kernel
theorem dX10_firstTurn_33 : decode cX10_firstTurn 33 = .ok (.ishl, 1) := by decide +kernel
theorem dX10_firstTurn_34 : decode cX10_firstTurn 34 = .ok (.iand, 1) := by decide +kernel
theorem dX10_firstTurn_35 : decode cX10_firstTurn 35 = .ok (.ior, 1) := by decide +kernel
theorem dX10_firstTurn_36 : decode cX10_firstTurn 36 = .ok (.istore 6, 2) := by decide +kernel
theorem dX10_firstTurn_38 : decode cX10_firstTurn 38 = .ok (.iload 4, 2) := by decide +kernel
theorem dX10_firstTurn_40 : decode cX10_firstTurn 40 = .ok (.aload_n 0, 1) := by decide +kernel
theorem dX10_firstTurn_41 : decode cX10_firstTurn 41 = .ok (.iload_n 1, 1) := by decide +kernel
theorem dX10_firstTurn_42 : decode cX10_firstTurn 42 = .ok (.iconst 1, 1) := by decide +kernel
theorem dX10_firstTurn_43 : decode cX10_firstTurn 43 = .ok (.isub, 1) := by decide +kernel
theorem dX10_firstTurn_44 : decode cX10_firstTurn 44 = .ok (.iload_n 2, 1) := by decide +kernel
theorem dX10_firstTurn_45 : decode cX10_firstTurn 45 = .ok (.iload 6, 2) := by decide +kernel
theorem dX10_firstTurn_47 : decode cX10_firstTurn 47 = .ok (.invokevirtual 57, 3) := by decide +kernel
theorem dX10_firstTurn_50 : decode cX10_firstTurn 50 = .ok (.invokestatic 63, 3) := by decide +kernel
theorem dX10_firstTurn_53 : decode cX10_firstTurn 53 = .ok (.istore 4, 2) := by decide +kernel
theorem dX10_firstTurn_55 : decode cX10_firstTurn 55 = .ok (.iinc 5 1, 3) := by decide +kernel
theorem dX10_firstTurn_58 : decode cX10_firstTurn 58 = .ok (.goto (-40), 3) := by decide +kernel
theorem dX10_firstTurn_61 : decode cX10_firstTurn 61 = .ok (.iload 4, 2) := by decide +kernel
theorem dX10_firstTurn_63 : decode cX10_firstTurn 63 = .ok (.ireturn, 1) := by decide +kernel
theorem dX10_secondTurn_0 : decode cX10_secondTurn 0 = .ok (.iload_n 1, 1) := by decide +kernel
theorem dX10_secondTurn_1 : decode cX10_secondTurn 1 = .ok (.ifCond .gt 10, 3) := by decide +kernel
theorem dX10_secondTurn_4 : decode cX10_secondTurn 4 = .ok (.aload_n 0, 1) := by decide +kernel
theorem dX10_secondTurn_5 : decode cX10_secondTurn 5 = .ok (.iload_n 2, 1) := by decide +kernel
theorem dX10_secondTurn_6 : decode cX10_secondTurn 6 = .ok (.iload_n 3, 1) := by decide +kernel
theorem dX10_secondTurn_7 : decode cX10_secondTurn 7 = .ok (.invokevirtual 60, 3) := by decide +kernel
theorem dX10_secondTurn_10 : decode cX10_secondTurn 10 = .ok (.ireturn, 1) := by decide +kernel
theorem dX10_secondTurn_11 : decode cX10_secondTurn 11 = .ok (.bipush 8, 2) := by decide +kernel
theorem dX10_secondTurn_13 : decode cX10_secondTurn 13 = .ok (.istore 4, 2) := by decide +kernel
theorem dX10_secondTurn_15 : decode cX10_secondTurn 15 = .ok (.iconst 0, 1) := by decide +kernel
theorem dX10_secondTurn_16 : decode cX10_secondTurn 16 = .ok (.istore 5, 2) := by decide +kernel
theorem dX10_secondTurn_18 : decode cX10_secondTurn 18 = .ok (.iload 5, 2) := by decide +kernel
theorem dX10_secondTurn_20 : decode cX10_secondTurn 20 = .ok (.bipush 8, 2) := by decide +kernel
theorem dX10_secondTurn_22 : decode cX10_secondTurn 22 = .ok (.if_icmp .gt 39, 3) := by decide +kernel
theorem dX10_secondTurn_25 : decode cX10_secondTurn 25 = .ok (.iload_n 2, 1) := by decide +kernel
theorem dX10_secondTurn_26 : decode cX10_secondTurn 26 = .ok (.aload_n 0, 1) := by decide +kernel
theorem dX10_secondTurn_27 : decode cX10_secondTurn 27 = .ok (.getfield 34, 3) := by decide +kernel
theorem dX10_secondTurn_30 : decode cX10_secondTurn 30 = .ok (.iconst 1, 1) := by decide +kernel
theorem dX10_secondTurn_31 : decode cX10_secondTurn 31 = .ok (.iload 5, 2) := by decide +kernel
theorem dX10_secondTurn_33 : decode cX10_secondTurn 33 = .ok (.ishl, 1) := by decide +kernel
theorem dX10_secondTurn_34 : decode cX10_secondTurn 34 = .ok (.iand, 1) := by decide +kernel
theorem dX10_secondTurn_35 : decode cX10_secondTurn 35 = .ok (.ior, 1) := by decide +kernel
theorem dX10_secondTurn_36 : decode cX10_secondTurn 36 = .ok (.istore 6, 2) := by decide +kernel
theorem dX10_secondTurn_38 : decode cX10_secondTurn 38 = .ok (.iload 4, 2) := by decide +kernel
theorem dX10_secondTurn_40 : decode cX10_secondTurn 40 = .ok (.aload_n 0, 1) := by decide +kernel
theorem dX10_secondTurn_41 : decode cX10_secondTurn 41 = .ok (.iload_n 1, 1) := by decide +kernel
theorem dX10_secondTurn_42 : decode cX10_secondTurn 42 = .ok (.iconst 1, 1) := by decide +kernel
theorem dX10_secondTurn_43 : decode cX10_secondTurn 43 = .ok (.isub, 1) := by decide +kernel
theorem dX10_secondTurn_44 : decode cX10_secondTurn 44 = .ok (.iload 6, 2) := by decide +kernel
theorem dX10_secondTurn_46 : decode cX10_secondTurn 46 = .ok (.iload_n 3, 1) := by decide +kernel
theorem dX10_secondTurn_47 : decode cX10_secondTurn 47 = .ok (.invokevirtual 53, 3) := by decide +kernel
theorem dX10_secondTurn_50 : decode cX10_secondTurn 50 = .ok (.invokestatic 68, 3) := by decide +kernel
theorem dX10_secondTurn_53 : decode cX10_secondTurn 53 = .ok (.istore 4, 2) := by decide +kernel
theorem dX10_secondTurn_55 : decode cX10_secondTurn 55 = .ok (.iinc 5 1, 3) := by decide +kernel
theorem dX10_secondTurn_58 : decode cX10_secondTurn 58 = .ok (.goto (-40), 3) := by decide +kernel
theorem dX10_secondTurn_61 : decode cX10_secondTurn 61 = .ok (.iload 4, 2) := by decide +kernel
theorem dX10_secondTurn_63 : decode cX10_secondTurn 63 = .ok (.ireturn, 1) := by decide +kernel
theorem dX10_difference_0 : decode cX10_difference 0 = .ok (.aload_n 0, 1) := by decide +kernel
theorem dX10_difference_1 : decode cX10_difference 1 = .ok (.getfield 24, 3) := by decide +kernel
theorem dX10_difference_4 : decode cX10_difference 4 = .ok (.ifnonnull 5, 3) := by decide +kernel
theorem dX10_difference_7 : decode cX10_difference 7 = .ok (.iconst 0, 1) := by decide +kernel
theorem dX10_difference_8 : decode cX10_difference 8 = .ok (.ireturn, 1) := by decide +kernel
theorem dX10_difference_9 : decode cX10_difference 9 = .ok (.aload_n 0, 1) := by decide +kernel
theorem dX10_difference_10 : decode cX10_difference 10 = .ok (.getfield 24, 3) := by decide +kernel
theorem dX10_difference_13 : decode cX10_difference 13 = .ok (.iload_n 1, 1) := by decide +kernel
theorem dX10_difference_14 : decode cX10_difference 14 = .ok (.aload_n 0, 1) := by decide +kernel
theorem dX10_difference_15 : decode cX10_difference 15 = .ok (.getfield 24, 3) := by decide +kernel
theorem dX10_difference_18 : decode cX10_difference 18 = .ok (.getfield 71, 3) := by decide +kernel
theorem dX10_difference_21 : decode cX10_difference 21 = .ok (.aload_n 0, 1) := by decide +kernel
theorem dX10_difference_22 : decode cX10_difference 22 = .ok (.getfield 28, 3) := by decide +kernel
theorem dX10_difference_25 : decode cX10_difference 25 = .ok (.iaload, 1) := by decide +kernel
theorem dX10_difference_26 : decode cX10_difference 26 = .ok (.invokevirtual 74, 3) := by decide +kernel
theorem dX10_difference_29 : decode cX10_difference 29 = .ok (.istore_n 3, 1) := by decide +kernel
theorem dX10_difference_30 : decode cX10_difference 30 = .ok (.aload_n 0, 1) := by decide +kernel
theorem dX10_difference_31 : decode cX10_difference 31 = .ok (.getfield 24, 3) := by decide +kernel
theorem dX10_difference_34 : decode cX10_difference 34 = .ok (.iload_n 2, 1) := by decide +kernel
theorem dX10_difference_35 : decode cX10_difference 35 = .ok (.aload_n 0, 1) := by decide +kernel
theorem dX10_difference_36 : decode cX10_difference 36 = .ok (.getfield 24, 3) := by decide +kernel
theorem dX10_difference_39 : decode cX10_difference 39 = .ok (.getfield 71, 3) := by decide +kernel
theorem dX10_difference_42 : decode cX10_difference 42 = .ok (.aload_n 0, 1) := by decide +kernel
theorem dX10_difference_43 : decode cX10_difference 43 = .ok (.getfield 31, 3) := by decide +kernel
theorem dX10_difference_46 : decode cX10_difference 46 = .ok (.iaload, 1) := by decide +kernel
theorem dX10_difference_47 : decode cX10_difference 47 = .ok (.invokevirtual 74, 3) := by decide +kernel
theorem dX10_difference_50 : decode cX10_difference 50 = .ok (.istore 4, 2) := by decide +kernel
theorem dX10_difference_52 : decode cX10_difference 52 = .ok (.iload 4, 2) := by decide +kernel
theorem dX10_difference_54 : decode cX10_difference 54 = .ok (.invokestatic 77, 3) := by decide +kernel
theorem dX10_difference_57 : decode cX10_difference 57 = .ok (.iload_n 3, 1) := by decide +kernel
theorem dX10_difference_58 : decode cX10_difference 58 = .ok (.invokestatic 77, 3) := by decide +kernel
theorem dX10_difference_61 : decode cX10_difference 61 = .ok (.isub, 1) := by decide +kernel
theorem dX10_difference_62 : decode cX10_difference 62 = .ok (.ireturn, 1) := by decide +kernel
theorem dX10_weigh_0 : decode cX10_weigh 0 = .ok (.iconst 0, 1) := by decide +kernel
theorem dX10_weigh_1 : decode cX10_weigh 1 = .ok (.istore 4, 2) := by decide +kernel
theorem dX10_weigh_3 : decode cX10_weigh 3 = .ok (.iload 4, 2) := by decide +kernel
theorem dX10_weigh_5 : decode cX10_weigh 5 = .ok (.aload_n 0, 1) := by decide +kernel
theorem dX10_weigh_6 : decode cX10_weigh 6 = .ok (.getfield 40, 3) := by decide +kernel
theorem dX10_weigh_9 : decode cX10_weigh 9 = .ok (.arraylength, 1) := by decide +kernel
theorem dX10_weigh_10 : decode cX10_weigh 10 = .ok (.if_icmp .ge 17, 3) := by decide +kernel
theorem dX10_weigh_13 : decode cX10_weigh 13 = .ok (.aload_n 0, 1) := by decide +kernel
theorem dX10_weigh_14 : decode cX10_weigh 14 = .ok (.getfield 40, 3) := by decide +kernel
theorem dX10_weigh_17 : decode cX10_weigh 17 = .ok (.iload 4, 2) := by decide +kernel
theorem dX10_weigh_19 : decode cX10_weigh 19 = .ok (.iconst 0, 1) := by decide +kernel
theorem dX10_weigh_20 : decode cX10_weigh 20 = .ok (.iastore, 1) := by decide +kernel
theorem dX10_weigh_21 : decode cX10_weigh 21 = .ok (.iinc 4 1, 3) := by decide +kernel
theorem dX10_weigh_24 : decode cX10_weigh 24 = .ok (.goto (-21), 3) := by decide +kernel
theorem dX10_weigh_27 : decode cX10_weigh 27 = .ok (.aload_n 0, 1) := by decide +kernel
theorem dX10_weigh_28 : decode cX10_weigh 28 = .ok (.getfield 40, 3) := by decide +kernel
theorem dX10_weigh_31 : decode cX10_weigh 31 = .ok (.iconst 0, 1) := by decide +kernel
theorem dX10_weigh_32 : decode cX10_weigh 32 = .ok (.iconst 1, 1) := by decide +kernel
theorem dX10_weigh_33 : decode cX10_weigh 33 = .ok (.iastore, 1) := by decide +kernel
theorem dX10_weigh_34 : decode cX10_weigh 34 = .ok (.iconst 1, 1) := by decide +kernel
theorem dX10_weigh_35 : decode cX10_weigh 35 = .ok (.istore 4, 2) := by decide +kernel
theorem dX10_weigh_37 : decode cX10_weigh 37 = .ok (.iconst 0, 1) := by decide +kernel
theorem dX10_weigh_38 : decode cX10_weigh 38 = .ok (.istore 5, 2) := by decide +kernel
theorem dX10_weigh_40 : decode cX10_weigh 40 = .ok (.iload 5, 2) := by decide +kernel
theorem dX10_weigh_42 : decode cX10_weigh 42 = .ok (.iload_n 3, 1) := by decide +kernel
theorem dX10_weigh_43 : decode cX10_weigh 43 = .ok (.if_icmp .ge 84, 3) := by decide +kernel
theorem dX10_weigh_46 : decode cX10_weigh 46 = .ok (.aload_n 0, 1) := by decide +kernel
theorem dX10_weigh_47 : decode cX10_weigh 47 = .ok (.getfield 40, 3) := by decide +kernel
theorem dX10_weigh_50 : decode cX10_weigh 50 = .ok (.arraylength, 1) := by decide +kernel
theorem dX10_weigh_51 : decode cX10_weigh 51 = .ok (.iconst 1, 1) := by decide +kernel
theorem dX10_weigh_52 : decode cX10_weigh 52 = .ok (.isub, 1) := by decide +kernel
theorem dX10_weigh_53 : decode cX10_weigh 53 = .ok (.istore 6, 2) := by decide +kernel
theorem dX10_weigh_55 : decode cX10_weigh 55 = .ok (.iload 6, 2) := by decide +kernel
theorem dX10_weigh_57 : decode cX10_weigh 57 = .ok (.ifCond .le 40, 3) := by decide +kernel
theorem dX10_weigh_60 : decode cX10_weigh 60 = .ok (.aload_n 0, 1) := by decide +kernel
theorem dX10_weigh_61 : decode cX10_weigh 61 = .ok (.getfield 40, 3) := by decide +kernel
theorem dX10_weigh_64 : decode cX10_weigh 64 = .ok (.iload 6, 2) := by decide +kernel
theorem dX10_weigh_66 : decode cX10_weigh 66 = .ok (.aload_n 0, 1) := by decide +kernel
theorem dX10_weigh_67 : decode cX10_weigh 67 = .ok (.getfield 40, 3) := by decide +kernel
theorem dX10_weigh_70 : decode cX10_weigh 70 = .ok (.iload 6, 2) := by decide +kernel
theorem dX10_weigh_72 : decode cX10_weigh 72 = .ok (.iaload, 1) := by decide +kernel
theorem dX10_weigh_73 : decode cX10_weigh 73 = .ok (.bipush 10, 2) := by decide +kernel
theorem dX10_weigh_75 : decode cX10_weigh 75 = .ok (.iload_n 2, 1) := by decide +kernel
theorem dX10_weigh_76 : decode cX10_weigh 76 = .ok (.isub, 1) := by decide +kernel
theorem dX10_weigh_77 : decode cX10_weigh 77 = .ok (.imul, 1) := by decide +kernel
theorem dX10_weigh_78 : decode cX10_weigh 78 = .ok (.aload_n 0, 1) := by decide +kernel
theorem dX10_weigh_79 : decode cX10_weigh 79 = .ok (.getfield 40, 3) := by decide +kernel
theorem dX10_weigh_82 : decode cX10_weigh 82 = .ok (.iload 6, 2) := by decide +kernel
theorem dX10_weigh_84 : decode cX10_weigh 84 = .ok (.iconst 1, 1) := by decide +kernel
theorem dX10_weigh_85 : decode cX10_weigh 85 = .ok (.isub, 1) := by decide +kernel
theorem dX10_weigh_86 : decode cX10_weigh 86 = .ok (.iaload, 1) := by decide +kernel
theorem dX10_weigh_87 : decode cX10_weigh 87 = .ok (.iload_n 2, 1) := by decide +kernel
theorem dX10_weigh_88 : decode cX10_weigh 88 = .ok (.imul, 1) := by decide +kernel
theorem dX10_weigh_89 : decode cX10_weigh 89 = .ok (.iadd, 1) := by decide +kernel
theorem dX10_weigh_90 : decode cX10_weigh 90 = .ok (.iastore, 1) := by decide +kernel
theorem dX10_weigh_91 : decode cX10_weigh 91 = .ok (.iinc 6 (-1), 3) := by decide +kernel
theorem dX10_weigh_94 : decode cX10_weigh 94 = .ok (.goto (-39), 3) := by decide +kernel
theorem dX10_weigh_97 : decode cX10_weigh 97 = .ok (.aload_n 0, 1) := by decide +kernel
theorem dX10_weigh_98 : decode cX10_weigh 98 = .ok (.getfield 40, 3) := by decide +kernel
theorem dX10_weigh_101 : decode cX10_weigh 101 = .ok (.iconst 0, 1) := by decide +kernel
theorem dX10_weigh_102 : decode cX10_weigh 102 = .ok (.aload_n 0, 1) := by decide +kernel
theorem dX10_weigh_103 : decode cX10_weigh 103 = .ok (.getfield 40, 3) := by decide +kernel
theorem dX10_weigh_106 : decode cX10_weigh 106 = .ok (.iconst 0, 1) := by decide +kernel
theorem dX10_weigh_107 : decode cX10_weigh 107 = .ok (.iaload, 1) := by decide +kernel
theorem dX10_weigh_108 : decode cX10_weigh 108 = .ok (.bipush 10, 2) := by decide +kernel
theorem dX10_weigh_110 : decode cX10_weigh 110 = .ok (.iload_n 2, 1) := by decide +kernel
theorem dX10_weigh_111 : decode cX10_weigh 111 = .ok (.isub, 1) := by decide +kernel
theorem dX10_weigh_112 : decode cX10_weigh 112 = .ok (.imul, 1) := by decide +kernel
theorem dX10_weigh_113 : decode cX10_weigh 113 = .ok (.iastore, 1) := by decide +kernel
theorem dX10_weigh_114 : decode cX10_weigh 114 = .ok (.iload 4, 2) := by decide +kernel
theorem dX10_weigh_116 : decode cX10_weigh 116 = .ok (.bipush 10, 2) := by decide +kernel
theorem dX10_weigh_118 : decode cX10_weigh 118 = .ok (.imul, 1) := by decide +kernel
theorem dX10_weigh_119 : decode cX10_weigh 119 = .ok (.istore 4, 2) := by decide +kernel
theorem dX10_weigh_121 : decode cX10_weigh 121 = .ok (.iinc 5 1, 3) := by decide +kernel
theorem dX10_weigh_124 : decode cX10_weigh 124 = .ok (.goto (-84), 3) := by decide +kernel
theorem dX10_weigh_127 : decode cX10_weigh 127 = .ok (.iconst 0, 1) := by decide +kernel
theorem dX10_weigh_128 : decode cX10_weigh 128 = .ok (.istore 5, 2) := by decide +kernel
theorem dX10_weigh_130 : decode cX10_weigh 130 = .ok (.iload_n 1, 1) := by decide +kernel
theorem dX10_weigh_131 : decode cX10_weigh 131 = .ok (.iconst 0, 1) := by decide +kernel
theorem dX10_weigh_132 : decode cX10_weigh 132 = .ok (.invokestatic 63, 3) := by decide +kernel
theorem dX10_weigh_135 : decode cX10_weigh 135 = .ok (.istore 6, 2) := by decide +kernel
theorem dX10_weigh_137 : decode cX10_weigh 137 = .ok (.iload 6, 2) := by decide +kernel
theorem dX10_weigh_139 : decode cX10_weigh 139 = .ok (.aload_n 0, 1) := by decide +kernel
theorem dX10_weigh_140 : decode cX10_weigh 140 = .ok (.getfield 40, 3) := by decide +kernel
theorem dX10_weigh_143 : decode cX10_weigh 143 = .ok (.arraylength, 1) := by decide +kernel
theorem dX10_weigh_144 : decode cX10_weigh 144 = .ok (.if_icmp .ge 21, 3) := by decide +kernel
theorem dX10_weigh_147 : decode cX10_weigh 147 = .ok (.iload 5, 2) := by decide +kernel
theorem dX10_weigh_149 : decode cX10_weigh 149 = .ok (.aload_n 0, 1) := by decide +kernel
theorem dX10_weigh_150 : decode cX10_weigh 150 = .ok (.getfield 40, 3) := by decide +kernel
theorem dX10_weigh_153 : decode cX10_weigh 153 = .ok (.iload 6, 2) := by decide +kernel
theorem dX10_weigh_155 : decode cX10_weigh 155 = .ok (.iaload, 1) := by decide +kernel
theorem dX10_weigh_156 : decode cX10_weigh 156 = .ok (.iadd, 1) := by decide +kernel
theorem dX10_weigh_157 : decode cX10_weigh 157 = .ok (.istore 5, 2) := by decide +kernel
theorem dX10_weigh_159 : decode cX10_weigh 159 = .ok (.iinc 6 1, 3) := by decide +kernel
theorem dX10_weigh_162 : decode cX10_weigh 162 = .ok (.goto (-25), 3) := by decide +kernel
theorem dX10_weigh_165 : decode cX10_weigh 165 = .ok (.iload 4, 2) := by decide +kernel
theorem dX10_weigh_167 : decode cX10_weigh 167 = .ok (.iload 5, 2) := by decide +kernel
theorem dX10_weigh_169 : decode cX10_weigh 169 = .ok (.invokestatic 83, 3) := by decide +kernel
theorem dX10_weigh_172 : decode cX10_weigh 172 = .ok (.istore 6, 2) := by decide +kernel
theorem dX10_weigh_174 : decode cX10_weigh 174 = .ok (.aload_n 0, 1) := by decide +kernel
theorem dX10_weigh_175 : decode cX10_weigh 175 = .ok (.iload 5, 2) := by decide +kernel
theorem dX10_weigh_177 : decode cX10_weigh 177 = .ok (.iload 6, 2) := by decide +kernel
theorem dX10_weigh_179 : decode cX10_weigh 179 = .ok (.idiv, 1) := by decide +kernel
theorem dX10_weigh_180 : decode cX10_weigh 180 = .ok (.putfield 18, 3) := by decide +kernel
theorem dX10_weigh_183 : decode cX10_weigh 183 = .ok (.aload_n 0, 1) := by decide +kernel
theorem dX10_weigh_184 : decode cX10_weigh 184 = .ok (.iload 4, 2) := by decide +kernel
theorem dX10_weigh_186 : decode cX10_weigh 186 = .ok (.iload 6, 2) := by decide +kernel
theorem dX10_weigh_188 : decode cX10_weigh 188 = .ok (.idiv, 1) := by decide +kernel
theorem dX10_weigh_189 : decode cX10_weigh 189 = .ok (.putfield 21, 3) := by decide +kernel
theorem dX10_weigh_192 : decode cX10_weigh 192 = .ok (.return_, 1) := by decide +kernel
theorem dX4_init_0 : decode cX4_init 0 = .ok (.aload_n 0, 1) := by decide +kernel
theorem dX4_init_1 : decode cX4_init 1 = .ok (.invokespecial 3, 3) := by decide +kernel
theorem dX4_init_4 : decode cX4_init 4 = .ok (.aload_n 0, 1) := by decide +kernel
theorem dX4_init_5 : decode cX4_init 5 = .ok (.iconst 0, 1) := by decide +kernel
theorem dX4_init_6 : decode cX4_init 6 = .ok (.putfield 9, 3) := by decide +kernel
theorem dX4_init_9 : decode cX4_init 9 = .ok (.aload_n 0, 1) := by decide +kernel
theorem dX4_init_10 : decode cX4_init 10 = .ok (.bipush 50, 2) := by decide +kernel
theorem dX4_init_12 : decode cX4_init 12 = .ok (.newarray .int, 2) := by decide +kernel
theorem dX4_init_14 : decode cX4_init 14 = .ok (.putfield 15, 3) := by decide +kernel
theorem dX4_init_17 : decode cX4_init 17 = .ok (.aload_n 0, 1) := by decide +kernel
theorem dX4_init_18 : decode cX4_init 18 = .ok (.bipush 50, 2) := by decide +kernel
theorem dX4_init_20 : decode cX4_init 20 = .ok (.newarray .int, 2) := by decide +kernel
theorem dX4_init_22 : decode cX4_init 22 = .ok (.putfield 19, 3) := by decide +kernel
theorem dX4_init_25 : decode cX4_init 25 = .ok (.aload_n 0, 1) := by decide +kernel
theorem dX4_init_26 : decode cX4_init 26 = .ok (.bipush 50, 2) := by decide +kernel
theorem dX4_init_28 : decode cX4_init 28 = .ok (.newarray .int, 2) := by decide +kernel
theorem dX4_init_30 : decode cX4_init 30 = .ok (.putfield 22, 3) := by decide +kernel
theorem dX4_init_33 : decode cX4_init 33 = .ok (.return_, 1) := by decide +kernel
theorem dX4_learn_0 : decode cX4_learn 0 = .ok (.aload_n 0, 1) := by decide +kernel
theorem dX4_learn_1 : decode cX4_learn 1 = .ok (.iconst 0, 1) := by decide +kernel
theorem dX4_learn_2 : decode cX4_learn 2 = .ok (.putfield 9, 3) := by decide +kernel
theorem dX4_learn_5 : decode cX4_learn 5 = .ok (.aload_n 1, 1) := by decide +kernel
theorem dX4_learn_6 : decode cX4_learn 6 = .ok (.aload_n 2, 1) := by decide +kernel
theorem dX4_learn_7 : decode cX4_learn 7 = .ok (.iload_n 3, 1) := by decide +kernel
theorem dX4_learn_8 : decode cX4_learn 8 = .ok (.invokestatic 25, 3) := by decide +kernel
theorem dX4_learn_11 : decode cX4_learn 11 = .ok (.ifCond .ne 4, 3) := by decide +kernel
theorem dX4_learn_14 : decode cX4_learn 14 = .ok (.return_, 1) := by decide +kernel
theorem dX4_learn_15 : decode cX4_learn 15 = .ok (.aload_n 2, 1) := by decide +kernel
theorem dX4_learn_16 : decode cX4_learn 16 = .ok (.iload_n 3, 1) := by decide +kernel
theorem dX4_learn_17 : decode cX4_learn 17 = .ok (.iconst 1, 1) := by decide +kernel
theorem dX4_learn_18 : decode cX4_learn 18 = .ok (.invokestatic 29, 3) := by decide +kernel
theorem dX4_learn_21 : decode cX4_learn 21 = .ok (.istore 4, 2) := by decide +kernel
theorem dX4_learn_23 : decode cX4_learn 23 = .ok (.aload_n 2, 1) := by decide +kernel
theorem dX4_learn_24 : decode cX4_learn 24 = .ok (.iload_n 3, 1) := by decide +kernel
theorem dX4_learn_25 : decode cX4_learn 25 = .ok (.iconst 0, 1) := by decide +kernel
theorem dX4_learn_26 : decode cX4_learn 26 = .ok (.invokestatic 29, 3) := by decide +kernel
theorem dX4_learn_29 : decode cX4_learn 29 = .ok (.istore 5, 2) := by decide +kernel
theorem dX4_learn_31 : decode cX4_learn 31 = .ok (.iconst 0, 1) := by decide +kernel
theorem dX4_learn_32 : decode cX4_learn 32 = .ok (.istore 6, 2) := by decide +kernel
theorem dX4_learn_34 : decode cX4_learn 34 = .ok (.iload 6, 2) := by decide +kernel
theorem dX4_learn_36 : decode cX4_learn 36 = .ok (.bipush 9, 2) := by decide +kernel
theorem dX4_learn_38 : decode cX4_learn 38 = .ok (.if_icmp .gt 78, 3) := by decide +kernel
theorem dX4_learn_41 : decode cX4_learn 41 = .ok (.aload_n 1, 1) := by decide +kernel
theorem dX4_learn_42 : decode cX4_learn 42 = .ok (.getfield 33, 3) := by decide +kernel
theorem dX4_learn_45 : decode cX4_learn 45 = .ok (.iload_n 3, 1) := by decide +kernel
theorem dX4_learn_46 : decode cX4_learn 46 = .ok (.iload 6, 2) := by decide +kernel
theorem dX4_learn_48 : decode cX4_learn 48 = .ok (.iastore, 1) := by decide +kernel
theorem dX4_learn_49 : decode cX4_learn 49 = .ok (.aload_n 1, 1) := by decide +kernel
theorem dX4_learn_50 : decode cX4_learn 50 = .ok (.iload_n 3, 1) := by decide +kernel
theorem dX4_learn_51 : decode cX4_learn 51 = .ok (.iconst 0, 1) := by decide +kernel
theorem dX4_learn_52 : decode cX4_learn 52 = .ok (.invokevirtual 36, 3) := by decide +kernel
theorem dX4_learn_55 : decode cX4_learn 55 = .ok (.istore 7, 2) := by decide +kernel
theorem dX4_learn_57 : decode cX4_learn 57 = .ok (.iconst 0, 1) := by decide +kernel
theorem dX4_learn_58 : decode cX4_learn 58 = .ok (.istore 8, 2) := by decide +kernel
theorem dX4_learn_60 : decode cX4_learn 60 = .ok (.iload 8, 2) := by decide +kernel
theorem dX4_learn_62 : decode cX4_learn 62 = .ok (.iconst 4, 1) := by decide +kernel
theorem dX4_learn_63 : decode cX4_learn 63 = .ok (.if_icmp .gt 47, 3) := by decide +kernel
theorem dX4_learn_66 : decode cX4_learn 66 = .ok (.aload_n 1, 1) := by decide +kernel
theorem dX4_learn_67 : decode cX4_learn 67 = .ok (.iload 7, 2) := by decide +kernel
theorem dX4_learn_69 : decode cX4_learn 69 = .ok (.iload 8, 2) := by decide +kernel
theorem dX4_learn_71 : decode cX4_learn 71 = .ok (.invokevirtual 40, 3) := by decide +kernel
theorem dX4_learn_74 : decode cX4_learn 74 = .ok (.istore 9, 2) := by decide +kernel
theorem dX4_learn_76 : decode cX4_learn 76 = .ok (.iload 4, 2) := by decide +kernel
theorem dX4_learn_78 : decode cX4_learn 78 = .ok (.iload 9, 2) := by decide +kernel
theorem dX4_learn_80 : decode cX4_learn 80 = .ok (.iconst (-1), 1) := by decide +kernel
theorem dX4_learn_81 : decode cX4_learn 81 = .ok (.ixor, 1) := by decide +kernel
theorem dX4_learn_82 : decode cX4_learn 82 = .ok (.iand, 1) := by decide +kernel
theorem dX4_learn_83 : decode cX4_learn 83 = .ok (.ifCond .ne 21, 3) := by decide +kernel
theorem dX4_learn_86 : decode cX4_learn 86 = .ok (.iload 5, 2) := by decide +kernel
theorem dX4_learn_88 : decode cX4_learn 88 = .ok (.iload 9, 2) := by decide +kernel
theorem dX4_learn_90 : decode cX4_learn 90 = .ok (.iand, 1) := by decide +kernel
theorem dX4_learn_91 : decode cX4_learn 91 = .ok (.ifCond .ne 13, 3) := by decide +kernel
theorem dX4_learn_94 : decode cX4_learn 94 = .ok (.aload_n 0, 1) := by decide +kernel
theorem dX4_learn_95 : decode cX4_learn 95 = .ok (.iload 6, 2) := by decide +kernel
theorem dX4_learn_97 : decode cX4_learn 97 = .ok (.iload 8, 2) := by decide +kernel
theorem dX4_learn_99 : decode cX4_learn 99 = .ok (.iload 9, 2) := by decide +kernel
theorem dX4_learn_101 : decode cX4_learn 101 = .ok (.invokevirtual 43, 3) := by decide +kernel
theorem dX4_learn_104 : decode cX4_learn 104 = .ok (.iinc 8 1, 3) := by decide +kernel
theorem dX4_learn_107 : decode cX4_learn 107 = .ok (.goto (-47), 3) := by decide +kernel
theorem dX4_learn_110 : decode cX4_learn 110 = .ok (.iinc 6 1, 3) := by decide +kernel
theorem dX4_learn_113 : decode cX4_learn 113 = .ok (.goto (-79), 3) := by decide +kernel
theorem dX4_learn_116 : decode cX4_learn 116 = .ok (.return_, 1) := by decide +kernel
theorem dX4_add_0 : decode cX4_add 0 = .ok (.aload_n 0, 1) := by decide +kernel
theorem dX4_add_1 : decode cX4_add 1 = .ok (.getfield 9, 3) := by decide +kernel
theorem dX4_add_4 : decode cX4_add 4 = .ok (.bipush 50, 2) := by decide +kernel
theorem dX4_add_6 : decode cX4_add 6 = .ok (.if_icmp .ge 43, 3) := by decide +kernel
theorem dX4_add_9 : decode cX4_add 9 = .ok (.aload_n 0, 1) := by decide +kernel
theorem dX4_add_10 : decode cX4_add 10 = .ok (.getfield 15, 3) := by decide +kernel
theorem dX4_add_13 : decode cX4_add 13 = .ok (.aload_n 0, 1) := by decide +kernel
theorem dX4_add_14 : decode cX4_add 14 = .ok (.getfield 9, 3) := by decide +kernel
theorem dX4_add_17 : decode cX4_add 17 = .ok (.iload_n 1, 1) := by decide +kernel
theorem dX4_add_18 : decode cX4_add 18 = .ok (.iastore, 1) := by decide +kernel
theorem dX4_add_19 : decode cX4_add 19 = .ok (.aload_n 0, 1) := by decide +kernel
theorem dX4_add_20 : decode cX4_add 20 = .ok (.getfield 19, 3) := by decide +kernel
theorem dX4_add_23 : decode cX4_add 23 = .ok (.aload_n 0, 1) := by decide +kernel
theorem dX4_add_24 : decode cX4_add 24 = .ok (.getfield 9, 3) := by decide +kernel
theorem dX4_add_27 : decode cX4_add 27 = .ok (.iload_n 2, 1) := by decide +kernel
theorem dX4_add_28 : decode cX4_add 28 = .ok (.iastore, 1) := by decide +kernel
theorem dX4_add_29 : decode cX4_add 29 = .ok (.aload_n 0, 1) := by decide +kernel
theorem dX4_add_30 : decode cX4_add 30 = .ok (.getfield 22, 3) := by decide +kernel
theorem dX4_add_33 : decode cX4_add 33 = .ok (.aload_n 0, 1) := by decide +kernel
theorem dX4_add_34 : decode cX4_add 34 = .ok (.getfield 9, 3) := by decide +kernel
theorem dX4_add_37 : decode cX4_add 37 = .ok (.iload_n 3, 1) := by decide +kernel
theorem dX4_add_38 : decode cX4_add 38 = .ok (.iastore, 1) := by decide +kernel
theorem dX4_add_39 : decode cX4_add 39 = .ok (.aload_n 0, 1) := by decide +kernel
theorem dX4_add_40 : decode cX4_add 40 = .ok (.dup, 1) := by decide +kernel
theorem dX4_add_41 : decode cX4_add 41 = .ok (.getfield 9, 3) := by decide +kernel
theorem dX4_add_44 : decode cX4_add 44 = .ok (.iconst 1, 1) := by decide +kernel
theorem dX4_add_45 : decode cX4_add 45 = .ok (.iadd, 1) := by decide +kernel
theorem dX4_add_46 : decode cX4_add 46 = .ok (.putfield 9, 3) := by decide +kernel
theorem dX4_add_49 : decode cX4_add 49 = .ok (.return_, 1) := by decide +kernel
theorem dX4_othersAreSo_0 : decode cX4_othersAreSo 0 = .ok (.iconst 0, 1) := by decide +kernel
theorem dX4_othersAreSo_1 : decode cX4_othersAreSo 1 = .ok (.istore_n 3, 1) := by decide +kernel
theorem dX4_othersAreSo_2 : decode cX4_othersAreSo 2 = .ok (.iload_n 3, 1) := by decide +kernel
theorem dX4_othersAreSo_3 : decode cX4_othersAreSo 3 = .ok (.aload_n 1, 1) := by decide +kernel
theorem dX4_othersAreSo_4 : decode cX4_othersAreSo 4 = .ok (.getfield 47, 3) := by decide +kernel
theorem dX4_othersAreSo_7 : decode cX4_othersAreSo 7 = .ok (.if_icmp .ge 73, 3) := by decide +kernel
theorem dX4_othersAreSo_10 : decode cX4_othersAreSo 10 = .ok (.aload_n 1, 1) := by decide +kernel
theorem dX4_othersAreSo_11 : decode cX4_othersAreSo 11 = .ok (.iload_n 3, 1) := by decide +kernel
theorem dX4_othersAreSo_12 : decode cX4_othersAreSo 12 = .ok (.iconst 1, 1) := by decide +kernel
theorem dX4_othersAreSo_13 : decode cX4_othersAreSo 13 = .ok (.invokevirtual 50, 3) := by decide +kernel
theorem dX4_othersAreSo_16 : decode cX4_othersAreSo 16 = .ok (.istore 4, 2) := by decide +kernel
theorem dX4_othersAreSo_18 : decode cX4_othersAreSo 18 = .ok (.aload_n 0, 1) := by decide +kernel
theorem dX4_othersAreSo_19 : decode cX4_othersAreSo 19 = .ok (.iload 4, 2) := by decide +kernel
theorem dX4_othersAreSo_21 : decode cX4_othersAreSo 21 = .ok (.invokevirtual 53, 3) := by decide +kernel
theorem dX4_othersAreSo_24 : decode cX4_othersAreSo 24 = .ok (.ifCond .ne 5, 3) := by decide +kernel
theorem dX4_othersAreSo_27 : decode cX4_othersAreSo 27 = .ok (.iconst 0, 1) := by decide +kernel
theorem dX4_othersAreSo_28 : decode cX4_othersAreSo 28 = .ok (.ireturn, 1) := by decide +kernel
theorem dX4_othersAreSo_29 : decode cX4_othersAreSo 29 = .ok (.aload_n 0, 1) := by decide +kernel
theorem dX4_othersAreSo_30 : decode cX4_othersAreSo 30 = .ok (.iload 4, 2) := by decide +kernel
theorem dX4_othersAreSo_32 : decode cX4_othersAreSo 32 = .ok (.invokevirtual 57, 3) := by decide +kernel
theorem dX4_othersAreSo_35 : decode cX4_othersAreSo 35 = .ok (.aload_n 1, 1) := by decide +kernel
theorem dX4_othersAreSo_36 : decode cX4_othersAreSo 36 = .ok (.iload_n 3, 1) := by decide +kernel
theorem dX4_othersAreSo_37 : decode cX4_othersAreSo 37 = .ok (.iconst 2, 1) := by decide +kernel
theorem dX4_othersAreSo_38 : decode cX4_othersAreSo 38 = .ok (.invokevirtual 50, 3) := by decide +kernel
theorem dX4_othersAreSo_41 : decode cX4_othersAreSo 41 = .ok (.invokestatic 61, 3) := by decide +kernel
theorem dX4_othersAreSo_44 : decode cX4_othersAreSo 44 = .ok (.istore 5, 2) := by decide +kernel
theorem dX4_othersAreSo_46 : decode cX4_othersAreSo 46 = .ok (.iload 4, 2) := by decide +kernel
theorem dX4_othersAreSo_48 : decode cX4_othersAreSo 48 = .ok (.iload_n 2, 1) := by decide +kernel
theorem dX4_othersAreSo_49 : decode cX4_othersAreSo 49 = .ok (.if_icmp .eq 25, 3) := by decide +kernel
theorem dX4_othersAreSo_52 : decode cX4_othersAreSo 52 = .ok (.iload 5, 2) := by decide +kernel
theorem dX4_othersAreSo_54 : decode cX4_othersAreSo 54 = .ok (.aload_n 1, 1) := by decide +kernel
theorem dX4_othersAreSo_55 : decode cX4_othersAreSo 55 = .ok (.iload_n 3, 1) := by decide +kernel
theorem dX4_othersAreSo_56 : decode cX4_othersAreSo 56 = .ok (.iconst 0, 1) := by decide +kernel
theorem dX4_othersAreSo_57 : decode cX4_othersAreSo 57 = .ok (.invokevirtual 50, 3) := by decide +kernel
theorem dX4_othersAreSo_60 : decode cX4_othersAreSo 60 = .ok (.iconst 1, 1) := by decide +kernel
theorem dX4_othersAreSo_61 : decode cX4_othersAreSo 61 = .ok (.if_icmp .ne 7, 3) := by decide +kernel
theorem dX4_othersAreSo_64 : decode cX4_othersAreSo 64 = .ok (.iconst 1, 1) := by decide +kernel
theorem dX4_othersAreSo_65 : decode cX4_othersAreSo 65 = .ok (.goto 4, 3) := by decide +kernel
theorem dX4_othersAreSo_68 : decode cX4_othersAreSo 68 = .ok (.iconst 0, 1) := by decide +kernel
theorem dX4_othersAreSo_69 : decode cX4_othersAreSo 69 = .ok (.if_icmp .eq 5, 3) := by decide +kernel
theorem dX4_othersAreSo_72 : decode cX4_othersAreSo 72 = .ok (.iconst 0, 1) := by decide +kernel
theorem dX4_othersAreSo_73 : decode cX4_othersAreSo 73 = .ok (.ireturn, 1) := by decide +kernel
theorem dX4_othersAreSo_74 : decode cX4_othersAreSo 74 = .ok (.iinc 3 1, 3) := by decide +kernel
theorem dX4_othersAreSo_77 : decode cX4_othersAreSo 77 = .ok (.goto (-75), 3) := by decide +kernel
theorem dX4_othersAreSo_80 : decode cX4_othersAreSo 80 = .ok (.iconst 1, 1) := by decide +kernel
theorem dX4_othersAreSo_81 : decode cX4_othersAreSo 81 = .ok (.ireturn, 1) := by decide +kernel
theorem dX4_thingsTold_0 : decode cX4_thingsTold 0 = .ok (.iconst 0, 1) := by decide +kernel
theorem dX4_thingsTold_1 : decode cX4_thingsTold 1 = .ok (.istore_n 3, 1) := by decide +kernel
theorem dX4_thingsTold_2 : decode cX4_thingsTold 2 = .ok (.iconst 0, 1) := by decide +kernel
theorem dX4_thingsTold_3 : decode cX4_thingsTold 3 = .ok (.istore 4, 2) := by decide +kernel
theorem dX4_thingsTold_5 : decode cX4_thingsTold 5 = .ok (.iload 4, 2) := by decide +kernel
theorem dX4_thingsTold_7 : decode cX4_thingsTold 7 = .ok (.aload_n 0, 1) := by decide +kernel
theorem dX4_thingsTold_8 : decode cX4_thingsTold 8 = .ok (.getfield 47, 3) := by decide +kernel
theorem dX4_thingsTold_11 : decode cX4_thingsTold 11 = .ok (.if_icmp .ge 43, 3) := by decide +kernel
theorem dX4_thingsTold_14 : decode cX4_thingsTold 14 = .ok (.aload_n 0, 1) := by decide +kernel
theorem dX4_thingsTold_15 : decode cX4_thingsTold 15 = .ok (.iload 4, 2) := by decide +kernel
theorem dX4_thingsTold_17 : decode cX4_thingsTold 17 = .ok (.iconst 0, 1) := by decide +kernel
theorem dX4_thingsTold_18 : decode cX4_thingsTold 18 = .ok (.invokevirtual 50, 3) := by decide +kernel
theorem dX4_thingsTold_21 : decode cX4_thingsTold 21 = .ok (.iload_n 2, 1) := by decide +kernel
theorem dX4_thingsTold_22 : decode cX4_thingsTold 22 = .ok (.if_icmp .ne 26, 3) := by decide +kernel
theorem dX4_thingsTold_25 : decode cX4_thingsTold 25 = .ok (.aload_n 0, 1) := by decide +kernel
theorem dX4_thingsTold_26 : decode cX4_thingsTold 26 = .ok (.iload 4, 2) := by decide +kernel
theorem dX4_thingsTold_28 : decode cX4_thingsTold 28 = .ok (.iconst 1, 1) := by decide +kernel
theorem dX4_thingsTold_29 : decode cX4_thingsTold 29 = .ok (.invokevirtual 50, 3) := by decide +kernel
theorem dX4_thingsTold_32 : decode cX4_thingsTold 32 = .ok (.iload_n 1, 1) := by decide +kernel
theorem dX4_thingsTold_33 : decode cX4_thingsTold 33 = .ok (.if_icmp .ne 15, 3) := by decide +kernel
theorem dX4_thingsTold_36 : decode cX4_thingsTold 36 = .ok (.iload_n 3, 1) := by decide +kernel
theorem dX4_thingsTold_37 : decode cX4_thingsTold 37 = .ok (.iconst 1, 1) := by decide +kernel
theorem dX4_thingsTold_38 : decode cX4_thingsTold 38 = .ok (.aload_n 0, 1) := by decide +kernel
theorem dX4_thingsTold_39 : decode cX4_thingsTold 39 = .ok (.iload 4, 2) := by decide +kernel
theorem dX4_thingsTold_41 : decode cX4_thingsTold 41 = .ok (.iconst 2, 1) := by decide +kernel
theorem dX4_thingsTold_42 : decode cX4_thingsTold 42 = .ok (.invokevirtual 50, 3) := by decide +kernel
theorem dX4_thingsTold_45 : decode cX4_thingsTold 45 = .ok (.ishl, 1) := by decide +kernel
theorem dX4_thingsTold_46 : decode cX4_thingsTold 46 = .ok (.ior, 1) := by decide +kernel
theorem dX4_thingsTold_47 : decode cX4_thingsTold 47 = .ok (.istore_n 3, 1) := by decide +kernel
theorem dX4_thingsTold_48 : decode cX4_thingsTold 48 = .ok (.iinc 4 1, 3) := by decide +kernel
theorem dX4_thingsTold_51 : decode cX4_thingsTold 51 = .ok (.goto (-46), 3) := by decide +kernel
theorem dX4_thingsTold_54 : decode cX4_thingsTold 54 = .ok (.iload_n 3, 1) := by decide +kernel
theorem dX4_thingsTold_55 : decode cX4_thingsTold 55 = .ok (.ireturn, 1) := by decide +kernel
theorem dX4_tell_0 : decode cX4_tell 0 = .ok (.iload_n 1, 1) := by decide +kernel
theorem dX4_tell_1 : decode cX4_tell 1 = .ok (.tableswitch 108 0 5 #[39, 44, 53, 62, 67, 85], 39) := by decide +kernel
theorem dX4_tell_40 : decode cX4_tell 40 = .ok (.aload_n 0, 1) := by decide +kernel
theorem dX4_tell_41 : decode cX4_tell 41 = .ok (.getfield 9, 3) := by decide +kernel
theorem dX4_tell_44 : decode cX4_tell 44 = .ok (.ireturn, 1) := by decide +kernel
theorem dX4_tell_45 : decode cX4_tell 45 = .ok (.aload_n 0, 1) := by decide +kernel
theorem dX4_tell_46 : decode cX4_tell 46 = .ok (.aload_n 0, 1) := by decide +kernel
theorem dX4_tell_47 : decode cX4_tell 47 = .ok (.getfield 15, 3) := by decide +kernel
theorem dX4_tell_50 : decode cX4_tell 50 = .ok (.invokevirtual 65, 3) := by decide +kernel
theorem dX4_tell_53 : decode cX4_tell 53 = .ok (.ireturn, 1) := by decide +kernel
theorem dX4_tell_54 : decode cX4_tell 54 = .ok (.aload_n 0, 1) := by decide +kernel
theorem dX4_tell_55 : decode cX4_tell 55 = .ok (.aload_n 0, 1) := by decide +kernel
theorem dX4_tell_56 : decode cX4_tell 56 = .ok (.getfield 19, 3) := by decide +kernel
theorem dX4_tell_59 : decode cX4_tell 59 = .ok (.invokevirtual 65, 3) := by decide +kernel
theorem dX4_tell_62 : decode cX4_tell 62 = .ok (.ireturn, 1) := by decide +kernel
theorem dX4_tell_63 : decode cX4_tell 63 = .ok (.aload_n 0, 1) := by decide +kernel
theorem dX4_tell_64 : decode cX4_tell 64 = .ok (.invokevirtual 69, 3) := by decide +kernel
theorem dX4_tell_67 : decode cX4_tell 67 = .ok (.ireturn, 1) := by decide +kernel
theorem dX4_tell_68 : decode cX4_tell 68 = .ok (.aload_n 0, 1) := by decide +kernel
theorem dX4_tell_69 : decode cX4_tell 69 = .ok (.getfield 9, 3) := by decide +kernel
theorem dX4_tell_72 : decode cX4_tell 72 = .ok (.ifCond .ne 7, 3) := by decide +kernel
theorem dX4_tell_75 : decode cX4_tell 75 = .ok (.iconst (-1), 1) := by decide +kernel
theorem dX4_tell_76 : decode cX4_tell 76 = .ok (.goto 9, 3) := by decide +kernel
theorem dX4_tell_79 : decode cX4_tell 79 = .ok (.aload_n 0, 1) := by decide +kernel
theorem dX4_tell_80 : decode cX4_tell 80 = .ok (.getfield 15, 3) := by decide +kernel
theorem dX4_tell_83 : decode cX4_tell 83 = .ok (.iconst 0, 1) := by decide +kernel
theorem dX4_tell_84 : decode cX4_tell 84 = .ok (.iaload, 1) := by decide +kernel
theorem dX4_tell_85 : decode cX4_tell 85 = .ok (.ireturn, 1) := by decide +kernel
theorem dX4_tell_86 : decode cX4_tell 86 = .ok (.aload_n 0, 1) := by decide +kernel
theorem dX4_tell_87 : decode cX4_tell 87 = .ok (.getfield 9, 3) := by decide +kernel
theorem dX4_tell_90 : decode cX4_tell 90 = .ok (.ifCond .ne 7, 3) := by decide +kernel
theorem dX4_tell_93 : decode cX4_tell 93 = .ok (.iconst (-1), 1) := by decide +kernel
theorem dX4_tell_94 : decode cX4_tell 94 = .ok (.goto 14, 3) := by decide +kernel
theorem dX4_tell_97 : decode cX4_tell 97 = .ok (.aload_n 0, 1) := by decide +kernel
theorem dX4_tell_98 : decode cX4_tell 98 = .ok (.getfield 15, 3) := by decide +kernel
theorem dX4_tell_101 : decode cX4_tell 101 = .ok (.aload_n 0, 1) := by decide +kernel
theorem dX4_tell_102 : decode cX4_tell 102 = .ok (.getfield 9, 3) := by decide +kernel
theorem dX4_tell_105 : decode cX4_tell 105 = .ok (.iconst 1, 1) := by decide +kernel
theorem dX4_tell_106 : decode cX4_tell 106 = .ok (.isub, 1) := by decide +kernel
theorem dX4_tell_107 : decode cX4_tell 107 = .ok (.iaload, 1) := by decide +kernel
theorem dX4_tell_108 : decode cX4_tell 108 = .ok (.ireturn, 1) := by decide +kernel
theorem dX4_tell_109 : decode cX4_tell 109 = .ok (.iload_n 1, 1) := by decide +kernel
theorem dX4_tell_110 : decode cX4_tell 110 = .ok (.bipush 10, 2) := by decide +kernel
theorem dX4_tell_112 : decode cX4_tell 112 = .ok (.if_icmp .lt 14, 3) := by decide +kernel
theorem dX4_tell_115 : decode cX4_tell 115 = .ok (.iload_n 1, 1) := by decide +kernel
theorem dX4_tell_116 : decode cX4_tell 116 = .ok (.bipush 10, 2) := by decide +kernel
theorem dX4_tell_118 : decode cX4_tell 118 = .ok (.isub, 1) := by decide +kernel
theorem dX4_tell_119 : decode cX4_tell 119 = .ok (.aload_n 0, 1) := by decide +kernel
theorem dX4_tell_120 : decode cX4_tell 120 = .ok (.getfield 9, 3) := by decide +kernel
theorem dX4_tell_123 : decode cX4_tell 123 = .ok (.if_icmp .lt 8, 3) := by decide +kernel
theorem dX4_tell_126 : decode cX4_tell 126 = .ok (.bipush (-2), 2) := by decide +kernel
theorem dX4_tell_128 : decode cX4_tell 128 = .ok (.goto 25, 3) := by decide +kernel
theorem dX4_tell_131 : decode cX4_tell 131 = .ok (.bipush 10, 2) := by decide +kernel
theorem dX4_tell_133 : decode cX4_tell 133 = .ok (.aload_n 0, 1) := by decide +kernel
theorem dX4_tell_134 : decode cX4_tell 134 = .ok (.getfield 15, 3) := by decide +kernel
theorem dX4_tell_137 : decode cX4_tell 137 = .ok (.iload_n 1, 1) := by decide +kernel
theorem dX4_tell_138 : decode cX4_tell 138 = .ok (.bipush 10, 2) := by decide +kernel
theorem dX4_tell_140 : decode cX4_tell 140 = .ok (.isub, 1) := by decide +kernel
theorem dX4_tell_141 : decode cX4_tell 141 = .ok (.iaload, 1) := by decide +kernel
theorem dX4_tell_142 : decode cX4_tell 142 = .ok (.imul, 1) := by decide +kernel
theorem dX4_tell_143 : decode cX4_tell 143 = .ok (.aload_n 0, 1) := by decide +kernel
theorem dX4_tell_144 : decode cX4_tell 144 = .ok (.getfield 19, 3) := by decide +kernel
theorem dX4_tell_147 : decode cX4_tell 147 = .ok (.iload_n 1, 1) := by decide +kernel
theorem dX4_tell_148 : decode cX4_tell 148 = .ok (.bipush 10, 2) := by decide +kernel
theorem dX4_tell_150 : decode cX4_tell 150 = .ok (.isub, 1) := by decide +kernel
theorem dX4_tell_151 : decode cX4_tell 151 = .ok (.iaload, 1) := by decide +kernel
theorem dX4_tell_152 : decode cX4_tell 152 = .ok (.iadd, 1) := by decide +kernel
theorem dX4_tell_153 : decode cX4_tell 153 = .ok (.ireturn, 1) := by decide +kernel
theorem dX4_sure_0 : decode cX4_sure 0 = .ok (.iconst 1, 1) := by decide +kernel
theorem dX4_sure_1 : decode cX4_sure 1 = .ok (.istore_n 2, 1) := by decide +kernel
theorem dX4_sure_2 : decode cX4_sure 2 = .ok (.iload_n 2, 1) := by decide +kernel
theorem dX4_sure_3 : decode cX4_sure 3 = .ok (.aload_n 0, 1) := by decide +kernel
theorem dX4_sure_4 : decode cX4_sure 4 = .ok (.getfield 9, 3) := by decide +kernel
theorem dX4_sure_7 : decode cX4_sure 7 = .ok (.if_icmp .ge 20, 3) := by decide +kernel
theorem dX4_sure_10 : decode cX4_sure 10 = .ok (.aload_n 1, 1) := by decide +kernel
theorem dX4_sure_11 : decode cX4_sure 11 = .ok (.iload_n 2, 1) := by decide +kernel
theorem dX4_sure_12 : decode cX4_sure 12 = .ok (.iaload, 1) := by decide +kernel
theorem dX4_sure_13 : decode cX4_sure 13 = .ok (.aload_n 1, 1) := by decide +kernel
theorem dX4_sure_14 : decode cX4_sure 14 = .ok (.iconst 0, 1) := by decide +kernel
theorem dX4_sure_15 : decode cX4_sure 15 = .ok (.iaload, 1) := by decide +kernel
theorem dX4_sure_16 : decode cX4_sure 16 = .ok (.if_icmp .eq 5, 3) := by decide +kernel
theorem dX4_sure_19 : decode cX4_sure 19 = .ok (.iconst (-1), 1) := by decide +kernel
theorem dX4_sure_20 : decode cX4_sure 20 = .ok (.ireturn, 1) := by decide +kernel
theorem dX4_sure_21 : decode cX4_sure 21 = .ok (.iinc 2 1, 3) := by decide +kernel
theorem dX4_sure_24 : decode cX4_sure 24 = .ok (.goto (-22), 3) := by decide +kernel
theorem dX4_sure_27 : decode cX4_sure 27 = .ok (.aload_n 0, 1) := by decide +kernel
theorem dX4_sure_28 : decode cX4_sure 28 = .ok (.getfield 9, 3) := by decide +kernel
theorem dX4_sure_31 : decode cX4_sure 31 = .ok (.ifCond .ne 7, 3) := by decide +kernel
theorem dX4_sure_34 : decode cX4_sure 34 = .ok (.iconst (-1), 1) := by decide +kernel
theorem dX4_sure_35 : decode cX4_sure 35 = .ok (.goto 6, 3) := by decide +kernel
theorem dX4_sure_38 : decode cX4_sure 38 = .ok (.aload_n 1, 1) := by decide +kernel
theorem dX4_sure_39 : decode cX4_sure 39 = .ok (.iconst 0, 1) := by decide +kernel
theorem dX4_sure_40 : decode cX4_sure 40 = .ok (.iaload, 1) := by decide +kernel
theorem dX4_sure_41 : decode cX4_sure 41 = .ok (.ireturn, 1) := by decide +kernel
theorem dX4_ask_0 : decode cX4_ask 0 = .ok (.iconst (-1), 1) := by decide +kernel
theorem dX4_ask_1 : decode cX4_ask 1 = .ok (.istore_n 1, 1) := by decide +kernel
theorem dX4_ask_2 : decode cX4_ask 2 = .ok (.aload_n 0, 1) := by decide +kernel
theorem dX4_ask_3 : decode cX4_ask 3 = .ok (.getfield 9, 3) := by decide +kernel
theorem dX4_ask_6 : decode cX4_ask 6 = .ok (.istore_n 2, 1) := by decide +kernel
theorem dX4_ask_7 : decode cX4_ask 7 = .ok (.iconst 0, 1) := by decide +kernel
theorem dX4_ask_8 : decode cX4_ask 8 = .ok (.istore_n 3, 1) := by decide +kernel
theorem dX4_ask_9 : decode cX4_ask 9 = .ok (.iload_n 3, 1) := by decide +kernel
theorem dX4_ask_10 : decode cX4_ask 10 = .ok (.bipush 8, 2) := by decide +kernel
theorem dX4_ask_12 : decode cX4_ask 12 = .ok (.if_icmp .ge 83, 3) := by decide +kernel
theorem dX4_ask_15 : decode cX4_ask 15 = .ok (.aload_n 0, 1) := by decide +kernel
theorem dX4_ask_16 : decode cX4_ask 16 = .ok (.getfield 9, 3) := by decide +kernel
theorem dX4_ask_19 : decode cX4_ask 19 = .ok (.ifCond .le 76, 3) := by decide +kernel
theorem dX4_ask_22 : decode cX4_ask 22 = .ok (.iconst 0, 1) := by decide +kernel
theorem dX4_ask_23 : decode cX4_ask 23 = .ok (.istore 4, 2) := by decide +kernel
theorem dX4_ask_25 : decode cX4_ask 25 = .ok (.iconst 0, 1) := by decide +kernel
theorem dX4_ask_26 : decode cX4_ask 26 = .ok (.istore 5, 2) := by decide +kernel
theorem dX4_ask_28 : decode cX4_ask 28 = .ok (.iload 5, 2) := by decide +kernel
theorem dX4_ask_30 : decode cX4_ask 30 = .ok (.aload_n 0, 1) := by decide +kernel
theorem dX4_ask_31 : decode cX4_ask 31 = .ok (.getfield 9, 3) := by decide +kernel
theorem dX4_ask_34 : decode cX4_ask 34 = .ok (.if_icmp .ge 25, 3) := by decide +kernel
theorem dX4_ask_37 : decode cX4_ask 37 = .ok (.iload 4, 2) := by decide +kernel
theorem dX4_ask_39 : decode cX4_ask 39 = .ok (.aload_n 0, 1) := by decide +kernel
theorem dX4_ask_40 : decode cX4_ask 40 = .ok (.getfield 22, 3) := by decide +kernel
theorem dX4_ask_43 : decode cX4_ask 43 = .ok (.iload 5, 2) := by decide +kernel
theorem dX4_ask_45 : decode cX4_ask 45 = .ok (.iaload, 1) := by decide +kernel
theorem dX4_ask_46 : decode cX4_ask 46 = .ok (.iload_n 3, 1) := by decide +kernel
theorem dX4_ask_47 : decode cX4_ask 47 = .ok (.ishr, 1) := by decide +kernel
theorem dX4_ask_48 : decode cX4_ask 48 = .ok (.iconst 1, 1) := by decide +kernel
theorem dX4_ask_49 : decode cX4_ask 49 = .ok (.iand, 1) := by decide +kernel
theorem dX4_ask_50 : decode cX4_ask 50 = .ok (.iadd, 1) := by decide +kernel
theorem dX4_ask_51 : decode cX4_ask 51 = .ok (.istore 4, 2) := by decide +kernel
theorem dX4_ask_53 : decode cX4_ask 53 = .ok (.iinc 5 1, 3) := by decide +kernel
theorem dX4_ask_56 : decode cX4_ask 56 = .ok (.goto (-28), 3) := by decide +kernel
theorem dX4_ask_59 : decode cX4_ask 59 = .ok (.iload 4, 2) := by decide +kernel
theorem dX4_ask_61 : decode cX4_ask 61 = .ok (.aload_n 0, 1) := by decide +kernel
theorem dX4_ask_62 : decode cX4_ask 62 = .ok (.getfield 9, 3) := by decide +kernel
theorem dX4_ask_65 : decode cX4_ask 65 = .ok (.iload 4, 2) := by decide +kernel
theorem dX4_ask_67 : decode cX4_ask 67 = .ok (.isub, 1) := by decide +kernel
theorem dX4_ask_68 : decode cX4_ask 68 = .ok (.invokestatic 73, 3) := by decide +kernel
theorem dX4_ask_71 : decode cX4_ask 71 = .ok (.istore 5, 2) := by decide +kernel
theorem dX4_ask_73 : decode cX4_ask 73 = .ok (.iload_n 1, 1) := by decide +kernel
theorem dX4_ask_74 : decode cX4_ask 74 = .ok (.iconst (-1), 1) := by decide +kernel
theorem dX4_ask_75 : decode cX4_ask 75 = .ok (.if_icmp .eq 9, 3) := by decide +kernel
theorem dX4_ask_78 : decode cX4_ask 78 = .ok (.iload 5, 2) := by decide +kernel
theorem dX4_ask_80 : decode cX4_ask 80 = .ok (.iload_n 2, 1) := by decide +kernel
theorem dX4_ask_81 : decode cX4_ask 81 = .ok (.if_icmp .ge 8, 3) := by decide +kernel
theorem dX4_ask_84 : decode cX4_ask 84 = .ok (.iload_n 3, 1) := by decide +kernel
theorem dX4_ask_85 : decode cX4_ask 85 = .ok (.istore_n 1, 1) := by decide +kernel
theorem dX4_ask_86 : decode cX4_ask 86 = .ok (.iload 5, 2) := by decide +kernel
theorem dX4_ask_88 : decode cX4_ask 88 = .ok (.istore_n 2, 1) := by decide +kernel
theorem dX4_ask_89 : decode cX4_ask 89 = .ok (.iinc 3 1, 3) := by decide +kernel
theorem dX4_ask_92 : decode cX4_ask 92 = .ok (.goto (-83), 3) := by decide +kernel
theorem dX4_ask_95 : decode cX4_ask 95 = .ok (.iload_n 1, 1) := by decide +kernel
theorem dX4_ask_96 : decode cX4_ask 96 = .ok (.ireturn, 1) := by decide +kernel
theorem dX8_init_0 : decode cX8_init 0 = .ok (.aload_n 0, 1) := by decide +kernel
theorem dX8_init_1 : decode cX8_init 1 = .ok (.invokespecial 3, 3) := by decide +kernel
theorem dX8_init_4 : decode cX8_init 4 = .ok (.aload_n 0, 1) := by decide +kernel
theorem dX8_init_5 : decode cX8_init 5 = .ok (.iconst 0, 1) := by decide +kernel
theorem dX8_init_6 : decode cX8_init 6 = .ok (.putfield 9, 3) := by decide +kernel
theorem dX8_init_9 : decode cX8_init 9 = .ok (.aload_n 0, 1) := by decide +kernel
theorem dX8_init_10 : decode cX8_init 10 = .ok (.aconst_null, 1) := by decide +kernel
theorem dX8_init_11 : decode cX8_init 11 = .ok (.putfield 15, 3) := by decide +kernel
theorem dX8_init_14 : decode cX8_init 14 = .ok (.aload_n 0, 1) := by decide +kernel
theorem dX8_init_15 : decode cX8_init 15 = .ok (.iconst 0, 1) := by decide +kernel
theorem dX8_init_16 : decode cX8_init 16 = .ok (.putfield 19, 3) := by decide +kernel
theorem dX8_init_19 : decode cX8_init 19 = .ok (.aload_n 0, 1) := by decide +kernel
theorem dX8_init_20 : decode cX8_init 20 = .ok (.bipush 6, 2) := by decide +kernel
theorem dX8_init_22 : decode cX8_init 22 = .ok (.newarray .int, 2) := by decide +kernel
theorem dX8_init_24 : decode cX8_init 24 = .ok (.putfield 22, 3) := by decide +kernel
theorem dX8_init_27 : decode cX8_init 27 = .ok (.aload_n 0, 1) := by decide +kernel
theorem dX8_init_28 : decode cX8_init 28 = .ok (.bipush 6, 2) := by decide +kernel
theorem dX8_init_30 : decode cX8_init 30 = .ok (.newarray .int, 2) := by decide +kernel
theorem dX8_init_32 : decode cX8_init 32 = .ok (.putfield 26, 3) := by decide +kernel
theorem dX8_init_35 : decode cX8_init 35 = .ok (.aload_n 0, 1) := by decide +kernel
theorem dX8_init_36 : decode cX8_init 36 = .ok (.bipush 64, 2) := by decide +kernel
theorem dX8_init_38 : decode cX8_init 38 = .ok (.newarray .int, 2) := by decide +kernel
theorem dX8_init_40 : decode cX8_init 40 = .ok (.putfield 29, 3) := by decide +kernel
theorem dX8_init_43 : decode cX8_init 43 = .ok (.return_, 1) := by decide +kernel
theorem dX8_learn_0 : decode cX8_learn 0 = .ok (.aload_n 0, 1) := by decide +kernel
theorem dX8_learn_1 : decode cX8_learn 1 = .ok (.aload_n 2, 1) := by decide +kernel
theorem dX8_learn_2 : decode cX8_learn 2 = .ok (.putfield 15, 3) := by decide +kernel
theorem dX8_learn_5 : decode cX8_learn 5 = .ok (.aload_n 0, 1) := by decide +kernel
theorem dX8_learn_6 : decode cX8_learn 6 = .ok (.aload_n 2, 1) := by decide +kernel
theorem dX8_learn_7 : decode cX8_learn 7 = .ok (.getfield 32, 3) := by decide +kernel
theorem dX8_learn_10 : decode cX8_learn 10 = .ok (.bipush 6, 2) := by decide +kernel
theorem dX8_learn_12 : decode cX8_learn 12 = .ok (.invokestatic 35, 3) := by decide +kernel
theorem dX8_learn_15 : decode cX8_learn 15 = .ok (.putfield 19, 3) := by decide +kernel
theorem dX8_learn_18 : decode cX8_learn 18 = .ok (.iconst 0, 1) := by decide +kernel
theorem dX8_learn_19 : decode cX8_learn 19 = .ok (.istore_n 3, 1) := by decide +kernel
theorem dX8_learn_20 : decode cX8_learn 20 = .ok (.iload_n 3, 1) := by decide +kernel
theorem dX8_learn_21 : decode cX8_learn 21 = .ok (.aload_n 0, 1) := by decide +kernel
theorem dX8_learn_22 : decode cX8_learn 22 = .ok (.getfield 19, 3) := by decide +kernel
theorem dX8_learn_25 : decode cX8_learn 25 = .ok (.if_icmp .ge 43, 3) := by decide +kernel
theorem dX8_learn_28 : decode cX8_learn 28 = .ok (.aload_n 1, 1) := by decide +kernel
theorem dX8_learn_29 : decode cX8_learn 29 = .ok (.aload_n 0, 1) := by decide +kernel
theorem dX8_learn_30 : decode cX8_learn 30 = .ok (.iload_n 3, 1) := by decide +kernel
theorem dX8_learn_31 : decode cX8_learn 31 = .ok (.invokevirtual 41, 3) := by decide +kernel
theorem dX8_learn_34 : decode cX8_learn 34 = .ok (.invokevirtual 45, 3) := by decide +kernel
theorem dX8_learn_37 : decode cX8_learn 37 = .ok (.ifCond .ne 5, 3) := by decide +kernel
theorem dX8_learn_40 : decode cX8_learn 40 = .ok (.iconst 0, 1) := by decide +kernel
theorem dX8_learn_41 : decode cX8_learn 41 = .ok (.ireturn, 1) := by decide +kernel
theorem dX8_learn_42 : decode cX8_learn 42 = .ok (.aload_n 0, 1) := by decide +kernel
theorem dX8_learn_43 : decode cX8_learn 43 = .ok (.getfield 22, 3) := by decide +kernel
theorem dX8_learn_46 : decode cX8_learn 46 = .ok (.iload_n 3, 1) := by decide +kernel
theorem dX8_learn_47 : decode cX8_learn 47 = .ok (.aload_n 1, 1) := by decide +kernel
theorem dX8_learn_48 : decode cX8_learn 48 = .ok (.aload_n 0, 1) := by decide +kernel
theorem dX8_learn_49 : decode cX8_learn 49 = .ok (.iload_n 3, 1) := by decide +kernel
theorem dX8_learn_50 : decode cX8_learn 50 = .ok (.invokevirtual 41, 3) := by decide +kernel
theorem dX8_learn_53 : decode cX8_learn 53 = .ok (.aload_n 0, 1) := by decide +kernel
theorem dX8_learn_54 : decode cX8_learn 54 = .ok (.iload_n 3, 1) := by decide +kernel
theorem dX8_learn_55 : decode cX8_learn 55 = .ok (.invokevirtual 51, 3) := by decide +kernel
theorem dX8_learn_58 : decode cX8_learn 58 = .ok (.invokestatic 54, 3) := by decide +kernel
theorem dX8_learn_61 : decode cX8_learn 61 = .ok (.iastore, 1) := by decide +kernel
theorem dX8_learn_62 : decode cX8_learn 62 = .ok (.iinc 3 1, 3) := by decide +kernel
theorem dX8_learn_65 : decode cX8_learn 65 = .ok (.goto (-45), 3) := by decide +kernel
theorem dX8_learn_68 : decode cX8_learn 68 = .ok (.aload_n 0, 1) := by decide +kernel
theorem dX8_learn_69 : decode cX8_learn 69 = .ok (.iconst 0, 1) := by decide +kernel
theorem dX8_learn_70 : decode cX8_learn 70 = .ok (.putfield 9, 3) := by decide +kernel
theorem dX8_learn_73 : decode cX8_learn 73 = .ok (.iconst 0, 1) := by decide +kernel
theorem dX8_learn_74 : decode cX8_learn 74 = .ok (.istore_n 3, 1) := by decide +kernel
theorem dX8_learn_75 : decode cX8_learn 75 = .ok (.iload_n 3, 1) := by decide +kernel
theorem dX8_learn_76 : decode cX8_learn 76 = .ok (.iconst 1, 1) := by decide +kernel
theorem dX8_learn_77 : decode cX8_learn 77 = .ok (.aload_n 0, 1) := by decide +kernel
theorem dX8_learn_78 : decode cX8_learn 78 = .ok (.getfield 19, 3) := by decide +kernel
theorem dX8_learn_81 : decode cX8_learn 81 = .ok (.ishl, 1) := by decide +kernel
theorem dX8_learn_82 : decode cX8_learn 82 = .ok (.if_icmp .ge 55, 3) := by decide +kernel
theorem dX8_learn_85 : decode cX8_learn 85 = .ok (.aload_n 0, 1) := by decide +kernel
theorem dX8_learn_86 : decode cX8_learn 86 = .ok (.getfield 29, 3) := by decide +kernel
theorem dX8_learn_89 : decode cX8_learn 89 = .ok (.iload_n 3, 1) := by decide +kernel
theorem dX8_learn_90 : decode cX8_learn 90 = .ok (.aload_n 0, 1) := by decide +kernel
theorem dX8_learn_91 : decode cX8_learn 91 = .ok (.aload_n 1, 1) := by decide +kernel
theorem dX8_learn_92 : decode cX8_learn 92 = .ok (.iload_n 3, 1) := by decide +kernel
theorem dX8_learn_93 : decode cX8_learn 93 = .ok (.invokevirtual 58, 3) := by decide +kernel
theorem dX8_learn_96 : decode cX8_learn 96 = .ok (.iastore, 1) := by decide +kernel
theorem dX8_learn_97 : decode cX8_learn 97 = .ok (.aload_n 0, 1) := by decide +kernel
theorem dX8_learn_98 : decode cX8_learn 98 = .ok (.getfield 29, 3) := by decide +kernel
theorem dX8_learn_101 : decode cX8_learn 101 = .ok (.iload_n 3, 1) := by decide +kernel
theorem dX8_learn_102 : decode cX8_learn 102 = .ok (.iaload, 1) := by decide +kernel
theorem dX8_learn_103 : decode cX8_learn 103 = .ok (.aload_n 0, 1) := by decide +kernel
theorem dX8_learn_104 : decode cX8_learn 104 = .ok (.getfield 9, 3) := by decide +kernel
theorem dX8_learn_107 : decode cX8_learn 107 = .ok (.if_icmp .le 24, 3) := by decide +kernel
theorem dX8_learn_110 : decode cX8_learn 110 = .ok (.aload_n 0, 1) := by decide +kernel
theorem dX8_learn_111 : decode cX8_learn 111 = .ok (.iconst 0, 1) := by decide +kernel
theorem dX8_learn_112 : decode cX8_learn 112 = .ok (.iload_n 3, 1) := by decide +kernel
theorem dX8_learn_113 : decode cX8_learn 113 = .ok (.bipush 63, 2) := by decide +kernel
theorem dX8_learn_115 : decode cX8_learn 115 = .ok (.invokevirtual 62, 3) := by decide +kernel
theorem dX8_learn_118 : decode cX8_learn 118 = .ok (.ifCond .eq 13, 3) := by decide +kernel
theorem dX8_learn_121 : decode cX8_learn 121 = .ok (.aload_n 0, 1) := by decide +kernel
theorem dX8_learn_122 : decode cX8_learn 122 = .ok (.aload_n 0, 1) := by decide +kernel
theorem dX8_learn_123 : decode cX8_learn 123 = .ok (.getfield 29, 3) := by decide +kernel
theorem dX8_learn_126 : decode cX8_learn 126 = .ok (.iload_n 3, 1) := by decide +kernel
theorem dX8_learn_127 : decode cX8_learn 127 = .ok (.iaload, 1) := by decide +kernel
theorem dX8_learn_128 : decode cX8_learn 128 = .ok (.putfield 9, 3) := by decide +kernel
theorem dX8_learn_131 : decode cX8_learn 131 = .ok (.iinc 3 1, 3) := by decide +kernel
theorem dX8_learn_134 : decode cX8_learn 134 = .ok (.goto (-59), 3) := by decide +kernel
theorem dX8_learn_137 : decode cX8_learn 137 = .ok (.iconst 1, 1) := by decide +kernel
theorem dX8_learn_138 : decode cX8_learn 138 = .ok (.ireturn, 1) := by decide +kernel
theorem dX8_whoOf_0 : decode cX8_whoOf 0 = .ok (.aload_n 0, 1) := by decide +kernel
theorem dX8_whoOf_1 : decode cX8_whoOf 1 = .ok (.getfield 15, 3) := by decide +kernel
theorem dX8_whoOf_4 : decode cX8_whoOf 4 = .ok (.ifnonnull 7, 3) := by decide +kernel
theorem dX8_whoOf_7 : decode cX8_whoOf 7 = .ok (.iconst (-1), 1) := by decide +kernel
theorem dX8_whoOf_8 : decode cX8_whoOf 8 = .ok (.goto 12, 3) := by decide +kernel
theorem dX8_whoOf_11 : decode cX8_whoOf 11 = .ok (.aload_n 0, 1) := by decide +kernel
theorem dX8_whoOf_12 : decode cX8_whoOf 12 = .ok (.getfield 15, 3) := by decide +kernel
theorem dX8_whoOf_15 : decode cX8_whoOf 15 = .ok (.iload_n 1, 1) := by decide +kernel
theorem dX8_whoOf_16 : decode cX8_whoOf 16 = .ok (.iconst 1, 1) := by decide +kernel
theorem dX8_whoOf_17 : decode cX8_whoOf 17 = .ok (.invokevirtual 66, 3) := by decide +kernel
theorem dX8_whoOf_20 : decode cX8_whoOf 20 = .ok (.ireturn, 1) := by decide +kernel
theorem dX8_thingOf_0 : decode cX8_thingOf 0 = .ok (.aload_n 0, 1) := by decide +kernel
theorem dX8_thingOf_1 : decode cX8_thingOf 1 = .ok (.getfield 15, 3) := by decide +kernel
theorem dX8_thingOf_4 : decode cX8_thingOf 4 = .ok (.ifnonnull 7, 3) := by decide +kernel
theorem dX8_thingOf_7 : decode cX8_thingOf 7 = .ok (.iconst (-1), 1) := by decide +kernel
theorem dX8_thingOf_8 : decode cX8_thingOf 8 = .ok (.goto 12, 3) := by decide +kernel
theorem dX8_thingOf_11 : decode cX8_thingOf 11 = .ok (.aload_n 0, 1) := by decide +kernel
theorem dX8_thingOf_12 : decode cX8_thingOf 12 = .ok (.getfield 15, 3) := by decide +kernel
theorem dX8_thingOf_15 : decode cX8_thingOf 15 = .ok (.iload_n 1, 1) := by decide +kernel
theorem dX8_thingOf_16 : decode cX8_thingOf 16 = .ok (.iconst 2, 1) := by decide +kernel
theorem dX8_thingOf_17 : decode cX8_thingOf 17 = .ok (.invokevirtual 66, 3) := by decide +kernel
theorem dX8_thingOf_20 : decode cX8_thingOf 20 = .ok (.ireturn, 1) := by decide +kernel
theorem dX8_openersOf_0 : decode cX8_openersOf 0 = .ok (.iconst 0, 1) := by decide +kernel
theorem dX8_openersOf_1 : decode cX8_openersOf 1 = .ok (.istore_n 3, 1) := by decide +kernel
theorem dX8_openersOf_2 : decode cX8_openersOf 2 = .ok (.iconst 0, 1) := by decide +kernel
theorem dX8_openersOf_3 : decode cX8_openersOf 3 = .ok (.istore 4, 2) := by decide +kernel
theorem dX8_openersOf_5 : decode cX8_openersOf 5 = .ok (.iload 4, 2) := by decide +kernel
theorem dX8_openersOf_7 : decode cX8_openersOf 7 = .ok (.aload_n 0, 1) := by decide +kernel
theorem dX8_openersOf_8 : decode cX8_openersOf 8 = .ok (.getfield 69, 3) := by decide +kernel
theorem dX8_openersOf_11 : decode cX8_openersOf 11 = .ok (.if_icmp .ge 36, 3) := by decide +kernel
theorem dX8_openersOf_14 : decode cX8_openersOf 14 = .ok (.iload 4, 2) := by decide +kernel
theorem dX8_openersOf_16 : decode cX8_openersOf 16 = .ok (.iload_n 1, 1) := by decide +kernel
theorem dX8_openersOf_17 : decode cX8_openersOf 17 = .ok (.if_icmp .eq 24, 3) := by decide +kernel
theorem dX8_openersOf_20 : decode cX8_openersOf 20 = .ok (.aload_n 0, 1) := by decide +kernel
theorem dX8_openersOf_21 : decode cX8_openersOf 21 = .ok (.iload 4, 2) := by decide +kernel
theorem dX8_openersOf_23 : decode cX8_openersOf 23 = .ok (.iload_n 1, 1) := by decide +kernel
theorem dX8_openersOf_24 : decode cX8_openersOf 24 = .ok (.invokevirtual 72, 3) := by decide +kernel
theorem dX8_openersOf_27 : decode cX8_openersOf 27 = .ok (.iload_n 2, 1) := by decide +kernel
theorem dX8_openersOf_28 : decode cX8_openersOf 28 = .ok (.invokestatic 75, 3) := by decide +kernel
theorem dX8_openersOf_31 : decode cX8_openersOf 31 = .ok (.ifCond .eq 10, 3) := by decide +kernel
theorem dX8_openersOf_34 : decode cX8_openersOf 34 = .ok (.iload_n 3, 1) := by decide +kernel
theorem dX8_openersOf_35 : decode cX8_openersOf 35 = .ok (.iconst 1, 1) := by decide +kernel
theorem dX8_openersOf_36 : decode cX8_openersOf 36 = .ok (.iload 4, 2) := by decide +kernel
theorem dX8_openersOf_38 : decode cX8_openersOf 38 = .ok (.ishl, 1) := by decide +kernel
theorem dX8_openersOf_39 : decode cX8_openersOf 39 = .ok (.ior, 1) := by decide +kernel
theorem dX8_openersOf_40 : decode cX8_openersOf 40 = .ok (.istore_n 3, 1) := by decide +kernel
theorem dX8_openersOf_41 : decode cX8_openersOf 41 = .ok (.iinc 4 1, 3) := by decide +kernel
theorem dX8_openersOf_44 : decode cX8_openersOf 44 = .ok (.goto (-39), 3) := by decide +kernel
theorem dX8_openersOf_47 : decode cX8_openersOf 47 = .ok (.iload_n 3, 1) := by decide +kernel
theorem dX8_openersOf_48 : decode cX8_openersOf 48 = .ok (.ireturn, 1) := by decide +kernel
theorem dX8_countKept_0 : decode cX8_countKept 0 = .ok (.iconst 0, 1) := by decide +kernel
theorem dX8_countKept_1 : decode cX8_countKept 1 = .ok (.istore_n 3, 1) := by decide +kernel
theorem dX8_countKept_2 : decode cX8_countKept 2 = .ok (.iload_n 3, 1) := by decide +kernel
theorem dX8_countKept_3 : decode cX8_countKept 3 = .ok (.bipush 6, 2) := by decide +kernel
theorem dX8_countKept_5 : decode cX8_countKept 5 = .ok (.if_icmp .ge 16, 3) := by decide +kernel
theorem dX8_countKept_8 : decode cX8_countKept 8 = .ok (.aload_n 0, 1) := by decide +kernel
theorem dX8_countKept_9 : decode cX8_countKept 9 = .ok (.getfield 26, 3) := by decide +kernel
theorem dX8_countKept_12 : decode cX8_countKept 12 = .ok (.iload_n 3, 1) := by decide +kernel
theorem dX8_countKept_13 : decode cX8_countKept 13 = .ok (.iconst 0, 1) := by decide +kernel
theorem dX8_countKept_14 : decode cX8_countKept 14 = .ok (.iastore, 1) := by decide +kernel
theorem dX8_countKept_15 : decode cX8_countKept 15 = .ok (.iinc 3 1, 3) := by decide +kernel
theorem dX8_countKept_18 : decode cX8_countKept 18 = .ok (.goto (-16), 3) := by decide +kernel
theorem dX8_countKept_21 : decode cX8_countKept 21 = .ok (.iconst 0, 1) := by decide +kernel
theorem dX8_countKept_22 : decode cX8_countKept 22 = .ok (.istore_n 3, 1) := by decide +kernel
theorem dX8_countKept_23 : decode cX8_countKept 23 = .ok (.iload_n 3, 1) := by decide +kernel
theorem dX8_countKept_24 : decode cX8_countKept 24 = .ok (.aload_n 0, 1) := by decide +kernel
theorem dX8_countKept_25 : decode cX8_countKept 25 = .ok (.getfield 19, 3) := by decide +kernel
theorem dX8_countKept_28 : decode cX8_countKept 28 = .ok (.if_icmp .ge 37, 3) := by decide +kernel
theorem dX8_countKept_31 : decode cX8_countKept 31 = .ok (.iload_n 2, 1) := by decide +kernel
theorem dX8_countKept_32 : decode cX8_countKept 32 = .ok (.iload_n 3, 1) := by decide +kernel
theorem dX8_countKept_33 : decode cX8_countKept 33 = .ok (.invokestatic 75, 3) := by decide +kernel
theorem dX8_countKept_36 : decode cX8_countKept 36 = .ok (.ifCond .eq 23, 3) := by decide +kernel
theorem dX8_countKept_39 : decode cX8_countKept 39 = .ok (.aload_n 0, 1) := by decide +kernel
theorem dX8_countKept_40 : decode cX8_countKept 40 = .ok (.getfield 26, 3) := by decide +kernel
theorem dX8_countKept_43 : decode cX8_countKept 43 = .ok (.aload_n 0, 1) := by decide +kernel
theorem dX8_countKept_44 : decode cX8_countKept 44 = .ok (.iload_n 3, 1) := by decide +kernel
theorem dX8_countKept_45 : decode cX8_countKept 45 = .ok (.invokevirtual 41, 3) := by decide +kernel
theorem dX8_countKept_48 : decode cX8_countKept 48 = .ok (.dup2, 1) := by decide +kernel
theorem dX8_countKept_49 : decode cX8_countKept 49 = .ok (.iaload, 1) := by decide +kernel
theorem dX8_countKept_50 : decode cX8_countKept 50 = .ok (.iconst 1, 1) := by decide +kernel
theorem dX8_countKept_51 : decode cX8_countKept 51 = .ok (.aload_n 0, 1) := by decide +kernel
theorem dX8_countKept_52 : decode cX8_countKept 52 = .ok (.iload_n 3, 1) := by decide +kernel
theorem dX8_countKept_53 : decode cX8_countKept 53 = .ok (.invokevirtual 51, 3) := by decide +kernel
theorem dX8_countKept_56 : decode cX8_countKept 56 = .ok (.ishl, 1) := by decide +kernel
theorem dX8_countKept_57 : decode cX8_countKept 57 = .ok (.ior, 1) := by decide +kernel
theorem dX8_countKept_58 : decode cX8_countKept 58 = .ok (.iastore, 1) := by decide +kernel
theorem dX8_countKept_59 : decode cX8_countKept 59 = .ok (.iinc 3 1, 3) := by decide +kernel
theorem dX8_countKept_62 : decode cX8_countKept 62 = .ok (.goto (-39), 3) := by decide +kernel
theorem dX8_countKept_65 : decode cX8_countKept 65 = .ok (.iconst 0, 1) := by decide +kernel
theorem dX8_countKept_66 : decode cX8_countKept 66 = .ok (.istore_n 3, 1) := by decide +kernel
theorem dX8_countKept_67 : decode cX8_countKept 67 = .ok (.iconst 0, 1) := by decide +kernel
theorem dX8_countKept_68 : decode cX8_countKept 68 = .ok (.istore 4, 2) := by decide +kernel
theorem dX8_countKept_70 : decode cX8_countKept 70 = .ok (.iload 4, 2) := by decide +kernel
theorem dX8_countKept_72 : decode cX8_countKept 72 = .ok (.aload_n 0, 1) := by decide +kernel
theorem dX8_countKept_73 : decode cX8_countKept 73 = .ok (.getfield 19, 3) := by decide +kernel
theorem dX8_countKept_76 : decode cX8_countKept 76 = .ok (.if_icmp .ge 50, 3) := by decide +kernel
theorem dX8_countKept_79 : decode cX8_countKept 79 = .ok (.aload_n 0, 1) := by decide +kernel
theorem dX8_countKept_80 : decode cX8_countKept 80 = .ok (.iload 4, 2) := by decide +kernel
theorem dX8_countKept_82 : decode cX8_countKept 82 = .ok (.invokevirtual 41, 3) := by decide +kernel
theorem dX8_countKept_85 : decode cX8_countKept 85 = .ok (.istore 5, 2) := by decide +kernel
theorem dX8_countKept_87 : decode cX8_countKept 87 = .ok (.aload_n 1, 1) := by decide +kernel
theorem dX8_countKept_88 : decode cX8_countKept 88 = .ok (.aload_n 0, 1) := by decide +kernel
theorem dX8_countKept_89 : decode cX8_countKept 89 = .ok (.getfield 26, 3) := by decide +kernel
theorem dX8_countKept_92 : decode cX8_countKept 92 = .ok (.iload 5, 2) := by decide +kernel
theorem dX8_countKept_94 : decode cX8_countKept 94 = .ok (.iaload, 1) := by decide +kernel
theorem dX8_countKept_95 : decode cX8_countKept 95 = .ok (.aload_n 1, 1) := by decide +kernel
theorem dX8_countKept_96 : decode cX8_countKept 96 = .ok (.getfield 79, 3) := by decide +kernel
theorem dX8_countKept_99 : decode cX8_countKept 99 = .ok (.iload 5, 2) := by decide +kernel
theorem dX8_countKept_101 : decode cX8_countKept 101 = .ok (.iaload, 1) := by decide +kernel
theorem dX8_countKept_102 : decode cX8_countKept 102 = .ok (.invokevirtual 82, 3) := by decide +kernel
theorem dX8_countKept_105 : decode cX8_countKept 105 = .ok (.aload_n 0, 1) := by decide +kernel
theorem dX8_countKept_106 : decode cX8_countKept 106 = .ok (.iload 4, 2) := by decide +kernel
theorem dX8_countKept_108 : decode cX8_countKept 108 = .ok (.invokevirtual 51, 3) := by decide +kernel
theorem dX8_countKept_111 : decode cX8_countKept 111 = .ok (.invokestatic 75, 3) := by decide +kernel
theorem dX8_countKept_114 : decode cX8_countKept 114 = .ok (.ifCond .eq 6, 3) := by decide +kernel
theorem dX8_countKept_117 : decode cX8_countKept 117 = .ok (.iinc 3 1, 3) := by decide +kernel
theorem dX8_countKept_120 : decode cX8_countKept 120 = .ok (.iinc 4 1, 3) := by decide +kernel
theorem dX8_countKept_123 : decode cX8_countKept 123 = .ok (.goto (-53), 3) := by decide +kernel
theorem dX8_countKept_126 : decode cX8_countKept 126 = .ok (.iload_n 3, 1) := by decide +kernel
theorem dX8_countKept_127 : decode cX8_countKept 127 = .ok (.ireturn, 1) := by decide +kernel
theorem dX8_canSwear_0 : decode cX8_canSwear 0 = .ok (.iload_n 1, 1) := by decide +kernel
theorem dX8_canSwear_1 : decode cX8_canSwear 1 = .ok (.aload_n 0, 1) := by decide +kernel
theorem dX8_canSwear_2 : decode cX8_canSwear 2 = .ok (.getfield 19, 3) := by decide +kernel
theorem dX8_canSwear_5 : decode cX8_canSwear 5 = .ok (.if_icmp .lt 5, 3) := by decide +kernel
theorem dX8_canSwear_8 : decode cX8_canSwear 8 = .ok (.iconst 1, 1) := by decide +kernel
theorem dX8_canSwear_9 : decode cX8_canSwear 9 = .ok (.ireturn, 1) := by decide +kernel
theorem dX8_canSwear_10 : decode cX8_canSwear 10 = .ok (.iload_n 2, 1) := by decide +kernel
theorem dX8_canSwear_11 : decode cX8_canSwear 11 = .ok (.iload_n 1, 1) := by decide +kernel
theorem dX8_canSwear_12 : decode cX8_canSwear 12 = .ok (.invokestatic 75, 3) := by decide +kernel
theorem dX8_canSwear_15 : decode cX8_canSwear 15 = .ok (.ifCond .ne 13, 3) := by decide +kernel
theorem dX8_canSwear_18 : decode cX8_canSwear 18 = .ok (.aload_n 0, 1) := by decide +kernel
theorem dX8_canSwear_19 : decode cX8_canSwear 19 = .ok (.iload_n 1, 1) := by decide +kernel
theorem dX8_canSwear_20 : decode cX8_canSwear 20 = .ok (.iconst 1, 1) := by decide +kernel
theorem dX8_canSwear_21 : decode cX8_canSwear 21 = .ok (.iadd, 1) := by decide +kernel
theorem dX8_canSwear_22 : decode cX8_canSwear 22 = .ok (.iload_n 2, 1) := by decide +kernel
theorem dX8_canSwear_23 : decode cX8_canSwear 23 = .ok (.iload_n 3, 1) := by decide +kernel
theorem dX8_canSwear_24 : decode cX8_canSwear 24 = .ok (.invokevirtual 62, 3) := by decide +kernel
theorem dX8_canSwear_27 : decode cX8_canSwear 27 = .ok (.ireturn, 1) := by decide +kernel
theorem dX8_canSwear_28 : decode cX8_canSwear 28 = .ok (.iconst 0, 1) := by decide +kernel
theorem dX8_canSwear_29 : decode cX8_canSwear 29 = .ok (.istore 4, 2) := by decide +kernel
theorem dX8_canSwear_31 : decode cX8_canSwear 31 = .ok (.iload 4, 2) := by decide +kernel
theorem dX8_canSwear_33 : decode cX8_canSwear 33 = .ok (.bipush 6, 2) := by decide +kernel
theorem dX8_canSwear_35 : decode cX8_canSwear 35 = .ok (.if_icmp .ge 46, 3) := by decide +kernel
theorem dX8_canSwear_38 : decode cX8_canSwear 38 = .ok (.aload_n 0, 1) := by decide +kernel
theorem dX8_canSwear_39 : decode cX8_canSwear 39 = .ok (.getfield 22, 3) := by decide +kernel
theorem dX8_canSwear_42 : decode cX8_canSwear 42 = .ok (.iload_n 1, 1) := by decide +kernel
theorem dX8_canSwear_43 : decode cX8_canSwear 43 = .ok (.iaload, 1) := by decide +kernel
theorem dX8_canSwear_44 : decode cX8_canSwear 44 = .ok (.iload_n 3, 1) := by decide +kernel
theorem dX8_canSwear_45 : decode cX8_canSwear 45 = .ok (.iand, 1) := by decide +kernel
theorem dX8_canSwear_46 : decode cX8_canSwear 46 = .ok (.iload 4, 2) := by decide +kernel
theorem dX8_canSwear_48 : decode cX8_canSwear 48 = .ok (.invokestatic 75, 3) := by decide +kernel
theorem dX8_canSwear_51 : decode cX8_canSwear 51 = .ok (.ifCond .eq 24, 3) := by decide +kernel
theorem dX8_canSwear_54 : decode cX8_canSwear 54 = .ok (.aload_n 0, 1) := by decide +kernel
theorem dX8_canSwear_55 : decode cX8_canSwear 55 = .ok (.iload_n 1, 1) := by decide +kernel
theorem dX8_canSwear_56 : decode cX8_canSwear 56 = .ok (.iconst 1, 1) := by decide +kernel
theorem dX8_canSwear_57 : decode cX8_canSwear 57 = .ok (.iadd, 1) := by decide +kernel
theorem dX8_canSwear_58 : decode cX8_canSwear 58 = .ok (.iload_n 2, 1) := by decide +kernel
theorem dX8_canSwear_59 : decode cX8_canSwear 59 = .ok (.iload_n 3, 1) := by decide +kernel
theorem dX8_canSwear_60 : decode cX8_canSwear 60 = .ok (.iconst 1, 1) := by decide +kernel
theorem dX8_canSwear_61 : decode cX8_canSwear 61 = .ok (.iload 4, 2) := by decide +kernel
theorem dX8_canSwear_63 : decode cX8_canSwear 63 = .ok (.ishl, 1) := by decide +kernel
theorem dX8_canSwear_64 : decode cX8_canSwear 64 = .ok (.iconst (-1), 1) := by decide +kernel
theorem dX8_canSwear_65 : decode cX8_canSwear 65 = .ok (.ixor, 1) := by decide +kernel
theorem dX8_canSwear_66 : decode cX8_canSwear 66 = .ok (.iand, 1) := by decide +kernel
theorem dX8_canSwear_67 : decode cX8_canSwear 67 = .ok (.invokevirtual 62, 3) := by decide +kernel
theorem dX8_canSwear_70 : decode cX8_canSwear 70 = .ok (.ifCond .eq 5, 3) := by decide +kernel
theorem dX8_canSwear_73 : decode cX8_canSwear 73 = .ok (.iconst 1, 1) := by decide +kernel
theorem dX8_canSwear_74 : decode cX8_canSwear 74 = .ok (.ireturn, 1) := by decide +kernel
theorem dX8_canSwear_75 : decode cX8_canSwear 75 = .ok (.iinc 4 1, 3) := by decide +kernel
theorem dX8_canSwear_78 : decode cX8_canSwear 78 = .ok (.goto (-47), 3) := by decide +kernel
theorem dX8_canSwear_81 : decode cX8_canSwear 81 = .ok (.iconst 0, 1) := by decide +kernel
theorem dX8_canSwear_82 : decode cX8_canSwear 82 = .ok (.ireturn, 1) := by decide +kernel
