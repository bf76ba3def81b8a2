theorem dX8_swearerOf_0 : decode cX8_swearerOf 0 = .ok (.iload_n 2, 1) := by decide +kernel
theorem dX8_swearerOf_1 : decode cX8_swearerOf 1 = .ok (.ifCond .lt 11, 3) := by decide +kernel
theorem dX8_swearerOf_4 : decode cX8_swearerOf 4 = .ok (.iload_n 2, 1) := by decide +kernel
theorem dX8_swearerOf_5 : decode cX8_swearerOf 5 = .ok (.aload_n 0, 1) := by decide +kernel
theorem dX8_swearerOf_6 : decode cX8_swearerOf 6 = .ok (.getfield 19, 3) := by decide +kernel
theorem dX8_swearerOf_9 : decode cX8_swearerOf 9 = .ok (.if_icmp .lt 5, 3) := by decide +kernel
theorem dX8_swearerOf_12 : decode cX8_swearerOf 12 = .ok (.iconst (-1), 1) := by decide +kernel
theorem dX8_swearerOf_13 : decode cX8_swearerOf 13 = .ok (.ireturn, 1) := by decide +kernel
theorem dX8_swearerOf_14 : decode cX8_swearerOf 14 = .ok (.iconst 1, 1) := by decide +kernel
theorem dX8_swearerOf_15 : decode cX8_swearerOf 15 = .ok (.aload_n 1, 1) := by decide +kernel
theorem dX8_swearerOf_16 : decode cX8_swearerOf 16 = .ok (.getfield 69, 3) := by decide +kernel
theorem dX8_swearerOf_19 : decode cX8_swearerOf 19 = .ok (.ishl, 1) := by decide +kernel
theorem dX8_swearerOf_20 : decode cX8_swearerOf 20 = .ok (.iconst 1, 1) := by decide +kernel
theorem dX8_swearerOf_21 : decode cX8_swearerOf 21 = .ok (.isub, 1) := by decide +kernel
theorem dX8_swearerOf_22 : decode cX8_swearerOf 22 = .ok (.istore_n 3, 1) := by decide +kernel
theorem dX8_swearerOf_23 : decode cX8_swearerOf 23 = .ok (.iconst 0, 1) := by decide +kernel
theorem dX8_swearerOf_24 : decode cX8_swearerOf 24 = .ok (.istore 4, 2) := by decide +kernel
theorem dX8_swearerOf_26 : decode cX8_swearerOf 26 = .ok (.bipush 6, 2) := by decide +kernel
theorem dX8_swearerOf_28 : decode cX8_swearerOf 28 = .ok (.istore 5, 2) := by decide +kernel
theorem dX8_swearerOf_30 : decode cX8_swearerOf 30 = .ok (.iconst 0, 1) := by decide +kernel
theorem dX8_swearerOf_31 : decode cX8_swearerOf 31 = .ok (.istore 6, 2) := by decide +kernel
theorem dX8_swearerOf_33 : decode cX8_swearerOf 33 = .ok (.iload 6, 2) := by decide +kernel
theorem dX8_swearerOf_35 : decode cX8_swearerOf 35 = .ok (.iload_n 2, 1) := by decide +kernel
theorem dX8_swearerOf_36 : decode cX8_swearerOf 36 = .ok (.if_icmp .gt 64, 3) := by decide +kernel
theorem dX8_swearerOf_39 : decode cX8_swearerOf 39 = .ok (.aload_n 0, 1) := by decide +kernel
theorem dX8_swearerOf_40 : decode cX8_swearerOf 40 = .ok (.iload 6, 2) := by decide +kernel
theorem dX8_swearerOf_42 : decode cX8_swearerOf 42 = .ok (.iload 4, 2) := by decide +kernel
theorem dX8_swearerOf_44 : decode cX8_swearerOf 44 = .ok (.iload_n 3, 1) := by decide +kernel
theorem dX8_swearerOf_45 : decode cX8_swearerOf 45 = .ok (.invokevirtual 85, 3) := by decide +kernel
theorem dX8_swearerOf_48 : decode cX8_swearerOf 48 = .ok (.istore 5, 2) := by decide +kernel
theorem dX8_swearerOf_50 : decode cX8_swearerOf 50 = .ok (.iload 5, 2) := by decide +kernel
theorem dX8_swearerOf_52 : decode cX8_swearerOf 52 = .ok (.bipush 6, 2) := by decide +kernel
theorem dX8_swearerOf_54 : decode cX8_swearerOf 54 = .ok (.if_icmp .eq 40, 3) := by decide +kernel
theorem dX8_swearerOf_57 : decode cX8_swearerOf 57 = .ok (.iload_n 3, 1) := by decide +kernel
theorem dX8_swearerOf_58 : decode cX8_swearerOf 58 = .ok (.iconst 1, 1) := by decide +kernel
theorem dX8_swearerOf_59 : decode cX8_swearerOf 59 = .ok (.iload 5, 2) := by decide +kernel
theorem dX8_swearerOf_61 : decode cX8_swearerOf 61 = .ok (.ishl, 1) := by decide +kernel
theorem dX8_swearerOf_62 : decode cX8_swearerOf 62 = .ok (.iconst (-1), 1) := by decide +kernel
theorem dX8_swearerOf_63 : decode cX8_swearerOf 63 = .ok (.ixor, 1) := by decide +kernel
theorem dX8_swearerOf_64 : decode cX8_swearerOf 64 = .ok (.iand, 1) := by decide +kernel
theorem dX8_swearerOf_65 : decode cX8_swearerOf 65 = .ok (.istore_n 3, 1) := by decide +kernel
theorem dX8_swearerOf_66 : decode cX8_swearerOf 66 = .ok (.iload 4, 2) := by decide +kernel
theorem dX8_swearerOf_68 : decode cX8_swearerOf 68 = .ok (.aload_n 0, 1) := by decide +kernel
theorem dX8_swearerOf_69 : decode cX8_swearerOf 69 = .ok (.getfield 22, 3) := by decide +kernel
theorem dX8_swearerOf_72 : decode cX8_swearerOf 72 = .ok (.iload 6, 2) := by decide +kernel
theorem dX8_swearerOf_74 : decode cX8_swearerOf 74 = .ok (.iaload, 1) := by decide +kernel
theorem dX8_swearerOf_75 : decode cX8_swearerOf 75 = .ok (.iload 5, 2) := by decide +kernel
theorem dX8_swearerOf_77 : decode cX8_swearerOf 77 = .ok (.invokestatic 75, 3) := by decide +kernel
theorem dX8_swearerOf_80 : decode cX8_swearerOf 80 = .ok (.ifCond .eq 10, 3) := by decide +kernel
theorem dX8_swearerOf_83 : decode cX8_swearerOf 83 = .ok (.iconst 1, 1) := by decide +kernel
theorem dX8_swearerOf_84 : decode cX8_swearerOf 84 = .ok (.iload 6, 2) := by decide +kernel
theorem dX8_swearerOf_86 : decode cX8_swearerOf 86 = .ok (.ishl, 1) := by decide +kernel
theorem dX8_swearerOf_87 : decode cX8_swearerOf 87 = .ok (.goto 4, 3) := by decide +kernel
theorem dX8_swearerOf_90 : decode cX8_swearerOf 90 = .ok (.iconst 0, 1) := by decide +kernel
theorem dX8_swearerOf_91 : decode cX8_swearerOf 91 = .ok (.ior, 1) := by decide +kernel
theorem dX8_swearerOf_92 : decode cX8_swearerOf 92 = .ok (.istore 4, 2) := by decide +kernel
theorem dX8_swearerOf_94 : decode cX8_swearerOf 94 = .ok (.iinc 6 1, 3) := by decide +kernel
theorem dX8_swearerOf_97 : decode cX8_swearerOf 97 = .ok (.goto (-64), 3) := by decide +kernel
theorem dX8_swearerOf_100 : decode cX8_swearerOf 100 = .ok (.iload 5, 2) := by decide +kernel
theorem dX8_swearerOf_102 : decode cX8_swearerOf 102 = .ok (.ireturn, 1) := by decide +kernel
theorem dX8_firstFor_0 : decode cX8_firstFor 0 = .ok (.iconst 0, 1) := by decide +kernel
theorem dX8_firstFor_1 : decode cX8_firstFor 1 = .ok (.istore 4, 2) := by decide +kernel
theorem dX8_firstFor_3 : decode cX8_firstFor 3 = .ok (.iload 4, 2) := by decide +kernel
theorem dX8_firstFor_5 : decode cX8_firstFor 5 = .ok (.bipush 6, 2) := by decide +kernel
theorem dX8_firstFor_7 : decode cX8_firstFor 7 = .ok (.if_icmp .ge 76, 3) := by decide +kernel
theorem dX8_firstFor_10 : decode cX8_firstFor 10 = .ok (.iload_n 3, 1) := by decide +kernel
theorem dX8_firstFor_11 : decode cX8_firstFor 11 = .ok (.iload 4, 2) := by decide +kernel
theorem dX8_firstFor_13 : decode cX8_firstFor 13 = .ok (.invokestatic 75, 3) := by decide +kernel
theorem dX8_firstFor_16 : decode cX8_firstFor 16 = .ok (.ifCond .eq 61, 3) := by decide +kernel
theorem dX8_firstFor_19 : decode cX8_firstFor 19 = .ok (.iload 4, 2) := by decide +kernel
theorem dX8_firstFor_21 : decode cX8_firstFor 21 = .ok (.aload_n 0, 1) := by decide +kernel
theorem dX8_firstFor_22 : decode cX8_firstFor 22 = .ok (.iload_n 1, 1) := by decide +kernel
theorem dX8_firstFor_23 : decode cX8_firstFor 23 = .ok (.invokevirtual 41, 3) := by decide +kernel
theorem dX8_firstFor_26 : decode cX8_firstFor 26 = .ok (.if_icmp .eq 51, 3) := by decide +kernel
theorem dX8_firstFor_29 : decode cX8_firstFor 29 = .ok (.aload_n 0, 1) := by decide +kernel
theorem dX8_firstFor_30 : decode cX8_firstFor 30 = .ok (.getfield 22, 3) := by decide +kernel
theorem dX8_firstFor_33 : decode cX8_firstFor 33 = .ok (.iload_n 1, 1) := by decide +kernel
theorem dX8_firstFor_34 : decode cX8_firstFor 34 = .ok (.iaload, 1) := by decide +kernel
theorem dX8_firstFor_35 : decode cX8_firstFor 35 = .ok (.iload 4, 2) := by decide +kernel
theorem dX8_firstFor_37 : decode cX8_firstFor 37 = .ok (.invokestatic 75, 3) := by decide +kernel
theorem dX8_firstFor_40 : decode cX8_firstFor 40 = .ok (.ifCond .eq 11, 3) := by decide +kernel
theorem dX8_firstFor_43 : decode cX8_firstFor 43 = .ok (.iload_n 2, 1) := by decide +kernel
theorem dX8_firstFor_44 : decode cX8_firstFor 44 = .ok (.iconst 1, 1) := by decide +kernel
theorem dX8_firstFor_45 : decode cX8_firstFor 45 = .ok (.iload_n 1, 1) := by decide +kernel
theorem dX8_firstFor_46 : decode cX8_firstFor 46 = .ok (.ishl, 1) := by decide +kernel
theorem dX8_firstFor_47 : decode cX8_firstFor 47 = .ok (.ior, 1) := by decide +kernel
theorem dX8_firstFor_48 : decode cX8_firstFor 48 = .ok (.goto 4, 3) := by decide +kernel
theorem dX8_firstFor_51 : decode cX8_firstFor 51 = .ok (.iload_n 2, 1) := by decide +kernel
theorem dX8_firstFor_52 : decode cX8_firstFor 52 = .ok (.istore 5, 2) := by decide +kernel
theorem dX8_firstFor_54 : decode cX8_firstFor 54 = .ok (.aload_n 0, 1) := by decide +kernel
theorem dX8_firstFor_55 : decode cX8_firstFor 55 = .ok (.iload_n 1, 1) := by decide +kernel
theorem dX8_firstFor_56 : decode cX8_firstFor 56 = .ok (.iconst 1, 1) := by decide +kernel
theorem dX8_firstFor_57 : decode cX8_firstFor 57 = .ok (.iadd, 1) := by decide +kernel
theorem dX8_firstFor_58 : decode cX8_firstFor 58 = .ok (.iload 5, 2) := by decide +kernel
theorem dX8_firstFor_60 : decode cX8_firstFor 60 = .ok (.iload_n 3, 1) := by decide +kernel
theorem dX8_firstFor_61 : decode cX8_firstFor 61 = .ok (.iconst 1, 1) := by decide +kernel
theorem dX8_firstFor_62 : decode cX8_firstFor 62 = .ok (.iload 4, 2) := by decide +kernel
theorem dX8_firstFor_64 : decode cX8_firstFor 64 = .ok (.ishl, 1) := by decide +kernel
theorem dX8_firstFor_65 : decode cX8_firstFor 65 = .ok (.iconst (-1), 1) := by decide +kernel
theorem dX8_firstFor_66 : decode cX8_firstFor 66 = .ok (.ixor, 1) := by decide +kernel
theorem dX8_firstFor_67 : decode cX8_firstFor 67 = .ok (.iand, 1) := by decide +kernel
theorem dX8_firstFor_68 : decode cX8_firstFor 68 = .ok (.invokevirtual 89, 3) := by decide +kernel
theorem dX8_firstFor_71 : decode cX8_firstFor 71 = .ok (.ifCond .eq 6, 3) := by decide +kernel
theorem dX8_firstFor_74 : decode cX8_firstFor 74 = .ok (.iload 4, 2) := by decide +kernel
theorem dX8_firstFor_76 : decode cX8_firstFor 76 = .ok (.ireturn, 1) := by decide +kernel
theorem dX8_firstFor_77 : decode cX8_firstFor 77 = .ok (.iinc 4 1, 3) := by decide +kernel
theorem dX8_firstFor_80 : decode cX8_firstFor 80 = .ok (.goto (-77), 3) := by decide +kernel
theorem dX8_firstFor_83 : decode cX8_firstFor 83 = .ok (.bipush 6, 2) := by decide +kernel
theorem dX8_firstFor_85 : decode cX8_firstFor 85 = .ok (.ireturn, 1) := by decide +kernel
theorem dX8_reachesMost_0 : decode cX8_reachesMost 0 = .ok (.iconst 0, 1) := by decide +kernel
theorem dX8_reachesMost_1 : decode cX8_reachesMost 1 = .ok (.istore 4, 2) := by decide +kernel
theorem dX8_reachesMost_3 : decode cX8_reachesMost 3 = .ok (.iload 4, 2) := by decide +kernel
theorem dX8_reachesMost_5 : decode cX8_reachesMost 5 = .ok (.iconst 1, 1) := by decide +kernel
theorem dX8_reachesMost_6 : decode cX8_reachesMost 6 = .ok (.aload_n 0, 1) := by decide +kernel
theorem dX8_reachesMost_7 : decode cX8_reachesMost 7 = .ok (.getfield 19, 3) := by decide +kernel
theorem dX8_reachesMost_10 : decode cX8_reachesMost 10 = .ok (.iload_n 1, 1) := by decide +kernel
theorem dX8_reachesMost_11 : decode cX8_reachesMost 11 = .ok (.isub, 1) := by decide +kernel
theorem dX8_reachesMost_12 : decode cX8_reachesMost 12 = .ok (.ishl, 1) := by decide +kernel
theorem dX8_reachesMost_13 : decode cX8_reachesMost 13 = .ok (.if_icmp .ge 44, 3) := by decide +kernel
theorem dX8_reachesMost_16 : decode cX8_reachesMost 16 = .ok (.iload_n 2, 1) := by decide +kernel
theorem dX8_reachesMost_17 : decode cX8_reachesMost 17 = .ok (.iload 4, 2) := by decide +kernel
theorem dX8_reachesMost_19 : decode cX8_reachesMost 19 = .ok (.iload_n 1, 1) := by decide +kernel
theorem dX8_reachesMost_20 : decode cX8_reachesMost 20 = .ok (.ishl, 1) := by decide +kernel
theorem dX8_reachesMost_21 : decode cX8_reachesMost 21 = .ok (.ior, 1) := by decide +kernel
theorem dX8_reachesMost_22 : decode cX8_reachesMost 22 = .ok (.istore 5, 2) := by decide +kernel
theorem dX8_reachesMost_24 : decode cX8_reachesMost 24 = .ok (.aload_n 0, 1) := by decide +kernel
theorem dX8_reachesMost_25 : decode cX8_reachesMost 25 = .ok (.getfield 29, 3) := by decide +kernel
theorem dX8_reachesMost_28 : decode cX8_reachesMost 28 = .ok (.iload 5, 2) := by decide +kernel
theorem dX8_reachesMost_30 : decode cX8_reachesMost 30 = .ok (.iaload, 1) := by decide +kernel
theorem dX8_reachesMost_31 : decode cX8_reachesMost 31 = .ok (.aload_n 0, 1) := by decide +kernel
theorem dX8_reachesMost_32 : decode cX8_reachesMost 32 = .ok (.getfield 9, 3) := by decide +kernel
theorem dX8_reachesMost_35 : decode cX8_reachesMost 35 = .ok (.if_icmp .ne 16, 3) := by decide +kernel
theorem dX8_reachesMost_38 : decode cX8_reachesMost 38 = .ok (.aload_n 0, 1) := by decide +kernel
theorem dX8_reachesMost_39 : decode cX8_reachesMost 39 = .ok (.iload_n 1, 1) := by decide +kernel
theorem dX8_reachesMost_40 : decode cX8_reachesMost 40 = .ok (.iload 5, 2) := by decide +kernel
theorem dX8_reachesMost_42 : decode cX8_reachesMost 42 = .ok (.iload_n 3, 1) := by decide +kernel
theorem dX8_reachesMost_43 : decode cX8_reachesMost 43 = .ok (.invokevirtual 62, 3) := by decide +kernel
theorem dX8_reachesMost_46 : decode cX8_reachesMost 46 = .ok (.ifCond .eq 5, 3) := by decide +kernel
theorem dX8_reachesMost_49 : decode cX8_reachesMost 49 = .ok (.iconst 1, 1) := by decide +kernel
theorem dX8_reachesMost_50 : decode cX8_reachesMost 50 = .ok (.ireturn, 1) := by decide +kernel
theorem dX8_reachesMost_51 : decode cX8_reachesMost 51 = .ok (.iinc 4 1, 3) := by decide +kernel
theorem dX8_reachesMost_54 : decode cX8_reachesMost 54 = .ok (.goto (-51), 3) := by decide +kernel
theorem dX8_reachesMost_57 : decode cX8_reachesMost 57 = .ok (.iconst 0, 1) := by decide +kernel
theorem dX8_reachesMost_58 : decode cX8_reachesMost 58 = .ok (.ireturn, 1) := by decide +kernel
theorem dX0_init_0 : decode cX0_init 0 = .ok (.aload_n 0, 1) := by decide +kernel
theorem dX0_init_1 : decode cX0_init 1 = .ok (.invokespecial 3, 3) := by decide +kernel
theorem dX0_init_4 : decode cX0_init 4 = .ok (.aload_n 0, 1) := by decide +kernel
theorem dX0_init_5 : decode cX0_init 5 = .ok (.iconst 0, 1) := by decide +kernel
theorem dX0_init_6 : decode cX0_init 6 = .ok (.putfield 9, 3) := by decide +kernel
theorem dX0_init_9 : decode cX0_init 9 = .ok (.aload_n 0, 1) := by decide +kernel
theorem dX0_init_10 : decode cX0_init 10 = .ok (.iconst 0, 1) := by decide +kernel
theorem dX0_init_11 : decode cX0_init 11 = .ok (.putfield 15, 3) := by decide +kernel
theorem dX0_init_14 : decode cX0_init 14 = .ok (.aload_n 0, 1) := by decide +kernel
theorem dX0_init_15 : decode cX0_init 15 = .ok (.bipush 6, 2) := by decide +kernel
theorem dX0_init_17 : decode cX0_init 17 = .ok (.newarray .int, 2) := by decide +kernel
theorem dX0_init_19 : decode cX0_init 19 = .ok (.putfield 18, 3) := by decide +kernel
theorem dX0_init_22 : decode cX0_init 22 = .ok (.aload_n 0, 1) := by decide +kernel
theorem dX0_init_23 : decode cX0_init 23 = .ok (.bipush 6, 2) := by decide +kernel
theorem dX0_init_25 : decode cX0_init 25 = .ok (.newarray .int, 2) := by decide +kernel
theorem dX0_init_27 : decode cX0_init 27 = .ok (.putfield 22, 3) := by decide +kernel
theorem dX0_init_30 : decode cX0_init 30 = .ok (.aload_n 0, 1) := by decide +kernel
theorem dX0_init_31 : decode cX0_init 31 = .ok (.bipush 6, 2) := by decide +kernel
theorem dX0_init_33 : decode cX0_init 33 = .ok (.newarray .int, 2) := by decide +kernel
theorem dX0_init_35 : decode cX0_init 35 = .ok (.putfield 25, 3) := by decide +kernel
theorem dX0_init_38 : decode cX0_init 38 = .ok (.aload_n 0, 1) := by decide +kernel
theorem dX0_init_39 : decode cX0_init 39 = .ok (.bipush 6, 2) := by decide +kernel
theorem dX0_init_41 : decode cX0_init 41 = .ok (.newarray .int, 2) := by decide +kernel
theorem dX0_init_43 : decode cX0_init 43 = .ok (.putfield 28, 3) := by decide +kernel
theorem dX0_init_46 : decode cX0_init 46 = .ok (.aload_n 0, 1) := by decide +kernel
theorem dX0_init_47 : decode cX0_init 47 = .ok (.bipush 6, 2) := by decide +kernel
theorem dX0_init_49 : decode cX0_init 49 = .ok (.newarray .int, 2) := by decide +kernel
theorem dX0_init_51 : decode cX0_init 51 = .ok (.putfield 31, 3) := by decide +kernel
theorem dX0_init_54 : decode cX0_init 54 = .ok (.aload_n 0, 1) := by decide +kernel
theorem dX0_init_55 : decode cX0_init 55 = .ok (.bipush 6, 2) := by decide +kernel
theorem dX0_init_57 : decode cX0_init 57 = .ok (.newarray .int, 2) := by decide +kernel
theorem dX0_init_59 : decode cX0_init 59 = .ok (.putfield 34, 3) := by decide +kernel
theorem dX0_init_62 : decode cX0_init 62 = .ok (.return_, 1) := by decide +kernel
theorem dX0_learn_0 : decode cX0_learn 0 = .ok (.aload_n 0, 1) := by decide +kernel
theorem dX0_learn_1 : decode cX0_learn 1 = .ok (.aload_n 1, 1) := by decide +kernel
theorem dX0_learn_2 : decode cX0_learn 2 = .ok (.getfield 37, 3) := by decide +kernel
theorem dX0_learn_5 : decode cX0_learn 5 = .ok (.putfield 15, 3) := by decide +kernel
theorem dX0_learn_8 : decode cX0_learn 8 = .ok (.iconst 0, 1) := by decide +kernel
theorem dX0_learn_9 : decode cX0_learn 9 = .ok (.istore_n 2, 1) := by decide +kernel
theorem dX0_learn_10 : decode cX0_learn 10 = .ok (.iload_n 2, 1) := by decide +kernel
theorem dX0_learn_11 : decode cX0_learn 11 = .ok (.bipush 6, 2) := by decide +kernel
theorem dX0_learn_13 : decode cX0_learn 13 = .ok (.if_icmp .ge 37, 3) := by decide +kernel
theorem dX0_learn_16 : decode cX0_learn 16 = .ok (.aload_n 0, 1) := by decide +kernel
theorem dX0_learn_17 : decode cX0_learn 17 = .ok (.getfield 18, 3) := by decide +kernel
theorem dX0_learn_20 : decode cX0_learn 20 = .ok (.iload_n 2, 1) := by decide +kernel
theorem dX0_learn_21 : decode cX0_learn 21 = .ok (.iconst 0, 1) := by decide +kernel
theorem dX0_learn_22 : decode cX0_learn 22 = .ok (.iastore, 1) := by decide +kernel
theorem dX0_learn_23 : decode cX0_learn 23 = .ok (.aload_n 0, 1) := by decide +kernel
theorem dX0_learn_24 : decode cX0_learn 24 = .ok (.getfield 22, 3) := by decide +kernel
theorem dX0_learn_27 : decode cX0_learn 27 = .ok (.iload_n 2, 1) := by decide +kernel
theorem dX0_learn_28 : decode cX0_learn 28 = .ok (.iconst 0, 1) := by decide +kernel
theorem dX0_learn_29 : decode cX0_learn 29 = .ok (.iastore, 1) := by decide +kernel
theorem dX0_learn_30 : decode cX0_learn 30 = .ok (.aload_n 0, 1) := by decide +kernel
theorem dX0_learn_31 : decode cX0_learn 31 = .ok (.getfield 25, 3) := by decide +kernel
theorem dX0_learn_34 : decode cX0_learn 34 = .ok (.iload_n 2, 1) := by decide +kernel
theorem dX0_learn_35 : decode cX0_learn 35 = .ok (.iconst 0, 1) := by decide +kernel
theorem dX0_learn_36 : decode cX0_learn 36 = .ok (.iastore, 1) := by decide +kernel
theorem dX0_learn_37 : decode cX0_learn 37 = .ok (.aload_n 0, 1) := by decide +kernel
theorem dX0_learn_38 : decode cX0_learn 38 = .ok (.getfield 28, 3) := by decide +kernel
theorem dX0_learn_41 : decode cX0_learn 41 = .ok (.iload_n 2, 1) := by decide +kernel
theorem dX0_learn_42 : decode cX0_learn 42 = .ok (.iconst 0, 1) := by decide +kernel
theorem dX0_learn_43 : decode cX0_learn 43 = .ok (.iastore, 1) := by decide +kernel
theorem dX0_learn_44 : decode cX0_learn 44 = .ok (.iinc 2 1, 3) := by decide +kernel
theorem dX0_learn_47 : decode cX0_learn 47 = .ok (.goto (-37), 3) := by decide +kernel
theorem dX0_learn_50 : decode cX0_learn 50 = .ok (.iconst 0, 1) := by decide +kernel
theorem dX0_learn_51 : decode cX0_learn 51 = .ok (.istore_n 2, 1) := by decide +kernel
theorem dX0_learn_52 : decode cX0_learn 52 = .ok (.iload_n 2, 1) := by decide +kernel
theorem dX0_learn_53 : decode cX0_learn 53 = .ok (.aload_n 1, 1) := by decide +kernel
theorem dX0_learn_54 : decode cX0_learn 54 = .ok (.getfield 40, 3) := by decide +kernel
theorem dX0_learn_57 : decode cX0_learn 57 = .ok (.if_icmp .ge 61, 3) := by decide +kernel
theorem dX0_learn_60 : decode cX0_learn 60 = .ok (.aload_n 0, 1) := by decide +kernel
theorem dX0_learn_61 : decode cX0_learn 61 = .ok (.getfield 18, 3) := by decide +kernel
theorem dX0_learn_64 : decode cX0_learn 64 = .ok (.aload_n 1, 1) := by decide +kernel
theorem dX0_learn_65 : decode cX0_learn 65 = .ok (.getfield 43, 3) := by decide +kernel
theorem dX0_learn_68 : decode cX0_learn 68 = .ok (.iload_n 2, 1) := by decide +kernel
theorem dX0_learn_69 : decode cX0_learn 69 = .ok (.iaload, 1) := by decide +kernel
theorem dX0_learn_70 : decode cX0_learn 70 = .ok (.dup2, 1) := by decide +kernel
theorem dX0_learn_71 : decode cX0_learn 71 = .ok (.iaload, 1) := by decide +kernel
theorem dX0_learn_72 : decode cX0_learn 72 = .ok (.iconst 1, 1) := by decide +kernel
theorem dX0_learn_73 : decode cX0_learn 73 = .ok (.aload_n 1, 1) := by decide +kernel
theorem dX0_learn_74 : decode cX0_learn 74 = .ok (.getfield 46, 3) := by decide +kernel
theorem dX0_learn_77 : decode cX0_learn 77 = .ok (.iload_n 2, 1) := by decide +kernel
theorem dX0_learn_78 : decode cX0_learn 78 = .ok (.iaload, 1) := by decide +kernel
theorem dX0_learn_79 : decode cX0_learn 79 = .ok (.ishl, 1) := by decide +kernel
theorem dX0_learn_80 : decode cX0_learn 80 = .ok (.ior, 1) := by decide +kernel
theorem dX0_learn_81 : decode cX0_learn 81 = .ok (.iastore, 1) := by decide +kernel
theorem dX0_learn_82 : decode cX0_learn 82 = .ok (.aload_n 0, 1) := by decide +kernel
theorem dX0_learn_83 : decode cX0_learn 83 = .ok (.getfield 22, 3) := by decide +kernel
theorem dX0_learn_86 : decode cX0_learn 86 = .ok (.aload_n 1, 1) := by decide +kernel
theorem dX0_learn_87 : decode cX0_learn 87 = .ok (.getfield 43, 3) := by decide +kernel
theorem dX0_learn_90 : decode cX0_learn 90 = .ok (.iload_n 2, 1) := by decide +kernel
theorem dX0_learn_91 : decode cX0_learn 91 = .ok (.iaload, 1) := by decide +kernel
theorem dX0_learn_92 : decode cX0_learn 92 = .ok (.dup2, 1) := by decide +kernel
theorem dX0_learn_93 : decode cX0_learn 93 = .ok (.iaload, 1) := by decide +kernel
theorem dX0_learn_94 : decode cX0_learn 94 = .ok (.iconst 1, 1) := by decide +kernel
theorem dX0_learn_95 : decode cX0_learn 95 = .ok (.iadd, 1) := by decide +kernel
theorem dX0_learn_96 : decode cX0_learn 96 = .ok (.iastore, 1) := by decide +kernel
theorem dX0_learn_97 : decode cX0_learn 97 = .ok (.aload_n 0, 1) := by decide +kernel
theorem dX0_learn_98 : decode cX0_learn 98 = .ok (.getfield 25, 3) := by decide +kernel
theorem dX0_learn_101 : decode cX0_learn 101 = .ok (.aload_n 1, 1) := by decide +kernel
theorem dX0_learn_102 : decode cX0_learn 102 = .ok (.getfield 46, 3) := by decide +kernel
theorem dX0_learn_105 : decode cX0_learn 105 = .ok (.iload_n 2, 1) := by decide +kernel
theorem dX0_learn_106 : decode cX0_learn 106 = .ok (.iaload, 1) := by decide +kernel
theorem dX0_learn_107 : decode cX0_learn 107 = .ok (.dup2, 1) := by decide +kernel
theorem dX0_learn_108 : decode cX0_learn 108 = .ok (.iaload, 1) := by decide +kernel
theorem dX0_learn_109 : decode cX0_learn 109 = .ok (.iconst 1, 1) := by decide +kernel
theorem dX0_learn_110 : decode cX0_learn 110 = .ok (.iadd, 1) := by decide +kernel
theorem dX0_learn_111 : decode cX0_learn 111 = .ok (.iastore, 1) := by decide +kernel
theorem dX0_learn_112 : decode cX0_learn 112 = .ok (.iinc 2 1, 3) := by decide +kernel
theorem dX0_learn_115 : decode cX0_learn 115 = .ok (.goto (-63), 3) := by decide +kernel
theorem dX0_learn_118 : decode cX0_learn 118 = .ok (.iconst 0, 1) := by decide +kernel
theorem dX0_learn_119 : decode cX0_learn 119 = .ok (.istore_n 2, 1) := by decide +kernel
theorem dX0_learn_120 : decode cX0_learn 120 = .ok (.iload_n 2, 1) := by decide +kernel
theorem dX0_learn_121 : decode cX0_learn 121 = .ok (.aload_n 0, 1) := by decide +kernel
theorem dX0_learn_122 : decode cX0_learn 122 = .ok (.getfield 15, 3) := by decide +kernel
theorem dX0_learn_125 : decode cX0_learn 125 = .ok (.if_icmp .ge 44, 3) := by decide +kernel
theorem dX0_learn_128 : decode cX0_learn 128 = .ok (.iconst 0, 1) := by decide +kernel
theorem dX0_learn_129 : decode cX0_learn 129 = .ok (.istore_n 3, 1) := by decide +kernel
theorem dX0_learn_130 : decode cX0_learn 130 = .ok (.iload_n 3, 1) := by decide +kernel
theorem dX0_learn_131 : decode cX0_learn 131 = .ok (.aload_n 0, 1) := by decide +kernel
theorem dX0_learn_132 : decode cX0_learn 132 = .ok (.getfield 15, 3) := by decide +kernel
theorem dX0_learn_135 : decode cX0_learn 135 = .ok (.if_icmp .ge 28, 3) := by decide +kernel
theorem dX0_learn_138 : decode cX0_learn 138 = .ok (.aload_n 0, 1) := by decide +kernel
theorem dX0_learn_139 : decode cX0_learn 139 = .ok (.getfield 28, 3) := by decide +kernel
theorem dX0_learn_142 : decode cX0_learn 142 = .ok (.iload_n 3, 1) := by decide +kernel
theorem dX0_learn_143 : decode cX0_learn 143 = .ok (.dup2, 1) := by decide +kernel
theorem dX0_learn_144 : decode cX0_learn 144 = .ok (.iaload, 1) := by decide +kernel
theorem dX0_learn_145 : decode cX0_learn 145 = .ok (.aload_n 1, 1) := by decide +kernel
theorem dX0_learn_146 : decode cX0_learn 146 = .ok (.getfield 49, 3) := by decide +kernel
theorem dX0_learn_149 : decode cX0_learn 149 = .ok (.iload_n 2, 1) := by decide +kernel
theorem dX0_learn_150 : decode cX0_learn 150 = .ok (.iaload, 1) := by decide +kernel
theorem dX0_learn_151 : decode cX0_learn 151 = .ok (.iload_n 3, 1) := by decide +kernel
theorem dX0_learn_152 : decode cX0_learn 152 = .ok (.ishr, 1) := by decide +kernel
theorem dX0_learn_153 : decode cX0_learn 153 = .ok (.iconst 1, 1) := by decide +kernel
theorem dX0_learn_154 : decode cX0_learn 154 = .ok (.iand, 1) := by decide +kernel
theorem dX0_learn_155 : decode cX0_learn 155 = .ok (.iadd, 1) := by decide +kernel
theorem dX0_learn_156 : decode cX0_learn 156 = .ok (.iastore, 1) := by decide +kernel
theorem dX0_learn_157 : decode cX0_learn 157 = .ok (.iinc 3 1, 3) := by decide +kernel
theorem dX0_learn_160 : decode cX0_learn 160 = .ok (.goto (-30), 3) := by decide +kernel
theorem dX0_learn_163 : decode cX0_learn 163 = .ok (.iinc 2 1, 3) := by decide +kernel
theorem dX0_learn_166 : decode cX0_learn 166 = .ok (.goto (-46), 3) := by decide +kernel
theorem dX0_learn_169 : decode cX0_learn 169 = .ok (.return_, 1) := by decide +kernel
theorem dX0_tell_0 : decode cX0_tell 0 = .ok (.iload_n 1, 1) := by decide +kernel
theorem dX0_tell_1 : decode cX0_tell 1 = .ok (.tableswitch 98 0 5 #[39, 48, 57, 69, 81, 86], 39) := by decide +kernel
theorem dX0_tell_40 : decode cX0_tell 40 = .ok (.aload_n 0, 1) := by decide +kernel
theorem dX0_tell_41 : decode cX0_tell 41 = .ok (.aload_n 0, 1) := by decide +kernel
theorem dX0_tell_42 : decode cX0_tell 42 = .ok (.getfield 25, 3) := by decide +kernel
theorem dX0_tell_45 : decode cX0_tell 45 = .ok (.invokevirtual 52, 3) := by decide +kernel
theorem dX0_tell_48 : decode cX0_tell 48 = .ok (.ireturn, 1) := by decide +kernel
theorem dX0_tell_49 : decode cX0_tell 49 = .ok (.aload_n 0, 1) := by decide +kernel
theorem dX0_tell_50 : decode cX0_tell 50 = .ok (.aload_n 0, 1) := by decide +kernel
theorem dX0_tell_51 : decode cX0_tell 51 = .ok (.getfield 22, 3) := by decide +kernel
theorem dX0_tell_54 : decode cX0_tell 54 = .ok (.invokevirtual 52, 3) := by decide +kernel
theorem dX0_tell_57 : decode cX0_tell 57 = .ok (.ireturn, 1) := by decide +kernel
theorem dX0_tell_58 : decode cX0_tell 58 = .ok (.aload_n 0, 1) := by decide +kernel
theorem dX0_tell_59 : decode cX0_tell 59 = .ok (.getfield 22, 3) := by decide +kernel
theorem dX0_tell_62 : decode cX0_tell 62 = .ok (.aload_n 0, 1) := by decide +kernel
theorem dX0_tell_63 : decode cX0_tell 63 = .ok (.getfield 15, 3) := by decide +kernel
theorem dX0_tell_66 : decode cX0_tell 66 = .ok (.invokestatic 56, 3) := by decide +kernel
theorem dX0_tell_69 : decode cX0_tell 69 = .ok (.ireturn, 1) := by decide +kernel
theorem dX0_tell_70 : decode cX0_tell 70 = .ok (.aload_n 0, 1) := by decide +kernel
theorem dX0_tell_71 : decode cX0_tell 71 = .ok (.getfield 25, 3) := by decide +kernel
theorem dX0_tell_74 : decode cX0_tell 74 = .ok (.aload_n 0, 1) := by decide +kernel
theorem dX0_tell_75 : decode cX0_tell 75 = .ok (.getfield 15, 3) := by decide +kernel
theorem dX0_tell_78 : decode cX0_tell 78 = .ok (.invokestatic 56, 3) := by decide +kernel
theorem dX0_tell_81 : decode cX0_tell 81 = .ok (.ireturn, 1) := by decide +kernel
theorem dX0_tell_82 : decode cX0_tell 82 = .ok (.aload_n 0, 1) := by decide +kernel
theorem dX0_tell_83 : decode cX0_tell 83 = .ok (.invokevirtual 60, 3) := by decide +kernel
theorem dX0_tell_86 : decode cX0_tell 86 = .ok (.ireturn, 1) := by decide +kernel
theorem dX0_tell_87 : decode cX0_tell 87 = .ok (.aload_n 0, 1) := by decide +kernel
theorem dX0_tell_88 : decode cX0_tell 88 = .ok (.getfield 28, 3) := by decide +kernel
theorem dX0_tell_91 : decode cX0_tell 91 = .ok (.aload_n 0, 1) := by decide +kernel
theorem dX0_tell_92 : decode cX0_tell 92 = .ok (.getfield 15, 3) := by decide +kernel
theorem dX0_tell_95 : decode cX0_tell 95 = .ok (.invokestatic 56, 3) := by decide +kernel
theorem dX0_tell_98 : decode cX0_tell 98 = .ok (.ireturn, 1) := by decide +kernel
theorem dX0_tell_99 : decode cX0_tell 99 = .ok (.bipush (-2), 2) := by decide +kernel
theorem dX0_tell_101 : decode cX0_tell 101 = .ok (.ireturn, 1) := by decide +kernel
theorem dX0_without_0 : decode cX0_without 0 = .ok (.iconst 0, 1) := by decide +kernel
theorem dX0_without_1 : decode cX0_without 1 = .ok (.istore_n 2, 1) := by decide +kernel
theorem dX0_without_2 : decode cX0_without 2 = .ok (.iconst 0, 1) := by decide +kernel
theorem dX0_without_3 : decode cX0_without 3 = .ok (.istore_n 3, 1) := by decide +kernel
theorem dX0_without_4 : decode cX0_without 4 = .ok (.iload_n 3, 1) := by decide +kernel
theorem dX0_without_5 : decode cX0_without 5 = .ok (.aload_n 0, 1) := by decide +kernel
theorem dX0_without_6 : decode cX0_without 6 = .ok (.getfield 15, 3) := by decide +kernel
theorem dX0_without_9 : decode cX0_without 9 = .ok (.if_icmp .ge 21, 3) := by decide +kernel
theorem dX0_without_12 : decode cX0_without 12 = .ok (.aload_n 1, 1) := by decide +kernel
theorem dX0_without_13 : decode cX0_without 13 = .ok (.iload_n 3, 1) := by decide +kernel
theorem dX0_without_14 : decode cX0_without 14 = .ok (.iaload, 1) := by decide +kernel
theorem dX0_without_15 : decode cX0_without 15 = .ok (.ifCond .ne 9, 3) := by decide +kernel
theorem dX0_without_18 : decode cX0_without 18 = .ok (.iload_n 2, 1) := by decide +kernel
theorem dX0_without_19 : decode cX0_without 19 = .ok (.iconst 1, 1) := by decide +kernel
theorem dX0_without_20 : decode cX0_without 20 = .ok (.iload_n 3, 1) := by decide +kernel
theorem dX0_without_21 : decode cX0_without 21 = .ok (.ishl, 1) := by decide +kernel
theorem dX0_without_22 : decode cX0_without 22 = .ok (.ior, 1) := by decide +kernel
theorem dX0_without_23 : decode cX0_without 23 = .ok (.istore_n 2, 1) := by decide +kernel
theorem dX0_without_24 : decode cX0_without 24 = .ok (.iinc 3 1, 3) := by decide +kernel
theorem dX0_without_27 : decode cX0_without 27 = .ok (.goto (-23), 3) := by decide +kernel
theorem dX0_without_30 : decode cX0_without 30 = .ok (.iload_n 2, 1) := by decide +kernel
theorem dX0_without_31 : decode cX0_without 31 = .ok (.ireturn, 1) := by decide +kernel
theorem dX0_mutual_0 : decode cX0_mutual 0 = .ok (.iconst 0, 1) := by decide +kernel
theorem dX0_mutual_1 : decode cX0_mutual 1 = .ok (.istore_n 1, 1) := by decide +kernel
theorem dX0_mutual_2 : decode cX0_mutual 2 = .ok (.iconst 0, 1) := by decide +kernel
theorem dX0_mutual_3 : decode cX0_mutual 3 = .ok (.istore_n 2, 1) := by decide +kernel
theorem dX0_mutual_4 : decode cX0_mutual 4 = .ok (.iload_n 2, 1) := by decide +kernel
theorem dX0_mutual_5 : decode cX0_mutual 5 = .ok (.aload_n 0, 1) := by decide +kernel
theorem dX0_mutual_6 : decode cX0_mutual 6 = .ok (.getfield 15, 3) := by decide +kernel
theorem dX0_mutual_9 : decode cX0_mutual 9 = .ok (.if_icmp .ge 56, 3) := by decide +kernel
theorem dX0_mutual_12 : decode cX0_mutual 12 = .ok (.iload_n 2, 1) := by decide +kernel
theorem dX0_mutual_13 : decode cX0_mutual 13 = .ok (.iconst 1, 1) := by decide +kernel
theorem dX0_mutual_14 : decode cX0_mutual 14 = .ok (.iadd, 1) := by decide +kernel
theorem dX0_mutual_15 : decode cX0_mutual 15 = .ok (.istore_n 3, 1) := by decide +kernel
theorem dX0_mutual_16 : decode cX0_mutual 16 = .ok (.iload_n 3, 1) := by decide +kernel
theorem dX0_mutual_17 : decode cX0_mutual 17 = .ok (.aload_n 0, 1) := by decide +kernel
theorem dX0_mutual_18 : decode cX0_mutual 18 = .ok (.getfield 15, 3) := by decide +kernel
theorem dX0_mutual_21 : decode cX0_mutual 21 = .ok (.if_icmp .ge 38, 3) := by decide +kernel
theorem dX0_mutual_24 : decode cX0_mutual 24 = .ok (.aload_n 0, 1) := by decide +kernel
theorem dX0_mutual_25 : decode cX0_mutual 25 = .ok (.getfield 18, 3) := by decide +kernel
theorem dX0_mutual_28 : decode cX0_mutual 28 = .ok (.iload_n 2, 1) := by decide +kernel
theorem dX0_mutual_29 : decode cX0_mutual 29 = .ok (.iaload, 1) := by decide +kernel
theorem dX0_mutual_30 : decode cX0_mutual 30 = .ok (.iload_n 3, 1) := by decide +kernel
theorem dX0_mutual_31 : decode cX0_mutual 31 = .ok (.invokestatic 64, 3) := by decide +kernel
theorem dX0_mutual_34 : decode cX0_mutual 34 = .ok (.ifCond .eq 19, 3) := by decide +kernel
theorem dX0_mutual_37 : decode cX0_mutual 37 = .ok (.aload_n 0, 1) := by decide +kernel
theorem dX0_mutual_38 : decode cX0_mutual 38 = .ok (.getfield 18, 3) := by decide +kernel
theorem dX0_mutual_41 : decode cX0_mutual 41 = .ok (.iload_n 3, 1) := by decide +kernel
theorem dX0_mutual_42 : decode cX0_mutual 42 = .ok (.iaload, 1) := by decide +kernel
theorem dX0_mutual_43 : decode cX0_mutual 43 = .ok (.iload_n 2, 1) := by decide +kernel
theorem dX0_mutual_44 : decode cX0_mutual 44 = .ok (.invokestatic 64, 3) := by decide +kernel
theorem dX0_mutual_47 : decode cX0_mutual 47 = .ok (.ifCond .eq 6, 3) := by decide +kernel
theorem dX0_mutual_50 : decode cX0_mutual 50 = .ok (.iinc 1 1, 3) := by decide +kernel
theorem dX0_mutual_53 : decode cX0_mutual 53 = .ok (.iinc 3 1, 3) := by decide +kernel
theorem dX0_mutual_56 : decode cX0_mutual 56 = .ok (.goto (-40), 3) := by decide +kernel
theorem dX0_mutual_59 : decode cX0_mutual 59 = .ok (.iinc 2 1, 3) := by decide +kernel
theorem dX0_mutual_62 : decode cX0_mutual 62 = .ok (.goto (-58), 3) := by decide +kernel
theorem dX0_mutual_65 : decode cX0_mutual 65 = .ok (.iload_n 1, 1) := by decide +kernel
theorem dX0_mutual_66 : decode cX0_mutual 66 = .ok (.ireturn, 1) := by decide +kernel
theorem dX0_nextOf_0 : decode cX0_nextOf 0 = .ok (.iconst 0, 1) := by decide +kernel
theorem dX0_nextOf_1 : decode cX0_nextOf 1 = .ok (.istore_n 2, 1) := by decide +kernel
theorem dX0_nextOf_2 : decode cX0_nextOf 2 = .ok (.iconst 0, 1) := by decide +kernel
theorem dX0_nextOf_3 : decode cX0_nextOf 3 = .ok (.istore_n 3, 1) := by decide +kernel
theorem dX0_nextOf_4 : decode cX0_nextOf 4 = .ok (.iload_n 3, 1) := by decide +kernel
theorem dX0_nextOf_5 : decode cX0_nextOf 5 = .ok (.aload_n 0, 1) := by decide +kernel
theorem dX0_nextOf_6 : decode cX0_nextOf 6 = .ok (.getfield 15, 3) := by decide +kernel
theorem dX0_nextOf_9 : decode cX0_nextOf 9 = .ok (.if_icmp .ge 26, 3) := by decide +kernel
theorem dX0_nextOf_12 : decode cX0_nextOf 12 = .ok (.iload_n 1, 1) := by decide +kernel
theorem dX0_nextOf_13 : decode cX0_nextOf 13 = .ok (.iload_n 3, 1) := by decide +kernel
theorem dX0_nextOf_14 : decode cX0_nextOf 14 = .ok (.invokestatic 64, 3) := by decide +kernel
theorem dX0_nextOf_17 : decode cX0_nextOf 17 = .ok (.ifCond .eq 12, 3) := by decide +kernel
theorem dX0_nextOf_20 : decode cX0_nextOf 20 = .ok (.iload_n 2, 1) := by decide +kernel
theorem dX0_nextOf_21 : decode cX0_nextOf 21 = .ok (.aload_n 0, 1) := by decide +kernel
theorem dX0_nextOf_22 : decode cX0_nextOf 22 = .ok (.getfield 18, 3) := by decide +kernel
theorem dX0_nextOf_25 : decode cX0_nextOf 25 = .ok (.iload_n 3, 1) := by decide +kernel
theorem dX0_nextOf_26 : decode cX0_nextOf 26 = .ok (.iaload, 1) := by decide +kernel
theorem dX0_nextOf_27 : decode cX0_nextOf 27 = .ok (.ior, 1) := by decide +kernel
theorem dX0_nextOf_28 : decode cX0_nextOf 28 = .ok (.istore_n 2, 1) := by decide +kernel
theorem dX0_nextOf_29 : decode cX0_nextOf 29 = .ok (.iinc 3 1, 3) := by decide +kernel
theorem dX0_nextOf_32 : decode cX0_nextOf 32 = .ok (.goto (-28), 3) := by decide +kernel
theorem dX0_nextOf_35 : decode cX0_nextOf 35 = .ok (.iload_n 2, 1) := by decide +kernel
theorem dX0_nextOf_36 : decode cX0_nextOf 36 = .ok (.ireturn, 1) := by decide +kernel
theorem dX0_ringOf_0 : decode cX0_ringOf 0 = .ok (.aload_n 0, 1) := by decide +kernel
theorem dX0_ringOf_1 : decode cX0_ringOf 1 = .ok (.getfield 18, 3) := by decide +kernel
theorem dX0_ringOf_4 : decode cX0_ringOf 4 = .ok (.iload_n 1, 1) := by decide +kernel
theorem dX0_ringOf_5 : decode cX0_ringOf 5 = .ok (.iaload, 1) := by decide +kernel
theorem dX0_ringOf_6 : decode cX0_ringOf 6 = .ok (.istore_n 2, 1) := by decide +kernel
theorem dX0_ringOf_7 : decode cX0_ringOf 7 = .ok (.iconst 1, 1) := by decide +kernel
theorem dX0_ringOf_8 : decode cX0_ringOf 8 = .ok (.istore_n 3, 1) := by decide +kernel
theorem dX0_ringOf_9 : decode cX0_ringOf 9 = .ok (.iload_n 3, 1) := by decide +kernel
theorem dX0_ringOf_10 : decode cX0_ringOf 10 = .ok (.aload_n 0, 1) := by decide +kernel
theorem dX0_ringOf_11 : decode cX0_ringOf 11 = .ok (.getfield 15, 3) := by decide +kernel
theorem dX0_ringOf_14 : decode cX0_ringOf 14 = .ok (.if_icmp .gt 25, 3) := by decide +kernel
theorem dX0_ringOf_17 : decode cX0_ringOf 17 = .ok (.iload_n 2, 1) := by decide +kernel
theorem dX0_ringOf_18 : decode cX0_ringOf 18 = .ok (.iload_n 1, 1) := by decide +kernel
theorem dX0_ringOf_19 : decode cX0_ringOf 19 = .ok (.invokestatic 64, 3) := by decide +kernel
theorem dX0_ringOf_22 : decode cX0_ringOf 22 = .ok (.ifCond .eq 5, 3) := by decide +kernel
theorem dX0_ringOf_25 : decode cX0_ringOf 25 = .ok (.iload_n 3, 1) := by decide +kernel
theorem dX0_ringOf_26 : decode cX0_ringOf 26 = .ok (.ireturn, 1) := by decide +kernel
theorem dX0_ringOf_27 : decode cX0_ringOf 27 = .ok (.aload_n 0, 1) := by decide +kernel
theorem dX0_ringOf_28 : decode cX0_ringOf 28 = .ok (.iload_n 2, 1) := by decide +kernel
theorem dX0_ringOf_29 : decode cX0_ringOf 29 = .ok (.invokevirtual 68, 3) := by decide +kernel
theorem dX0_ringOf_32 : decode cX0_ringOf 32 = .ok (.istore_n 2, 1) := by decide +kernel
theorem dX0_ringOf_33 : decode cX0_ringOf 33 = .ok (.iinc 3 1, 3) := by decide +kernel
theorem dX0_ringOf_36 : decode cX0_ringOf 36 = .ok (.goto (-27), 3) := by decide +kernel
theorem dX0_ringOf_39 : decode cX0_ringOf 39 = .ok (.iconst 0, 1) := by decide +kernel
theorem dX0_ringOf_40 : decode cX0_ringOf 40 = .ok (.ireturn, 1) := by decide +kernel
theorem dX0_leastRing_0 : decode cX0_leastRing 0 = .ok (.iconst (-1), 1) := by decide +kernel
theorem dX0_leastRing_1 : decode cX0_leastRing 1 = .ok (.istore_n 1, 1) := by decide +kernel
theorem dX0_leastRing_2 : decode cX0_leastRing 2 = .ok (.iconst 0, 1) := by decide +kernel
theorem dX0_leastRing_3 : decode cX0_leastRing 3 = .ok (.istore_n 2, 1) := by decide +kernel
theorem dX0_leastRing_4 : decode cX0_leastRing 4 = .ok (.iload_n 2, 1) := by decide +kernel
theorem dX0_leastRing_5 : decode cX0_leastRing 5 = .ok (.aload_n 0, 1) := by decide +kernel
theorem dX0_leastRing_6 : decode cX0_leastRing 6 = .ok (.getfield 15, 3) := by decide +kernel
theorem dX0_leastRing_9 : decode cX0_leastRing 9 = .ok (.if_icmp .ge 31, 3) := by decide +kernel
theorem dX0_leastRing_12 : decode cX0_leastRing 12 = .ok (.aload_n 0, 1) := by decide +kernel
theorem dX0_leastRing_13 : decode cX0_leastRing 13 = .ok (.iload_n 2, 1) := by decide +kernel
theorem dX0_leastRing_14 : decode cX0_leastRing 14 = .ok (.invokevirtual 72, 3) := by decide +kernel
theorem dX0_leastRing_17 : decode cX0_leastRing 17 = .ok (.istore_n 3, 1) := by decide +kernel
theorem dX0_leastRing_18 : decode cX0_leastRing 18 = .ok (.iload_n 3, 1) := by decide +kernel
theorem dX0_leastRing_19 : decode cX0_leastRing 19 = .ok (.ifCond .le 15, 3) := by decide +kernel
theorem dX0_leastRing_22 : decode cX0_leastRing 22 = .ok (.iload_n 1, 1) := by decide +kernel
theorem dX0_leastRing_23 : decode cX0_leastRing 23 = .ok (.iconst (-1), 1) := by decide +kernel
theorem dX0_leastRing_24 : decode cX0_leastRing 24 = .ok (.if_icmp .eq 8, 3) := by decide +kernel
theorem dX0_leastRing_27 : decode cX0_leastRing 27 = .ok (.iload_n 3, 1) := by decide +kernel
theorem dX0_leastRing_28 : decode cX0_leastRing 28 = .ok (.iload_n 1, 1) := by decide +kernel
theorem dX0_leastRing_29 : decode cX0_leastRing 29 = .ok (.if_icmp .ge 5, 3) := by decide +kernel
theorem dX0_leastRing_32 : decode cX0_leastRing 32 = .ok (.iload_n 3, 1) := by decide +kernel
theorem dX0_leastRing_33 : decode cX0_leastRing 33 = .ok (.istore_n 1, 1) := by decide +kernel
theorem dX0_leastRing_34 : decode cX0_leastRing 34 = .ok (.iinc 2 1, 3) := by decide +kernel
theorem dX0_leastRing_37 : decode cX0_leastRing 37 = .ok (.goto (-33), 3) := by decide +kernel
theorem dX0_leastRing_40 : decode cX0_leastRing 40 = .ok (.iload_n 1, 1) := by decide +kernel
theorem dX0_leastRing_41 : decode cX0_leastRing 41 = .ok (.ireturn, 1) := by decide +kernel
theorem dX0_ringed_0 : decode cX0_ringed 0 = .ok (.iconst 0, 1) := by decide +kernel
theorem dX0_ringed_1 : decode cX0_ringed 1 = .ok (.istore_n 1, 1) := by decide +kernel
theorem dX0_ringed_2 : decode cX0_ringed 2 = .ok (.iconst 0, 1) := by decide +kernel
theorem dX0_ringed_3 : decode cX0_ringed 3 = .ok (.istore_n 2, 1) := by decide +kernel
theorem dX0_ringed_4 : decode cX0_ringed 4 = .ok (.iload_n 2, 1) := by decide +kernel
theorem dX0_ringed_5 : decode cX0_ringed 5 = .ok (.aload_n 0, 1) := by decide +kernel
theorem dX0_ringed_6 : decode cX0_ringed 6 = .ok (.getfield 15, 3) := by decide +kernel
theorem dX0_ringed_9 : decode cX0_ringed 9 = .ok (.if_icmp .ge 23, 3) := by decide +kernel
theorem dX0_ringed_12 : decode cX0_ringed 12 = .ok (.aload_n 0, 1) := by decide +kernel
theorem dX0_ringed_13 : decode cX0_ringed 13 = .ok (.iload_n 2, 1) := by decide +kernel
theorem dX0_ringed_14 : decode cX0_ringed 14 = .ok (.invokevirtual 72, 3) := by decide +kernel
theorem dX0_ringed_17 : decode cX0_ringed 17 = .ok (.ifCond .le 9, 3) := by decide +kernel
theorem dX0_ringed_20 : decode cX0_ringed 20 = .ok (.iload_n 1, 1) := by decide +kernel
theorem dX0_ringed_21 : decode cX0_ringed 21 = .ok (.iconst 1, 1) := by decide +kernel
theorem dX0_ringed_22 : decode cX0_ringed 22 = .ok (.iload_n 2, 1) := by decide +kernel
theorem dX0_ringed_23 : decode cX0_ringed 23 = .ok (.ishl, 1) := by decide +kernel
theorem dX0_ringed_24 : decode cX0_ringed 24 = .ok (.ior, 1) := by decide +kernel
theorem dX0_ringed_25 : decode cX0_ringed 25 = .ok (.istore_n 1, 1) := by decide +kernel
theorem dX0_ringed_26 : decode cX0_ringed 26 = .ok (.iinc 2 1, 3) := by decide +kernel
theorem dX0_ringed_29 : decode cX0_ringed 29 = .ok (.goto (-25), 3) := by decide +kernel
theorem dX0_ringed_32 : decode cX0_ringed 32 = .ok (.iload_n 1, 1) := by decide +kernel
theorem dX0_ringed_33 : decode cX0_ringed 33 = .ok (.ireturn, 1) := by decide +kernel
theorem dX0_findChain_0 : decode cX0_findChain 0 = .ok (.aload_n 0, 1) := by decide +kernel
theorem dX0_findChain_1 : decode cX0_findChain 1 = .ok (.iconst 0, 1) := by decide +kernel
theorem dX0_findChain_2 : decode cX0_findChain 2 = .ok (.putfield 9, 3) := by decide +kernel
theorem dX0_findChain_5 : decode cX0_findChain 5 = .ok (.aload_n 0, 1) := by decide +kernel
theorem dX0_findChain_6 : decode cX0_findChain 6 = .ok (.iconst 0, 1) := by decide +kernel
theorem dX0_findChain_7 : decode cX0_findChain 7 = .ok (.iconst 1, 1) := by decide +kernel
theorem dX0_findChain_8 : decode cX0_findChain 8 = .ok (.aload_n 0, 1) := by decide +kernel
theorem dX0_findChain_9 : decode cX0_findChain 9 = .ok (.getfield 15, 3) := by decide +kernel
theorem dX0_findChain_12 : decode cX0_findChain 12 = .ok (.ishl, 1) := by decide +kernel
theorem dX0_findChain_13 : decode cX0_findChain 13 = .ok (.iconst 1, 1) := by decide +kernel
theorem dX0_findChain_14 : decode cX0_findChain 14 = .ok (.isub, 1) := by decide +kernel
theorem dX0_findChain_15 : decode cX0_findChain 15 = .ok (.iconst 0, 1) := by decide +kernel
theorem dX0_findChain_16 : decode cX0_findChain 16 = .ok (.invokevirtual 75, 3) := by decide +kernel
theorem dX0_findChain_19 : decode cX0_findChain 19 = .ok (.return_, 1) := by decide +kernel
theorem dX0_extend_0 : decode cX0_extend 0 = .ok (.iload_n 1, 1) := by decide +kernel
theorem dX0_extend_1 : decode cX0_extend 1 = .ok (.aload_n 0, 1) := by decide +kernel
theorem dX0_extend_2 : decode cX0_extend 2 = .ok (.getfield 9, 3) := by decide +kernel
theorem dX0_extend_5 : decode cX0_extend 5 = .ok (.if_icmp .le 22, 3) := by decide +kernel
theorem dX0_extend_8 : decode cX0_extend 8 = .ok (.aload_n 0, 1) := by decide +kernel
theorem dX0_extend_9 : decode cX0_extend 9 = .ok (.iload_n 1, 1) := by decide +kernel
theorem dX0_extend_10 : decode cX0_extend 10 = .ok (.putfield 9, 3) := by decide +kernel
theorem dX0_extend_13 : decode cX0_extend 13 = .ok (.aload_n 0, 1) := by decide +kernel
theorem dX0_extend_14 : decode cX0_extend 14 = .ok (.getfield 31, 3) := by decide +kernel
theorem dX0_extend_17 : decode cX0_extend 17 = .ok (.iconst 0, 1) := by decide +kernel
theorem dX0_extend_18 : decode cX0_extend 18 = .ok (.aload_n 0, 1) := by decide +kernel
theorem dX0_extend_19 : decode cX0_extend 19 = .ok (.getfield 34, 3) := by decide +kernel
theorem dX0_extend_22 : decode cX0_extend 22 = .ok (.iconst 0, 1) := by decide +kernel
theorem dX0_extend_23 : decode cX0_extend 23 = .ok (.iload_n 1, 1) := by decide +kernel
theorem dX0_extend_24 : decode cX0_extend 24 = .ok (.invokestatic 79, 3) := by decide +kernel
theorem dX0_extend_27 : decode cX0_extend 27 = .ok (.iload_n 1, 1) := by decide +kernel
theorem dX0_extend_28 : decode cX0_extend 28 = .ok (.bipush 6, 2) := by decide +kernel
theorem dX0_extend_30 : decode cX0_extend 30 = .ok (.if_icmp .lt 4, 3) := by decide +kernel
theorem dX0_extend_33 : decode cX0_extend 33 = .ok (.return_, 1) := by decide +kernel
theorem dX0_extend_34 : decode cX0_extend 34 = .ok (.iconst 0, 1) := by decide +kernel
theorem dX0_extend_35 : decode cX0_extend 35 = .ok (.istore 4, 2) := by decide +kernel
theorem dX0_extend_37 : decode cX0_extend 37 = .ok (.iload 4, 2) := by decide +kernel
theorem dX0_extend_39 : decode cX0_extend 39 = .ok (.aload_n 0, 1) := by decide +kernel
theorem dX0_extend_40 : decode cX0_extend 40 = .ok (.getfield 15, 3) := by decide +kernel
theorem dX0_extend_43 : decode cX0_extend 43 = .ok (.if_icmp .ge 50, 3) := by decide +kernel
theorem dX0_extend_46 : decode cX0_extend 46 = .ok (.iload_n 2, 1) := by decide +kernel
theorem dX0_extend_47 : decode cX0_extend 47 = .ok (.iload_n 3, 1) := by decide +kernel
theorem dX0_extend_48 : decode cX0_extend 48 = .ok (.iconst (-1), 1) := by decide +kernel
theorem dX0_extend_49 : decode cX0_extend 49 = .ok (.ixor, 1) := by decide +kernel
theorem dX0_extend_50 : decode cX0_extend 50 = .ok (.iand, 1) := by decide +kernel
theorem dX0_extend_51 : decode cX0_extend 51 = .ok (.iload 4, 2) := by decide +kernel
theorem dX0_extend_53 : decode cX0_extend 53 = .ok (.invokestatic 64, 3) := by decide +kernel
theorem dX0_extend_56 : decode cX0_extend 56 = .ok (.ifCond .eq 31, 3) := by decide +kernel
theorem dX0_extend_59 : decode cX0_extend 59 = .ok (.aload_n 0, 1) := by decide +kernel
theorem dX0_extend_60 : decode cX0_extend 60 = .ok (.getfield 31, 3) := by decide +kernel
theorem dX0_extend_63 : decode cX0_extend 63 = .ok (.iload_n 1, 1) := by decide +kernel
theorem dX0_extend_64 : decode cX0_extend 64 = .ok (.iload 4, 2) := by decide +kernel
theorem dX0_extend_66 : decode cX0_extend 66 = .ok (.iastore, 1) := by decide +kernel
theorem dX0_extend_67 : decode cX0_extend 67 = .ok (.aload_n 0, 1) := by decide +kernel
theorem dX0_extend_68 : decode cX0_extend 68 = .ok (.iload_n 1, 1) := by decide +kernel
theorem dX0_extend_69 : decode cX0_extend 69 = .ok (.iconst 1, 1) := by decide +kernel
theorem dX0_extend_70 : decode cX0_extend 70 = .ok (.iadd, 1) := by decide +kernel
theorem dX0_extend_71 : decode cX0_extend 71 = .ok (.aload_n 0, 1) := by decide +kernel
theorem dX0_extend_72 : decode cX0_extend 72 = .ok (.getfield 18, 3) := by decide +kernel
theorem dX0_extend_75 : decode cX0_extend 75 = .ok (.iload 4, 2) := by decide +kernel
theorem dX0_extend_77 : decode cX0_extend 77 = .ok (.iaload, 1) := by decide +kernel
theorem dX0_extend_78 : decode cX0_extend 78 = .ok (.iload_n 3, 1) := by decide +kernel
theorem dX0_extend_79 : decode cX0_extend 79 = .ok (.iconst 1, 1) := by decide +kernel
theorem dX0_extend_80 : decode cX0_extend 80 = .ok (.iload 4, 2) := by decide +kernel
theorem dX0_extend_82 : decode cX0_extend 82 = .ok (.ishl, 1) := by decide +kernel
theorem dX0_extend_83 : decode cX0_extend 83 = .ok (.ior, 1) := by decide +kernel
theorem dX0_extend_84 : decode cX0_extend 84 = .ok (.invokevirtual 75, 3) := by decide +kernel
theorem dX0_extend_87 : decode cX0_extend 87 = .ok (.iinc 4 1, 3) := by decide +kernel
theorem dX0_extend_90 : decode cX0_extend 90 = .ok (.goto (-53), 3) := by decide +kernel
theorem dX0_extend_93 : decode cX0_extend 93 = .ok (.return_, 1) := by decide +kernel
theorem dX0_chained_0 : decode cX0_chained 0 = .ok (.iload_n 1, 1) := by decide +kernel
theorem dX0_chained_1 : decode cX0_chained 1 = .ok (.ifCond .lt 11, 3) := by decide +kernel
theorem dX0_chained_4 : decode cX0_chained 4 = .ok (.iload_n 1, 1) := by decide +kernel
theorem dX0_chained_5 : decode cX0_chained 5 = .ok (.aload_n 0, 1) := by decide +kernel
theorem dX0_chained_6 : decode cX0_chained 6 = .ok (.getfield 9, 3) := by decide +kernel
theorem dX0_chained_9 : decode cX0_chained 9 = .ok (.if_icmp .lt 7, 3) := by decide +kernel
theorem dX0_chained_12 : decode cX0_chained 12 = .ok (.iconst (-1), 1) := by decide +kernel
theorem dX0_chained_13 : decode cX0_chained 13 = .ok (.goto 9, 3) := by decide +kernel
theorem dX0_chained_16 : decode cX0_chained 16 = .ok (.aload_n 0, 1) := by decide +kernel
theorem dX0_chained_17 : decode cX0_chained 17 = .ok (.getfield 34, 3) := by decide +kernel
theorem dX0_chained_20 : decode cX0_chained 20 = .ok (.iload_n 1, 1) := by decide +kernel
theorem dX0_chained_21 : decode cX0_chained 21 = .ok (.iaload, 1) := by decide +kernel
theorem dX0_chained_22 : decode cX0_chained 22 = .ok (.ireturn, 1) := by decide +kernel
theorem dX0_likingsBetween_0 : decode cX0_likingsBetween 0 = .ok (.iconst 1, 1) := by decide +kernel
theorem dX0_likingsBetween_1 : decode cX0_likingsBetween 1 = .ok (.iload_n 1, 1) := by decide +kernel
theorem dX0_likingsBetween_2 : decode cX0_likingsBetween 2 = .ok (.ishl, 1) := by decide +kernel
theorem dX0_likingsBetween_3 : decode cX0_likingsBetween 3 = .ok (.istore_n 3, 1) := by decide +kernel
theorem dX0_likingsBetween_4 : decode cX0_likingsBetween 4 = .ok (.iconst 0, 1) := by decide +kernel
theorem dX0_likingsBetween_5 : decode cX0_likingsBetween 5 = .ok (.istore 4, 2) := by decide +kernel
theorem dX0_likingsBetween_7 : decode cX0_likingsBetween 7 = .ok (.iload 4, 2) := by decide +kernel
theorem dX0_likingsBetween_9 : decode cX0_likingsBetween 9 = .ok (.bipush 6, 2) := by decide +kernel
theorem dX0_likingsBetween_11 : decode cX0_likingsBetween 11 = .ok (.if_icmp .ge 65, 3) := by decide +kernel
theorem dX0_likingsBetween_14 : decode cX0_likingsBetween 14 = .ok (.iload_n 3, 1) := by decide +kernel
theorem dX0_likingsBetween_15 : decode cX0_likingsBetween 15 = .ok (.iload_n 2, 1) := by decide +kernel
theorem dX0_likingsBetween_16 : decode cX0_likingsBetween 16 = .ok (.invokestatic 64, 3) := by decide +kernel
theorem dX0_likingsBetween_19 : decode cX0_likingsBetween 19 = .ok (.ifCond .eq 6, 3) := by decide +kernel
theorem dX0_likingsBetween_22 : decode cX0_likingsBetween 22 = .ok (.iload 4, 2) := by decide +kernel
theorem dX0_likingsBetween_24 : decode cX0_likingsBetween 24 = .ok (.ireturn, 1) := by decide +kernel
theorem dX0_likingsBetween_25 : decode cX0_likingsBetween 25 = .ok (.iload_n 3, 1) := by decide +kernel
theorem dX0_likingsBetween_26 : decode cX0_likingsBetween 26 = .ok (.istore 5, 2) := by decide +kernel
theorem dX0_likingsBetween_28 : decode cX0_likingsBetween 28 = .ok (.iconst 0, 1) := by decide +kernel
theorem dX0_likingsBetween_29 : decode cX0_likingsBetween 29 = .ok (.istore 6, 2) := by decide +kernel
theorem dX0_likingsBetween_31 : decode cX0_likingsBetween 31 = .ok (.iload 6, 2) := by decide +kernel
theorem dX0_likingsBetween_33 : decode cX0_likingsBetween 33 = .ok (.aload_n 0, 1) := by decide +kernel
theorem dX0_likingsBetween_34 : decode cX0_likingsBetween 34 = .ok (.getfield 37, 3) := by decide +kernel
theorem dX0_likingsBetween_37 : decode cX0_likingsBetween 37 = .ok (.if_icmp .ge 30, 3) := by decide +kernel
theorem dX0_likingsBetween_40 : decode cX0_likingsBetween 40 = .ok (.iload_n 3, 1) := by decide +kernel
theorem dX0_likingsBetween_41 : decode cX0_likingsBetween 41 = .ok (.iload 6, 2) := by decide +kernel
theorem dX0_likingsBetween_43 : decode cX0_likingsBetween 43 = .ok (.invokestatic 64, 3) := by decide +kernel
theorem dX0_likingsBetween_46 : decode cX0_likingsBetween 46 = .ok (.ifCond .eq 15, 3) := by decide +kernel
theorem dX0_likingsBetween_49 : decode cX0_likingsBetween 49 = .ok (.iload 5, 2) := by decide +kernel
theorem dX0_likingsBetween_51 : decode cX0_likingsBetween 51 = .ok (.aload_n 0, 1) := by decide +kernel
theorem dX0_likingsBetween_52 : decode cX0_likingsBetween 52 = .ok (.getfield 49, 3) := by decide +kernel
theorem dX0_likingsBetween_55 : decode cX0_likingsBetween 55 = .ok (.iload 6, 2) := by decide +kernel
theorem dX0_likingsBetween_57 : decode cX0_likingsBetween 57 = .ok (.iaload, 1) := by decide +kernel
theorem dX0_likingsBetween_58 : decode cX0_likingsBetween 58 = .ok (.ior, 1) := by decide +kernel
theorem dX0_likingsBetween_59 : decode cX0_likingsBetween 59 = .ok (.istore 5, 2) := by decide +kernel
theorem dX0_likingsBetween_61 : decode cX0_likingsBetween 61 = .ok (.iinc 6 1, 3) := by decide +kernel
theorem dX0_likingsBetween_64 : decode cX0_likingsBetween 64 = .ok (.goto (-33), 3) := by decide +kernel
theorem dX0_likingsBetween_67 : decode cX0_likingsBetween 67 = .ok (.iload 5, 2) := by decide +kernel
theorem dX0_likingsBetween_69 : decode cX0_likingsBetween 69 = .ok (.istore_n 3, 1) := by decide +kernel
theorem dX0_likingsBetween_70 : decode cX0_likingsBetween 70 = .ok (.iinc 4 1, 3) := by decide +kernel
theorem dX0_likingsBetween_73 : decode cX0_likingsBetween 73 = .ok (.goto (-66), 3) := by decide +kernel
theorem dX0_likingsBetween_76 : decode cX0_likingsBetween 76 = .ok (.iconst (-1), 1) := by decide +kernel
theorem dX0_likingsBetween_77 : decode cX0_likingsBetween 77 = .ok (.ireturn, 1) := by decide +kernel
theorem dX1_init_0 : decode cX1_init 0 = .ok (.aload_n 0, 1) := by decide +kernel
theorem dX1_init_1 : decode cX1_init 1 = .ok (.invokespecial 3, 3) := by decide +kernel
theorem dX1_init_4 : decode cX1_init 4 = .ok (.aload_n 0, 1) := by decide +kernel
theorem dX1_init_5 : decode cX1_init 5 = .ok (.bipush 6, 2) := by decide +kernel
theorem dX1_init_7 : decode cX1_init 7 = .ok (.newarray .int, 2) := by decide +kernel
theorem dX1_init_9 : decode cX1_init 9 = .ok (.putfield 9, 3) := by decide +kernel
theorem dX1_init_12 : decode cX1_init 12 = .ok (.aload_n 0, 1) := by decide +kernel
theorem dX1_init_13 : decode cX1_init 13 = .ok (.iconst 0, 1) := by decide +kernel
theorem dX1_init_14 : decode cX1_init 14 = .ok (.putfield 15, 3) := by decide +kernel
theorem dX1_init_17 : decode cX1_init 17 = .ok (.aload_n 0, 1) := by decide +kernel
theorem dX1_init_18 : decode cX1_init 18 = .ok (.iconst 0, 1) := by decide +kernel
theorem dX1_init_19 : decode cX1_init 19 = .ok (.putfield 19, 3) := by decide +kernel
theorem dX1_init_22 : decode cX1_init 22 = .ok (.aload_n 0, 1) := by decide +kernel
theorem dX1_init_23 : decode cX1_init 23 = .ok (.iconst (-1), 1) := by decide +kernel
theorem dX1_init_24 : decode cX1_init 24 = .ok (.putfield 22, 3) := by decide +kernel
theorem dX1_init_27 : decode cX1_init 27 = .ok (.return_, 1) := by decide +kernel
theorem dX1_tell_0 : decode cX1_tell 0 = .ok (.iload_n 2, 1) := by decide +kernel
theorem dX1_tell_1 : decode cX1_tell 1 = .ok (.tableswitch 111 8 15 #[47, 52, 69, 74, 84, 94, 99, 105], 47) := by decide +kernel
theorem dX1_tell_48 : decode cX1_tell 48 = .ok (.aload_n 1, 1) := by decide +kernel
theorem dX1_tell_49 : decode cX1_tell 49 = .ok (.invokestatic 25, 3) := by decide +kernel
theorem dX1_tell_52 : decode cX1_tell 52 = .ok (.ireturn, 1) := by decide +kernel
theorem dX1_tell_53 : decode cX1_tell 53 = .ok (.iconst 1, 1) := by decide +kernel
theorem dX1_tell_54 : decode cX1_tell 54 = .ok (.aload_n 1, 1) := by decide +kernel
theorem dX1_tell_55 : decode cX1_tell 55 = .ok (.getfield 29, 3) := by decide +kernel
theorem dX1_tell_58 : decode cX1_tell 58 = .ok (.ishl, 1) := by decide +kernel
theorem dX1_tell_59 : decode cX1_tell 59 = .ok (.iconst 1, 1) := by decide +kernel
theorem dX1_tell_60 : decode cX1_tell 60 = .ok (.isub, 1) := by decide +kernel
theorem dX1_tell_61 : decode cX1_tell 61 = .ok (.aload_n 1, 1) := by decide +kernel
theorem dX1_tell_62 : decode cX1_tell 62 = .ok (.iconst 0, 1) := by decide +kernel
theorem dX1_tell_63 : decode cX1_tell 63 = .ok (.invokevirtual 34, 3) := by decide +kernel
theorem dX1_tell_66 : decode cX1_tell 66 = .ok (.iconst (-1), 1) := by decide +kernel
theorem dX1_tell_67 : decode cX1_tell 67 = .ok (.ixor, 1) := by decide +kernel
theorem dX1_tell_68 : decode cX1_tell 68 = .ok (.iand, 1) := by decide +kernel
theorem dX1_tell_69 : decode cX1_tell 69 = .ok (.ireturn, 1) := by decide +kernel
theorem dX1_tell_70 : decode cX1_tell 70 = .ok (.aload_n 1, 1) := by decide +kernel
theorem dX1_tell_71 : decode cX1_tell 71 = .ok (.invokestatic 38, 3) := by decide +kernel
theorem dX1_tell_74 : decode cX1_tell 74 = .ok (.ireturn, 1) := by decide +kernel
theorem dX1_tell_75 : decode cX1_tell 75 = .ok (.aload_n 0, 1) := by decide +kernel
theorem dX1_tell_76 : decode cX1_tell 76 = .ok (.aload_n 1, 1) := by decide +kernel
theorem dX1_tell_77 : decode cX1_tell 77 = .ok (.invokevirtual 41, 3) := by decide +kernel
theorem dX1_tell_80 : decode cX1_tell 80 = .ok (.aload_n 0, 1) := by decide +kernel
theorem dX1_tell_81 : decode cX1_tell 81 = .ok (.getfield 19, 3) := by decide +kernel
theorem dX1_tell_84 : decode cX1_tell 84 = .ok (.ireturn, 1) := by decide +kernel
theorem dX1_tell_85 : decode cX1_tell 85 = .ok (.aload_n 0, 1) := by decide +kernel
theorem dX1_tell_86 : decode cX1_tell 86 = .ok (.aload_n 1, 1) := by decide +kernel
theorem dX1_tell_87 : decode cX1_tell 87 = .ok (.invokevirtual 41, 3) := by decide +kernel
theorem dX1_tell_90 : decode cX1_tell 90 = .ok (.aload_n 0, 1) := by decide +kernel
theorem dX1_tell_91 : decode cX1_tell 91 = .ok (.getfield 22, 3) := by decide +kernel
theorem dX1_tell_94 : decode cX1_tell 94 = .ok (.ireturn, 1) := by decide +kernel
theorem dX1_tell_95 : decode cX1_tell 95 = .ok (.aload_n 1, 1) := by decide +kernel
theorem dX1_tell_96 : decode cX1_tell 96 = .ok (.invokestatic 45, 3) := by decide +kernel
theorem dX1_tell_99 : decode cX1_tell 99 = .ok (.ireturn, 1) := by decide +kernel
theorem dX1_tell_100 : decode cX1_tell 100 = .ok (.aload_n 1, 1) := by decide +kernel
theorem dX1_tell_101 : decode cX1_tell 101 = .ok (.iconst 0, 1) := by decide +kernel
theorem dX1_tell_102 : decode cX1_tell 102 = .ok (.invokestatic 48, 3) := by decide +kernel
theorem dX1_tell_105 : decode cX1_tell 105 = .ok (.ireturn, 1) := by decide +kernel
theorem dX1_tell_106 : decode cX1_tell 106 = .ok (.aload_n 1, 1) := by decide +kernel
theorem dX1_tell_107 : decode cX1_tell 107 = .ok (.iconst 1, 1) := by decide +kernel
theorem dX1_tell_108 : decode cX1_tell 108 = .ok (.invokestatic 48, 3) := by decide +kernel
theorem dX1_tell_111 : decode cX1_tell 111 = .ok (.ireturn, 1) := by decide +kernel
theorem dX1_tell_112 : decode cX1_tell 112 = .ok (.bipush (-2), 2) := by decide +kernel
theorem dX1_tell_114 : decode cX1_tell 114 = .ok (.ireturn, 1) := by decide +kernel
theorem dX1_hardest_0 : decode cX1_hardest 0 = .ok (.iconst 0, 1) := by decide +kernel
theorem dX1_hardest_1 : decode cX1_hardest 1 = .ok (.istore_n 1, 1) := by decide +kernel
theorem dX1_hardest_2 : decode cX1_hardest 2 = .ok (.iconst 1, 1) := by decide +kernel
theorem dX1_hardest_3 : decode cX1_hardest 3 = .ok (.istore_n 2, 1) := by decide +kernel
theorem dX1_hardest_4 : decode cX1_hardest 4 = .ok (.iload_n 2, 1) := by decide +kernel
theorem dX1_hardest_5 : decode cX1_hardest 5 = .ok (.bipush 8, 2) := by decide +kernel
theorem dX1_hardest_7 : decode cX1_hardest 7 = .ok (.if_icmp .ge 26, 3) := by decide +kernel
theorem dX1_hardest_10 : decode cX1_hardest 10 = .ok (.aload_n 0, 1) := by decide +kernel
theorem dX1_hardest_11 : decode cX1_hardest 11 = .ok (.getfield 52, 3) := by decide +kernel
theorem dX1_hardest_14 : decode cX1_hardest 14 = .ok (.iload_n 2, 1) := by decide +kernel
theorem dX1_hardest_15 : decode cX1_hardest 15 = .ok (.iaload, 1) := by decide +kernel
theorem dX1_hardest_16 : decode cX1_hardest 16 = .ok (.aload_n 0, 1) := by decide +kernel
theorem dX1_hardest_17 : decode cX1_hardest 17 = .ok (.getfield 52, 3) := by decide +kernel
theorem dX1_hardest_20 : decode cX1_hardest 20 = .ok (.iload_n 1, 1) := by decide +kernel
theorem dX1_hardest_21 : decode cX1_hardest 21 = .ok (.iaload, 1) := by decide +kernel
theorem dX1_hardest_22 : decode cX1_hardest 22 = .ok (.if_icmp .le 5, 3) := by decide +kernel
theorem dX1_hardest_25 : decode cX1_hardest 25 = .ok (.iload_n 2, 1) := by decide +kernel
theorem dX1_hardest_26 : decode cX1_hardest 26 = .ok (.istore_n 1, 1) := by decide +kernel
theorem dX1_hardest_27 : decode cX1_hardest 27 = .ok (.iinc 2 1, 3) := by decide +kernel
theorem dX1_hardest_30 : decode cX1_hardest 30 = .ok (.goto (-26), 3) := by decide +kernel
theorem dX1_hardest_33 : decode cX1_hardest 33 = .ok (.iload_n 1, 1) := by decide +kernel
theorem dX1_hardest_34 : decode cX1_hardest 34 = .ok (.ireturn, 1) := by decide +kernel
theorem dX1_spoilers_0 : decode cX1_spoilers 0 = .ok (.aload_n 0, 1) := by decide +kernel
theorem dX1_spoilers_1 : decode cX1_spoilers 1 = .ok (.iconst 0, 1) := by decide +kernel
theorem dX1_spoilers_2 : decode cX1_spoilers 2 = .ok (.invokevirtual 34, 3) := by decide +kernel
theorem dX1_spoilers_5 : decode cX1_spoilers 5 = .ok (.istore_n 1, 1) := by decide +kernel
theorem dX1_spoilers_6 : decode cX1_spoilers 6 = .ok (.iconst 0, 1) := by decide +kernel
theorem dX1_spoilers_7 : decode cX1_spoilers 7 = .ok (.istore_n 2, 1) := by decide +kernel
theorem dX1_spoilers_8 : decode cX1_spoilers 8 = .ok (.iconst 0, 1) := by decide +kernel
theorem dX1_spoilers_9 : decode cX1_spoilers 9 = .ok (.istore_n 3, 1) := by decide +kernel
theorem dX1_spoilers_10 : decode cX1_spoilers 10 = .ok (.iload_n 3, 1) := by decide +kernel
theorem dX1_spoilers_11 : decode cX1_spoilers 11 = .ok (.aload_n 0, 1) := by decide +kernel
theorem dX1_spoilers_12 : decode cX1_spoilers 12 = .ok (.getfield 29, 3) := by decide +kernel
theorem dX1_spoilers_15 : decode cX1_spoilers 15 = .ok (.if_icmp .ge 42, 3) := by decide +kernel
theorem dX1_spoilers_18 : decode cX1_spoilers 18 = .ok (.iload_n 1, 1) := by decide +kernel
theorem dX1_spoilers_19 : decode cX1_spoilers 19 = .ok (.iconst 1, 1) := by decide +kernel
theorem dX1_spoilers_20 : decode cX1_spoilers 20 = .ok (.iload_n 3, 1) := by decide +kernel
theorem dX1_spoilers_21 : decode cX1_spoilers 21 = .ok (.ishl, 1) := by decide +kernel
theorem dX1_spoilers_22 : decode cX1_spoilers 22 = .ok (.iconst (-1), 1) := by decide +kernel
theorem dX1_spoilers_23 : decode cX1_spoilers 23 = .ok (.ixor, 1) := by decide +kernel
theorem dX1_spoilers_24 : decode cX1_spoilers 24 = .ok (.iand, 1) := by decide +kernel
theorem dX1_spoilers_25 : decode cX1_spoilers 25 = .ok (.invokestatic 55, 3) := by decide +kernel
theorem dX1_spoilers_28 : decode cX1_spoilers 28 = .ok (.istore 4, 2) := by decide +kernel
theorem dX1_spoilers_30 : decode cX1_spoilers 30 = .ok (.aload_n 0, 1) := by decide +kernel
theorem dX1_spoilers_31 : decode cX1_spoilers 31 = .ok (.iconst 1, 1) := by decide +kernel
theorem dX1_spoilers_32 : decode cX1_spoilers 32 = .ok (.iload_n 3, 1) := by decide +kernel
theorem dX1_spoilers_33 : decode cX1_spoilers 33 = .ok (.ishl, 1) := by decide +kernel
theorem dX1_spoilers_34 : decode cX1_spoilers 34 = .ok (.invokevirtual 34, 3) := by decide +kernel
theorem dX1_spoilers_37 : decode cX1_spoilers 37 = .ok (.invokestatic 55, 3) := by decide +kernel
theorem dX1_spoilers_40 : decode cX1_spoilers 40 = .ok (.iload 4, 2) := by decide +kernel
theorem dX1_spoilers_42 : decode cX1_spoilers 42 = .ok (.if_icmp .ge 9, 3) := by decide +kernel
theorem dX1_spoilers_45 : decode cX1_spoilers 45 = .ok (.iload_n 2, 1) := by decide +kernel
theorem dX1_spoilers_46 : decode cX1_spoilers 46 = .ok (.iconst 1, 1) := by decide +kernel
theorem dX1_spoilers_47 : decode cX1_spoilers 47 = .ok (.iload_n 3, 1) := by decide +kernel
theorem dX1_spoilers_48 : decode cX1_spoilers 48 = .ok (.ishl, 1) := by decide +kernel
theorem dX1_spoilers_49 : decode cX1_spoilers 49 = .ok (.ior, 1) := by decide +kernel
theorem dX1_spoilers_50 : decode cX1_spoilers 50 = .ok (.istore_n 2, 1) := by decide +kernel
theorem dX1_spoilers_51 : decode cX1_spoilers 51 = .ok (.iinc 3 1, 3) := by decide +kernel
theorem dX1_spoilers_54 : decode cX1_spoilers 54 = .ok (.goto (-44), 3) := by decide +kernel
theorem dX1_spoilers_57 : decode cX1_spoilers 57 = .ok (.iload_n 2, 1) := by decide +kernel
theorem dX1_spoilers_58 : decode cX1_spoilers 58 = .ok (.ireturn, 1) := by decide +kernel
theorem dX1_findMore_0 : decode cX1_findMore 0 = .ok (.aload_n 0, 1) := by decide +kernel
theorem dX1_findMore_1 : decode cX1_findMore 1 = .ok (.iconst 0, 1) := by decide +kernel
theorem dX1_findMore_2 : decode cX1_findMore 2 = .ok (.putfield 19, 3) := by decide +kernel
theorem dX1_findMore_5 : decode cX1_findMore 5 = .ok (.aload_n 0, 1) := by decide +kernel
theorem dX1_findMore_6 : decode cX1_findMore 6 = .ok (.iconst (-1), 1) := by decide +kernel
theorem dX1_findMore_7 : decode cX1_findMore 7 = .ok (.putfield 22, 3) := by decide +kernel
theorem dX1_findMore_10 : decode cX1_findMore 10 = .ok (.iconst 0, 1) := by decide +kernel
theorem dX1_findMore_11 : decode cX1_findMore 11 = .ok (.istore_n 2, 1) := by decide +kernel
theorem dX1_findMore_12 : decode cX1_findMore 12 = .ok (.iload_n 2, 1) := by decide +kernel
theorem dX1_findMore_13 : decode cX1_findMore 13 = .ok (.aload_n 1, 1) := by decide +kernel
theorem dX1_findMore_14 : decode cX1_findMore 14 = .ok (.getfield 60, 3) := by decide +kernel
theorem dX1_findMore_17 : decode cX1_findMore 17 = .ok (.if_icmp .ge 37, 3) := by decide +kernel
theorem dX1_findMore_20 : decode cX1_findMore 20 = .ok (.iconst 0, 1) := by decide +kernel
theorem dX1_findMore_21 : decode cX1_findMore 21 = .ok (.istore_n 3, 1) := by decide +kernel
theorem dX1_findMore_22 : decode cX1_findMore 22 = .ok (.iload_n 3, 1) := by decide +kernel
theorem dX1_findMore_23 : decode cX1_findMore 23 = .ok (.aload_n 1, 1) := by decide +kernel
theorem dX1_findMore_24 : decode cX1_findMore 24 = .ok (.getfield 60, 3) := by decide +kernel
theorem dX1_findMore_27 : decode cX1_findMore 27 = .ok (.if_icmp .ge 21, 3) := by decide +kernel
theorem dX1_findMore_30 : decode cX1_findMore 30 = .ok (.iload_n 2, 1) := by decide +kernel
theorem dX1_findMore_31 : decode cX1_findMore 31 = .ok (.iload_n 3, 1) := by decide +kernel
theorem dX1_findMore_32 : decode cX1_findMore 32 = .ok (.if_icmp .eq 10, 3) := by decide +kernel
theorem dX1_findMore_35 : decode cX1_findMore 35 = .ok (.aload_n 0, 1) := by decide +kernel
theorem dX1_findMore_36 : decode cX1_findMore 36 = .ok (.aload_n 1, 1) := by decide +kernel
theorem dX1_findMore_37 : decode cX1_findMore 37 = .ok (.iload_n 2, 1) := by decide +kernel
theorem dX1_findMore_38 : decode cX1_findMore 38 = .ok (.iload_n 3, 1) := by decide +kernel
theorem dX1_findMore_39 : decode cX1_findMore 39 = .ok (.invokevirtual 63, 3) := by decide +kernel
theorem dX1_findMore_42 : decode cX1_findMore 42 = .ok (.iinc 3 1, 3) := by decide +kernel
theorem dX1_findMore_45 : decode cX1_findMore 45 = .ok (.goto (-23), 3) := by decide +kernel
theorem dX1_findMore_48 : decode cX1_findMore 48 = .ok (.iinc 2 1, 3) := by decide +kernel
theorem dX1_findMore_51 : decode cX1_findMore 51 = .ok (.goto (-39), 3) := by decide +kernel
theorem dX1_findMore_54 : decode cX1_findMore 54 = .ok (.return_, 1) := by decide +kernel
theorem dX1_findMoreOf_0 : decode cX1_findMoreOf 0 = .ok (.aload_n 1, 1) := by decide +kernel
theorem dX1_findMoreOf_1 : decode cX1_findMoreOf 1 = .ok (.iload_n 3, 1) := by decide +kernel
theorem dX1_findMoreOf_2 : decode cX1_findMoreOf 2 = .ok (.iconst 0, 1) := by decide +kernel
theorem dX1_findMoreOf_3 : decode cX1_findMoreOf 3 = .ok (.invokevirtual 67, 3) := by decide +kernel
theorem dX1_findMoreOf_6 : decode cX1_findMoreOf 6 = .ok (.istore 4, 2) := by decide +kernel
theorem dX1_findMoreOf_8 : decode cX1_findMoreOf 8 = .ok (.aload_n 1, 1) := by decide +kernel
theorem dX1_findMoreOf_9 : decode cX1_findMoreOf 9 = .ok (.iload_n 3, 1) := by decide +kernel
theorem dX1_findMoreOf_10 : decode cX1_findMoreOf 10 = .ok (.invokevirtual 71, 3) := by decide +kernel
theorem dX1_findMoreOf_13 : decode cX1_findMoreOf 13 = .ok (.istore 5, 2) := by decide +kernel
theorem dX1_findMoreOf_15 : decode cX1_findMoreOf 15 = .ok (.aload_n 1, 1) := by decide +kernel
theorem dX1_findMoreOf_16 : decode cX1_findMoreOf 16 = .ok (.iload_n 2, 1) := by decide +kernel
theorem dX1_findMoreOf_17 : decode cX1_findMoreOf 17 = .ok (.iload_n 3, 1) := by decide +kernel
theorem dX1_findMoreOf_18 : decode cX1_findMoreOf 18 = .ok (.invokevirtual 74, 3) := by decide +kernel
theorem dX1_findMoreOf_21 : decode cX1_findMoreOf 21 = .ok (.istore 6, 2) := by decide +kernel
theorem dX1_findMoreOf_23 : decode cX1_findMoreOf 23 = .ok (.iconst 0, 1) := by decide +kernel
theorem dX1_findMoreOf_24 : decode cX1_findMoreOf 24 = .ok (.istore 7, 2) := by decide +kernel
theorem dX1_findMoreOf_26 : decode cX1_findMoreOf 26 = .ok (.iload 7, 2) := by decide +kernel
theorem dX1_findMoreOf_28 : decode cX1_findMoreOf 28 = .ok (.bipush 8, 2) := by decide +kernel
theorem dX1_findMoreOf_30 : decode cX1_findMoreOf 30 = .ok (.if_icmp .ge 115, 3) := by decide +kernel
theorem dX1_findMoreOf_33 : decode cX1_findMoreOf 33 = .ok (.aload_n 1, 1) := by decide +kernel
theorem dX1_findMoreOf_34 : decode cX1_findMoreOf 34 = .ok (.iload 4, 2) := by decide +kernel
theorem dX1_findMoreOf_36 : decode cX1_findMoreOf 36 = .ok (.iload 6, 2) := by decide +kernel
theorem dX1_findMoreOf_38 : decode cX1_findMoreOf 38 = .ok (.iconst 1, 1) := by decide +kernel
theorem dX1_findMoreOf_39 : decode cX1_findMoreOf 39 = .ok (.iload 7, 2) := by decide +kernel
theorem dX1_findMoreOf_41 : decode cX1_findMoreOf 41 = .ok (.ishl, 1) := by decide +kernel
theorem dX1_findMoreOf_42 : decode cX1_findMoreOf 42 = .ok (.iand, 1) := by decide +kernel
theorem dX1_findMoreOf_43 : decode cX1_findMoreOf 43 = .ok (.ior, 1) := by decide +kernel
theorem dX1_findMoreOf_44 : decode cX1_findMoreOf 44 = .ok (.aload_n 1, 1) := by decide +kernel
theorem dX1_findMoreOf_45 : decode cX1_findMoreOf 45 = .ok (.getfield 77, 3) := by decide +kernel
theorem dX1_findMoreOf_48 : decode cX1_findMoreOf 48 = .ok (.iload_n 3, 1) := by decide +kernel
theorem dX1_findMoreOf_49 : decode cX1_findMoreOf 49 = .ok (.iaload, 1) := by decide +kernel
theorem dX1_findMoreOf_50 : decode cX1_findMoreOf 50 = .ok (.invokevirtual 80, 3) := by decide +kernel
theorem dX1_findMoreOf_53 : decode cX1_findMoreOf 53 = .ok (.istore 8, 2) := by decide +kernel
theorem dX1_findMoreOf_55 : decode cX1_findMoreOf 55 = .ok (.iload 8, 2) := by decide +kernel
theorem dX1_findMoreOf_57 : decode cX1_findMoreOf 57 = .ok (.iload 7, 2) := by decide +kernel
theorem dX1_findMoreOf_59 : decode cX1_findMoreOf 59 = .ok (.invokestatic 83, 3) := by decide +kernel
theorem dX1_findMoreOf_62 : decode cX1_findMoreOf 62 = .ok (.ifCond .eq 17, 3) := by decide +kernel
theorem dX1_findMoreOf_65 : decode cX1_findMoreOf 65 = .ok (.iload 5, 2) := by decide +kernel
theorem dX1_findMoreOf_67 : decode cX1_findMoreOf 67 = .ok (.iload 8, 2) := by decide +kernel
theorem dX1_findMoreOf_69 : decode cX1_findMoreOf 69 = .ok (.iconst (-1), 1) := by decide +kernel
theorem dX1_findMoreOf_70 : decode cX1_findMoreOf 70 = .ok (.ixor, 1) := by decide +kernel
theorem dX1_findMoreOf_71 : decode cX1_findMoreOf 71 = .ok (.iand, 1) := by decide +kernel
theorem dX1_findMoreOf_72 : decode cX1_findMoreOf 72 = .ok (.ifCond .ne 7, 3) := by decide +kernel
theorem dX1_findMoreOf_75 : decode cX1_findMoreOf 75 = .ok (.iconst 1, 1) := by decide +kernel
theorem dX1_findMoreOf_76 : decode cX1_findMoreOf 76 = .ok (.goto 4, 3) := by decide +kernel
theorem dX1_findMoreOf_79 : decode cX1_findMoreOf 79 = .ok (.iconst 0, 1) := by decide +kernel
theorem dX1_findMoreOf_80 : decode cX1_findMoreOf 80 = .ok (.istore 9, 2) := by decide +kernel
theorem dX1_findMoreOf_82 : decode cX1_findMoreOf 82 = .ok (.iload 9, 2) := by decide +kernel
theorem dX1_findMoreOf_84 : decode cX1_findMoreOf 84 = .ok (.ifCond .eq 55, 3) := by decide +kernel
theorem dX1_findMoreOf_87 : decode cX1_findMoreOf 87 = .ok (.aload_n 1, 1) := by decide +kernel
theorem dX1_findMoreOf_88 : decode cX1_findMoreOf 88 = .ok (.iload_n 2, 1) := by decide +kernel
theorem dX1_findMoreOf_89 : decode cX1_findMoreOf 89 = .ok (.iload_n 3, 1) := by decide +kernel
theorem dX1_findMoreOf_90 : decode cX1_findMoreOf 90 = .ok (.iload 7, 2) := by decide +kernel
theorem dX1_findMoreOf_92 : decode cX1_findMoreOf 92 = .ok (.invokevirtual 87, 3) := by decide +kernel
theorem dX1_findMoreOf_95 : decode cX1_findMoreOf 95 = .ok (.ifCond .ne 44, 3) := by decide +kernel
theorem dX1_findMoreOf_98 : decode cX1_findMoreOf 98 = .ok (.aload_n 0, 1) := by decide +kernel
theorem dX1_findMoreOf_99 : decode cX1_findMoreOf 99 = .ok (.dup, 1) := by decide +kernel
theorem dX1_findMoreOf_100 : decode cX1_findMoreOf 100 = .ok (.getfield 19, 3) := by decide +kernel
theorem dX1_findMoreOf_103 : decode cX1_findMoreOf 103 = .ok (.iconst 1, 1) := by decide +kernel
theorem dX1_findMoreOf_104 : decode cX1_findMoreOf 104 = .ok (.iadd, 1) := by decide +kernel
theorem dX1_findMoreOf_105 : decode cX1_findMoreOf 105 = .ok (.putfield 19, 3) := by decide +kernel
theorem dX1_findMoreOf_108 : decode cX1_findMoreOf 108 = .ok (.aload_n 0, 1) := by decide +kernel
theorem dX1_findMoreOf_109 : decode cX1_findMoreOf 109 = .ok (.aload_n 0, 1) := by decide +kernel
theorem dX1_findMoreOf_110 : decode cX1_findMoreOf 110 = .ok (.getfield 22, 3) := by decide +kernel
theorem dX1_findMoreOf_113 : decode cX1_findMoreOf 113 = .ok (.iconst (-1), 1) := by decide +kernel
theorem dX1_findMoreOf_114 : decode cX1_findMoreOf 114 = .ok (.if_icmp .ne 18, 3) := by decide +kernel
theorem dX1_findMoreOf_117 : decode cX1_findMoreOf 117 = .ok (.bipush 100, 2) := by decide +kernel
theorem dX1_findMoreOf_119 : decode cX1_findMoreOf 119 = .ok (.iload_n 2, 1) := by decide +kernel
theorem dX1_findMoreOf_120 : decode cX1_findMoreOf 120 = .ok (.imul, 1) := by decide +kernel
theorem dX1_findMoreOf_121 : decode cX1_findMoreOf 121 = .ok (.bipush 10, 2) := by decide +kernel
theorem dX1_findMoreOf_123 : decode cX1_findMoreOf 123 = .ok (.iload_n 3, 1) := by decide +kernel
theorem dX1_findMoreOf_124 : decode cX1_findMoreOf 124 = .ok (.imul, 1) := by decide +kernel
theorem dX1_findMoreOf_125 : decode cX1_findMoreOf 125 = .ok (.iadd, 1) := by decide +kernel
theorem dX1_findMoreOf_126 : decode cX1_findMoreOf 126 = .ok (.iload 7, 2) := by decide +kernel
theorem dX1_findMoreOf_128 : decode cX1_findMoreOf 128 = .ok (.iadd, 1) := by decide +kernel
theorem dX1_findMoreOf_129 : decode cX1_findMoreOf 129 = .ok (.goto 7, 3) := by decide +kernel
theorem dX1_findMoreOf_132 : decode cX1_findMoreOf 132 = .ok (.aload_n 0, 1) := by decide +kernel
theorem dX1_findMoreOf_133 : decode cX1_findMoreOf 133 = .ok (.getfield 22, 3) := by decide +kernel
theorem dX1_findMoreOf_136 : decode cX1_findMoreOf 136 = .ok (.putfield 22, 3) := by decide +kernel
theorem dX1_findMoreOf_139 : decode cX1_findMoreOf 139 = .ok (.iinc 7 1, 3) := by decide +kernel
theorem dX1_findMoreOf_142 : decode cX1_findMoreOf 142 = .ok (.goto (-116), 3) := by decide +kernel
theorem dX1_findMoreOf_145 : decode cX1_findMoreOf 145 = .ok (.return_, 1) := by decide +kernel
theorem dX1_weak_0 : decode cX1_weak 0 = .ok (.iconst (-1), 1) := by decide +kernel
theorem dX1_weak_1 : decode cX1_weak 1 = .ok (.istore_n 1, 1) := by decide +kernel
theorem dX1_weak_2 : decode cX1_weak 2 = .ok (.iconst 0, 1) := by decide +kernel
theorem dX1_weak_3 : decode cX1_weak 3 = .ok (.istore_n 2, 1) := by decide +kernel
theorem dX1_weak_4 : decode cX1_weak 4 = .ok (.iconst 1, 1) := by decide +kernel
theorem dX1_weak_5 : decode cX1_weak 5 = .ok (.istore_n 3, 1) := by decide +kernel
theorem dX1_weak_6 : decode cX1_weak 6 = .ok (.iconst 0, 1) := by decide +kernel
theorem dX1_weak_7 : decode cX1_weak 7 = .ok (.istore 4, 2) := by decide +kernel
theorem dX1_weak_9 : decode cX1_weak 9 = .ok (.iload 4, 2) := by decide +kernel
theorem dX1_weak_11 : decode cX1_weak 11 = .ok (.aload_n 0, 1) := by decide +kernel
theorem dX1_weak_12 : decode cX1_weak 12 = .ok (.getfield 60, 3) := by decide +kernel
theorem dX1_weak_15 : decode cX1_weak 15 = .ok (.if_icmp .ge 61, 3) := by decide +kernel
theorem dX1_weak_18 : decode cX1_weak 18 = .ok (.aload_n 0, 1) := by decide +kernel
theorem dX1_weak_19 : decode cX1_weak 19 = .ok (.iload 4, 2) := by decide +kernel
theorem dX1_weak_21 : decode cX1_weak 21 = .ok (.invokevirtual 71, 3) := by decide +kernel
theorem dX1_weak_24 : decode cX1_weak 24 = .ok (.invokestatic 55, 3) := by decide +kernel
theorem dX1_weak_27 : decode cX1_weak 27 = .ok (.istore 5, 2) := by decide +kernel
theorem dX1_weak_29 : decode cX1_weak 29 = .ok (.aload_n 0, 1) := by decide +kernel
theorem dX1_weak_30 : decode cX1_weak 30 = .ok (.iload 4, 2) := by decide +kernel
theorem dX1_weak_32 : decode cX1_weak 32 = .ok (.invokevirtual 91, 3) := by decide +kernel
theorem dX1_weak_35 : decode cX1_weak 35 = .ok (.invokestatic 55, 3) := by decide +kernel
theorem dX1_weak_38 : decode cX1_weak 38 = .ok (.istore 6, 2) := by decide +kernel
theorem dX1_weak_40 : decode cX1_weak 40 = .ok (.iload 6, 2) := by decide +kernel
theorem dX1_weak_42 : decode cX1_weak 42 = .ok (.ifCond .le 28, 3) := by decide +kernel
theorem dX1_weak_45 : decode cX1_weak 45 = .ok (.iload_n 1, 1) := by decide +kernel
theorem dX1_weak_46 : decode cX1_weak 46 = .ok (.iconst (-1), 1) := by decide +kernel
theorem dX1_weak_47 : decode cX1_weak 47 = .ok (.if_icmp .eq 14, 3) := by decide +kernel
theorem dX1_weak_50 : decode cX1_weak 50 = .ok (.iload 5, 2) := by decide +kernel
theorem dX1_weak_52 : decode cX1_weak 52 = .ok (.iload_n 3, 1) := by decide +kernel
theorem dX1_weak_53 : decode cX1_weak 53 = .ok (.imul, 1) := by decide +kernel
theorem dX1_weak_54 : decode cX1_weak 54 = .ok (.iload_n 2, 1) := by decide +kernel
theorem dX1_weak_55 : decode cX1_weak 55 = .ok (.iload 6, 2) := by decide +kernel
theorem dX1_weak_57 : decode cX1_weak 57 = .ok (.imul, 1) := by decide +kernel
theorem dX1_weak_58 : decode cX1_weak 58 = .ok (.if_icmp .ge 12, 3) := by decide +kernel
theorem dX1_weak_61 : decode cX1_weak 61 = .ok (.iload 4, 2) := by decide +kernel
theorem dX1_weak_63 : decode cX1_weak 63 = .ok (.istore_n 1, 1) := by decide +kernel
theorem dX1_weak_64 : decode cX1_weak 64 = .ok (.iload 5, 2) := by decide +kernel
theorem dX1_weak_66 : decode cX1_weak 66 = .ok (.istore_n 2, 1) := by decide +kernel
theorem dX1_weak_67 : decode cX1_weak 67 = .ok (.iload 6, 2) := by decide +kernel
theorem dX1_weak_69 : decode cX1_weak 69 = .ok (.istore_n 3, 1) := by decide +kernel
theorem dX1_weak_70 : decode cX1_weak 70 = .ok (.iinc 4 1, 3) := by decide +kernel
theorem dX1_weak_73 : decode cX1_weak 73 = .ok (.goto (-64), 3) := by decide +kernel
theorem dX1_weak_76 : decode cX1_weak 76 = .ok (.iload_n 1, 1) := by decide +kernel
theorem dX1_weak_77 : decode cX1_weak 77 = .ok (.ireturn, 1) := by decide +kernel
theorem dX1_weakPart_0 : decode cX1_weakPart 0 = .ok (.aload_n 0, 1) := by decide +kernel
theorem dX1_weakPart_1 : decode cX1_weakPart 1 = .ok (.invokestatic 45, 3) := by decide +kernel
theorem dX1_weakPart_4 : decode cX1_weakPart 4 = .ok (.istore_n 2, 1) := by decide +kernel
theorem dX1_weakPart_5 : decode cX1_weakPart 5 = .ok (.iload_n 2, 1) := by decide +kernel
theorem dX1_weakPart_6 : decode cX1_weakPart 6 = .ok (.iconst (-1), 1) := by decide +kernel
theorem dX1_weakPart_7 : decode cX1_weakPart 7 = .ok (.if_icmp .ne 5, 3) := by decide +kernel
theorem dX1_weakPart_10 : decode cX1_weakPart 10 = .ok (.iconst (-1), 1) := by decide +kernel
theorem dX1_weakPart_11 : decode cX1_weakPart 11 = .ok (.ireturn, 1) := by decide +kernel
theorem dX1_weakPart_12 : decode cX1_weakPart 12 = .ok (.aload_n 0, 1) := by decide +kernel
theorem dX1_weakPart_13 : decode cX1_weakPart 13 = .ok (.iload_n 2, 1) := by decide +kernel
theorem dX1_weakPart_14 : decode cX1_weakPart 14 = .ok (.invokevirtual 71, 3) := by decide +kernel
theorem dX1_weakPart_17 : decode cX1_weakPart 17 = .ok (.invokestatic 55, 3) := by decide +kernel
theorem dX1_weakPart_20 : decode cX1_weakPart 20 = .ok (.istore_n 3, 1) := by decide +kernel
theorem dX1_weakPart_21 : decode cX1_weakPart 21 = .ok (.aload_n 0, 1) := by decide +kernel
theorem dX1_weakPart_22 : decode cX1_weakPart 22 = .ok (.iload_n 2, 1) := by decide +kernel
theorem dX1_weakPart_23 : decode cX1_weakPart 23 = .ok (.invokevirtual 91, 3) := by decide +kernel
theorem dX1_weakPart_26 : decode cX1_weakPart 26 = .ok (.invokestatic 55, 3) := by decide +kernel
theorem dX1_weakPart_29 : decode cX1_weakPart 29 = .ok (.istore 4, 2) := by decide +kernel
theorem dX1_weakPart_31 : decode cX1_weakPart 31 = .ok (.iload_n 1, 1) := by decide +kernel
theorem dX1_weakPart_32 : decode cX1_weakPart 32 = .ok (.ifCond .eq 8, 3) := by decide +kernel
theorem dX1_weakPart_35 : decode cX1_weakPart 35 = .ok (.iload 4, 2) := by decide +kernel
theorem dX1_weakPart_37 : decode cX1_weakPart 37 = .ok (.goto 4, 3) := by decide +kernel
theorem dX1_weakPart_40 : decode cX1_weakPart 40 = .ok (.iload_n 3, 1) := by decide +kernel
theorem dX1_weakPart_41 : decode cX1_weakPart 41 = .ok (.iload 4, 2) := by decide +kernel
theorem dX1_weakPart_43 : decode cX1_weakPart 43 = .ok (.iload_n 3, 1) := by decide +kernel
theorem dX1_weakPart_44 : decode cX1_weakPart 44 = .ok (.invokestatic 94, 3) := by decide +kernel
theorem dX1_weakPart_47 : decode cX1_weakPart 47 = .ok (.idiv, 1) := by decide +kernel
theorem dX1_weakPart_48 : decode cX1_weakPart 48 = .ok (.ireturn, 1) := by decide +kernel
theorem dX1_strikes_0 : decode cX1_strikes 0 = .ok (.iconst 0, 1) := by decide +kernel
theorem dX1_strikes_1 : decode cX1_strikes 1 = .ok (.istore_n 1, 1) := by decide +kernel
theorem dX1_strikes_2 : decode cX1_strikes 2 = .ok (.iconst 0, 1) := by decide +kernel
theorem dX1_strikes_3 : decode cX1_strikes 3 = .ok (.istore_n 2, 1) := by decide +kernel
theorem dX1_strikes_4 : decode cX1_strikes 4 = .ok (.iload_n 2, 1) := by decide +kernel
theorem dX1_strikes_5 : decode cX1_strikes 5 = .ok (.aload_n 0, 1) := by decide +kernel
theorem dX1_strikes_6 : decode cX1_strikes 6 = .ok (.getfield 60, 3) := by decide +kernel
theorem dX1_strikes_9 : decode cX1_strikes 9 = .ok (.if_icmp .ge 17, 3) := by decide +kernel
theorem dX1_strikes_12 : decode cX1_strikes 12 = .ok (.iload_n 1, 1) := by decide +kernel
theorem dX1_strikes_13 : decode cX1_strikes 13 = .ok (.aload_n 0, 1) := by decide +kernel
theorem dX1_strikes_14 : decode cX1_strikes 14 = .ok (.iload_n 2, 1) := by decide +kernel
theorem dX1_strikes_15 : decode cX1_strikes 15 = .ok (.invokestatic 97, 3) := by decide +kernel
theorem dX1_strikes_18 : decode cX1_strikes 18 = .ok (.ior, 1) := by decide +kernel
theorem dX1_strikes_19 : decode cX1_strikes 19 = .ok (.istore_n 1, 1) := by decide +kernel
theorem dX1_strikes_20 : decode cX1_strikes 20 = .ok (.iinc 2 1, 3) := by decide +kernel
theorem dX1_strikes_23 : decode cX1_strikes 23 = .ok (.goto (-19), 3) := by decide +kernel
theorem dX1_strikes_26 : decode cX1_strikes 26 = .ok (.iload_n 1, 1) := by decide +kernel
theorem dX1_strikes_27 : decode cX1_strikes 27 = .ok (.ireturn, 1) := by decide +kernel
theorem dX1_strikesFor_0 : decode cX1_strikesFor 0 = .ok (.aload_n 0, 1) := by decide +kernel
theorem dX1_strikesFor_1 : decode cX1_strikesFor 1 = .ok (.iload_n 1, 1) := by decide +kernel
theorem dX1_strikesFor_2 : decode cX1_strikesFor 2 = .ok (.iconst 0, 1) := by decide +kernel
theorem dX1_strikesFor_3 : decode cX1_strikesFor 3 = .ok (.invokevirtual 67, 3) := by decide +kernel
theorem dX1_strikesFor_6 : decode cX1_strikesFor 6 = .ok (.istore_n 2, 1) := by decide +kernel
theorem dX1_strikesFor_7 : decode cX1_strikesFor 7 = .ok (.aload_n 0, 1) := by decide +kernel
theorem dX1_strikesFor_8 : decode cX1_strikesFor 8 = .ok (.iload_n 1, 1) := by decide +kernel
theorem dX1_strikesFor_9 : decode cX1_strikesFor 9 = .ok (.iconst 0, 1) := by decide +kernel
theorem dX1_strikesFor_10 : decode cX1_strikesFor 10 = .ok (.invokestatic 101, 3) := by decide +kernel
theorem dX1_strikesFor_13 : decode cX1_strikesFor 13 = .ok (.istore_n 3, 1) := by decide +kernel
theorem dX1_strikesFor_14 : decode cX1_strikesFor 14 = .ok (.iconst 1, 1) := by decide +kernel
theorem dX1_strikesFor_15 : decode cX1_strikesFor 15 = .ok (.istore 4, 2) := by decide +kernel
theorem dX1_strikesFor_17 : decode cX1_strikesFor 17 = .ok (.iload 4, 2) := by decide +kernel
theorem dX1_strikesFor_19 : decode cX1_strikesFor 19 = .ok (.iload_n 2, 1) := by decide +kernel
theorem dX1_strikesFor_20 : decode cX1_strikesFor 20 = .ok (.if_icmp .gt 79, 3) := by decide +kernel
theorem dX1_strikesFor_23 : decode cX1_strikesFor 23 = .ok (.iload 4, 2) := by decide +kernel
theorem dX1_strikesFor_25 : decode cX1_strikesFor 25 = .ok (.iload_n 2, 1) := by decide +kernel
theorem dX1_strikesFor_26 : decode cX1_strikesFor 26 = .ok (.iconst (-1), 1) := by decide +kernel
theorem dX1_strikesFor_27 : decode cX1_strikesFor 27 = .ok (.ixor, 1) := by decide +kernel
theorem dX1_strikesFor_28 : decode cX1_strikesFor 28 = .ok (.iand, 1) := by decide +kernel
theorem dX1_strikesFor_29 : decode cX1_strikesFor 29 = .ok (.ifCond .ne 64, 3) := by decide +kernel
theorem dX1_strikesFor_32 : decode cX1_strikesFor 32 = .ok (.aload_n 0, 1) := by decide +kernel
theorem dX1_strikesFor_33 : decode cX1_strikesFor 33 = .ok (.iload 4, 2) := by decide +kernel
theorem dX1_strikesFor_35 : decode cX1_strikesFor 35 = .ok (.aload_n 0, 1) := by decide +kernel
theorem dX1_strikesFor_36 : decode cX1_strikesFor 36 = .ok (.getfield 77, 3) := by decide +kernel
theorem dX1_strikesFor_39 : decode cX1_strikesFor 39 = .ok (.iload_n 1, 1) := by decide +kernel
theorem dX1_strikesFor_40 : decode cX1_strikesFor 40 = .ok (.iaload, 1) := by decide +kernel
theorem dX1_strikesFor_41 : decode cX1_strikesFor 41 = .ok (.invokevirtual 80, 3) := by decide +kernel
theorem dX1_strikesFor_44 : decode cX1_strikesFor 44 = .ok (.iload 4, 2) := by decide +kernel
theorem dX1_strikesFor_46 : decode cX1_strikesFor 46 = .ok (.if_icmp .ne 47, 3) := by decide +kernel
theorem dX1_strikesFor_49 : decode cX1_strikesFor 49 = .ok (.aload_n 0, 1) := by decide +kernel
theorem dX1_strikesFor_50 : decode cX1_strikesFor 50 = .ok (.iload_n 1, 1) := by decide +kernel
theorem dX1_strikesFor_51 : decode cX1_strikesFor 51 = .ok (.iload 4, 2) := by decide +kernel
theorem dX1_strikesFor_53 : decode cX1_strikesFor 53 = .ok (.invokestatic 101, 3) := by decide +kernel
theorem dX1_strikesFor_56 : decode cX1_strikesFor 56 = .ok (.istore 5, 2) := by decide +kernel
theorem dX1_strikesFor_58 : decode cX1_strikesFor 58 = .ok (.iload_n 3, 1) := by decide +kernel
theorem dX1_strikesFor_59 : decode cX1_strikesFor 59 = .ok (.invokestatic 55, 3) := by decide +kernel
theorem dX1_strikesFor_62 : decode cX1_strikesFor 62 = .ok (.iload 5, 2) := by decide +kernel
theorem dX1_strikesFor_64 : decode cX1_strikesFor 64 = .ok (.invokestatic 55, 3) := by decide +kernel
theorem dX1_strikesFor_67 : decode cX1_strikesFor 67 = .ok (.isub, 1) := by decide +kernel
theorem dX1_strikesFor_68 : decode cX1_strikesFor 68 = .ok (.istore 6, 2) := by decide +kernel
theorem dX1_strikesFor_70 : decode cX1_strikesFor 70 = .ok (.iload 6, 2) := by decide +kernel
theorem dX1_strikesFor_72 : decode cX1_strikesFor 72 = .ok (.ifCond .gt 14, 3) := by decide +kernel
theorem dX1_strikesFor_75 : decode cX1_strikesFor 75 = .ok (.iload 6, 2) := by decide +kernel
theorem dX1_strikesFor_77 : decode cX1_strikesFor 77 = .ok (.ifCond .ne 14, 3) := by decide +kernel
theorem dX1_strikesFor_80 : decode cX1_strikesFor 80 = .ok (.iload 5, 2) := by decide +kernel
theorem dX1_strikesFor_82 : decode cX1_strikesFor 82 = .ok (.iload_n 3, 1) := by decide +kernel
theorem dX1_strikesFor_83 : decode cX1_strikesFor 83 = .ok (.if_icmp .ge 8, 3) := by decide +kernel
theorem dX1_strikesFor_86 : decode cX1_strikesFor 86 = .ok (.iload 5, 2) := by decide +kernel
theorem dX1_strikesFor_88 : decode cX1_strikesFor 88 = .ok (.goto 4, 3) := by decide +kernel
theorem dX1_strikesFor_91 : decode cX1_strikesFor 91 = .ok (.iload_n 3, 1) := by decide +kernel
theorem dX1_strikesFor_92 : decode cX1_strikesFor 92 = .ok (.istore_n 3, 1) := by decide +kernel
theorem dX1_strikesFor_93 : decode cX1_strikesFor 93 = .ok (.iinc 4 1, 3) := by decide +kernel
theorem dX1_strikesFor_96 : decode cX1_strikesFor 96 = .ok (.goto (-79), 3) := by decide +kernel
theorem dX1_strikesFor_99 : decode cX1_strikesFor 99 = .ok (.iload_n 3, 1) := by decide +kernel
theorem dX1_strikesFor_100 : decode cX1_strikesFor 100 = .ok (.ireturn, 1) := by decide +kernel
theorem dX1_oathsOutside_0 : decode cX1_oathsOutside 0 = .ok (.iconst 0, 1) := by decide +kernel
theorem dX1_oathsOutside_1 : decode cX1_oathsOutside 1 = .ok (.istore_n 3, 1) := by decide +kernel
theorem dX1_oathsOutside_2 : decode cX1_oathsOutside 2 = .ok (.iconst 0, 1) := by decide +kernel
theorem dX1_oathsOutside_3 : decode cX1_oathsOutside 3 = .ok (.istore 4, 2) := by decide +kernel
theorem dX1_oathsOutside_5 : decode cX1_oathsOutside 5 = .ok (.iload 4, 2) := by decide +kernel
theorem dX1_oathsOutside_7 : decode cX1_oathsOutside 7 = .ok (.aload_n 0, 1) := by decide +kernel
theorem dX1_oathsOutside_8 : decode cX1_oathsOutside 8 = .ok (.getfield 29, 3) := by decide +kernel
theorem dX1_oathsOutside_11 : decode cX1_oathsOutside 11 = .ok (.if_icmp .ge 41, 3) := by decide +kernel
theorem dX1_oathsOutside_14 : decode cX1_oathsOutside 14 = .ok (.aload_n 0, 1) := by decide +kernel
theorem dX1_oathsOutside_15 : decode cX1_oathsOutside 15 = .ok (.getfield 105, 3) := by decide +kernel
theorem dX1_oathsOutside_18 : decode cX1_oathsOutside 18 = .ok (.iload 4, 2) := by decide +kernel
theorem dX1_oathsOutside_20 : decode cX1_oathsOutside 20 = .ok (.iaload, 1) := by decide +kernel
theorem dX1_oathsOutside_21 : decode cX1_oathsOutside 21 = .ok (.iload_n 1, 1) := by decide +kernel
theorem dX1_oathsOutside_22 : decode cX1_oathsOutside 22 = .ok (.if_icmp .ne 24, 3) := by decide +kernel
theorem dX1_oathsOutside_25 : decode cX1_oathsOutside 25 = .ok (.iload_n 2, 1) := by decide +kernel
theorem dX1_oathsOutside_26 : decode cX1_oathsOutside 26 = .ok (.aload_n 0, 1) := by decide +kernel
theorem dX1_oathsOutside_27 : decode cX1_oathsOutside 27 = .ok (.getfield 108, 3) := by decide +kernel
theorem dX1_oathsOutside_30 : decode cX1_oathsOutside 30 = .ok (.iload 4, 2) := by decide +kernel
theorem dX1_oathsOutside_32 : decode cX1_oathsOutside 32 = .ok (.iaload, 1) := by decide +kernel
theorem dX1_oathsOutside_33 : decode cX1_oathsOutside 33 = .ok (.invokestatic 83, 3) := by decide +kernel
theorem dX1_oathsOutside_36 : decode cX1_oathsOutside 36 = .ok (.ifCond .ne 10, 3) := by decide +kernel
theorem dX1_oathsOutside_39 : decode cX1_oathsOutside 39 = .ok (.iload_n 3, 1) := by decide +kernel
theorem dX1_oathsOutside_40 : decode cX1_oathsOutside 40 = .ok (.iconst 1, 1) := by decide +kernel
theorem dX1_oathsOutside_41 : decode cX1_oathsOutside 41 = .ok (.iload 4, 2) := by decide +kernel
theorem dX1_oathsOutside_43 : decode cX1_oathsOutside 43 = .ok (.ishl, 1) := by decide +kernel
theorem dX1_oathsOutside_44 : decode cX1_oathsOutside 44 = .ok (.ior, 1) := by decide +kernel
theorem dX1_oathsOutside_45 : decode cX1_oathsOutside 45 = .ok (.istore_n 3, 1) := by decide +kernel
theorem dX1_oathsOutside_46 : decode cX1_oathsOutside 46 = .ok (.iinc 4 1, 3) := by decide +kernel
theorem dX1_oathsOutside_49 : decode cX1_oathsOutside 49 = .ok (.goto (-44), 3) := by decide +kernel
theorem dX1_oathsOutside_52 : decode cX1_oathsOutside 52 = .ok (.iload_n 3, 1) := by decide +kernel
theorem dX1_oathsOutside_53 : decode cX1_oathsOutside 53 = .ok (.ireturn, 1) := by decide +kernel
theorem dX1_fewestVisits_0 : decode cX1_fewestVisits 0 = .ok (.aload_n 1, 1) := by decide +kernel
theorem dX1_fewestVisits_1 : decode cX1_fewestVisits 1 = .ok (.iload_n 2, 1) := by decide +kernel
theorem dX1_fewestVisits_2 : decode cX1_fewestVisits 2 = .ok (.invokevirtual 91, 3) := by decide +kernel
theorem dX1_fewestVisits_5 : decode cX1_fewestVisits 5 = .ok (.istore_n 3, 1) := by decide +kernel
theorem dX1_fewestVisits_6 : decode cX1_fewestVisits 6 = .ok (.aload_n 1, 1) := by decide +kernel
theorem dX1_fewestVisits_7 : decode cX1_fewestVisits 7 = .ok (.iload_n 3, 1) := by decide +kernel
theorem dX1_fewestVisits_8 : decode cX1_fewestVisits 8 = .ok (.aload_n 1, 1) := by decide +kernel
theorem dX1_fewestVisits_9 : decode cX1_fewestVisits 9 = .ok (.getfield 77, 3) := by decide +kernel
theorem dX1_fewestVisits_12 : decode cX1_fewestVisits 12 = .ok (.iload_n 2, 1) := by decide +kernel
theorem dX1_fewestVisits_13 : decode cX1_fewestVisits 13 = .ok (.iaload, 1) := by decide +kernel
theorem dX1_fewestVisits_14 : decode cX1_fewestVisits 14 = .ok (.invokevirtual 80, 3) := by decide +kernel
theorem dX1_fewestVisits_17 : decode cX1_fewestVisits 17 = .ok (.iload_n 3, 1) := by decide +kernel
theorem dX1_fewestVisits_18 : decode cX1_fewestVisits 18 = .ok (.if_icmp .eq 5, 3) := by decide +kernel
theorem dX1_fewestVisits_21 : decode cX1_fewestVisits 21 = .ok (.iconst (-1), 1) := by decide +kernel
theorem dX1_fewestVisits_22 : decode cX1_fewestVisits 22 = .ok (.ireturn, 1) := by decide +kernel
theorem dX1_fewestVisits_23 : decode cX1_fewestVisits 23 = .ok (.iconst 0, 1) := by decide +kernel
theorem dX1_fewestVisits_24 : decode cX1_fewestVisits 24 = .ok (.istore 4, 2) := by decide +kernel
theorem dX1_fewestVisits_26 : decode cX1_fewestVisits 26 = .ok (.iload 4, 2) := by decide +kernel
theorem dX1_fewestVisits_28 : decode cX1_fewestVisits 28 = .ok (.bipush 6, 2) := by decide +kernel
theorem dX1_fewestVisits_30 : decode cX1_fewestVisits 30 = .ok (.if_icmp .ge 17, 3) := by decide +kernel
theorem dX1_fewestVisits_33 : decode cX1_fewestVisits 33 = .ok (.aload_n 0, 1) := by decide +kernel
theorem dX1_fewestVisits_34 : decode cX1_fewestVisits 34 = .ok (.getfield 9, 3) := by decide +kernel
theorem dX1_fewestVisits_37 : decode cX1_fewestVisits 37 = .ok (.iload 4, 2) := by decide +kernel
theorem dX1_fewestVisits_39 : decode cX1_fewestVisits 39 = .ok (.iconst 0, 1) := by decide +kernel
theorem dX1_fewestVisits_40 : decode cX1_fewestVisits 40 = .ok (.iastore, 1) := by decide +kernel
theorem dX1_fewestVisits_41 : decode cX1_fewestVisits 41 = .ok (.iinc 4 1, 3) := by decide +kernel
theorem dX1_fewestVisits_44 : decode cX1_fewestVisits 44 = .ok (.goto (-18), 3) := by decide +kernel
theorem dX1_fewestVisits_47 : decode cX1_fewestVisits 47 = .ok (.aload_n 0, 1) := by decide +kernel
theorem dX1_fewestVisits_48 : decode cX1_fewestVisits 48 = .ok (.bipush 54, 2) := by decide +kernel
theorem dX1_fewestVisits_50 : decode cX1_fewestVisits 50 = .ok (.putfield 15, 3) := by decide +kernel
theorem dX1_fewestVisits_53 : decode cX1_fewestVisits 53 = .ok (.aload_n 0, 1) := by decide +kernel
theorem dX1_fewestVisits_54 : decode cX1_fewestVisits 54 = .ok (.aload_n 1, 1) := by decide +kernel
theorem dX1_fewestVisits_55 : decode cX1_fewestVisits 55 = .ok (.iload_n 2, 1) := by decide +kernel
theorem dX1_fewestVisits_56 : decode cX1_fewestVisits 56 = .ok (.iload_n 3, 1) := by decide +kernel
theorem dX1_fewestVisits_57 : decode cX1_fewestVisits 57 = .ok (.iconst 0, 1) := by decide +kernel
theorem dX1_fewestVisits_58 : decode cX1_fewestVisits 58 = .ok (.invokevirtual 111, 3) := by decide +kernel
theorem dX1_fewestVisits_61 : decode cX1_fewestVisits 61 = .ok (.aload_n 0, 1) := by decide +kernel
theorem dX1_fewestVisits_62 : decode cX1_fewestVisits 62 = .ok (.getfield 15, 3) := by decide +kernel
theorem dX1_fewestVisits_65 : decode cX1_fewestVisits 65 = .ok (.ireturn, 1) := by decide +kernel
theorem dX1_visitFor_0 : decode cX1_visitFor 0 = .ok (.iload_n 3, 1) := by decide +kernel
theorem dX1_visitFor_1 : decode cX1_visitFor 1 = .ok (.ifCond .ne 17, 3) := by decide +kernel
theorem dX1_visitFor_4 : decode cX1_visitFor 4 = .ok (.aload_n 0, 1) := by decide +kernel
theorem dX1_visitFor_5 : decode cX1_visitFor 5 = .ok (.aload_n 0, 1) := by decide +kernel
theorem dX1_visitFor_6 : decode cX1_visitFor 6 = .ok (.getfield 15, 3) := by decide +kernel
theorem dX1_visitFor_9 : decode cX1_visitFor 9 = .ok (.iload 4, 2) := by decide +kernel
theorem dX1_visitFor_11 : decode cX1_visitFor 11 = .ok (.invokestatic 115, 3) := by decide +kernel
theorem dX1_visitFor_14 : decode cX1_visitFor 14 = .ok (.putfield 15, 3) := by decide +kernel
theorem dX1_visitFor_17 : decode cX1_visitFor 17 = .ok (.return_, 1) := by decide +kernel
theorem dX1_visitFor_18 : decode cX1_visitFor 18 = .ok (.iload_n 3, 1) := by decide +kernel
theorem dX1_visitFor_19 : decode cX1_visitFor 19 = .ok (.invokestatic 120, 3) := by decide +kernel
theorem dX1_visitFor_22 : decode cX1_visitFor 22 = .ok (.istore 5, 2) := by decide +kernel
theorem dX1_visitFor_24 : decode cX1_visitFor 24 = .ok (.iconst 0, 1) := by decide +kernel
theorem dX1_visitFor_25 : decode cX1_visitFor 25 = .ok (.istore 6, 2) := by decide +kernel
theorem dX1_visitFor_27 : decode cX1_visitFor 27 = .ok (.iload 6, 2) := by decide +kernel
theorem dX1_visitFor_29 : decode cX1_visitFor 29 = .ok (.aload_n 1, 1) := by decide +kernel
theorem dX1_visitFor_30 : decode cX1_visitFor 30 = .ok (.getfield 29, 3) := by decide +kernel
theorem dX1_visitFor_33 : decode cX1_visitFor 33 = .ok (.if_icmp .ge 109, 3) := by decide +kernel
theorem dX1_visitFor_36 : decode cX1_visitFor 36 = .ok (.aload_n 1, 1) := by decide +kernel
theorem dX1_visitFor_37 : decode cX1_visitFor 37 = .ok (.getfield 105, 3) := by decide +kernel
theorem dX1_visitFor_40 : decode cX1_visitFor 40 = .ok (.iload 6, 2) := by decide +kernel
theorem dX1_visitFor_42 : decode cX1_visitFor 42 = .ok (.iaload, 1) := by decide +kernel
theorem dX1_visitFor_43 : decode cX1_visitFor 43 = .ok (.iload_n 2, 1) := by decide +kernel
theorem dX1_visitFor_44 : decode cX1_visitFor 44 = .ok (.if_icmp .ne 92, 3) := by decide +kernel
theorem dX1_visitFor_47 : decode cX1_visitFor 47 = .ok (.aload_n 1, 1) := by decide +kernel
theorem dX1_visitFor_48 : decode cX1_visitFor 48 = .ok (.getfield 108, 3) := by decide +kernel
theorem dX1_visitFor_51 : decode cX1_visitFor 51 = .ok (.iload 6, 2) := by decide +kernel
theorem dX1_visitFor_53 : decode cX1_visitFor 53 = .ok (.iaload, 1) := by decide +kernel
theorem dX1_visitFor_54 : decode cX1_visitFor 54 = .ok (.iload 5, 2) := by decide +kernel
theorem dX1_visitFor_56 : decode cX1_visitFor 56 = .ok (.if_icmp .ne 80, 3) := by decide +kernel
theorem dX1_visitFor_59 : decode cX1_visitFor 59 = .ok (.aload_n 1, 1) := by decide +kernel
theorem dX1_visitFor_60 : decode cX1_visitFor 60 = .ok (.getfield 123, 3) := by decide +kernel
theorem dX1_visitFor_63 : decode cX1_visitFor 63 = .ok (.iload 6, 2) := by decide +kernel
theorem dX1_visitFor_65 : decode cX1_visitFor 65 = .ok (.iaload, 1) := by decide +kernel
theorem dX1_visitFor_66 : decode cX1_visitFor 66 = .ok (.istore 7, 2) := by decide +kernel
theorem dX1_visitFor_68 : decode cX1_visitFor 68 = .ok (.aload_n 0, 1) := by decide +kernel
theorem dX1_visitFor_69 : decode cX1_visitFor 69 = .ok (.getfield 9, 3) := by decide +kernel
theorem dX1_visitFor_72 : decode cX1_visitFor 72 = .ok (.iload 7, 2) := by decide +kernel
theorem dX1_visitFor_74 : decode cX1_visitFor 74 = .ok (.iaload, 1) := by decide +kernel
theorem dX1_visitFor_75 : decode cX1_visitFor 75 = .ok (.istore 8, 2) := by decide +kernel
theorem dX1_visitFor_77 : decode cX1_visitFor 77 = .ok (.iload 8, 2) := by decide +kernel
theorem dX1_visitFor_79 : decode cX1_visitFor 79 = .ok (.aload_n 1, 1) := by decide +kernel
theorem dX1_visitFor_80 : decode cX1_visitFor 80 = .ok (.getfield 52, 3) := by decide +kernel
theorem dX1_visitFor_83 : decode cX1_visitFor 83 = .ok (.iload 5, 2) := by decide +kernel
theorem dX1_visitFor_85 : decode cX1_visitFor 85 = .ok (.iaload, 1) := by decide +kernel
theorem dX1_visitFor_86 : decode cX1_visitFor 86 = .ok (.aload_n 1, 1) := by decide +kernel
theorem dX1_visitFor_87 : decode cX1_visitFor 87 = .ok (.iload 7, 2) := by decide +kernel
theorem dX1_visitFor_89 : decode cX1_visitFor 89 = .ok (.iload_n 2, 1) := by decide +kernel
theorem dX1_visitFor_90 : decode cX1_visitFor 90 = .ok (.invokevirtual 126, 3) := by decide +kernel
theorem dX1_visitFor_93 : decode cX1_visitFor 93 = .ok (.isub, 1) := by decide +kernel
theorem dX1_visitFor_94 : decode cX1_visitFor 94 = .ok (.invokestatic 129, 3) := by decide +kernel
theorem dX1_visitFor_97 : decode cX1_visitFor 97 = .ok (.istore 9, 2) := by decide +kernel
theorem dX1_visitFor_99 : decode cX1_visitFor 99 = .ok (.aload_n 0, 1) := by decide +kernel
theorem dX1_visitFor_100 : decode cX1_visitFor 100 = .ok (.getfield 9, 3) := by decide +kernel
theorem dX1_visitFor_103 : decode cX1_visitFor 103 = .ok (.iload 7, 2) := by decide +kernel
theorem dX1_visitFor_105 : decode cX1_visitFor 105 = .ok (.iload 9, 2) := by decide +kernel
theorem dX1_visitFor_107 : decode cX1_visitFor 107 = .ok (.iastore, 1) := by decide +kernel
theorem dX1_visitFor_108 : decode cX1_visitFor 108 = .ok (.aload_n 0, 1) := by decide +kernel
theorem dX1_visitFor_109 : decode cX1_visitFor 109 = .ok (.aload_n 1, 1) := by decide +kernel
theorem dX1_visitFor_110 : decode cX1_visitFor 110 = .ok (.iload_n 2, 1) := by decide +kernel
theorem dX1_visitFor_111 : decode cX1_visitFor 111 = .ok (.iload_n 3, 1) := by decide +kernel
theorem dX1_visitFor_112 : decode cX1_visitFor 112 = .ok (.iload_n 3, 1) := by decide +kernel
theorem dX1_visitFor_113 : decode cX1_visitFor 113 = .ok (.iconst 1, 1) := by decide +kernel
theorem dX1_visitFor_114 : decode cX1_visitFor 114 = .ok (.isub, 1) := by decide +kernel
theorem dX1_visitFor_115 : decode cX1_visitFor 115 = .ok (.iand, 1) := by decide +kernel
theorem dX1_visitFor_116 : decode cX1_visitFor 116 = .ok (.iload 4, 2) := by decide +kernel
theorem dX1_visitFor_118 : decode cX1_visitFor 118 = .ok (.iload 9, 2) := by decide +kernel
theorem dX1_visitFor_120 : decode cX1_visitFor 120 = .ok (.iadd, 1) := by decide +kernel
theorem dX1_visitFor_121 : decode cX1_visitFor 121 = .ok (.iload 8, 2) := by decide +kernel
theorem dX1_visitFor_123 : decode cX1_visitFor 123 = .ok (.isub, 1) := by decide +kernel
theorem dX1_visitFor_124 : decode cX1_visitFor 124 = .ok (.invokevirtual 111, 3) := by decide +kernel
theorem dX1_visitFor_127 : decode cX1_visitFor 127 = .ok (.aload_n 0, 1) := by decide +kernel
theorem dX1_visitFor_128 : decode cX1_visitFor 128 = .ok (.getfield 9, 3) := by decide +kernel
theorem dX1_visitFor_131 : decode cX1_visitFor 131 = .ok (.iload 7, 2) := by decide +kernel
theorem dX1_visitFor_133 : decode cX1_visitFor 133 = .ok (.iload 8, 2) := by decide +kernel
theorem dX1_visitFor_135 : decode cX1_visitFor 135 = .ok (.iastore, 1) := by decide +kernel
theorem dX1_visitFor_136 : decode cX1_visitFor 136 = .ok (.iinc 6 1, 3) := by decide +kernel
theorem dX1_visitFor_139 : decode cX1_visitFor 139 = .ok (.goto (-112), 3) := by decide +kernel
theorem dX1_visitFor_142 : decode cX1_visitFor 142 = .ok (.return_, 1) := by decide +kernel
theorem dX1_leastOf_0 : decode cX1_leastOf 0 = .ok (.iconst 0, 1) := by decide +kernel
theorem dX1_leastOf_1 : decode cX1_leastOf 1 = .ok (.istore_n 1, 1) := by decide +kernel
theorem dX1_leastOf_2 : decode cX1_leastOf 2 = .ok (.iload_n 1, 1) := by decide +kernel
theorem dX1_leastOf_3 : decode cX1_leastOf 3 = .ok (.bipush 8, 2) := by decide +kernel
theorem dX1_leastOf_5 : decode cX1_leastOf 5 = .ok (.if_icmp .ge 19, 3) := by decide +kernel
theorem dX1_leastOf_8 : decode cX1_leastOf 8 = .ok (.iload_n 0, 1) := by decide +kernel
theorem dX1_leastOf_9 : decode cX1_leastOf 9 = .ok (.iload_n 1, 1) := by decide +kernel
theorem dX1_leastOf_10 : decode cX1_leastOf 10 = .ok (.invokestatic 83, 3) := by decide +kernel
theorem dX1_leastOf_13 : decode cX1_leastOf 13 = .ok (.ifCond .eq 5, 3) := by decide +kernel
theorem dX1_leastOf_16 : decode cX1_leastOf 16 = .ok (.iload_n 1, 1) := by decide +kernel
theorem dX1_leastOf_17 : decode cX1_leastOf 17 = .ok (.ireturn, 1) := by decide +kernel
theorem dX1_leastOf_18 : decode cX1_leastOf 18 = .ok (.iinc 1 1, 3) := by decide +kernel
theorem dX1_leastOf_21 : decode cX1_leastOf 21 = .ok (.goto (-19), 3) := by decide +kernel
theorem dX1_leastOf_24 : decode cX1_leastOf 24 = .ok (.iconst (-1), 1) := by decide +kernel
theorem dX1_leastOf_25 : decode cX1_leastOf 25 = .ok (.ireturn, 1) := by decide +kernel
theorem dX1_balance_0 : decode cX1_balance 0 = .ok (.aload_n 0, 1) := by decide +kernel
theorem dX1_balance_1 : decode cX1_balance 1 = .ok (.iconst 0, 1) := by decide +kernel
theorem dX1_balance_2 : decode cX1_balance 2 = .ok (.invokevirtual 34, 3) := by decide +kernel
theorem dX1_balance_5 : decode cX1_balance 5 = .ok (.istore_n 2, 1) := by decide +kernel
theorem dX1_balance_6 : decode cX1_balance 6 = .ok (.aload_n 0, 1) := by decide +kernel
theorem dX1_balance_7 : decode cX1_balance 7 = .ok (.iload_n 1, 1) := by decide +kernel
theorem dX1_balance_8 : decode cX1_balance 8 = .ok (.invokevirtual 71, 3) := by decide +kernel
theorem dX1_balance_11 : decode cX1_balance 11 = .ok (.invokestatic 55, 3) := by decide +kernel
theorem dX1_balance_14 : decode cX1_balance 14 = .ok (.istore_n 3, 1) := by decide +kernel
theorem dX1_balance_15 : decode cX1_balance 15 = .ok (.iconst 0, 1) := by decide +kernel
theorem dX1_balance_16 : decode cX1_balance 16 = .ok (.istore 4, 2) := by decide +kernel
theorem dX1_balance_18 : decode cX1_balance 18 = .ok (.iload 4, 2) := by decide +kernel
theorem dX1_balance_20 : decode cX1_balance 20 = .ok (.aload_n 0, 1) := by decide +kernel
theorem dX1_balance_21 : decode cX1_balance 21 = .ok (.getfield 29, 3) := by decide +kernel
theorem dX1_balance_24 : decode cX1_balance 24 = .ok (.if_icmp .ge 32, 3) := by decide +kernel
theorem dX1_balance_27 : decode cX1_balance 27 = .ok (.aload_n 0, 1) := by decide +kernel
theorem dX1_balance_28 : decode cX1_balance 28 = .ok (.getfield 123, 3) := by decide +kernel
theorem dX1_balance_31 : decode cX1_balance 31 = .ok (.iload 4, 2) := by decide +kernel
theorem dX1_balance_33 : decode cX1_balance 33 = .ok (.iaload, 1) := by decide +kernel
theorem dX1_balance_34 : decode cX1_balance 34 = .ok (.iload_n 1, 1) := by decide +kernel
theorem dX1_balance_35 : decode cX1_balance 35 = .ok (.if_icmp .ne 15, 3) := by decide +kernel
theorem dX1_balance_38 : decode cX1_balance 38 = .ok (.iload_n 2, 1) := by decide +kernel
theorem dX1_balance_39 : decode cX1_balance 39 = .ok (.iload 4, 2) := by decide +kernel
theorem dX1_balance_41 : decode cX1_balance 41 = .ok (.invokestatic 83, 3) := by decide +kernel
theorem dX1_balance_44 : decode cX1_balance 44 = .ok (.ifCond .eq 6, 3) := by decide +kernel
theorem dX1_balance_47 : decode cX1_balance 47 = .ok (.iinc 3 (-1), 3) := by decide +kernel
theorem dX1_balance_50 : decode cX1_balance 50 = .ok (.iinc 4 1, 3) := by decide +kernel
theorem dX1_balance_53 : decode cX1_balance 53 = .ok (.goto (-35), 3) := by decide +kernel
theorem dX1_balance_56 : decode cX1_balance 56 = .ok (.iload_n 3, 1) := by decide +kernel
theorem dX1_balance_57 : decode cX1_balance 57 = .ok (.ireturn, 1) := by decide +kernel
theorem dX1_hearten_0 : decode cX1_hearten 0 = .ok (.aload_n 0, 1) := by decide +kernel
theorem dX1_hearten_1 : decode cX1_hearten 1 = .ok (.iload_n 1, 1) := by decide +kernel
theorem dX1_hearten_2 : decode cX1_hearten 2 = .ok (.invokevirtual 91, 3) := by decide +kernel
theorem dX1_hearten_5 : decode cX1_hearten 5 = .ok (.istore_n 2, 1) := by decide +kernel
theorem dX1_hearten_6 : decode cX1_hearten 6 = .ok (.aload_n 0, 1) := by decide +kernel
theorem dX1_hearten_7 : decode cX1_hearten 7 = .ok (.getfield 132, 3) := by decide +kernel
theorem dX1_hearten_10 : decode cX1_hearten 10 = .ok (.iload_n 1, 1) := by decide +kernel
theorem dX1_hearten_11 : decode cX1_hearten 11 = .ok (.iaload, 1) := by decide +kernel
theorem dX1_hearten_12 : decode cX1_hearten 12 = .ok (.istore_n 3, 1) := by decide +kernel
theorem dX1_hearten_13 : decode cX1_hearten 13 = .ok (.iconst 0, 1) := by decide +kernel
theorem dX1_hearten_14 : decode cX1_hearten 14 = .ok (.istore 4, 2) := by decide +kernel
theorem dX1_hearten_16 : decode cX1_hearten 16 = .ok (.iload_n 3, 1) := by decide +kernel
theorem dX1_hearten_17 : decode cX1_hearten 17 = .ok (.iload 4, 2) := by decide +kernel
theorem dX1_hearten_19 : decode cX1_hearten 19 = .ok (.iadd, 1) := by decide +kernel
theorem dX1_hearten_20 : decode cX1_hearten 20 = .ok (.bipush 9, 2) := by decide +kernel
theorem dX1_hearten_22 : decode cX1_hearten 22 = .ok (.if_icmp .gt 31, 3) := by decide +kernel
theorem dX1_hearten_25 : decode cX1_hearten 25 = .ok (.aload_n 0, 1) := by decide +kernel
theorem dX1_hearten_26 : decode cX1_hearten 26 = .ok (.getfield 132, 3) := by decide +kernel
theorem dX1_hearten_29 : decode cX1_hearten 29 = .ok (.iload_n 1, 1) := by decide +kernel
theorem dX1_hearten_30 : decode cX1_hearten 30 = .ok (.iload_n 3, 1) := by decide +kernel
theorem dX1_hearten_31 : decode cX1_hearten 31 = .ok (.iload 4, 2) := by decide +kernel
theorem dX1_hearten_33 : decode cX1_hearten 33 = .ok (.iadd, 1) := by decide +kernel
theorem dX1_hearten_34 : decode cX1_hearten 34 = .ok (.iastore, 1) := by decide +kernel
theorem dX1_hearten_35 : decode cX1_hearten 35 = .ok (.aload_n 0, 1) := by decide +kernel
theorem dX1_hearten_36 : decode cX1_hearten 36 = .ok (.iload_n 1, 1) := by decide +kernel
theorem dX1_hearten_37 : decode cX1_hearten 37 = .ok (.invokevirtual 71, 3) := by decide +kernel
theorem dX1_hearten_40 : decode cX1_hearten 40 = .ok (.iload_n 2, 1) := by decide +kernel
theorem dX1_hearten_41 : decode cX1_hearten 41 = .ok (.if_icmp .ne 6, 3) := by decide +kernel
theorem dX1_hearten_44 : decode cX1_hearten 44 = .ok (.iload 4, 2) := by decide +kernel
theorem dX1_hearten_46 : decode cX1_hearten 46 = .ok (.ireturn, 1) := by decide +kernel
theorem dX1_hearten_47 : decode cX1_hearten 47 = .ok (.iinc 4 1, 3) := by decide +kernel
theorem dX1_hearten_50 : decode cX1_hearten 50 = .ok (.goto (-34), 3) := by decide +kernel
theorem dX1_hearten_53 : decode cX1_hearten 53 = .ok (.iconst (-1), 1) := by decide +kernel
theorem dX1_hearten_54 : decode cX1_hearten 54 = .ok (.ireturn, 1) := by decide +kernel
theorem dX3_init_0 : decode cX3_init 0 = .ok (.aload_n 0, 1) := by decide +kernel
theorem dX3_init_1 : decode cX3_init 1 = .ok (.invokespecial 3, 3) := by decide +kernel
theorem dX3_init_4 : decode cX3_init 4 = .ok (.aload_n 0, 1) := by decide +kernel
theorem dX3_init_5 : decode cX3_init 5 = .ok (.new 9, 3) := by decide +kernel
theorem dX3_init_8 : decode cX3_init 8 = .ok (.dup, 1) := by decide +kernel
theorem dX3_init_9 : decode cX3_init 9 = .ok (.invokespecial 11, 3) := by decide +kernel
theorem dX3_init_12 : decode cX3_init 12 = .ok (.putfield 12, 3) := by decide +kernel
theorem dX3_init_15 : decode cX3_init 15 = .ok (.aload_n 0, 1) := by decide +kernel
theorem dX3_init_16 : decode cX3_init 16 = .ok (.iconst 0, 1) := by decide +kernel
theorem dX3_init_17 : decode cX3_init 17 = .ok (.putfield 18, 3) := by decide +kernel
theorem dX3_init_20 : decode cX3_init 20 = .ok (.aload_n 0, 1) := by decide +kernel
theorem dX3_init_21 : decode cX3_init 21 = .ok (.iconst 0, 1) := by decide +kernel
theorem dX3_init_22 : decode cX3_init 22 = .ok (.putfield 22, 3) := by decide +kernel
theorem dX3_init_25 : decode cX3_init 25 = .ok (.aload_n 0, 1) := by decide +kernel
theorem dX3_init_26 : decode cX3_init 26 = .ok (.iconst 0, 1) := by decide +kernel
theorem dX3_init_27 : decode cX3_init 27 = .ok (.putfield 25, 3) := by decide +kernel
theorem dX3_init_30 : decode cX3_init 30 = .ok (.aload_n 0, 1) := by decide +kernel
theorem dX3_init_31 : decode cX3_init 31 = .ok (.iconst 0, 1) := by decide +kernel
theorem dX3_init_32 : decode cX3_init 32 = .ok (.putfield 28, 3) := by decide +kernel
theorem dX3_init_35 : decode cX3_init 35 = .ok (.aload_n 0, 1) := by decide +kernel
theorem dX3_init_36 : decode cX3_init 36 = .ok (.iconst (-1), 1) := by decide +kernel
theorem dX3_init_37 : decode cX3_init 37 = .ok (.putfield 31, 3) := by decide +kernel
theorem dX3_init_40 : decode cX3_init 40 = .ok (.aload_n 0, 1) := by decide +kernel
theorem dX3_init_41 : decode cX3_init 41 = .ok (.iconst (-1), 1) := by decide +kernel
theorem dX3_init_42 : decode cX3_init 42 = .ok (.putfield 34, 3) := by decide +kernel
theorem dX3_init_45 : decode cX3_init 45 = .ok (.aload_n 0, 1) := by decide +kernel
theorem dX3_init_46 : decode cX3_init 46 = .ok (.iconst (-1), 1) := by decide +kernel
theorem dX3_init_47 : decode cX3_init 47 = .ok (.putfield 37, 3) := by decide +kernel
theorem dX3_init_50 : decode cX3_init 50 = .ok (.aload_n 0, 1) := by decide +kernel
theorem dX3_init_51 : decode cX3_init 51 = .ok (.iconst 0, 1) := by decide +kernel
theorem dX3_init_52 : decode cX3_init 52 = .ok (.putfield 40, 3) := by decide +kernel
theorem dX3_init_55 : decode cX3_init 55 = .ok (.aload_n 0, 1) := by decide +kernel
theorem dX3_init_56 : decode cX3_init 56 = .ok (.iconst 0, 1) := by decide +kernel
theorem dX3_init_57 : decode cX3_init 57 = .ok (.putfield 43, 3) := by decide +kernel
theorem dX3_init_60 : decode cX3_init 60 = .ok (.aload_n 0, 1) := by decide +kernel
theorem dX3_init_61 : decode cX3_init 61 = .ok (.bipush 6, 2) := by decide +kernel
theorem dX3_init_63 : decode cX3_init 63 = .ok (.newarray .int, 2) := by decide +kernel
theorem dX3_init_65 : decode cX3_init 65 = .ok (.putfield 46, 3) := by decide +kernel
theorem dX3_init_68 : decode cX3_init 68 = .ok (.return_, 1) := by decide +kernel
theorem dX3_begin_0 : decode cX3_begin 0 = .ok (.aload_n 0, 1) := by decide +kernel
theorem dX3_begin_1 : decode cX3_begin 1 = .ok (.getfield 12, 3) := by decide +kernel
theorem dX3_begin_4 : decode cX3_begin 4 = .ok (.aload_n 1, 1) := by decide +kernel
theorem dX3_begin_5 : decode cX3_begin 5 = .ok (.invokevirtual 50, 3) := by decide +kernel
theorem dX3_begin_8 : decode cX3_begin 8 = .ok (.aload_n 0, 1) := by decide +kernel
theorem dX3_begin_9 : decode cX3_begin 9 = .ok (.iconst 0, 1) := by decide +kernel
theorem dX3_begin_10 : decode cX3_begin 10 = .ok (.putfield 18, 3) := by decide +kernel
theorem dX3_begin_13 : decode cX3_begin 13 = .ok (.aload_n 0, 1) := by decide +kernel
theorem dX3_begin_14 : decode cX3_begin 14 = .ok (.iconst 0, 1) := by decide +kernel
theorem dX3_begin_15 : decode cX3_begin 15 = .ok (.putfield 22, 3) := by decide +kernel
theorem dX3_begin_18 : decode cX3_begin 18 = .ok (.aload_n 0, 1) := by decide +kernel
theorem dX3_begin_19 : decode cX3_begin 19 = .ok (.iconst 0, 1) := by decide +kernel
theorem dX3_begin_20 : decode cX3_begin 20 = .ok (.putfield 25, 3) := by decide +kernel
theorem dX3_begin_23 : decode cX3_begin 23 = .ok (.aload_n 0, 1) := by decide +kernel
theorem dX3_begin_24 : decode cX3_begin 24 = .ok (.iconst 0, 1) := by decide +kernel
theorem dX3_begin_25 : decode cX3_begin 25 = .ok (.putfield 28, 3) := by decide +kernel
theorem dX3_begin_28 : decode cX3_begin 28 = .ok (.aload_n 0, 1) := by decide +kernel
theorem dX3_begin_29 : decode cX3_begin 29 = .ok (.iconst (-1), 1) := by decide +kernel
theorem dX3_begin_30 : decode cX3_begin 30 = .ok (.putfield 31, 3) := by decide +kernel
theorem dX3_begin_33 : decode cX3_begin 33 = .ok (.aload_n 0, 1) := by decide +kernel
theorem dX3_begin_34 : decode cX3_begin 34 = .ok (.iconst (-1), 1) := by decide +kernel
theorem dX3_begin_35 : decode cX3_begin 35 = .ok (.putfield 34, 3) := by decide +kernel
theorem dX3_begin_38 : decode cX3_begin 38 = .ok (.aload_n 0, 1) := by decide +kernel
theorem dX3_begin_39 : decode cX3_begin 39 = .ok (.iconst (-1), 1) := by decide +kernel
theorem dX3_begin_40 : decode cX3_begin 40 = .ok (.putfield 37, 3) := by decide +kernel
theorem dX3_begin_43 : decode cX3_begin 43 = .ok (.aload_n 0, 1) := by decide +kernel
theorem dX3_begin_44 : decode cX3_begin 44 = .ok (.iconst 0, 1) := by decide +kernel
theorem dX3_begin_45 : decode cX3_begin 45 = .ok (.putfield 40, 3) := by decide +kernel
theorem dX3_begin_48 : decode cX3_begin 48 = .ok (.return_, 1) := by decide +kernel
theorem dX3_run_0 : decode cX3_run 0 = .ok (.aload_n 0, 1) := by decide +kernel
theorem dX3_run_1 : decode cX3_run 1 = .ok (.aload_n 1, 1) := by decide +kernel
theorem dX3_run_2 : decode cX3_run 2 = .ok (.invokevirtual 54, 3) := by decide +kernel
theorem dX3_run_5 : decode cX3_run 5 = .ok (.iconst 0, 1) := by decide +kernel
theorem dX3_run_6 : decode cX3_run 6 = .ok (.istore 4, 2) := by decide +kernel
theorem dX3_run_8 : decode cX3_run 8 = .ok (.iload 4, 2) := by decide +kernel
theorem dX3_run_10 : decode cX3_run 10 = .ok (.iload_n 3, 1) := by decide +kernel
theorem dX3_run_11 : decode cX3_run 11 = .ok (.if_icmp .ge 49, 3) := by decide +kernel
theorem dX3_run_14 : decode cX3_run 14 = .ok (.aload_n 0, 1) := by decide +kernel
theorem dX3_run_15 : decode cX3_run 15 = .ok (.iload 4, 2) := by decide +kernel
theorem dX3_run_17 : decode cX3_run 17 = .ok (.aload_n 2, 1) := by decide +kernel
theorem dX3_run_18 : decode cX3_run 18 = .ok (.iload 4, 2) := by decide +kernel
theorem dX3_run_20 : decode cX3_run 20 = .ok (.iconst 0, 1) := by decide +kernel
theorem dX3_run_21 : decode cX3_run 21 = .ok (.invokevirtual 55, 3) := by decide +kernel
theorem dX3_run_24 : decode cX3_run 24 = .ok (.aload_n 2, 1) := by decide +kernel
theorem dX3_run_25 : decode cX3_run 25 = .ok (.iload 4, 2) := by decide +kernel
theorem dX3_run_27 : decode cX3_run 27 = .ok (.iconst 1, 1) := by decide +kernel
theorem dX3_run_28 : decode cX3_run 28 = .ok (.invokevirtual 55, 3) := by decide +kernel
theorem dX3_run_31 : decode cX3_run 31 = .ok (.aload_n 2, 1) := by decide +kernel
theorem dX3_run_32 : decode cX3_run 32 = .ok (.iload 4, 2) := by decide +kernel
theorem dX3_run_34 : decode cX3_run 34 = .ok (.iconst 2, 1) := by decide +kernel
theorem dX3_run_35 : decode cX3_run 35 = .ok (.invokevirtual 55, 3) := by decide +kernel
theorem dX3_run_38 : decode cX3_run 38 = .ok (.aload_n 2, 1) := by decide +kernel
theorem dX3_run_39 : decode cX3_run 39 = .ok (.iload 4, 2) := by decide +kernel
theorem dX3_run_41 : decode cX3_run 41 = .ok (.iconst 3, 1) := by decide +kernel
theorem dX3_run_42 : decode cX3_run 42 = .ok (.invokevirtual 55, 3) := by decide +kernel
theorem dX3_run_45 : decode cX3_run 45 = .ok (.invokevirtual 61, 3) := by decide +kernel
theorem dX3_run_48 : decode cX3_run 48 = .ok (.ifCond .ne 6, 3) := by decide +kernel
theorem dX3_run_51 : decode cX3_run 51 = .ok (.iload 4, 2) := by decide +kernel
theorem dX3_run_53 : decode cX3_run 53 = .ok (.ireturn, 1) := by decide +kernel
theorem dX3_run_54 : decode cX3_run 54 = .ok (.iinc 4 1, 3) := by decide +kernel
theorem dX3_run_57 : decode cX3_run 57 = .ok (.goto (-49), 3) := by decide +kernel
theorem dX3_run_60 : decode cX3_run 60 = .ok (.iload_n 3, 1) := by decide +kernel
theorem dX3_run_61 : decode cX3_run 61 = .ok (.ireturn, 1) := by decide +kernel
theorem dX3_runSeed_0 : decode cX3_runSeed 0 = .ok (.aload_n 0, 1) := by decide +kernel
theorem dX3_runSeed_1 : decode cX3_runSeed 1 = .ok (.aload_n 1, 1) := by decide +kernel
theorem dX3_runSeed_2 : decode cX3_runSeed 2 = .ok (.invokevirtual 54, 3) := by decide +kernel
theorem dX3_runSeed_5 : decode cX3_runSeed 5 = .ok (.aload_n 0, 1) := by decide +kernel
theorem dX3_runSeed_6 : decode cX3_runSeed 6 = .ok (.iload_n 2, 1) := by decide +kernel
theorem dX3_runSeed_7 : decode cX3_runSeed 7 = .ok (.putfield 43, 3) := by decide +kernel
theorem dX3_runSeed_10 : decode cX3_runSeed 10 = .ok (.iconst 0, 1) := by decide +kernel
theorem dX3_runSeed_11 : decode cX3_runSeed 11 = .ok (.istore 4, 2) := by decide +kernel
theorem dX3_runSeed_13 : decode cX3_runSeed 13 = .ok (.iload 4, 2) := by decide +kernel
theorem dX3_runSeed_15 : decode cX3_runSeed 15 = .ok (.iload_n 3, 1) := by decide +kernel
theorem dX3_runSeed_16 : decode cX3_runSeed 16 = .ok (.if_icmp .ge 15, 3) := by decide +kernel
theorem dX3_runSeed_19 : decode cX3_runSeed 19 = .ok (.aload_n 0, 1) := by decide +kernel
theorem dX3_runSeed_20 : decode cX3_runSeed 20 = .ok (.iload 4, 2) := by decide +kernel
theorem dX3_runSeed_22 : decode cX3_runSeed 22 = .ok (.invokevirtual 65, 3) := by decide +kernel
theorem dX3_runSeed_25 : decode cX3_runSeed 25 = .ok (.iinc 4 1, 3) := by decide +kernel
theorem dX3_runSeed_28 : decode cX3_runSeed 28 = .ok (.goto (-15), 3) := by decide +kernel
theorem dX3_runSeed_31 : decode cX3_runSeed 31 = .ok (.return_, 1) := by decide +kernel
theorem dX3_draw_0 : decode cX3_draw 0 = .ok (.aload_n 0, 1) := by decide +kernel
theorem dX3_draw_1 : decode cX3_draw 1 = .ok (.aload_n 0, 1) := by decide +kernel
theorem dX3_draw_2 : decode cX3_draw 2 = .ok (.getfield 43, 3) := by decide +kernel
theorem dX3_draw_5 : decode cX3_draw 5 = .ok (.ldc 69, 2) := by decide +kernel
theorem dX3_draw_7 : decode cX3_draw 7 = .ok (.imul, 1) := by decide +kernel
theorem dX3_draw_8 : decode cX3_draw 8 = .ok (.sipush 12345, 3) := by decide +kernel
theorem dX3_draw_11 : decode cX3_draw 11 = .ok (.iadd, 1) := by decide +kernel
theorem dX3_draw_12 : decode cX3_draw 12 = .ok (.putfield 43, 3) := by decide +kernel
theorem dX3_draw_15 : decode cX3_draw 15 = .ok (.iload_n 1, 1) := by decide +kernel
theorem dX3_draw_16 : decode cX3_draw 16 = .ok (.ifCond .le 15, 3) := by decide +kernel
theorem dX3_draw_19 : decode cX3_draw 19 = .ok (.aload_n 0, 1) := by decide +kernel
theorem dX3_draw_20 : decode cX3_draw 20 = .ok (.getfield 43, 3) := by decide +kernel
theorem dX3_draw_23 : decode cX3_draw 23 = .ok (.bipush 16, 2) := by decide +kernel
theorem dX3_draw_25 : decode cX3_draw 25 = .ok (.iushr, 1) := by decide +kernel
theorem dX3_draw_26 : decode cX3_draw 26 = .ok (.iload_n 1, 1) := by decide +kernel
theorem dX3_draw_27 : decode cX3_draw 27 = .ok (.irem, 1) := by decide +kernel
theorem dX3_draw_28 : decode cX3_draw 28 = .ok (.goto 4, 3) := by decide +kernel
theorem dX3_draw_31 : decode cX3_draw 31 = .ok (.iconst 0, 1) := by decide +kernel
theorem dX3_draw_32 : decode cX3_draw 32 = .ok (.ireturn, 1) := by decide +kernel
theorem dX3_performDrawn_0 : decode cX3_performDrawn 0 = .ok (.aload_n 0, 1) := by decide +kernel
theorem dX3_performDrawn_1 : decode cX3_performDrawn 1 = .ok (.getfield 12, 3) := by decide +kernel
theorem dX3_performDrawn_4 : decode cX3_performDrawn 4 = .ok (.getfield 70, 3) := by decide +kernel
theorem dX3_performDrawn_7 : decode cX3_performDrawn 7 = .ok (.istore_n 2, 1) := by decide +kernel
theorem dX3_performDrawn_8 : decode cX3_performDrawn 8 = .ok (.aload_n 0, 1) := by decide +kernel
theorem dX3_performDrawn_9 : decode cX3_performDrawn 9 = .ok (.bipush 10, 2) := by decide +kernel
theorem dX3_performDrawn_11 : decode cX3_performDrawn 11 = .ok (.invokevirtual 73, 3) := by decide +kernel
theorem dX3_performDrawn_14 : decode cX3_performDrawn 14 = .ok (.istore_n 3, 1) := by decide +kernel
theorem dX3_performDrawn_15 : decode cX3_performDrawn 15 = .ok (.iload_n 3, 1) := by decide +kernel
theorem dX3_performDrawn_16 : decode cX3_performDrawn 16 = .ok (.bipush 9, 2) := by decide +kernel
theorem dX3_performDrawn_18 : decode cX3_performDrawn 18 = .ok (.if_icmp .ne 11, 3) := by decide +kernel
theorem dX3_performDrawn_21 : decode cX3_performDrawn 21 = .ok (.aload_n 0, 1) := by decide +kernel
theorem dX3_performDrawn_22 : decode cX3_performDrawn 22 = .ok (.iload_n 1, 1) := by decide +kernel
theorem dX3_performDrawn_23 : decode cX3_performDrawn 23 = .ok (.invokevirtual 77, 3) := by decide +kernel
theorem dX3_performDrawn_26 : decode cX3_performDrawn 26 = .ok (.goto 140, 3) := by decide +kernel
theorem dX3_performDrawn_29 : decode cX3_performDrawn 29 = .ok (.iload_n 3, 1) := by decide +kernel
theorem dX3_performDrawn_30 : decode cX3_performDrawn 30 = .ok (.bipush 8, 2) := by decide +kernel
theorem dX3_performDrawn_32 : decode cX3_performDrawn 32 = .ok (.if_icmp .ne 40, 3) := by decide +kernel
theorem dX3_performDrawn_35 : decode cX3_performDrawn 35 = .ok (.iload_n 2, 1) := by decide +kernel
theorem dX3_performDrawn_36 : decode cX3_performDrawn 36 = .ok (.ifCond .le 36, 3) := by decide +kernel
theorem dX3_performDrawn_39 : decode cX3_performDrawn 39 = .ok (.aload_n 0, 1) := by decide +kernel
theorem dX3_performDrawn_40 : decode cX3_performDrawn 40 = .ok (.iload_n 2, 1) := by decide +kernel
theorem dX3_performDrawn_41 : decode cX3_performDrawn 41 = .ok (.invokevirtual 73, 3) := by decide +kernel
theorem dX3_performDrawn_44 : decode cX3_performDrawn 44 = .ok (.istore 4, 2) := by decide +kernel
theorem dX3_performDrawn_46 : decode cX3_performDrawn 46 = .ok (.aload_n 0, 1) := by decide +kernel
theorem dX3_performDrawn_47 : decode cX3_performDrawn 47 = .ok (.iload_n 1, 1) := by decide +kernel
theorem dX3_performDrawn_48 : decode cX3_performDrawn 48 = .ok (.aload_n 0, 1) := by decide +kernel
theorem dX3_performDrawn_49 : decode cX3_performDrawn 49 = .ok (.iconst 2, 1) := by decide +kernel
theorem dX3_performDrawn_50 : decode cX3_performDrawn 50 = .ok (.invokevirtual 73, 3) := by decide +kernel
theorem dX3_performDrawn_53 : decode cX3_performDrawn 53 = .ok (.ifCond .ne 7, 3) := by decide +kernel
theorem dX3_performDrawn_56 : decode cX3_performDrawn 56 = .ok (.iconst 1, 1) := by decide +kernel
theorem dX3_performDrawn_57 : decode cX3_performDrawn 57 = .ok (.goto 4, 3) := by decide +kernel
theorem dX3_performDrawn_60 : decode cX3_performDrawn 60 = .ok (.iconst 2, 1) := by decide +kernel
theorem dX3_performDrawn_61 : decode cX3_performDrawn 61 = .ok (.iload 4, 2) := by decide +kernel
theorem dX3_performDrawn_63 : decode cX3_performDrawn 63 = .ok (.iconst (-1), 1) := by decide +kernel
theorem dX3_performDrawn_64 : decode cX3_performDrawn 64 = .ok (.iconst (-1), 1) := by decide +kernel
theorem dX3_performDrawn_65 : decode cX3_performDrawn 65 = .ok (.invokevirtual 61, 3) := by decide +kernel
theorem dX3_performDrawn_68 : decode cX3_performDrawn 68 = .ok (.pop, 1) := by decide +kernel
theorem dX3_performDrawn_69 : decode cX3_performDrawn 69 = .ok (.goto 97, 3) := by decide +kernel
theorem dX3_performDrawn_72 : decode cX3_performDrawn 72 = .ok (.iload_n 3, 1) := by decide +kernel
theorem dX3_performDrawn_73 : decode cX3_performDrawn 73 = .ok (.bipush 8, 2) := by decide +kernel
theorem dX3_performDrawn_75 : decode cX3_performDrawn 75 = .ok (.if_icmp .ge 91, 3) := by decide +kernel
theorem dX3_performDrawn_78 : decode cX3_performDrawn 78 = .ok (.iload_n 2, 1) := by decide +kernel
theorem dX3_performDrawn_79 : decode cX3_performDrawn 79 = .ok (.iconst 1, 1) := by decide +kernel
theorem dX3_performDrawn_80 : decode cX3_performDrawn 80 = .ok (.if_icmp .le 86, 3) := by decide +kernel
theorem dX3_performDrawn_83 : decode cX3_performDrawn 83 = .ok (.aload_n 0, 1) := by decide +kernel
theorem dX3_performDrawn_84 : decode cX3_performDrawn 84 = .ok (.iload_n 2, 1) := by decide +kernel
theorem dX3_performDrawn_85 : decode cX3_performDrawn 85 = .ok (.invokevirtual 73, 3) := by decide +kernel
theorem dX3_performDrawn_88 : decode cX3_performDrawn 88 = .ok (.istore 4, 2) := by decide +kernel
theorem dX3_performDrawn_90 : decode cX3_performDrawn 90 = .ok (.iload 4, 2) := by decide +kernel
theorem dX3_performDrawn_92 : decode cX3_performDrawn 92 = .ok (.iconst 1, 1) := by decide +kernel
theorem dX3_performDrawn_93 : decode cX3_performDrawn 93 = .ok (.iadd, 1) := by decide +kernel
theorem dX3_performDrawn_94 : decode cX3_performDrawn 94 = .ok (.aload_n 0, 1) := by decide +kernel
theorem dX3_performDrawn_95 : decode cX3_performDrawn 95 = .ok (.iload_n 2, 1) := by decide +kernel
theorem dX3_performDrawn_96 : decode cX3_performDrawn 96 = .ok (.iconst 1, 1) := by decide +kernel
theorem dX3_performDrawn_97 : decode cX3_performDrawn 97 = .ok (.isub, 1) := by decide +kernel
theorem dX3_performDrawn_98 : decode cX3_performDrawn 98 = .ok (.invokevirtual 73, 3) := by decide +kernel
theorem dX3_performDrawn_101 : decode cX3_performDrawn 101 = .ok (.iadd, 1) := by decide +kernel
theorem dX3_performDrawn_102 : decode cX3_performDrawn 102 = .ok (.iload_n 2, 1) := by decide +kernel
theorem dX3_performDrawn_103 : decode cX3_performDrawn 103 = .ok (.irem, 1) := by decide +kernel
theorem dX3_performDrawn_104 : decode cX3_performDrawn 104 = .ok (.istore 5, 2) := by decide +kernel
theorem dX3_performDrawn_106 : decode cX3_performDrawn 106 = .ok (.iload_n 3, 1) := by decide +kernel
theorem dX3_performDrawn_107 : decode cX3_performDrawn 107 = .ok (.iconst 4, 1) := by decide +kernel
theorem dX3_performDrawn_108 : decode cX3_performDrawn 108 = .ok (.if_icmp .ge 12, 3) := by decide +kernel
theorem dX3_performDrawn_111 : decode cX3_performDrawn 111 = .ok (.aload_n 0, 1) := by decide +kernel
theorem dX3_performDrawn_112 : decode cX3_performDrawn 112 = .ok (.bipush 8, 2) := by decide +kernel
theorem dX3_performDrawn_114 : decode cX3_performDrawn 114 = .ok (.invokevirtual 73, 3) := by decide +kernel
theorem dX3_performDrawn_117 : decode cX3_performDrawn 117 = .ok (.goto 4, 3) := by decide +kernel
theorem dX3_performDrawn_120 : decode cX3_performDrawn 120 = .ok (.iconst (-1), 1) := by decide +kernel
theorem dX3_performDrawn_121 : decode cX3_performDrawn 121 = .ok (.istore 6, 2) := by decide +kernel
theorem dX3_performDrawn_123 : decode cX3_performDrawn 123 = .ok (.aload_n 0, 1) := by decide +kernel
theorem dX3_performDrawn_124 : decode cX3_performDrawn 124 = .ok (.iload_n 1, 1) := by decide +kernel
theorem dX3_performDrawn_125 : decode cX3_performDrawn 125 = .ok (.iload_n 3, 1) := by decide +kernel
theorem dX3_performDrawn_126 : decode cX3_performDrawn 126 = .ok (.iconst 4, 1) := by decide +kernel
theorem dX3_performDrawn_127 : decode cX3_performDrawn 127 = .ok (.if_icmp .ge 8, 3) := by decide +kernel
theorem dX3_performDrawn_130 : decode cX3_performDrawn 130 = .ok (.bipush 6, 2) := by decide +kernel
theorem dX3_performDrawn_132 : decode cX3_performDrawn 132 = .ok (.goto 24, 3) := by decide +kernel
theorem dX3_performDrawn_135 : decode cX3_performDrawn 135 = .ok (.iload_n 3, 1) := by decide +kernel
theorem dX3_performDrawn_136 : decode cX3_performDrawn 136 = .ok (.bipush 6, 2) := by decide +kernel
theorem dX3_performDrawn_138 : decode cX3_performDrawn 138 = .ok (.if_icmp .ge 7, 3) := by decide +kernel
theorem dX3_performDrawn_141 : decode cX3_performDrawn 141 = .ok (.iconst 3, 1) := by decide +kernel
theorem dX3_performDrawn_142 : decode cX3_performDrawn 142 = .ok (.goto 14, 3) := by decide +kernel
theorem dX3_performDrawn_145 : decode cX3_performDrawn 145 = .ok (.iload_n 3, 1) := by decide +kernel
theorem dX3_performDrawn_146 : decode cX3_performDrawn 146 = .ok (.bipush 6, 2) := by decide +kernel
theorem dX3_performDrawn_148 : decode cX3_performDrawn 148 = .ok (.if_icmp .ne 7, 3) := by decide +kernel
theorem dX3_performDrawn_151 : decode cX3_performDrawn 151 = .ok (.iconst 4, 1) := by decide +kernel
theorem dX3_performDrawn_152 : decode cX3_performDrawn 152 = .ok (.goto 4, 3) := by decide +kernel
theorem dX3_performDrawn_155 : decode cX3_performDrawn 155 = .ok (.iconst 5, 1) := by decide +kernel
theorem dX3_performDrawn_156 : decode cX3_performDrawn 156 = .ok (.iload 4, 2) := by decide +kernel
theorem dX3_performDrawn_158 : decode cX3_performDrawn 158 = .ok (.iload 5, 2) := by decide +kernel
theorem dX3_performDrawn_160 : decode cX3_performDrawn 160 = .ok (.iload 6, 2) := by decide +kernel
theorem dX3_performDrawn_162 : decode cX3_performDrawn 162 = .ok (.invokevirtual 61, 3) := by decide +kernel
theorem dX3_performDrawn_165 : decode cX3_performDrawn 165 = .ok (.pop, 1) := by decide +kernel
theorem dX3_performDrawn_166 : decode cX3_performDrawn 166 = .ok (.return_, 1) := by decide +kernel
theorem dX3_perform_0 : decode cX3_perform 0 = .ok (.iload_n 2, 1) := by decide +kernel
theorem dX3_perform_1 : decode cX3_perform 1 = .ok (.tableswitch 100 0 6 #[43, 50, 57, 64, 72, 81, 90], 43) := by decide +kernel
theorem dX3_perform_44 : decode cX3_perform 44 = .ok (.aload_n 0, 1) := by decide +kernel
theorem dX3_perform_45 : decode cX3_perform 45 = .ok (.iload_n 1, 1) := by decide +kernel
theorem dX3_perform_46 : decode cX3_perform 46 = .ok (.invokevirtual 77, 3) := by decide +kernel
theorem dX3_perform_49 : decode cX3_perform 49 = .ok (.iconst 1, 1) := by decide +kernel
theorem dX3_perform_50 : decode cX3_perform 50 = .ok (.ireturn, 1) := by decide +kernel
theorem dX3_perform_51 : decode cX3_perform 51 = .ok (.aload_n 0, 1) := by decide +kernel
theorem dX3_perform_52 : decode cX3_perform 52 = .ok (.iload_n 3, 1) := by decide +kernel
theorem dX3_perform_53 : decode cX3_perform 53 = .ok (.iconst (-1), 1) := by decide +kernel
theorem dX3_perform_54 : decode cX3_perform 54 = .ok (.invokevirtual 80, 3) := by decide +kernel
theorem dX3_perform_57 : decode cX3_perform 57 = .ok (.ireturn, 1) := by decide +kernel
theorem dX3_perform_58 : decode cX3_perform 58 = .ok (.aload_n 0, 1) := by decide +kernel
theorem dX3_perform_59 : decode cX3_perform 59 = .ok (.iload_n 3, 1) := by decide +kernel
theorem dX3_perform_60 : decode cX3_perform 60 = .ok (.iconst 1, 1) := by decide +kernel
theorem dX3_perform_61 : decode cX3_perform 61 = .ok (.invokevirtual 80, 3) := by decide +kernel
theorem dX3_perform_64 : decode cX3_perform 64 = .ok (.ireturn, 1) := by decide +kernel
theorem dX3_perform_65 : decode cX3_perform 65 = .ok (.aload_n 0, 1) := by decide +kernel
theorem dX3_perform_66 : decode cX3_perform 66 = .ok (.iload_n 3, 1) := by decide +kernel
theorem dX3_perform_67 : decode cX3_perform 67 = .ok (.iload 4, 2) := by decide +kernel
theorem dX3_perform_69 : decode cX3_perform 69 = .ok (.invokevirtual 84, 3) := by decide +kernel
theorem dX3_perform_72 : decode cX3_perform 72 = .ok (.ireturn, 1) := by decide +kernel
theorem dX3_perform_73 : decode cX3_perform 73 = .ok (.aload_n 0, 1) := by decide +kernel
theorem dX3_perform_74 : decode cX3_perform 74 = .ok (.iload_n 3, 1) := by decide +kernel
theorem dX3_perform_75 : decode cX3_perform 75 = .ok (.iload 4, 2) := by decide +kernel
theorem dX3_perform_77 : decode cX3_perform 77 = .ok (.iconst 1, 1) := by decide +kernel
theorem dX3_perform_78 : decode cX3_perform 78 = .ok (.invokevirtual 87, 3) := by decide +kernel
theorem dX3_perform_81 : decode cX3_perform 81 = .ok (.ireturn, 1) := by decide +kernel
theorem dX3_perform_82 : decode cX3_perform 82 = .ok (.aload_n 0, 1) := by decide +kernel
theorem dX3_perform_83 : decode cX3_perform 83 = .ok (.iload_n 3, 1) := by decide +kernel
theorem dX3_perform_84 : decode cX3_perform 84 = .ok (.iload 4, 2) := by decide +kernel
theorem dX3_perform_86 : decode cX3_perform 86 = .ok (.iconst 0, 1) := by decide +kernel
theorem dX3_perform_87 : decode cX3_perform 87 = .ok (.invokevirtual 87, 3) := by decide +kernel
theorem dX3_perform_90 : decode cX3_perform 90 = .ok (.ireturn, 1) := by decide +kernel
theorem dX3_perform_91 : decode cX3_perform 91 = .ok (.aload_n 0, 1) := by decide +kernel
theorem dX3_perform_92 : decode cX3_perform 92 = .ok (.iload_n 3, 1) := by decide +kernel
theorem dX3_perform_93 : decode cX3_perform 93 = .ok (.iload 4, 2) := by decide +kernel
theorem dX3_perform_95 : decode cX3_perform 95 = .ok (.iload 5, 2) := by decide +kernel
theorem dX3_perform_97 : decode cX3_perform 97 = .ok (.invokevirtual 91, 3) := by decide +kernel
theorem dX3_perform_100 : decode cX3_perform 100 = .ok (.ireturn, 1) := by decide +kernel
theorem dX3_perform_101 : decode cX3_perform 101 = .ok (.iconst 0, 1) := by decide +kernel
theorem dX3_perform_102 : decode cX3_perform 102 = .ok (.ireturn, 1) := by decide +kernel
theorem dX3_holdMonday_0 : decode cX3_holdMonday 0 = .ok (.aload_n 0, 1) := by decide +kernel
theorem dX3_holdMonday_1 : decode cX3_holdMonday 1 = .ok (.getfield 12, 3) := by decide +kernel
theorem dX3_holdMonday_4 : decode cX3_holdMonday 4 = .ok (.iconst 0, 1) := by decide +kernel
theorem dX3_holdMonday_5 : decode cX3_holdMonday 5 = .ok (.invokevirtual 95, 3) := by decide +kernel
theorem dX3_holdMonday_8 : decode cX3_holdMonday 8 = .ok (.istore_n 2, 1) := by decide +kernel
theorem dX3_holdMonday_9 : decode cX3_holdMonday 9 = .ok (.iload_n 2, 1) := by decide +kernel
theorem dX3_holdMonday_10 : decode cX3_holdMonday 10 = .ok (.invokestatic 98, 3) := by decide +kernel
theorem dX3_holdMonday_13 : decode cX3_holdMonday 13 = .ok (.istore_n 3, 1) := by decide +kernel
theorem dX3_holdMonday_14 : decode cX3_holdMonday 14 = .ok (.aload_n 0, 1) := by decide +kernel
theorem dX3_holdMonday_15 : decode cX3_holdMonday 15 = .ok (.getfield 12, 3) := by decide +kernel
theorem dX3_holdMonday_18 : decode cX3_holdMonday 18 = .ok (.getfield 103, 3) := by decide +kernel
theorem dX3_holdMonday_21 : decode cX3_holdMonday 21 = .ok (.iload_n 3, 1) := by decide +kernel
theorem dX3_holdMonday_22 : decode cX3_holdMonday 22 = .ok (.isub, 1) := by decide +kernel
theorem dX3_holdMonday_23 : decode cX3_holdMonday 23 = .ok (.istore 4, 2) := by decide +kernel
theorem dX3_holdMonday_25 : decode cX3_holdMonday 25 = .ok (.aload_n 0, 1) := by decide +kernel
theorem dX3_holdMonday_26 : decode cX3_holdMonday 26 = .ok (.dup, 1) := by decide +kernel
theorem dX3_holdMonday_27 : decode cX3_holdMonday 27 = .ok (.getfield 18, 3) := by decide +kernel
theorem dX3_holdMonday_30 : decode cX3_holdMonday 30 = .ok (.iconst 1, 1) := by decide +kernel
theorem dX3_holdMonday_31 : decode cX3_holdMonday 31 = .ok (.iadd, 1) := by decide +kernel
theorem dX3_holdMonday_32 : decode cX3_holdMonday 32 = .ok (.putfield 18, 3) := by decide +kernel
theorem dX3_holdMonday_35 : decode cX3_holdMonday 35 = .ok (.aload_n 0, 1) := by decide +kernel
theorem dX3_holdMonday_36 : decode cX3_holdMonday 36 = .ok (.dup, 1) := by decide +kernel
theorem dX3_holdMonday_37 : decode cX3_holdMonday 37 = .ok (.getfield 22, 3) := by decide +kernel
theorem dX3_holdMonday_40 : decode cX3_holdMonday 40 = .ok (.iload 4, 2) := by decide +kernel
theorem dX3_holdMonday_42 : decode cX3_holdMonday 42 = .ok (.iadd, 1) := by decide +kernel
theorem dX3_holdMonday_43 : decode cX3_holdMonday 43 = .ok (.putfield 22, 3) := by decide +kernel
theorem dX3_holdMonday_46 : decode cX3_holdMonday 46 = .ok (.aload_n 0, 1) := by decide +kernel
theorem dX3_holdMonday_47 : decode cX3_holdMonday 47 = .ok (.dup, 1) := by decide +kernel
theorem dX3_holdMonday_48 : decode cX3_holdMonday 48 = .ok (.getfield 25, 3) := by decide +kernel
theorem dX3_holdMonday_51 : decode cX3_holdMonday 51 = .ok (.iload_n 3, 1) := by decide +kernel
theorem dX3_holdMonday_52 : decode cX3_holdMonday 52 = .ok (.iadd, 1) := by decide +kernel
theorem dX3_holdMonday_53 : decode cX3_holdMonday 53 = .ok (.putfield 25, 3) := by decide +kernel
theorem dX3_holdMonday_56 : decode cX3_holdMonday 56 = .ok (.iload 4, 2) := by decide +kernel
theorem dX3_holdMonday_58 : decode cX3_holdMonday 58 = .ok (.aload_n 0, 1) := by decide +kernel
theorem dX3_holdMonday_59 : decode cX3_holdMonday 59 = .ok (.getfield 37, 3) := by decide +kernel
theorem dX3_holdMonday_62 : decode cX3_holdMonday 62 = .ok (.if_icmp .le 17, 3) := by decide +kernel
theorem dX3_holdMonday_65 : decode cX3_holdMonday 65 = .ok (.aload_n 0, 1) := by decide +kernel
theorem dX3_holdMonday_66 : decode cX3_holdMonday 66 = .ok (.iload 4, 2) := by decide +kernel
theorem dX3_holdMonday_68 : decode cX3_holdMonday 68 = .ok (.putfield 37, 3) := by decide +kernel
theorem dX3_holdMonday_71 : decode cX3_holdMonday 71 = .ok (.aload_n 0, 1) := by decide +kernel
theorem dX3_holdMonday_72 : decode cX3_holdMonday 72 = .ok (.aload_n 0, 1) := by decide +kernel
theorem dX3_holdMonday_73 : decode cX3_holdMonday 73 = .ok (.getfield 18, 3) := by decide +kernel
theorem dX3_holdMonday_76 : decode cX3_holdMonday 76 = .ok (.putfield 34, 3) := by decide +kernel
theorem dX3_holdMonday_79 : decode cX3_holdMonday 79 = .ok (.aload_n 0, 1) := by decide +kernel
theorem dX3_holdMonday_80 : decode cX3_holdMonday 80 = .ok (.getfield 28, 3) := by decide +kernel
theorem dX3_holdMonday_83 : decode cX3_holdMonday 83 = .ok (.ifCond .ne 12, 3) := by decide +kernel
theorem dX3_holdMonday_86 : decode cX3_holdMonday 86 = .ok (.iload_n 2, 1) := by decide +kernel
theorem dX3_holdMonday_87 : decode cX3_holdMonday 87 = .ok (.ifCond .eq 8, 3) := by decide +kernel
theorem dX3_holdMonday_90 : decode cX3_holdMonday 90 = .ok (.aload_n 0, 1) := by decide +kernel
theorem dX3_holdMonday_91 : decode cX3_holdMonday 91 = .ok (.iload_n 1, 1) := by decide +kernel
theorem dX3_holdMonday_92 : decode cX3_holdMonday 92 = .ok (.putfield 31, 3) := by decide +kernel
theorem dX3_holdMonday_95 : decode cX3_holdMonday 95 = .ok (.aload_n 0, 1) := by decide +kernel
theorem dX3_holdMonday_96 : decode cX3_holdMonday 96 = .ok (.dup, 1) := by decide +kernel
theorem dX3_holdMonday_97 : decode cX3_holdMonday 97 = .ok (.getfield 28, 3) := by decide +kernel
theorem dX3_holdMonday_100 : decode cX3_holdMonday 100 = .ok (.aload_n 0, 1) := by decide +kernel
theorem dX3_holdMonday_101 : decode cX3_holdMonday 101 = .ok (.getfield 12, 3) := by decide +kernel
theorem dX3_holdMonday_104 : decode cX3_holdMonday 104 = .ok (.iload_n 2, 1) := by decide +kernel
theorem dX3_holdMonday_105 : decode cX3_holdMonday 105 = .ok (.invokevirtual 106, 3) := by decide +kernel
theorem dX3_holdMonday_108 : decode cX3_holdMonday 108 = .ok (.ior, 1) := by decide +kernel
theorem dX3_holdMonday_109 : decode cX3_holdMonday 109 = .ok (.putfield 28, 3) := by decide +kernel
theorem dX3_holdMonday_112 : decode cX3_holdMonday 112 = .ok (.aload_n 0, 1) := by decide +kernel
theorem dX3_holdMonday_113 : decode cX3_holdMonday 113 = .ok (.getfield 12, 3) := by decide +kernel
theorem dX3_holdMonday_116 : decode cX3_holdMonday 116 = .ok (.iconst 0, 1) := by decide +kernel
theorem dX3_holdMonday_117 : decode cX3_holdMonday 117 = .ok (.putfield 103, 3) := by decide +kernel
theorem dX3_holdMonday_120 : decode cX3_holdMonday 120 = .ok (.return_, 1) := by decide +kernel
theorem dX3_changeWill_0 : decode cX3_changeWill 0 = .ok (.aload_n 0, 1) := by decide +kernel
theorem dX3_changeWill_1 : decode cX3_changeWill 1 = .ok (.getfield 12, 3) := by decide +kernel
theorem dX3_changeWill_4 : decode cX3_changeWill 4 = .ok (.iload_n 1, 1) := by decide +kernel
theorem dX3_changeWill_5 : decode cX3_changeWill 5 = .ok (.invokevirtual 109, 3) := by decide +kernel
theorem dX3_changeWill_8 : decode cX3_changeWill 8 = .ok (.ifCond .ne 5, 3) := by decide +kernel
theorem dX3_changeWill_11 : decode cX3_changeWill 11 = .ok (.iconst 0, 1) := by decide +kernel
theorem dX3_changeWill_12 : decode cX3_changeWill 12 = .ok (.ireturn, 1) := by decide +kernel
theorem dX3_changeWill_13 : decode cX3_changeWill 13 = .ok (.aload_n 0, 1) := by decide +kernel
theorem dX3_changeWill_14 : decode cX3_changeWill 14 = .ok (.getfield 12, 3) := by decide +kernel
theorem dX3_changeWill_17 : decode cX3_changeWill 17 = .ok (.getfield 113, 3) := by decide +kernel
theorem dX3_changeWill_20 : decode cX3_changeWill 20 = .ok (.iload_n 1, 1) := by decide +kernel
theorem dX3_changeWill_21 : decode cX3_changeWill 21 = .ok (.iaload, 1) := by decide +kernel
theorem dX3_changeWill_22 : decode cX3_changeWill 22 = .ok (.iload_n 2, 1) := by decide +kernel
theorem dX3_changeWill_23 : decode cX3_changeWill 23 = .ok (.iadd, 1) := by decide +kernel
theorem dX3_changeWill_24 : decode cX3_changeWill 24 = .ok (.istore_n 3, 1) := by decide +kernel
theorem dX3_changeWill_25 : decode cX3_changeWill 25 = .ok (.iload_n 3, 1) := by decide +kernel
theorem dX3_changeWill_26 : decode cX3_changeWill 26 = .ok (.ifCond .lt 9, 3) := by decide +kernel
theorem dX3_changeWill_29 : decode cX3_changeWill 29 = .ok (.iload_n 3, 1) := by decide +kernel
theorem dX3_changeWill_30 : decode cX3_changeWill 30 = .ok (.bipush 9, 2) := by decide +kernel
theorem dX3_changeWill_32 : decode cX3_changeWill 32 = .ok (.if_icmp .le 5, 3) := by decide +kernel
theorem dX3_changeWill_35 : decode cX3_changeWill 35 = .ok (.iconst 0, 1) := by decide +kernel
theorem dX3_changeWill_36 : decode cX3_changeWill 36 = .ok (.ireturn, 1) := by decide +kernel
theorem dX3_changeWill_37 : decode cX3_changeWill 37 = .ok (.aload_n 0, 1) := by decide +kernel
theorem dX3_changeWill_38 : decode cX3_changeWill 38 = .ok (.getfield 12, 3) := by decide +kernel
theorem dX3_changeWill_41 : decode cX3_changeWill 41 = .ok (.getfield 113, 3) := by decide +kernel
theorem dX3_changeWill_44 : decode cX3_changeWill 44 = .ok (.iload_n 1, 1) := by decide +kernel
theorem dX3_changeWill_45 : decode cX3_changeWill 45 = .ok (.iload_n 3, 1) := by decide +kernel
theorem dX3_changeWill_46 : decode cX3_changeWill 46 = .ok (.iastore, 1) := by decide +kernel
theorem dX3_changeWill_47 : decode cX3_changeWill 47 = .ok (.iconst 1, 1) := by decide +kernel
theorem dX3_changeWill_48 : decode cX3_changeWill 48 = .ok (.ireturn, 1) := by decide +kernel
theorem dX3_payVisit_0 : decode cX3_payVisit 0 = .ok (.aload_n 0, 1) := by decide +kernel
theorem dX3_payVisit_1 : decode cX3_payVisit 1 = .ok (.getfield 12, 3) := by decide +kernel
theorem dX3_payVisit_4 : decode cX3_payVisit 4 = .ok (.iload_n 1, 1) := by decide +kernel
theorem dX3_payVisit_5 : decode cX3_payVisit 5 = .ok (.iload_n 2, 1) := by decide +kernel
theorem dX3_payVisit_6 : decode cX3_payVisit 6 = .ok (.invokevirtual 116, 3) := by decide +kernel
theorem dX3_payVisit_9 : decode cX3_payVisit 9 = .ok (.ifCond .eq 22, 3) := by decide +kernel
theorem dX3_payVisit_12 : decode cX3_payVisit 12 = .ok (.aload_n 0, 1) := by decide +kernel
theorem dX3_payVisit_13 : decode cX3_payVisit 13 = .ok (.getfield 12, 3) := by decide +kernel
theorem dX3_payVisit_16 : decode cX3_payVisit 16 = .ok (.getfield 119, 3) := by decide +kernel
theorem dX3_payVisit_19 : decode cX3_payVisit 19 = .ok (.iload_n 1, 1) := by decide +kernel
theorem dX3_payVisit_20 : decode cX3_payVisit 20 = .ok (.bipush 6, 2) := by decide +kernel
theorem dX3_payVisit_22 : decode cX3_payVisit 22 = .ok (.imul, 1) := by decide +kernel
theorem dX3_payVisit_23 : decode cX3_payVisit 23 = .ok (.iload_n 2, 1) := by decide +kernel
theorem dX3_payVisit_24 : decode cX3_payVisit 24 = .ok (.iadd, 1) := by decide +kernel
theorem dX3_payVisit_25 : decode cX3_payVisit 25 = .ok (.iaload, 1) := by decide +kernel
theorem dX3_payVisit_26 : decode cX3_payVisit 26 = .ok (.bipush 9, 2) := by decide +kernel
theorem dX3_payVisit_28 : decode cX3_payVisit 28 = .ok (.if_icmp .lt 5, 3) := by decide +kernel
theorem dX3_payVisit_31 : decode cX3_payVisit 31 = .ok (.iconst 0, 1) := by decide +kernel
theorem dX3_payVisit_32 : decode cX3_payVisit 32 = .ok (.ireturn, 1) := by decide +kernel
theorem dX3_payVisit_33 : decode cX3_payVisit 33 = .ok (.aload_n 0, 1) := by decide +kernel
theorem dX3_payVisit_34 : decode cX3_payVisit 34 = .ok (.getfield 12, 3) := by decide +kernel
theorem dX3_payVisit_37 : decode cX3_payVisit 37 = .ok (.getfield 119, 3) := by decide +kernel
theorem dX3_payVisit_40 : decode cX3_payVisit 40 = .ok (.iload_n 1, 1) := by decide +kernel
theorem dX3_payVisit_41 : decode cX3_payVisit 41 = .ok (.bipush 6, 2) := by decide +kernel
theorem dX3_payVisit_43 : decode cX3_payVisit 43 = .ok (.imul, 1) := by decide +kernel
theorem dX3_payVisit_44 : decode cX3_payVisit 44 = .ok (.iload_n 2, 1) := by decide +kernel
theorem dX3_payVisit_45 : decode cX3_payVisit 45 = .ok (.iadd, 1) := by decide +kernel
theorem dX3_payVisit_46 : decode cX3_payVisit 46 = .ok (.dup2, 1) := by decide +kernel
theorem dX3_payVisit_47 : decode cX3_payVisit 47 = .ok (.iaload, 1) := by decide +kernel
theorem dX3_payVisit_48 : decode cX3_payVisit 48 = .ok (.iconst 1, 1) := by decide +kernel
theorem dX3_payVisit_49 : decode cX3_payVisit 49 = .ok (.iadd, 1) := by decide +kernel
theorem dX3_payVisit_50 : decode cX3_payVisit 50 = .ok (.iastore, 1) := by decide +kernel
theorem dX3_payVisit_51 : decode cX3_payVisit 51 = .ok (.iconst 1, 1) := by decide +kernel
theorem dX3_payVisit_52 : decode cX3_payVisit 52 = .ok (.ireturn, 1) := by decide +kernel
theorem dX3_changeLiking_0 : decode cX3_changeLiking 0 = .ok (.aload_n 0, 1) := by decide +kernel
theorem dX3_changeLiking_1 : decode cX3_changeLiking 1 = .ok (.getfield 12, 3) := by decide +kernel
theorem dX3_changeLiking_4 : decode cX3_changeLiking 4 = .ok (.iload_n 1, 1) := by decide +kernel
theorem dX3_changeLiking_5 : decode cX3_changeLiking 5 = .ok (.iload_n 2, 1) := by decide +kernel
theorem dX3_changeLiking_6 : decode cX3_changeLiking 6 = .ok (.invokevirtual 116, 3) := by decide +kernel
theorem dX3_changeLiking_9 : decode cX3_changeLiking 9 = .ok (.ifCond .eq 20, 3) := by decide +kernel
theorem dX3_changeLiking_12 : decode cX3_changeLiking 12 = .ok (.aload_n 0, 1) := by decide +kernel
theorem dX3_changeLiking_13 : decode cX3_changeLiking 13 = .ok (.getfield 12, 3) := by decide +kernel
theorem dX3_changeLiking_16 : decode cX3_changeLiking 16 = .ok (.getfield 122, 3) := by decide +kernel
theorem dX3_changeLiking_19 : decode cX3_changeLiking 19 = .ok (.iload_n 2, 1) := by decide +kernel
theorem dX3_changeLiking_20 : decode cX3_changeLiking 20 = .ok (.iaload, 1) := by decide +kernel
theorem dX3_changeLiking_21 : decode cX3_changeLiking 21 = .ok (.iload_n 1, 1) := by decide +kernel
theorem dX3_changeLiking_22 : decode cX3_changeLiking 22 = .ok (.invokestatic 125, 3) := by decide +kernel
theorem dX3_changeLiking_25 : decode cX3_changeLiking 25 = .ok (.iload_n 3, 1) := by decide +kernel
theorem dX3_changeLiking_26 : decode cX3_changeLiking 26 = .ok (.if_icmp .ne 5, 3) := by decide +kernel
theorem dX3_changeLiking_29 : decode cX3_changeLiking 29 = .ok (.iconst 0, 1) := by decide +kernel
theorem dX3_changeLiking_30 : decode cX3_changeLiking 30 = .ok (.ireturn, 1) := by decide +kernel
theorem dX3_changeLiking_31 : decode cX3_changeLiking 31 = .ok (.aload_n 0, 1) := by decide +kernel
theorem dX3_changeLiking_32 : decode cX3_changeLiking 32 = .ok (.getfield 12, 3) := by decide +kernel
theorem dX3_changeLiking_35 : decode cX3_changeLiking 35 = .ok (.getfield 122, 3) := by decide +kernel
theorem dX3_changeLiking_38 : decode cX3_changeLiking 38 = .ok (.iload_n 2, 1) := by decide +kernel
theorem dX3_changeLiking_39 : decode cX3_changeLiking 39 = .ok (.dup2, 1) := by decide +kernel
theorem dX3_changeLiking_40 : decode cX3_changeLiking 40 = .ok (.iaload, 1) := by decide +kernel
theorem dX3_changeLiking_41 : decode cX3_changeLiking 41 = .ok (.iconst 1, 1) := by decide +kernel
theorem dX3_changeLiking_42 : decode cX3_changeLiking 42 = .ok (.iload_n 1, 1) := by decide +kernel
theorem dX3_changeLiking_43 : decode cX3_changeLiking 43 = .ok (.ishl, 1) := by decide +kernel
theorem dX3_changeLiking_44 : decode cX3_changeLiking 44 = .ok (.ixor, 1) := by decide +kernel
theorem dX3_changeLiking_45 : decode cX3_changeLiking 45 = .ok (.iastore, 1) := by decide +kernel
theorem dX3_changeLiking_46 : decode cX3_changeLiking 46 = .ok (.iconst 1, 1) := by decide +kernel
theorem dX3_changeLiking_47 : decode cX3_changeLiking 47 = .ok (.ireturn, 1) := by decide +kernel
theorem dX3_takeOath_0 : decode cX3_takeOath 0 = .ok (.aload_n 0, 1) := by decide +kernel
theorem dX3_takeOath_1 : decode cX3_takeOath 1 = .ok (.getfield 12, 3) := by decide +kernel
theorem dX3_takeOath_4 : decode cX3_takeOath 4 = .ok (.getfield 103, 3) := by decide +kernel
theorem dX3_takeOath_7 : decode cX3_takeOath 7 = .ok (.istore 4, 2) := by decide +kernel
theorem dX3_takeOath_9 : decode cX3_takeOath 9 = .ok (.aload_n 0, 1) := by decide +kernel
theorem dX3_takeOath_10 : decode cX3_takeOath 10 = .ok (.getfield 12, 3) := by decide +kernel
theorem dX3_takeOath_13 : decode cX3_takeOath 13 = .ok (.iload_n 1, 1) := by decide +kernel
theorem dX3_takeOath_14 : decode cX3_takeOath 14 = .ok (.iload_n 2, 1) := by decide +kernel
theorem dX3_takeOath_15 : decode cX3_takeOath 15 = .ok (.invokevirtual 116, 3) := by decide +kernel
theorem dX3_takeOath_18 : decode cX3_takeOath 18 = .ok (.ifCond .eq 34, 3) := by decide +kernel
theorem dX3_takeOath_21 : decode cX3_takeOath 21 = .ok (.aload_n 0, 1) := by decide +kernel
theorem dX3_takeOath_22 : decode cX3_takeOath 22 = .ok (.getfield 28, 3) := by decide +kernel
theorem dX3_takeOath_25 : decode cX3_takeOath 25 = .ok (.iload_n 1, 1) := by decide +kernel
theorem dX3_takeOath_26 : decode cX3_takeOath 26 = .ok (.invokestatic 125, 3) := by decide +kernel
theorem dX3_takeOath_29 : decode cX3_takeOath 29 = .ok (.ifCond .ne 23, 3) := by decide +kernel
theorem dX3_takeOath_32 : decode cX3_takeOath 32 = .ok (.iload 4, 2) := by decide +kernel
theorem dX3_takeOath_34 : decode cX3_takeOath 34 = .ok (.bipush 12, 2) := by decide +kernel
theorem dX3_takeOath_36 : decode cX3_takeOath 36 = .ok (.if_icmp .ge 16, 3) := by decide +kernel
theorem dX3_takeOath_39 : decode cX3_takeOath 39 = .ok (.aload_n 0, 1) := by decide +kernel
theorem dX3_takeOath_40 : decode cX3_takeOath 40 = .ok (.getfield 12, 3) := by decide +kernel
theorem dX3_takeOath_43 : decode cX3_takeOath 43 = .ok (.iload_n 1, 1) := by decide +kernel
theorem dX3_takeOath_44 : decode cX3_takeOath 44 = .ok (.iload_n 2, 1) := by decide +kernel
theorem dX3_takeOath_45 : decode cX3_takeOath 45 = .ok (.iload_n 3, 1) := by decide +kernel
theorem dX3_takeOath_46 : decode cX3_takeOath 46 = .ok (.invokevirtual 128, 3) := by decide +kernel
theorem dX3_takeOath_49 : decode cX3_takeOath 49 = .ok (.ifCond .eq 5, 3) := by decide +kernel
theorem dX3_takeOath_52 : decode cX3_takeOath 52 = .ok (.iconst 0, 1) := by decide +kernel
theorem dX3_takeOath_53 : decode cX3_takeOath 53 = .ok (.ireturn, 1) := by decide +kernel
theorem dX3_takeOath_54 : decode cX3_takeOath 54 = .ok (.aload_n 0, 1) := by decide +kernel
theorem dX3_takeOath_55 : decode cX3_takeOath 55 = .ok (.getfield 12, 3) := by decide +kernel
theorem dX3_takeOath_58 : decode cX3_takeOath 58 = .ok (.getfield 131, 3) := by decide +kernel
theorem dX3_takeOath_61 : decode cX3_takeOath 61 = .ok (.iload 4, 2) := by decide +kernel
theorem dX3_takeOath_63 : decode cX3_takeOath 63 = .ok (.iload_n 1, 1) := by decide +kernel
theorem dX3_takeOath_64 : decode cX3_takeOath 64 = .ok (.iastore, 1) := by decide +kernel
theorem dX3_takeOath_65 : decode cX3_takeOath 65 = .ok (.aload_n 0, 1) := by decide +kernel
theorem dX3_takeOath_66 : decode cX3_takeOath 66 = .ok (.getfield 12, 3) := by decide +kernel
theorem dX3_takeOath_69 : decode cX3_takeOath 69 = .ok (.getfield 134, 3) := by decide +kernel
theorem dX3_takeOath_72 : decode cX3_takeOath 72 = .ok (.iload 4, 2) := by decide +kernel
theorem dX3_takeOath_74 : decode cX3_takeOath 74 = .ok (.iload_n 2, 1) := by decide +kernel
theorem dX3_takeOath_75 : decode cX3_takeOath 75 = .ok (.iastore, 1) := by decide +kernel
theorem dX3_takeOath_76 : decode cX3_takeOath 76 = .ok (.aload_n 0, 1) := by decide +kernel
theorem dX3_takeOath_77 : decode cX3_takeOath 77 = .ok (.getfield 12, 3) := by decide +kernel
theorem dX3_takeOath_80 : decode cX3_takeOath 80 = .ok (.getfield 137, 3) := by decide +kernel
theorem dX3_takeOath_83 : decode cX3_takeOath 83 = .ok (.iload 4, 2) := by decide +kernel
theorem dX3_takeOath_85 : decode cX3_takeOath 85 = .ok (.iload_n 3, 1) := by decide +kernel
theorem dX3_takeOath_86 : decode cX3_takeOath 86 = .ok (.iastore, 1) := by decide +kernel
theorem dX3_takeOath_87 : decode cX3_takeOath 87 = .ok (.aload_n 0, 1) := by decide +kernel
theorem dX3_takeOath_88 : decode cX3_takeOath 88 = .ok (.getfield 12, 3) := by decide +kernel
theorem dX3_takeOath_91 : decode cX3_takeOath 91 = .ok (.iload 4, 2) := by decide +kernel
theorem dX3_takeOath_93 : decode cX3_takeOath 93 = .ok (.iconst 1, 1) := by decide +kernel
theorem dX3_takeOath_94 : decode cX3_takeOath 94 = .ok (.iadd, 1) := by decide +kernel
theorem dX3_takeOath_95 : decode cX3_takeOath 95 = .ok (.putfield 103, 3) := by decide +kernel
theorem dX3_takeOath_98 : decode cX3_takeOath 98 = .ok (.aload_n 0, 1) := by decide +kernel
theorem dX3_takeOath_99 : decode cX3_takeOath 99 = .ok (.dup, 1) := by decide +kernel
theorem dX3_takeOath_100 : decode cX3_takeOath 100 = .ok (.getfield 40, 3) := by decide +kernel
theorem dX3_takeOath_103 : decode cX3_takeOath 103 = .ok (.iconst 1, 1) := by decide +kernel
theorem dX3_takeOath_104 : decode cX3_takeOath 104 = .ok (.iadd, 1) := by decide +kernel
theorem dX3_takeOath_105 : decode cX3_takeOath 105 = .ok (.putfield 40, 3) := by decide +kernel
theorem dX3_takeOath_108 : decode cX3_takeOath 108 = .ok (.iconst 1, 1) := by decide +kernel
theorem dX3_takeOath_109 : decode cX3_takeOath 109 = .ok (.ireturn, 1) := by decide +kernel
theorem dX3_tell_0 : decode cX3_tell 0 = .ok (.iload_n 1, 1) := by decide +kernel
theorem dX3_tell_1 : decode cX3_tell 1 = .ok (.tableswitch 63 0 4 #[35, 40, 45, 50, 55], 35) := by decide +kernel
theorem dX3_tell_36 : decode cX3_tell 36 = .ok (.aload_n 0, 1) := by decide +kernel
theorem dX3_tell_37 : decode cX3_tell 37 = .ok (.getfield 18, 3) := by decide +kernel
theorem dX3_tell_40 : decode cX3_tell 40 = .ok (.ireturn, 1) := by decide +kernel
theorem dX3_tell_41 : decode cX3_tell 41 = .ok (.aload_n 0, 1) := by decide +kernel
theorem dX3_tell_42 : decode cX3_tell 42 = .ok (.getfield 22, 3) := by decide +kernel
theorem dX3_tell_45 : decode cX3_tell 45 = .ok (.ireturn, 1) := by decide +kernel
theorem dX3_tell_46 : decode cX3_tell 46 = .ok (.aload_n 0, 1) := by decide +kernel
theorem dX3_tell_47 : decode cX3_tell 47 = .ok (.getfield 25, 3) := by decide +kernel
theorem dX3_tell_50 : decode cX3_tell 50 = .ok (.ireturn, 1) := by decide +kernel
theorem dX3_tell_51 : decode cX3_tell 51 = .ok (.aload_n 0, 1) := by decide +kernel
theorem dX3_tell_52 : decode cX3_tell 52 = .ok (.getfield 28, 3) := by decide +kernel
theorem dX3_tell_55 : decode cX3_tell 55 = .ok (.ireturn, 1) := by decide +kernel
theorem dX3_tell_56 : decode cX3_tell 56 = .ok (.aload_n 0, 1) := by decide +kernel
theorem dX3_tell_57 : decode cX3_tell 57 = .ok (.getfield 12, 3) := by decide +kernel
theorem dX3_tell_60 : decode cX3_tell 60 = .ok (.getfield 103, 3) := by decide +kernel
theorem dX3_tell_63 : decode cX3_tell 63 = .ok (.ireturn, 1) := by decide +kernel
theorem dX3_tell_64 : decode cX3_tell 64 = .ok (.iload_n 1, 1) := by decide +kernel
theorem dX3_tell_65 : decode cX3_tell 65 = .ok (.bipush 10, 2) := by decide +kernel
theorem dX3_tell_67 : decode cX3_tell 67 = .ok (.if_icmp .ge 7, 3) := by decide +kernel
theorem dX3_tell_70 : decode cX3_tell 70 = .ok (.iconst (-1), 1) := by decide +kernel
theorem dX3_tell_71 : decode cX3_tell 71 = .ok (.goto 15, 3) := by decide +kernel
theorem dX3_tell_74 : decode cX3_tell 74 = .ok (.aload_n 0, 1) := by decide +kernel
theorem dX3_tell_75 : decode cX3_tell 75 = .ok (.iload_n 1, 1) := by decide +kernel
theorem dX3_tell_76 : decode cX3_tell 76 = .ok (.bipush 10, 2) := by decide +kernel
theorem dX3_tell_78 : decode cX3_tell 78 = .ok (.idiv, 1) := by decide +kernel
theorem dX3_tell_79 : decode cX3_tell 79 = .ok (.iload_n 1, 1) := by decide +kernel
theorem dX3_tell_80 : decode cX3_tell 80 = .ok (.bipush 10, 2) := by decide +kernel
theorem dX3_tell_82 : decode cX3_tell 82 = .ok (.irem, 1) := by decide +kernel
theorem dX3_tell_83 : decode cX3_tell 83 = .ok (.invokevirtual 140, 3) := by decide +kernel
theorem dX3_tell_86 : decode cX3_tell 86 = .ok (.ireturn, 1) := by decide +kernel
theorem dX3_tellOne_0 : decode cX3_tellOne 0 = .ok (.aload_n 0, 1) := by decide +kernel
theorem dX3_tellOne_1 : decode cX3_tellOne 1 = .ok (.getfield 12, 3) := by decide +kernel
theorem dX3_tellOne_4 : decode cX3_tellOne 4 = .ok (.iload_n 2, 1) := by decide +kernel
theorem dX3_tellOne_5 : decode cX3_tellOne 5 = .ok (.invokevirtual 109, 3) := by decide +kernel
theorem dX3_tellOne_8 : decode cX3_tellOne 8 = .ok (.ifCond .ne 5, 3) := by decide +kernel
theorem dX3_tellOne_11 : decode cX3_tellOne 11 = .ok (.iconst (-1), 1) := by decide +kernel
theorem dX3_tellOne_12 : decode cX3_tellOne 12 = .ok (.ireturn, 1) := by decide +kernel
theorem dX3_tellOne_13 : decode cX3_tellOne 13 = .ok (.iload_n 1, 1) := by decide +kernel
theorem dX3_tellOne_14 : decode cX3_tellOne 14 = .ok (.tableswitch 78 1 5 #[34, 44, 53, 62, 72], 34) := by decide +kernel
theorem dX3_tellOne_48 : decode cX3_tellOne 48 = .ok (.aload_n 0, 1) := by decide +kernel
theorem dX3_tellOne_49 : decode cX3_tellOne 49 = .ok (.getfield 12, 3) := by decide +kernel
theorem dX3_tellOne_52 : decode cX3_tellOne 52 = .ok (.getfield 113, 3) := by decide +kernel
theorem dX3_tellOne_55 : decode cX3_tellOne 55 = .ok (.iload_n 2, 1) := by decide +kernel
theorem dX3_tellOne_56 : decode cX3_tellOne 56 = .ok (.iaload, 1) := by decide +kernel
theorem dX3_tellOne_57 : decode cX3_tellOne 57 = .ok (.ireturn, 1) := by decide +kernel
theorem dX3_tellOne_58 : decode cX3_tellOne 58 = .ok (.aload_n 0, 1) := by decide +kernel
theorem dX3_tellOne_59 : decode cX3_tellOne 59 = .ok (.getfield 12, 3) := by decide +kernel
theorem dX3_tellOne_62 : decode cX3_tellOne 62 = .ok (.iload_n 2, 1) := by decide +kernel
theorem dX3_tellOne_63 : decode cX3_tellOne 63 = .ok (.invokevirtual 143, 3) := by decide +kernel
theorem dX3_tellOne_66 : decode cX3_tellOne 66 = .ok (.ireturn, 1) := by decide +kernel
theorem dX3_tellOne_67 : decode cX3_tellOne 67 = .ok (.aload_n 0, 1) := by decide +kernel
theorem dX3_tellOne_68 : decode cX3_tellOne 68 = .ok (.getfield 12, 3) := by decide +kernel
theorem dX3_tellOne_71 : decode cX3_tellOne 71 = .ok (.iload_n 2, 1) := by decide +kernel
theorem dX3_tellOne_72 : decode cX3_tellOne 72 = .ok (.invokevirtual 146, 3) := by decide +kernel
theorem dX3_tellOne_75 : decode cX3_tellOne 75 = .ok (.ireturn, 1) := by decide +kernel
theorem dX3_tellOne_76 : decode cX3_tellOne 76 = .ok (.aload_n 0, 1) := by decide +kernel
theorem dX3_tellOne_77 : decode cX3_tellOne 77 = .ok (.getfield 12, 3) := by decide +kernel
theorem dX3_tellOne_80 : decode cX3_tellOne 80 = .ok (.getfield 122, 3) := by decide +kernel
theorem dX3_tellOne_83 : decode cX3_tellOne 83 = .ok (.iload_n 2, 1) := by decide +kernel
theorem dX3_tellOne_84 : decode cX3_tellOne 84 = .ok (.iaload, 1) := by decide +kernel
theorem dX3_tellOne_85 : decode cX3_tellOne 85 = .ok (.ireturn, 1) := by decide +kernel
theorem dX3_tellOne_86 : decode cX3_tellOne 86 = .ok (.aload_n 0, 1) := by decide +kernel
theorem dX3_tellOne_87 : decode cX3_tellOne 87 = .ok (.iload_n 2, 1) := by decide +kernel
theorem dX3_tellOne_88 : decode cX3_tellOne 88 = .ok (.invokevirtual 149, 3) := by decide +kernel
theorem dX3_tellOne_91 : decode cX3_tellOne 91 = .ok (.ireturn, 1) := by decide +kernel
theorem dX3_tellOne_92 : decode cX3_tellOne 92 = .ok (.iconst (-1), 1) := by decide +kernel
theorem dX3_tellOne_93 : decode cX3_tellOne 93 = .ok (.ireturn, 1) := by decide +kernel
theorem dX3_countVisitsTo_0 : decode cX3_countVisitsTo 0 = .ok (.iconst 0, 1) := by decide +kernel
theorem dX3_countVisitsTo_1 : decode cX3_countVisitsTo 1 = .ok (.istore_n 2, 1) := by decide +kernel
theorem dX3_countVisitsTo_2 : decode cX3_countVisitsTo 2 = .ok (.iconst 0, 1) := by decide +kernel
theorem dX3_countVisitsTo_3 : decode cX3_countVisitsTo 3 = .ok (.istore_n 3, 1) := by decide +kernel
theorem dX3_countVisitsTo_4 : decode cX3_countVisitsTo 4 = .ok (.iload_n 3, 1) := by decide +kernel
theorem dX3_countVisitsTo_5 : decode cX3_countVisitsTo 5 = .ok (.bipush 6, 2) := by decide +kernel
theorem dX3_countVisitsTo_7 : decode cX3_countVisitsTo 7 = .ok (.if_icmp .ge 26, 3) := by decide +kernel
theorem dX3_countVisitsTo_10 : decode cX3_countVisitsTo 10 = .ok (.iload_n 2, 1) := by decide +kernel
theorem dX3_countVisitsTo_11 : decode cX3_countVisitsTo 11 = .ok (.aload_n 0, 1) := by decide +kernel
theorem dX3_countVisitsTo_12 : decode cX3_countVisitsTo 12 = .ok (.getfield 12, 3) := by decide +kernel
theorem dX3_countVisitsTo_15 : decode cX3_countVisitsTo 15 = .ok (.getfield 119, 3) := by decide +kernel
theorem dX3_countVisitsTo_18 : decode cX3_countVisitsTo 18 = .ok (.iload_n 3, 1) := by decide +kernel
theorem dX3_countVisitsTo_19 : decode cX3_countVisitsTo 19 = .ok (.bipush 6, 2) := by decide +kernel
theorem dX3_countVisitsTo_21 : decode cX3_countVisitsTo 21 = .ok (.imul, 1) := by decide +kernel
theorem dX3_countVisitsTo_22 : decode cX3_countVisitsTo 22 = .ok (.iload_n 1, 1) := by decide +kernel
theorem dX3_countVisitsTo_23 : decode cX3_countVisitsTo 23 = .ok (.iadd, 1) := by decide +kernel
theorem dX3_countVisitsTo_24 : decode cX3_countVisitsTo 24 = .ok (.iaload, 1) := by decide +kernel
theorem dX3_countVisitsTo_25 : decode cX3_countVisitsTo 25 = .ok (.iadd, 1) := by decide +kernel
theorem dX3_countVisitsTo_26 : decode cX3_countVisitsTo 26 = .ok (.istore_n 2, 1) := by decide +kernel
theorem dX3_countVisitsTo_27 : decode cX3_countVisitsTo 27 = .ok (.iinc 3 1, 3) := by decide +kernel
theorem dX3_countVisitsTo_30 : decode cX3_countVisitsTo 30 = .ok (.goto (-26), 3) := by decide +kernel
theorem dX3_countVisitsTo_33 : decode cX3_countVisitsTo 33 = .ok (.iload_n 2, 1) := by decide +kernel
theorem dX3_countVisitsTo_34 : decode cX3_countVisitsTo 34 = .ok (.ireturn, 1) := by decide +kernel
theorem dX3_tellAfter_0 : decode cX3_tellAfter 0 = .ok (.iload_n 1, 1) := by decide +kernel
theorem dX3_tellAfter_1 : decode cX3_tellAfter 1 = .ok (.tableswitch 60 0 4 #[35, 40, 45, 50, 55], 35) := by decide +kernel
theorem dX3_tellAfter_36 : decode cX3_tellAfter 36 = .ok (.aload_n 0, 1) := by decide +kernel
theorem dX3_tellAfter_37 : decode cX3_tellAfter 37 = .ok (.getfield 31, 3) := by decide +kernel
theorem dX3_tellAfter_40 : decode cX3_tellAfter 40 = .ok (.ireturn, 1) := by decide +kernel
theorem dX3_tellAfter_41 : decode cX3_tellAfter 41 = .ok (.aload_n 0, 1) := by decide +kernel
theorem dX3_tellAfter_42 : decode cX3_tellAfter 42 = .ok (.invokevirtual 152, 3) := by decide +kernel
theorem dX3_tellAfter_45 : decode cX3_tellAfter 45 = .ok (.ireturn, 1) := by decide +kernel
theorem dX3_tellAfter_46 : decode cX3_tellAfter 46 = .ok (.aload_n 0, 1) := by decide +kernel
theorem dX3_tellAfter_47 : decode cX3_tellAfter 47 = .ok (.getfield 34, 3) := by decide +kernel
theorem dX3_tellAfter_50 : decode cX3_tellAfter 50 = .ok (.ireturn, 1) := by decide +kernel
theorem dX3_tellAfter_51 : decode cX3_tellAfter 51 = .ok (.aload_n 0, 1) := by decide +kernel
theorem dX3_tellAfter_52 : decode cX3_tellAfter 52 = .ok (.invokevirtual 156, 3) := by decide +kernel
theorem dX3_tellAfter_55 : decode cX3_tellAfter 55 = .ok (.ireturn, 1) := by decide +kernel
theorem dX3_tellAfter_56 : decode cX3_tellAfter 56 = .ok (.aload_n 0, 1) := by decide +kernel
theorem dX3_tellAfter_57 : decode cX3_tellAfter 57 = .ok (.getfield 40, 3) := by decide +kernel
theorem dX3_tellAfter_60 : decode cX3_tellAfter 60 = .ok (.ireturn, 1) := by decide +kernel
theorem dX3_tellAfter_61 : decode cX3_tellAfter 61 = .ok (.bipush (-2), 2) := by decide +kernel
theorem dX3_tellAfter_63 : decode cX3_tellAfter 63 = .ok (.ireturn, 1) := by decide +kernel
theorem dX3_mostVisited_0 : decode cX3_mostVisited 0 = .ok (.iconst 0, 1) := by decide +kernel
theorem dX3_mostVisited_1 : decode cX3_mostVisited 1 = .ok (.istore_n 1, 1) := by decide +kernel
theorem dX3_mostVisited_2 : decode cX3_mostVisited 2 = .ok (.iload_n 1, 1) := by decide +kernel
theorem dX3_mostVisited_3 : decode cX3_mostVisited 3 = .ok (.bipush 6, 2) := by decide +kernel
theorem dX3_mostVisited_5 : decode cX3_mostVisited 5 = .ok (.if_icmp .ge 20, 3) := by decide +kernel
theorem dX3_mostVisited_8 : decode cX3_mostVisited 8 = .ok (.aload_n 0, 1) := by decide +kernel
theorem dX3_mostVisited_9 : decode cX3_mostVisited 9 = .ok (.getfield 46, 3) := by decide +kernel
theorem dX3_mostVisited_12 : decode cX3_mostVisited 12 = .ok (.iload_n 1, 1) := by decide +kernel
theorem dX3_mostVisited_13 : decode cX3_mostVisited 13 = .ok (.aload_n 0, 1) := by decide +kernel
theorem dX3_mostVisited_14 : decode cX3_mostVisited 14 = .ok (.iload_n 1, 1) := by decide +kernel
theorem dX3_mostVisited_15 : decode cX3_mostVisited 15 = .ok (.invokevirtual 149, 3) := by decide +kernel
theorem dX3_mostVisited_18 : decode cX3_mostVisited 18 = .ok (.iastore, 1) := by decide +kernel
theorem dX3_mostVisited_19 : decode cX3_mostVisited 19 = .ok (.iinc 1 1, 3) := by decide +kernel
theorem dX3_mostVisited_22 : decode cX3_mostVisited 22 = .ok (.goto (-20), 3) := by decide +kernel
theorem dX3_mostVisited_25 : decode cX3_mostVisited 25 = .ok (.aload_n 0, 1) := by decide +kernel
theorem dX3_mostVisited_26 : decode cX3_mostVisited 26 = .ok (.getfield 46, 3) := by decide +kernel
theorem dX3_mostVisited_29 : decode cX3_mostVisited 29 = .ok (.aload_n 0, 1) := by decide +kernel
theorem dX3_mostVisited_30 : decode cX3_mostVisited 30 = .ok (.getfield 12, 3) := by decide +kernel
theorem dX3_mostVisited_33 : decode cX3_mostVisited 33 = .ok (.getfield 70, 3) := by decide +kernel
theorem dX3_mostVisited_36 : decode cX3_mostVisited 36 = .ok (.invokestatic 159, 3) := by decide +kernel
theorem dX3_mostVisited_39 : decode cX3_mostVisited 39 = .ok (.ireturn, 1) := by decide +kernel
theorem dX3_countLikings_0 : decode cX3_countLikings 0 = .ok (.iconst 0, 1) := by decide +kernel
theorem dX3_countLikings_1 : decode cX3_countLikings 1 = .ok (.istore_n 1, 1) := by decide +kernel
theorem dX3_countLikings_2 : decode cX3_countLikings 2 = .ok (.iconst 0, 1) := by decide +kernel
theorem dX3_countLikings_3 : decode cX3_countLikings 3 = .ok (.istore_n 2, 1) := by decide +kernel
theorem dX3_countLikings_4 : decode cX3_countLikings 4 = .ok (.iload_n 2, 1) := by decide +kernel
theorem dX3_countLikings_5 : decode cX3_countLikings 5 = .ok (.aload_n 0, 1) := by decide +kernel
theorem dX3_countLikings_6 : decode cX3_countLikings 6 = .ok (.getfield 12, 3) := by decide +kernel
theorem dX3_countLikings_9 : decode cX3_countLikings 9 = .ok (.getfield 70, 3) := by decide +kernel
theorem dX3_countLikings_12 : decode cX3_countLikings 12 = .ok (.if_icmp .ge 24, 3) := by decide +kernel
theorem dX3_countLikings_15 : decode cX3_countLikings 15 = .ok (.iload_n 1, 1) := by decide +kernel
theorem dX3_countLikings_16 : decode cX3_countLikings 16 = .ok (.aload_n 0, 1) := by decide +kernel
theorem dX3_countLikings_17 : decode cX3_countLikings 17 = .ok (.getfield 12, 3) := by decide +kernel
theorem dX3_countLikings_20 : decode cX3_countLikings 20 = .ok (.getfield 122, 3) := by decide +kernel
theorem dX3_countLikings_23 : decode cX3_countLikings 23 = .ok (.iload_n 2, 1) := by decide +kernel
theorem dX3_countLikings_24 : decode cX3_countLikings 24 = .ok (.iaload, 1) := by decide +kernel
theorem dX3_countLikings_25 : decode cX3_countLikings 25 = .ok (.invokestatic 98, 3) := by decide +kernel
theorem dX3_countLikings_28 : decode cX3_countLikings 28 = .ok (.iadd, 1) := by decide +kernel
theorem dX3_countLikings_29 : decode cX3_countLikings 29 = .ok (.istore_n 1, 1) := by decide +kernel
theorem dX3_countLikings_30 : decode cX3_countLikings 30 = .ok (.iinc 2 1, 3) := by decide +kernel
theorem dX3_countLikings_33 : decode cX3_countLikings 33 = .ok (.goto (-29), 3) := by decide +kernel
theorem dX3_countLikings_36 : decode cX3_countLikings 36 = .ok (.iload_n 1, 1) := by decide +kernel
theorem dX3_countLikings_37 : decode cX3_countLikings 37 = .ok (.ireturn, 1) := by decide +kernel
theorem dX11_init_0 : decode cX11_init 0 = .ok (.aload_n 0, 1) := by decide +kernel
theorem dX11_init_1 : decode cX11_init 1 = .ok (.invokespecial 1, 3) := by decide +kernel
theorem dX11_init_4 : decode cX11_init 4 = .ok (.aload_n 0, 1) := by decide +kernel
theorem dX11_init_5 : decode cX11_init 5 = .ok (.new 7, 3) := by decide +kernel
theorem dX11_init_8 : decode cX11_init 8 = .ok (.dup, 1) := by decide +kernel
theorem dX11_init_9 : decode cX11_init 9 = .ok (.invokespecial 9, 3) := by decide +kernel
theorem dX11_init_12 : decode cX11_init 12 = .ok (.putfield 10, 3) := by decide +kernel
theorem dX11_init_15 : decode cX11_init 15 = .ok (.aload_n 0, 1) := by decide +kernel
theorem dX11_init_16 : decode cX11_init 16 = .ok (.iconst 3, 1) := by decide +kernel
theorem dX11_init_17 : decode cX11_init 17 = .ok (.anewarray 7, 3) := by decide +kernel
theorem dX11_init_20 : decode cX11_init 20 = .ok (.putfield 16, 3) := by decide +kernel
theorem dX11_init_23 : decode cX11_init 23 = .ok (.aload_n 0, 1) := by decide +kernel
theorem dX11_init_24 : decode cX11_init 24 = .ok (.new 20, 3) := by decide +kernel
theorem dX11_init_27 : decode cX11_init 27 = .ok (.dup, 1) := by decide +kernel
theorem dX11_init_28 : decode cX11_init 28 = .ok (.invokespecial 22, 3) := by decide +kernel
theorem dX11_init_31 : decode cX11_init 31 = .ok (.putfield 23, 3) := by decide +kernel
theorem dX11_init_34 : decode cX11_init 34 = .ok (.aload_n 0, 1) := by decide +kernel
theorem dX11_init_35 : decode cX11_init 35 = .ok (.new 27, 3) := by decide +kernel
theorem dX11_init_38 : decode cX11_init 38 = .ok (.dup, 1) := by decide +kernel
theorem dX11_init_39 : decode cX11_init 39 = .ok (.invokespecial 29, 3) := by decide +kernel
theorem dX11_init_42 : decode cX11_init 42 = .ok (.putfield 30, 3) := by decide +kernel
theorem dX11_init_45 : decode cX11_init 45 = .ok (.aload_n 0, 1) := by decide +kernel
theorem dX11_init_46 : decode cX11_init 46 = .ok (.new 34, 3) := by decide +kernel
theorem dX11_init_49 : decode cX11_init 49 = .ok (.dup, 1) := by decide +kernel
theorem dX11_init_50 : decode cX11_init 50 = .ok (.invokespecial 36, 3) := by decide +kernel
theorem dX11_init_53 : decode cX11_init 53 = .ok (.putfield 37, 3) := by decide +kernel
theorem dX11_init_56 : decode cX11_init 56 = .ok (.aload_n 0, 1) := by decide +kernel
theorem dX11_init_57 : decode cX11_init 57 = .ok (.new 41, 3) := by decide +kernel
theorem dX11_init_60 : decode cX11_init 60 = .ok (.dup, 1) := by decide +kernel
theorem dX11_init_61 : decode cX11_init 61 = .ok (.invokespecial 43, 3) := by decide +kernel
theorem dX11_init_64 : decode cX11_init 64 = .ok (.putfield 44, 3) := by decide +kernel
theorem dX11_init_67 : decode cX11_init 67 = .ok (.aload_n 0, 1) := by decide +kernel
theorem dX11_init_68 : decode cX11_init 68 = .ok (.new 48, 3) := by decide +kernel
theorem dX11_init_71 : decode cX11_init 71 = .ok (.dup, 1) := by decide +kernel
theorem dX11_init_72 : decode cX11_init 72 = .ok (.invokespecial 50, 3) := by decide +kernel
theorem dX11_init_75 : decode cX11_init 75 = .ok (.putfield 51, 3) := by decide +kernel
theorem dX11_init_78 : decode cX11_init 78 = .ok (.aload_n 0, 1) := by decide +kernel
theorem dX11_init_79 : decode cX11_init 79 = .ok (.new 55, 3) := by decide +kernel
theorem dX11_init_82 : decode cX11_init 82 = .ok (.dup, 1) := by decide +kernel
theorem dX11_init_83 : decode cX11_init 83 = .ok (.invokespecial 57, 3) := by decide +kernel
theorem dX11_init_86 : decode cX11_init 86 = .ok (.putfield 58, 3) := by decide +kernel
theorem dX11_init_89 : decode cX11_init 89 = .ok (.aload_n 0, 1) := by decide +kernel
theorem dX11_init_90 : decode cX11_init 90 = .ok (.new 62, 3) := by decide +kernel
theorem dX11_init_93 : decode cX11_init 93 = .ok (.dup, 1) := by decide +kernel
theorem dX11_init_94 : decode cX11_init 94 = .ok (.invokespecial 64, 3) := by decide +kernel
theorem dX11_init_97 : decode cX11_init 97 = .ok (.putfield 65, 3) := by decide +kernel
theorem dX11_init_100 : decode cX11_init 100 = .ok (.return_, 1) := by decide +kernel
theorem dX11_feed_0 : decode cX11_feed 0 = .ok (.aload_n 0, 1) := by decide +kernel
theorem dX11_feed_1 : decode cX11_feed 1 = .ok (.getfield 10, 3) := by decide +kernel
theorem dX11_feed_4 : decode cX11_feed 4 = .ok (.getfield 69, 3) := by decide +kernel
theorem dX11_feed_7 : decode cX11_feed 7 = .ok (.bipush 20, 2) := by decide +kernel
theorem dX11_feed_9 : decode cX11_feed 9 = .ok (.iadd, 1) := by decide +kernel
theorem dX11_feed_10 : decode cX11_feed 10 = .ok (.sipush 600, 3) := by decide +kernel
theorem dX11_feed_13 : decode cX11_feed 13 = .ok (.if_icmp .le 5, 3) := by decide +kernel
theorem dX11_feed_16 : decode cX11_feed 16 = .ok (.iconst (-1), 1) := by decide +kernel
theorem dX11_feed_17 : decode cX11_feed 17 = .ok (.ireturn, 1) := by decide +kernel
theorem dX11_feed_18 : decode cX11_feed 18 = .ok (.aload_n 0, 1) := by decide +kernel
theorem dX11_feed_19 : decode cX11_feed 19 = .ok (.getfield 10, 3) := by decide +kernel
theorem dX11_feed_22 : decode cX11_feed 22 = .ok (.iload_n 1, 1) := by decide +kernel
theorem dX11_feed_23 : decode cX11_feed 23 = .ok (.invokevirtual 73, 3) := by decide +kernel
theorem dX11_feed_26 : decode cX11_feed 26 = .ok (.aload_n 0, 1) := by decide +kernel
theorem dX11_feed_27 : decode cX11_feed 27 = .ok (.getfield 10, 3) := by decide +kernel
theorem dX11_feed_30 : decode cX11_feed 30 = .ok (.iload_n 2, 1) := by decide +kernel
theorem dX11_feed_31 : decode cX11_feed 31 = .ok (.invokevirtual 73, 3) := by decide +kernel
theorem dX11_feed_34 : decode cX11_feed 34 = .ok (.aload_n 0, 1) := by decide +kernel
theorem dX11_feed_35 : decode cX11_feed 35 = .ok (.getfield 10, 3) := by decide +kernel
theorem dX11_feed_38 : decode cX11_feed 38 = .ok (.iload_n 3, 1) := by decide +kernel
theorem dX11_feed_39 : decode cX11_feed 39 = .ok (.invokevirtual 73, 3) := by decide +kernel
theorem dX11_feed_42 : decode cX11_feed 42 = .ok (.aload_n 0, 1) := by decide +kernel
theorem dX11_feed_43 : decode cX11_feed 43 = .ok (.getfield 10, 3) := by decide +kernel
theorem dX11_feed_46 : decode cX11_feed 46 = .ok (.iload 4, 2) := by decide +kernel
theorem dX11_feed_48 : decode cX11_feed 48 = .ok (.invokevirtual 73, 3) := by decide +kernel
theorem dX11_feed_51 : decode cX11_feed 51 = .ok (.aload_n 0, 1) := by decide +kernel
theorem dX11_feed_52 : decode cX11_feed 52 = .ok (.getfield 10, 3) := by decide +kernel
theorem dX11_feed_55 : decode cX11_feed 55 = .ok (.iload 5, 2) := by decide +kernel
theorem dX11_feed_57 : decode cX11_feed 57 = .ok (.invokevirtual 73, 3) := by decide +kernel
theorem dX11_feed_60 : decode cX11_feed 60 = .ok (.aload_n 0, 1) := by decide +kernel
theorem dX11_feed_61 : decode cX11_feed 61 = .ok (.getfield 10, 3) := by decide +kernel
theorem dX11_feed_64 : decode cX11_feed 64 = .ok (.getfield 69, 3) := by decide +kernel
theorem dX11_feed_67 : decode cX11_feed 67 = .ok (.ireturn, 1) := by decide +kernel
theorem dX11_end_0 : decode cX11_end 0 = .ok (.iload_n 1, 1) := by decide +kernel
theorem dX11_end_1 : decode cX11_end 1 = .ok (.ifCond .lt 14, 3) := by decide +kernel
theorem dX11_end_4 : decode cX11_end 4 = .ok (.iload_n 1, 1) := by decide +kernel
theorem dX11_end_5 : decode cX11_end 5 = .ok (.aload_n 0, 1) := by decide +kernel
theorem dX11_end_6 : decode cX11_end 6 = .ok (.getfield 10, 3) := by decide +kernel
theorem dX11_end_9 : decode cX11_end 9 = .ok (.getfield 69, 3) := by decide +kernel
theorem dX11_end_12 : decode cX11_end 12 = .ok (.if_icmp .le 5, 3) := by decide +kernel
theorem dX11_end_15 : decode cX11_end 15 = .ok (.iconst (-1), 1) := by decide +kernel
theorem dX11_end_16 : decode cX11_end 16 = .ok (.ireturn, 1) := by decide +kernel
theorem dX11_end_17 : decode cX11_end 17 = .ok (.aload_n 0, 1) := by decide +kernel
theorem dX11_end_18 : decode cX11_end 18 = .ok (.getfield 10, 3) := by decide +kernel
theorem dX11_end_21 : decode cX11_end 21 = .ok (.iload_n 1, 1) := by decide +kernel
theorem dX11_end_22 : decode cX11_end 22 = .ok (.putfield 69, 3) := by decide +kernel
theorem dX11_end_25 : decode cX11_end 25 = .ok (.iload_n 1, 1) := by decide +kernel
theorem dX11_end_26 : decode cX11_end 26 = .ok (.ireturn, 1) := by decide +kernel
theorem dX11_text_0 : decode cX11_text 0 = .ok (.aload_n 0, 1) := by decide +kernel
theorem dX11_text_1 : decode cX11_text 1 = .ok (.getfield 10, 3) := by decide +kernel
theorem dX11_text_4 : decode cX11_text 4 = .ok (.getfield 69, 3) := by decide +kernel
theorem dX11_text_7 : decode cX11_text 7 = .ok (.istore_n 3, 1) := by decide +kernel
theorem dX11_text_8 : decode cX11_text 8 = .ok (.aload_n 0, 1) := by decide +kernel
theorem dX11_text_9 : decode cX11_text 9 = .ok (.getfield 10, 3) := by decide +kernel
theorem dX11_text_12 : decode cX11_text 12 = .ok (.iload_n 1, 1) := by decide +kernel
theorem dX11_text_13 : decode cX11_text 13 = .ok (.iload_n 2, 1) := by decide +kernel
theorem dX11_text_14 : decode cX11_text 14 = .ok (.invokevirtual 77, 3) := by decide +kernel
theorem dX11_text_17 : decode cX11_text 17 = .ok (.istore 4, 2) := by decide +kernel
theorem dX11_text_19 : decode cX11_text 19 = .ok (.aload_n 0, 1) := by decide +kernel
theorem dX11_text_20 : decode cX11_text 20 = .ok (.getfield 10, 3) := by decide +kernel
theorem dX11_text_23 : decode cX11_text 23 = .ok (.iconst 0, 1) := by decide +kernel
theorem dX11_text_24 : decode cX11_text 24 = .ok (.putfield 69, 3) := by decide +kernel
theorem dX11_text_27 : decode cX11_text 27 = .ok (.aload_n 0, 1) := by decide +kernel
theorem dX11_text_28 : decode cX11_text 28 = .ok (.getfield 10, 3) := by decide +kernel
theorem dX11_text_31 : decode cX11_text 31 = .ok (.iconst 0, 1) := by decide +kernel
theorem dX11_text_32 : decode cX11_text 32 = .ok (.putfield 81, 3) := by decide +kernel
theorem dX11_text_35 : decode cX11_text 35 = .ok (.aload_n 0, 1) := by decide +kernel
theorem dX11_text_36 : decode cX11_text 36 = .ok (.getfield 10, 3) := by decide +kernel
theorem dX11_text_39 : decode cX11_text 39 = .ok (.iconst (-1), 1) := by decide +kernel
theorem dX11_text_40 : decode cX11_text 40 = .ok (.putfield 84, 3) := by decide +kernel
theorem dX11_text_43 : decode cX11_text 43 = .ok (.iload 4, 2) := by decide +kernel
theorem dX11_text_45 : decode cX11_text 45 = .ok (.ifCond .ge 6, 3) := by decide +kernel
theorem dX11_text_48 : decode cX11_text 48 = .ok (.bipush (-2), 2) := by decide +kernel
theorem dX11_text_50 : decode cX11_text 50 = .ok (.ireturn, 1) := by decide +kernel
theorem dX11_text_51 : decode cX11_text 51 = .ok (.aload_n 0, 1) := by decide +kernel
theorem dX11_text_52 : decode cX11_text 52 = .ok (.getfield 23, 3) := by decide +kernel
theorem dX11_text_55 : decode cX11_text 55 = .ok (.aload_n 0, 1) := by decide +kernel
theorem dX11_text_56 : decode cX11_text 56 = .ok (.getfield 10, 3) := by decide +kernel
theorem dX11_text_59 : decode cX11_text 59 = .ok (.getfield 87, 3) := by decide +kernel
theorem dX11_text_62 : decode cX11_text 62 = .ok (.iload_n 3, 1) := by decide +kernel
theorem dX11_text_63 : decode cX11_text 63 = .ok (.iload_n 1, 1) := by decide +kernel
theorem dX11_text_64 : decode cX11_text 64 = .ok (.invokevirtual 91, 3) := by decide +kernel
theorem dX11_text_67 : decode cX11_text 67 = .ok (.aload_n 0, 1) := by decide +kernel
theorem dX11_text_68 : decode cX11_text 68 = .ok (.getfield 10, 3) := by decide +kernel
theorem dX11_text_71 : decode cX11_text 71 = .ok (.aload_n 0, 1) := by decide +kernel
theorem dX11_text_72 : decode cX11_text 72 = .ok (.getfield 23, 3) := by decide +kernel
theorem dX11_text_75 : decode cX11_text 75 = .ok (.getfield 95, 3) := by decide +kernel
theorem dX11_text_78 : decode cX11_text 78 = .ok (.putfield 81, 3) := by decide +kernel
theorem dX11_text_81 : decode cX11_text 81 = .ok (.aload_n 0, 1) := by decide +kernel
theorem dX11_text_82 : decode cX11_text 82 = .ok (.getfield 10, 3) := by decide +kernel
theorem dX11_text_85 : decode cX11_text 85 = .ok (.aload_n 0, 1) := by decide +kernel
theorem dX11_text_86 : decode cX11_text 86 = .ok (.getfield 23, 3) := by decide +kernel
theorem dX11_text_89 : decode cX11_text 89 = .ok (.getfield 96, 3) := by decide +kernel
theorem dX11_text_92 : decode cX11_text 92 = .ok (.putfield 84, 3) := by decide +kernel
theorem dX11_text_95 : decode cX11_text 95 = .ok (.aload_n 0, 1) := by decide +kernel
theorem dX11_text_96 : decode cX11_text 96 = .ok (.getfield 23, 3) := by decide +kernel
theorem dX11_text_99 : decode cX11_text 99 = .ok (.getfield 95, 3) := by decide +kernel
theorem dX11_text_102 : decode cX11_text 102 = .ok (.ifCond .eq 5, 3) := by decide +kernel
theorem dX11_text_105 : decode cX11_text 105 = .ok (.iconst (-1), 1) := by decide +kernel
theorem dX11_text_106 : decode cX11_text 106 = .ok (.ireturn, 1) := by decide +kernel
theorem dX11_text_107 : decode cX11_text 107 = .ok (.aload_n 0, 1) := by decide +kernel
theorem dX11_text_108 : decode cX11_text 108 = .ok (.getfield 10, 3) := by decide +kernel
theorem dX11_text_111 : decode cX11_text 111 = .ok (.iload_n 1, 1) := by decide +kernel
theorem dX11_text_112 : decode cX11_text 112 = .ok (.iload 4, 2) := by decide +kernel
theorem dX11_text_114 : decode cX11_text 114 = .ok (.aload_n 0, 1) := by decide +kernel
theorem dX11_text_115 : decode cX11_text 115 = .ok (.getfield 23, 3) := by decide +kernel
theorem dX11_text_118 : decode cX11_text 118 = .ok (.getfield 97, 3) := by decide +kernel
theorem dX11_text_121 : decode cX11_text 121 = .ok (.invokevirtual 101, 3) := by decide +kernel
theorem dX11_text_124 : decode cX11_text 124 = .ok (.iload 4, 2) := by decide +kernel
theorem dX11_text_126 : decode cX11_text 126 = .ok (.ireturn, 1) := by decide +kernel
theorem dX11_fault_0 : decode cX11_fault 0 = .ok (.iload_n 1, 1) := by decide +kernel
theorem dX11_fault_1 : decode cX11_fault 1 = .ok (.ifCond .ne 11, 3) := by decide +kernel
theorem dX11_fault_4 : decode cX11_fault 4 = .ok (.aload_n 0, 1) := by decide +kernel
theorem dX11_fault_5 : decode cX11_fault 5 = .ok (.getfield 10, 3) := by decide +kernel
theorem dX11_fault_8 : decode cX11_fault 8 = .ok (.getfield 81, 3) := by decide +kernel
theorem dX11_fault_11 : decode cX11_fault 11 = .ok (.ireturn, 1) := by decide +kernel
theorem dX11_fault_12 : decode cX11_fault 12 = .ok (.iload_n 1, 1) := by decide +kernel
theorem dX11_fault_13 : decode cX11_fault 13 = .ok (.iconst 1, 1) := by decide +kernel
theorem dX11_fault_14 : decode cX11_fault 14 = .ok (.if_icmp .ne 13, 3) := by decide +kernel
theorem dX11_fault_17 : decode cX11_fault 17 = .ok (.aload_n 0, 1) := by decide +kernel
theorem dX11_fault_18 : decode cX11_fault 18 = .ok (.getfield 10, 3) := by decide +kernel
theorem dX11_fault_21 : decode cX11_fault 21 = .ok (.getfield 84, 3) := by decide +kernel
theorem dX11_fault_24 : decode cX11_fault 24 = .ok (.goto 4, 3) := by decide +kernel
theorem dX11_fault_27 : decode cX11_fault 27 = .ok (.iconst (-1), 1) := by decide +kernel
theorem dX11_fault_28 : decode cX11_fault 28 = .ok (.ireturn, 1) := by decide +kernel
theorem dX11_county_0 : decode cX11_county 0 = .ok (.aload_n 0, 1) := by decide +kernel
theorem dX11_county_1 : decode cX11_county 1 = .ok (.getfield 10, 3) := by decide +kernel
theorem dX11_county_4 : decode cX11_county 4 = .ok (.iload_n 1, 1) := by decide +kernel
theorem dX11_county_5 : decode cX11_county 5 = .ok (.invokevirtual 105, 3) := by decide +kernel
theorem dX11_county_8 : decode cX11_county 8 = .ok (.astore_n 3, 1) := by decide +kernel
theorem dX11_county_9 : decode cX11_county 9 = .ok (.aload_n 3, 1) := by decide +kernel
theorem dX11_county_10 : decode cX11_county 10 = .ok (.ifnonnull 7, 3) := by decide +kernel
theorem dX11_county_13 : decode cX11_county 13 = .ok (.iconst (-1), 1) := by decide +kernel
theorem dX11_county_14 : decode cX11_county 14 = .ok (.goto 8, 3) := by decide +kernel
theorem dX11_county_17 : decode cX11_county 17 = .ok (.aload_n 3, 1) := by decide +kernel
theorem dX11_county_18 : decode cX11_county 18 = .ok (.iload_n 2, 1) := by decide +kernel
theorem dX11_county_19 : decode cX11_county 19 = .ok (.invokevirtual 109, 3) := by decide +kernel
theorem dX11_county_22 : decode cX11_county 22 = .ok (.ireturn, 1) := by decide +kernel
theorem dX11_deed_0 : decode cX11_deed 0 = .ok (.aload_n 0, 1) := by decide +kernel
theorem dX11_deed_1 : decode cX11_deed 1 = .ok (.getfield 10, 3) := by decide +kernel
theorem dX11_deed_4 : decode cX11_deed 4 = .ok (.iconst 1, 1) := by decide +kernel
theorem dX11_deed_5 : decode cX11_deed 5 = .ok (.iload_n 1, 1) := by decide +kernel
theorem dX11_deed_6 : decode cX11_deed 6 = .ok (.invokevirtual 115, 3) := by decide +kernel
theorem dX11_deed_9 : decode cX11_deed 9 = .ok (.iload_n 2, 1) := by decide +kernel
theorem dX11_deed_10 : decode cX11_deed 10 = .ok (.iload_n 3, 1) := by decide +kernel
theorem dX11_deed_11 : decode cX11_deed 11 = .ok (.iload_n 3, 1) := by decide +kernel
theorem dX11_deed_12 : decode cX11_deed 12 = .ok (.iconst 4, 1) := by decide +kernel
theorem dX11_deed_13 : decode cX11_deed 13 = .ok (.invokestatic 119, 3) := by decide +kernel
theorem dX11_deed_16 : decode cX11_deed 16 = .ok (.ireturn, 1) := by decide +kernel
theorem dX11_stop_0 : decode cX11_stop 0 = .ok (.aload_n 0, 1) := by decide +kernel
theorem dX11_stop_1 : decode cX11_stop 1 = .ok (.getfield 10, 3) := by decide +kernel
theorem dX11_stop_4 : decode cX11_stop 4 = .ok (.iload_n 1, 1) := by decide +kernel
theorem dX11_stop_5 : decode cX11_stop 5 = .ok (.invokevirtual 105, 3) := by decide +kernel
theorem dX11_stop_8 : decode cX11_stop 8 = .ok (.astore_n 3, 1) := by decide +kernel
theorem dX11_stop_9 : decode cX11_stop 9 = .ok (.aload_n 0, 1) := by decide +kernel
theorem dX11_stop_10 : decode cX11_stop 10 = .ok (.getfield 10, 3) := by decide +kernel
theorem dX11_stop_13 : decode cX11_stop 13 = .ok (.iconst 1, 1) := by decide +kernel
theorem dX11_stop_14 : decode cX11_stop 14 = .ok (.iload_n 2, 1) := by decide +kernel
theorem dX11_stop_15 : decode cX11_stop 15 = .ok (.invokevirtual 115, 3) := by decide +kernel
theorem dX11_stop_18 : decode cX11_stop 18 = .ok (.astore 4, 2) := by decide +kernel
theorem dX11_stop_20 : decode cX11_stop 20 = .ok (.aload_n 3, 1) := by decide +kernel
theorem dX11_stop_21 : decode cX11_stop 21 = .ok (.ifnull 8, 3) := by decide +kernel
theorem dX11_stop_24 : decode cX11_stop 24 = .ok (.aload 4, 2) := by decide +kernel
theorem dX11_stop_26 : decode cX11_stop 26 = .ok (.ifnonnull 5, 3) := by decide +kernel
theorem dX11_stop_29 : decode cX11_stop 29 = .ok (.iconst (-1), 1) := by decide +kernel
theorem dX11_stop_30 : decode cX11_stop 30 = .ok (.ireturn, 1) := by decide +kernel
theorem dX11_stop_31 : decode cX11_stop 31 = .ok (.aload_n 0, 1) := by decide +kernel
theorem dX11_stop_32 : decode cX11_stop 32 = .ok (.getfield 30, 3) := by decide +kernel
theorem dX11_stop_35 : decode cX11_stop 35 = .ok (.aload_n 3, 1) := by decide +kernel
theorem dX11_stop_36 : decode cX11_stop 36 = .ok (.aload 4, 2) := by decide +kernel
theorem dX11_stop_38 : decode cX11_stop 38 = .ok (.aload 4, 2) := by decide +kernel
theorem dX11_stop_40 : decode cX11_stop 40 = .ok (.getfield 123, 3) := by decide +kernel
theorem dX11_stop_43 : decode cX11_stop 43 = .ok (.invokevirtual 128, 3) := by decide +kernel
theorem dX11_stop_46 : decode cX11_stop 46 = .ok (.ireturn, 1) := by decide +kernel
theorem dX11_state_0 : decode cX11_state 0 = .ok (.aload_n 0, 1) := by decide +kernel
theorem dX11_state_1 : decode cX11_state 1 = .ok (.getfield 10, 3) := by decide +kernel
theorem dX11_state_4 : decode cX11_state 4 = .ok (.iload_n 1, 1) := by decide +kernel
theorem dX11_state_5 : decode cX11_state 5 = .ok (.invokevirtual 105, 3) := by decide +kernel
theorem dX11_state_8 : decode cX11_state 8 = .ok (.astore 5, 2) := by decide +kernel
theorem dX11_state_10 : decode cX11_state 10 = .ok (.aload_n 0, 1) := by decide +kernel
theorem dX11_state_11 : decode cX11_state 11 = .ok (.getfield 10, 3) := by decide +kernel
theorem dX11_state_14 : decode cX11_state 14 = .ok (.iconst 1, 1) := by decide +kernel
theorem dX11_state_15 : decode cX11_state 15 = .ok (.iload_n 2, 1) := by decide +kernel
theorem dX11_state_16 : decode cX11_state 16 = .ok (.invokevirtual 115, 3) := by decide +kernel
theorem dX11_state_19 : decode cX11_state 19 = .ok (.astore 6, 2) := by decide +kernel
theorem dX11_state_21 : decode cX11_state 21 = .ok (.aload 5, 2) := by decide +kernel
theorem dX11_state_23 : decode cX11_state 23 = .ok (.ifnull 21, 3) := by decide +kernel
theorem dX11_state_26 : decode cX11_state 26 = .ok (.aload 6, 2) := by decide +kernel
theorem dX11_state_28 : decode cX11_state 28 = .ok (.ifnull 16, 3) := by decide +kernel
theorem dX11_state_31 : decode cX11_state 31 = .ok (.iload_n 3, 1) := by decide +kernel
theorem dX11_state_32 : decode cX11_state 32 = .ok (.ifCond .lt 12, 3) := by decide +kernel
theorem dX11_state_35 : decode cX11_state 35 = .ok (.iload_n 3, 1) := by decide +kernel
theorem dX11_state_36 : decode cX11_state 36 = .ok (.aload 6, 2) := by decide +kernel
theorem dX11_state_38 : decode cX11_state 38 = .ok (.getfield 123, 3) := by decide +kernel
theorem dX11_state_41 : decode cX11_state 41 = .ok (.if_icmp .le 5, 3) := by decide +kernel
theorem dX11_state_44 : decode cX11_state 44 = .ok (.iconst (-1), 1) := by decide +kernel
theorem dX11_state_45 : decode cX11_state 45 = .ok (.ireturn, 1) := by decide +kernel
theorem dX11_state_46 : decode cX11_state 46 = .ok (.aload_n 0, 1) := by decide +kernel
theorem dX11_state_47 : decode cX11_state 47 = .ok (.getfield 30, 3) := by decide +kernel
theorem dX11_state_50 : decode cX11_state 50 = .ok (.aload 5, 2) := by decide +kernel
theorem dX11_state_52 : decode cX11_state 52 = .ok (.aload 6, 2) := by decide +kernel
theorem dX11_state_54 : decode cX11_state 54 = .ok (.iload_n 3, 1) := by decide +kernel
theorem dX11_state_55 : decode cX11_state 55 = .ok (.invokevirtual 128, 3) := by decide +kernel
theorem dX11_state_58 : decode cX11_state 58 = .ok (.iload_n 3, 1) := by decide +kernel
theorem dX11_state_59 : decode cX11_state 59 = .ok (.if_icmp .ne 15, 3) := by decide +kernel
theorem dX11_state_62 : decode cX11_state 62 = .ok (.aload_n 0, 1) := by decide +kernel
theorem dX11_state_63 : decode cX11_state 63 = .ok (.getfield 30, 3) := by decide +kernel
theorem dX11_state_66 : decode cX11_state 66 = .ok (.iload 4, 2) := by decide +kernel
theorem dX11_state_68 : decode cX11_state 68 = .ok (.invokevirtual 132, 3) := by decide +kernel
theorem dX11_state_71 : decode cX11_state 71 = .ok (.goto 4, 3) := by decide +kernel
theorem dX11_state_74 : decode cX11_state 74 = .ok (.iconst (-1), 1) := by decide +kernel
theorem dX11_state_75 : decode cX11_state 75 = .ok (.ireturn, 1) := by decide +kernel
theorem dX11_keeps_0 : decode cX11_keeps 0 = .ok (.aload_n 0, 1) := by decide +kernel
theorem dX11_keeps_1 : decode cX11_keeps 1 = .ok (.iload_n 1, 1) := by decide +kernel
theorem dX11_keeps_2 : decode cX11_keeps 2 = .ok (.invokevirtual 133, 3) := by decide +kernel
theorem dX11_keeps_5 : decode cX11_keeps 5 = .ok (.astore 4, 2) := by decide +kernel
theorem dX11_keeps_7 : decode cX11_keeps 7 = .ok (.aload 4, 2) := by decide +kernel
theorem dX11_keeps_9 : decode cX11_keeps 9 = .ok (.ifnull 12, 3) := by decide +kernel
theorem dX11_keeps_12 : decode cX11_keeps 12 = .ok (.aload 4, 2) := by decide +kernel
theorem dX11_keeps_14 : decode cX11_keeps 14 = .ok (.iload_n 2, 1) := by decide +kernel
theorem dX11_keeps_15 : decode cX11_keeps 15 = .ok (.invokevirtual 137, 3) := by decide +kernel
theorem dX11_keeps_18 : decode cX11_keeps 18 = .ok (.ifCond .ne 6, 3) := by decide +kernel
theorem dX11_keeps_21 : decode cX11_keeps 21 = .ok (.bipush (-99), 2) := by decide +kernel
theorem dX11_keeps_23 : decode cX11_keeps 23 = .ok (.ireturn, 1) := by decide +kernel
theorem dX11_keeps_24 : decode cX11_keeps 24 = .ok (.iload_n 3, 1) := by decide +kernel
theorem dX11_keeps_25 : decode cX11_keeps 25 = .ok (.tableswitch 86 0 5 #[39, 46, 54, 61, 72, 79], 39) := by decide +kernel
theorem dX11_keeps_64 : decode cX11_keeps 64 = .ok (.aload 4, 2) := by decide +kernel
theorem dX11_keeps_66 : decode cX11_keeps 66 = .ok (.iload_n 2, 1) := by decide +kernel
theorem dX11_keeps_67 : decode cX11_keeps 67 = .ok (.invokevirtual 143, 3) := by decide +kernel
theorem dX11_keeps_70 : decode cX11_keeps 70 = .ok (.ireturn, 1) := by decide +kernel
theorem dX11_keeps_71 : decode cX11_keeps 71 = .ok (.aload 4, 2) := by decide +kernel
theorem dX11_keeps_73 : decode cX11_keeps 73 = .ok (.iload_n 2, 1) := by decide +kernel
theorem dX11_keeps_74 : decode cX11_keeps 74 = .ok (.iconst 0, 1) := by decide +kernel
theorem dX11_keeps_75 : decode cX11_keeps 75 = .ok (.invokevirtual 146, 3) := by decide +kernel
theorem dX11_keeps_78 : decode cX11_keeps 78 = .ok (.ireturn, 1) := by decide +kernel
theorem dX11_keeps_79 : decode cX11_keeps 79 = .ok (.aload 4, 2) := by decide +kernel
theorem dX11_keeps_81 : decode cX11_keeps 81 = .ok (.iload_n 2, 1) := by decide +kernel
theorem dX11_keeps_82 : decode cX11_keeps 82 = .ok (.invokevirtual 149, 3) := by decide +kernel
theorem dX11_keeps_85 : decode cX11_keeps 85 = .ok (.ireturn, 1) := by decide +kernel
theorem dX11_keeps_86 : decode cX11_keeps 86 = .ok (.aload_n 0, 1) := by decide +kernel
theorem dX11_keeps_87 : decode cX11_keeps 87 = .ok (.getfield 44, 3) := by decide +kernel
theorem dX11_keeps_90 : decode cX11_keeps 90 = .ok (.aload 4, 2) := by decide +kernel
theorem dX11_keeps_92 : decode cX11_keeps 92 = .ok (.iload_n 2, 1) := by decide +kernel
theorem dX11_keeps_93 : decode cX11_keeps 93 = .ok (.invokevirtual 152, 3) := by decide +kernel
theorem dX11_keeps_96 : decode cX11_keeps 96 = .ok (.ireturn, 1) := by decide +kernel
theorem dX11_keeps_97 : decode cX11_keeps 97 = .ok (.aload 4, 2) := by decide +kernel
theorem dX11_keeps_99 : decode cX11_keeps 99 = .ok (.iload_n 2, 1) := by decide +kernel
theorem dX11_keeps_100 : decode cX11_keeps 100 = .ok (.invokestatic 156, 3) := by decide +kernel
theorem dX11_keeps_103 : decode cX11_keeps 103 = .ok (.ireturn, 1) := by decide +kernel
theorem dX11_keeps_104 : decode cX11_keeps 104 = .ok (.aload 4, 2) := by decide +kernel
theorem dX11_keeps_106 : decode cX11_keeps 106 = .ok (.iload_n 2, 1) := by decide +kernel
theorem dX11_keeps_107 : decode cX11_keeps 107 = .ok (.invokestatic 159, 3) := by decide +kernel
theorem dX11_keeps_110 : decode cX11_keeps 110 = .ok (.ireturn, 1) := by decide +kernel
theorem dX11_keeps_111 : decode cX11_keeps 111 = .ok (.bipush (-99), 2) := by decide +kernel
theorem dX11_keeps_113 : decode cX11_keeps 113 = .ok (.ireturn, 1) := by decide +kernel
theorem dX11_heart_0 : decode cX11_heart 0 = .ok (.aload_n 0, 1) := by decide +kernel
theorem dX11_heart_1 : decode cX11_heart 1 = .ok (.iload_n 1, 1) := by decide +kernel
theorem dX11_heart_2 : decode cX11_heart 2 = .ok (.invokevirtual 133, 3) := by decide +kernel
theorem dX11_heart_5 : decode cX11_heart 5 = .ok (.astore 4, 2) := by decide +kernel
theorem dX11_heart_7 : decode cX11_heart 7 = .ok (.aload 4, 2) := by decide +kernel
theorem dX11_heart_9 : decode cX11_heart 9 = .ok (.ifnull 13, 3) := by decide +kernel
theorem dX11_heart_12 : decode cX11_heart 12 = .ok (.aload 4, 2) := by decide +kernel
theorem dX11_heart_14 : decode cX11_heart 14 = .ok (.iload_n 2, 1) := by decide +kernel
theorem dX11_heart_15 : decode cX11_heart 15 = .ok (.iload_n 3, 1) := by decide +kernel
theorem dX11_heart_16 : decode cX11_heart 16 = .ok (.invokevirtual 162, 3) := by decide +kernel
theorem dX11_heart_19 : decode cX11_heart 19 = .ok (.ifCond .ne 5, 3) := by decide +kernel
theorem dX11_heart_22 : decode cX11_heart 22 = .ok (.iconst (-1), 1) := by decide +kernel
theorem dX11_heart_23 : decode cX11_heart 23 = .ok (.ireturn, 1) := by decide +kernel
theorem dX11_heart_24 : decode cX11_heart 24 = .ok (.aload 4, 2) := by decide +kernel
theorem dX11_heart_26 : decode cX11_heart 26 = .ok (.iload_n 2, 1) := by decide +kernel
theorem dX11_heart_27 : decode cX11_heart 27 = .ok (.iload_n 3, 1) := by decide +kernel
theorem dX11_heart_28 : decode cX11_heart 28 = .ok (.invokevirtual 166, 3) := by decide +kernel
theorem dX11_heart_31 : decode cX11_heart 31 = .ok (.ireturn, 1) := by decide +kernel
theorem dX11_fall_0 : decode cX11_fall 0 = .ok (.aload_n 0, 1) := by decide +kernel
theorem dX11_fall_1 : decode cX11_fall 1 = .ok (.iload_n 1, 1) := by decide +kernel
theorem dX11_fall_2 : decode cX11_fall 2 = .ok (.invokevirtual 133, 3) := by decide +kernel
theorem dX11_fall_5 : decode cX11_fall 5 = .ok (.astore_n 3, 1) := by decide +kernel
theorem dX11_fall_6 : decode cX11_fall 6 = .ok (.aload_n 3, 1) := by decide +kernel
theorem dX11_fall_7 : decode cX11_fall 7 = .ok (.ifnonnull 6, 3) := by decide +kernel
theorem dX11_fall_10 : decode cX11_fall 10 = .ok (.bipush (-2), 2) := by decide +kernel
theorem dX11_fall_12 : decode cX11_fall 12 = .ok (.ireturn, 1) := by decide +kernel
theorem dX11_fall_13 : decode cX11_fall 13 = .ok (.iload_n 2, 1) := by decide +kernel
theorem dX11_fall_14 : decode cX11_fall 14 = .ok (.tableswitch 89 0 4 #[34, 44, 52, 57, 73], 34) := by decide +kernel
theorem dX11_fall_48 : decode cX11_fall 48 = .ok (.aload_n 3, 1) := by decide +kernel
theorem dX11_fall_49 : decode cX11_fall 49 = .ok (.aload_n 3, 1) := by decide +kernel
theorem dX11_fall_50 : decode cX11_fall 50 = .ok (.iconst 0, 1) := by decide +kernel
theorem dX11_fall_51 : decode cX11_fall 51 = .ok (.invokevirtual 169, 3) := by decide +kernel
theorem dX11_fall_54 : decode cX11_fall 54 = .ok (.invokevirtual 172, 3) := by decide +kernel
theorem dX11_fall_57 : decode cX11_fall 57 = .ok (.ireturn, 1) := by decide +kernel
theorem dX11_fall_58 : decode cX11_fall 58 = .ok (.aload_n 3, 1) := by decide +kernel
theorem dX11_fall_59 : decode cX11_fall 59 = .ok (.invokestatic 175, 3) := by decide +kernel
theorem dX11_fall_62 : decode cX11_fall 62 = .ok (.invokestatic 179, 3) := by decide +kernel
theorem dX11_fall_65 : decode cX11_fall 65 = .ok (.ireturn, 1) := by decide +kernel
theorem dX11_fall_66 : decode cX11_fall 66 = .ok (.aload_n 3, 1) := by decide +kernel
theorem dX11_fall_67 : decode cX11_fall 67 = .ok (.invokestatic 175, 3) := by decide +kernel
theorem dX11_fall_70 : decode cX11_fall 70 = .ok (.ireturn, 1) := by decide +kernel
theorem dX11_fall_71 : decode cX11_fall 71 = .ok (.aload_n 0, 1) := by decide +kernel
theorem dX11_fall_72 : decode cX11_fall 72 = .ok (.getfield 37, 3) := by decide +kernel
theorem dX11_fall_75 : decode cX11_fall 75 = .ok (.aload_n 3, 1) := by decide +kernel
theorem dX11_fall_76 : decode cX11_fall 76 = .ok (.invokevirtual 184, 3) := by decide +kernel
theorem dX11_fall_79 : decode cX11_fall 79 = .ok (.aload_n 0, 1) := by decide +kernel
theorem dX11_fall_80 : decode cX11_fall 80 = .ok (.getfield 37, 3) := by decide +kernel
theorem dX11_fall_83 : decode cX11_fall 83 = .ok (.invokevirtual 188, 3) := by decide +kernel
theorem dX11_fall_86 : decode cX11_fall 86 = .ok (.ireturn, 1) := by decide +kernel
theorem dX11_fall_87 : decode cX11_fall 87 = .ok (.aload_n 0, 1) := by decide +kernel
theorem dX11_fall_88 : decode cX11_fall 88 = .ok (.getfield 37, 3) := by decide +kernel
theorem dX11_fall_91 : decode cX11_fall 91 = .ok (.aload_n 3, 1) := by decide +kernel
theorem dX11_fall_92 : decode cX11_fall 92 = .ok (.invokevirtual 184, 3) := by decide +kernel
theorem dX11_fall_95 : decode cX11_fall 95 = .ok (.aload_n 0, 1) := by decide +kernel
theorem dX11_fall_96 : decode cX11_fall 96 = .ok (.getfield 37, 3) := by decide +kernel
theorem dX11_fall_99 : decode cX11_fall 99 = .ok (.invokevirtual 192, 3) := by decide +kernel
theorem dX11_fall_102 : decode cX11_fall 102 = .ok (.ireturn, 1) := by decide +kernel
theorem dX11_fall_103 : decode cX11_fall 103 = .ok (.bipush (-2), 2) := by decide +kernel
theorem dX11_fall_105 : decode cX11_fall 105 = .ok (.ireturn, 1) := by decide +kernel
theorem dX11_want_0 : decode cX11_want 0 = .ok (.aload_n 0, 1) := by decide +kernel
theorem dX11_want_1 : decode cX11_want 1 = .ok (.getfield 10, 3) := by decide +kernel
theorem dX11_want_4 : decode cX11_want 4 = .ok (.iconst 2, 1) := by decide +kernel
theorem dX11_want_5 : decode cX11_want 5 = .ok (.iload_n 1, 1) := by decide +kernel
theorem dX11_want_6 : decode cX11_want 6 = .ok (.invokevirtual 115, 3) := by decide +kernel
theorem dX11_want_9 : decode cX11_want 9 = .ok (.iload_n 2, 1) := by decide +kernel
theorem dX11_want_10 : decode cX11_want 10 = .ok (.iload_n 3, 1) := by decide +kernel
theorem dX11_want_11 : decode cX11_want 11 = .ok (.iload_n 3, 1) := by decide +kernel
theorem dX11_want_12 : decode cX11_want 12 = .ok (.iconst 1, 1) := by decide +kernel
theorem dX11_want_13 : decode cX11_want 13 = .ok (.iadd, 1) := by decide +kernel
theorem dX11_want_14 : decode cX11_want 14 = .ok (.iconst 2, 1) := by decide +kernel
theorem dX11_want_15 : decode cX11_want 15 = .ok (.invokestatic 119, 3) := by decide +kernel
theorem dX11_want_18 : decode cX11_want 18 = .ok (.ireturn, 1) := by decide +kernel
theorem dX11_swearers_0 : decode cX11_swearers 0 = .ok (.aload_n 0, 1) := by decide +kernel
theorem dX11_swearers_1 : decode cX11_swearers 1 = .ok (.iload_n 1, 1) := by decide +kernel
theorem dX11_swearers_2 : decode cX11_swearers 2 = .ok (.invokevirtual 133, 3) := by decide +kernel
theorem dX11_swearers_5 : decode cX11_swearers 5 = .ok (.astore 4, 2) := by decide +kernel
theorem dX11_swearers_7 : decode cX11_swearers 7 = .ok (.aload_n 0, 1) := by decide +kernel
theorem dX11_swearers_8 : decode cX11_swearers 8 = .ok (.getfield 10, 3) := by decide +kernel
theorem dX11_swearers_11 : decode cX11_swearers 11 = .ok (.iconst 2, 1) := by decide +kernel
theorem dX11_swearers_12 : decode cX11_swearers 12 = .ok (.iload_n 2, 1) := by decide +kernel
theorem dX11_swearers_13 : decode cX11_swearers 13 = .ok (.invokevirtual 115, 3) := by decide +kernel
theorem dX11_swearers_16 : decode cX11_swearers 16 = .ok (.astore 5, 2) := by decide +kernel
theorem dX11_swearers_18 : decode cX11_swearers 18 = .ok (.aload 4, 2) := by decide +kernel
theorem dX11_swearers_20 : decode cX11_swearers 20 = .ok (.ifnull 22, 3) := by decide +kernel
theorem dX11_swearers_23 : decode cX11_swearers 23 = .ok (.aload 5, 2) := by decide +kernel
theorem dX11_swearers_25 : decode cX11_swearers 25 = .ok (.ifnull 17, 3) := by decide +kernel
theorem dX11_swearers_28 : decode cX11_swearers 28 = .ok (.aload_n 0, 1) := by decide +kernel
theorem dX11_swearers_29 : decode cX11_swearers 29 = .ok (.getfield 51, 3) := by decide +kernel
theorem dX11_swearers_32 : decode cX11_swearers 32 = .ok (.aload 4, 2) := by decide +kernel
theorem dX11_swearers_34 : decode cX11_swearers 34 = .ok (.aload 5, 2) := by decide +kernel
theorem dX11_swearers_36 : decode cX11_swearers 36 = .ok (.invokevirtual 195, 3) := by decide +kernel
theorem dX11_swearers_39 : decode cX11_swearers 39 = .ok (.ifCond .ne 5, 3) := by decide +kernel
theorem dX11_swearers_42 : decode cX11_swearers 42 = .ok (.iconst (-1), 1) := by decide +kernel
theorem dX11_swearers_43 : decode cX11_swearers 43 = .ok (.ireturn, 1) := by decide +kernel
theorem dX11_swearers_44 : decode cX11_swearers 44 = .ok (.iload_n 3, 1) := by decide +kernel
theorem dX11_swearers_45 : decode cX11_swearers 45 = .ok (.iconst (-1), 1) := by decide +kernel
theorem dX11_swearers_46 : decode cX11_swearers 46 = .ok (.if_icmp .ne 13, 3) := by decide +kernel
theorem dX11_swearers_49 : decode cX11_swearers 49 = .ok (.aload_n 0, 1) := by decide +kernel
theorem dX11_swearers_50 : decode cX11_swearers 50 = .ok (.getfield 51, 3) := by decide +kernel
theorem dX11_swearers_53 : decode cX11_swearers 53 = .ok (.getfield 198, 3) := by decide +kernel
theorem dX11_swearers_56 : decode cX11_swearers 56 = .ok (.goto 13, 3) := by decide +kernel
theorem dX11_swearers_59 : decode cX11_swearers 59 = .ok (.aload_n 0, 1) := by decide +kernel
theorem dX11_swearers_60 : decode cX11_swearers 60 = .ok (.getfield 51, 3) := by decide +kernel
theorem dX11_swearers_63 : decode cX11_swearers 63 = .ok (.aload 4, 2) := by decide +kernel
theorem dX11_swearers_65 : decode cX11_swearers 65 = .ok (.iload_n 3, 1) := by decide +kernel
theorem dX11_swearers_66 : decode cX11_swearers 66 = .ok (.invokevirtual 201, 3) := by decide +kernel
theorem dX11_swearers_69 : decode cX11_swearers 69 = .ok (.ireturn, 1) := by decide +kernel
theorem dX11_dare_0 : decode cX11_dare 0 = .ok (.aload_n 0, 1) := by decide +kernel
theorem dX11_dare_1 : decode cX11_dare 1 = .ok (.iload_n 1, 1) := by decide +kernel
theorem dX11_dare_2 : decode cX11_dare 2 = .ok (.invokevirtual 133, 3) := by decide +kernel
theorem dX11_dare_5 : decode cX11_dare 5 = .ok (.astore 6, 2) := by decide +kernel
theorem dX11_dare_7 : decode cX11_dare 7 = .ok (.aload 6, 2) := by decide +kernel
theorem dX11_dare_9 : decode cX11_dare 9 = .ok (.ifnull 24, 3) := by decide +kernel
theorem dX11_dare_12 : decode cX11_dare 12 = .ok (.aload 6, 2) := by decide +kernel
theorem dX11_dare_14 : decode cX11_dare 14 = .ok (.iload_n 2, 1) := by decide +kernel
theorem dX11_dare_15 : decode cX11_dare 15 = .ok (.iload_n 3, 1) := by decide +kernel
theorem dX11_dare_16 : decode cX11_dare 16 = .ok (.invokevirtual 162, 3) := by decide +kernel
theorem dX11_dare_19 : decode cX11_dare 19 = .ok (.ifCond .eq 14, 3) := by decide +kernel
theorem dX11_dare_22 : decode cX11_dare 22 = .ok (.iload 4, 2) := by decide +kernel
theorem dX11_dare_24 : decode cX11_dare 24 = .ok (.ifCond .lt 9, 3) := by decide +kernel
theorem dX11_dare_27 : decode cX11_dare 27 = .ok (.iload 4, 2) := by decide +kernel
theorem dX11_dare_29 : decode cX11_dare 29 = .ok (.iconst 3, 1) := by decide +kernel
theorem dX11_dare_30 : decode cX11_dare 30 = .ok (.if_icmp .le 6, 3) := by decide +kernel
theorem dX11_dare_33 : decode cX11_dare 33 = .ok (.bipush (-9), 2) := by decide +kernel
theorem dX11_dare_35 : decode cX11_dare 35 = .ok (.ireturn, 1) := by decide +kernel
theorem dX11_dare_36 : decode cX11_dare 36 = .ok (.aload_n 0, 1) := by decide +kernel
theorem dX11_dare_37 : decode cX11_dare 37 = .ok (.getfield 58, 3) := by decide +kernel
theorem dX11_dare_40 : decode cX11_dare 40 = .ok (.aload 6, 2) := by decide +kernel
theorem dX11_dare_42 : decode cX11_dare 42 = .ok (.iload_n 2, 1) := by decide +kernel
theorem dX11_dare_43 : decode cX11_dare 43 = .ok (.iload_n 3, 1) := by decide +kernel
theorem dX11_dare_44 : decode cX11_dare 44 = .ok (.iload 4, 2) := by decide +kernel
theorem dX11_dare_46 : decode cX11_dare 46 = .ok (.invokevirtual 204, 3) := by decide +kernel
theorem dX11_dare_49 : decode cX11_dare 49 = .ok (.iload 5, 2) := by decide +kernel
theorem dX11_dare_51 : decode cX11_dare 51 = .ok (.ifCond .eq 13, 3) := by decide +kernel
theorem dX11_dare_54 : decode cX11_dare 54 = .ok (.aload_n 0, 1) := by decide +kernel
theorem dX11_dare_55 : decode cX11_dare 55 = .ok (.getfield 58, 3) := by decide +kernel
theorem dX11_dare_58 : decode cX11_dare 58 = .ok (.getfield 208, 3) := by decide +kernel
theorem dX11_dare_61 : decode cX11_dare 61 = .ok (.goto 10, 3) := by decide +kernel
theorem dX11_dare_64 : decode cX11_dare 64 = .ok (.aload_n 0, 1) := by decide +kernel
theorem dX11_dare_65 : decode cX11_dare 65 = .ok (.getfield 58, 3) := by decide +kernel
theorem dX11_dare_68 : decode cX11_dare 68 = .ok (.getfield 211, 3) := by decide +kernel
theorem dX11_dare_71 : decode cX11_dare 71 = .ok (.ireturn, 1) := by decide +kernel
theorem dX11_chance_0 : decode cX11_chance 0 = .ok (.aload_n 0, 1) := by decide +kernel
theorem dX11_chance_1 : decode cX11_chance 1 = .ok (.iload_n 1, 1) := by decide +kernel
theorem dX11_chance_2 : decode cX11_chance 2 = .ok (.invokevirtual 133, 3) := by decide +kernel
theorem dX11_chance_5 : decode cX11_chance 5 = .ok (.astore 8, 2) := by decide +kernel
theorem dX11_chance_7 : decode cX11_chance 7 = .ok (.aload 8, 2) := by decide +kernel
theorem dX11_chance_9 : decode cX11_chance 9 = .ok (.ifnull 25, 3) := by decide +kernel
theorem dX11_chance_12 : decode cX11_chance 12 = .ok (.aload 8, 2) := by decide +kernel
theorem dX11_chance_14 : decode cX11_chance 14 = .ok (.iload_n 2, 1) := by decide +kernel
theorem dX11_chance_15 : decode cX11_chance 15 = .ok (.iload_n 3, 1) := by decide +kernel
theorem dX11_chance_16 : decode cX11_chance 16 = .ok (.invokevirtual 162, 3) := by decide +kernel
theorem dX11_chance_19 : decode cX11_chance 19 = .ok (.ifCond .eq 15, 3) := by decide +kernel
theorem dX11_chance_22 : decode cX11_chance 22 = .ok (.iload 4, 2) := by decide +kernel
theorem dX11_chance_24 : decode cX11_chance 24 = .ok (.ifCond .lt 10, 3) := by decide +kernel
theorem dX11_chance_27 : decode cX11_chance 27 = .ok (.iload 4, 2) := by decide +kernel
theorem dX11_chance_29 : decode cX11_chance 29 = .ok (.bipush 8, 2) := by decide +kernel
theorem dX11_chance_31 : decode cX11_chance 31 = .ok (.if_icmp .lt 5, 3) := by decide +kernel
theorem dX11_chance_34 : decode cX11_chance 34 = .ok (.iconst (-1), 1) := by decide +kernel
theorem dX11_chance_35 : decode cX11_chance 35 = .ok (.ireturn, 1) := by decide +kernel
theorem dX11_chance_36 : decode cX11_chance 36 = .ok (.iload 5, 2) := by decide +kernel
theorem dX11_chance_38 : decode cX11_chance 38 = .ok (.ifCond .lt 22, 3) := by decide +kernel
theorem dX11_chance_41 : decode cX11_chance 41 = .ok (.iload 5, 2) := by decide +kernel
theorem dX11_chance_43 : decode cX11_chance 43 = .ok (.bipush 10, 2) := by decide +kernel
theorem dX11_chance_45 : decode cX11_chance 45 = .ok (.if_icmp .gt 15, 3) := by decide +kernel
theorem dX11_chance_48 : decode cX11_chance 48 = .ok (.iload 6, 2) := by decide +kernel
theorem dX11_chance_50 : decode cX11_chance 50 = .ok (.ifCond .lt 10, 3) := by decide +kernel
theorem dX11_chance_53 : decode cX11_chance 53 = .ok (.iload 6, 2) := by decide +kernel
theorem dX11_chance_55 : decode cX11_chance 55 = .ok (.bipush 6, 2) := by decide +kernel
theorem dX11_chance_57 : decode cX11_chance 57 = .ok (.if_icmp .le 5, 3) := by decide +kernel
theorem dX11_chance_60 : decode cX11_chance 60 = .ok (.iconst (-1), 1) := by decide +kernel
theorem dX11_chance_61 : decode cX11_chance 61 = .ok (.ireturn, 1) := by decide +kernel
theorem dX11_chance_62 : decode cX11_chance 62 = .ok (.aload_n 0, 1) := by decide +kernel
theorem dX11_chance_63 : decode cX11_chance 63 = .ok (.getfield 58, 3) := by decide +kernel
theorem dX11_chance_66 : decode cX11_chance 66 = .ok (.aload 8, 2) := by decide +kernel
theorem dX11_chance_68 : decode cX11_chance 68 = .ok (.getfield 214, 3) := by decide +kernel
theorem dX11_chance_71 : decode cX11_chance 71 = .ok (.iload 4, 2) := by decide +kernel
theorem dX11_chance_73 : decode cX11_chance 73 = .ok (.iaload, 1) := by decide +kernel
theorem dX11_chance_74 : decode cX11_chance 74 = .ok (.aload 8, 2) := by decide +kernel
theorem dX11_chance_76 : decode cX11_chance 76 = .ok (.iload_n 2, 1) := by decide +kernel
theorem dX11_chance_77 : decode cX11_chance 77 = .ok (.iload_n 3, 1) := by decide +kernel
theorem dX11_chance_78 : decode cX11_chance 78 = .ok (.invokevirtual 166, 3) := by decide +kernel
theorem dX11_chance_81 : decode cX11_chance 81 = .ok (.isub, 1) := by decide +kernel
theorem dX11_chance_82 : decode cX11_chance 82 = .ok (.iload 5, 2) := by decide +kernel
theorem dX11_chance_84 : decode cX11_chance 84 = .ok (.iload 6, 2) := by decide +kernel
theorem dX11_chance_86 : decode cX11_chance 86 = .ok (.invokevirtual 218, 3) := by decide +kernel
theorem dX11_chance_89 : decode cX11_chance 89 = .ok (.iload 7, 2) := by decide +kernel
theorem dX11_chance_91 : decode cX11_chance 91 = .ok (.ifCond .eq 13, 3) := by decide +kernel
theorem dX11_chance_94 : decode cX11_chance 94 = .ok (.aload_n 0, 1) := by decide +kernel
theorem dX11_chance_95 : decode cX11_chance 95 = .ok (.getfield 58, 3) := by decide +kernel
theorem dX11_chance_98 : decode cX11_chance 98 = .ok (.getfield 222, 3) := by decide +kernel
theorem dX11_chance_101 : decode cX11_chance 101 = .ok (.goto 10, 3) := by decide +kernel
theorem dX11_chance_104 : decode cX11_chance 104 = .ok (.aload_n 0, 1) := by decide +kernel
theorem dX11_chance_105 : decode cX11_chance 105 = .ok (.getfield 58, 3) := by decide +kernel
theorem dX11_chance_108 : decode cX11_chance 108 = .ok (.getfield 225, 3) := by decide +kernel
theorem dX11_chance_111 : decode cX11_chance 111 = .ok (.ireturn, 1) := by decide +kernel
theorem dX11_fact_0 : decode cX11_fact 0 = .ok (.aload_n 0, 1) := by decide +kernel
theorem dX11_fact_1 : decode cX11_fact 1 = .ok (.getfield 10, 3) := by decide +kernel
theorem dX11_fact_4 : decode cX11_fact 4 = .ok (.iconst 3, 1) := by decide +kernel
theorem dX11_fact_5 : decode cX11_fact 5 = .ok (.iload_n 1, 1) := by decide +kernel
theorem dX11_fact_6 : decode cX11_fact 6 = .ok (.invokevirtual 115, 3) := by decide +kernel
theorem dX11_fact_9 : decode cX11_fact 9 = .ok (.iload_n 2, 1) := by decide +kernel
theorem dX11_fact_10 : decode cX11_fact 10 = .ok (.iload_n 3, 1) := by decide +kernel
theorem dX11_fact_11 : decode cX11_fact 11 = .ok (.iload_n 3, 1) := by decide +kernel
theorem dX11_fact_12 : decode cX11_fact 12 = .ok (.iconst 3, 1) := by decide +kernel
theorem dX11_fact_13 : decode cX11_fact 13 = .ok (.invokestatic 119, 3) := by decide +kernel
theorem dX11_fact_16 : decode cX11_fact 16 = .ok (.ireturn, 1) := by decide +kernel
theorem dX11_fits_0 : decode cX11_fits 0 = .ok (.aload_n 0, 1) := by decide +kernel
theorem dX11_fits_1 : decode cX11_fits 1 = .ok (.iload_n 1, 1) := by decide +kernel
theorem dX11_fits_2 : decode cX11_fits 2 = .ok (.invokevirtual 133, 3) := by decide +kernel
theorem dX11_fits_5 : decode cX11_fits 5 = .ok (.astore 5, 2) := by decide +kernel
theorem dX11_fits_7 : decode cX11_fits 7 = .ok (.aload_n 0, 1) := by decide +kernel
theorem dX11_fits_8 : decode cX11_fits 8 = .ok (.getfield 10, 3) := by decide +kernel
theorem dX11_fits_11 : decode cX11_fits 11 = .ok (.iconst 3, 1) := by decide +kernel
theorem dX11_fits_12 : decode cX11_fits 12 = .ok (.iload_n 2, 1) := by decide +kernel
theorem dX11_fits_13 : decode cX11_fits 13 = .ok (.invokevirtual 115, 3) := by decide +kernel
theorem dX11_fits_16 : decode cX11_fits 16 = .ok (.astore 6, 2) := by decide +kernel
theorem dX11_fits_18 : decode cX11_fits 18 = .ok (.aload 5, 2) := by decide +kernel
theorem dX11_fits_20 : decode cX11_fits 20 = .ok (.ifnull 17, 3) := by decide +kernel
theorem dX11_fits_23 : decode cX11_fits 23 = .ok (.aload 6, 2) := by decide +kernel
theorem dX11_fits_25 : decode cX11_fits 25 = .ok (.ifnull 12, 3) := by decide +kernel
theorem dX11_fits_28 : decode cX11_fits 28 = .ok (.aload 5, 2) := by decide +kernel
theorem dX11_fits_30 : decode cX11_fits 30 = .ok (.iload_n 3, 1) := by decide +kernel
theorem dX11_fits_31 : decode cX11_fits 31 = .ok (.invokevirtual 137, 3) := by decide +kernel
theorem dX11_fits_34 : decode cX11_fits 34 = .ok (.ifCond .ne 6, 3) := by decide +kernel
theorem dX11_fits_37 : decode cX11_fits 37 = .ok (.bipush (-2), 2) := by decide +kernel
theorem dX11_fits_39 : decode cX11_fits 39 = .ok (.ireturn, 1) := by decide +kernel
theorem dX11_fits_40 : decode cX11_fits 40 = .ok (.aload_n 0, 1) := by decide +kernel
theorem dX11_fits_41 : decode cX11_fits 41 = .ok (.getfield 65, 3) := by decide +kernel
theorem dX11_fits_44 : decode cX11_fits 44 = .ok (.aload 5, 2) := by decide +kernel
theorem dX11_fits_46 : decode cX11_fits 46 = .ok (.aload 6, 2) := by decide +kernel
theorem dX11_fits_48 : decode cX11_fits 48 = .ok (.iload_n 3, 1) := by decide +kernel
theorem dX11_fits_49 : decode cX11_fits 49 = .ok (.invokevirtual 228, 3) := by decide +kernel
theorem dX11_fits_52 : decode cX11_fits 52 = .ok (.aload_n 0, 1) := by decide +kernel
theorem dX11_fits_53 : decode cX11_fits 53 = .ok (.getfield 65, 3) := by decide +kernel
theorem dX11_fits_56 : decode cX11_fits 56 = .ok (.iload 4, 2) := by decide +kernel
theorem dX11_fits_58 : decode cX11_fits 58 = .ok (.invokevirtual 231, 3) := by decide +kernel
theorem dX11_fits_61 : decode cX11_fits 61 = .ok (.ireturn, 1) := by decide +kernel
theorem dX11_drawn_0 : decode cX11_drawn 0 = .ok (.aload_n 0, 1) := by decide +kernel
theorem dX11_drawn_1 : decode cX11_drawn 1 = .ok (.getfield 10, 3) := by decide +kernel
theorem dX11_drawn_4 : decode cX11_drawn 4 = .ok (.iload_n 1, 1) := by decide +kernel
theorem dX11_drawn_5 : decode cX11_drawn 5 = .ok (.invokevirtual 105, 3) := by decide +kernel
theorem dX11_drawn_8 : decode cX11_drawn 8 = .ok (.astore 5, 2) := by decide +kernel
theorem dX11_drawn_10 : decode cX11_drawn 10 = .ok (.aload 5, 2) := by decide +kernel
theorem dX11_drawn_12 : decode cX11_drawn 12 = .ok (.ifnull 13, 3) := by decide +kernel
theorem dX11_drawn_15 : decode cX11_drawn 15 = .ok (.iload_n 3, 1) := by decide +kernel
theorem dX11_drawn_16 : decode cX11_drawn 16 = .ok (.ifCond .lt 9, 3) := by decide +kernel
theorem dX11_drawn_19 : decode cX11_drawn 19 = .ok (.iload_n 3, 1) := by decide +kernel
theorem dX11_drawn_20 : decode cX11_drawn 20 = .ok (.bipush 60, 2) := by decide +kernel
theorem dX11_drawn_22 : decode cX11_drawn 22 = .ok (.if_icmp .le 5, 3) := by decide +kernel
theorem dX11_drawn_25 : decode cX11_drawn 25 = .ok (.iconst (-1), 1) := by decide +kernel
theorem dX11_drawn_26 : decode cX11_drawn 26 = .ok (.ireturn, 1) := by decide +kernel
theorem dX11_drawn_27 : decode cX11_drawn 27 = .ok (.aload_n 0, 1) := by decide +kernel
theorem dX11_drawn_28 : decode cX11_drawn 28 = .ok (.getfield 30, 3) := by decide +kernel
theorem dX11_drawn_31 : decode cX11_drawn 31 = .ok (.aload 5, 2) := by decide +kernel
theorem dX11_drawn_33 : decode cX11_drawn 33 = .ok (.iload_n 2, 1) := by decide +kernel
theorem dX11_drawn_34 : decode cX11_drawn 34 = .ok (.iload_n 3, 1) := by decide +kernel
theorem dX11_drawn_35 : decode cX11_drawn 35 = .ok (.invokevirtual 232, 3) := by decide +kernel
theorem dX11_drawn_38 : decode cX11_drawn 38 = .ok (.aload_n 0, 1) := by decide +kernel
theorem dX11_drawn_39 : decode cX11_drawn 39 = .ok (.getfield 30, 3) := by decide +kernel
theorem dX11_drawn_42 : decode cX11_drawn 42 = .ok (.iload 4, 2) := by decide +kernel
theorem dX11_drawn_44 : decode cX11_drawn 44 = .ok (.invokevirtual 132, 3) := by decide +kernel
theorem dX11_drawn_47 : decode cX11_drawn 47 = .ok (.ireturn, 1) := by decide +kernel
theorem dX11_lone_0 : decode cX11_lone 0 = .ok (.aload_n 0, 1) := by decide +kernel
theorem dX11_lone_1 : decode cX11_lone 1 = .ok (.getfield 10, 3) := by decide +kernel
theorem dX11_lone_4 : decode cX11_lone 4 = .ok (.iload_n 1, 1) := by decide +kernel
theorem dX11_lone_5 : decode cX11_lone 5 = .ok (.invokevirtual 105, 3) := by decide +kernel
theorem dX11_lone_8 : decode cX11_lone 8 = .ok (.astore_n 3, 1) := by decide +kernel
theorem dX11_lone_9 : decode cX11_lone 9 = .ok (.aload_n 0, 1) := by decide +kernel
theorem dX11_lone_10 : decode cX11_lone 10 = .ok (.iload_n 1, 1) := by decide +kernel
theorem dX11_lone_11 : decode cX11_lone 11 = .ok (.invokevirtual 133, 3) := by decide +kernel
theorem dX11_lone_14 : decode cX11_lone 14 = .ok (.astore 4, 2) := by decide +kernel
theorem dX11_lone_16 : decode cX11_lone 16 = .ok (.aload_n 3, 1) := by decide +kernel
theorem dX11_lone_17 : decode cX11_lone 17 = .ok (.ifnull 8, 3) := by decide +kernel
theorem dX11_lone_20 : decode cX11_lone 20 = .ok (.aload 4, 2) := by decide +kernel
theorem dX11_lone_22 : decode cX11_lone 22 = .ok (.ifnonnull 6, 3) := by decide +kernel
theorem dX11_lone_25 : decode cX11_lone 25 = .ok (.bipush (-2), 2) := by decide +kernel
theorem dX11_lone_27 : decode cX11_lone 27 = .ok (.ireturn, 1) := by decide +kernel
theorem dX11_lone_28 : decode cX11_lone 28 = .ok (.iload_n 2, 1) := by decide +kernel
theorem dX11_lone_29 : decode cX11_lone 29 = .ok (.bipush 6, 2) := by decide +kernel
theorem dX11_lone_31 : decode cX11_lone 31 = .ok (.if_icmp .ge 21, 3) := by decide +kernel
theorem dX11_lone_34 : decode cX11_lone 34 = .ok (.aload_n 0, 1) := by decide +kernel
theorem dX11_lone_35 : decode cX11_lone 35 = .ok (.getfield 37, 3) := by decide +kernel
theorem dX11_lone_38 : decode cX11_lone 38 = .ok (.aload 4, 2) := by decide +kernel
theorem dX11_lone_40 : decode cX11_lone 40 = .ok (.invokevirtual 184, 3) := by decide +kernel
theorem dX11_lone_43 : decode cX11_lone 43 = .ok (.aload_n 0, 1) := by decide +kernel
theorem dX11_lone_44 : decode cX11_lone 44 = .ok (.getfield 37, 3) := by decide +kernel
theorem dX11_lone_47 : decode cX11_lone 47 = .ok (.iload_n 2, 1) := by decide +kernel
theorem dX11_lone_48 : decode cX11_lone 48 = .ok (.invokevirtual 236, 3) := by decide +kernel
theorem dX11_lone_51 : decode cX11_lone 51 = .ok (.ireturn, 1) := by decide +kernel
theorem dX11_lone_52 : decode cX11_lone 52 = .ok (.iload_n 2, 1) := by decide +kernel
theorem dX11_lone_53 : decode cX11_lone 53 = .ok (.bipush 8, 2) := by decide +kernel
theorem dX11_lone_55 : decode cX11_lone 55 = .ok (.if_icmp .ge 24, 3) := by decide +kernel
theorem dX11_lone_58 : decode cX11_lone 58 = .ok (.iload_n 2, 1) := by decide +kernel
theorem dX11_lone_59 : decode cX11_lone 59 = .ok (.bipush 6, 2) := by decide +kernel
theorem dX11_lone_61 : decode cX11_lone 61 = .ok (.if_icmp .ne 13, 3) := by decide +kernel
theorem dX11_lone_64 : decode cX11_lone 64 = .ok (.aload_n 3, 1) := by decide +kernel
theorem dX11_lone_65 : decode cX11_lone 65 = .ok (.invokevirtual 237, 3) := by decide +kernel
theorem dX11_lone_68 : decode cX11_lone 68 = .ok (.invokestatic 179, 3) := by decide +kernel
theorem dX11_lone_71 : decode cX11_lone 71 = .ok (.goto 7, 3) := by decide +kernel
theorem dX11_lone_74 : decode cX11_lone 74 = .ok (.aload_n 3, 1) := by decide +kernel
theorem dX11_lone_75 : decode cX11_lone 75 = .ok (.invokevirtual 237, 3) := by decide +kernel
theorem dX11_lone_78 : decode cX11_lone 78 = .ok (.ireturn, 1) := by decide +kernel
theorem dX11_lone_79 : decode cX11_lone 79 = .ok (.aload_n 0, 1) := by decide +kernel
theorem dX11_lone_80 : decode cX11_lone 80 = .ok (.getfield 44, 3) := by decide +kernel
theorem dX11_lone_83 : decode cX11_lone 83 = .ok (.aload 4, 2) := by decide +kernel
theorem dX11_lone_85 : decode cX11_lone 85 = .ok (.iload_n 2, 1) := by decide +kernel
theorem dX11_lone_86 : decode cX11_lone 86 = .ok (.invokevirtual 240, 3) := by decide +kernel
theorem dX11_lone_89 : decode cX11_lone 89 = .ok (.ireturn, 1) := by decide +kernel
theorem dX11_chain_0 : decode cX11_chain 0 = .ok (.aload_n 0, 1) := by decide +kernel
theorem dX11_chain_1 : decode cX11_chain 1 = .ok (.iload_n 1, 1) := by decide +kernel
theorem dX11_chain_2 : decode cX11_chain 2 = .ok (.invokevirtual 133, 3) := by decide +kernel
theorem dX11_chain_5 : decode cX11_chain 5 = .ok (.astore_n 3, 1) := by decide +kernel
theorem dX11_chain_6 : decode cX11_chain 6 = .ok (.aload_n 3, 1) := by decide +kernel
theorem dX11_chain_7 : decode cX11_chain 7 = .ok (.ifnonnull 5, 3) := by decide +kernel
theorem dX11_chain_10 : decode cX11_chain 10 = .ok (.iconst (-1), 1) := by decide +kernel
theorem dX11_chain_11 : decode cX11_chain 11 = .ok (.ireturn, 1) := by decide +kernel
theorem dX11_chain_12 : decode cX11_chain 12 = .ok (.aload_n 0, 1) := by decide +kernel
theorem dX11_chain_13 : decode cX11_chain 13 = .ok (.getfield 37, 3) := by decide +kernel
theorem dX11_chain_16 : decode cX11_chain 16 = .ok (.aload_n 3, 1) := by decide +kernel
theorem dX11_chain_17 : decode cX11_chain 17 = .ok (.invokevirtual 184, 3) := by decide +kernel
theorem dX11_chain_20 : decode cX11_chain 20 = .ok (.aload_n 0, 1) := by decide +kernel
theorem dX11_chain_21 : decode cX11_chain 21 = .ok (.getfield 37, 3) := by decide +kernel
theorem dX11_chain_24 : decode cX11_chain 24 = .ok (.invokevirtual 242, 3) := by decide +kernel
theorem dX11_chain_27 : decode cX11_chain 27 = .ok (.iload_n 2, 1) := by decide +kernel
theorem dX11_chain_28 : decode cX11_chain 28 = .ok (.iconst (-1), 1) := by decide +kernel
theorem dX11_chain_29 : decode cX11_chain 29 = .ok (.if_icmp .ne 13, 3) := by decide +kernel
theorem dX11_chain_32 : decode cX11_chain 32 = .ok (.aload_n 0, 1) := by decide +kernel
theorem dX11_chain_33 : decode cX11_chain 33 = .ok (.getfield 37, 3) := by decide +kernel
theorem dX11_chain_36 : decode cX11_chain 36 = .ok (.getfield 245, 3) := by decide +kernel
theorem dX11_chain_39 : decode cX11_chain 39 = .ok (.goto 11, 3) := by decide +kernel
theorem dX11_chain_42 : decode cX11_chain 42 = .ok (.aload_n 0, 1) := by decide +kernel
theorem dX11_chain_43 : decode cX11_chain 43 = .ok (.getfield 37, 3) := by decide +kernel
theorem dX11_chain_46 : decode cX11_chain 46 = .ok (.iload_n 2, 1) := by decide +kernel
theorem dX11_chain_47 : decode cX11_chain 47 = .ok (.invokevirtual 246, 3) := by decide +kernel
theorem dX11_chain_50 : decode cX11_chain 50 = .ok (.ireturn, 1) := by decide +kernel
theorem dX11_steps_0 : decode cX11_steps 0 = .ok (.aload_n 0, 1) := by decide +kernel
theorem dX11_steps_1 : decode cX11_steps 1 = .ok (.iload_n 1, 1) := by decide +kernel
theorem dX11_steps_2 : decode cX11_steps 2 = .ok (.invokevirtual 133, 3) := by decide +kernel
theorem dX11_steps_5 : decode cX11_steps 5 = .ok (.astore 4, 2) := by decide +kernel
theorem dX11_steps_7 : decode cX11_steps 7 = .ok (.aload 4, 2) := by decide +kernel
theorem dX11_steps_9 : decode cX11_steps 9 = .ok (.ifnull 21, 3) := by decide +kernel
theorem dX11_steps_12 : decode cX11_steps 12 = .ok (.aload 4, 2) := by decide +kernel
theorem dX11_steps_14 : decode cX11_steps 14 = .ok (.iload_n 2, 1) := by decide +kernel
theorem dX11_steps_15 : decode cX11_steps 15 = .ok (.invokevirtual 137, 3) := by decide +kernel
theorem dX11_steps_18 : decode cX11_steps 18 = .ok (.ifCond .eq 12, 3) := by decide +kernel
theorem dX11_steps_21 : decode cX11_steps 21 = .ok (.aload 4, 2) := by decide +kernel
theorem dX11_steps_23 : decode cX11_steps 23 = .ok (.iload_n 3, 1) := by decide +kernel
theorem dX11_steps_24 : decode cX11_steps 24 = .ok (.invokevirtual 137, 3) := by decide +kernel
theorem dX11_steps_27 : decode cX11_steps 27 = .ok (.ifCond .ne 5, 3) := by decide +kernel
theorem dX11_steps_30 : decode cX11_steps 30 = .ok (.iconst (-1), 1) := by decide +kernel
theorem dX11_steps_31 : decode cX11_steps 31 = .ok (.ireturn, 1) := by decide +kernel
theorem dX11_steps_32 : decode cX11_steps 32 = .ok (.aload 4, 2) := by decide +kernel
theorem dX11_steps_34 : decode cX11_steps 34 = .ok (.iload_n 2, 1) := by decide +kernel
theorem dX11_steps_35 : decode cX11_steps 35 = .ok (.iload_n 3, 1) := by decide +kernel
theorem dX11_steps_36 : decode cX11_steps 36 = .ok (.invokestatic 249, 3) := by decide +kernel
theorem dX11_steps_39 : decode cX11_steps 39 = .ok (.ireturn, 1) := by decide +kernel
theorem dX11_after_0 : decode cX11_after 0 = .ok (.aload_n 0, 1) := by decide +kernel
theorem dX11_after_1 : decode cX11_after 1 = .ok (.getfield 10, 3) := by decide +kernel
theorem dX11_after_4 : decode cX11_after 4 = .ok (.iload_n 1, 1) := by decide +kernel
theorem dX11_after_5 : decode cX11_after 5 = .ok (.invokevirtual 105, 3) := by decide +kernel
theorem dX11_after_8 : decode cX11_after 8 = .ok (.astore 4, 2) := by decide +kernel
theorem dX11_after_10 : decode cX11_after 10 = .ok (.aload_n 0, 1) := by decide +kernel
theorem dX11_after_11 : decode cX11_after 11 = .ok (.getfield 10, 3) := by decide +kernel
theorem dX11_after_14 : decode cX11_after 14 = .ok (.iconst 1, 1) := by decide +kernel
theorem dX11_after_15 : decode cX11_after 15 = .ok (.iload_n 2, 1) := by decide +kernel
theorem dX11_after_16 : decode cX11_after 16 = .ok (.invokevirtual 115, 3) := by decide +kernel
theorem dX11_after_19 : decode cX11_after 19 = .ok (.astore 5, 2) := by decide +kernel
theorem dX11_after_21 : decode cX11_after 21 = .ok (.aload 4, 2) := by decide +kernel
theorem dX11_after_23 : decode cX11_after 23 = .ok (.ifnull 8, 3) := by decide +kernel
theorem dX11_after_26 : decode cX11_after 26 = .ok (.aload 5, 2) := by decide +kernel
theorem dX11_after_28 : decode cX11_after 28 = .ok (.ifnonnull 6, 3) := by decide +kernel
theorem dX11_after_31 : decode cX11_after 31 = .ok (.bipush (-2), 2) := by decide +kernel
theorem dX11_after_33 : decode cX11_after 33 = .ok (.ireturn, 1) := by decide +kernel
theorem dX11_after_34 : decode cX11_after 34 = .ok (.aload_n 0, 1) := by decide +kernel
theorem dX11_after_35 : decode cX11_after 35 = .ok (.getfield 30, 3) := by decide +kernel
theorem dX11_after_38 : decode cX11_after 38 = .ok (.aload 4, 2) := by decide +kernel
theorem dX11_after_40 : decode cX11_after 40 = .ok (.aload 5, 2) := by decide +kernel
theorem dX11_after_42 : decode cX11_after 42 = .ok (.aload 5, 2) := by decide +kernel
theorem dX11_after_44 : decode cX11_after 44 = .ok (.getfield 123, 3) := by decide +kernel
theorem dX11_after_47 : decode cX11_after 47 = .ok (.invokevirtual 128, 3) := by decide +kernel
theorem dX11_after_50 : decode cX11_after 50 = .ok (.pop, 1) := by decide +kernel
theorem dX11_after_51 : decode cX11_after 51 = .ok (.aload_n 0, 1) := by decide +kernel
theorem dX11_after_52 : decode cX11_after 52 = .ok (.getfield 30, 3) := by decide +kernel
theorem dX11_after_55 : decode cX11_after 55 = .ok (.iload_n 3, 1) := by decide +kernel
theorem dX11_after_56 : decode cX11_after 56 = .ok (.invokevirtual 253, 3) := by decide +kernel
theorem dX11_after_59 : decode cX11_after 59 = .ok (.ireturn, 1) := by decide +kernel
theorem dX11_count_0 : decode cX11_count 0 = .ok (.iload_n 1, 1) := by decide +kernel
theorem dX11_count_1 : decode cX11_count 1 = .ok (.ifCond .lt 8, 3) := by decide +kernel
theorem dX11_count_4 : decode cX11_count 4 = .ok (.iload_n 1, 1) := by decide +kernel
theorem dX11_count_5 : decode cX11_count 5 = .ok (.iconst 4, 1) := by decide +kernel
theorem dX11_count_6 : decode cX11_count 6 = .ok (.if_icmp .lt 8, 3) := by decide +kernel
theorem dX11_count_9 : decode cX11_count 9 = .ok (.bipush (-2), 2) := by decide +kernel
theorem dX11_count_11 : decode cX11_count 11 = .ok (.goto 12, 3) := by decide +kernel
theorem dX11_count_14 : decode cX11_count 14 = .ok (.aload_n 0, 1) := by decide +kernel
theorem dX11_count_15 : decode cX11_count 15 = .ok (.getfield 10, 3) := by decide +kernel
theorem dX11_count_18 : decode cX11_count 18 = .ok (.getfield 256, 3) := by decide +kernel
theorem dX11_count_21 : decode cX11_count 21 = .ok (.iload_n 1, 1) := by decide +kernel
theorem dX11_count_22 : decode cX11_count 22 = .ok (.iaload, 1) := by decide +kernel
theorem dX11_count_23 : decode cX11_count 23 = .ok (.ireturn, 1) := by decide +kernel
theorem dX11_image_0 : decode cX11_image 0 = .ok (.iload_n 1, 1) := by decide +kernel
theorem dX11_image_1 : decode cX11_image 1 = .ok (.ifCond .lt 8, 3) := by decide +kernel
theorem dX11_image_4 : decode cX11_image 4 = .ok (.iload_n 1, 1) := by decide +kernel
theorem dX11_image_5 : decode cX11_image 5 = .ok (.iconst 3, 1) := by decide +kernel
theorem dX11_image_6 : decode cX11_image 6 = .ok (.if_icmp .lt 5, 3) := by decide +kernel
theorem dX11_image_9 : decode cX11_image 9 = .ok (.iconst 0, 1) := by decide +kernel
theorem dX11_image_10 : decode cX11_image 10 = .ok (.ireturn, 1) := by decide +kernel
theorem dX11_image_11 : decode cX11_image 11 = .ok (.aload_n 0, 1) := by decide +kernel
theorem dX11_image_12 : decode cX11_image 12 = .ok (.getfield 16, 3) := by decide +kernel
theorem dX11_image_15 : decode cX11_image 15 = .ok (.iload_n 1, 1) := by decide +kernel
theorem dX11_image_16 : decode cX11_image 16 = .ok (.aaload, 1) := by decide +kernel
theorem dX11_image_17 : decode cX11_image 17 = .ok (.ifnonnull 16, 3) := by decide +kernel
theorem dX11_image_20 : decode cX11_image 20 = .ok (.aload_n 0, 1) := by decide +kernel
theorem dX11_image_21 : decode cX11_image 21 = .ok (.getfield 16, 3) := by decide +kernel
theorem dX11_image_24 : decode cX11_image 24 = .ok (.iload_n 1, 1) := by decide +kernel
theorem dX11_image_25 : decode cX11_image 25 = .ok (.new 7, 3) := by decide +kernel
theorem dX11_image_28 : decode cX11_image 28 = .ok (.dup, 1) := by decide +kernel
theorem dX11_image_29 : decode cX11_image 29 = .ok (.invokespecial 9, 3) := by decide +kernel
theorem dX11_image_32 : decode cX11_image 32 = .ok (.aastore, 1) := by decide +kernel
theorem dX11_image_33 : decode cX11_image 33 = .ok (.aload_n 0, 1) := by decide +kernel
theorem dX11_image_34 : decode cX11_image 34 = .ok (.getfield 16, 3) := by decide +kernel
theorem dX11_image_37 : decode cX11_image 37 = .ok (.iload_n 1, 1) := by decide +kernel
theorem dX11_image_38 : decode cX11_image 38 = .ok (.aaload, 1) := by decide +kernel
theorem dX11_image_39 : decode cX11_image 39 = .ok (.aload_n 0, 1) := by decide +kernel
theorem dX11_image_40 : decode cX11_image 40 = .ok (.getfield 10, 3) := by decide +kernel
theorem dX11_image_43 : decode cX11_image 43 = .ok (.invokevirtual 259, 3) := by decide +kernel
theorem dX11_image_46 : decode cX11_image 46 = .ok (.iconst 1, 1) := by decide +kernel
theorem dX11_image_47 : decode cX11_image 47 = .ok (.ireturn, 1) := by decide +kernel
theorem dX11_again_0 : decode cX11_again 0 = .ok (.iload_n 1, 1) := by decide +kernel
theorem dX11_again_1 : decode cX11_again 1 = .ok (.ifCond .lt 17, 3) := by decide +kernel
theorem dX11_again_4 : decode cX11_again 4 = .ok (.iload_n 1, 1) := by decide +kernel
theorem dX11_again_5 : decode cX11_again 5 = .ok (.iconst 3, 1) := by decide +kernel
theorem dX11_again_6 : decode cX11_again 6 = .ok (.if_icmp .ge 12, 3) := by decide +kernel
theorem dX11_again_9 : decode cX11_again 9 = .ok (.aload_n 0, 1) := by decide +kernel
theorem dX11_again_10 : decode cX11_again 10 = .ok (.getfield 16, 3) := by decide +kernel
theorem dX11_again_13 : decode cX11_again 13 = .ok (.iload_n 1, 1) := by decide +kernel
theorem dX11_again_14 : decode cX11_again 14 = .ok (.aaload, 1) := by decide +kernel
theorem dX11_again_15 : decode cX11_again 15 = .ok (.ifnonnull 5, 3) := by decide +kernel
theorem dX11_again_18 : decode cX11_again 18 = .ok (.iconst 0, 1) := by decide +kernel
theorem dX11_again_19 : decode cX11_again 19 = .ok (.ireturn, 1) := by decide +kernel
theorem dX11_again_20 : decode cX11_again 20 = .ok (.aload_n 0, 1) := by decide +kernel
theorem dX11_again_21 : decode cX11_again 21 = .ok (.getfield 10, 3) := by decide +kernel
theorem dX11_again_24 : decode cX11_again 24 = .ok (.aload_n 0, 1) := by decide +kernel
theorem dX11_again_25 : decode cX11_again 25 = .ok (.getfield 16, 3) := by decide +kernel
theorem dX11_again_28 : decode cX11_again 28 = .ok (.iload_n 1, 1) := by decide +kernel
theorem dX11_again_29 : decode cX11_again 29 = .ok (.aaload, 1) := by decide +kernel
theorem dX11_again_30 : decode cX11_again 30 = .ok (.invokevirtual 259, 3) := by decide +kernel
theorem dX11_again_33 : decode cX11_again 33 = .ok (.iconst 1, 1) := by decide +kernel
theorem dX11_again_34 : decode cX11_again 34 = .ok (.ireturn, 1) := by decide +kernel
theorem dX11_cellOrSize_0 : decode cX11_cellOrSize 0 = .ok (.aload_n 0, 1) := by decide +kernel
theorem dX11_cellOrSize_1 : decode cX11_cellOrSize 1 = .ok (.ifnull 13, 3) := by decide +kernel
theorem dX11_cellOrSize_4 : decode cX11_cellOrSize 4 = .ok (.iload_n 2, 1) := by decide +kernel
theorem dX11_cellOrSize_5 : decode cX11_cellOrSize 5 = .ok (.ifCond .lt 9, 3) := by decide +kernel
theorem dX11_cellOrSize_8 : decode cX11_cellOrSize 8 = .ok (.iload_n 2, 1) := by decide +kernel
theorem dX11_cellOrSize_9 : decode cX11_cellOrSize 9 = .ok (.iload 4, 2) := by decide +kernel
theorem dX11_cellOrSize_11 : decode cX11_cellOrSize 11 = .ok (.if_icmp .lt 6, 3) := by decide +kernel
theorem dX11_cellOrSize_14 : decode cX11_cellOrSize 14 = .ok (.bipush (-2), 2) := by decide +kernel
theorem dX11_cellOrSize_16 : decode cX11_cellOrSize 16 = .ok (.ireturn, 1) := by decide +kernel
theorem dX11_cellOrSize_17 : decode cX11_cellOrSize 17 = .ok (.iload_n 1, 1) := by decide +kernel
theorem dX11_cellOrSize_18 : decode cX11_cellOrSize 18 = .ok (.iconst (-1), 1) := by decide +kernel
theorem dX11_cellOrSize_19 : decode cX11_cellOrSize 19 = .ok (.if_icmp .ne 17, 3) := by decide +kernel
theorem dX11_cellOrSize_22 : decode cX11_cellOrSize 22 = .ok (.iload_n 2, 1) := by decide +kernel
theorem dX11_cellOrSize_23 : decode cX11_cellOrSize 23 = .ok (.ifCond .ne 10, 3) := by decide +kernel
theorem dX11_cellOrSize_26 : decode cX11_cellOrSize 26 = .ok (.aload_n 0, 1) := by decide +kernel
theorem dX11_cellOrSize_27 : decode cX11_cellOrSize 27 = .ok (.getfield 123, 3) := by decide +kernel
theorem dX11_cellOrSize_30 : decode cX11_cellOrSize 30 = .ok (.goto 5, 3) := by decide +kernel
theorem dX11_cellOrSize_33 : decode cX11_cellOrSize 33 = .ok (.bipush (-2), 2) := by decide +kernel
theorem dX11_cellOrSize_35 : decode cX11_cellOrSize 35 = .ok (.ireturn, 1) := by decide +kernel
theorem dX11_cellOrSize_36 : decode cX11_cellOrSize 36 = .ok (.iload_n 1, 1) := by decide +kernel
theorem dX11_cellOrSize_37 : decode cX11_cellOrSize 37 = .ok (.ifCond .lt 11, 3) := by decide +kernel
theorem dX11_cellOrSize_40 : decode cX11_cellOrSize 40 = .ok (.iload_n 1, 1) := by decide +kernel
theorem dX11_cellOrSize_41 : decode cX11_cellOrSize 41 = .ok (.aload_n 0, 1) := by decide +kernel
theorem dX11_cellOrSize_42 : decode cX11_cellOrSize 42 = .ok (.getfield 123, 3) := by decide +kernel
theorem dX11_cellOrSize_45 : decode cX11_cellOrSize 45 = .ok (.if_icmp .lt 8, 3) := by decide +kernel
theorem dX11_cellOrSize_48 : decode cX11_cellOrSize 48 = .ok (.bipush (-2), 2) := by decide +kernel
theorem dX11_cellOrSize_50 : decode cX11_cellOrSize 50 = .ok (.goto 9, 3) := by decide +kernel
theorem dX11_cellOrSize_53 : decode cX11_cellOrSize 53 = .ok (.aload_n 0, 1) := by decide +kernel
theorem dX11_cellOrSize_54 : decode cX11_cellOrSize 54 = .ok (.iload_n 1, 1) := by decide +kernel
theorem dX11_cellOrSize_55 : decode cX11_cellOrSize 55 = .ok (.iload_n 3, 1) := by decide +kernel
theorem dX11_cellOrSize_56 : decode cX11_cellOrSize 56 = .ok (.invokevirtual 263, 3) := by decide +kernel
theorem dX11_cellOrSize_59 : decode cX11_cellOrSize 59 = .ok (.ireturn, 1) := by decide +kernel
theorem dX11_asTold_0 : decode cX11_asTold 0 = .ok (.aload_n 0, 1) := by decide +kernel
theorem dX11_asTold_1 : decode cX11_asTold 1 = .ok (.getfield 10, 3) := by decide +kernel
theorem dX11_asTold_4 : decode cX11_asTold 4 = .ok (.iload_n 1, 1) := by decide +kernel
theorem dX11_asTold_5 : decode cX11_asTold 5 = .ok (.invokevirtual 105, 3) := by decide +kernel
theorem dX11_asTold_8 : decode cX11_asTold 8 = .ok (.astore_n 2, 1) := by decide +kernel
theorem dX11_asTold_9 : decode cX11_asTold 9 = .ok (.aload_n 2, 1) := by decide +kernel
theorem dX11_asTold_10 : decode cX11_asTold 10 = .ok (.ifnonnull 5, 3) := by decide +kernel
theorem dX11_asTold_13 : decode cX11_asTold 13 = .ok (.aconst_null, 1) := by decide +kernel
theorem dX11_asTold_14 : decode cX11_asTold 14 = .ok (.areturn, 1) := by decide +kernel
theorem dX11_asTold_15 : decode cX11_asTold 15 = .ok (.aload_n 0, 1) := by decide +kernel
theorem dX11_asTold_16 : decode cX11_asTold 16 = .ok (.getfield 30, 3) := by decide +kernel
theorem dX11_asTold_19 : decode cX11_asTold 19 = .ok (.getfield 266, 3) := by decide +kernel
theorem dX11_asTold_22 : decode cX11_asTold 22 = .ok (.aload_n 2, 1) := by decide +kernel
theorem dX11_asTold_23 : decode cX11_asTold 23 = .ok (.invokevirtual 270, 3) := by decide +kernel
theorem dX11_asTold_26 : decode cX11_asTold 26 = .ok (.aload_n 0, 1) := by decide +kernel
theorem dX11_asTold_27 : decode cX11_asTold 27 = .ok (.getfield 30, 3) := by decide +kernel
theorem dX11_asTold_30 : decode cX11_asTold 30 = .ok (.getfield 266, 3) := by decide +kernel
theorem dX11_asTold_33 : decode cX11_asTold 33 = .ok (.areturn, 1) := by decide +kernel
theorem dX11_has_0 : decode cX11_has 0 = .ok (.iload_n 0, 1) := by decide +kernel
theorem dX11_has_1 : decode cX11_has 1 = .ok (.iload_n 1, 1) := by decide +kernel
theorem dX11_has_2 : decode cX11_has 2 = .ok (.ishr, 1) := by decide +kernel
theorem dX11_has_3 : decode cX11_has 3 = .ok (.iconst 1, 1) := by decide +kernel
theorem dX11_has_4 : decode cX11_has 4 = .ok (.iand, 1) := by decide +kernel
theorem dX11_has_5 : decode cX11_has 5 = .ok (.ifCond .eq 7, 3) := by decide +kernel
theorem dX11_has_8 : decode cX11_has 8 = .ok (.iconst 1, 1) := by decide +kernel
theorem dX11_has_9 : decode cX11_has 9 = .ok (.goto 4, 3) := by decide +kernel
theorem dX11_has_12 : decode cX11_has 12 = .ok (.iconst 0, 1) := by decide +kernel
theorem dX11_has_13 : decode cX11_has 13 = .ok (.ireturn, 1) := by decide +kernel
theorem dX11_greatest_0 : decode cX11_greatest 0 = .ok (.iconst (-1), 1) := by decide +kernel
theorem dX11_greatest_1 : decode cX11_greatest 1 = .ok (.istore_n 2, 1) := by decide +kernel
theorem dX11_greatest_2 : decode cX11_greatest 2 = .ok (.iconst 0, 1) := by decide +kernel
theorem dX11_greatest_3 : decode cX11_greatest 3 = .ok (.istore_n 3, 1) := by decide +kernel
theorem dX11_greatest_4 : decode cX11_greatest 4 = .ok (.iconst 0, 1) := by decide +kernel
theorem dX11_greatest_5 : decode cX11_greatest 5 = .ok (.istore 4, 2) := by decide +kernel
theorem dX11_greatest_7 : decode cX11_greatest 7 = .ok (.iload 4, 2) := by decide +kernel
theorem dX11_greatest_9 : decode cX11_greatest 9 = .ok (.iload_n 1, 1) := by decide +kernel
theorem dX11_greatest_10 : decode cX11_greatest 10 = .ok (.if_icmp .ge 32, 3) := by decide +kernel
theorem dX11_greatest_13 : decode cX11_greatest 13 = .ok (.iload 4, 2) := by decide +kernel
theorem dX11_greatest_15 : decode cX11_greatest 15 = .ok (.aload_n 0, 1) := by decide +kernel
theorem dX11_greatest_16 : decode cX11_greatest 16 = .ok (.arraylength, 1) := by decide +kernel
theorem dX11_greatest_17 : decode cX11_greatest 17 = .ok (.if_icmp .ge 25, 3) := by decide +kernel
theorem dX11_greatest_20 : decode cX11_greatest 20 = .ok (.aload_n 0, 1) := by decide +kernel
theorem dX11_greatest_21 : decode cX11_greatest 21 = .ok (.iload 4, 2) := by decide +kernel
theorem dX11_greatest_23 : decode cX11_greatest 23 = .ok (.iaload, 1) := by decide +kernel
theorem dX11_greatest_24 : decode cX11_greatest 24 = .ok (.iload_n 3, 1) := by decide +kernel
theorem dX11_greatest_25 : decode cX11_greatest 25 = .ok (.if_icmp .le 11, 3) := by decide +kernel
theorem dX11_greatest_28 : decode cX11_greatest 28 = .ok (.aload_n 0, 1) := by decide +kernel
theorem dX11_greatest_29 : decode cX11_greatest 29 = .ok (.iload 4, 2) := by decide +kernel
theorem dX11_greatest_31 : decode cX11_greatest 31 = .ok (.iaload, 1) := by decide +kernel
theorem dX11_greatest_32 : decode cX11_greatest 32 = .ok (.istore_n 3, 1) := by decide +kernel
theorem dX11_greatest_33 : decode cX11_greatest 33 = .ok (.iload 4, 2) := by decide +kernel
theorem dX11_greatest_35 : decode cX11_greatest 35 = .ok (.istore_n 2, 1) := by decide +kernel
theorem dX11_greatest_36 : decode cX11_greatest 36 = .ok (.iinc 4 1, 3) := by decide +kernel
theorem dX11_greatest_39 : decode cX11_greatest 39 = .ok (.goto (-32), 3) := by decide +kernel
theorem dX11_greatest_42 : decode cX11_greatest 42 = .ok (.iload_n 2, 1) := by decide +kernel
theorem dX11_greatest_43 : decode cX11_greatest 43 = .ok (.ireturn, 1) := by decide +kernel
theorem dX11_commonDivisor_0 : decode cX11_commonDivisor 0 = .ok (.iload_n 0, 1) := by decide +kernel
theorem dX11_commonDivisor_1 : decode cX11_commonDivisor 1 = .ok (.istore_n 2, 1) := by decide +kernel
theorem dX11_commonDivisor_2 : decode cX11_commonDivisor 2 = .ok (.iload_n 1, 1) := by decide +kernel
theorem dX11_commonDivisor_3 : decode cX11_commonDivisor 3 = .ok (.istore_n 3, 1) := by decide +kernel
theorem dX11_commonDivisor_4 : decode cX11_commonDivisor 4 = .ok (.iconst 0, 1) := by decide +kernel
theorem dX11_commonDivisor_5 : decode cX11_commonDivisor 5 = .ok (.istore 4, 2) := by decide +kernel
theorem dX11_commonDivisor_7 : decode cX11_commonDivisor 7 = .ok (.iload 4, 2) := by decide +kernel
theorem dX11_commonDivisor_9 : decode cX11_commonDivisor 9 = .ok (.bipush 64, 2) := by decide +kernel
theorem dX11_commonDivisor_11 : decode cX11_commonDivisor 11 = .ok (.if_icmp .ge 23, 3) := by decide +kernel
theorem dX11_commonDivisor_14 : decode cX11_commonDivisor 14 = .ok (.iload_n 3, 1) := by decide +kernel
theorem dX11_commonDivisor_15 : decode cX11_commonDivisor 15 = .ok (.ifCond .le 19, 3) := by decide +kernel
theorem dX11_commonDivisor_18 : decode cX11_commonDivisor 18 = .ok (.iload_n 2, 1) := by decide +kernel
theorem dX11_commonDivisor_19 : decode cX11_commonDivisor 19 = .ok (.iload_n 3, 1) := by decide +kernel
theorem dX11_commonDivisor_20 : decode cX11_commonDivisor 20 = .ok (.irem, 1) := by decide +kernel
theorem dX11_commonDivisor_21 : decode cX11_commonDivisor 21 = .ok (.istore 5, 2) := by decide +kernel
theorem dX11_commonDivisor_23 : decode cX11_commonDivisor 23 = .ok (.iload_n 3, 1) := by decide +kernel
theorem dX11_commonDivisor_24 : decode cX11_commonDivisor 24 = .ok (.istore_n 2, 1) := by decide +kernel
theorem dX11_commonDivisor_25 : decode cX11_commonDivisor 25 = .ok (.iload 5, 2) := by decide +kernel
theorem dX11_commonDivisor_27 : decode cX11_commonDivisor 27 = .ok (.istore_n 3, 1) := by decide +kernel
theorem dX11_commonDivisor_28 : decode cX11_commonDivisor 28 = .ok (.iinc 4 1, 3) := by decide +kernel
theorem dX11_commonDivisor_31 : decode cX11_commonDivisor 31 = .ok (.goto (-24), 3) := by decide +kernel
theorem dX11_commonDivisor_34 : decode cX11_commonDivisor 34 = .ok (.iload_n 2, 1) := by decide +kernel
theorem dX11_commonDivisor_35 : decode cX11_commonDivisor 35 = .ok (.iconst 1, 1) := by decide +kernel
theorem dX11_commonDivisor_36 : decode cX11_commonDivisor 36 = .ok (.invokestatic 274, 3) := by decide +kernel
theorem dX11_commonDivisor_39 : decode cX11_commonDivisor 39 = .ok (.ireturn, 1) := by decide +kernel
theorem dJ6_bitCount_0f7a4_0 : decode cJ6_bitCount_0f7a4 0 = .ok (.iload_n 0, 1) := by decide +kernel
theorem dJ6_bitCount_0f7a4_1 : decode cJ6_bitCount_0f7a4 1 = .ok (.iload_n 0, 1) := by decide +kernel
theorem dJ6_bitCount_0f7a4_2 : decode cJ6_bitCount_0f7a4 2 = .ok (.iconst 1, 1) := by decide +kernel
theorem dJ6_bitCount_0f7a4_3 : decode cJ6_bitCount_0f7a4 3 = .ok (.iushr, 1) := by decide +kernel
theorem dJ6_bitCount_0f7a4_4 : decode cJ6_bitCount_0f7a4 4 = .ok (.ldc_w 265, 3) := by decide +kernel
theorem dJ6_bitCount_0f7a4_7 : decode cJ6_bitCount_0f7a4 7 = .ok (.iand, 1) := by decide +kernel
theorem dJ6_bitCount_0f7a4_8 : decode cJ6_bitCount_0f7a4 8 = .ok (.isub, 1) := by decide +kernel
theorem dJ6_bitCount_0f7a4_9 : decode cJ6_bitCount_0f7a4 9 = .ok (.istore_n 0, 1) := by decide +kernel
theorem dJ6_bitCount_0f7a4_10 : decode cJ6_bitCount_0f7a4 10 = .ok (.iload_n 0, 1) := by decide +kernel
theorem dJ6_bitCount_0f7a4_11 : decode cJ6_bitCount_0f7a4 11 = .ok (.ldc_w 266, 3) := by decide +kernel
theorem dJ6_bitCount_0f7a4_14 : decode cJ6_bitCount_0f7a4 14 = .ok (.iand, 1) := by decide +kernel
theorem dJ6_bitCount_0f7a4_15 : decode cJ6_bitCount_0f7a4 15 = .ok (.iload_n 0, 1) := by decide +kernel
theorem dJ6_bitCount_0f7a4_16 : decode cJ6_bitCount_0f7a4 16 = .ok (.iconst 2, 1) := by decide +kernel
theorem dJ6_bitCount_0f7a4_17 : decode cJ6_bitCount_0f7a4 17 = .ok (.iushr, 1) := by decide +kernel
theorem dJ6_bitCount_0f7a4_18 : decode cJ6_bitCount_0f7a4 18 = .ok (.ldc_w 266, 3) := by decide +kernel
theorem dJ6_bitCount_0f7a4_21 : decode cJ6_bitCount_0f7a4 21 = .ok (.iand, 1) := by decide +kernel
theorem dJ6_bitCount_0f7a4_22 : decode cJ6_bitCount_0f7a4 22 = .ok (.iadd, 1) := by decide +kernel
theorem dJ6_bitCount_0f7a4_23 : decode cJ6_bitCount_0f7a4 23 = .ok (.istore_n 0, 1) := by decide +kernel
theorem dJ6_bitCount_0f7a4_24 : decode cJ6_bitCount_0f7a4 24 = .ok (.iload_n 0, 1) := by decide +kernel
theorem dJ6_bitCount_0f7a4_25 : decode cJ6_bitCount_0f7a4 25 = .ok (.iload_n 0, 1) := by decide +kernel
theorem dJ6_bitCount_0f7a4_26 : decode cJ6_bitCount_0f7a4 26 = .ok (.iconst 4, 1) := by decide +kernel
theorem dJ6_bitCount_0f7a4_27 : decode cJ6_bitCount_0f7a4 27 = .ok (.iushr, 1) := by decide +kernel
theorem dJ6_bitCount_0f7a4_28 : decode cJ6_bitCount_0f7a4 28 = .ok (.iadd, 1) := by decide +kernel
theorem dJ6_bitCount_0f7a4_29 : decode cJ6_bitCount_0f7a4 29 = .ok (.ldc_w 267, 3) := by decide +kernel
theorem dJ6_bitCount_0f7a4_32 : decode cJ6_bitCount_0f7a4 32 = .ok (.iand, 1) := by decide +kernel
theorem dJ6_bitCount_0f7a4_33 : decode cJ6_bitCount_0f7a4 33 = .ok (.istore_n 0, 1) := by decide +kernel
theorem dJ6_bitCount_0f7a4_34 : decode cJ6_bitCount_0f7a4 34 = .ok (.iload_n 0, 1) := by decide +kernel
theorem dJ6_bitCount_0f7a4_35 : decode cJ6_bitCount_0f7a4 35 = .ok (.iload_n 0, 1) := by decide +kernel
theorem dJ6_bitCount_0f7a4_36 : decode cJ6_bitCount_0f7a4 36 = .ok (.bipush 8, 2) := by decide +kernel
theorem dJ6_bitCount_0f7a4_38 : decode cJ6_bitCount_0f7a4 38 = .ok (.iushr, 1) := by decide +kernel
theorem dJ6_bitCount_0f7a4_39 : decode cJ6_bitCount_0f7a4 39 = .ok (.iadd, 1) := by decide +kernel
theorem dJ6_bitCount_0f7a4_40 : decode cJ6_bitCount_0f7a4 40 = .ok (.istore_n 0, 1) := by decide +kernel
theorem dJ6_bitCount_0f7a4_41 : decode cJ6_bitCount_0f7a4 41 = .ok (.iload_n 0, 1) := by decide +kernel
theorem dJ6_bitCount_0f7a4_42 : decode cJ6_bitCount_0f7a4 42 = .ok (.iload_n 0, 1) := by decide +kernel
theorem dJ6_bitCount_0f7a4_43 : decode cJ6_bitCount_0f7a4 43 = .ok (.bipush 16, 2) := by decide +kernel
theorem dJ6_bitCount_0f7a4_45 : decode cJ6_bitCount_0f7a4 45 = .ok (.iushr, 1) := by decide +kernel
theorem dJ6_bitCount_0f7a4_46 : decode cJ6_bitCount_0f7a4 46 = .ok (.iadd, 1) := by decide +kernel
theorem dJ6_bitCount_0f7a4_47 : decode cJ6_bitCount_0f7a4 47 = .ok (.istore_n 0, 1) := by decide +kernel
theorem dJ6_bitCount_0f7a4_48 : decode cJ6_bitCount_0f7a4 48 = .ok (.iload_n 0, 1) := by decide +kernel
theorem dJ6_bitCount_0f7a4_49 : decode cJ6_bitCount_0f7a4 49 = .ok (.bipush 63, 2) := by decide +kernel
theorem dJ6_bitCount_0f7a4_51 : decode cJ6_bitCount_0f7a4 51 = .ok (.iand, 1) := by decide +kernel
theorem dJ6_bitCount_0f7a4_52 : decode cJ6_bitCount_0f7a4 52 = .ok (.ireturn, 1) := by decide +kernel
theorem dJ9_max_7cf53_0 : decode cJ9_max_7cf53 0 = .ok (.iload_n 0, 1) := by decide +kernel
theorem dJ9_max_7cf53_1 : decode cJ9_max_7cf53 1 = .ok (.iload_n 1, 1) := by decide +kernel
theorem dJ9_max_7cf53_2 : decode cJ9_max_7cf53 2 = .ok (.if_icmp .lt 7, 3) := by decide +kernel
theorem dJ9_max_7cf53_5 : decode cJ9_max_7cf53 5 = .ok (.iload_n 0, 1) := by decide +kernel
theorem dJ9_max_7cf53_6 : decode cJ9_max_7cf53 6 = .ok (.goto 4, 3) := by decide +kernel
theorem dJ9_max_7cf53_9 : decode cJ9_max_7cf53 9 = .ok (.iload_n 1, 1) := by decide +kernel
theorem dJ9_max_7cf53_10 : decode cJ9_max_7cf53 10 = .ok (.ireturn, 1) := by decide +kernel
theorem dJ9_min_7cf53_0 : decode cJ9_min_7cf53 0 = .ok (.iload_n 0, 1) := by decide +kernel
theorem dJ9_min_7cf53_1 : decode cJ9_min_7cf53 1 = .ok (.iload_n 1, 1) := by decide +kernel
theorem dJ9_min_7cf53_2 : decode cJ9_min_7cf53 2 = .ok (.if_icmp .gt 7, 3) := by decide +kernel
theorem dJ9_min_7cf53_5 : decode cJ9_min_7cf53 5 = .ok (.iload_n 0, 1) := by decide +kernel
theorem dJ9_min_7cf53_6 : decode cJ9_min_7cf53 6 = .ok (.goto 4, 3) := by decide +kernel
theorem dJ9_min_7cf53_9 : decode cJ9_min_7cf53 9 = .ok (.iload_n 1, 1) := by decide +kernel
theorem dJ9_min_7cf53_10 : decode cJ9_min_7cf53 10 = .ok (.ireturn, 1) := by decide +kernel
theorem dJ0_length_8abf5_0 : decode cJ0_length_8abf5 0 = .ok (.aload_n 0, 1) := by decide +kernel
theorem dJ0_length_8abf5_1 : decode cJ0_length_8abf5 1 = .ok (.getfield 9, 3) := by decide +kernel
theorem dJ0_length_8abf5_4 : decode cJ0_length_8abf5 4 = .ok (.arraylength, 1) := by decide +kernel
theorem dJ0_length_8abf5_5 : decode cJ0_length_8abf5 5 = .ok (.aload_n 0, 1) := by decide +kernel
theorem dJ0_length_8abf5_6 : decode cJ0_length_8abf5 6 = .ok (.invokevirtual 335, 3) := by decide +kernel
theorem dJ0_length_8abf5_9 : decode cJ0_length_8abf5 9 = .ok (.ishr, 1) := by decide +kernel
theorem dJ0_length_8abf5_10 : decode cJ0_length_8abf5 10 = .ok (.ireturn, 1) := by decide +kernel
theorem dJ0_charAt_5068e_0 : decode cJ0_charAt_5068e 0 = .ok (.aload_n 0, 1) := by decide +kernel
theorem dJ0_charAt_5068e_1 : decode cJ0_charAt_5068e 1 = .ok (.invokevirtual 492, 3) := by decide +kernel
theorem dJ0_charAt_5068e_4 : decode cJ0_charAt_5068e 4 = .ok (.ifCond .eq 12, 3) := by decide +kernel
theorem dJ0_charAt_5068e_7 : decode cJ0_charAt_5068e 7 = .ok (.aload_n 0, 1) := by decide +kernel
theorem dJ0_charAt_5068e_8 : decode cJ0_charAt_5068e 8 = .ok (.getfield 9, 3) := by decide +kernel
theorem dJ0_charAt_5068e_11 : decode cJ0_charAt_5068e 11 = .ok (.iload_n 1, 1) := by decide +kernel
theorem dJ0_charAt_5068e_12 : decode cJ0_charAt_5068e 12 = .ok (.invokestatic 495, 3) := by decide +kernel
theorem dJ0_charAt_5068e_15 : decode cJ0_charAt_5068e 15 = .ok (.ireturn, 1) := by decide +kernel
theorem dJ0_charAt_5068e_16 : decode cJ0_charAt_5068e 16 = .ok (.aload_n 0, 1) := by decide +kernel
theorem dJ0_charAt_5068e_17 : decode cJ0_charAt_5068e 17 = .ok (.getfield 9, 3) := by decide +kernel
theorem dJ0_charAt_5068e_20 : decode cJ0_charAt_5068e 20 = .ok (.iload_n 1, 1) := by decide +kernel
theorem dJ0_charAt_5068e_21 : decode cJ0_charAt_5068e 21 = .ok (.invokestatic 498, 3) := by decide +kernel
theorem dJ0_charAt_5068e_24 : decode cJ0_charAt_5068e 24 = .ok (.ireturn, 1) := by decide +kernel
theorem dJ0_coder_7d493_0 : decode cJ0_coder_7d493 0 = .ok (.getstatic 38, 3) := by decide +kernel
theorem dJ0_coder_7d493_3 : decode cJ0_coder_7d493 3 = .ok (.ifCond .eq 10, 3) := by decide +kernel
theorem dJ0_coder_7d493_6 : decode cJ0_coder_7d493 6 = .ok (.aload_n 0, 1) := by decide +kernel
theorem dJ0_coder_7d493_7 : decode cJ0_coder_7d493 7 = .ok (.getfield 15, 3) := by decide +kernel
theorem dJ0_coder_7d493_10 : decode cJ0_coder_7d493 10 = .ok (.goto 4, 3) := by decide +kernel
theorem dJ0_coder_7d493_13 : decode cJ0_coder_7d493 13 = .ok (.iconst 1, 1) := by decide +kernel
theorem dJ0_coder_7d493_14 : decode cJ0_coder_7d493 14 = .ok (.ireturn, 1) := by decide +kernel
theorem dJ0_isLatin1_aae02_0 : decode cJ0_isLatin1_aae02 0 = .ok (.getstatic 38, 3) := by decide +kernel
theorem dJ0_isLatin1_aae02_3 : decode cJ0_isLatin1_aae02 3 = .ok (.ifCond .eq 14, 3) := by decide +kernel
theorem dJ0_isLatin1_aae02_6 : decode cJ0_isLatin1_aae02 6 = .ok (.aload_n 0, 1) := by decide +kernel
theorem dJ0_isLatin1_aae02_7 : decode cJ0_isLatin1_aae02 7 = .ok (.getfield 15, 3) := by decide +kernel
theorem dJ0_isLatin1_aae02_10 : decode cJ0_isLatin1_aae02 10 = .ok (.ifCond .ne 7, 3) := by decide +kernel
theorem dJ0_isLatin1_aae02_13 : decode cJ0_isLatin1_aae02 13 = .ok (.iconst 1, 1) := by decide +kernel
theorem dJ0_isLatin1_aae02_14 : decode cJ0_isLatin1_aae02 14 = .ok (.goto 4, 3) := by decide +kernel
theorem dJ0_isLatin1_aae02_17 : decode cJ0_isLatin1_aae02 17 = .ok (.iconst 0, 1) := by decide +kernel
theorem dJ0_isLatin1_aae02_18 : decode cJ0_isLatin1_aae02 18 = .ok (.ireturn, 1) := by decide +kernel
theorem dJ0_checkIndex_df160_0 : decode cJ0_checkIndex_df160 0 = .ok (.iload_n 0, 1) := by decide +kernel
theorem dJ0_checkIndex_df160_1 : decode cJ0_checkIndex_df160 1 = .ok (.iload_n 1, 1) := by decide +kernel
theorem dJ0_checkIndex_df160_2 : decode cJ0_checkIndex_df160 2 = .ok (.getstatic 1053, 3) := by decide +kernel
theorem dJ0_checkIndex_df160_5 : decode cJ0_checkIndex_df160 5 = .ok (.invokestatic 1059, 3) := by decide +kernel
theorem dJ0_checkIndex_df160_8 : decode cJ0_checkIndex_df160 8 = .ok (.pop, 1) := by decide +kernel
theorem dJ0_checkIndex_df160_9 : decode cJ0_checkIndex_df160 9 = .ok (.return_, 1) := by decide +kernel
theorem dJ1_charAt_3b067_0 : decode cJ1_charAt_3b067 0 = .ok (.iload_n 1, 1) := by decide +kernel
theorem dJ1_charAt_3b067_1 : decode cJ1_charAt_3b067 1 = .ok (.aload_n 0, 1) := by decide +kernel
theorem dJ1_charAt_3b067_2 : decode cJ1_charAt_3b067 2 = .ok (.arraylength, 1) := by decide +kernel
theorem dJ1_charAt_3b067_3 : decode cJ1_charAt_3b067 3 = .ok (.invokestatic 9, 3) := by decide +kernel
theorem dJ1_charAt_3b067_6 : decode cJ1_charAt_3b067 6 = .ok (.aload_n 0, 1) := by decide +kernel
theorem dJ1_charAt_3b067_7 : decode cJ1_charAt_3b067 7 = .ok (.iload_n 1, 1) := by decide +kernel
theorem dJ1_charAt_3b067_8 : decode cJ1_charAt_3b067 8 = .ok (.baload, 1) := by decide +kernel
theorem dJ1_charAt_3b067_9 : decode cJ1_charAt_3b067 9 = .ok (.sipush 255, 3) := by decide +kernel
theorem dJ1_charAt_3b067_12 : decode cJ1_charAt_3b067 12 = .ok (.iand, 1) := by decide +kernel
theorem dJ1_charAt_3b067_13 : decode cJ1_charAt_3b067 13 = .ok (.i2c, 1) := by decide +kernel
theorem dJ1_charAt_3b067_14 : decode cJ1_charAt_3b067 14 = .ok (.ireturn, 1) := by decide +kernel
theorem dJ2_getChar_3b067_0 : decode cJ2_getChar_3b067 0 = .ok (.getstatic 44, 3) := by decide +kernel
theorem dJ2_getChar_3b067_3 : decode cJ2_getChar_3b067 3 = .ok (.ifCond .ne 25, 3) := by decide +kernel
theorem dJ2_getChar_3b067_6 : decode cJ2_getChar_3b067 6 = .ok (.iload_n 1, 1) := by decide +kernel
theorem dJ2_getChar_3b067_7 : decode cJ2_getChar_3b067 7 = .ok (.ifCond .lt 11, 3) := by decide +kernel
theorem dJ2_getChar_3b067_10 : decode cJ2_getChar_3b067 10 = .ok (.iload_n 1, 1) := by decide +kernel
theorem dJ2_getChar_3b067_11 : decode cJ2_getChar_3b067 11 = .ok (.aload_n 0, 1) := by decide +kernel
theorem dJ2_getChar_3b067_12 : decode cJ2_getChar_3b067 12 = .ok (.invokestatic 48, 3) := by decide +kernel
theorem dJ2_getChar_3b067_15 : decode cJ2_getChar_3b067 15 = .ok (.if_icmp .lt 13, 3) := by decide +kernel
theorem dJ2_getChar_3b067_18 : decode cJ2_getChar_3b067 18 = .ok (.new 52, 3) := by decide +kernel
theorem dJ2_getChar_3b067_21 : decode cJ2_getChar_3b067 21 = .ok (.dup, 1) := by decide +kernel
theorem dJ2_getChar_3b067_22 : decode cJ2_getChar_3b067 22 = .ok (.ldc 54, 2) := by decide +kernel
theorem dJ2_getChar_3b067_24 : decode cJ2_getChar_3b067 24 = .ok (.invokespecial 56, 3) := by decide +kernel
theorem dJ2_getChar_3b067_27 : decode cJ2_getChar_3b067 27 = .ok (.athrow, 1) := by decide +kernel
theorem dJ2_getChar_3b067_28 : decode cJ2_getChar_3b067 28 = .ok (.iload_n 1, 1) := by decide +kernel
theorem dJ2_getChar_3b067_29 : decode cJ2_getChar_3b067 29 = .ok (.iconst 1, 1) := by decide +kernel
theorem dJ2_getChar_3b067_30 : decode cJ2_getChar_3b067 30 = .ok (.ishl, 1) := by decide +kernel
theorem dJ2_getChar_3b067_31 : decode cJ2_getChar_3b067 31 = .ok (.istore_n 1, 1) := by decide +kernel
theorem dJ2_getChar_3b067_32 : decode cJ2_getChar_3b067 32 = .ok (.aload_n 0, 1) := by decide +kernel
theorem dJ2_getChar_3b067_33 : decode cJ2_getChar_3b067 33 = .ok (.iload_n 1, 1) := by decide +kernel
theorem dJ2_getChar_3b067_34 : decode cJ2_getChar_3b067 34 = .ok (.iinc 1 1, 3) := by decide +kernel
theorem dJ2_getChar_3b067_37 : decode cJ2_getChar_3b067 37 = .ok (.baload, 1) := by decide +kernel
theorem dJ2_getChar_3b067_38 : decode cJ2_getChar_3b067 38 = .ok (.sipush 255, 3) := by decide +kernel
theorem dJ2_getChar_3b067_41 : decode cJ2_getChar_3b067 41 = .ok (.iand, 1) := by decide +kernel
theorem dJ2_getChar_3b067_42 : decode cJ2_getChar_3b067 42 = .ok (.getstatic 59, 3) := by decide +kernel
theorem dJ2_getChar_3b067_45 : decode cJ2_getChar_3b067 45 = .ok (.ishl, 1) := by decide +kernel
theorem dJ2_getChar_3b067_46 : decode cJ2_getChar_3b067 46 = .ok (.aload_n 0, 1) := by decide +kernel
theorem dJ2_getChar_3b067_47 : decode cJ2_getChar_3b067 47 = .ok (.iload_n 1, 1) := by decide +kernel
theorem dJ2_getChar_3b067_48 : decode cJ2_getChar_3b067 48 = .ok (.baload, 1) := by decide +kernel
theorem dJ2_getChar_3b067_49 : decode cJ2_getChar_3b067 49 = .ok (.sipush 255, 3) := by decide +kernel
theorem dJ2_getChar_3b067_52 : decode cJ2_getChar_3b067 52 = .ok (.iand, 1) := by decide +kernel
theorem dJ2_getChar_3b067_53 : decode cJ2_getChar_3b067 53 = .ok (.getstatic 63, 3) := by decide +kernel
theorem dJ2_getChar_3b067_56 : decode cJ2_getChar_3b067 56 = .ok (.ishl, 1) := by decide +kernel
theorem dJ2_getChar_3b067_57 : decode cJ2_getChar_3b067 57 = .ok (.ior, 1) := by decide +kernel
theorem dJ2_getChar_3b067_58 : decode cJ2_getChar_3b067 58 = .ok (.i2c, 1) := by decide +kernel
theorem dJ2_getChar_3b067_59 : decode cJ2_getChar_3b067 59 = .ok (.ireturn, 1) := by decide +kernel
theorem dJ2_length_9d52b_0 : decode cJ2_length_9d52b 0 = .ok (.aload_n 0, 1) := by decide +kernel
theorem dJ2_length_9d52b_1 : decode cJ2_length_9d52b 1 = .ok (.arraylength, 1) := by decide +kernel
theorem dJ2_length_9d52b_2 : decode cJ2_length_9d52b 2 = .ok (.iconst 1, 1) := by decide +kernel
theorem dJ2_length_9d52b_3 : decode cJ2_length_9d52b 3 = .ok (.ishr, 1) := by decide +kernel
theorem dJ2_length_9d52b_4 : decode cJ2_length_9d52b 4 = .ok (.ireturn, 1) := by decide +kernel
theorem dJ2_charAt_3b067_0 : decode cJ2_charAt_3b067 0 = .ok (.iload_n 1, 1) := by decide +kernel
theorem dJ2_charAt_3b067_1 : decode cJ2_charAt_3b067 1 = .ok (.aload_n 0, 1) := by decide +kernel
theorem dJ2_charAt_3b067_2 : decode cJ2_charAt_3b067 2 = .ok (.invokestatic 67, 3) := by decide +kernel
theorem dJ2_charAt_3b067_5 : decode cJ2_charAt_3b067 5 = .ok (.aload_n 0, 1) := by decide +kernel
theorem dJ2_charAt_3b067_6 : decode cJ2_charAt_3b067 6 = .ok (.iload_n 1, 1) := by decide +kernel
theorem dJ2_charAt_3b067_7 : decode cJ2_charAt_3b067 7 = .ok (.invokestatic 71, 3) := by decide +kernel
theorem dJ2_charAt_3b067_10 : decode cJ2_charAt_3b067 10 = .ok (.ireturn, 1) := by decide +kernel
theorem dJ2_checkIndex_2214a_0 : decode cJ2_checkIndex_2214a 0 = .ok (.iload_n 0, 1) := by decide +kernel
theorem dJ2_checkIndex_2214a_1 : decode cJ2_checkIndex_2214a 1 = .ok (.aload_n 1, 1) := by decide +kernel
theorem dJ2_checkIndex_2214a_2 : decode cJ2_checkIndex_2214a 2 = .ok (.invokestatic 48, 3) := by decide +kernel
theorem dJ2_checkIndex_2214a_5 : decode cJ2_checkIndex_2214a 5 = .ok (.invokestatic 414, 3) := by decide +kernel
theorem dJ2_checkIndex_2214a_8 : decode cJ2_checkIndex_2214a 8 = .ok (.return_, 1) := by decide +kernel
theorem dJ3_checkIndex_8e157_0 : decode cJ3_checkIndex_8e157 0 = .ok (.iload_n 0, 1) := by decide +kernel
theorem dJ3_checkIndex_8e157_1 : decode cJ3_checkIndex_8e157 1 = .ok (.ifCond .lt 8, 3) := by decide +kernel
theorem dJ3_checkIndex_8e157_4 : decode cJ3_checkIndex_8e157 4 = .ok (.iload_n 0, 1) := by decide +kernel
theorem dJ3_checkIndex_8e157_5 : decode cJ3_checkIndex_8e157 5 = .ok (.iload_n 1, 1) := by decide +kernel
theorem dJ3_checkIndex_8e157_6 : decode cJ3_checkIndex_8e157 6 = .ok (.if_icmp .lt 10, 3) := by decide +kernel
theorem dJ3_checkIndex_8e157_9 : decode cJ3_checkIndex_8e157 9 = .ok (.aload_n 2, 1) := by decide +kernel
theorem dJ3_checkIndex_8e157_10 : decode cJ3_checkIndex_8e157 10 = .ok (.iload_n 0, 1) := by decide +kernel
theorem dJ3_checkIndex_8e157_11 : decode cJ3_checkIndex_8e157 11 = .ok (.iload_n 1, 1) := by decide +kernel
theorem dJ3_checkIndex_8e157_12 : decode cJ3_checkIndex_8e157 12 = .ok (.invokestatic 95, 3) := by decide +kernel
theorem dJ3_checkIndex_8e157_15 : decode cJ3_checkIndex_8e157 15 = .ok (.athrow, 1) := by decide +kernel
theorem dJ3_checkIndex_8e157_16 : decode cJ3_checkIndex_8e157 16 = .ok (.iload_n 0, 1) := by decide +kernel
theorem dJ3_checkIndex_8e157_17 : decode cJ3_checkIndex_8e157 17 = .ok (.ireturn, 1) := by decide +kernel
