theorem dX0_init_0 : decode cX0_init 0 = .ok (.aload_n 0, 1) := by decide +kernel
theorem dX0_init_1 : decode cX0_init 1 = .ok (.invokespecial 3, 3) := by decide +kernel
theorem dX0_init_4 : decode cX0_init 4 = .ok (.aload_n 0, 1) := by decide +kernel
theorem dX0_init_5 : decode cX0_init 5 = .ok (.bipush 20, 2) := by decide +kernel
theorem dX0_init_7 : decode cX0_init 7 = .ok (.newarray .int, 2) := by decide +kernel
theorem dX0_init_9 : decode cX0_init 9 = .ok (.putfield 9, 3) := by decide +kernel
theorem dX0_init_12 : decode cX0_init 12 = .ok (.aload_n 0, 1) := by decide +kernel
theorem dX0_init_13 : decode cX0_init 13 = .ok (.bipush 21, 2) := by decide +kernel
theorem dX0_init_15 : decode cX0_init 15 = .ok (.newarray .int, 2) := by decide +kernel
theorem dX0_init_17 : decode cX0_init 17 = .ok (.putfield 15, 3) := by decide +kernel
theorem dX0_init_20 : decode cX0_init 20 = .ok (.aload_n 0, 1) := by decide +kernel
theorem dX0_init_21 : decode cX0_init 21 = .ok (.iconst 0, 1) := by decide +kernel
theorem dX0_init_22 : decode cX0_init 22 = .ok (.putfield 18, 3) := by decide +kernel
theorem dX0_init_25 : decode cX0_init 25 = .ok (.return_, 1) := by decide +kernel
theorem dX0_arrange_0 : decode cX0_arrange 0 = .ok (.aload_n 0, 1) := by decide +kernel
theorem dX0_arrange_1 : decode cX0_arrange 1 = .ok (.aload_n 1, 1) := by decide +kernel
theorem dX0_arrange_2 : decode cX0_arrange 2 = .ok (.invokevirtual 22, 3) := by decide +kernel
theorem dX0_arrange_5 : decode cX0_arrange 5 = .ok (.aload_n 1, 1) := by decide +kernel
theorem dX0_arrange_6 : decode cX0_arrange 6 = .ok (.invokevirtual 26, 3) := by decide +kernel
theorem dX0_arrange_9 : decode cX0_arrange 9 = .ok (.ifCond .eq 19, 3) := by decide +kernel
theorem dX0_arrange_12 : decode cX0_arrange 12 = .ok (.aload_n 0, 1) := by decide +kernel
theorem dX0_arrange_13 : decode cX0_arrange 13 = .ok (.aload_n 0, 1) := by decide +kernel
theorem dX0_arrange_14 : decode cX0_arrange 14 = .ok (.aload_n 1, 1) := by decide +kernel
theorem dX0_arrange_15 : decode cX0_arrange 15 = .ok (.aload_n 1, 1) := by decide +kernel
theorem dX0_arrange_16 : decode cX0_arrange 16 = .ok (.getfield 32, 3) := by decide +kernel
theorem dX0_arrange_19 : decode cX0_arrange 19 = .ok (.invokevirtual 35, 3) := by decide +kernel
theorem dX0_arrange_22 : decode cX0_arrange 22 = .ok (.putfield 18, 3) := by decide +kernel
theorem dX0_arrange_25 : decode cX0_arrange 25 = .ok (.goto 39, 3) := by decide +kernel
theorem dX0_arrange_28 : decode cX0_arrange 28 = .ok (.aload_n 0, 1) := by decide +kernel
theorem dX0_arrange_29 : decode cX0_arrange 29 = .ok (.aload_n 1, 1) := by decide +kernel
theorem dX0_arrange_30 : decode cX0_arrange 30 = .ok (.getfield 39, 3) := by decide +kernel
theorem dX0_arrange_33 : decode cX0_arrange 33 = .ok (.ifCond .le 7, 3) := by decide +kernel
theorem dX0_arrange_36 : decode cX0_arrange 36 = .ok (.iconst 1, 1) := by decide +kernel
theorem dX0_arrange_37 : decode cX0_arrange 37 = .ok (.goto 4, 3) := by decide +kernel
theorem dX0_arrange_40 : decode cX0_arrange 40 = .ok (.iconst 0, 1) := by decide +kernel
theorem dX0_arrange_41 : decode cX0_arrange 41 = .ok (.putfield 18, 3) := by decide +kernel
theorem dX0_arrange_44 : decode cX0_arrange 44 = .ok (.aload_n 0, 1) := by decide +kernel
theorem dX0_arrange_45 : decode cX0_arrange 45 = .ok (.getfield 15, 3) := by decide +kernel
theorem dX0_arrange_48 : decode cX0_arrange 48 = .ok (.iconst 0, 1) := by decide +kernel
theorem dX0_arrange_49 : decode cX0_arrange 49 = .ok (.iconst 0, 1) := by decide +kernel
theorem dX0_arrange_50 : decode cX0_arrange 50 = .ok (.iastore, 1) := by decide +kernel
theorem dX0_arrange_51 : decode cX0_arrange 51 = .ok (.aload_n 0, 1) := by decide +kernel
theorem dX0_arrange_52 : decode cX0_arrange 52 = .ok (.getfield 15, 3) := by decide +kernel
theorem dX0_arrange_55 : decode cX0_arrange 55 = .ok (.aload_n 0, 1) := by decide +kernel
theorem dX0_arrange_56 : decode cX0_arrange 56 = .ok (.getfield 18, 3) := by decide +kernel
theorem dX0_arrange_59 : decode cX0_arrange 59 = .ok (.aload_n 1, 1) := by decide +kernel
theorem dX0_arrange_60 : decode cX0_arrange 60 = .ok (.getfield 39, 3) := by decide +kernel
theorem dX0_arrange_63 : decode cX0_arrange 63 = .ok (.iastore, 1) := by decide +kernel
theorem dX0_arrange_64 : decode cX0_arrange 64 = .ok (.return_, 1) := by decide +kernel
theorem dX0_putInSequence_0 : decode cX0_putInSequence 0 = .ok (.iconst 0, 1) := by decide +kernel
theorem dX0_putInSequence_1 : decode cX0_putInSequence 1 = .ok (.istore_n 2, 1) := by decide +kernel
theorem dX0_putInSequence_2 : decode cX0_putInSequence 2 = .ok (.iload_n 2, 1) := by decide +kernel
theorem dX0_putInSequence_3 : decode cX0_putInSequence 3 = .ok (.aload_n 1, 1) := by decide +kernel
theorem dX0_putInSequence_4 : decode cX0_putInSequence 4 = .ok (.getfield 39, 3) := by decide +kernel
theorem dX0_putInSequence_7 : decode cX0_putInSequence 7 = .ok (.if_icmp .ge 78, 3) := by decide +kernel
theorem dX0_putInSequence_10 : decode cX0_putInSequence 10 = .ok (.aload_n 1, 1) := by decide +kernel
theorem dX0_putInSequence_11 : decode cX0_putInSequence 11 = .ok (.getfield 42, 3) := by decide +kernel
theorem dX0_putInSequence_14 : decode cX0_putInSequence 14 = .ok (.iload_n 2, 1) := by decide +kernel
theorem dX0_putInSequence_15 : decode cX0_putInSequence 15 = .ok (.aaload, 1) := by decide +kernel
theorem dX0_putInSequence_16 : decode cX0_putInSequence 16 = .ok (.bipush 8, 2) := by decide +kernel
theorem dX0_putInSequence_18 : decode cX0_putInSequence 18 = .ok (.iaload, 1) := by decide +kernel
theorem dX0_putInSequence_19 : decode cX0_putInSequence 19 = .ok (.istore_n 3, 1) := by decide +kernel
theorem dX0_putInSequence_20 : decode cX0_putInSequence 20 = .ok (.iload_n 2, 1) := by decide +kernel
theorem dX0_putInSequence_21 : decode cX0_putInSequence 21 = .ok (.istore 4, 2) := by decide +kernel
theorem dX0_putInSequence_23 : decode cX0_putInSequence 23 = .ok (.iload 4, 2) := by decide +kernel
theorem dX0_putInSequence_25 : decode cX0_putInSequence 25 = .ok (.ifCond .le 46, 3) := by decide +kernel
theorem dX0_putInSequence_28 : decode cX0_putInSequence 28 = .ok (.aload_n 1, 1) := by decide +kernel
theorem dX0_putInSequence_29 : decode cX0_putInSequence 29 = .ok (.getfield 42, 3) := by decide +kernel
theorem dX0_putInSequence_32 : decode cX0_putInSequence 32 = .ok (.aload_n 0, 1) := by decide +kernel
theorem dX0_putInSequence_33 : decode cX0_putInSequence 33 = .ok (.getfield 9, 3) := by decide +kernel
theorem dX0_putInSequence_36 : decode cX0_putInSequence 36 = .ok (.iload 4, 2) := by decide +kernel
theorem dX0_putInSequence_38 : decode cX0_putInSequence 38 = .ok (.iconst 1, 1) := by decide +kernel
theorem dX0_putInSequence_39 : decode cX0_putInSequence 39 = .ok (.isub, 1) := by decide +kernel
theorem dX0_putInSequence_40 : decode cX0_putInSequence 40 = .ok (.iaload, 1) := by decide +kernel
theorem dX0_putInSequence_41 : decode cX0_putInSequence 41 = .ok (.aaload, 1) := by decide +kernel
theorem dX0_putInSequence_42 : decode cX0_putInSequence 42 = .ok (.bipush 8, 2) := by decide +kernel
theorem dX0_putInSequence_44 : decode cX0_putInSequence 44 = .ok (.iaload, 1) := by decide +kernel
theorem dX0_putInSequence_45 : decode cX0_putInSequence 45 = .ok (.iload_n 3, 1) := by decide +kernel
theorem dX0_putInSequence_46 : decode cX0_putInSequence 46 = .ok (.if_icmp .le 25, 3) := by decide +kernel
theorem dX0_putInSequence_49 : decode cX0_putInSequence 49 = .ok (.aload_n 0, 1) := by decide +kernel
theorem dX0_putInSequence_50 : decode cX0_putInSequence 50 = .ok (.getfield 9, 3) := by decide +kernel
theorem dX0_putInSequence_53 : decode cX0_putInSequence 53 = .ok (.iload 4, 2) := by decide +kernel
theorem dX0_putInSequence_55 : decode cX0_putInSequence 55 = .ok (.aload_n 0, 1) := by decide +kernel
theorem dX0_putInSequence_56 : decode cX0_putInSequence 56 = .ok (.getfield 9, 3) := by decide +kernel
theorem dX0_putInSequence_59 : decode cX0_putInSequence 59 = .ok (.iload 4, 2) := by decide +kernel
theorem dX0_putInSequence_61 : decode cX0_putInSequence 61 = .ok (.iconst 1, 1) := by decide +kernel
theorem dX0_putInSequence_62 : decode cX0_putInSequence 62 = .ok (.isub, 1) := by decide +kernel
theorem dX0_putInSequence_63 : decode cX0_putInSequence 63 = .ok (.iaload, 1) := by decide +kernel
theorem dX0_putInSequence_64 : decode cX0_putInSequence 64 = .ok (.iastore, 1) := by decide +kernel
theorem dX0_putInSequence_65 : decode cX0_putInSequence 65 = .ok (.iinc 4 (-1), 3) := by decide +kernel
theorem dX0_putInSequence_68 : decode cX0_putInSequence 68 = .ok (.goto (-45), 3) := by decide +kernel
theorem dX0_putInSequence_71 : decode cX0_putInSequence 71 = .ok (.aload_n 0, 1) := by decide +kernel
theorem dX0_putInSequence_72 : decode cX0_putInSequence 72 = .ok (.getfield 9, 3) := by decide +kernel
theorem dX0_putInSequence_75 : decode cX0_putInSequence 75 = .ok (.iload 4, 2) := by decide +kernel
theorem dX0_putInSequence_77 : decode cX0_putInSequence 77 = .ok (.iload_n 2, 1) := by decide +kernel
theorem dX0_putInSequence_78 : decode cX0_putInSequence 78 = .ok (.iastore, 1) := by decide +kernel
theorem dX0_putInSequence_79 : decode cX0_putInSequence 79 = .ok (.iinc 2 1, 3) := by decide +kernel
theorem dX0_putInSequence_82 : decode cX0_putInSequence 82 = .ok (.goto (-80), 3) := by decide +kernel
theorem dX0_putInSequence_85 : decode cX0_putInSequence 85 = .ok (.return_, 1) := by decide +kernel
theorem dX0_fillLines_0 : decode cX0_fillLines 0 = .ok (.iconst 0, 1) := by decide +kernel
theorem dX0_fillLines_1 : decode cX0_fillLines 1 = .ok (.istore_n 3, 1) := by decide +kernel
theorem dX0_fillLines_2 : decode cX0_fillLines 2 = .ok (.iconst 0, 1) := by decide +kernel
theorem dX0_fillLines_3 : decode cX0_fillLines 3 = .ok (.istore 4, 2) := by decide +kernel
theorem dX0_fillLines_5 : decode cX0_fillLines 5 = .ok (.iconst 0, 1) := by decide +kernel
theorem dX0_fillLines_6 : decode cX0_fillLines 6 = .ok (.istore 5, 2) := by decide +kernel
theorem dX0_fillLines_8 : decode cX0_fillLines 8 = .ok (.iload 5, 2) := by decide +kernel
theorem dX0_fillLines_10 : decode cX0_fillLines 10 = .ok (.aload_n 1, 1) := by decide +kernel
theorem dX0_fillLines_11 : decode cX0_fillLines 11 = .ok (.getfield 39, 3) := by decide +kernel
theorem dX0_fillLines_14 : decode cX0_fillLines 14 = .ok (.if_icmp .ge 67, 3) := by decide +kernel
theorem dX0_fillLines_17 : decode cX0_fillLines 17 = .ok (.aload_n 1, 1) := by decide +kernel
theorem dX0_fillLines_18 : decode cX0_fillLines 18 = .ok (.aload_n 0, 1) := by decide +kernel
theorem dX0_fillLines_19 : decode cX0_fillLines 19 = .ok (.getfield 9, 3) := by decide +kernel
theorem dX0_fillLines_22 : decode cX0_fillLines 22 = .ok (.iload 5, 2) := by decide +kernel
theorem dX0_fillLines_24 : decode cX0_fillLines 24 = .ok (.iaload, 1) := by decide +kernel
theorem dX0_fillLines_25 : decode cX0_fillLines 25 = .ok (.invokevirtual 46, 3) := by decide +kernel
theorem dX0_fillLines_28 : decode cX0_fillLines 28 = .ok (.istore 6, 2) := by decide +kernel
theorem dX0_fillLines_30 : decode cX0_fillLines 30 = .ok (.iload 4, 2) := by decide +kernel
theorem dX0_fillLines_32 : decode cX0_fillLines 32 = .ok (.aload_n 1, 1) := by decide +kernel
theorem dX0_fillLines_33 : decode cX0_fillLines 33 = .ok (.getfield 50, 3) := by decide +kernel
theorem dX0_fillLines_36 : decode cX0_fillLines 36 = .ok (.iadd, 1) := by decide +kernel
theorem dX0_fillLines_37 : decode cX0_fillLines 37 = .ok (.iload 6, 2) := by decide +kernel
theorem dX0_fillLines_39 : decode cX0_fillLines 39 = .ok (.iadd, 1) := by decide +kernel
theorem dX0_fillLines_40 : decode cX0_fillLines 40 = .ok (.istore 7, 2) := by decide +kernel
theorem dX0_fillLines_42 : decode cX0_fillLines 42 = .ok (.iload 5, 2) := by decide +kernel
theorem dX0_fillLines_44 : decode cX0_fillLines 44 = .ok (.ifCond .eq 9, 3) := by decide +kernel
theorem dX0_fillLines_47 : decode cX0_fillLines 47 = .ok (.iload 7, 2) := by decide +kernel
theorem dX0_fillLines_49 : decode cX0_fillLines 49 = .ok (.iload_n 2, 1) := by decide +kernel
theorem dX0_fillLines_50 : decode cX0_fillLines 50 = .ok (.if_icmp .le 21, 3) := by decide +kernel
theorem dX0_fillLines_53 : decode cX0_fillLines 53 = .ok (.aload_n 0, 1) := by decide +kernel
theorem dX0_fillLines_54 : decode cX0_fillLines 54 = .ok (.getfield 15, 3) := by decide +kernel
theorem dX0_fillLines_57 : decode cX0_fillLines 57 = .ok (.iload_n 3, 1) := by decide +kernel
theorem dX0_fillLines_58 : decode cX0_fillLines 58 = .ok (.iload 5, 2) := by decide +kernel
theorem dX0_fillLines_60 : decode cX0_fillLines 60 = .ok (.iastore, 1) := by decide +kernel
theorem dX0_fillLines_61 : decode cX0_fillLines 61 = .ok (.iinc 3 1, 3) := by decide +kernel
theorem dX0_fillLines_64 : decode cX0_fillLines 64 = .ok (.iload 6, 2) := by decide +kernel
theorem dX0_fillLines_66 : decode cX0_fillLines 66 = .ok (.istore 4, 2) := by decide +kernel
theorem dX0_fillLines_68 : decode cX0_fillLines 68 = .ok (.goto 7, 3) := by decide +kernel
theorem dX0_fillLines_71 : decode cX0_fillLines 71 = .ok (.iload 7, 2) := by decide +kernel
theorem dX0_fillLines_73 : decode cX0_fillLines 73 = .ok (.istore 4, 2) := by decide +kernel
theorem dX0_fillLines_75 : decode cX0_fillLines 75 = .ok (.iinc 5 1, 3) := by decide +kernel
theorem dX0_fillLines_78 : decode cX0_fillLines 78 = .ok (.goto (-70), 3) := by decide +kernel
theorem dX0_fillLines_81 : decode cX0_fillLines 81 = .ok (.aload_n 0, 1) := by decide +kernel
theorem dX0_fillLines_82 : decode cX0_fillLines 82 = .ok (.getfield 15, 3) := by decide +kernel
theorem dX0_fillLines_85 : decode cX0_fillLines 85 = .ok (.iload_n 3, 1) := by decide +kernel
theorem dX0_fillLines_86 : decode cX0_fillLines 86 = .ok (.aload_n 1, 1) := by decide +kernel
theorem dX0_fillLines_87 : decode cX0_fillLines 87 = .ok (.getfield 39, 3) := by decide +kernel
theorem dX0_fillLines_90 : decode cX0_fillLines 90 = .ok (.iastore, 1) := by decide +kernel
theorem dX0_fillLines_91 : decode cX0_fillLines 91 = .ok (.iload_n 3, 1) := by decide +kernel
theorem dX0_fillLines_92 : decode cX0_fillLines 92 = .ok (.ireturn, 1) := by decide +kernel
theorem dX0_lineWith_0 : decode cX0_lineWith 0 = .ok (.iconst 0, 1) := by decide +kernel
theorem dX0_lineWith_1 : decode cX0_lineWith 1 = .ok (.istore_n 2, 1) := by decide +kernel
theorem dX0_lineWith_2 : decode cX0_lineWith 2 = .ok (.iload_n 2, 1) := by decide +kernel
theorem dX0_lineWith_3 : decode cX0_lineWith 3 = .ok (.aload_n 0, 1) := by decide +kernel
theorem dX0_lineWith_4 : decode cX0_lineWith 4 = .ok (.getfield 18, 3) := by decide +kernel
theorem dX0_lineWith_7 : decode cX0_lineWith 7 = .ok (.if_icmp .ge 46, 3) := by decide +kernel
theorem dX0_lineWith_10 : decode cX0_lineWith 10 = .ok (.aload_n 0, 1) := by decide +kernel
theorem dX0_lineWith_11 : decode cX0_lineWith 11 = .ok (.getfield 15, 3) := by decide +kernel
theorem dX0_lineWith_14 : decode cX0_lineWith 14 = .ok (.iload_n 2, 1) := by decide +kernel
theorem dX0_lineWith_15 : decode cX0_lineWith 15 = .ok (.iaload, 1) := by decide +kernel
theorem dX0_lineWith_16 : decode cX0_lineWith 16 = .ok (.istore_n 3, 1) := by decide +kernel
theorem dX0_lineWith_17 : decode cX0_lineWith 17 = .ok (.iload_n 3, 1) := by decide +kernel
theorem dX0_lineWith_18 : decode cX0_lineWith 18 = .ok (.aload_n 0, 1) := by decide +kernel
theorem dX0_lineWith_19 : decode cX0_lineWith 19 = .ok (.getfield 15, 3) := by decide +kernel
theorem dX0_lineWith_22 : decode cX0_lineWith 22 = .ok (.iload_n 2, 1) := by decide +kernel
theorem dX0_lineWith_23 : decode cX0_lineWith 23 = .ok (.iconst 1, 1) := by decide +kernel
theorem dX0_lineWith_24 : decode cX0_lineWith 24 = .ok (.iadd, 1) := by decide +kernel
theorem dX0_lineWith_25 : decode cX0_lineWith 25 = .ok (.iaload, 1) := by decide +kernel
theorem dX0_lineWith_26 : decode cX0_lineWith 26 = .ok (.if_icmp .ge 21, 3) := by decide +kernel
theorem dX0_lineWith_29 : decode cX0_lineWith 29 = .ok (.aload_n 0, 1) := by decide +kernel
theorem dX0_lineWith_30 : decode cX0_lineWith 30 = .ok (.getfield 9, 3) := by decide +kernel
theorem dX0_lineWith_33 : decode cX0_lineWith 33 = .ok (.iload_n 3, 1) := by decide +kernel
theorem dX0_lineWith_34 : decode cX0_lineWith 34 = .ok (.iaload, 1) := by decide +kernel
theorem dX0_lineWith_35 : decode cX0_lineWith 35 = .ok (.iload_n 1, 1) := by decide +kernel
theorem dX0_lineWith_36 : decode cX0_lineWith 36 = .ok (.if_icmp .ne 5, 3) := by decide +kernel
theorem dX0_lineWith_39 : decode cX0_lineWith 39 = .ok (.iload_n 2, 1) := by decide +kernel
theorem dX0_lineWith_40 : decode cX0_lineWith 40 = .ok (.ireturn, 1) := by decide +kernel
theorem dX0_lineWith_41 : decode cX0_lineWith 41 = .ok (.iinc 3 1, 3) := by decide +kernel
theorem dX0_lineWith_44 : decode cX0_lineWith 44 = .ok (.goto (-27), 3) := by decide +kernel
theorem dX0_lineWith_47 : decode cX0_lineWith 47 = .ok (.iinc 2 1, 3) := by decide +kernel
theorem dX0_lineWith_50 : decode cX0_lineWith 50 = .ok (.goto (-48), 3) := by decide +kernel
theorem dX0_lineWith_53 : decode cX0_lineWith 53 = .ok (.iconst 0, 1) := by decide +kernel
theorem dX0_lineWith_54 : decode cX0_lineWith 54 = .ok (.ireturn, 1) := by decide +kernel
theorem dX0_available_0 : decode cX0_available 0 = .ok (.aload_n 1, 1) := by decide +kernel
theorem dX0_available_1 : decode cX0_available 1 = .ok (.getfield 32, 3) := by decide +kernel
theorem dX0_available_4 : decode cX0_available 4 = .ok (.aload_n 1, 1) := by decide +kernel
theorem dX0_available_5 : decode cX0_available 5 = .ok (.getfield 50, 3) := by decide +kernel
theorem dX0_available_8 : decode cX0_available 8 = .ok (.aload_n 0, 1) := by decide +kernel
theorem dX0_available_9 : decode cX0_available 9 = .ok (.getfield 15, 3) := by decide +kernel
theorem dX0_available_12 : decode cX0_available 12 = .ok (.iload_n 2, 1) := by decide +kernel
theorem dX0_available_13 : decode cX0_available 13 = .ok (.iconst 1, 1) := by decide +kernel
theorem dX0_available_14 : decode cX0_available 14 = .ok (.iadd, 1) := by decide +kernel
theorem dX0_available_15 : decode cX0_available 15 = .ok (.iaload, 1) := by decide +kernel
theorem dX0_available_16 : decode cX0_available 16 = .ok (.aload_n 0, 1) := by decide +kernel
theorem dX0_available_17 : decode cX0_available 17 = .ok (.getfield 15, 3) := by decide +kernel
theorem dX0_available_20 : decode cX0_available 20 = .ok (.iload_n 2, 1) := by decide +kernel
theorem dX0_available_21 : decode cX0_available 21 = .ok (.iaload, 1) := by decide +kernel
theorem dX0_available_22 : decode cX0_available 22 = .ok (.isub, 1) := by decide +kernel
theorem dX0_available_23 : decode cX0_available 23 = .ok (.iconst 1, 1) := by decide +kernel
theorem dX0_available_24 : decode cX0_available 24 = .ok (.isub, 1) := by decide +kernel
theorem dX0_available_25 : decode cX0_available 25 = .ok (.imul, 1) := by decide +kernel
theorem dX0_available_26 : decode cX0_available 26 = .ok (.isub, 1) := by decide +kernel
theorem dX0_available_27 : decode cX0_available 27 = .ok (.ireturn, 1) := by decide +kernel
theorem dX1_init_0 : decode cX1_init 0 = .ok (.aload_n 0, 1) := by decide +kernel
theorem dX1_init_1 : decode cX1_init 1 = .ok (.invokespecial 3, 3) := by decide +kernel
theorem dX1_init_4 : decode cX1_init 4 = .ok (.aload_n 0, 1) := by decide +kernel
theorem dX1_init_5 : decode cX1_init 5 = .ok (.bipush 100, 2) := by decide +kernel
theorem dX1_init_7 : decode cX1_init 7 = .ok (.putfield 9, 3) := by decide +kernel
theorem dX1_init_10 : decode cX1_init 10 = .ok (.aload_n 0, 1) := by decide +kernel
theorem dX1_init_11 : decode cX1_init 11 = .ok (.iconst (-1), 1) := by decide +kernel
theorem dX1_init_12 : decode cX1_init 12 = .ok (.putfield 15, 3) := by decide +kernel
theorem dX1_init_15 : decode cX1_init 15 = .ok (.aload_n 0, 1) := by decide +kernel
theorem dX1_init_16 : decode cX1_init 16 = .ok (.iconst 0, 1) := by decide +kernel
theorem dX1_init_17 : decode cX1_init 17 = .ok (.putfield 18, 3) := by decide +kernel
theorem dX1_init_20 : decode cX1_init 20 = .ok (.aload_n 0, 1) := by decide +kernel
theorem dX1_init_21 : decode cX1_init 21 = .ok (.iconst 0, 1) := by decide +kernel
theorem dX1_init_22 : decode cX1_init 22 = .ok (.putfield 21, 3) := by decide +kernel
theorem dX1_init_25 : decode cX1_init 25 = .ok (.aload_n 0, 1) := by decide +kernel
theorem dX1_init_26 : decode cX1_init 26 = .ok (.iconst 5, 1) := by decide +kernel
theorem dX1_init_27 : decode cX1_init 27 = .ok (.newarray .int, 2) := by decide +kernel
theorem dX1_init_29 : decode cX1_init 29 = .ok (.putfield 24, 3) := by decide +kernel
theorem dX1_init_32 : decode cX1_init 32 = .ok (.aload_n 0, 1) := by decide +kernel
theorem dX1_init_33 : decode cX1_init 33 = .ok (.bipush 20, 2) := by decide +kernel
theorem dX1_init_35 : decode cX1_init 35 = .ok (.bipush 10, 2) := by decide +kernel
theorem dX1_init_37 : decode cX1_init 37 = .ok (.multianewarray 28 2, 4) := by decide +kernel
theorem dX1_init_41 : decode cX1_init 41 = .ok (.putfield 30, 3) := by decide +kernel
theorem dX1_init_44 : decode cX1_init 44 = .ok (.aload_n 0, 1) := by decide +kernel
theorem dX1_init_45 : decode cX1_init 45 = .ok (.iconst 0, 1) := by decide +kernel
theorem dX1_init_46 : decode cX1_init 46 = .ok (.putfield 33, 3) := by decide +kernel
theorem dX1_init_49 : decode cX1_init 49 = .ok (.return_, 1) := by decide +kernel
theorem dX1_copyFrom_0 : decode cX1_copyFrom 0 = .ok (.aload_n 0, 1) := by decide +kernel
theorem dX1_copyFrom_1 : decode cX1_copyFrom 1 = .ok (.aload_n 1, 1) := by decide +kernel
theorem dX1_copyFrom_2 : decode cX1_copyFrom 2 = .ok (.getfield 9, 3) := by decide +kernel
theorem dX1_copyFrom_5 : decode cX1_copyFrom 5 = .ok (.putfield 9, 3) := by decide +kernel
theorem dX1_copyFrom_8 : decode cX1_copyFrom 8 = .ok (.aload_n 0, 1) := by decide +kernel
theorem dX1_copyFrom_9 : decode cX1_copyFrom 9 = .ok (.aload_n 1, 1) := by decide +kernel
theorem dX1_copyFrom_10 : decode cX1_copyFrom 10 = .ok (.getfield 15, 3) := by decide +kernel
theorem dX1_copyFrom_13 : decode cX1_copyFrom 13 = .ok (.putfield 15, 3) := by decide +kernel
theorem dX1_copyFrom_16 : decode cX1_copyFrom 16 = .ok (.aload_n 0, 1) := by decide +kernel
theorem dX1_copyFrom_17 : decode cX1_copyFrom 17 = .ok (.aload_n 1, 1) := by decide +kernel
theorem dX1_copyFrom_18 : decode cX1_copyFrom 18 = .ok (.getfield 18, 3) := by decide +kernel
theorem dX1_copyFrom_21 : decode cX1_copyFrom 21 = .ok (.putfield 18, 3) := by decide +kernel
theorem dX1_copyFrom_24 : decode cX1_copyFrom 24 = .ok (.aload_n 0, 1) := by decide +kernel
theorem dX1_copyFrom_25 : decode cX1_copyFrom 25 = .ok (.aload_n 1, 1) := by decide +kernel
theorem dX1_copyFrom_26 : decode cX1_copyFrom 26 = .ok (.getfield 21, 3) := by decide +kernel
theorem dX1_copyFrom_29 : decode cX1_copyFrom 29 = .ok (.putfield 21, 3) := by decide +kernel
theorem dX1_copyFrom_32 : decode cX1_copyFrom 32 = .ok (.aload_n 0, 1) := by decide +kernel
theorem dX1_copyFrom_33 : decode cX1_copyFrom 33 = .ok (.aload_n 1, 1) := by decide +kernel
theorem dX1_copyFrom_34 : decode cX1_copyFrom 34 = .ok (.getfield 33, 3) := by decide +kernel
theorem dX1_copyFrom_37 : decode cX1_copyFrom 37 = .ok (.putfield 33, 3) := by decide +kernel
theorem dX1_copyFrom_40 : decode cX1_copyFrom 40 = .ok (.aload_n 1, 1) := by decide +kernel
theorem dX1_copyFrom_41 : decode cX1_copyFrom 41 = .ok (.getfield 24, 3) := by decide +kernel
theorem dX1_copyFrom_44 : decode cX1_copyFrom 44 = .ok (.iconst 0, 1) := by decide +kernel
theorem dX1_copyFrom_45 : decode cX1_copyFrom 45 = .ok (.aload_n 0, 1) := by decide +kernel
theorem dX1_copyFrom_46 : decode cX1_copyFrom 46 = .ok (.getfield 24, 3) := by decide +kernel
theorem dX1_copyFrom_49 : decode cX1_copyFrom 49 = .ok (.iconst 0, 1) := by decide +kernel
theorem dX1_copyFrom_50 : decode cX1_copyFrom 50 = .ok (.iconst 5, 1) := by decide +kernel
theorem dX1_copyFrom_51 : decode cX1_copyFrom 51 = .ok (.invokestatic 36, 3) := by decide +kernel
theorem dX1_copyFrom_54 : decode cX1_copyFrom 54 = .ok (.iconst 0, 1) := by decide +kernel
theorem dX1_copyFrom_55 : decode cX1_copyFrom 55 = .ok (.istore_n 2, 1) := by decide +kernel
theorem dX1_copyFrom_56 : decode cX1_copyFrom 56 = .ok (.iload_n 2, 1) := by decide +kernel
theorem dX1_copyFrom_57 : decode cX1_copyFrom 57 = .ok (.bipush 20, 2) := by decide +kernel
theorem dX1_copyFrom_59 : decode cX1_copyFrom 59 = .ok (.if_icmp .ge 28, 3) := by decide +kernel
theorem dX1_copyFrom_62 : decode cX1_copyFrom 62 = .ok (.aload_n 1, 1) := by decide +kernel
theorem dX1_copyFrom_63 : decode cX1_copyFrom 63 = .ok (.getfield 30, 3) := by decide +kernel
theorem dX1_copyFrom_66 : decode cX1_copyFrom 66 = .ok (.iload_n 2, 1) := by decide +kernel
theorem dX1_copyFrom_67 : decode cX1_copyFrom 67 = .ok (.aaload, 1) := by decide +kernel
theorem dX1_copyFrom_68 : decode cX1_copyFrom 68 = .ok (.iconst 0, 1) := by decide +kernel
theorem dX1_copyFrom_69 : decode cX1_copyFrom 69 = .ok (.aload_n 0, 1) := by decide +kernel
theorem dX1_copyFrom_70 : decode cX1_copyFrom 70 = .ok (.getfield 30, 3) := by decide +kernel
theorem dX1_copyFrom_73 : decode cX1_copyFrom 73 = .ok (.iload_n 2, 1) := by decide +kernel
theorem dX1_copyFrom_74 : decode cX1_copyFrom 74 = .ok (.aaload, 1) := by decide +kernel
theorem dX1_copyFrom_75 : decode cX1_copyFrom 75 = .ok (.iconst 0, 1) := by decide +kernel
theorem dX1_copyFrom_76 : decode cX1_copyFrom 76 = .ok (.bipush 10, 2) := by decide +kernel
theorem dX1_copyFrom_78 : decode cX1_copyFrom 78 = .ok (.invokestatic 36, 3) := by decide +kernel
theorem dX1_copyFrom_81 : decode cX1_copyFrom 81 = .ok (.iinc 2 1, 3) := by decide +kernel
theorem dX1_copyFrom_84 : decode cX1_copyFrom 84 = .ok (.goto (-28), 3) := by decide +kernel
theorem dX1_copyFrom_87 : decode cX1_copyFrom 87 = .ok (.return_, 1) := by decide +kernel
theorem dX1_freshRow_0 : decode cX1_freshRow 0 = .ok (.aload_n 0, 1) := by decide +kernel
theorem dX1_freshRow_1 : decode cX1_freshRow 1 = .ok (.getfield 30, 3) := by decide +kernel
theorem dX1_freshRow_4 : decode cX1_freshRow 4 = .ok (.aload_n 0, 1) := by decide +kernel
theorem dX1_freshRow_5 : decode cX1_freshRow 5 = .ok (.getfield 33, 3) := by decide +kernel
theorem dX1_freshRow_8 : decode cX1_freshRow 8 = .ok (.bipush 19, 2) := by decide +kernel
theorem dX1_freshRow_10 : decode cX1_freshRow 10 = .ok (.invokestatic 42, 3) := by decide +kernel
theorem dX1_freshRow_13 : decode cX1_freshRow 13 = .ok (.aaload, 1) := by decide +kernel
theorem dX1_freshRow_14 : decode cX1_freshRow 14 = .ok (.astore_n 1, 1) := by decide +kernel
theorem dX1_freshRow_15 : decode cX1_freshRow 15 = .ok (.getstatic 48, 3) := by decide +kernel
theorem dX1_freshRow_18 : decode cX1_freshRow 18 = .ok (.iconst 0, 1) := by decide +kernel
theorem dX1_freshRow_19 : decode cX1_freshRow 19 = .ok (.aload_n 1, 1) := by decide +kernel
theorem dX1_freshRow_20 : decode cX1_freshRow 20 = .ok (.iconst 0, 1) := by decide +kernel
theorem dX1_freshRow_21 : decode cX1_freshRow 21 = .ok (.bipush 10, 2) := by decide +kernel
theorem dX1_freshRow_23 : decode cX1_freshRow 23 = .ok (.invokestatic 36, 3) := by decide +kernel
theorem dX1_freshRow_26 : decode cX1_freshRow 26 = .ok (.aload_n 1, 1) := by decide +kernel
theorem dX1_freshRow_27 : decode cX1_freshRow 27 = .ok (.areturn, 1) := by decide +kernel
theorem dX1_takeFreshRow_0 : decode cX1_takeFreshRow 0 = .ok (.aload_n 0, 1) := by decide +kernel
theorem dX1_takeFreshRow_1 : decode cX1_takeFreshRow 1 = .ok (.dup, 1) := by decide +kernel
theorem dX1_takeFreshRow_2 : decode cX1_takeFreshRow 2 = .ok (.getfield 33, 3) := by decide +kernel
theorem dX1_takeFreshRow_5 : decode cX1_takeFreshRow 5 = .ok (.iconst 1, 1) := by decide +kernel
theorem dX1_takeFreshRow_6 : decode cX1_takeFreshRow 6 = .ok (.iadd, 1) := by decide +kernel
theorem dX1_takeFreshRow_7 : decode cX1_takeFreshRow 7 = .ok (.putfield 33, 3) := by decide +kernel
theorem dX1_takeFreshRow_10 : decode cX1_takeFreshRow 10 = .ok (.aload_n 0, 1) := by decide +kernel
theorem dX1_takeFreshRow_11 : decode cX1_takeFreshRow 11 = .ok (.getfield 33, 3) := by decide +kernel
theorem dX1_takeFreshRow_14 : decode cX1_takeFreshRow 14 = .ok (.iconst 1, 1) := by decide +kernel
theorem dX1_takeFreshRow_15 : decode cX1_takeFreshRow 15 = .ok (.isub, 1) := by decide +kernel
theorem dX1_takeFreshRow_16 : decode cX1_takeFreshRow 16 = .ok (.ireturn, 1) := by decide +kernel
theorem dX1_dropRow_0 : decode cX1_dropRow 0 = .ok (.iload_n 1, 1) := by decide +kernel
theorem dX1_dropRow_1 : decode cX1_dropRow 1 = .ok (.iconst 1, 1) := by decide +kernel
theorem dX1_dropRow_2 : decode cX1_dropRow 2 = .ok (.iadd, 1) := by decide +kernel
theorem dX1_dropRow_3 : decode cX1_dropRow 3 = .ok (.istore_n 2, 1) := by decide +kernel
theorem dX1_dropRow_4 : decode cX1_dropRow 4 = .ok (.iload_n 2, 1) := by decide +kernel
theorem dX1_dropRow_5 : decode cX1_dropRow 5 = .ok (.aload_n 0, 1) := by decide +kernel
theorem dX1_dropRow_6 : decode cX1_dropRow 6 = .ok (.getfield 33, 3) := by decide +kernel
theorem dX1_dropRow_9 : decode cX1_dropRow 9 = .ok (.if_icmp .ge 30, 3) := by decide +kernel
theorem dX1_dropRow_12 : decode cX1_dropRow 12 = .ok (.aload_n 0, 1) := by decide +kernel
theorem dX1_dropRow_13 : decode cX1_dropRow 13 = .ok (.getfield 30, 3) := by decide +kernel
theorem dX1_dropRow_16 : decode cX1_dropRow 16 = .ok (.iload_n 2, 1) := by decide +kernel
theorem dX1_dropRow_17 : decode cX1_dropRow 17 = .ok (.aaload, 1) := by decide +kernel
theorem dX1_dropRow_18 : decode cX1_dropRow 18 = .ok (.iconst 0, 1) := by decide +kernel
theorem dX1_dropRow_19 : decode cX1_dropRow 19 = .ok (.aload_n 0, 1) := by decide +kernel
theorem dX1_dropRow_20 : decode cX1_dropRow 20 = .ok (.getfield 30, 3) := by decide +kernel
theorem dX1_dropRow_23 : decode cX1_dropRow 23 = .ok (.iload_n 2, 1) := by decide +kernel
theorem dX1_dropRow_24 : decode cX1_dropRow 24 = .ok (.iconst 1, 1) := by decide +kernel
theorem dX1_dropRow_25 : decode cX1_dropRow 25 = .ok (.isub, 1) := by decide +kernel
theorem dX1_dropRow_26 : decode cX1_dropRow 26 = .ok (.aaload, 1) := by decide +kernel
theorem dX1_dropRow_27 : decode cX1_dropRow 27 = .ok (.iconst 0, 1) := by decide +kernel
theorem dX1_dropRow_28 : decode cX1_dropRow 28 = .ok (.bipush 10, 2) := by decide +kernel
theorem dX1_dropRow_30 : decode cX1_dropRow 30 = .ok (.invokestatic 36, 3) := by decide +kernel
theorem dX1_dropRow_33 : decode cX1_dropRow 33 = .ok (.iinc 2 1, 3) := by decide +kernel
theorem dX1_dropRow_36 : decode cX1_dropRow 36 = .ok (.goto (-32), 3) := by decide +kernel
theorem dX1_dropRow_39 : decode cX1_dropRow 39 = .ok (.aload_n 0, 1) := by decide +kernel
theorem dX1_dropRow_40 : decode cX1_dropRow 40 = .ok (.dup, 1) := by decide +kernel
theorem dX1_dropRow_41 : decode cX1_dropRow 41 = .ok (.getfield 33, 3) := by decide +kernel
theorem dX1_dropRow_44 : decode cX1_dropRow 44 = .ok (.iconst 1, 1) := by decide +kernel
theorem dX1_dropRow_45 : decode cX1_dropRow 45 = .ok (.isub, 1) := by decide +kernel
theorem dX1_dropRow_46 : decode cX1_dropRow 46 = .ok (.putfield 33, 3) := by decide +kernel
theorem dX1_dropRow_49 : decode cX1_dropRow 49 = .ok (.return_, 1) := by decide +kernel
theorem dX1_clamp_0 : decode cX1_clamp 0 = .ok (.aload_n 0, 1) := by decide +kernel
theorem dX1_clamp_1 : decode cX1_clamp 1 = .ok (.getfield 30, 3) := by decide +kernel
theorem dX1_clamp_4 : decode cX1_clamp 4 = .ok (.iload_n 1, 1) := by decide +kernel
theorem dX1_clamp_5 : decode cX1_clamp 5 = .ok (.aaload, 1) := by decide +kernel
theorem dX1_clamp_6 : decode cX1_clamp 6 = .ok (.iconst 4, 1) := by decide +kernel
theorem dX1_clamp_7 : decode cX1_clamp 7 = .ok (.iaload, 1) := by decide +kernel
theorem dX1_clamp_8 : decode cX1_clamp 8 = .ok (.istore_n 3, 1) := by decide +kernel
theorem dX1_clamp_9 : decode cX1_clamp 9 = .ok (.aload_n 0, 1) := by decide +kernel
theorem dX1_clamp_10 : decode cX1_clamp 10 = .ok (.getfield 30, 3) := by decide +kernel
theorem dX1_clamp_13 : decode cX1_clamp 13 = .ok (.iload_n 1, 1) := by decide +kernel
theorem dX1_clamp_14 : decode cX1_clamp 14 = .ok (.aaload, 1) := by decide +kernel
theorem dX1_clamp_15 : decode cX1_clamp 15 = .ok (.iconst 3, 1) := by decide +kernel
theorem dX1_clamp_16 : decode cX1_clamp 16 = .ok (.iaload, 1) := by decide +kernel
theorem dX1_clamp_17 : decode cX1_clamp 17 = .ok (.istore 4, 2) := by decide +kernel
theorem dX1_clamp_19 : decode cX1_clamp 19 = .ok (.iload_n 3, 1) := by decide +kernel
theorem dX1_clamp_20 : decode cX1_clamp 20 = .ok (.iconst (-1), 1) := by decide +kernel
theorem dX1_clamp_21 : decode cX1_clamp 21 = .ok (.if_icmp .eq 12, 3) := by decide +kernel
theorem dX1_clamp_24 : decode cX1_clamp 24 = .ok (.iload_n 2, 1) := by decide +kernel
theorem dX1_clamp_25 : decode cX1_clamp 25 = .ok (.iload_n 3, 1) := by decide +kernel
theorem dX1_clamp_26 : decode cX1_clamp 26 = .ok (.if_icmp .le 7, 3) := by decide +kernel
theorem dX1_clamp_29 : decode cX1_clamp 29 = .ok (.iload_n 3, 1) := by decide +kernel
theorem dX1_clamp_30 : decode cX1_clamp 30 = .ok (.goto 4, 3) := by decide +kernel
theorem dX1_clamp_33 : decode cX1_clamp 33 = .ok (.iload_n 2, 1) := by decide +kernel
theorem dX1_clamp_34 : decode cX1_clamp 34 = .ok (.istore 5, 2) := by decide +kernel
theorem dX1_clamp_36 : decode cX1_clamp 36 = .ok (.iload 5, 2) := by decide +kernel
theorem dX1_clamp_38 : decode cX1_clamp 38 = .ok (.iload 4, 2) := by decide +kernel
theorem dX1_clamp_40 : decode cX1_clamp 40 = .ok (.if_icmp .ge 8, 3) := by decide +kernel
theorem dX1_clamp_43 : decode cX1_clamp 43 = .ok (.iload 4, 2) := by decide +kernel
theorem dX1_clamp_45 : decode cX1_clamp 45 = .ok (.goto 5, 3) := by decide +kernel
theorem dX1_clamp_48 : decode cX1_clamp 48 = .ok (.iload 5, 2) := by decide +kernel
theorem dX1_clamp_50 : decode cX1_clamp 50 = .ok (.ireturn, 1) := by decide +kernel
theorem dX1_hypothetical_0 : decode cX1_hypothetical 0 = .ok (.aload_n 0, 1) := by decide +kernel
theorem dX1_hypothetical_1 : decode cX1_hypothetical 1 = .ok (.iload_n 1, 1) := by decide +kernel
theorem dX1_hypothetical_2 : decode cX1_hypothetical 2 = .ok (.aload_n 0, 1) := by decide +kernel
theorem dX1_hypothetical_3 : decode cX1_hypothetical 3 = .ok (.getfield 30, 3) := by decide +kernel
theorem dX1_hypothetical_6 : decode cX1_hypothetical 6 = .ok (.iload_n 1, 1) := by decide +kernel
theorem dX1_hypothetical_7 : decode cX1_hypothetical 7 = .ok (.aaload, 1) := by decide +kernel
theorem dX1_hypothetical_8 : decode cX1_hypothetical 8 = .ok (.iconst 0, 1) := by decide +kernel
theorem dX1_hypothetical_9 : decode cX1_hypothetical 9 = .ok (.iaload, 1) := by decide +kernel
theorem dX1_hypothetical_10 : decode cX1_hypothetical 10 = .ok (.invokevirtual 51, 3) := by decide +kernel
theorem dX1_hypothetical_13 : decode cX1_hypothetical 13 = .ok (.ireturn, 1) := by decide +kernel
theorem dX1_alignment_0 : decode cX1_alignment 0 = .ok (.aload_n 0, 1) := by decide +kernel
theorem dX1_alignment_1 : decode cX1_alignment 1 = .ok (.getfield 30, 3) := by decide +kernel
theorem dX1_alignment_4 : decode cX1_alignment 4 = .ok (.iload_n 1, 1) := by decide +kernel
theorem dX1_alignment_5 : decode cX1_alignment 5 = .ok (.aaload, 1) := by decide +kernel
theorem dX1_alignment_6 : decode cX1_alignment 6 = .ok (.bipush 7, 2) := by decide +kernel
theorem dX1_alignment_8 : decode cX1_alignment 8 = .ok (.iaload, 1) := by decide +kernel
theorem dX1_alignment_9 : decode cX1_alignment 9 = .ok (.istore_n 2, 1) := by decide +kernel
theorem dX1_alignment_10 : decode cX1_alignment 10 = .ok (.iload_n 2, 1) := by decide +kernel
theorem dX1_alignment_11 : decode cX1_alignment 11 = .ok (.iconst (-1), 1) := by decide +kernel
theorem dX1_alignment_12 : decode cX1_alignment 12 = .ok (.if_icmp .ne 12, 3) := by decide +kernel
theorem dX1_alignment_15 : decode cX1_alignment 15 = .ok (.aload_n 0, 1) := by decide +kernel
theorem dX1_alignment_16 : decode cX1_alignment 16 = .ok (.getfield 24, 3) := by decide +kernel
theorem dX1_alignment_19 : decode cX1_alignment 19 = .ok (.iconst 3, 1) := by decide +kernel
theorem dX1_alignment_20 : decode cX1_alignment 20 = .ok (.iaload, 1) := by decide +kernel
theorem dX1_alignment_21 : decode cX1_alignment 21 = .ok (.goto 4, 3) := by decide +kernel
theorem dX1_alignment_24 : decode cX1_alignment 24 = .ok (.iload_n 2, 1) := by decide +kernel
theorem dX1_alignment_25 : decode cX1_alignment 25 = .ok (.ireturn, 1) := by decide +kernel
theorem dX1_hasHorizontalMainAxis_0 : decode cX1_hasHorizontalMainAxis 0 = .ok (.aload_n 0, 1) := by decide +kernel
theorem dX1_hasHorizontalMainAxis_1 : decode cX1_hasHorizontalMainAxis 1 = .ok (.getfield 24, 3) := by decide +kernel
theorem dX1_hasHorizontalMainAxis_4 : decode cX1_hasHorizontalMainAxis 4 = .ok (.iconst 0, 1) := by decide +kernel
theorem dX1_hasHorizontalMainAxis_5 : decode cX1_hasHorizontalMainAxis 5 = .ok (.iaload, 1) := by decide +kernel
theorem dX1_hasHorizontalMainAxis_6 : decode cX1_hasHorizontalMainAxis 6 = .ok (.iconst 2, 1) := by decide +kernel
theorem dX1_hasHorizontalMainAxis_7 : decode cX1_hasHorizontalMainAxis 7 = .ok (.if_icmp .ge 7, 3) := by decide +kernel
theorem dX1_hasHorizontalMainAxis_10 : decode cX1_hasHorizontalMainAxis 10 = .ok (.iconst 1, 1) := by decide +kernel
theorem dX1_hasHorizontalMainAxis_11 : decode cX1_hasHorizontalMainAxis 11 = .ok (.goto 4, 3) := by decide +kernel
theorem dX1_hasHorizontalMainAxis_14 : decode cX1_hasHorizontalMainAxis 14 = .ok (.iconst 0, 1) := by decide +kernel
theorem dX1_hasHorizontalMainAxis_15 : decode cX1_hasHorizontalMainAxis 15 = .ok (.ireturn, 1) := by decide +kernel
theorem dX1_isReversed_0 : decode cX1_isReversed 0 = .ok (.aload_n 0, 1) := by decide +kernel
theorem dX1_isReversed_1 : decode cX1_isReversed 1 = .ok (.getfield 24, 3) := by decide +kernel
theorem dX1_isReversed_4 : decode cX1_isReversed 4 = .ok (.iconst 0, 1) := by decide +kernel
theorem dX1_isReversed_5 : decode cX1_isReversed 5 = .ok (.iaload, 1) := by decide +kernel
theorem dX1_isReversed_6 : decode cX1_isReversed 6 = .ok (.iconst 1, 1) := by decide +kernel
theorem dX1_isReversed_7 : decode cX1_isReversed 7 = .ok (.if_icmp .eq 13, 3) := by decide +kernel
theorem dX1_isReversed_10 : decode cX1_isReversed 10 = .ok (.aload_n 0, 1) := by decide +kernel
theorem dX1_isReversed_11 : decode cX1_isReversed 11 = .ok (.getfield 24, 3) := by decide +kernel
theorem dX1_isReversed_14 : decode cX1_isReversed 14 = .ok (.iconst 0, 1) := by decide +kernel
theorem dX1_isReversed_15 : decode cX1_isReversed 15 = .ok (.iaload, 1) := by decide +kernel
theorem dX1_isReversed_16 : decode cX1_isReversed 16 = .ok (.iconst 3, 1) := by decide +kernel
theorem dX1_isReversed_17 : decode cX1_isReversed 17 = .ok (.if_icmp .ne 7, 3) := by decide +kernel
theorem dX1_isReversed_20 : decode cX1_isReversed 20 = .ok (.iconst 1, 1) := by decide +kernel
theorem dX1_isReversed_21 : decode cX1_isReversed 21 = .ok (.goto 4, 3) := by decide +kernel
theorem dX1_isReversed_24 : decode cX1_isReversed 24 = .ok (.iconst 0, 1) := by decide +kernel
theorem dX1_isReversed_25 : decode cX1_isReversed 25 = .ok (.ireturn, 1) := by decide +kernel
theorem dX1_wraps_0 : decode cX1_wraps 0 = .ok (.aload_n 0, 1) := by decide +kernel
theorem dX1_wraps_1 : decode cX1_wraps 1 = .ok (.getfield 24, 3) := by decide +kernel
theorem dX1_wraps_4 : decode cX1_wraps 4 = .ok (.iconst 1, 1) := by decide +kernel
theorem dX1_wraps_5 : decode cX1_wraps 5 = .ok (.iaload, 1) := by decide +kernel
theorem dX1_wraps_6 : decode cX1_wraps 6 = .ok (.ifCond .eq 7, 3) := by decide +kernel
theorem dX1_wraps_9 : decode cX1_wraps 9 = .ok (.iconst 1, 1) := by decide +kernel
theorem dX1_wraps_10 : decode cX1_wraps 10 = .ok (.goto 4, 3) := by decide +kernel
theorem dX1_wraps_13 : decode cX1_wraps 13 = .ok (.iconst 0, 1) := by decide +kernel
theorem dX1_wraps_14 : decode cX1_wraps 14 = .ok (.ireturn, 1) := by decide +kernel
theorem dX2_init_0 : decode cX2_init 0 = .ok (.aload_n 0, 1) := by decide +kernel
theorem dX2_init_1 : decode cX2_init 1 = .ok (.invokespecial 3, 3) := by decide +kernel
theorem dX2_init_4 : decode cX2_init 4 = .ok (.aload_n 0, 1) := by decide +kernel
theorem dX2_init_5 : decode cX2_init 5 = .ok (.bipush 20, 2) := by decide +kernel
theorem dX2_init_7 : decode cX2_init 7 = .ok (.newarray .int, 2) := by decide +kernel
theorem dX2_init_9 : decode cX2_init 9 = .ok (.putfield 9, 3) := by decide +kernel
theorem dX2_init_12 : decode cX2_init 12 = .ok (.aload_n 0, 1) := by decide +kernel
theorem dX2_init_13 : decode cX2_init 13 = .ok (.bipush 20, 2) := by decide +kernel
theorem dX2_init_15 : decode cX2_init 15 = .ok (.newarray .int, 2) := by decide +kernel
theorem dX2_init_17 : decode cX2_init 17 = .ok (.putfield 15, 3) := by decide +kernel
theorem dX2_init_20 : decode cX2_init 20 = .ok (.aload_n 0, 1) := by decide +kernel
theorem dX2_init_21 : decode cX2_init 21 = .ok (.bipush 20, 2) := by decide +kernel
theorem dX2_init_23 : decode cX2_init 23 = .ok (.newarray .int, 2) := by decide +kernel
theorem dX2_init_25 : decode cX2_init 25 = .ok (.putfield 18, 3) := by decide +kernel
theorem dX2_init_28 : decode cX2_init 28 = .ok (.aload_n 0, 1) := by decide +kernel
theorem dX2_init_29 : decode cX2_init 29 = .ok (.bipush 20, 2) := by decide +kernel
theorem dX2_init_31 : decode cX2_init 31 = .ok (.newarray .int, 2) := by decide +kernel
theorem dX2_init_33 : decode cX2_init 33 = .ok (.putfield 21, 3) := by decide +kernel
theorem dX2_init_36 : decode cX2_init 36 = .ok (.aload_n 0, 1) := by decide +kernel
theorem dX2_init_37 : decode cX2_init 37 = .ok (.iconst 0, 1) := by decide +kernel
theorem dX2_init_38 : decode cX2_init 38 = .ok (.putfield 24, 3) := by decide +kernel
theorem dX2_init_41 : decode cX2_init 41 = .ok (.return_, 1) := by decide +kernel
theorem dX2_layOut_0 : decode cX2_layOut 0 = .ok (.iconst 0, 1) := by decide +kernel
theorem dX2_layOut_1 : decode cX2_layOut 1 = .ok (.istore 4, 2) := by decide +kernel
theorem dX2_layOut_3 : decode cX2_layOut 3 = .ok (.iload 4, 2) := by decide +kernel
theorem dX2_layOut_5 : decode cX2_layOut 5 = .ok (.aload_n 2, 1) := by decide +kernel
theorem dX2_layOut_6 : decode cX2_layOut 6 = .ok (.getfield 28, 3) := by decide +kernel
theorem dX2_layOut_9 : decode cX2_layOut 9 = .ok (.if_icmp .ge 17, 3) := by decide +kernel
theorem dX2_layOut_12 : decode cX2_layOut 12 = .ok (.aload_n 0, 1) := by decide +kernel
theorem dX2_layOut_13 : decode cX2_layOut 13 = .ok (.aload_n 1, 1) := by decide +kernel
theorem dX2_layOut_14 : decode cX2_layOut 14 = .ok (.aload_n 2, 1) := by decide +kernel
theorem dX2_layOut_15 : decode cX2_layOut 15 = .ok (.iload 4, 2) := by decide +kernel
theorem dX2_layOut_17 : decode cX2_layOut 17 = .ok (.invokevirtual 33, 3) := by decide +kernel
theorem dX2_layOut_20 : decode cX2_layOut 20 = .ok (.iinc 4 1, 3) := by decide +kernel
theorem dX2_layOut_23 : decode cX2_layOut 23 = .ok (.goto (-20), 3) := by decide +kernel
theorem dX2_layOut_26 : decode cX2_layOut 26 = .ok (.aload_n 1, 1) := by decide +kernel
theorem dX2_layOut_27 : decode cX2_layOut 27 = .ok (.getfield 37, 3) := by decide +kernel
theorem dX2_layOut_30 : decode cX2_layOut 30 = .ok (.iconst (-1), 1) := by decide +kernel
theorem dX2_layOut_31 : decode cX2_layOut 31 = .ok (.if_icmp .eq 7, 3) := by decide +kernel
theorem dX2_layOut_34 : decode cX2_layOut 34 = .ok (.iconst 1, 1) := by decide +kernel
theorem dX2_layOut_35 : decode cX2_layOut 35 = .ok (.goto 4, 3) := by decide +kernel
theorem dX2_layOut_38 : decode cX2_layOut 38 = .ok (.iconst 0, 1) := by decide +kernel
theorem dX2_layOut_39 : decode cX2_layOut 39 = .ok (.istore 4, 2) := by decide +kernel
theorem dX2_layOut_41 : decode cX2_layOut 41 = .ok (.iload 4, 2) := by decide +kernel
theorem dX2_layOut_43 : decode cX2_layOut 43 = .ok (.ifCond .eq 31, 3) := by decide +kernel
theorem dX2_layOut_46 : decode cX2_layOut 46 = .ok (.aload_n 2, 1) := by decide +kernel
theorem dX2_layOut_47 : decode cX2_layOut 47 = .ok (.getfield 28, 3) := by decide +kernel
theorem dX2_layOut_50 : decode cX2_layOut 50 = .ok (.iconst 1, 1) := by decide +kernel
theorem dX2_layOut_51 : decode cX2_layOut 51 = .ok (.if_icmp .ne 23, 3) := by decide +kernel
theorem dX2_layOut_54 : decode cX2_layOut 54 = .ok (.aload_n 1, 1) := by decide +kernel
theorem dX2_layOut_55 : decode cX2_layOut 55 = .ok (.invokevirtual 42, 3) := by decide +kernel
theorem dX2_layOut_58 : decode cX2_layOut 58 = .ok (.ifCond .ne 16, 3) := by decide +kernel
theorem dX2_layOut_61 : decode cX2_layOut 61 = .ok (.aload_n 0, 1) := by decide +kernel
theorem dX2_layOut_62 : decode cX2_layOut 62 = .ok (.getfield 9, 3) := by decide +kernel
theorem dX2_layOut_65 : decode cX2_layOut 65 = .ok (.iconst 0, 1) := by decide +kernel
theorem dX2_layOut_66 : decode cX2_layOut 66 = .ok (.aload_n 1, 1) := by decide +kernel
theorem dX2_layOut_67 : decode cX2_layOut 67 = .ok (.getfield 37, 3) := by decide +kernel
theorem dX2_layOut_70 : decode cX2_layOut 70 = .ok (.iastore, 1) := by decide +kernel
theorem dX2_layOut_71 : decode cX2_layOut 71 = .ok (.goto 24, 3) := by decide +kernel
theorem dX2_layOut_74 : decode cX2_layOut 74 = .ok (.iload 4, 2) := by decide +kernel
theorem dX2_layOut_76 : decode cX2_layOut 76 = .ok (.ifCond .eq 19, 3) := by decide +kernel
theorem dX2_layOut_79 : decode cX2_layOut 79 = .ok (.aload_n 1, 1) := by decide +kernel
theorem dX2_layOut_80 : decode cX2_layOut 80 = .ok (.getfield 46, 3) := by decide +kernel
theorem dX2_layOut_83 : decode cX2_layOut 83 = .ok (.iconst 4, 1) := by decide +kernel
theorem dX2_layOut_84 : decode cX2_layOut 84 = .ok (.iaload, 1) := by decide +kernel
theorem dX2_layOut_85 : decode cX2_layOut 85 = .ok (.ifCond .ne 10, 3) := by decide +kernel
theorem dX2_layOut_88 : decode cX2_layOut 88 = .ok (.aload_n 0, 1) := by decide +kernel
theorem dX2_layOut_89 : decode cX2_layOut 89 = .ok (.aload_n 1, 1) := by decide +kernel
theorem dX2_layOut_90 : decode cX2_layOut 90 = .ok (.aload_n 2, 1) := by decide +kernel
theorem dX2_layOut_91 : decode cX2_layOut 91 = .ok (.aload_n 3, 1) := by decide +kernel
theorem dX2_layOut_92 : decode cX2_layOut 92 = .ok (.invokevirtual 49, 3) := by decide +kernel
theorem dX2_layOut_95 : decode cX2_layOut 95 = .ok (.aload_n 0, 1) := by decide +kernel
theorem dX2_layOut_96 : decode cX2_layOut 96 = .ok (.aload_n 1, 1) := by decide +kernel
theorem dX2_layOut_97 : decode cX2_layOut 97 = .ok (.aload_n 2, 1) := by decide +kernel
theorem dX2_layOut_98 : decode cX2_layOut 98 = .ok (.invokevirtual 53, 3) := by decide +kernel
theorem dX2_layOut_101 : decode cX2_layOut 101 = .ok (.istore 5, 2) := by decide +kernel
theorem dX2_layOut_103 : decode cX2_layOut 103 = .ok (.aload_n 0, 1) := by decide +kernel
theorem dX2_layOut_104 : decode cX2_layOut 104 = .ok (.iload 4, 2) := by decide +kernel
theorem dX2_layOut_106 : decode cX2_layOut 106 = .ok (.ifCond .eq 10, 3) := by decide +kernel
theorem dX2_layOut_109 : decode cX2_layOut 109 = .ok (.aload_n 1, 1) := by decide +kernel
theorem dX2_layOut_110 : decode cX2_layOut 110 = .ok (.getfield 37, 3) := by decide +kernel
theorem dX2_layOut_113 : decode cX2_layOut 113 = .ok (.goto 5, 3) := by decide +kernel
theorem dX2_layOut_116 : decode cX2_layOut 116 = .ok (.iload 5, 2) := by decide +kernel
theorem dX2_layOut_118 : decode cX2_layOut 118 = .ok (.putfield 24, 3) := by decide +kernel
theorem dX2_layOut_121 : decode cX2_layOut 121 = .ok (.aload_n 0, 1) := by decide +kernel
theorem dX2_layOut_122 : decode cX2_layOut 122 = .ok (.aload_n 1, 1) := by decide +kernel
theorem dX2_layOut_123 : decode cX2_layOut 123 = .ok (.aload_n 2, 1) := by decide +kernel
theorem dX2_layOut_124 : decode cX2_layOut 124 = .ok (.aload_n 0, 1) := by decide +kernel
theorem dX2_layOut_125 : decode cX2_layOut 125 = .ok (.getfield 24, 3) := by decide +kernel
theorem dX2_layOut_128 : decode cX2_layOut 128 = .ok (.iload 5, 2) := by decide +kernel
theorem dX2_layOut_130 : decode cX2_layOut 130 = .ok (.isub, 1) := by decide +kernel
theorem dX2_layOut_131 : decode cX2_layOut 131 = .ok (.invokevirtual 57, 3) := by decide +kernel
theorem dX2_layOut_134 : decode cX2_layOut 134 = .ok (.return_, 1) := by decide +kernel
theorem dX2_measure_0 : decode cX2_measure 0 = .ok (.iconst 0, 1) := by decide +kernel
theorem dX2_measure_1 : decode cX2_measure 1 = .ok (.istore 4, 2) := by decide +kernel
theorem dX2_measure_3 : decode cX2_measure 3 = .ok (.iconst 0, 1) := by decide +kernel
theorem dX2_measure_4 : decode cX2_measure 4 = .ok (.istore 5, 2) := by decide +kernel
theorem dX2_measure_6 : decode cX2_measure 6 = .ok (.iconst 0, 1) := by decide +kernel
theorem dX2_measure_7 : decode cX2_measure 7 = .ok (.istore 6, 2) := by decide +kernel
theorem dX2_measure_9 : decode cX2_measure 9 = .ok (.iconst 0, 1) := by decide +kernel
theorem dX2_measure_10 : decode cX2_measure 10 = .ok (.istore 7, 2) := by decide +kernel
theorem dX2_measure_12 : decode cX2_measure 12 = .ok (.aload_n 2, 1) := by decide +kernel
theorem dX2_measure_13 : decode cX2_measure 13 = .ok (.getfield 60, 3) := by decide +kernel
theorem dX2_measure_16 : decode cX2_measure 16 = .ok (.iload_n 3, 1) := by decide +kernel
theorem dX2_measure_17 : decode cX2_measure 17 = .ok (.iaload, 1) := by decide +kernel
theorem dX2_measure_18 : decode cX2_measure 18 = .ok (.istore 8, 2) := by decide +kernel
theorem dX2_measure_20 : decode cX2_measure 20 = .ok (.iload 8, 2) := by decide +kernel
theorem dX2_measure_22 : decode cX2_measure 22 = .ok (.aload_n 2, 1) := by decide +kernel
theorem dX2_measure_23 : decode cX2_measure 23 = .ok (.getfield 60, 3) := by decide +kernel
theorem dX2_measure_26 : decode cX2_measure 26 = .ok (.iload_n 3, 1) := by decide +kernel
theorem dX2_measure_27 : decode cX2_measure 27 = .ok (.iconst 1, 1) := by decide +kernel
theorem dX2_measure_28 : decode cX2_measure 28 = .ok (.iadd, 1) := by decide +kernel
theorem dX2_measure_29 : decode cX2_measure 29 = .ok (.iaload, 1) := by decide +kernel
theorem dX2_measure_30 : decode cX2_measure 30 = .ok (.if_icmp .ge 97, 3) := by decide +kernel
theorem dX2_measure_33 : decode cX2_measure 33 = .ok (.aload_n 2, 1) := by decide +kernel
theorem dX2_measure_34 : decode cX2_measure 34 = .ok (.getfield 63, 3) := by decide +kernel
theorem dX2_measure_37 : decode cX2_measure 37 = .ok (.iload 8, 2) := by decide +kernel
theorem dX2_measure_39 : decode cX2_measure 39 = .ok (.iaload, 1) := by decide +kernel
theorem dX2_measure_40 : decode cX2_measure 40 = .ok (.istore 9, 2) := by decide +kernel
theorem dX2_measure_42 : decode cX2_measure 42 = .ok (.aload_n 1, 1) := by decide +kernel
theorem dX2_measure_43 : decode cX2_measure 43 = .ok (.getfield 66, 3) := by decide +kernel
theorem dX2_measure_46 : decode cX2_measure 46 = .ok (.iload 9, 2) := by decide +kernel
theorem dX2_measure_48 : decode cX2_measure 48 = .ok (.aaload, 1) := by decide +kernel
theorem dX2_measure_49 : decode cX2_measure 49 = .ok (.astore 10, 2) := by decide +kernel
theorem dX2_measure_51 : decode cX2_measure 51 = .ok (.aload_n 1, 1) := by decide +kernel
theorem dX2_measure_52 : decode cX2_measure 52 = .ok (.iload 9, 2) := by decide +kernel
theorem dX2_measure_54 : decode cX2_measure 54 = .ok (.invokevirtual 70, 3) := by decide +kernel
theorem dX2_measure_57 : decode cX2_measure 57 = .ok (.iconst 4, 1) := by decide +kernel
theorem dX2_measure_58 : decode cX2_measure 58 = .ok (.if_icmp .ne 52, 3) := by decide +kernel
theorem dX2_measure_61 : decode cX2_measure 61 = .ok (.aload 10, 2) := by decide +kernel
theorem dX2_measure_63 : decode cX2_measure 63 = .ok (.iconst 5, 1) := by decide +kernel
theorem dX2_measure_64 : decode cX2_measure 64 = .ok (.iaload, 1) := by decide +kernel
theorem dX2_measure_65 : decode cX2_measure 65 = .ok (.aload 10, 2) := by decide +kernel
theorem dX2_measure_67 : decode cX2_measure 67 = .ok (.bipush 6, 2) := by decide +kernel
theorem dX2_measure_69 : decode cX2_measure 69 = .ok (.iaload, 1) := by decide +kernel
theorem dX2_measure_70 : decode cX2_measure 70 = .ok (.isub, 1) := by decide +kernel
theorem dX2_measure_71 : decode cX2_measure 71 = .ok (.istore 11, 2) := by decide +kernel
theorem dX2_measure_73 : decode cX2_measure 73 = .ok (.iload 5, 2) := by decide +kernel
theorem dX2_measure_75 : decode cX2_measure 75 = .ok (.aload 10, 2) := by decide +kernel
theorem dX2_measure_77 : decode cX2_measure 77 = .ok (.bipush 6, 2) := by decide +kernel
theorem dX2_measure_79 : decode cX2_measure 79 = .ok (.iaload, 1) := by decide +kernel
theorem dX2_measure_80 : decode cX2_measure 80 = .ok (.invokestatic 74, 3) := by decide +kernel
theorem dX2_measure_83 : decode cX2_measure 83 = .ok (.istore 5, 2) := by decide +kernel
theorem dX2_measure_85 : decode cX2_measure 85 = .ok (.iload 7, 2) := by decide +kernel
theorem dX2_measure_87 : decode cX2_measure 87 = .ok (.ifCond .eq 13, 3) := by decide +kernel
theorem dX2_measure_90 : decode cX2_measure 90 = .ok (.iload 6, 2) := by decide +kernel
theorem dX2_measure_92 : decode cX2_measure 92 = .ok (.iload 11, 2) := by decide +kernel
theorem dX2_measure_94 : decode cX2_measure 94 = .ok (.invokestatic 74, 3) := by decide +kernel
theorem dX2_measure_97 : decode cX2_measure 97 = .ok (.goto 5, 3) := by decide +kernel
theorem dX2_measure_100 : decode cX2_measure 100 = .ok (.iload 11, 2) := by decide +kernel
theorem dX2_measure_102 : decode cX2_measure 102 = .ok (.istore 6, 2) := by decide +kernel
theorem dX2_measure_104 : decode cX2_measure 104 = .ok (.iconst 1, 1) := by decide +kernel
theorem dX2_measure_105 : decode cX2_measure 105 = .ok (.istore 7, 2) := by decide +kernel
theorem dX2_measure_107 : decode cX2_measure 107 = .ok (.goto 14, 3) := by decide +kernel
theorem dX2_measure_110 : decode cX2_measure 110 = .ok (.iload 4, 2) := by decide +kernel
theorem dX2_measure_112 : decode cX2_measure 112 = .ok (.aload 10, 2) := by decide +kernel
theorem dX2_measure_114 : decode cX2_measure 114 = .ok (.iconst 5, 1) := by decide +kernel
theorem dX2_measure_115 : decode cX2_measure 115 = .ok (.iaload, 1) := by decide +kernel
theorem dX2_measure_116 : decode cX2_measure 116 = .ok (.invokestatic 74, 3) := by decide +kernel
theorem dX2_measure_119 : decode cX2_measure 119 = .ok (.istore 4, 2) := by decide +kernel
theorem dX2_measure_121 : decode cX2_measure 121 = .ok (.iinc 8 1, 3) := by decide +kernel
theorem dX2_measure_124 : decode cX2_measure 124 = .ok (.goto (-104), 3) := by decide +kernel
theorem dX2_measure_127 : decode cX2_measure 127 = .ok (.aload_n 0, 1) := by decide +kernel
theorem dX2_measure_128 : decode cX2_measure 128 = .ok (.getfield 9, 3) := by decide +kernel
theorem dX2_measure_131 : decode cX2_measure 131 = .ok (.iload_n 3, 1) := by decide +kernel
theorem dX2_measure_132 : decode cX2_measure 132 = .ok (.iload 4, 2) := by decide +kernel
theorem dX2_measure_134 : decode cX2_measure 134 = .ok (.iload 5, 2) := by decide +kernel
theorem dX2_measure_136 : decode cX2_measure 136 = .ok (.iload 6, 2) := by decide +kernel
theorem dX2_measure_138 : decode cX2_measure 138 = .ok (.iadd, 1) := by decide +kernel
theorem dX2_measure_139 : decode cX2_measure 139 = .ok (.invokestatic 74, 3) := by decide +kernel
theorem dX2_measure_142 : decode cX2_measure 142 = .ok (.iastore, 1) := by decide +kernel
theorem dX2_measure_143 : decode cX2_measure 143 = .ok (.aload_n 0, 1) := by decide +kernel
theorem dX2_measure_144 : decode cX2_measure 144 = .ok (.getfield 15, 3) := by decide +kernel
theorem dX2_measure_147 : decode cX2_measure 147 = .ok (.iload_n 3, 1) := by decide +kernel
theorem dX2_measure_148 : decode cX2_measure 148 = .ok (.iload 5, 2) := by decide +kernel
theorem dX2_measure_150 : decode cX2_measure 150 = .ok (.iastore, 1) := by decide +kernel
theorem dX2_measure_151 : decode cX2_measure 151 = .ok (.return_, 1) := by decide +kernel
theorem dX2_stretch_0 : decode cX2_stretch 0 = .ok (.aload_n 1, 1) := by decide +kernel
theorem dX2_stretch_1 : decode cX2_stretch 1 = .ok (.getfield 37, 3) := by decide +kernel
theorem dX2_stretch_4 : decode cX2_stretch 4 = .ok (.aload_n 0, 1) := by decide +kernel
theorem dX2_stretch_5 : decode cX2_stretch 5 = .ok (.aload_n 1, 1) := by decide +kernel
theorem dX2_stretch_6 : decode cX2_stretch 6 = .ok (.aload_n 2, 1) := by decide +kernel
theorem dX2_stretch_7 : decode cX2_stretch 7 = .ok (.invokevirtual 53, 3) := by decide +kernel
theorem dX2_stretch_10 : decode cX2_stretch 10 = .ok (.isub, 1) := by decide +kernel
theorem dX2_stretch_11 : decode cX2_stretch 11 = .ok (.istore 4, 2) := by decide +kernel
theorem dX2_stretch_13 : decode cX2_stretch 13 = .ok (.iload 4, 2) := by decide +kernel
theorem dX2_stretch_15 : decode cX2_stretch 15 = .ok (.ifCond .gt 4, 3) := by decide +kernel
theorem dX2_stretch_18 : decode cX2_stretch 18 = .ok (.return_, 1) := by decide +kernel
theorem dX2_stretch_19 : decode cX2_stretch 19 = .ok (.iconst 0, 1) := by decide +kernel
theorem dX2_stretch_20 : decode cX2_stretch 20 = .ok (.istore 5, 2) := by decide +kernel
theorem dX2_stretch_22 : decode cX2_stretch 22 = .ok (.iload 5, 2) := by decide +kernel
theorem dX2_stretch_24 : decode cX2_stretch 24 = .ok (.aload_n 2, 1) := by decide +kernel
theorem dX2_stretch_25 : decode cX2_stretch 25 = .ok (.getfield 28, 3) := by decide +kernel
theorem dX2_stretch_28 : decode cX2_stretch 28 = .ok (.if_icmp .ge 17, 3) := by decide +kernel
theorem dX2_stretch_31 : decode cX2_stretch 31 = .ok (.aload_n 3, 1) := by decide +kernel
theorem dX2_stretch_32 : decode cX2_stretch 32 = .ok (.getfield 80, 3) := by decide +kernel
theorem dX2_stretch_35 : decode cX2_stretch 35 = .ok (.iload 5, 2) := by decide +kernel
theorem dX2_stretch_37 : decode cX2_stretch 37 = .ok (.lconst 1, 1) := by decide +kernel
theorem dX2_stretch_38 : decode cX2_stretch 38 = .ok (.lastore, 1) := by decide +kernel
theorem dX2_stretch_39 : decode cX2_stretch 39 = .ok (.iinc 5 1, 3) := by decide +kernel
theorem dX2_stretch_42 : decode cX2_stretch 42 = .ok (.goto (-20), 3) := by decide +kernel
theorem dX2_stretch_45 : decode cX2_stretch 45 = .ok (.aload_n 3, 1) := by decide +kernel
theorem dX2_stretch_46 : decode cX2_stretch 46 = .ok (.iload 4, 2) := by decide +kernel
theorem dX2_stretch_48 : decode cX2_stretch 48 = .ok (.aload_n 2, 1) := by decide +kernel
theorem dX2_stretch_49 : decode cX2_stretch 49 = .ok (.getfield 28, 3) := by decide +kernel
theorem dX2_stretch_52 : decode cX2_stretch 52 = .ok (.invokevirtual 86, 3) := by decide +kernel
theorem dX2_stretch_55 : decode cX2_stretch 55 = .ok (.iconst 0, 1) := by decide +kernel
theorem dX2_stretch_56 : decode cX2_stretch 56 = .ok (.istore 5, 2) := by decide +kernel
theorem dX2_stretch_58 : decode cX2_stretch 58 = .ok (.iload 5, 2) := by decide +kernel
theorem dX2_stretch_60 : decode cX2_stretch 60 = .ok (.aload_n 2, 1) := by decide +kernel
theorem dX2_stretch_61 : decode cX2_stretch 61 = .ok (.getfield 28, 3) := by decide +kernel
theorem dX2_stretch_64 : decode cX2_stretch 64 = .ok (.if_icmp .ge 26, 3) := by decide +kernel
theorem dX2_stretch_67 : decode cX2_stretch 67 = .ok (.aload_n 0, 1) := by decide +kernel
theorem dX2_stretch_68 : decode cX2_stretch 68 = .ok (.getfield 9, 3) := by decide +kernel
theorem dX2_stretch_71 : decode cX2_stretch 71 = .ok (.iload 5, 2) := by decide +kernel
theorem dX2_stretch_73 : decode cX2_stretch 73 = .ok (.dup2, 1) := by decide +kernel
theorem dX2_stretch_74 : decode cX2_stretch 74 = .ok (.iaload, 1) := by decide +kernel
theorem dX2_stretch_75 : decode cX2_stretch 75 = .ok (.aload_n 3, 1) := by decide +kernel
theorem dX2_stretch_76 : decode cX2_stretch 76 = .ok (.getfield 90, 3) := by decide +kernel
theorem dX2_stretch_79 : decode cX2_stretch 79 = .ok (.iload 5, 2) := by decide +kernel
theorem dX2_stretch_81 : decode cX2_stretch 81 = .ok (.iaload, 1) := by decide +kernel
theorem dX2_stretch_82 : decode cX2_stretch 82 = .ok (.iadd, 1) := by decide +kernel
theorem dX2_stretch_83 : decode cX2_stretch 83 = .ok (.iastore, 1) := by decide +kernel
theorem dX2_stretch_84 : decode cX2_stretch 84 = .ok (.iinc 5 1, 3) := by decide +kernel
theorem dX2_stretch_87 : decode cX2_stretch 87 = .ok (.goto (-29), 3) := by decide +kernel
theorem dX2_stretch_90 : decode cX2_stretch 90 = .ok (.return_, 1) := by decide +kernel
theorem dX2_lengthOfLines_0 : decode cX2_lengthOfLines 0 = .ok (.iconst 0, 1) := by decide +kernel
theorem dX2_lengthOfLines_1 : decode cX2_lengthOfLines 1 = .ok (.istore_n 3, 1) := by decide +kernel
theorem dX2_lengthOfLines_2 : decode cX2_lengthOfLines 2 = .ok (.iconst 0, 1) := by decide +kernel
theorem dX2_lengthOfLines_3 : decode cX2_lengthOfLines 3 = .ok (.istore 4, 2) := by decide +kernel
theorem dX2_lengthOfLines_5 : decode cX2_lengthOfLines 5 = .ok (.iload 4, 2) := by decide +kernel
theorem dX2_lengthOfLines_7 : decode cX2_lengthOfLines 7 = .ok (.aload_n 2, 1) := by decide +kernel
theorem dX2_lengthOfLines_8 : decode cX2_lengthOfLines 8 = .ok (.getfield 28, 3) := by decide +kernel
theorem dX2_lengthOfLines_11 : decode cX2_lengthOfLines 11 = .ok (.if_icmp .ge 33, 3) := by decide +kernel
theorem dX2_lengthOfLines_14 : decode cX2_lengthOfLines 14 = .ok (.iload_n 3, 1) := by decide +kernel
theorem dX2_lengthOfLines_15 : decode cX2_lengthOfLines 15 = .ok (.aload_n 0, 1) := by decide +kernel
theorem dX2_lengthOfLines_16 : decode cX2_lengthOfLines 16 = .ok (.getfield 9, 3) := by decide +kernel
theorem dX2_lengthOfLines_19 : decode cX2_lengthOfLines 19 = .ok (.iload 4, 2) := by decide +kernel
theorem dX2_lengthOfLines_21 : decode cX2_lengthOfLines 21 = .ok (.iaload, 1) := by decide +kernel
theorem dX2_lengthOfLines_22 : decode cX2_lengthOfLines 22 = .ok (.iload 4, 2) := by decide +kernel
theorem dX2_lengthOfLines_24 : decode cX2_lengthOfLines 24 = .ok (.ifCond .le 10, 3) := by decide +kernel
theorem dX2_lengthOfLines_27 : decode cX2_lengthOfLines 27 = .ok (.aload_n 1, 1) := by decide +kernel
theorem dX2_lengthOfLines_28 : decode cX2_lengthOfLines 28 = .ok (.getfield 93, 3) := by decide +kernel
theorem dX2_lengthOfLines_31 : decode cX2_lengthOfLines 31 = .ok (.goto 4, 3) := by decide +kernel
theorem dX2_lengthOfLines_34 : decode cX2_lengthOfLines 34 = .ok (.iconst 0, 1) := by decide +kernel
theorem dX2_lengthOfLines_35 : decode cX2_lengthOfLines 35 = .ok (.iadd, 1) := by decide +kernel
theorem dX2_lengthOfLines_36 : decode cX2_lengthOfLines 36 = .ok (.iadd, 1) := by decide +kernel
theorem dX2_lengthOfLines_37 : decode cX2_lengthOfLines 37 = .ok (.istore_n 3, 1) := by decide +kernel
theorem dX2_lengthOfLines_38 : decode cX2_lengthOfLines 38 = .ok (.iinc 4 1, 3) := by decide +kernel
theorem dX2_lengthOfLines_41 : decode cX2_lengthOfLines 41 = .ok (.goto (-36), 3) := by decide +kernel
theorem dX2_lengthOfLines_44 : decode cX2_lengthOfLines 44 = .ok (.iload_n 3, 1) := by decide +kernel
theorem dX2_lengthOfLines_45 : decode cX2_lengthOfLines 45 = .ok (.ireturn, 1) := by decide +kernel
theorem dX2_findPositions_0 : decode cX2_findPositions 0 = .ok (.aload_n 1, 1) := by decide +kernel
theorem dX2_findPositions_1 : decode cX2_findPositions 1 = .ok (.getfield 46, 3) := by decide +kernel
theorem dX2_findPositions_4 : decode cX2_findPositions 4 = .ok (.iconst 4, 1) := by decide +kernel
theorem dX2_findPositions_5 : decode cX2_findPositions 5 = .ok (.iaload, 1) := by decide +kernel
theorem dX2_findPositions_6 : decode cX2_findPositions 6 = .ok (.istore 4, 2) := by decide +kernel
theorem dX2_findPositions_8 : decode cX2_findPositions 8 = .ok (.iload 4, 2) := by decide +kernel
theorem dX2_findPositions_10 : decode cX2_findPositions 10 = .ok (.ifCond .ne 7, 3) := by decide +kernel
theorem dX2_findPositions_13 : decode cX2_findPositions 13 = .ok (.iconst 0, 1) := by decide +kernel
theorem dX2_findPositions_14 : decode cX2_findPositions 14 = .ok (.goto 7, 3) := by decide +kernel
theorem dX2_findPositions_17 : decode cX2_findPositions 17 = .ok (.iload 4, 2) := by decide +kernel
theorem dX2_findPositions_19 : decode cX2_findPositions 19 = .ok (.iconst 1, 1) := by decide +kernel
theorem dX2_findPositions_20 : decode cX2_findPositions 20 = .ok (.isub, 1) := by decide +kernel
theorem dX2_findPositions_21 : decode cX2_findPositions 21 = .ok (.istore 5, 2) := by decide +kernel
theorem dX2_findPositions_23 : decode cX2_findPositions 23 = .ok (.iconst 0, 1) := by decide +kernel
theorem dX2_findPositions_24 : decode cX2_findPositions 24 = .ok (.istore 6, 2) := by decide +kernel
theorem dX2_findPositions_26 : decode cX2_findPositions 26 = .ok (.iconst 0, 1) := by decide +kernel
theorem dX2_findPositions_27 : decode cX2_findPositions 27 = .ok (.istore 7, 2) := by decide +kernel
theorem dX2_findPositions_29 : decode cX2_findPositions 29 = .ok (.iload 7, 2) := by decide +kernel
theorem dX2_findPositions_31 : decode cX2_findPositions 31 = .ok (.aload_n 2, 1) := by decide +kernel
theorem dX2_findPositions_32 : decode cX2_findPositions 32 = .ok (.getfield 28, 3) := by decide +kernel
theorem dX2_findPositions_35 : decode cX2_findPositions 35 = .ok (.if_icmp .ge 88, 3) := by decide +kernel
theorem dX2_findPositions_38 : decode cX2_findPositions 38 = .ok (.iload 6, 2) := by decide +kernel
theorem dX2_findPositions_40 : decode cX2_findPositions 40 = .ok (.iload 5, 2) := by decide +kernel
theorem dX2_findPositions_42 : decode cX2_findPositions 42 = .ok (.iload_n 3, 1) := by decide +kernel
theorem dX2_findPositions_43 : decode cX2_findPositions 43 = .ok (.iload 7, 2) := by decide +kernel
theorem dX2_findPositions_45 : decode cX2_findPositions 45 = .ok (.aload_n 2, 1) := by decide +kernel
theorem dX2_findPositions_46 : decode cX2_findPositions 46 = .ok (.getfield 28, 3) := by decide +kernel
theorem dX2_findPositions_49 : decode cX2_findPositions 49 = .ok (.invokestatic 96, 3) := by decide +kernel
theorem dX2_findPositions_52 : decode cX2_findPositions 52 = .ok (.iadd, 1) := by decide +kernel
theorem dX2_findPositions_53 : decode cX2_findPositions 53 = .ok (.istore 8, 2) := by decide +kernel
theorem dX2_findPositions_55 : decode cX2_findPositions 55 = .ok (.aload_n 2, 1) := by decide +kernel
theorem dX2_findPositions_56 : decode cX2_findPositions 56 = .ok (.getfield 60, 3) := by decide +kernel
theorem dX2_findPositions_59 : decode cX2_findPositions 59 = .ok (.iload 7, 2) := by decide +kernel
theorem dX2_findPositions_61 : decode cX2_findPositions 61 = .ok (.iaload, 1) := by decide +kernel
theorem dX2_findPositions_62 : decode cX2_findPositions 62 = .ok (.istore 9, 2) := by decide +kernel
theorem dX2_findPositions_64 : decode cX2_findPositions 64 = .ok (.iload 9, 2) := by decide +kernel
theorem dX2_findPositions_66 : decode cX2_findPositions 66 = .ok (.aload_n 2, 1) := by decide +kernel
theorem dX2_findPositions_67 : decode cX2_findPositions 67 = .ok (.getfield 60, 3) := by decide +kernel
theorem dX2_findPositions_70 : decode cX2_findPositions 70 = .ok (.iload 7, 2) := by decide +kernel
theorem dX2_findPositions_72 : decode cX2_findPositions 72 = .ok (.iconst 1, 1) := by decide +kernel
theorem dX2_findPositions_73 : decode cX2_findPositions 73 = .ok (.iadd, 1) := by decide +kernel
theorem dX2_findPositions_74 : decode cX2_findPositions 74 = .ok (.iaload, 1) := by decide +kernel
theorem dX2_findPositions_75 : decode cX2_findPositions 75 = .ok (.if_icmp .ge 25, 3) := by decide +kernel
theorem dX2_findPositions_78 : decode cX2_findPositions 78 = .ok (.aload_n 0, 1) := by decide +kernel
theorem dX2_findPositions_79 : decode cX2_findPositions 79 = .ok (.aload_n 1, 1) := by decide +kernel
theorem dX2_findPositions_80 : decode cX2_findPositions 80 = .ok (.aload_n 2, 1) := by decide +kernel
theorem dX2_findPositions_81 : decode cX2_findPositions 81 = .ok (.getfield 63, 3) := by decide +kernel
theorem dX2_findPositions_84 : decode cX2_findPositions 84 = .ok (.iload 9, 2) := by decide +kernel
theorem dX2_findPositions_86 : decode cX2_findPositions 86 = .ok (.iaload, 1) := by decide +kernel
theorem dX2_findPositions_87 : decode cX2_findPositions 87 = .ok (.iload 7, 2) := by decide +kernel
theorem dX2_findPositions_89 : decode cX2_findPositions 89 = .ok (.iload 8, 2) := by decide +kernel
theorem dX2_findPositions_91 : decode cX2_findPositions 91 = .ok (.invokevirtual 100, 3) := by decide +kernel
theorem dX2_findPositions_94 : decode cX2_findPositions 94 = .ok (.iinc 9 1, 3) := by decide +kernel
theorem dX2_findPositions_97 : decode cX2_findPositions 97 = .ok (.goto (-33), 3) := by decide +kernel
theorem dX2_findPositions_100 : decode cX2_findPositions 100 = .ok (.iload 6, 2) := by decide +kernel
theorem dX2_findPositions_102 : decode cX2_findPositions 102 = .ok (.aload_n 0, 1) := by decide +kernel
theorem dX2_findPositions_103 : decode cX2_findPositions 103 = .ok (.getfield 9, 3) := by decide +kernel
theorem dX2_findPositions_106 : decode cX2_findPositions 106 = .ok (.iload 7, 2) := by decide +kernel
theorem dX2_findPositions_108 : decode cX2_findPositions 108 = .ok (.iaload, 1) := by decide +kernel
theorem dX2_findPositions_109 : decode cX2_findPositions 109 = .ok (.aload_n 1, 1) := by decide +kernel
theorem dX2_findPositions_110 : decode cX2_findPositions 110 = .ok (.getfield 93, 3) := by decide +kernel
theorem dX2_findPositions_113 : decode cX2_findPositions 113 = .ok (.iadd, 1) := by decide +kernel
theorem dX2_findPositions_114 : decode cX2_findPositions 114 = .ok (.iadd, 1) := by decide +kernel
theorem dX2_findPositions_115 : decode cX2_findPositions 115 = .ok (.istore 6, 2) := by decide +kernel
theorem dX2_findPositions_117 : decode cX2_findPositions 117 = .ok (.iinc 7 1, 3) := by decide +kernel
theorem dX2_findPositions_120 : decode cX2_findPositions 120 = .ok (.goto (-91), 3) := by decide +kernel
theorem dX2_findPositions_123 : decode cX2_findPositions 123 = .ok (.return_, 1) := by decide +kernel
theorem dX2_put_0 : decode cX2_put 0 = .ok (.aload_n 1, 1) := by decide +kernel
theorem dX2_put_1 : decode cX2_put 1 = .ok (.getfield 66, 3) := by decide +kernel
theorem dX2_put_4 : decode cX2_put 4 = .ok (.iload_n 2, 1) := by decide +kernel
theorem dX2_put_5 : decode cX2_put 5 = .ok (.aaload, 1) := by decide +kernel
theorem dX2_put_6 : decode cX2_put 6 = .ok (.astore 5, 2) := by decide +kernel
theorem dX2_put_8 : decode cX2_put 8 = .ok (.aload_n 1, 1) := by decide +kernel
theorem dX2_put_9 : decode cX2_put 9 = .ok (.iload_n 2, 1) := by decide +kernel
theorem dX2_put_10 : decode cX2_put 10 = .ok (.invokevirtual 70, 3) := by decide +kernel
theorem dX2_put_13 : decode cX2_put 13 = .ok (.ifCond .ne 16, 3) := by decide +kernel
theorem dX2_put_16 : decode cX2_put 16 = .ok (.aload 5, 2) := by decide +kernel
theorem dX2_put_18 : decode cX2_put 18 = .ok (.bipush 9, 2) := by decide +kernel
theorem dX2_put_20 : decode cX2_put 20 = .ok (.iaload, 1) := by decide +kernel
theorem dX2_put_21 : decode cX2_put 21 = .ok (.iconst 1, 1) := by decide +kernel
theorem dX2_put_22 : decode cX2_put 22 = .ok (.if_icmp .ne 7, 3) := by decide +kernel
theorem dX2_put_25 : decode cX2_put 25 = .ok (.iconst 1, 1) := by decide +kernel
theorem dX2_put_26 : decode cX2_put 26 = .ok (.goto 4, 3) := by decide +kernel
theorem dX2_put_29 : decode cX2_put 29 = .ok (.iconst 0, 1) := by decide +kernel
theorem dX2_put_30 : decode cX2_put 30 = .ok (.istore 6, 2) := by decide +kernel
theorem dX2_put_32 : decode cX2_put 32 = .ok (.aload_n 0, 1) := by decide +kernel
theorem dX2_put_33 : decode cX2_put 33 = .ok (.getfield 18, 3) := by decide +kernel
theorem dX2_put_36 : decode cX2_put 36 = .ok (.iload_n 2, 1) := by decide +kernel
theorem dX2_put_37 : decode cX2_put 37 = .ok (.iload 6, 2) := by decide +kernel
theorem dX2_put_39 : decode cX2_put 39 = .ok (.ifCond .eq 12, 3) := by decide +kernel
theorem dX2_put_42 : decode cX2_put 42 = .ok (.aload_n 0, 1) := by decide +kernel
theorem dX2_put_43 : decode cX2_put 43 = .ok (.getfield 9, 3) := by decide +kernel
theorem dX2_put_46 : decode cX2_put 46 = .ok (.iload_n 3, 1) := by decide +kernel
theorem dX2_put_47 : decode cX2_put 47 = .ok (.iaload, 1) := by decide +kernel
theorem dX2_put_48 : decode cX2_put 48 = .ok (.goto 7, 3) := by decide +kernel
theorem dX2_put_51 : decode cX2_put 51 = .ok (.aload 5, 2) := by decide +kernel
theorem dX2_put_53 : decode cX2_put 53 = .ok (.iconst 5, 1) := by decide +kernel
theorem dX2_put_54 : decode cX2_put 54 = .ok (.iaload, 1) := by decide +kernel
theorem dX2_put_55 : decode cX2_put 55 = .ok (.iastore, 1) := by decide +kernel
theorem dX2_put_56 : decode cX2_put 56 = .ok (.iload 4, 2) := by decide +kernel
theorem dX2_put_58 : decode cX2_put 58 = .ok (.aload_n 0, 1) := by decide +kernel
theorem dX2_put_59 : decode cX2_put 59 = .ok (.aload_n 1, 1) := by decide +kernel
theorem dX2_put_60 : decode cX2_put 60 = .ok (.iload_n 2, 1) := by decide +kernel
theorem dX2_put_61 : decode cX2_put 61 = .ok (.iload_n 3, 1) := by decide +kernel
theorem dX2_put_62 : decode cX2_put 62 = .ok (.invokevirtual 104, 3) := by decide +kernel
theorem dX2_put_65 : decode cX2_put 65 = .ok (.iadd, 1) := by decide +kernel
theorem dX2_put_66 : decode cX2_put 66 = .ok (.istore 7, 2) := by decide +kernel
theorem dX2_put_68 : decode cX2_put 68 = .ok (.aload_n 0, 1) := by decide +kernel
theorem dX2_put_69 : decode cX2_put 69 = .ok (.getfield 21, 3) := by decide +kernel
theorem dX2_put_72 : decode cX2_put 72 = .ok (.iload_n 2, 1) := by decide +kernel
theorem dX2_put_73 : decode cX2_put 73 = .ok (.aload_n 1, 1) := by decide +kernel
theorem dX2_put_74 : decode cX2_put 74 = .ok (.getfield 46, 3) := by decide +kernel
theorem dX2_put_77 : decode cX2_put 77 = .ok (.iconst 1, 1) := by decide +kernel
theorem dX2_put_78 : decode cX2_put 78 = .ok (.iaload, 1) := by decide +kernel
theorem dX2_put_79 : decode cX2_put 79 = .ok (.iconst 2, 1) := by decide +kernel
theorem dX2_put_80 : decode cX2_put 80 = .ok (.if_icmp .ne 20, 3) := by decide +kernel
theorem dX2_put_83 : decode cX2_put 83 = .ok (.aload_n 0, 1) := by decide +kernel
theorem dX2_put_84 : decode cX2_put 84 = .ok (.getfield 24, 3) := by decide +kernel
theorem dX2_put_87 : decode cX2_put 87 = .ok (.iload 7, 2) := by decide +kernel
theorem dX2_put_89 : decode cX2_put 89 = .ok (.isub, 1) := by decide +kernel
theorem dX2_put_90 : decode cX2_put 90 = .ok (.aload_n 0, 1) := by decide +kernel
theorem dX2_put_91 : decode cX2_put 91 = .ok (.getfield 18, 3) := by decide +kernel
theorem dX2_put_94 : decode cX2_put 94 = .ok (.iload_n 2, 1) := by decide +kernel
theorem dX2_put_95 : decode cX2_put 95 = .ok (.iaload, 1) := by decide +kernel
theorem dX2_put_96 : decode cX2_put 96 = .ok (.isub, 1) := by decide +kernel
theorem dX2_put_97 : decode cX2_put 97 = .ok (.goto 5, 3) := by decide +kernel
theorem dX2_put_100 : decode cX2_put 100 = .ok (.iload 7, 2) := by decide +kernel
theorem dX2_put_102 : decode cX2_put 102 = .ok (.iastore, 1) := by decide +kernel
theorem dX2_put_103 : decode cX2_put 103 = .ok (.return_, 1) := by decide +kernel
theorem dX2_positionInLine_0 : decode cX2_positionInLine 0 = .ok (.aload_n 0, 1) := by decide +kernel
theorem dX2_positionInLine_1 : decode cX2_positionInLine 1 = .ok (.getfield 9, 3) := by decide +kernel
theorem dX2_positionInLine_4 : decode cX2_positionInLine 4 = .ok (.iload_n 3, 1) := by decide +kernel
theorem dX2_positionInLine_5 : decode cX2_positionInLine 5 = .ok (.iaload, 1) := by decide +kernel
theorem dX2_positionInLine_6 : decode cX2_positionInLine 6 = .ok (.aload_n 0, 1) := by decide +kernel
theorem dX2_positionInLine_7 : decode cX2_positionInLine 7 = .ok (.getfield 18, 3) := by decide +kernel
theorem dX2_positionInLine_10 : decode cX2_positionInLine 10 = .ok (.iload_n 2, 1) := by decide +kernel
theorem dX2_positionInLine_11 : decode cX2_positionInLine 11 = .ok (.iaload, 1) := by decide +kernel
theorem dX2_positionInLine_12 : decode cX2_positionInLine 12 = .ok (.isub, 1) := by decide +kernel
theorem dX2_positionInLine_13 : decode cX2_positionInLine 13 = .ok (.istore 4, 2) := by decide +kernel
theorem dX2_positionInLine_15 : decode cX2_positionInLine 15 = .ok (.aload_n 1, 1) := by decide +kernel
theorem dX2_positionInLine_16 : decode cX2_positionInLine 16 = .ok (.iload_n 2, 1) := by decide +kernel
theorem dX2_positionInLine_17 : decode cX2_positionInLine 17 = .ok (.invokevirtual 70, 3) := by decide +kernel
theorem dX2_positionInLine_20 : decode cX2_positionInLine 20 = .ok (.tableswitch 55 2 4 #[28, 31, 38], 28) := by decide +kernel
theorem dX2_positionInLine_48 : decode cX2_positionInLine 48 = .ok (.iload 4, 2) := by decide +kernel
theorem dX2_positionInLine_50 : decode cX2_positionInLine 50 = .ok (.ireturn, 1) := by decide +kernel
theorem dX2_positionInLine_51 : decode cX2_positionInLine 51 = .ok (.iload 4, 2) := by decide +kernel
theorem dX2_positionInLine_53 : decode cX2_positionInLine 53 = .ok (.iconst 2, 1) := by decide +kernel
theorem dX2_positionInLine_54 : decode cX2_positionInLine 54 = .ok (.invokestatic 108, 3) := by decide +kernel
theorem dX2_positionInLine_57 : decode cX2_positionInLine 57 = .ok (.ireturn, 1) := by decide +kernel
theorem dX2_positionInLine_58 : decode cX2_positionInLine 58 = .ok (.aload_n 0, 1) := by decide +kernel
theorem dX2_positionInLine_59 : decode cX2_positionInLine 59 = .ok (.getfield 15, 3) := by decide +kernel
theorem dX2_positionInLine_62 : decode cX2_positionInLine 62 = .ok (.iload_n 3, 1) := by decide +kernel
theorem dX2_positionInLine_63 : decode cX2_positionInLine 63 = .ok (.iaload, 1) := by decide +kernel
theorem dX2_positionInLine_64 : decode cX2_positionInLine 64 = .ok (.aload_n 1, 1) := by decide +kernel
theorem dX2_positionInLine_65 : decode cX2_positionInLine 65 = .ok (.getfield 66, 3) := by decide +kernel
theorem dX2_positionInLine_68 : decode cX2_positionInLine 68 = .ok (.iload_n 2, 1) := by decide +kernel
theorem dX2_positionInLine_69 : decode cX2_positionInLine 69 = .ok (.aaload, 1) := by decide +kernel
theorem dX2_positionInLine_70 : decode cX2_positionInLine 70 = .ok (.bipush 6, 2) := by decide +kernel
theorem dX2_positionInLine_72 : decode cX2_positionInLine 72 = .ok (.iaload, 1) := by decide +kernel
theorem dX2_positionInLine_73 : decode cX2_positionInLine 73 = .ok (.isub, 1) := by decide +kernel
theorem dX2_positionInLine_74 : decode cX2_positionInLine 74 = .ok (.ireturn, 1) := by decide +kernel
theorem dX2_positionInLine_75 : decode cX2_positionInLine 75 = .ok (.iconst 0, 1) := by decide +kernel
theorem dX2_positionInLine_76 : decode cX2_positionInLine 76 = .ok (.ireturn, 1) := by decide +kernel
theorem dX3_init_0 : decode cX3_init 0 = .ok (.aload_n 0, 1) := by decide +kernel
theorem dX3_init_1 : decode cX3_init 1 = .ok (.invokespecial 3, 3) := by decide +kernel
theorem dX3_init_4 : decode cX3_init 4 = .ok (.aload_n 0, 1) := by decide +kernel
theorem dX3_init_5 : decode cX3_init 5 = .ok (.bipush 20, 2) := by decide +kernel
theorem dX3_init_7 : decode cX3_init 7 = .ok (.newarray .long, 2) := by decide +kernel
theorem dX3_init_9 : decode cX3_init 9 = .ok (.putfield 9, 3) := by decide +kernel
theorem dX3_init_12 : decode cX3_init 12 = .ok (.aload_n 0, 1) := by decide +kernel
theorem dX3_init_13 : decode cX3_init 13 = .ok (.bipush 20, 2) := by decide +kernel
theorem dX3_init_15 : decode cX3_init 15 = .ok (.newarray .int, 2) := by decide +kernel
theorem dX3_init_17 : decode cX3_init 17 = .ok (.putfield 15, 3) := by decide +kernel
theorem dX3_init_20 : decode cX3_init 20 = .ok (.aload_n 0, 1) := by decide +kernel
theorem dX3_init_21 : decode cX3_init 21 = .ok (.bipush 20, 2) := by decide +kernel
theorem dX3_init_23 : decode cX3_init 23 = .ok (.newarray .long, 2) := by decide +kernel
theorem dX3_init_25 : decode cX3_init 25 = .ok (.putfield 19, 3) := by decide +kernel
theorem dX3_init_28 : decode cX3_init 28 = .ok (.return_, 1) := by decide +kernel
theorem dX3_weightSum_0 : decode cX3_weightSum 0 = .ok (.lconst 0, 1) := by decide +kernel
theorem dX3_weightSum_1 : decode cX3_weightSum 1 = .ok (.lstore_n 2, 1) := by decide +kernel
theorem dX3_weightSum_2 : decode cX3_weightSum 2 = .ok (.iconst 0, 1) := by decide +kernel
theorem dX3_weightSum_3 : decode cX3_weightSum 3 = .ok (.istore 4, 2) := by decide +kernel
theorem dX3_weightSum_5 : decode cX3_weightSum 5 = .ok (.iload 4, 2) := by decide +kernel
theorem dX3_weightSum_7 : decode cX3_weightSum 7 = .ok (.iload_n 1, 1) := by decide +kernel
theorem dX3_weightSum_8 : decode cX3_weightSum 8 = .ok (.if_icmp .ge 19, 3) := by decide +kernel
theorem dX3_weightSum_11 : decode cX3_weightSum 11 = .ok (.lload_n 2, 1) := by decide +kernel
theorem dX3_weightSum_12 : decode cX3_weightSum 12 = .ok (.aload_n 0, 1) := by decide +kernel
theorem dX3_weightSum_13 : decode cX3_weightSum 13 = .ok (.getfield 9, 3) := by decide +kernel
theorem dX3_weightSum_16 : decode cX3_weightSum 16 = .ok (.iload 4, 2) := by decide +kernel
theorem dX3_weightSum_18 : decode cX3_weightSum 18 = .ok (.laload, 1) := by decide +kernel
theorem dX3_weightSum_19 : decode cX3_weightSum 19 = .ok (.ladd, 1) := by decide +kernel
theorem dX3_weightSum_20 : decode cX3_weightSum 20 = .ok (.lstore_n 2, 1) := by decide +kernel
theorem dX3_weightSum_21 : decode cX3_weightSum 21 = .ok (.iinc 4 1, 3) := by decide +kernel
theorem dX3_weightSum_24 : decode cX3_weightSum 24 = .ok (.goto (-19), 3) := by decide +kernel
theorem dX3_weightSum_27 : decode cX3_weightSum 27 = .ok (.lload_n 2, 1) := by decide +kernel
theorem dX3_weightSum_28 : decode cX3_weightSum 28 = .ok (.lreturn, 1) := by decide +kernel
theorem dX3_divide_0 : decode cX3_divide 0 = .ok (.aload_n 0, 1) := by decide +kernel
theorem dX3_divide_1 : decode cX3_divide 1 = .ok (.iload_n 2, 1) := by decide +kernel
theorem dX3_divide_2 : decode cX3_divide 2 = .ok (.invokevirtual 22, 3) := by decide +kernel
theorem dX3_divide_5 : decode cX3_divide 5 = .ok (.lstore_n 3, 1) := by decide +kernel
theorem dX3_divide_6 : decode cX3_divide 6 = .ok (.lload_n 3, 1) := by decide +kernel
theorem dX3_divide_7 : decode cX3_divide 7 = .ok (.lconst 0, 1) := by decide +kernel
theorem dX3_divide_8 : decode cX3_divide 8 = .ok (.lcmp, 1) := by decide +kernel
theorem dX3_divide_9 : decode cX3_divide 9 = .ok (.ifCond .le 7, 3) := by decide +kernel
theorem dX3_divide_12 : decode cX3_divide 12 = .ok (.iload_n 1, 1) := by decide +kernel
theorem dX3_divide_13 : decode cX3_divide 13 = .ok (.goto 4, 3) := by decide +kernel
theorem dX3_divide_16 : decode cX3_divide 16 = .ok (.iconst 0, 1) := by decide +kernel
theorem dX3_divide_17 : decode cX3_divide 17 = .ok (.istore 5, 2) := by decide +kernel
theorem dX3_divide_19 : decode cX3_divide 19 = .ok (.iconst 0, 1) := by decide +kernel
theorem dX3_divide_20 : decode cX3_divide 20 = .ok (.istore 6, 2) := by decide +kernel
theorem dX3_divide_22 : decode cX3_divide 22 = .ok (.iload 6, 2) := by decide +kernel
theorem dX3_divide_24 : decode cX3_divide 24 = .ok (.iload_n 2, 1) := by decide +kernel
theorem dX3_divide_25 : decode cX3_divide 25 = .ok (.if_icmp .ge 76, 3) := by decide +kernel
theorem dX3_divide_28 : decode cX3_divide 28 = .ok (.iload_n 1, 1) := by decide +kernel
theorem dX3_divide_29 : decode cX3_divide 29 = .ok (.i2l, 1) := by decide +kernel
theorem dX3_divide_30 : decode cX3_divide 30 = .ok (.aload_n 0, 1) := by decide +kernel
theorem dX3_divide_31 : decode cX3_divide 31 = .ok (.getfield 9, 3) := by decide +kernel
theorem dX3_divide_34 : decode cX3_divide 34 = .ok (.iload 6, 2) := by decide +kernel
theorem dX3_divide_36 : decode cX3_divide 36 = .ok (.laload, 1) := by decide +kernel
theorem dX3_divide_37 : decode cX3_divide 37 = .ok (.lmul, 1) := by decide +kernel
theorem dX3_divide_38 : decode cX3_divide 38 = .ok (.lstore 7, 2) := by decide +kernel
theorem dX3_divide_40 : decode cX3_divide 40 = .ok (.aload_n 0, 1) := by decide +kernel
theorem dX3_divide_41 : decode cX3_divide 41 = .ok (.getfield 15, 3) := by decide +kernel
theorem dX3_divide_44 : decode cX3_divide 44 = .ok (.iload 6, 2) := by decide +kernel
theorem dX3_divide_46 : decode cX3_divide 46 = .ok (.lload_n 3, 1) := by decide +kernel
theorem dX3_divide_47 : decode cX3_divide 47 = .ok (.lconst 0, 1) := by decide +kernel
theorem dX3_divide_48 : decode cX3_divide 48 = .ok (.lcmp, 1) := by decide +kernel
theorem dX3_divide_49 : decode cX3_divide 49 = .ok (.ifCond .le 11, 3) := by decide +kernel
theorem dX3_divide_52 : decode cX3_divide 52 = .ok (.lload 7, 2) := by decide +kernel
theorem dX3_divide_54 : decode cX3_divide 54 = .ok (.lload_n 3, 1) := by decide +kernel
theorem dX3_divide_55 : decode cX3_divide 55 = .ok (.ldiv, 1) := by decide +kernel
theorem dX3_divide_56 : decode cX3_divide 56 = .ok (.l2i, 1) := by decide +kernel
theorem dX3_divide_57 : decode cX3_divide 57 = .ok (.goto 4, 3) := by decide +kernel
theorem dX3_divide_60 : decode cX3_divide 60 = .ok (.iconst 0, 1) := by decide +kernel
theorem dX3_divide_61 : decode cX3_divide 61 = .ok (.iastore, 1) := by decide +kernel
theorem dX3_divide_62 : decode cX3_divide 62 = .ok (.aload_n 0, 1) := by decide +kernel
theorem dX3_divide_63 : decode cX3_divide 63 = .ok (.getfield 19, 3) := by decide +kernel
theorem dX3_divide_66 : decode cX3_divide 66 = .ok (.iload 6, 2) := by decide +kernel
theorem dX3_divide_68 : decode cX3_divide 68 = .ok (.lload_n 3, 1) := by decide +kernel
theorem dX3_divide_69 : decode cX3_divide 69 = .ok (.lconst 0, 1) := by decide +kernel
theorem dX3_divide_70 : decode cX3_divide 70 = .ok (.lcmp, 1) := by decide +kernel
theorem dX3_divide_71 : decode cX3_divide 71 = .ok (.ifCond .le 10, 3) := by decide +kernel
theorem dX3_divide_74 : decode cX3_divide 74 = .ok (.lload 7, 2) := by decide +kernel
theorem dX3_divide_76 : decode cX3_divide 76 = .ok (.lload_n 3, 1) := by decide +kernel
theorem dX3_divide_77 : decode cX3_divide 77 = .ok (.lrem, 1) := by decide +kernel
theorem dX3_divide_78 : decode cX3_divide 78 = .ok (.goto 4, 3) := by decide +kernel
theorem dX3_divide_81 : decode cX3_divide 81 = .ok (.lconst 0, 1) := by decide +kernel
theorem dX3_divide_82 : decode cX3_divide 82 = .ok (.lastore, 1) := by decide +kernel
theorem dX3_divide_83 : decode cX3_divide 83 = .ok (.iload 5, 2) := by decide +kernel
theorem dX3_divide_85 : decode cX3_divide 85 = .ok (.aload_n 0, 1) := by decide +kernel
theorem dX3_divide_86 : decode cX3_divide 86 = .ok (.getfield 15, 3) := by decide +kernel
theorem dX3_divide_89 : decode cX3_divide 89 = .ok (.iload 6, 2) := by decide +kernel
theorem dX3_divide_91 : decode cX3_divide 91 = .ok (.iaload, 1) := by decide +kernel
theorem dX3_divide_92 : decode cX3_divide 92 = .ok (.isub, 1) := by decide +kernel
theorem dX3_divide_93 : decode cX3_divide 93 = .ok (.istore 5, 2) := by decide +kernel
theorem dX3_divide_95 : decode cX3_divide 95 = .ok (.iinc 6 1, 3) := by decide +kernel
theorem dX3_divide_98 : decode cX3_divide 98 = .ok (.goto (-76), 3) := by decide +kernel
theorem dX3_divide_101 : decode cX3_divide 101 = .ok (.aload_n 0, 1) := by decide +kernel
theorem dX3_divide_102 : decode cX3_divide 102 = .ok (.iload 5, 2) := by decide +kernel
theorem dX3_divide_104 : decode cX3_divide 104 = .ok (.iload_n 2, 1) := by decide +kernel
theorem dX3_divide_105 : decode cX3_divide 105 = .ok (.invokevirtual 26, 3) := by decide +kernel
theorem dX3_divide_108 : decode cX3_divide 108 = .ok (.return_, 1) := by decide +kernel
theorem dX3_giveOut_0 : decode cX3_giveOut 0 = .ok (.iconst 0, 1) := by decide +kernel
theorem dX3_giveOut_1 : decode cX3_giveOut 1 = .ok (.istore_n 3, 1) := by decide +kernel
theorem dX3_giveOut_2 : decode cX3_giveOut 2 = .ok (.iload_n 3, 1) := by decide +kernel
theorem dX3_giveOut_3 : decode cX3_giveOut 3 = .ok (.iload_n 1, 1) := by decide +kernel
theorem dX3_giveOut_4 : decode cX3_giveOut 4 = .ok (.if_icmp .ge 75, 3) := by decide +kernel
theorem dX3_giveOut_7 : decode cX3_giveOut 7 = .ok (.iload_n 3, 1) := by decide +kernel
theorem dX3_giveOut_8 : decode cX3_giveOut 8 = .ok (.iload_n 2, 1) := by decide +kernel
theorem dX3_giveOut_9 : decode cX3_giveOut 9 = .ok (.if_icmp .ge 70, 3) := by decide +kernel
theorem dX3_giveOut_12 : decode cX3_giveOut 12 = .ok (.iconst 0, 1) := by decide +kernel
theorem dX3_giveOut_13 : decode cX3_giveOut 13 = .ok (.istore 4, 2) := by decide +kernel
theorem dX3_giveOut_15 : decode cX3_giveOut 15 = .ok (.iconst 1, 1) := by decide +kernel
theorem dX3_giveOut_16 : decode cX3_giveOut 16 = .ok (.istore 5, 2) := by decide +kernel
theorem dX3_giveOut_18 : decode cX3_giveOut 18 = .ok (.iload 5, 2) := by decide +kernel
theorem dX3_giveOut_20 : decode cX3_giveOut 20 = .ok (.iload_n 2, 1) := by decide +kernel
theorem dX3_giveOut_21 : decode cX3_giveOut 21 = .ok (.if_icmp .ge 31, 3) := by decide +kernel
theorem dX3_giveOut_24 : decode cX3_giveOut 24 = .ok (.aload_n 0, 1) := by decide +kernel
theorem dX3_giveOut_25 : decode cX3_giveOut 25 = .ok (.getfield 19, 3) := by decide +kernel
theorem dX3_giveOut_28 : decode cX3_giveOut 28 = .ok (.iload 5, 2) := by decide +kernel
theorem dX3_giveOut_30 : decode cX3_giveOut 30 = .ok (.laload, 1) := by decide +kernel
theorem dX3_giveOut_31 : decode cX3_giveOut 31 = .ok (.aload_n 0, 1) := by decide +kernel
theorem dX3_giveOut_32 : decode cX3_giveOut 32 = .ok (.getfield 19, 3) := by decide +kernel
theorem dX3_giveOut_35 : decode cX3_giveOut 35 = .ok (.iload 4, 2) := by decide +kernel
theorem dX3_giveOut_37 : decode cX3_giveOut 37 = .ok (.laload, 1) := by decide +kernel
theorem dX3_giveOut_38 : decode cX3_giveOut 38 = .ok (.lcmp, 1) := by decide +kernel
theorem dX3_giveOut_39 : decode cX3_giveOut 39 = .ok (.ifCond .le 7, 3) := by decide +kernel
theorem dX3_giveOut_42 : decode cX3_giveOut 42 = .ok (.iload 5, 2) := by decide +kernel
theorem dX3_giveOut_44 : decode cX3_giveOut 44 = .ok (.istore 4, 2) := by decide +kernel
theorem dX3_giveOut_46 : decode cX3_giveOut 46 = .ok (.iinc 5 1, 3) := by decide +kernel
theorem dX3_giveOut_49 : decode cX3_giveOut 49 = .ok (.goto (-31), 3) := by decide +kernel
theorem dX3_giveOut_52 : decode cX3_giveOut 52 = .ok (.aload_n 0, 1) := by decide +kernel
theorem dX3_giveOut_53 : decode cX3_giveOut 53 = .ok (.getfield 15, 3) := by decide +kernel
theorem dX3_giveOut_56 : decode cX3_giveOut 56 = .ok (.iload 4, 2) := by decide +kernel
theorem dX3_giveOut_58 : decode cX3_giveOut 58 = .ok (.dup2, 1) := by decide +kernel
theorem dX3_giveOut_59 : decode cX3_giveOut 59 = .ok (.iaload, 1) := by decide +kernel
theorem dX3_giveOut_60 : decode cX3_giveOut 60 = .ok (.iconst 1, 1) := by decide +kernel
theorem dX3_giveOut_61 : decode cX3_giveOut 61 = .ok (.iadd, 1) := by decide +kernel
theorem dX3_giveOut_62 : decode cX3_giveOut 62 = .ok (.iastore, 1) := by decide +kernel
theorem dX3_giveOut_63 : decode cX3_giveOut 63 = .ok (.aload_n 0, 1) := by decide +kernel
theorem dX3_giveOut_64 : decode cX3_giveOut 64 = .ok (.getfield 19, 3) := by decide +kernel
theorem dX3_giveOut_67 : decode cX3_giveOut 67 = .ok (.iload 4, 2) := by decide +kernel
theorem dX3_giveOut_69 : decode cX3_giveOut 69 = .ok (.ldc2_w 30, 3) := by decide +kernel
theorem dX3_giveOut_72 : decode cX3_giveOut 72 = .ok (.lastore, 1) := by decide +kernel
theorem dX3_giveOut_73 : decode cX3_giveOut 73 = .ok (.iinc 3 1, 3) := by decide +kernel
theorem dX3_giveOut_76 : decode cX3_giveOut 76 = .ok (.goto (-74), 3) := by decide +kernel
theorem dX3_giveOut_79 : decode cX3_giveOut 79 = .ok (.return_, 1) := by decide +kernel
theorem dX4_init_0 : decode cX4_init 0 = .ok (.aload_n 0, 1) := by decide +kernel
theorem dX4_init_1 : decode cX4_init 1 = .ok (.invokespecial 3, 3) := by decide +kernel
theorem dX4_init_4 : decode cX4_init 4 = .ok (.aload_n 0, 1) := by decide +kernel
theorem dX4_init_5 : decode cX4_init 5 = .ok (.bipush 80, 2) := by decide +kernel
theorem dX4_init_7 : decode cX4_init 7 = .ok (.newarray .char, 2) := by decide +kernel
theorem dX4_init_9 : decode cX4_init 9 = .ok (.putfield 9, 3) := by decide +kernel
theorem dX4_init_12 : decode cX4_init 12 = .ok (.aload_n 0, 1) := by decide +kernel
theorem dX4_init_13 : decode cX4_init 13 = .ok (.iconst 0, 1) := by decide +kernel
theorem dX4_init_14 : decode cX4_init 14 = .ok (.putfield 15, 3) := by decide +kernel
theorem dX4_init_17 : decode cX4_init 17 = .ok (.return_, 1) := by decide +kernel
theorem dX4_syntaxError_0 : decode cX4_syntaxError 0 = .ok (.iconst 0, 1) := by decide +kernel
theorem dX4_syntaxError_1 : decode cX4_syntaxError 1 = .ok (.istore_n 1, 1) := by decide +kernel
theorem dX4_syntaxError_2 : decode cX4_syntaxError 2 = .ok (.iconst 0, 1) := by decide +kernel
theorem dX4_syntaxError_3 : decode cX4_syntaxError 3 = .ok (.istore_n 2, 1) := by decide +kernel
theorem dX4_syntaxError_4 : decode cX4_syntaxError 4 = .ok (.iload_n 2, 1) := by decide +kernel
theorem dX4_syntaxError_5 : decode cX4_syntaxError 5 = .ok (.aload_n 0, 1) := by decide +kernel
theorem dX4_syntaxError_6 : decode cX4_syntaxError 6 = .ok (.getfield 15, 3) := by decide +kernel
theorem dX4_syntaxError_9 : decode cX4_syntaxError 9 = .ok (.if_icmp .ge 27, 3) := by decide +kernel
theorem dX4_syntaxError_12 : decode cX4_syntaxError 12 = .ok (.iload_n 1, 1) := by decide +kernel
theorem dX4_syntaxError_13 : decode cX4_syntaxError 13 = .ok (.aload_n 0, 1) := by decide +kernel
theorem dX4_syntaxError_14 : decode cX4_syntaxError 14 = .ok (.getfield 9, 3) := by decide +kernel
theorem dX4_syntaxError_17 : decode cX4_syntaxError 17 = .ok (.iload_n 2, 1) := by decide +kernel
theorem dX4_syntaxError_18 : decode cX4_syntaxError 18 = .ok (.caload, 1) := by decide +kernel
theorem dX4_syntaxError_19 : decode cX4_syntaxError 19 = .ok (.invokestatic 19, 3) := by decide +kernel
theorem dX4_syntaxError_22 : decode cX4_syntaxError 22 = .ok (.istore_n 1, 1) := by decide +kernel
theorem dX4_syntaxError_23 : decode cX4_syntaxError 23 = .ok (.iload_n 1, 1) := by decide +kernel
theorem dX4_syntaxError_24 : decode cX4_syntaxError 24 = .ok (.iconst (-1), 1) := by decide +kernel
theorem dX4_syntaxError_25 : decode cX4_syntaxError 25 = .ok (.if_icmp .ne 5, 3) := by decide +kernel
theorem dX4_syntaxError_28 : decode cX4_syntaxError 28 = .ok (.iload_n 2, 1) := by decide +kernel
theorem dX4_syntaxError_29 : decode cX4_syntaxError 29 = .ok (.ireturn, 1) := by decide +kernel
theorem dX4_syntaxError_30 : decode cX4_syntaxError 30 = .ok (.iinc 2 1, 3) := by decide +kernel
theorem dX4_syntaxError_33 : decode cX4_syntaxError 33 = .ok (.goto (-29), 3) := by decide +kernel
theorem dX4_syntaxError_36 : decode cX4_syntaxError 36 = .ok (.iload_n 1, 1) := by decide +kernel
theorem dX4_syntaxError_37 : decode cX4_syntaxError 37 = .ok (.iconst 3, 1) := by decide +kernel
theorem dX4_syntaxError_38 : decode cX4_syntaxError 38 = .ok (.if_icmp .lt 7, 3) := by decide +kernel
theorem dX4_syntaxError_41 : decode cX4_syntaxError 41 = .ok (.iconst (-1), 1) := by decide +kernel
theorem dX4_syntaxError_42 : decode cX4_syntaxError 42 = .ok (.goto 7, 3) := by decide +kernel
theorem dX4_syntaxError_45 : decode cX4_syntaxError 45 = .ok (.aload_n 0, 1) := by decide +kernel
theorem dX4_syntaxError_46 : decode cX4_syntaxError 46 = .ok (.getfield 15, 3) := by decide +kernel
theorem dX4_syntaxError_49 : decode cX4_syntaxError 49 = .ok (.ireturn, 1) := by decide +kernel
theorem dX4_next_0 : decode cX4_next 0 = .ok (.iload_n 0, 1) := by decide +kernel
theorem dX4_next_1 : decode cX4_next 1 = .ok (.ifCond .ne 18, 3) := by decide +kernel
theorem dX4_next_4 : decode cX4_next 4 = .ok (.iload_n 1, 1) := by decide +kernel
theorem dX4_next_5 : decode cX4_next 5 = .ok (.invokestatic 23, 3) := by decide +kernel
theorem dX4_next_8 : decode cX4_next 8 = .ok (.bipush 10, 2) := by decide +kernel
theorem dX4_next_10 : decode cX4_next 10 = .ok (.if_icmp .ge 7, 3) := by decide +kernel
theorem dX4_next_13 : decode cX4_next 13 = .ok (.iconst 1, 1) := by decide +kernel
theorem dX4_next_14 : decode cX4_next 14 = .ok (.goto 4, 3) := by decide +kernel
theorem dX4_next_17 : decode cX4_next 17 = .ok (.iconst (-1), 1) := by decide +kernel
theorem dX4_next_18 : decode cX4_next 18 = .ok (.ireturn, 1) := by decide +kernel
theorem dX4_next_19 : decode cX4_next 19 = .ok (.iload_n 1, 1) := by decide +kernel
theorem dX4_next_20 : decode cX4_next 20 = .ok (.bipush 48, 2) := by decide +kernel
theorem dX4_next_22 : decode cX4_next 22 = .ok (.if_icmp .lt 28, 3) := by decide +kernel
theorem dX4_next_25 : decode cX4_next 25 = .ok (.iload_n 1, 1) := by decide +kernel
theorem dX4_next_26 : decode cX4_next 26 = .ok (.bipush 57, 2) := by decide +kernel
theorem dX4_next_28 : decode cX4_next 28 = .ok (.if_icmp .gt 22, 3) := by decide +kernel
theorem dX4_next_31 : decode cX4_next 31 = .ok (.iload_n 0, 1) := by decide +kernel
theorem dX4_next_32 : decode cX4_next 32 = .ok (.bipush 6, 2) := by decide +kernel
theorem dX4_next_34 : decode cX4_next 34 = .ok (.if_icmp .ge 16, 3) := by decide +kernel
theorem dX4_next_37 : decode cX4_next 37 = .ok (.iload_n 0, 1) := by decide +kernel
theorem dX4_next_38 : decode cX4_next 38 = .ok (.iconst 3, 1) := by decide +kernel
theorem dX4_next_39 : decode cX4_next 39 = .ok (.if_icmp .ge 7, 3) := by decide +kernel
theorem dX4_next_42 : decode cX4_next 42 = .ok (.iconst 3, 1) := by decide +kernel
theorem dX4_next_43 : decode cX4_next 43 = .ok (.goto 6, 3) := by decide +kernel
theorem dX4_next_46 : decode cX4_next 46 = .ok (.iload_n 0, 1) := by decide +kernel
theorem dX4_next_47 : decode cX4_next 47 = .ok (.iconst 1, 1) := by decide +kernel
theorem dX4_next_48 : decode cX4_next 48 = .ok (.iadd, 1) := by decide +kernel
theorem dX4_next_49 : decode cX4_next 49 = .ok (.ireturn, 1) := by decide +kernel
theorem dX4_next_50 : decode cX4_next 50 = .ok (.iload_n 1, 1) := by decide +kernel
theorem dX4_next_51 : decode cX4_next 51 = .ok (.bipush 45, 2) := by decide +kernel
theorem dX4_next_53 : decode cX4_next 53 = .ok (.if_icmp .ne 10, 3) := by decide +kernel
theorem dX4_next_56 : decode cX4_next 56 = .ok (.iload_n 0, 1) := by decide +kernel
theorem dX4_next_57 : decode cX4_next 57 = .ok (.iconst 1, 1) := by decide +kernel
theorem dX4_next_58 : decode cX4_next 58 = .ok (.if_icmp .ne 5, 3) := by decide +kernel
theorem dX4_next_61 : decode cX4_next 61 = .ok (.iconst 2, 1) := by decide +kernel
theorem dX4_next_62 : decode cX4_next 62 = .ok (.ireturn, 1) := by decide +kernel
theorem dX4_next_63 : decode cX4_next 63 = .ok (.iload_n 1, 1) := by decide +kernel
theorem dX4_next_64 : decode cX4_next 64 = .ok (.bipush 32, 2) := by decide +kernel
theorem dX4_next_66 : decode cX4_next 66 = .ok (.if_icmp .ne 12, 3) := by decide +kernel
theorem dX4_next_69 : decode cX4_next 69 = .ok (.iload_n 0, 1) := by decide +kernel
theorem dX4_next_70 : decode cX4_next 70 = .ok (.iconst 3, 1) := by decide +kernel
theorem dX4_next_71 : decode cX4_next 71 = .ok (.if_icmp .lt 7, 3) := by decide +kernel
theorem dX4_next_74 : decode cX4_next 74 = .ok (.iconst 0, 1) := by decide +kernel
theorem dX4_next_75 : decode cX4_next 75 = .ok (.goto 4, 3) := by decide +kernel
theorem dX4_next_78 : decode cX4_next 78 = .ok (.iconst (-1), 1) := by decide +kernel
theorem dX4_next_79 : decode cX4_next 79 = .ok (.ireturn, 1) := by decide +kernel
theorem dX4_readInto_0 : decode cX4_readInto 0 = .ok (.iconst 0, 1) := by decide +kernel
theorem dX4_readInto_1 : decode cX4_readInto 1 = .ok (.istore_n 2, 1) := by decide +kernel
theorem dX4_readInto_2 : decode cX4_readInto 2 = .ok (.iconst 1, 1) := by decide +kernel
theorem dX4_readInto_3 : decode cX4_readInto 3 = .ok (.istore_n 3, 1) := by decide +kernel
theorem dX4_readInto_4 : decode cX4_readInto 4 = .ok (.iload_n 3, 1) := by decide +kernel
theorem dX4_readInto_5 : decode cX4_readInto 5 = .ok (.aload_n 0, 1) := by decide +kernel
theorem dX4_readInto_6 : decode cX4_readInto 6 = .ok (.getfield 15, 3) := by decide +kernel
theorem dX4_readInto_9 : decode cX4_readInto 9 = .ok (.if_icmp .gt 71, 3) := by decide +kernel
theorem dX4_readInto_12 : decode cX4_readInto 12 = .ok (.iload_n 3, 1) := by decide +kernel
theorem dX4_readInto_13 : decode cX4_readInto 13 = .ok (.aload_n 0, 1) := by decide +kernel
theorem dX4_readInto_14 : decode cX4_readInto 14 = .ok (.getfield 15, 3) := by decide +kernel
theorem dX4_readInto_17 : decode cX4_readInto 17 = .ok (.if_icmp .eq 14, 3) := by decide +kernel
theorem dX4_readInto_20 : decode cX4_readInto 20 = .ok (.aload_n 0, 1) := by decide +kernel
theorem dX4_readInto_21 : decode cX4_readInto 21 = .ok (.getfield 9, 3) := by decide +kernel
theorem dX4_readInto_24 : decode cX4_readInto 24 = .ok (.iload_n 3, 1) := by decide +kernel
theorem dX4_readInto_25 : decode cX4_readInto 25 = .ok (.caload, 1) := by decide +kernel
theorem dX4_readInto_26 : decode cX4_readInto 26 = .ok (.bipush 32, 2) := by decide +kernel
theorem dX4_readInto_28 : decode cX4_readInto 28 = .ok (.if_icmp .ne 46, 3) := by decide +kernel
theorem dX4_readInto_31 : decode cX4_readInto 31 = .ok (.aload_n 0, 1) := by decide +kernel
theorem dX4_readInto_32 : decode cX4_readInto 32 = .ok (.getfield 9, 3) := by decide +kernel
theorem dX4_readInto_35 : decode cX4_readInto 35 = .ok (.iload_n 2, 1) := by decide +kernel
theorem dX4_readInto_36 : decode cX4_readInto 36 = .ok (.caload, 1) := by decide +kernel
theorem dX4_readInto_37 : decode cX4_readInto 37 = .ok (.invokestatic 23, 3) := by decide +kernel
theorem dX4_readInto_40 : decode cX4_readInto 40 = .ok (.istore 4, 2) := by decide +kernel
theorem dX4_readInto_42 : decode cX4_readInto 42 = .ok (.aload_n 0, 1) := by decide +kernel
theorem dX4_readInto_43 : decode cX4_readInto 43 = .ok (.iload_n 2, 1) := by decide +kernel
theorem dX4_readInto_44 : decode cX4_readInto 44 = .ok (.iconst 1, 1) := by decide +kernel
theorem dX4_readInto_45 : decode cX4_readInto 45 = .ok (.iadd, 1) := by decide +kernel
theorem dX4_readInto_46 : decode cX4_readInto 46 = .ok (.iload_n 3, 1) := by decide +kernel
theorem dX4_readInto_47 : decode cX4_readInto 47 = .ok (.invokevirtual 27, 3) := by decide +kernel
theorem dX4_readInto_50 : decode cX4_readInto 50 = .ok (.istore 5, 2) := by decide +kernel
theorem dX4_readInto_52 : decode cX4_readInto 52 = .ok (.iload 4, 2) := by decide +kernel
theorem dX4_readInto_54 : decode cX4_readInto 54 = .ok (.iload 5, 2) := by decide +kernel
theorem dX4_readInto_56 : decode cX4_readInto 56 = .ok (.invokestatic 31, 3) := by decide +kernel
theorem dX4_readInto_59 : decode cX4_readInto 59 = .ok (.ifCond .ne 5, 3) := by decide +kernel
theorem dX4_readInto_62 : decode cX4_readInto 62 = .ok (.iload_n 2, 1) := by decide +kernel
theorem dX4_readInto_63 : decode cX4_readInto 63 = .ok (.ireturn, 1) := by decide +kernel
theorem dX4_readInto_64 : decode cX4_readInto 64 = .ok (.aload_n 1, 1) := by decide +kernel
theorem dX4_readInto_65 : decode cX4_readInto 65 = .ok (.iload 4, 2) := by decide +kernel
theorem dX4_readInto_67 : decode cX4_readInto 67 = .ok (.iload 5, 2) := by decide +kernel
theorem dX4_readInto_69 : decode cX4_readInto 69 = .ok (.iastore, 1) := by decide +kernel
theorem dX4_readInto_70 : decode cX4_readInto 70 = .ok (.iload_n 3, 1) := by decide +kernel
theorem dX4_readInto_71 : decode cX4_readInto 71 = .ok (.iconst 1, 1) := by decide +kernel
theorem dX4_readInto_72 : decode cX4_readInto 72 = .ok (.iadd, 1) := by decide +kernel
theorem dX4_readInto_73 : decode cX4_readInto 73 = .ok (.istore_n 2, 1) := by decide +kernel
theorem dX4_readInto_74 : decode cX4_readInto 74 = .ok (.iinc 3 1, 3) := by decide +kernel
theorem dX4_readInto_77 : decode cX4_readInto 77 = .ok (.goto (-73), 3) := by decide +kernel
theorem dX4_readInto_80 : decode cX4_readInto 80 = .ok (.iconst (-1), 1) := by decide +kernel
theorem dX4_readInto_81 : decode cX4_readInto 81 = .ok (.ireturn, 1) := by decide +kernel
theorem dX4_number_0 : decode cX4_number 0 = .ok (.iconst 0, 1) := by decide +kernel
theorem dX4_number_1 : decode cX4_number 1 = .ok (.istore_n 3, 1) := by decide +kernel
theorem dX4_number_2 : decode cX4_number 2 = .ok (.iconst 0, 1) := by decide +kernel
theorem dX4_number_3 : decode cX4_number 3 = .ok (.istore 4, 2) := by decide +kernel
theorem dX4_number_5 : decode cX4_number 5 = .ok (.iload_n 1, 1) := by decide +kernel
theorem dX4_number_6 : decode cX4_number 6 = .ok (.istore 5, 2) := by decide +kernel
theorem dX4_number_8 : decode cX4_number 8 = .ok (.iload 5, 2) := by decide +kernel
theorem dX4_number_10 : decode cX4_number 10 = .ok (.iload_n 2, 1) := by decide +kernel
theorem dX4_number_11 : decode cX4_number 11 = .ok (.if_icmp .ge 43, 3) := by decide +kernel
theorem dX4_number_14 : decode cX4_number 14 = .ok (.aload_n 0, 1) := by decide +kernel
theorem dX4_number_15 : decode cX4_number 15 = .ok (.getfield 9, 3) := by decide +kernel
theorem dX4_number_18 : decode cX4_number 18 = .ok (.iload 5, 2) := by decide +kernel
theorem dX4_number_20 : decode cX4_number 20 = .ok (.caload, 1) := by decide +kernel
theorem dX4_number_21 : decode cX4_number 21 = .ok (.bipush 45, 2) := by decide +kernel
theorem dX4_number_23 : decode cX4_number 23 = .ok (.if_icmp .ne 9, 3) := by decide +kernel
theorem dX4_number_26 : decode cX4_number 26 = .ok (.iconst 1, 1) := by decide +kernel
theorem dX4_number_27 : decode cX4_number 27 = .ok (.istore 4, 2) := by decide +kernel
theorem dX4_number_29 : decode cX4_number 29 = .ok (.goto 19, 3) := by decide +kernel
theorem dX4_number_32 : decode cX4_number 32 = .ok (.bipush 10, 2) := by decide +kernel
theorem dX4_number_34 : decode cX4_number 34 = .ok (.iload_n 3, 1) := by decide +kernel
theorem dX4_number_35 : decode cX4_number 35 = .ok (.imul, 1) := by decide +kernel
theorem dX4_number_36 : decode cX4_number 36 = .ok (.aload_n 0, 1) := by decide +kernel
theorem dX4_number_37 : decode cX4_number 37 = .ok (.getfield 9, 3) := by decide +kernel
theorem dX4_number_40 : decode cX4_number 40 = .ok (.iload 5, 2) := by decide +kernel
theorem dX4_number_42 : decode cX4_number 42 = .ok (.caload, 1) := by decide +kernel
theorem dX4_number_43 : decode cX4_number 43 = .ok (.bipush 48, 2) := by decide +kernel
theorem dX4_number_45 : decode cX4_number 45 = .ok (.isub, 1) := by decide +kernel
theorem dX4_number_46 : decode cX4_number 46 = .ok (.iadd, 1) := by decide +kernel
theorem dX4_number_47 : decode cX4_number 47 = .ok (.istore_n 3, 1) := by decide +kernel
theorem dX4_number_48 : decode cX4_number 48 = .ok (.iinc 5 1, 3) := by decide +kernel
theorem dX4_number_51 : decode cX4_number 51 = .ok (.goto (-43), 3) := by decide +kernel
theorem dX4_number_54 : decode cX4_number 54 = .ok (.iload 4, 2) := by decide +kernel
theorem dX4_number_56 : decode cX4_number 56 = .ok (.ifCond .eq 8, 3) := by decide +kernel
theorem dX4_number_59 : decode cX4_number 59 = .ok (.iload_n 3, 1) := by decide +kernel
theorem dX4_number_60 : decode cX4_number 60 = .ok (.ineg, 1) := by decide +kernel
theorem dX4_number_61 : decode cX4_number 61 = .ok (.goto 4, 3) := by decide +kernel
theorem dX4_number_64 : decode cX4_number 64 = .ok (.iload_n 3, 1) := by decide +kernel
theorem dX4_number_65 : decode cX4_number 65 = .ok (.ireturn, 1) := by decide +kernel
theorem dX4_propertyFor_0 : decode cX4_propertyFor 0 = .ok (.iconst 0, 1) := by decide +kernel
theorem dX4_propertyFor_1 : decode cX4_propertyFor 1 = .ok (.istore_n 1, 1) := by decide +kernel
theorem dX4_propertyFor_2 : decode cX4_propertyFor 2 = .ok (.iload_n 1, 1) := by decide +kernel
theorem dX4_propertyFor_3 : decode cX4_propertyFor 3 = .ok (.bipush 10, 2) := by decide +kernel
theorem dX4_propertyFor_5 : decode cX4_propertyFor 5 = .ok (.if_icmp .ge 18, 3) := by decide +kernel
theorem dX4_propertyFor_8 : decode cX4_propertyFor 8 = .ok (.getstatic 35, 3) := by decide +kernel
theorem dX4_propertyFor_11 : decode cX4_propertyFor 11 = .ok (.iload_n 1, 1) := by decide +kernel
theorem dX4_propertyFor_12 : decode cX4_propertyFor 12 = .ok (.caload, 1) := by decide +kernel
theorem dX4_propertyFor_13 : decode cX4_propertyFor 13 = .ok (.iload_n 0, 1) := by decide +kernel
theorem dX4_propertyFor_14 : decode cX4_propertyFor 14 = .ok (.if_icmp .eq 9, 3) := by decide +kernel
theorem dX4_propertyFor_17 : decode cX4_propertyFor 17 = .ok (.iinc 1 1, 3) := by decide +kernel
theorem dX4_propertyFor_20 : decode cX4_propertyFor 20 = .ok (.goto (-18), 3) := by decide +kernel
theorem dX4_propertyFor_23 : decode cX4_propertyFor 23 = .ok (.iload_n 1, 1) := by decide +kernel
theorem dX4_propertyFor_24 : decode cX4_propertyFor 24 = .ok (.ireturn, 1) := by decide +kernel
theorem dX5_init_0 : decode cX5_init 0 = .ok (.aload_n 0, 1) := by decide +kernel
theorem dX5_init_1 : decode cX5_init 1 = .ok (.invokespecial 3, 3) := by decide +kernel
theorem dX5_init_4 : decode cX5_init 4 = .ok (.aload_n 0, 1) := by decide +kernel
theorem dX5_init_5 : decode cX5_init 5 = .ok (.bipush 20, 2) := by decide +kernel
theorem dX5_init_7 : decode cX5_init 7 = .ok (.newarray .int, 2) := by decide +kernel
theorem dX5_init_9 : decode cX5_init 9 = .ok (.putfield 9, 3) := by decide +kernel
theorem dX5_init_12 : decode cX5_init 12 = .ok (.aload_n 0, 1) := by decide +kernel
theorem dX5_init_13 : decode cX5_init 13 = .ok (.bipush 20, 2) := by decide +kernel
theorem dX5_init_15 : decode cX5_init 15 = .ok (.newarray .int, 2) := by decide +kernel
theorem dX5_init_17 : decode cX5_init 17 = .ok (.putfield 15, 3) := by decide +kernel
theorem dX5_init_20 : decode cX5_init 20 = .ok (.aload_n 0, 1) := by decide +kernel
theorem dX5_init_21 : decode cX5_init 21 = .ok (.bipush 20, 2) := by decide +kernel
theorem dX5_init_23 : decode cX5_init 23 = .ok (.newarray .int, 2) := by decide +kernel
theorem dX5_init_25 : decode cX5_init 25 = .ok (.putfield 18, 3) := by decide +kernel
theorem dX5_init_28 : decode cX5_init 28 = .ok (.aload_n 0, 1) := by decide +kernel
theorem dX5_init_29 : decode cX5_init 29 = .ok (.bipush 20, 2) := by decide +kernel
theorem dX5_init_31 : decode cX5_init 31 = .ok (.newarray .int, 2) := by decide +kernel
theorem dX5_init_33 : decode cX5_init 33 = .ok (.putfield 21, 3) := by decide +kernel
theorem dX5_init_36 : decode cX5_init 36 = .ok (.aload_n 0, 1) := by decide +kernel
theorem dX5_init_37 : decode cX5_init 37 = .ok (.bipush 20, 2) := by decide +kernel
theorem dX5_init_39 : decode cX5_init 39 = .ok (.newarray .int, 2) := by decide +kernel
theorem dX5_init_41 : decode cX5_init 41 = .ok (.putfield 24, 3) := by decide +kernel
theorem dX5_init_44 : decode cX5_init 44 = .ok (.aload_n 0, 1) := by decide +kernel
theorem dX5_init_45 : decode cX5_init 45 = .ok (.bipush 20, 2) := by decide +kernel
theorem dX5_init_47 : decode cX5_init 47 = .ok (.newarray .boolean, 2) := by decide +kernel
theorem dX5_init_49 : decode cX5_init 49 = .ok (.putfield 27, 3) := by decide +kernel
theorem dX5_init_52 : decode cX5_init 52 = .ok (.return_, 1) := by decide +kernel
theorem dX5_layOut_0 : decode cX5_layOut 0 = .ok (.iconst 0, 1) := by decide +kernel
theorem dX5_layOut_1 : decode cX5_layOut 1 = .ok (.istore 4, 2) := by decide +kernel
theorem dX5_layOut_3 : decode cX5_layOut 3 = .ok (.iload 4, 2) := by decide +kernel
theorem dX5_layOut_5 : decode cX5_layOut 5 = .ok (.aload_n 2, 1) := by decide +kernel
theorem dX5_layOut_6 : decode cX5_layOut 6 = .ok (.getfield 31, 3) := by decide +kernel
theorem dX5_layOut_9 : decode cX5_layOut 9 = .ok (.if_icmp .ge 26, 3) := by decide +kernel
theorem dX5_layOut_12 : decode cX5_layOut 12 = .ok (.aload_n 0, 1) := by decide +kernel
theorem dX5_layOut_13 : decode cX5_layOut 13 = .ok (.aload_n 1, 1) := by decide +kernel
theorem dX5_layOut_14 : decode cX5_layOut 14 = .ok (.aload_n 2, 1) := by decide +kernel
theorem dX5_layOut_15 : decode cX5_layOut 15 = .ok (.aload_n 3, 1) := by decide +kernel
theorem dX5_layOut_16 : decode cX5_layOut 16 = .ok (.iload 4, 2) := by decide +kernel
theorem dX5_layOut_18 : decode cX5_layOut 18 = .ok (.invokevirtual 37, 3) := by decide +kernel
theorem dX5_layOut_21 : decode cX5_layOut 21 = .ok (.aload_n 0, 1) := by decide +kernel
theorem dX5_layOut_22 : decode cX5_layOut 22 = .ok (.aload_n 1, 1) := by decide +kernel
theorem dX5_layOut_23 : decode cX5_layOut 23 = .ok (.aload_n 2, 1) := by decide +kernel
theorem dX5_layOut_24 : decode cX5_layOut 24 = .ok (.iload 4, 2) := by decide +kernel
theorem dX5_layOut_26 : decode cX5_layOut 26 = .ok (.invokevirtual 41, 3) := by decide +kernel
theorem dX5_layOut_29 : decode cX5_layOut 29 = .ok (.iinc 4 1, 3) := by decide +kernel
theorem dX5_layOut_32 : decode cX5_layOut 32 = .ok (.goto (-29), 3) := by decide +kernel
theorem dX5_layOut_35 : decode cX5_layOut 35 = .ok (.return_, 1) := by decide +kernel
theorem dX5_findSizes_0 : decode cX5_findSizes 0 = .ok (.aload_n 0, 1) := by decide +kernel
theorem dX5_findSizes_1 : decode cX5_findSizes 1 = .ok (.aload_n 1, 1) := by decide +kernel
theorem dX5_findSizes_2 : decode cX5_findSizes 2 = .ok (.aload_n 2, 1) := by decide +kernel
theorem dX5_findSizes_3 : decode cX5_findSizes 3 = .ok (.iload 4, 2) := by decide +kernel
theorem dX5_findSizes_5 : decode cX5_findSizes 5 = .ok (.invokevirtual 45, 3) := by decide +kernel
theorem dX5_findSizes_8 : decode cX5_findSizes 8 = .ok (.istore 5, 2) := by decide +kernel
theorem dX5_findSizes_10 : decode cX5_findSizes 10 = .ok (.aload_n 0, 1) := by decide +kernel
theorem dX5_findSizes_11 : decode cX5_findSizes 11 = .ok (.getfield 18, 3) := by decide +kernel
theorem dX5_findSizes_14 : decode cX5_findSizes 14 = .ok (.iload 4, 2) := by decide +kernel
theorem dX5_findSizes_16 : decode cX5_findSizes 16 = .ok (.iconst 0, 1) := by decide +kernel
theorem dX5_findSizes_17 : decode cX5_findSizes 17 = .ok (.iastore, 1) := by decide +kernel
theorem dX5_findSizes_18 : decode cX5_findSizes 18 = .ok (.iconst 1, 1) := by decide +kernel
theorem dX5_findSizes_19 : decode cX5_findSizes 19 = .ok (.istore 6, 2) := by decide +kernel
theorem dX5_findSizes_21 : decode cX5_findSizes 21 = .ok (.iload 6, 2) := by decide +kernel
theorem dX5_findSizes_23 : decode cX5_findSizes 23 = .ok (.bipush 20, 2) := by decide +kernel
theorem dX5_findSizes_25 : decode cX5_findSizes 25 = .ok (.if_icmp .gt 95, 3) := by decide +kernel
theorem dX5_findSizes_28 : decode cX5_findSizes 28 = .ok (.aload_n 0, 1) := by decide +kernel
theorem dX5_findSizes_29 : decode cX5_findSizes 29 = .ok (.aload_n 2, 1) := by decide +kernel
theorem dX5_findSizes_30 : decode cX5_findSizes 30 = .ok (.iload 4, 2) := by decide +kernel
theorem dX5_findSizes_32 : decode cX5_findSizes 32 = .ok (.invokevirtual 49, 3) := by decide +kernel
theorem dX5_findSizes_35 : decode cX5_findSizes 35 = .ok (.ifCond .ne 85, 3) := by decide +kernel
theorem dX5_findSizes_38 : decode cX5_findSizes 38 = .ok (.aload_n 0, 1) := by decide +kernel
theorem dX5_findSizes_39 : decode cX5_findSizes 39 = .ok (.aload_n 1, 1) := by decide +kernel
theorem dX5_findSizes_40 : decode cX5_findSizes 40 = .ok (.aload_n 2, 1) := by decide +kernel
theorem dX5_findSizes_41 : decode cX5_findSizes 41 = .ok (.iload 4, 2) := by decide +kernel
theorem dX5_findSizes_43 : decode cX5_findSizes 43 = .ok (.invokevirtual 53, 3) := by decide +kernel
theorem dX5_findSizes_46 : decode cX5_findSizes 46 = .ok (.istore 7, 2) := by decide +kernel
theorem dX5_findSizes_48 : decode cX5_findSizes 48 = .ok (.aload_n 0, 1) := by decide +kernel
theorem dX5_findSizes_49 : decode cX5_findSizes 49 = .ok (.aload_n 1, 1) := by decide +kernel
theorem dX5_findSizes_50 : decode cX5_findSizes 50 = .ok (.aload_n 2, 1) := by decide +kernel
theorem dX5_findSizes_51 : decode cX5_findSizes 51 = .ok (.aload_n 3, 1) := by decide +kernel
theorem dX5_findSizes_52 : decode cX5_findSizes 52 = .ok (.iload 4, 2) := by decide +kernel
theorem dX5_findSizes_54 : decode cX5_findSizes 54 = .ok (.iload 5, 2) := by decide +kernel
theorem dX5_findSizes_56 : decode cX5_findSizes 56 = .ok (.iload 7, 2) := by decide +kernel
theorem dX5_findSizes_58 : decode cX5_findSizes 58 = .ok (.invokevirtual 57, 3) := by decide +kernel
theorem dX5_findSizes_61 : decode cX5_findSizes 61 = .ok (.aload_n 3, 1) := by decide +kernel
theorem dX5_findSizes_62 : decode cX5_findSizes 62 = .ok (.iload 7, 2) := by decide +kernel
theorem dX5_findSizes_64 : decode cX5_findSizes 64 = .ok (.invokestatic 61, 3) := by decide +kernel
theorem dX5_findSizes_67 : decode cX5_findSizes 67 = .ok (.aload_n 2, 1) := by decide +kernel
theorem dX5_findSizes_68 : decode cX5_findSizes 68 = .ok (.getfield 67, 3) := by decide +kernel
theorem dX5_findSizes_71 : decode cX5_findSizes 71 = .ok (.iload 4, 2) := by decide +kernel
theorem dX5_findSizes_73 : decode cX5_findSizes 73 = .ok (.iconst 1, 1) := by decide +kernel
theorem dX5_findSizes_74 : decode cX5_findSizes 74 = .ok (.iadd, 1) := by decide +kernel
theorem dX5_findSizes_75 : decode cX5_findSizes 75 = .ok (.iaload, 1) := by decide +kernel
theorem dX5_findSizes_76 : decode cX5_findSizes 76 = .ok (.aload_n 2, 1) := by decide +kernel
theorem dX5_findSizes_77 : decode cX5_findSizes 77 = .ok (.getfield 67, 3) := by decide +kernel
theorem dX5_findSizes_80 : decode cX5_findSizes 80 = .ok (.iload 4, 2) := by decide +kernel
theorem dX5_findSizes_82 : decode cX5_findSizes 82 = .ok (.iaload, 1) := by decide +kernel
theorem dX5_findSizes_83 : decode cX5_findSizes 83 = .ok (.isub, 1) := by decide +kernel
theorem dX5_findSizes_84 : decode cX5_findSizes 84 = .ok (.invokevirtual 70, 3) := by decide +kernel
theorem dX5_findSizes_87 : decode cX5_findSizes 87 = .ok (.aload_n 0, 1) := by decide +kernel
theorem dX5_findSizes_88 : decode cX5_findSizes 88 = .ok (.aload_n 2, 1) := by decide +kernel
theorem dX5_findSizes_89 : decode cX5_findSizes 89 = .ok (.iload 4, 2) := by decide +kernel
theorem dX5_findSizes_91 : decode cX5_findSizes 91 = .ok (.aload_n 0, 1) := by decide +kernel
theorem dX5_findSizes_92 : decode cX5_findSizes 92 = .ok (.aload_n 1, 1) := by decide +kernel
theorem dX5_findSizes_93 : decode cX5_findSizes 93 = .ok (.aload_n 2, 1) := by decide +kernel
theorem dX5_findSizes_94 : decode cX5_findSizes 94 = .ok (.aload_n 3, 1) := by decide +kernel
theorem dX5_findSizes_95 : decode cX5_findSizes 95 = .ok (.iload 4, 2) := by decide +kernel
theorem dX5_findSizes_97 : decode cX5_findSizes 97 = .ok (.iload 5, 2) := by decide +kernel
theorem dX5_findSizes_99 : decode cX5_findSizes 99 = .ok (.invokevirtual 76, 3) := by decide +kernel
theorem dX5_findSizes_102 : decode cX5_findSizes 102 = .ok (.invokevirtual 80, 3) := by decide +kernel
theorem dX5_findSizes_105 : decode cX5_findSizes 105 = .ok (.aload_n 0, 1) := by decide +kernel
theorem dX5_findSizes_106 : decode cX5_findSizes 106 = .ok (.getfield 18, 3) := by decide +kernel
theorem dX5_findSizes_109 : decode cX5_findSizes 109 = .ok (.iload 4, 2) := by decide +kernel
theorem dX5_findSizes_111 : decode cX5_findSizes 111 = .ok (.iload 6, 2) := by decide +kernel
theorem dX5_findSizes_113 : decode cX5_findSizes 113 = .ok (.iastore, 1) := by decide +kernel
theorem dX5_findSizes_114 : decode cX5_findSizes 114 = .ok (.iinc 6 1, 3) := by decide +kernel
theorem dX5_findSizes_117 : decode cX5_findSizes 117 = .ok (.goto (-96), 3) := by decide +kernel
theorem dX5_findSizes_120 : decode cX5_findSizes 120 = .ok (.aload_n 0, 1) := by decide +kernel
theorem dX5_findSizes_121 : decode cX5_findSizes 121 = .ok (.getfield 21, 3) := by decide +kernel
theorem dX5_findSizes_124 : decode cX5_findSizes 124 = .ok (.iload 4, 2) := by decide +kernel
theorem dX5_findSizes_126 : decode cX5_findSizes 126 = .ok (.aload_n 0, 1) := by decide +kernel
theorem dX5_findSizes_127 : decode cX5_findSizes 127 = .ok (.aload_n 1, 1) := by decide +kernel
theorem dX5_findSizes_128 : decode cX5_findSizes 128 = .ok (.aload_n 2, 1) := by decide +kernel
theorem dX5_findSizes_129 : decode cX5_findSizes 129 = .ok (.iload 4, 2) := by decide +kernel
theorem dX5_findSizes_131 : decode cX5_findSizes 131 = .ok (.invokevirtual 53, 3) := by decide +kernel
theorem dX5_findSizes_134 : decode cX5_findSizes 134 = .ok (.iastore, 1) := by decide +kernel
theorem dX5_findSizes_135 : decode cX5_findSizes 135 = .ok (.return_, 1) := by decide +kernel
theorem dX5_freezeAtOnce_0 : decode cX5_freezeAtOnce 0 = .ok (.aload_n 2, 1) := by decide +kernel
theorem dX5_freezeAtOnce_1 : decode cX5_freezeAtOnce 1 = .ok (.getfield 67, 3) := by decide +kernel
theorem dX5_freezeAtOnce_4 : decode cX5_freezeAtOnce 4 = .ok (.iload_n 3, 1) := by decide +kernel
theorem dX5_freezeAtOnce_5 : decode cX5_freezeAtOnce 5 = .ok (.iaload, 1) := by decide +kernel
theorem dX5_freezeAtOnce_6 : decode cX5_freezeAtOnce 6 = .ok (.istore 4, 2) := by decide +kernel
theorem dX5_freezeAtOnce_8 : decode cX5_freezeAtOnce 8 = .ok (.aload_n 2, 1) := by decide +kernel
theorem dX5_freezeAtOnce_9 : decode cX5_freezeAtOnce 9 = .ok (.getfield 67, 3) := by decide +kernel
theorem dX5_freezeAtOnce_12 : decode cX5_freezeAtOnce 12 = .ok (.iload_n 3, 1) := by decide +kernel
theorem dX5_freezeAtOnce_13 : decode cX5_freezeAtOnce 13 = .ok (.iconst 1, 1) := by decide +kernel
theorem dX5_freezeAtOnce_14 : decode cX5_freezeAtOnce 14 = .ok (.iadd, 1) := by decide +kernel
theorem dX5_freezeAtOnce_15 : decode cX5_freezeAtOnce 15 = .ok (.iaload, 1) := by decide +kernel
theorem dX5_freezeAtOnce_16 : decode cX5_freezeAtOnce 16 = .ok (.istore 5, 2) := by decide +kernel
theorem dX5_freezeAtOnce_18 : decode cX5_freezeAtOnce 18 = .ok (.iconst 0, 1) := by decide +kernel
theorem dX5_freezeAtOnce_19 : decode cX5_freezeAtOnce 19 = .ok (.istore 6, 2) := by decide +kernel
theorem dX5_freezeAtOnce_21 : decode cX5_freezeAtOnce 21 = .ok (.iload 4, 2) := by decide +kernel
theorem dX5_freezeAtOnce_23 : decode cX5_freezeAtOnce 23 = .ok (.istore 7, 2) := by decide +kernel
theorem dX5_freezeAtOnce_25 : decode cX5_freezeAtOnce 25 = .ok (.iload 7, 2) := by decide +kernel
theorem dX5_freezeAtOnce_27 : decode cX5_freezeAtOnce 27 = .ok (.iload 5, 2) := by decide +kernel
theorem dX5_freezeAtOnce_29 : decode cX5_freezeAtOnce 29 = .ok (.if_icmp .ge 25, 3) := by decide +kernel
theorem dX5_freezeAtOnce_32 : decode cX5_freezeAtOnce 32 = .ok (.iload 6, 2) := by decide +kernel
theorem dX5_freezeAtOnce_34 : decode cX5_freezeAtOnce 34 = .ok (.aload_n 1, 1) := by decide +kernel
theorem dX5_freezeAtOnce_35 : decode cX5_freezeAtOnce 35 = .ok (.aload_n 2, 1) := by decide +kernel
theorem dX5_freezeAtOnce_36 : decode cX5_freezeAtOnce 36 = .ok (.getfield 84, 3) := by decide +kernel
theorem dX5_freezeAtOnce_39 : decode cX5_freezeAtOnce 39 = .ok (.iload 7, 2) := by decide +kernel
theorem dX5_freezeAtOnce_41 : decode cX5_freezeAtOnce 41 = .ok (.iaload, 1) := by decide +kernel
theorem dX5_freezeAtOnce_42 : decode cX5_freezeAtOnce 42 = .ok (.invokevirtual 87, 3) := by decide +kernel
theorem dX5_freezeAtOnce_45 : decode cX5_freezeAtOnce 45 = .ok (.iadd, 1) := by decide +kernel
theorem dX5_freezeAtOnce_46 : decode cX5_freezeAtOnce 46 = .ok (.istore 6, 2) := by decide +kernel
theorem dX5_freezeAtOnce_48 : decode cX5_freezeAtOnce 48 = .ok (.iinc 7 1, 3) := by decide +kernel
theorem dX5_freezeAtOnce_51 : decode cX5_freezeAtOnce 51 = .ok (.goto (-26), 3) := by decide +kernel
theorem dX5_freezeAtOnce_54 : decode cX5_freezeAtOnce 54 = .ok (.iload 6, 2) := by decide +kernel
theorem dX5_freezeAtOnce_56 : decode cX5_freezeAtOnce 56 = .ok (.aload_n 2, 1) := by decide +kernel
theorem dX5_freezeAtOnce_57 : decode cX5_freezeAtOnce 57 = .ok (.aload_n 1, 1) := by decide +kernel
theorem dX5_freezeAtOnce_58 : decode cX5_freezeAtOnce 58 = .ok (.iload_n 3, 1) := by decide +kernel
theorem dX5_freezeAtOnce_59 : decode cX5_freezeAtOnce 59 = .ok (.invokevirtual 92, 3) := by decide +kernel
theorem dX5_freezeAtOnce_62 : decode cX5_freezeAtOnce 62 = .ok (.if_icmp .ge 7, 3) := by decide +kernel
theorem dX5_freezeAtOnce_65 : decode cX5_freezeAtOnce 65 = .ok (.iconst 1, 1) := by decide +kernel
theorem dX5_freezeAtOnce_66 : decode cX5_freezeAtOnce 66 = .ok (.goto 4, 3) := by decide +kernel
theorem dX5_freezeAtOnce_69 : decode cX5_freezeAtOnce 69 = .ok (.iconst 0, 1) := by decide +kernel
theorem dX5_freezeAtOnce_70 : decode cX5_freezeAtOnce 70 = .ok (.istore 7, 2) := by decide +kernel
theorem dX5_freezeAtOnce_72 : decode cX5_freezeAtOnce 72 = .ok (.iload 4, 2) := by decide +kernel
theorem dX5_freezeAtOnce_74 : decode cX5_freezeAtOnce 74 = .ok (.istore 8, 2) := by decide +kernel
theorem dX5_freezeAtOnce_76 : decode cX5_freezeAtOnce 76 = .ok (.iload 8, 2) := by decide +kernel
theorem dX5_freezeAtOnce_78 : decode cX5_freezeAtOnce 78 = .ok (.iload 5, 2) := by decide +kernel
theorem dX5_freezeAtOnce_80 : decode cX5_freezeAtOnce 80 = .ok (.if_icmp .ge 107, 3) := by decide +kernel
theorem dX5_freezeAtOnce_83 : decode cX5_freezeAtOnce 83 = .ok (.aload_n 2, 1) := by decide +kernel
theorem dX5_freezeAtOnce_84 : decode cX5_freezeAtOnce 84 = .ok (.getfield 84, 3) := by decide +kernel
theorem dX5_freezeAtOnce_87 : decode cX5_freezeAtOnce 87 = .ok (.iload 8, 2) := by decide +kernel
theorem dX5_freezeAtOnce_89 : decode cX5_freezeAtOnce 89 = .ok (.iaload, 1) := by decide +kernel
theorem dX5_freezeAtOnce_90 : decode cX5_freezeAtOnce 90 = .ok (.istore 9, 2) := by decide +kernel
theorem dX5_freezeAtOnce_92 : decode cX5_freezeAtOnce 92 = .ok (.aload_n 1, 1) := by decide +kernel
theorem dX5_freezeAtOnce_93 : decode cX5_freezeAtOnce 93 = .ok (.getfield 96, 3) := by decide +kernel
theorem dX5_freezeAtOnce_96 : decode cX5_freezeAtOnce 96 = .ok (.iload 9, 2) := by decide +kernel
theorem dX5_freezeAtOnce_98 : decode cX5_freezeAtOnce 98 = .ok (.aaload, 1) := by decide +kernel
theorem dX5_freezeAtOnce_99 : decode cX5_freezeAtOnce 99 = .ok (.astore 10, 2) := by decide +kernel
theorem dX5_freezeAtOnce_101 : decode cX5_freezeAtOnce 101 = .ok (.aload_n 0, 1) := by decide +kernel
theorem dX5_freezeAtOnce_102 : decode cX5_freezeAtOnce 102 = .ok (.getfield 9, 3) := by decide +kernel
theorem dX5_freezeAtOnce_105 : decode cX5_freezeAtOnce 105 = .ok (.iload 9, 2) := by decide +kernel
theorem dX5_freezeAtOnce_107 : decode cX5_freezeAtOnce 107 = .ok (.aload_n 1, 1) := by decide +kernel
theorem dX5_freezeAtOnce_108 : decode cX5_freezeAtOnce 108 = .ok (.iload 9, 2) := by decide +kernel
theorem dX5_freezeAtOnce_110 : decode cX5_freezeAtOnce 110 = .ok (.invokevirtual 87, 3) := by decide +kernel
theorem dX5_freezeAtOnce_113 : decode cX5_freezeAtOnce 113 = .ok (.iastore, 1) := by decide +kernel
theorem dX5_freezeAtOnce_114 : decode cX5_freezeAtOnce 114 = .ok (.aload_n 0, 1) := by decide +kernel
theorem dX5_freezeAtOnce_115 : decode cX5_freezeAtOnce 115 = .ok (.getfield 27, 3) := by decide +kernel
theorem dX5_freezeAtOnce_118 : decode cX5_freezeAtOnce 118 = .ok (.iload 9, 2) := by decide +kernel
theorem dX5_freezeAtOnce_120 : decode cX5_freezeAtOnce 120 = .ok (.iload 7, 2) := by decide +kernel
theorem dX5_freezeAtOnce_122 : decode cX5_freezeAtOnce 122 = .ok (.ifCond .eq 32, 3) := by decide +kernel
theorem dX5_freezeAtOnce_125 : decode cX5_freezeAtOnce 125 = .ok (.aload 10, 2) := by decide +kernel
theorem dX5_freezeAtOnce_127 : decode cX5_freezeAtOnce 127 = .ok (.iconst 1, 1) := by decide +kernel
theorem dX5_freezeAtOnce_128 : decode cX5_freezeAtOnce 128 = .ok (.iaload, 1) := by decide +kernel
theorem dX5_freezeAtOnce_129 : decode cX5_freezeAtOnce 129 = .ok (.ifCond .eq 17, 3) := by decide +kernel
theorem dX5_freezeAtOnce_132 : decode cX5_freezeAtOnce 132 = .ok (.aload 10, 2) := by decide +kernel
theorem dX5_freezeAtOnce_134 : decode cX5_freezeAtOnce 134 = .ok (.iconst 0, 1) := by decide +kernel
theorem dX5_freezeAtOnce_135 : decode cX5_freezeAtOnce 135 = .ok (.iaload, 1) := by decide +kernel
theorem dX5_freezeAtOnce_136 : decode cX5_freezeAtOnce 136 = .ok (.aload_n 0, 1) := by decide +kernel
theorem dX5_freezeAtOnce_137 : decode cX5_freezeAtOnce 137 = .ok (.getfield 9, 3) := by decide +kernel
theorem dX5_freezeAtOnce_140 : decode cX5_freezeAtOnce 140 = .ok (.iload 9, 2) := by decide +kernel
theorem dX5_freezeAtOnce_142 : decode cX5_freezeAtOnce 142 = .ok (.iaload, 1) := by decide +kernel
theorem dX5_freezeAtOnce_143 : decode cX5_freezeAtOnce 143 = .ok (.if_icmp .le 7, 3) := by decide +kernel
theorem dX5_freezeAtOnce_146 : decode cX5_freezeAtOnce 146 = .ok (.iconst 1, 1) := by decide +kernel
theorem dX5_freezeAtOnce_147 : decode cX5_freezeAtOnce 147 = .ok (.goto 33, 3) := by decide +kernel
theorem dX5_freezeAtOnce_150 : decode cX5_freezeAtOnce 150 = .ok (.iconst 0, 1) := by decide +kernel
theorem dX5_freezeAtOnce_151 : decode cX5_freezeAtOnce 151 = .ok (.goto 29, 3) := by decide +kernel
theorem dX5_freezeAtOnce_154 : decode cX5_freezeAtOnce 154 = .ok (.aload 10, 2) := by decide +kernel
theorem dX5_freezeAtOnce_156 : decode cX5_freezeAtOnce 156 = .ok (.iconst 2, 1) := by decide +kernel
theorem dX5_freezeAtOnce_157 : decode cX5_freezeAtOnce 157 = .ok (.iaload, 1) := by decide +kernel
theorem dX5_freezeAtOnce_158 : decode cX5_freezeAtOnce 158 = .ok (.ifCond .eq 17, 3) := by decide +kernel
theorem dX5_freezeAtOnce_161 : decode cX5_freezeAtOnce 161 = .ok (.aload 10, 2) := by decide +kernel
theorem dX5_freezeAtOnce_163 : decode cX5_freezeAtOnce 163 = .ok (.iconst 0, 1) := by decide +kernel
theorem dX5_freezeAtOnce_164 : decode cX5_freezeAtOnce 164 = .ok (.iaload, 1) := by decide +kernel
theorem dX5_freezeAtOnce_165 : decode cX5_freezeAtOnce 165 = .ok (.aload_n 0, 1) := by decide +kernel
theorem dX5_freezeAtOnce_166 : decode cX5_freezeAtOnce 166 = .ok (.getfield 9, 3) := by decide +kernel
theorem dX5_freezeAtOnce_169 : decode cX5_freezeAtOnce 169 = .ok (.iload 9, 2) := by decide +kernel
theorem dX5_freezeAtOnce_171 : decode cX5_freezeAtOnce 171 = .ok (.iaload, 1) := by decide +kernel
theorem dX5_freezeAtOnce_172 : decode cX5_freezeAtOnce 172 = .ok (.if_icmp .ge 7, 3) := by decide +kernel
theorem dX5_freezeAtOnce_175 : decode cX5_freezeAtOnce 175 = .ok (.iconst 1, 1) := by decide +kernel
theorem dX5_freezeAtOnce_176 : decode cX5_freezeAtOnce 176 = .ok (.goto 4, 3) := by decide +kernel
theorem dX5_freezeAtOnce_179 : decode cX5_freezeAtOnce 179 = .ok (.iconst 0, 1) := by decide +kernel
theorem dX5_freezeAtOnce_180 : decode cX5_freezeAtOnce 180 = .ok (.bastore, 1) := by decide +kernel
theorem dX5_freezeAtOnce_181 : decode cX5_freezeAtOnce 181 = .ok (.iinc 8 1, 3) := by decide +kernel
theorem dX5_freezeAtOnce_184 : decode cX5_freezeAtOnce 184 = .ok (.goto (-108), 3) := by decide +kernel
theorem dX5_freezeAtOnce_187 : decode cX5_freezeAtOnce 187 = .ok (.iload 7, 2) := by decide +kernel
theorem dX5_freezeAtOnce_189 : decode cX5_freezeAtOnce 189 = .ok (.ireturn, 1) := by decide +kernel
theorem dX5_isFrozen_0 : decode cX5_isFrozen 0 = .ok (.aload_n 1, 1) := by decide +kernel
theorem dX5_isFrozen_1 : decode cX5_isFrozen 1 = .ok (.getfield 67, 3) := by decide +kernel
theorem dX5_isFrozen_4 : decode cX5_isFrozen 4 = .ok (.iload_n 2, 1) := by decide +kernel
theorem dX5_isFrozen_5 : decode cX5_isFrozen 5 = .ok (.iaload, 1) := by decide +kernel
theorem dX5_isFrozen_6 : decode cX5_isFrozen 6 = .ok (.istore_n 3, 1) := by decide +kernel
theorem dX5_isFrozen_7 : decode cX5_isFrozen 7 = .ok (.iload_n 3, 1) := by decide +kernel
theorem dX5_isFrozen_8 : decode cX5_isFrozen 8 = .ok (.aload_n 1, 1) := by decide +kernel
theorem dX5_isFrozen_9 : decode cX5_isFrozen 9 = .ok (.getfield 67, 3) := by decide +kernel
theorem dX5_isFrozen_12 : decode cX5_isFrozen 12 = .ok (.iload_n 2, 1) := by decide +kernel
theorem dX5_isFrozen_13 : decode cX5_isFrozen 13 = .ok (.iconst 1, 1) := by decide +kernel
theorem dX5_isFrozen_14 : decode cX5_isFrozen 14 = .ok (.iadd, 1) := by decide +kernel
theorem dX5_isFrozen_15 : decode cX5_isFrozen 15 = .ok (.iaload, 1) := by decide +kernel
theorem dX5_isFrozen_16 : decode cX5_isFrozen 16 = .ok (.if_icmp .ge 25, 3) := by decide +kernel
theorem dX5_isFrozen_19 : decode cX5_isFrozen 19 = .ok (.aload_n 0, 1) := by decide +kernel
theorem dX5_isFrozen_20 : decode cX5_isFrozen 20 = .ok (.getfield 27, 3) := by decide +kernel
theorem dX5_isFrozen_23 : decode cX5_isFrozen 23 = .ok (.aload_n 1, 1) := by decide +kernel
theorem dX5_isFrozen_24 : decode cX5_isFrozen 24 = .ok (.getfield 84, 3) := by decide +kernel
theorem dX5_isFrozen_27 : decode cX5_isFrozen 27 = .ok (.iload_n 3, 1) := by decide +kernel
theorem dX5_isFrozen_28 : decode cX5_isFrozen 28 = .ok (.iaload, 1) := by decide +kernel
theorem dX5_isFrozen_29 : decode cX5_isFrozen 29 = .ok (.baload, 1) := by decide +kernel
theorem dX5_isFrozen_30 : decode cX5_isFrozen 30 = .ok (.ifCond .ne 5, 3) := by decide +kernel
theorem dX5_isFrozen_33 : decode cX5_isFrozen 33 = .ok (.iconst 0, 1) := by decide +kernel
theorem dX5_isFrozen_34 : decode cX5_isFrozen 34 = .ok (.ireturn, 1) := by decide +kernel
theorem dX5_isFrozen_35 : decode cX5_isFrozen 35 = .ok (.iinc 3 1, 3) := by decide +kernel
theorem dX5_isFrozen_38 : decode cX5_isFrozen 38 = .ok (.goto (-31), 3) := by decide +kernel
theorem dX5_isFrozen_41 : decode cX5_isFrozen 41 = .ok (.iconst 1, 1) := by decide +kernel
theorem dX5_isFrozen_42 : decode cX5_isFrozen 42 = .ok (.ireturn, 1) := by decide +kernel
theorem dX5_spaceLeft_0 : decode cX5_spaceLeft 0 = .ok (.aload_n 2, 1) := by decide +kernel
theorem dX5_spaceLeft_1 : decode cX5_spaceLeft 1 = .ok (.aload_n 1, 1) := by decide +kernel
theorem dX5_spaceLeft_2 : decode cX5_spaceLeft 2 = .ok (.iload_n 3, 1) := by decide +kernel
theorem dX5_spaceLeft_3 : decode cX5_spaceLeft 3 = .ok (.invokevirtual 92, 3) := by decide +kernel
theorem dX5_spaceLeft_6 : decode cX5_spaceLeft 6 = .ok (.istore 4, 2) := by decide +kernel
theorem dX5_spaceLeft_8 : decode cX5_spaceLeft 8 = .ok (.aload_n 2, 1) := by decide +kernel
theorem dX5_spaceLeft_9 : decode cX5_spaceLeft 9 = .ok (.getfield 67, 3) := by decide +kernel
theorem dX5_spaceLeft_12 : decode cX5_spaceLeft 12 = .ok (.iload_n 3, 1) := by decide +kernel
theorem dX5_spaceLeft_13 : decode cX5_spaceLeft 13 = .ok (.iaload, 1) := by decide +kernel
theorem dX5_spaceLeft_14 : decode cX5_spaceLeft 14 = .ok (.istore 5, 2) := by decide +kernel
theorem dX5_spaceLeft_16 : decode cX5_spaceLeft 16 = .ok (.iload 5, 2) := by decide +kernel
theorem dX5_spaceLeft_18 : decode cX5_spaceLeft 18 = .ok (.aload_n 2, 1) := by decide +kernel
theorem dX5_spaceLeft_19 : decode cX5_spaceLeft 19 = .ok (.getfield 67, 3) := by decide +kernel
theorem dX5_spaceLeft_22 : decode cX5_spaceLeft 22 = .ok (.iload_n 3, 1) := by decide +kernel
theorem dX5_spaceLeft_23 : decode cX5_spaceLeft 23 = .ok (.iconst 1, 1) := by decide +kernel
theorem dX5_spaceLeft_24 : decode cX5_spaceLeft 24 = .ok (.iadd, 1) := by decide +kernel
theorem dX5_spaceLeft_25 : decode cX5_spaceLeft 25 = .ok (.iaload, 1) := by decide +kernel
theorem dX5_spaceLeft_26 : decode cX5_spaceLeft 26 = .ok (.if_icmp .ge 52, 3) := by decide +kernel
theorem dX5_spaceLeft_29 : decode cX5_spaceLeft 29 = .ok (.aload_n 2, 1) := by decide +kernel
theorem dX5_spaceLeft_30 : decode cX5_spaceLeft 30 = .ok (.getfield 84, 3) := by decide +kernel
theorem dX5_spaceLeft_33 : decode cX5_spaceLeft 33 = .ok (.iload 5, 2) := by decide +kernel
theorem dX5_spaceLeft_35 : decode cX5_spaceLeft 35 = .ok (.iaload, 1) := by decide +kernel
theorem dX5_spaceLeft_36 : decode cX5_spaceLeft 36 = .ok (.istore 6, 2) := by decide +kernel
theorem dX5_spaceLeft_38 : decode cX5_spaceLeft 38 = .ok (.iload 4, 2) := by decide +kernel
theorem dX5_spaceLeft_40 : decode cX5_spaceLeft 40 = .ok (.aload_n 0, 1) := by decide +kernel
theorem dX5_spaceLeft_41 : decode cX5_spaceLeft 41 = .ok (.getfield 27, 3) := by decide +kernel
theorem dX5_spaceLeft_44 : decode cX5_spaceLeft 44 = .ok (.iload 6, 2) := by decide +kernel
theorem dX5_spaceLeft_46 : decode cX5_spaceLeft 46 = .ok (.baload, 1) := by decide +kernel
theorem dX5_spaceLeft_47 : decode cX5_spaceLeft 47 = .ok (.ifCond .eq 13, 3) := by decide +kernel
theorem dX5_spaceLeft_50 : decode cX5_spaceLeft 50 = .ok (.aload_n 0, 1) := by decide +kernel
theorem dX5_spaceLeft_51 : decode cX5_spaceLeft 51 = .ok (.getfield 9, 3) := by decide +kernel
theorem dX5_spaceLeft_54 : decode cX5_spaceLeft 54 = .ok (.iload 6, 2) := by decide +kernel
theorem dX5_spaceLeft_56 : decode cX5_spaceLeft 56 = .ok (.iaload, 1) := by decide +kernel
theorem dX5_spaceLeft_57 : decode cX5_spaceLeft 57 = .ok (.goto 12, 3) := by decide +kernel
theorem dX5_spaceLeft_60 : decode cX5_spaceLeft 60 = .ok (.aload_n 1, 1) := by decide +kernel
theorem dX5_spaceLeft_61 : decode cX5_spaceLeft 61 = .ok (.getfield 96, 3) := by decide +kernel
theorem dX5_spaceLeft_64 : decode cX5_spaceLeft 64 = .ok (.iload 6, 2) := by decide +kernel
theorem dX5_spaceLeft_66 : decode cX5_spaceLeft 66 = .ok (.aaload, 1) := by decide +kernel
theorem dX5_spaceLeft_67 : decode cX5_spaceLeft 67 = .ok (.iconst 0, 1) := by decide +kernel
theorem dX5_spaceLeft_68 : decode cX5_spaceLeft 68 = .ok (.iaload, 1) := by decide +kernel
theorem dX5_spaceLeft_69 : decode cX5_spaceLeft 69 = .ok (.isub, 1) := by decide +kernel
theorem dX5_spaceLeft_70 : decode cX5_spaceLeft 70 = .ok (.istore 4, 2) := by decide +kernel
theorem dX5_spaceLeft_72 : decode cX5_spaceLeft 72 = .ok (.iinc 5 1, 3) := by decide +kernel
theorem dX5_spaceLeft_75 : decode cX5_spaceLeft 75 = .ok (.goto (-59), 3) := by decide +kernel
theorem dX5_spaceLeft_78 : decode cX5_spaceLeft 78 = .ok (.iload 4, 2) := by decide +kernel
theorem dX5_spaceLeft_80 : decode cX5_spaceLeft 80 = .ok (.ireturn, 1) := by decide +kernel
theorem dX5_weigh_0 : decode cX5_weigh 0 = .ok (.iload 5, 2) := by decide +kernel
theorem dX5_weigh_2 : decode cX5_weigh 2 = .ok (.ifCond .eq 16, 3) := by decide +kernel
theorem dX5_weigh_5 : decode cX5_weigh 5 = .ok (.iload 6, 2) := by decide +kernel
theorem dX5_weigh_7 : decode cX5_weigh 7 = .ok (.ifCond .le 7, 3) := by decide +kernel
theorem dX5_weigh_10 : decode cX5_weigh 10 = .ok (.iconst 1, 1) := by decide +kernel
theorem dX5_weigh_11 : decode cX5_weigh 11 = .ok (.goto 17, 3) := by decide +kernel
theorem dX5_weigh_14 : decode cX5_weigh 14 = .ok (.iconst 0, 1) := by decide +kernel
theorem dX5_weigh_15 : decode cX5_weigh 15 = .ok (.goto 13, 3) := by decide +kernel
theorem dX5_weigh_18 : decode cX5_weigh 18 = .ok (.iload 6, 2) := by decide +kernel
theorem dX5_weigh_20 : decode cX5_weigh 20 = .ok (.ifCond .ge 7, 3) := by decide +kernel
theorem dX5_weigh_23 : decode cX5_weigh 23 = .ok (.iconst 1, 1) := by decide +kernel
theorem dX5_weigh_24 : decode cX5_weigh 24 = .ok (.goto 4, 3) := by decide +kernel
theorem dX5_weigh_27 : decode cX5_weigh 27 = .ok (.iconst 0, 1) := by decide +kernel
theorem dX5_weigh_28 : decode cX5_weigh 28 = .ok (.istore 7, 2) := by decide +kernel
theorem dX5_weigh_30 : decode cX5_weigh 30 = .ok (.aload_n 2, 1) := by decide +kernel
theorem dX5_weigh_31 : decode cX5_weigh 31 = .ok (.getfield 67, 3) := by decide +kernel
theorem dX5_weigh_34 : decode cX5_weigh 34 = .ok (.iload 4, 2) := by decide +kernel
theorem dX5_weigh_36 : decode cX5_weigh 36 = .ok (.iaload, 1) := by decide +kernel
theorem dX5_weigh_37 : decode cX5_weigh 37 = .ok (.istore 8, 2) := by decide +kernel
theorem dX5_weigh_39 : decode cX5_weigh 39 = .ok (.iload 8, 2) := by decide +kernel
theorem dX5_weigh_41 : decode cX5_weigh 41 = .ok (.istore 9, 2) := by decide +kernel
theorem dX5_weigh_43 : decode cX5_weigh 43 = .ok (.iload 9, 2) := by decide +kernel
theorem dX5_weigh_45 : decode cX5_weigh 45 = .ok (.aload_n 2, 1) := by decide +kernel
theorem dX5_weigh_46 : decode cX5_weigh 46 = .ok (.getfield 67, 3) := by decide +kernel
theorem dX5_weigh_49 : decode cX5_weigh 49 = .ok (.iload 4, 2) := by decide +kernel
theorem dX5_weigh_51 : decode cX5_weigh 51 = .ok (.iconst 1, 1) := by decide +kernel
theorem dX5_weigh_52 : decode cX5_weigh 52 = .ok (.iadd, 1) := by decide +kernel
theorem dX5_weigh_53 : decode cX5_weigh 53 = .ok (.iaload, 1) := by decide +kernel
theorem dX5_weigh_54 : decode cX5_weigh 54 = .ok (.if_icmp .ge 82, 3) := by decide +kernel
theorem dX5_weigh_57 : decode cX5_weigh 57 = .ok (.aload_n 2, 1) := by decide +kernel
theorem dX5_weigh_58 : decode cX5_weigh 58 = .ok (.getfield 84, 3) := by decide +kernel
theorem dX5_weigh_61 : decode cX5_weigh 61 = .ok (.iload 9, 2) := by decide +kernel
theorem dX5_weigh_63 : decode cX5_weigh 63 = .ok (.iaload, 1) := by decide +kernel
theorem dX5_weigh_64 : decode cX5_weigh 64 = .ok (.istore 10, 2) := by decide +kernel
theorem dX5_weigh_66 : decode cX5_weigh 66 = .ok (.aload_n 1, 1) := by decide +kernel
theorem dX5_weigh_67 : decode cX5_weigh 67 = .ok (.getfield 96, 3) := by decide +kernel
theorem dX5_weigh_70 : decode cX5_weigh 70 = .ok (.iload 10, 2) := by decide +kernel
theorem dX5_weigh_72 : decode cX5_weigh 72 = .ok (.aaload, 1) := by decide +kernel
theorem dX5_weigh_73 : decode cX5_weigh 73 = .ok (.astore 11, 2) := by decide +kernel
theorem dX5_weigh_75 : decode cX5_weigh 75 = .ok (.iload 5, 2) := by decide +kernel
theorem dX5_weigh_77 : decode cX5_weigh 77 = .ok (.ifCond .eq 10, 3) := by decide +kernel
theorem dX5_weigh_80 : decode cX5_weigh 80 = .ok (.aload 11, 2) := by decide +kernel
theorem dX5_weigh_82 : decode cX5_weigh 82 = .ok (.iconst 1, 1) := by decide +kernel
theorem dX5_weigh_83 : decode cX5_weigh 83 = .ok (.iaload, 1) := by decide +kernel
theorem dX5_weigh_84 : decode cX5_weigh 84 = .ok (.goto 12, 3) := by decide +kernel
theorem dX5_weigh_87 : decode cX5_weigh 87 = .ok (.aload 11, 2) := by decide +kernel
theorem dX5_weigh_89 : decode cX5_weigh 89 = .ok (.iconst 2, 1) := by decide +kernel
theorem dX5_weigh_90 : decode cX5_weigh 90 = .ok (.iaload, 1) := by decide +kernel
theorem dX5_weigh_91 : decode cX5_weigh 91 = .ok (.aload 11, 2) := by decide +kernel
theorem dX5_weigh_93 : decode cX5_weigh 93 = .ok (.iconst 0, 1) := by decide +kernel
theorem dX5_weigh_94 : decode cX5_weigh 94 = .ok (.iaload, 1) := by decide +kernel
theorem dX5_weigh_95 : decode cX5_weigh 95 = .ok (.imul, 1) := by decide +kernel
theorem dX5_weigh_96 : decode cX5_weigh 96 = .ok (.istore 12, 2) := by decide +kernel
theorem dX5_weigh_98 : decode cX5_weigh 98 = .ok (.aload_n 3, 1) := by decide +kernel
theorem dX5_weigh_99 : decode cX5_weigh 99 = .ok (.getfield 100, 3) := by decide +kernel
theorem dX5_weigh_102 : decode cX5_weigh 102 = .ok (.iload 9, 2) := by decide +kernel
theorem dX5_weigh_104 : decode cX5_weigh 104 = .ok (.iload 8, 2) := by decide +kernel
theorem dX5_weigh_106 : decode cX5_weigh 106 = .ok (.isub, 1) := by decide +kernel
theorem dX5_weigh_107 : decode cX5_weigh 107 = .ok (.iload 7, 2) := by decide +kernel
theorem dX5_weigh_109 : decode cX5_weigh 109 = .ok (.ifCond .eq 19, 3) := by decide +kernel
theorem dX5_weigh_112 : decode cX5_weigh 112 = .ok (.aload_n 0, 1) := by decide +kernel
theorem dX5_weigh_113 : decode cX5_weigh 113 = .ok (.getfield 27, 3) := by decide +kernel
theorem dX5_weigh_116 : decode cX5_weigh 116 = .ok (.iload 10, 2) := by decide +kernel
theorem dX5_weigh_118 : decode cX5_weigh 118 = .ok (.baload, 1) := by decide +kernel
theorem dX5_weigh_119 : decode cX5_weigh 119 = .ok (.ifCond .ne 9, 3) := by decide +kernel
theorem dX5_weigh_122 : decode cX5_weigh 122 = .ok (.iload 12, 2) := by decide +kernel
theorem dX5_weigh_124 : decode cX5_weigh 124 = .ok (.i2l, 1) := by decide +kernel
theorem dX5_weigh_125 : decode cX5_weigh 125 = .ok (.goto 4, 3) := by decide +kernel
theorem dX5_weigh_128 : decode cX5_weigh 128 = .ok (.lconst 0, 1) := by decide +kernel
theorem dX5_weigh_129 : decode cX5_weigh 129 = .ok (.lastore, 1) := by decide +kernel
theorem dX5_weigh_130 : decode cX5_weigh 130 = .ok (.iinc 9 1, 3) := by decide +kernel
theorem dX5_weigh_133 : decode cX5_weigh 133 = .ok (.goto (-90), 3) := by decide +kernel
theorem dX5_weigh_136 : decode cX5_weigh 136 = .ok (.return_, 1) := by decide +kernel
theorem dX5_resize_0 : decode cX5_resize 0 = .ok (.aload_n 2, 1) := by decide +kernel
theorem dX5_resize_1 : decode cX5_resize 1 = .ok (.getfield 67, 3) := by decide +kernel
theorem dX5_resize_4 : decode cX5_resize 4 = .ok (.iload 4, 2) := by decide +kernel
theorem dX5_resize_6 : decode cX5_resize 6 = .ok (.iaload, 1) := by decide +kernel
theorem dX5_resize_7 : decode cX5_resize 7 = .ok (.istore 6, 2) := by decide +kernel
theorem dX5_resize_9 : decode cX5_resize 9 = .ok (.iconst 0, 1) := by decide +kernel
theorem dX5_resize_10 : decode cX5_resize 10 = .ok (.istore 7, 2) := by decide +kernel
theorem dX5_resize_12 : decode cX5_resize 12 = .ok (.iload 6, 2) := by decide +kernel
theorem dX5_resize_14 : decode cX5_resize 14 = .ok (.istore 8, 2) := by decide +kernel
theorem dX5_resize_16 : decode cX5_resize 16 = .ok (.iload 8, 2) := by decide +kernel
theorem dX5_resize_18 : decode cX5_resize 18 = .ok (.aload_n 2, 1) := by decide +kernel
theorem dX5_resize_19 : decode cX5_resize 19 = .ok (.getfield 67, 3) := by decide +kernel
theorem dX5_resize_22 : decode cX5_resize 22 = .ok (.iload 4, 2) := by decide +kernel
theorem dX5_resize_24 : decode cX5_resize 24 = .ok (.iconst 1, 1) := by decide +kernel
theorem dX5_resize_25 : decode cX5_resize 25 = .ok (.iadd, 1) := by decide +kernel
theorem dX5_resize_26 : decode cX5_resize 26 = .ok (.iaload, 1) := by decide +kernel
theorem dX5_resize_27 : decode cX5_resize 27 = .ok (.if_icmp .ge 109, 3) := by decide +kernel
theorem dX5_resize_30 : decode cX5_resize 30 = .ok (.aload_n 2, 1) := by decide +kernel
theorem dX5_resize_31 : decode cX5_resize 31 = .ok (.getfield 84, 3) := by decide +kernel
theorem dX5_resize_34 : decode cX5_resize 34 = .ok (.iload 8, 2) := by decide +kernel
theorem dX5_resize_36 : decode cX5_resize 36 = .ok (.iaload, 1) := by decide +kernel
theorem dX5_resize_37 : decode cX5_resize 37 = .ok (.istore 9, 2) := by decide +kernel
theorem dX5_resize_39 : decode cX5_resize 39 = .ok (.aload_n 0, 1) := by decide +kernel
theorem dX5_resize_40 : decode cX5_resize 40 = .ok (.getfield 27, 3) := by decide +kernel
theorem dX5_resize_43 : decode cX5_resize 43 = .ok (.iload 9, 2) := by decide +kernel
theorem dX5_resize_45 : decode cX5_resize 45 = .ok (.baload, 1) := by decide +kernel
theorem dX5_resize_46 : decode cX5_resize 46 = .ok (.ifCond .ne 84, 3) := by decide +kernel
theorem dX5_resize_49 : decode cX5_resize 49 = .ok (.aload_n 3, 1) := by decide +kernel
theorem dX5_resize_50 : decode cX5_resize 50 = .ok (.getfield 104, 3) := by decide +kernel
theorem dX5_resize_53 : decode cX5_resize 53 = .ok (.iload 8, 2) := by decide +kernel
theorem dX5_resize_55 : decode cX5_resize 55 = .ok (.iload 6, 2) := by decide +kernel
theorem dX5_resize_57 : decode cX5_resize 57 = .ok (.isub, 1) := by decide +kernel
theorem dX5_resize_58 : decode cX5_resize 58 = .ok (.iaload, 1) := by decide +kernel
theorem dX5_resize_59 : decode cX5_resize 59 = .ok (.istore 10, 2) := by decide +kernel
theorem dX5_resize_61 : decode cX5_resize 61 = .ok (.aload_n 1, 1) := by decide +kernel
theorem dX5_resize_62 : decode cX5_resize 62 = .ok (.getfield 96, 3) := by decide +kernel
theorem dX5_resize_65 : decode cX5_resize 65 = .ok (.iload 9, 2) := by decide +kernel
theorem dX5_resize_67 : decode cX5_resize 67 = .ok (.aaload, 1) := by decide +kernel
theorem dX5_resize_68 : decode cX5_resize 68 = .ok (.iconst 0, 1) := by decide +kernel
theorem dX5_resize_69 : decode cX5_resize 69 = .ok (.iaload, 1) := by decide +kernel
theorem dX5_resize_70 : decode cX5_resize 70 = .ok (.iload 5, 2) := by decide +kernel
theorem dX5_resize_72 : decode cX5_resize 72 = .ok (.ifCond .eq 8, 3) := by decide +kernel
theorem dX5_resize_75 : decode cX5_resize 75 = .ok (.iload 10, 2) := by decide +kernel
theorem dX5_resize_77 : decode cX5_resize 77 = .ok (.goto 6, 3) := by decide +kernel
theorem dX5_resize_80 : decode cX5_resize 80 = .ok (.iload 10, 2) := by decide +kernel
theorem dX5_resize_82 : decode cX5_resize 82 = .ok (.ineg, 1) := by decide +kernel
theorem dX5_resize_83 : decode cX5_resize 83 = .ok (.iadd, 1) := by decide +kernel
theorem dX5_resize_84 : decode cX5_resize 84 = .ok (.istore 11, 2) := by decide +kernel
theorem dX5_resize_86 : decode cX5_resize 86 = .ok (.aload_n 0, 1) := by decide +kernel
theorem dX5_resize_87 : decode cX5_resize 87 = .ok (.getfield 9, 3) := by decide +kernel
theorem dX5_resize_90 : decode cX5_resize 90 = .ok (.iload 9, 2) := by decide +kernel
theorem dX5_resize_92 : decode cX5_resize 92 = .ok (.aload_n 1, 1) := by decide +kernel
theorem dX5_resize_93 : decode cX5_resize 93 = .ok (.iload 9, 2) := by decide +kernel
theorem dX5_resize_95 : decode cX5_resize 95 = .ok (.iload 11, 2) := by decide +kernel
theorem dX5_resize_97 : decode cX5_resize 97 = .ok (.invokevirtual 107, 3) := by decide +kernel
theorem dX5_resize_100 : decode cX5_resize 100 = .ok (.iastore, 1) := by decide +kernel
theorem dX5_resize_101 : decode cX5_resize 101 = .ok (.aload_n 0, 1) := by decide +kernel
theorem dX5_resize_102 : decode cX5_resize 102 = .ok (.getfield 24, 3) := by decide +kernel
theorem dX5_resize_105 : decode cX5_resize 105 = .ok (.iload 9, 2) := by decide +kernel
theorem dX5_resize_107 : decode cX5_resize 107 = .ok (.aload_n 0, 1) := by decide +kernel
theorem dX5_resize_108 : decode cX5_resize 108 = .ok (.getfield 9, 3) := by decide +kernel
theorem dX5_resize_111 : decode cX5_resize 111 = .ok (.iload 9, 2) := by decide +kernel
theorem dX5_resize_113 : decode cX5_resize 113 = .ok (.iaload, 1) := by decide +kernel
theorem dX5_resize_114 : decode cX5_resize 114 = .ok (.iload 11, 2) := by decide +kernel
theorem dX5_resize_116 : decode cX5_resize 116 = .ok (.isub, 1) := by decide +kernel
theorem dX5_resize_117 : decode cX5_resize 117 = .ok (.iastore, 1) := by decide +kernel
theorem dX5_resize_118 : decode cX5_resize 118 = .ok (.iload 7, 2) := by decide +kernel
theorem dX5_resize_120 : decode cX5_resize 120 = .ok (.aload_n 0, 1) := by decide +kernel
theorem dX5_resize_121 : decode cX5_resize 121 = .ok (.getfield 24, 3) := by decide +kernel
theorem dX5_resize_124 : decode cX5_resize 124 = .ok (.iload 9, 2) := by decide +kernel
theorem dX5_resize_126 : decode cX5_resize 126 = .ok (.iaload, 1) := by decide +kernel
theorem dX5_resize_127 : decode cX5_resize 127 = .ok (.iadd, 1) := by decide +kernel
theorem dX5_resize_128 : decode cX5_resize 128 = .ok (.istore 7, 2) := by decide +kernel
theorem dX5_resize_130 : decode cX5_resize 130 = .ok (.iinc 8 1, 3) := by decide +kernel
theorem dX5_resize_133 : decode cX5_resize 133 = .ok (.goto (-117), 3) := by decide +kernel
theorem dX5_resize_136 : decode cX5_resize 136 = .ok (.iload 7, 2) := by decide +kernel
theorem dX5_resize_138 : decode cX5_resize 138 = .ok (.ireturn, 1) := by decide +kernel
theorem dX5_freeze_0 : decode cX5_freeze 0 = .ok (.aload_n 1, 1) := by decide +kernel
theorem dX5_freeze_1 : decode cX5_freeze 1 = .ok (.getfield 67, 3) := by decide +kernel
theorem dX5_freeze_4 : decode cX5_freeze 4 = .ok (.iload_n 2, 1) := by decide +kernel
theorem dX5_freeze_5 : decode cX5_freeze 5 = .ok (.iaload, 1) := by decide +kernel
theorem dX5_freeze_6 : decode cX5_freeze 6 = .ok (.istore 4, 2) := by decide +kernel
theorem dX5_freeze_8 : decode cX5_freeze 8 = .ok (.iload 4, 2) := by decide +kernel
theorem dX5_freeze_10 : decode cX5_freeze 10 = .ok (.aload_n 1, 1) := by decide +kernel
theorem dX5_freeze_11 : decode cX5_freeze 11 = .ok (.getfield 67, 3) := by decide +kernel
theorem dX5_freeze_14 : decode cX5_freeze 14 = .ok (.iload_n 2, 1) := by decide +kernel
theorem dX5_freeze_15 : decode cX5_freeze 15 = .ok (.iconst 1, 1) := by decide +kernel
theorem dX5_freeze_16 : decode cX5_freeze 16 = .ok (.iadd, 1) := by decide +kernel
theorem dX5_freeze_17 : decode cX5_freeze 17 = .ok (.iaload, 1) := by decide +kernel
theorem dX5_freeze_18 : decode cX5_freeze 18 = .ok (.if_icmp .ge 88, 3) := by decide +kernel
theorem dX5_freeze_21 : decode cX5_freeze 21 = .ok (.aload_n 1, 1) := by decide +kernel
theorem dX5_freeze_22 : decode cX5_freeze 22 = .ok (.getfield 84, 3) := by decide +kernel
theorem dX5_freeze_25 : decode cX5_freeze 25 = .ok (.iload 4, 2) := by decide +kernel
theorem dX5_freeze_27 : decode cX5_freeze 27 = .ok (.iaload, 1) := by decide +kernel
theorem dX5_freeze_28 : decode cX5_freeze 28 = .ok (.istore 5, 2) := by decide +kernel
theorem dX5_freeze_30 : decode cX5_freeze 30 = .ok (.iload_n 3, 1) := by decide +kernel
theorem dX5_freeze_31 : decode cX5_freeze 31 = .ok (.ifCond .le 21, 3) := by decide +kernel
theorem dX5_freeze_34 : decode cX5_freeze 34 = .ok (.aload_n 0, 1) := by decide +kernel
theorem dX5_freeze_35 : decode cX5_freeze 35 = .ok (.getfield 24, 3) := by decide +kernel
theorem dX5_freeze_38 : decode cX5_freeze 38 = .ok (.iload 5, 2) := by decide +kernel
theorem dX5_freeze_40 : decode cX5_freeze 40 = .ok (.iaload, 1) := by decide +kernel
theorem dX5_freeze_41 : decode cX5_freeze 41 = .ok (.ifCond .le 7, 3) := by decide +kernel
theorem dX5_freeze_44 : decode cX5_freeze 44 = .ok (.iconst 1, 1) := by decide +kernel
theorem dX5_freeze_45 : decode cX5_freeze 45 = .ok (.goto 22, 3) := by decide +kernel
theorem dX5_freeze_48 : decode cX5_freeze 48 = .ok (.iconst 0, 1) := by decide +kernel
theorem dX5_freeze_49 : decode cX5_freeze 49 = .ok (.goto 18, 3) := by decide +kernel
theorem dX5_freeze_52 : decode cX5_freeze 52 = .ok (.aload_n 0, 1) := by decide +kernel
theorem dX5_freeze_53 : decode cX5_freeze 53 = .ok (.getfield 24, 3) := by decide +kernel
theorem dX5_freeze_56 : decode cX5_freeze 56 = .ok (.iload 5, 2) := by decide +kernel
theorem dX5_freeze_58 : decode cX5_freeze 58 = .ok (.iaload, 1) := by decide +kernel
theorem dX5_freeze_59 : decode cX5_freeze 59 = .ok (.ifCond .ge 7, 3) := by decide +kernel
theorem dX5_freeze_62 : decode cX5_freeze 62 = .ok (.iconst 1, 1) := by decide +kernel
theorem dX5_freeze_63 : decode cX5_freeze 63 = .ok (.goto 4, 3) := by decide +kernel
theorem dX5_freeze_66 : decode cX5_freeze 66 = .ok (.iconst 0, 1) := by decide +kernel
theorem dX5_freeze_67 : decode cX5_freeze 67 = .ok (.istore 6, 2) := by decide +kernel
theorem dX5_freeze_69 : decode cX5_freeze 69 = .ok (.aload_n 0, 1) := by decide +kernel
theorem dX5_freeze_70 : decode cX5_freeze 70 = .ok (.getfield 27, 3) := by decide +kernel
theorem dX5_freeze_73 : decode cX5_freeze 73 = .ok (.iload 5, 2) := by decide +kernel
theorem dX5_freeze_75 : decode cX5_freeze 75 = .ok (.aload_n 0, 1) := by decide +kernel
theorem dX5_freeze_76 : decode cX5_freeze 76 = .ok (.getfield 27, 3) := by decide +kernel
theorem dX5_freeze_79 : decode cX5_freeze 79 = .ok (.iload 5, 2) := by decide +kernel
theorem dX5_freeze_81 : decode cX5_freeze 81 = .ok (.baload, 1) := by decide +kernel
theorem dX5_freeze_82 : decode cX5_freeze 82 = .ok (.ifCond .ne 12, 3) := by decide +kernel
theorem dX5_freeze_85 : decode cX5_freeze 85 = .ok (.iload_n 3, 1) := by decide +kernel
theorem dX5_freeze_86 : decode cX5_freeze 86 = .ok (.ifCond .eq 8, 3) := by decide +kernel
theorem dX5_freeze_89 : decode cX5_freeze 89 = .ok (.iload 6, 2) := by decide +kernel
theorem dX5_freeze_91 : decode cX5_freeze 91 = .ok (.ifCond .eq 7, 3) := by decide +kernel
theorem dX5_freeze_94 : decode cX5_freeze 94 = .ok (.iconst 1, 1) := by decide +kernel
theorem dX5_freeze_95 : decode cX5_freeze 95 = .ok (.goto 4, 3) := by decide +kernel
theorem dX5_freeze_98 : decode cX5_freeze 98 = .ok (.iconst 0, 1) := by decide +kernel
theorem dX5_freeze_99 : decode cX5_freeze 99 = .ok (.bastore, 1) := by decide +kernel
theorem dX5_freeze_100 : decode cX5_freeze 100 = .ok (.iinc 4 1, 3) := by decide +kernel
theorem dX5_freeze_103 : decode cX5_freeze 103 = .ok (.goto (-95), 3) := by decide +kernel
theorem dX5_freeze_106 : decode cX5_freeze 106 = .ok (.return_, 1) := by decide +kernel
theorem dX5_findPositions_0 : decode cX5_findPositions 0 = .ok (.aload_n 2, 1) := by decide +kernel
theorem dX5_findPositions_1 : decode cX5_findPositions 1 = .ok (.getfield 67, 3) := by decide +kernel
theorem dX5_findPositions_4 : decode cX5_findPositions 4 = .ok (.iload_n 3, 1) := by decide +kernel
theorem dX5_findPositions_5 : decode cX5_findPositions 5 = .ok (.iaload, 1) := by decide +kernel
theorem dX5_findPositions_6 : decode cX5_findPositions 6 = .ok (.istore 4, 2) := by decide +kernel
theorem dX5_findPositions_8 : decode cX5_findPositions 8 = .ok (.aload_n 2, 1) := by decide +kernel
theorem dX5_findPositions_9 : decode cX5_findPositions 9 = .ok (.getfield 67, 3) := by decide +kernel
theorem dX5_findPositions_12 : decode cX5_findPositions 12 = .ok (.iload_n 3, 1) := by decide +kernel
theorem dX5_findPositions_13 : decode cX5_findPositions 13 = .ok (.iconst 1, 1) := by decide +kernel
theorem dX5_findPositions_14 : decode cX5_findPositions 14 = .ok (.iadd, 1) := by decide +kernel
theorem dX5_findPositions_15 : decode cX5_findPositions 15 = .ok (.iaload, 1) := by decide +kernel
theorem dX5_findPositions_16 : decode cX5_findPositions 16 = .ok (.iload 4, 2) := by decide +kernel
theorem dX5_findPositions_18 : decode cX5_findPositions 18 = .ok (.isub, 1) := by decide +kernel
theorem dX5_findPositions_19 : decode cX5_findPositions 19 = .ok (.istore 5, 2) := by decide +kernel
theorem dX5_findPositions_21 : decode cX5_findPositions 21 = .ok (.iconst 0, 1) := by decide +kernel
theorem dX5_findPositions_22 : decode cX5_findPositions 22 = .ok (.istore 6, 2) := by decide +kernel
theorem dX5_findPositions_24 : decode cX5_findPositions 24 = .ok (.iconst 0, 1) := by decide +kernel
theorem dX5_findPositions_25 : decode cX5_findPositions 25 = .ok (.istore 7, 2) := by decide +kernel
theorem dX5_findPositions_27 : decode cX5_findPositions 27 = .ok (.iload 7, 2) := by decide +kernel
theorem dX5_findPositions_29 : decode cX5_findPositions 29 = .ok (.iload 5, 2) := by decide +kernel
theorem dX5_findPositions_31 : decode cX5_findPositions 31 = .ok (.if_icmp .ge 96, 3) := by decide +kernel
theorem dX5_findPositions_34 : decode cX5_findPositions 34 = .ok (.aload_n 2, 1) := by decide +kernel
theorem dX5_findPositions_35 : decode cX5_findPositions 35 = .ok (.getfield 84, 3) := by decide +kernel
theorem dX5_findPositions_38 : decode cX5_findPositions 38 = .ok (.iload 4, 2) := by decide +kernel
theorem dX5_findPositions_40 : decode cX5_findPositions 40 = .ok (.iload 7, 2) := by decide +kernel
theorem dX5_findPositions_42 : decode cX5_findPositions 42 = .ok (.iadd, 1) := by decide +kernel
theorem dX5_findPositions_43 : decode cX5_findPositions 43 = .ok (.iaload, 1) := by decide +kernel
theorem dX5_findPositions_44 : decode cX5_findPositions 44 = .ok (.istore 8, 2) := by decide +kernel
theorem dX5_findPositions_46 : decode cX5_findPositions 46 = .ok (.iload 6, 2) := by decide +kernel
theorem dX5_findPositions_48 : decode cX5_findPositions 48 = .ok (.aload_n 1, 1) := by decide +kernel
theorem dX5_findPositions_49 : decode cX5_findPositions 49 = .ok (.getfield 111, 3) := by decide +kernel
theorem dX5_findPositions_52 : decode cX5_findPositions 52 = .ok (.iconst 2, 1) := by decide +kernel
theorem dX5_findPositions_53 : decode cX5_findPositions 53 = .ok (.iaload, 1) := by decide +kernel
theorem dX5_findPositions_54 : decode cX5_findPositions 54 = .ok (.aload_n 0, 1) := by decide +kernel
theorem dX5_findPositions_55 : decode cX5_findPositions 55 = .ok (.getfield 21, 3) := by decide +kernel
theorem dX5_findPositions_58 : decode cX5_findPositions 58 = .ok (.iload_n 3, 1) := by decide +kernel
theorem dX5_findPositions_59 : decode cX5_findPositions 59 = .ok (.iaload, 1) := by decide +kernel
theorem dX5_findPositions_60 : decode cX5_findPositions 60 = .ok (.iload 7, 2) := by decide +kernel
theorem dX5_findPositions_62 : decode cX5_findPositions 62 = .ok (.iload 5, 2) := by decide +kernel
theorem dX5_findPositions_64 : decode cX5_findPositions 64 = .ok (.invokestatic 114, 3) := by decide +kernel
theorem dX5_findPositions_67 : decode cX5_findPositions 67 = .ok (.iadd, 1) := by decide +kernel
theorem dX5_findPositions_68 : decode cX5_findPositions 68 = .ok (.istore 9, 2) := by decide +kernel
theorem dX5_findPositions_70 : decode cX5_findPositions 70 = .ok (.aload_n 0, 1) := by decide +kernel
theorem dX5_findPositions_71 : decode cX5_findPositions 71 = .ok (.getfield 15, 3) := by decide +kernel
theorem dX5_findPositions_74 : decode cX5_findPositions 74 = .ok (.iload 8, 2) := by decide +kernel
theorem dX5_findPositions_76 : decode cX5_findPositions 76 = .ok (.aload_n 1, 1) := by decide +kernel
theorem dX5_findPositions_77 : decode cX5_findPositions 77 = .ok (.invokevirtual 118, 3) := by decide +kernel
theorem dX5_findPositions_80 : decode cX5_findPositions 80 = .ok (.ifCond .eq 21, 3) := by decide +kernel
theorem dX5_findPositions_83 : decode cX5_findPositions 83 = .ok (.aload_n 1, 1) := by decide +kernel
theorem dX5_findPositions_84 : decode cX5_findPositions 84 = .ok (.getfield 122, 3) := by decide +kernel
theorem dX5_findPositions_87 : decode cX5_findPositions 87 = .ok (.iload 9, 2) := by decide +kernel
theorem dX5_findPositions_89 : decode cX5_findPositions 89 = .ok (.isub, 1) := by decide +kernel
theorem dX5_findPositions_90 : decode cX5_findPositions 90 = .ok (.aload_n 0, 1) := by decide +kernel
theorem dX5_findPositions_91 : decode cX5_findPositions 91 = .ok (.getfield 9, 3) := by decide +kernel
theorem dX5_findPositions_94 : decode cX5_findPositions 94 = .ok (.iload 8, 2) := by decide +kernel
theorem dX5_findPositions_96 : decode cX5_findPositions 96 = .ok (.iaload, 1) := by decide +kernel
theorem dX5_findPositions_97 : decode cX5_findPositions 97 = .ok (.isub, 1) := by decide +kernel
theorem dX5_findPositions_98 : decode cX5_findPositions 98 = .ok (.goto 5, 3) := by decide +kernel
theorem dX5_findPositions_101 : decode cX5_findPositions 101 = .ok (.iload 9, 2) := by decide +kernel
theorem dX5_findPositions_103 : decode cX5_findPositions 103 = .ok (.iastore, 1) := by decide +kernel
theorem dX5_findPositions_104 : decode cX5_findPositions 104 = .ok (.iload 6, 2) := by decide +kernel
theorem dX5_findPositions_106 : decode cX5_findPositions 106 = .ok (.aload_n 0, 1) := by decide +kernel
theorem dX5_findPositions_107 : decode cX5_findPositions 107 = .ok (.getfield 9, 3) := by decide +kernel
theorem dX5_findPositions_110 : decode cX5_findPositions 110 = .ok (.iload 8, 2) := by decide +kernel
theorem dX5_findPositions_112 : decode cX5_findPositions 112 = .ok (.iaload, 1) := by decide +kernel
theorem dX5_findPositions_113 : decode cX5_findPositions 113 = .ok (.aload_n 1, 1) := by decide +kernel
theorem dX5_findPositions_114 : decode cX5_findPositions 114 = .ok (.getfield 125, 3) := by decide +kernel
theorem dX5_findPositions_117 : decode cX5_findPositions 117 = .ok (.iadd, 1) := by decide +kernel
theorem dX5_findPositions_118 : decode cX5_findPositions 118 = .ok (.iadd, 1) := by decide +kernel
theorem dX5_findPositions_119 : decode cX5_findPositions 119 = .ok (.istore 6, 2) := by decide +kernel
theorem dX5_findPositions_121 : decode cX5_findPositions 121 = .ok (.iinc 7 1, 3) := by decide +kernel
theorem dX5_findPositions_124 : decode cX5_findPositions 124 = .ok (.goto (-97), 3) := by decide +kernel
theorem dX5_findPositions_127 : decode cX5_findPositions 127 = .ok (.return_, 1) := by decide +kernel
theorem dX6_init_0 : decode cX6_init 0 = .ok (.aload_n 0, 1) := by decide +kernel
theorem dX6_init_1 : decode cX6_init 1 = .ok (.invokespecial 1, 3) := by decide +kernel
theorem dX6_init_4 : decode cX6_init 4 = .ok (.aload_n 0, 1) := by decide +kernel
theorem dX6_init_5 : decode cX6_init 5 = .ok (.new 7, 3) := by decide +kernel
theorem dX6_init_8 : decode cX6_init 8 = .ok (.dup, 1) := by decide +kernel
theorem dX6_init_9 : decode cX6_init 9 = .ok (.invokespecial 9, 3) := by decide +kernel
theorem dX6_init_12 : decode cX6_init 12 = .ok (.putfield 10, 3) := by decide +kernel
theorem dX6_init_15 : decode cX6_init 15 = .ok (.aload_n 0, 1) := by decide +kernel
theorem dX6_init_16 : decode cX6_init 16 = .ok (.new 7, 3) := by decide +kernel
theorem dX6_init_19 : decode cX6_init 19 = .ok (.dup, 1) := by decide +kernel
theorem dX6_init_20 : decode cX6_init 20 = .ok (.invokespecial 9, 3) := by decide +kernel
theorem dX6_init_23 : decode cX6_init 23 = .ok (.putfield 16, 3) := by decide +kernel
theorem dX6_init_26 : decode cX6_init 26 = .ok (.aload_n 0, 1) := by decide +kernel
theorem dX6_init_27 : decode cX6_init 27 = .ok (.iconst 0, 1) := by decide +kernel
theorem dX6_init_28 : decode cX6_init 28 = .ok (.putfield 19, 3) := by decide +kernel
theorem dX6_init_31 : decode cX6_init 31 = .ok (.aload_n 0, 1) := by decide +kernel
theorem dX6_init_32 : decode cX6_init 32 = .ok (.new 23, 3) := by decide +kernel
theorem dX6_init_35 : decode cX6_init 35 = .ok (.dup, 1) := by decide +kernel
theorem dX6_init_36 : decode cX6_init 36 = .ok (.invokespecial 25, 3) := by decide +kernel
theorem dX6_init_39 : decode cX6_init 39 = .ok (.putfield 26, 3) := by decide +kernel
theorem dX6_init_42 : decode cX6_init 42 = .ok (.aload_n 0, 1) := by decide +kernel
theorem dX6_init_43 : decode cX6_init 43 = .ok (.new 30, 3) := by decide +kernel
theorem dX6_init_46 : decode cX6_init 46 = .ok (.dup, 1) := by decide +kernel
theorem dX6_init_47 : decode cX6_init 47 = .ok (.invokespecial 32, 3) := by decide +kernel
theorem dX6_init_50 : decode cX6_init 50 = .ok (.putfield 33, 3) := by decide +kernel
theorem dX6_init_53 : decode cX6_init 53 = .ok (.aload_n 0, 1) := by decide +kernel
theorem dX6_init_54 : decode cX6_init 54 = .ok (.new 37, 3) := by decide +kernel
theorem dX6_init_57 : decode cX6_init 57 = .ok (.dup, 1) := by decide +kernel
theorem dX6_init_58 : decode cX6_init 58 = .ok (.invokespecial 39, 3) := by decide +kernel
theorem dX6_init_61 : decode cX6_init 61 = .ok (.putfield 40, 3) := by decide +kernel
theorem dX6_init_64 : decode cX6_init 64 = .ok (.aload_n 0, 1) := by decide +kernel
theorem dX6_init_65 : decode cX6_init 65 = .ok (.new 44, 3) := by decide +kernel
theorem dX6_init_68 : decode cX6_init 68 = .ok (.dup, 1) := by decide +kernel
theorem dX6_init_69 : decode cX6_init 69 = .ok (.invokespecial 46, 3) := by decide +kernel
theorem dX6_init_72 : decode cX6_init 72 = .ok (.putfield 47, 3) := by decide +kernel
theorem dX6_init_75 : decode cX6_init 75 = .ok (.aload_n 0, 1) := by decide +kernel
theorem dX6_init_76 : decode cX6_init 76 = .ok (.new 51, 3) := by decide +kernel
theorem dX6_init_79 : decode cX6_init 79 = .ok (.dup, 1) := by decide +kernel
theorem dX6_init_80 : decode cX6_init 80 = .ok (.invokespecial 53, 3) := by decide +kernel
theorem dX6_init_83 : decode cX6_init 83 = .ok (.putfield 54, 3) := by decide +kernel
theorem dX6_init_86 : decode cX6_init 86 = .ok (.return_, 1) := by decide +kernel
theorem dX6_setMainSize_0 : decode cX6_setMainSize 0 = .ok (.iload_n 1, 1) := by decide +kernel
theorem dX6_setMainSize_1 : decode cX6_setMainSize 1 = .ok (.iconst 0, 1) := by decide +kernel
theorem dX6_setMainSize_2 : decode cX6_setMainSize 2 = .ok (.sipush 9999, 3) := by decide +kernel
theorem dX6_setMainSize_5 : decode cX6_setMainSize 5 = .ok (.invokestatic 58, 3) := by decide +kernel
theorem dX6_setMainSize_8 : decode cX6_setMainSize 8 = .ok (.ifCond .ne 13, 3) := by decide +kernel
theorem dX6_setMainSize_11 : decode cX6_setMainSize 11 = .ok (.new 62, 3) := by decide +kernel
theorem dX6_setMainSize_14 : decode cX6_setMainSize 14 = .ok (.dup, 1) := by decide +kernel
theorem dX6_setMainSize_15 : decode cX6_setMainSize 15 = .ok (.ldc 64, 2) := by decide +kernel
theorem dX6_setMainSize_17 : decode cX6_setMainSize 17 = .ok (.invokespecial 66, 3) := by decide +kernel
theorem dX6_setMainSize_20 : decode cX6_setMainSize 20 = .ok (.athrow, 1) := by decide +kernel
theorem dX6_setMainSize_21 : decode cX6_setMainSize 21 = .ok (.aload_n 0, 1) := by decide +kernel
theorem dX6_setMainSize_22 : decode cX6_setMainSize 22 = .ok (.getfield 10, 3) := by decide +kernel
theorem dX6_setMainSize_25 : decode cX6_setMainSize 25 = .ok (.getfield 69, 3) := by decide +kernel
theorem dX6_setMainSize_28 : decode cX6_setMainSize 28 = .ok (.istore_n 2, 1) := by decide +kernel
theorem dX6_setMainSize_29 : decode cX6_setMainSize 29 = .ok (.aload_n 0, 1) := by decide +kernel
theorem dX6_setMainSize_30 : decode cX6_setMainSize 30 = .ok (.getfield 10, 3) := by decide +kernel
theorem dX6_setMainSize_33 : decode cX6_setMainSize 33 = .ok (.iload_n 1, 1) := by decide +kernel
theorem dX6_setMainSize_34 : decode cX6_setMainSize 34 = .ok (.putfield 69, 3) := by decide +kernel
theorem dX6_setMainSize_37 : decode cX6_setMainSize 37 = .ok (.iload_n 2, 1) := by decide +kernel
theorem dX6_setMainSize_38 : decode cX6_setMainSize 38 = .ok (.ireturn, 1) := by decide +kernel
theorem dX6_setCrossSize_0 : decode cX6_setCrossSize 0 = .ok (.iload_n 1, 1) := by decide +kernel
theorem dX6_setCrossSize_1 : decode cX6_setCrossSize 1 = .ok (.iconst (-1), 1) := by decide +kernel
theorem dX6_setCrossSize_2 : decode cX6_setCrossSize 2 = .ok (.if_icmp .eq 24, 3) := by decide +kernel
theorem dX6_setCrossSize_5 : decode cX6_setCrossSize 5 = .ok (.iload_n 1, 1) := by decide +kernel
theorem dX6_setCrossSize_6 : decode cX6_setCrossSize 6 = .ok (.iconst 0, 1) := by decide +kernel
theorem dX6_setCrossSize_7 : decode cX6_setCrossSize 7 = .ok (.sipush 9999, 3) := by decide +kernel
theorem dX6_setCrossSize_10 : decode cX6_setCrossSize 10 = .ok (.invokestatic 58, 3) := by decide +kernel
theorem dX6_setCrossSize_13 : decode cX6_setCrossSize 13 = .ok (.ifCond .ne 13, 3) := by decide +kernel
theorem dX6_setCrossSize_16 : decode cX6_setCrossSize 16 = .ok (.new 62, 3) := by decide +kernel
theorem dX6_setCrossSize_19 : decode cX6_setCrossSize 19 = .ok (.dup, 1) := by decide +kernel
theorem dX6_setCrossSize_20 : decode cX6_setCrossSize 20 = .ok (.ldc 73, 2) := by decide +kernel
theorem dX6_setCrossSize_22 : decode cX6_setCrossSize 22 = .ok (.invokespecial 66, 3) := by decide +kernel
theorem dX6_setCrossSize_25 : decode cX6_setCrossSize 25 = .ok (.athrow, 1) := by decide +kernel
theorem dX6_setCrossSize_26 : decode cX6_setCrossSize 26 = .ok (.aload_n 0, 1) := by decide +kernel
theorem dX6_setCrossSize_27 : decode cX6_setCrossSize 27 = .ok (.getfield 10, 3) := by decide +kernel
theorem dX6_setCrossSize_30 : decode cX6_setCrossSize 30 = .ok (.getfield 75, 3) := by decide +kernel
theorem dX6_setCrossSize_33 : decode cX6_setCrossSize 33 = .ok (.istore_n 2, 1) := by decide +kernel
theorem dX6_setCrossSize_34 : decode cX6_setCrossSize 34 = .ok (.aload_n 0, 1) := by decide +kernel
theorem dX6_setCrossSize_35 : decode cX6_setCrossSize 35 = .ok (.getfield 10, 3) := by decide +kernel
theorem dX6_setCrossSize_38 : decode cX6_setCrossSize 38 = .ok (.iload_n 1, 1) := by decide +kernel
theorem dX6_setCrossSize_39 : decode cX6_setCrossSize 39 = .ok (.putfield 75, 3) := by decide +kernel
theorem dX6_setCrossSize_42 : decode cX6_setCrossSize 42 = .ok (.iload_n 2, 1) := by decide +kernel
theorem dX6_setCrossSize_43 : decode cX6_setCrossSize 43 = .ok (.ireturn, 1) := by decide +kernel
theorem dX6_setGaps_0 : decode cX6_setGaps 0 = .ok (.iload_n 1, 1) := by decide +kernel
theorem dX6_setGaps_1 : decode cX6_setGaps 1 = .ok (.iconst 0, 1) := by decide +kernel
theorem dX6_setGaps_2 : decode cX6_setGaps 2 = .ok (.bipush 99, 2) := by decide +kernel
theorem dX6_setGaps_4 : decode cX6_setGaps 4 = .ok (.invokestatic 58, 3) := by decide +kernel
theorem dX6_setGaps_7 : decode cX6_setGaps 7 = .ok (.ifCond .eq 13, 3) := by decide +kernel
theorem dX6_setGaps_10 : decode cX6_setGaps 10 = .ok (.iload_n 2, 1) := by decide +kernel
theorem dX6_setGaps_11 : decode cX6_setGaps 11 = .ok (.iconst 0, 1) := by decide +kernel
theorem dX6_setGaps_12 : decode cX6_setGaps 12 = .ok (.bipush 99, 2) := by decide +kernel
theorem dX6_setGaps_14 : decode cX6_setGaps 14 = .ok (.invokestatic 58, 3) := by decide +kernel
theorem dX6_setGaps_17 : decode cX6_setGaps 17 = .ok (.ifCond .ne 13, 3) := by decide +kernel
theorem dX6_setGaps_20 : decode cX6_setGaps 20 = .ok (.new 62, 3) := by decide +kernel
theorem dX6_setGaps_23 : decode cX6_setGaps 23 = .ok (.dup, 1) := by decide +kernel
theorem dX6_setGaps_24 : decode cX6_setGaps 24 = .ok (.ldc 78, 2) := by decide +kernel
theorem dX6_setGaps_26 : decode cX6_setGaps 26 = .ok (.invokespecial 66, 3) := by decide +kernel
theorem dX6_setGaps_29 : decode cX6_setGaps 29 = .ok (.athrow, 1) := by decide +kernel
theorem dX6_setGaps_30 : decode cX6_setGaps 30 = .ok (.bipush 100, 2) := by decide +kernel
theorem dX6_setGaps_32 : decode cX6_setGaps 32 = .ok (.aload_n 0, 1) := by decide +kernel
theorem dX6_setGaps_33 : decode cX6_setGaps 33 = .ok (.getfield 10, 3) := by decide +kernel
theorem dX6_setGaps_36 : decode cX6_setGaps 36 = .ok (.getfield 80, 3) := by decide +kernel
theorem dX6_setGaps_39 : decode cX6_setGaps 39 = .ok (.imul, 1) := by decide +kernel
theorem dX6_setGaps_40 : decode cX6_setGaps 40 = .ok (.aload_n 0, 1) := by decide +kernel
theorem dX6_setGaps_41 : decode cX6_setGaps 41 = .ok (.getfield 10, 3) := by decide +kernel
theorem dX6_setGaps_44 : decode cX6_setGaps 44 = .ok (.getfield 83, 3) := by decide +kernel
theorem dX6_setGaps_47 : decode cX6_setGaps 47 = .ok (.iadd, 1) := by decide +kernel
theorem dX6_setGaps_48 : decode cX6_setGaps 48 = .ok (.istore_n 3, 1) := by decide +kernel
theorem dX6_setGaps_49 : decode cX6_setGaps 49 = .ok (.aload_n 0, 1) := by decide +kernel
theorem dX6_setGaps_50 : decode cX6_setGaps 50 = .ok (.getfield 10, 3) := by decide +kernel
theorem dX6_setGaps_53 : decode cX6_setGaps 53 = .ok (.iload_n 1, 1) := by decide +kernel
theorem dX6_setGaps_54 : decode cX6_setGaps 54 = .ok (.putfield 80, 3) := by decide +kernel
theorem dX6_setGaps_57 : decode cX6_setGaps 57 = .ok (.aload_n 0, 1) := by decide +kernel
theorem dX6_setGaps_58 : decode cX6_setGaps 58 = .ok (.getfield 10, 3) := by decide +kernel
theorem dX6_setGaps_61 : decode cX6_setGaps 61 = .ok (.iload_n 2, 1) := by decide +kernel
theorem dX6_setGaps_62 : decode cX6_setGaps 62 = .ok (.putfield 83, 3) := by decide +kernel
theorem dX6_setGaps_65 : decode cX6_setGaps 65 = .ok (.iload_n 3, 1) := by decide +kernel
theorem dX6_setGaps_66 : decode cX6_setGaps 66 = .ok (.ireturn, 1) := by decide +kernel
theorem dX6_setSetting_0 : decode cX6_setSetting 0 = .ok (.iload_n 1, 1) := by decide +kernel
theorem dX6_setSetting_1 : decode cX6_setSetting 1 = .ok (.iconst 0, 1) := by decide +kernel
theorem dX6_setSetting_2 : decode cX6_setSetting 2 = .ok (.iconst 4, 1) := by decide +kernel
theorem dX6_setSetting_3 : decode cX6_setSetting 3 = .ok (.invokestatic 58, 3) := by decide +kernel
theorem dX6_setSetting_6 : decode cX6_setSetting 6 = .ok (.ifCond .ne 13, 3) := by decide +kernel
theorem dX6_setSetting_9 : decode cX6_setSetting 9 = .ok (.new 86, 3) := by decide +kernel
theorem dX6_setSetting_12 : decode cX6_setSetting 12 = .ok (.dup, 1) := by decide +kernel
theorem dX6_setSetting_13 : decode cX6_setSetting 13 = .ok (.ldc 88, 2) := by decide +kernel
theorem dX6_setSetting_15 : decode cX6_setSetting 15 = .ok (.invokespecial 90, 3) := by decide +kernel
theorem dX6_setSetting_18 : decode cX6_setSetting 18 = .ok (.athrow, 1) := by decide +kernel
theorem dX6_setSetting_19 : decode cX6_setSetting 19 = .ok (.iload_n 2, 1) := by decide +kernel
theorem dX6_setSetting_20 : decode cX6_setSetting 20 = .ok (.iconst 0, 1) := by decide +kernel
theorem dX6_setSetting_21 : decode cX6_setSetting 21 = .ok (.getstatic 91, 3) := by decide +kernel
theorem dX6_setSetting_24 : decode cX6_setSetting 24 = .ok (.iload_n 1, 1) := by decide +kernel
theorem dX6_setSetting_25 : decode cX6_setSetting 25 = .ok (.iaload, 1) := by decide +kernel
theorem dX6_setSetting_26 : decode cX6_setSetting 26 = .ok (.invokestatic 58, 3) := by decide +kernel
theorem dX6_setSetting_29 : decode cX6_setSetting 29 = .ok (.ifCond .ne 13, 3) := by decide +kernel
theorem dX6_setSetting_32 : decode cX6_setSetting 32 = .ok (.new 62, 3) := by decide +kernel
theorem dX6_setSetting_35 : decode cX6_setSetting 35 = .ok (.dup, 1) := by decide +kernel
theorem dX6_setSetting_36 : decode cX6_setSetting 36 = .ok (.ldc 95, 2) := by decide +kernel
theorem dX6_setSetting_38 : decode cX6_setSetting 38 = .ok (.invokespecial 66, 3) := by decide +kernel
theorem dX6_setSetting_41 : decode cX6_setSetting 41 = .ok (.athrow, 1) := by decide +kernel
theorem dX6_setSetting_42 : decode cX6_setSetting 42 = .ok (.aload_n 0, 1) := by decide +kernel
theorem dX6_setSetting_43 : decode cX6_setSetting 43 = .ok (.getfield 10, 3) := by decide +kernel
theorem dX6_setSetting_46 : decode cX6_setSetting 46 = .ok (.getfield 97, 3) := by decide +kernel
theorem dX6_setSetting_49 : decode cX6_setSetting 49 = .ok (.iload_n 1, 1) := by decide +kernel
theorem dX6_setSetting_50 : decode cX6_setSetting 50 = .ok (.iaload, 1) := by decide +kernel
theorem dX6_setSetting_51 : decode cX6_setSetting 51 = .ok (.istore_n 3, 1) := by decide +kernel
theorem dX6_setSetting_52 : decode cX6_setSetting 52 = .ok (.aload_n 0, 1) := by decide +kernel
theorem dX6_setSetting_53 : decode cX6_setSetting 53 = .ok (.getfield 10, 3) := by decide +kernel
theorem dX6_setSetting_56 : decode cX6_setSetting 56 = .ok (.getfield 97, 3) := by decide +kernel
theorem dX6_setSetting_59 : decode cX6_setSetting 59 = .ok (.iload_n 1, 1) := by decide +kernel
theorem dX6_setSetting_60 : decode cX6_setSetting 60 = .ok (.iload_n 2, 1) := by decide +kernel
theorem dX6_setSetting_61 : decode cX6_setSetting 61 = .ok (.iastore, 1) := by decide +kernel
theorem dX6_setSetting_62 : decode cX6_setSetting 62 = .ok (.iload_n 3, 1) := by decide +kernel
theorem dX6_setSetting_63 : decode cX6_setSetting 63 = .ok (.ireturn, 1) := by decide +kernel
theorem dX6_addItem_0 : decode cX6_addItem 0 = .ok (.iconst 0, 1) := by decide +kernel
theorem dX6_addItem_1 : decode cX6_addItem 1 = .ok (.iload_n 1, 1) := by decide +kernel
theorem dX6_addItem_2 : decode cX6_addItem 2 = .ok (.invokestatic 100, 3) := by decide +kernel
theorem dX6_addItem_5 : decode cX6_addItem 5 = .ok (.ifCond .eq 11, 3) := by decide +kernel
theorem dX6_addItem_8 : decode cX6_addItem 8 = .ok (.iconst 5, 1) := by decide +kernel
theorem dX6_addItem_9 : decode cX6_addItem 9 = .ok (.iload_n 2, 1) := by decide +kernel
theorem dX6_addItem_10 : decode cX6_addItem 10 = .ok (.invokestatic 100, 3) := by decide +kernel
theorem dX6_addItem_13 : decode cX6_addItem 13 = .ok (.ifCond .ne 13, 3) := by decide +kernel
theorem dX6_addItem_16 : decode cX6_addItem 16 = .ok (.new 62, 3) := by decide +kernel
theorem dX6_addItem_19 : decode cX6_addItem 19 = .ok (.dup, 1) := by decide +kernel
theorem dX6_addItem_20 : decode cX6_addItem 20 = .ok (.ldc 104, 2) := by decide +kernel
theorem dX6_addItem_22 : decode cX6_addItem 22 = .ok (.invokespecial 66, 3) := by decide +kernel
theorem dX6_addItem_25 : decode cX6_addItem 25 = .ok (.athrow, 1) := by decide +kernel
theorem dX6_addItem_26 : decode cX6_addItem 26 = .ok (.aload_n 0, 1) := by decide +kernel
theorem dX6_addItem_27 : decode cX6_addItem 27 = .ok (.invokevirtual 106, 3) := by decide +kernel
theorem dX6_addItem_30 : decode cX6_addItem 30 = .ok (.aload_n 0, 1) := by decide +kernel
theorem dX6_addItem_31 : decode cX6_addItem 31 = .ok (.getfield 10, 3) := by decide +kernel
theorem dX6_addItem_34 : decode cX6_addItem 34 = .ok (.invokevirtual 109, 3) := by decide +kernel
theorem dX6_addItem_37 : decode cX6_addItem 37 = .ok (.astore_n 3, 1) := by decide +kernel
theorem dX6_addItem_38 : decode cX6_addItem 38 = .ok (.aload_n 3, 1) := by decide +kernel
theorem dX6_addItem_39 : decode cX6_addItem 39 = .ok (.iconst 0, 1) := by decide +kernel
theorem dX6_addItem_40 : decode cX6_addItem 40 = .ok (.iload_n 1, 1) := by decide +kernel
theorem dX6_addItem_41 : decode cX6_addItem 41 = .ok (.iastore, 1) := by decide +kernel
theorem dX6_addItem_42 : decode cX6_addItem 42 = .ok (.aload_n 3, 1) := by decide +kernel
theorem dX6_addItem_43 : decode cX6_addItem 43 = .ok (.iconst 5, 1) := by decide +kernel
theorem dX6_addItem_44 : decode cX6_addItem 44 = .ok (.iload_n 2, 1) := by decide +kernel
theorem dX6_addItem_45 : decode cX6_addItem 45 = .ok (.iastore, 1) := by decide +kernel
theorem dX6_addItem_46 : decode cX6_addItem 46 = .ok (.aload_n 0, 1) := by decide +kernel
theorem dX6_addItem_47 : decode cX6_addItem 47 = .ok (.getfield 10, 3) := by decide +kernel
theorem dX6_addItem_50 : decode cX6_addItem 50 = .ok (.invokevirtual 113, 3) := by decide +kernel
theorem dX6_addItem_53 : decode cX6_addItem 53 = .ok (.ireturn, 1) := by decide +kernel
theorem dX6_removeItem_0 : decode cX6_removeItem 0 = .ok (.aload_n 0, 1) := by decide +kernel
theorem dX6_removeItem_1 : decode cX6_removeItem 1 = .ok (.iload_n 1, 1) := by decide +kernel
theorem dX6_removeItem_2 : decode cX6_removeItem 2 = .ok (.invokevirtual 117, 3) := by decide +kernel
theorem dX6_removeItem_5 : decode cX6_removeItem 5 = .ok (.aload_n 0, 1) := by decide +kernel
theorem dX6_removeItem_6 : decode cX6_removeItem 6 = .ok (.getfield 10, 3) := by decide +kernel
theorem dX6_removeItem_9 : decode cX6_removeItem 9 = .ok (.iload_n 1, 1) := by decide +kernel
theorem dX6_removeItem_10 : decode cX6_removeItem 10 = .ok (.invokevirtual 121, 3) := by decide +kernel
theorem dX6_removeItem_13 : decode cX6_removeItem 13 = .ok (.aload_n 0, 1) := by decide +kernel
theorem dX6_removeItem_14 : decode cX6_removeItem 14 = .ok (.getfield 10, 3) := by decide +kernel
theorem dX6_removeItem_17 : decode cX6_removeItem 17 = .ok (.getfield 124, 3) := by decide +kernel
theorem dX6_removeItem_20 : decode cX6_removeItem 20 = .ok (.ireturn, 1) := by decide +kernel
theorem dX6_items_0 : decode cX6_items 0 = .ok (.aload_n 0, 1) := by decide +kernel
theorem dX6_items_1 : decode cX6_items 1 = .ok (.getfield 10, 3) := by decide +kernel
theorem dX6_items_4 : decode cX6_items 4 = .ok (.getfield 124, 3) := by decide +kernel
theorem dX6_items_7 : decode cX6_items 7 = .ok (.ireturn, 1) := by decide +kernel
theorem dX6_setProperty_0 : decode cX6_setProperty 0 = .ok (.aload_n 0, 1) := by decide +kernel
theorem dX6_setProperty_1 : decode cX6_setProperty 1 = .ok (.iload_n 1, 1) := by decide +kernel
theorem dX6_setProperty_2 : decode cX6_setProperty 2 = .ok (.invokevirtual 117, 3) := by decide +kernel
theorem dX6_setProperty_5 : decode cX6_setProperty 5 = .ok (.iload_n 2, 1) := by decide +kernel
theorem dX6_setProperty_6 : decode cX6_setProperty 6 = .ok (.invokestatic 127, 3) := by decide +kernel
theorem dX6_setProperty_9 : decode cX6_setProperty 9 = .ok (.iload_n 2, 1) := by decide +kernel
theorem dX6_setProperty_10 : decode cX6_setProperty 10 = .ok (.iload_n 3, 1) := by decide +kernel
theorem dX6_setProperty_11 : decode cX6_setProperty 11 = .ok (.invokestatic 100, 3) := by decide +kernel
theorem dX6_setProperty_14 : decode cX6_setProperty 14 = .ok (.ifCond .ne 13, 3) := by decide +kernel
theorem dX6_setProperty_17 : decode cX6_setProperty 17 = .ok (.new 62, 3) := by decide +kernel
theorem dX6_setProperty_20 : decode cX6_setProperty 20 = .ok (.dup, 1) := by decide +kernel
theorem dX6_setProperty_21 : decode cX6_setProperty 21 = .ok (.ldc 130, 2) := by decide +kernel
theorem dX6_setProperty_23 : decode cX6_setProperty 23 = .ok (.invokespecial 66, 3) := by decide +kernel
theorem dX6_setProperty_26 : decode cX6_setProperty 26 = .ok (.athrow, 1) := by decide +kernel
theorem dX6_setProperty_27 : decode cX6_setProperty 27 = .ok (.aload_n 0, 1) := by decide +kernel
theorem dX6_setProperty_28 : decode cX6_setProperty 28 = .ok (.getfield 10, 3) := by decide +kernel
theorem dX6_setProperty_31 : decode cX6_setProperty 31 = .ok (.getfield 132, 3) := by decide +kernel
theorem dX6_setProperty_34 : decode cX6_setProperty 34 = .ok (.iload_n 1, 1) := by decide +kernel
theorem dX6_setProperty_35 : decode cX6_setProperty 35 = .ok (.aaload, 1) := by decide +kernel
theorem dX6_setProperty_36 : decode cX6_setProperty 36 = .ok (.iload_n 2, 1) := by decide +kernel
theorem dX6_setProperty_37 : decode cX6_setProperty 37 = .ok (.iaload, 1) := by decide +kernel
theorem dX6_setProperty_38 : decode cX6_setProperty 38 = .ok (.istore 4, 2) := by decide +kernel
theorem dX6_setProperty_40 : decode cX6_setProperty 40 = .ok (.aload_n 0, 1) := by decide +kernel
theorem dX6_setProperty_41 : decode cX6_setProperty 41 = .ok (.getfield 10, 3) := by decide +kernel
theorem dX6_setProperty_44 : decode cX6_setProperty 44 = .ok (.getfield 132, 3) := by decide +kernel
theorem dX6_setProperty_47 : decode cX6_setProperty 47 = .ok (.iload_n 1, 1) := by decide +kernel
theorem dX6_setProperty_48 : decode cX6_setProperty 48 = .ok (.aaload, 1) := by decide +kernel
theorem dX6_setProperty_49 : decode cX6_setProperty 49 = .ok (.iload_n 2, 1) := by decide +kernel
theorem dX6_setProperty_50 : decode cX6_setProperty 50 = .ok (.iload_n 3, 1) := by decide +kernel
theorem dX6_setProperty_51 : decode cX6_setProperty 51 = .ok (.iastore, 1) := by decide +kernel
theorem dX6_setProperty_52 : decode cX6_setProperty 52 = .ok (.iload 4, 2) := by decide +kernel
theorem dX6_setProperty_54 : decode cX6_setProperty 54 = .ok (.ireturn, 1) := by decide +kernel
theorem dX6_property_0 : decode cX6_property 0 = .ok (.aload_n 0, 1) := by decide +kernel
theorem dX6_property_1 : decode cX6_property 1 = .ok (.iload_n 1, 1) := by decide +kernel
theorem dX6_property_2 : decode cX6_property 2 = .ok (.invokevirtual 117, 3) := by decide +kernel
theorem dX6_property_5 : decode cX6_property 5 = .ok (.iload_n 2, 1) := by decide +kernel
theorem dX6_property_6 : decode cX6_property 6 = .ok (.invokestatic 127, 3) := by decide +kernel
theorem dX6_property_9 : decode cX6_property 9 = .ok (.aload_n 0, 1) := by decide +kernel
theorem dX6_property_10 : decode cX6_property 10 = .ok (.getfield 10, 3) := by decide +kernel
theorem dX6_property_13 : decode cX6_property 13 = .ok (.getfield 132, 3) := by decide +kernel
theorem dX6_property_16 : decode cX6_property 16 = .ok (.iload_n 1, 1) := by decide +kernel
theorem dX6_property_17 : decode cX6_property 17 = .ok (.aaload, 1) := by decide +kernel
theorem dX6_property_18 : decode cX6_property 18 = .ok (.iload_n 2, 1) := by decide +kernel
theorem dX6_property_19 : decode cX6_property 19 = .ok (.iaload, 1) := by decide +kernel
theorem dX6_property_20 : decode cX6_property 20 = .ok (.ireturn, 1) := by decide +kernel
theorem dX6_feed_0 : decode cX6_feed 0 = .ok (.aload_n 0, 1) := by decide +kernel
theorem dX6_feed_1 : decode cX6_feed 1 = .ok (.getfield 26, 3) := by decide +kernel
theorem dX6_feed_4 : decode cX6_feed 4 = .ok (.getfield 136, 3) := by decide +kernel
theorem dX6_feed_7 : decode cX6_feed 7 = .ok (.bipush 80, 2) := by decide +kernel
theorem dX6_feed_9 : decode cX6_feed 9 = .ok (.if_icmp .lt 13, 3) := by decide +kernel
theorem dX6_feed_12 : decode cX6_feed 12 = .ok (.new 139, 3) := by decide +kernel
theorem dX6_feed_15 : decode cX6_feed 15 = .ok (.dup, 1) := by decide +kernel
theorem dX6_feed_16 : decode cX6_feed 16 = .ok (.ldc 141, 2) := by decide +kernel
theorem dX6_feed_18 : decode cX6_feed 18 = .ok (.invokespecial 143, 3) := by decide +kernel
theorem dX6_feed_21 : decode cX6_feed 21 = .ok (.athrow, 1) := by decide +kernel
theorem dX6_feed_22 : decode cX6_feed 22 = .ok (.aload_n 0, 1) := by decide +kernel
theorem dX6_feed_23 : decode cX6_feed 23 = .ok (.getfield 26, 3) := by decide +kernel
theorem dX6_feed_26 : decode cX6_feed 26 = .ok (.getfield 144, 3) := by decide +kernel
theorem dX6_feed_29 : decode cX6_feed 29 = .ok (.aload_n 0, 1) := by decide +kernel
theorem dX6_feed_30 : decode cX6_feed 30 = .ok (.getfield 26, 3) := by decide +kernel
theorem dX6_feed_33 : decode cX6_feed 33 = .ok (.getfield 136, 3) := by decide +kernel
theorem dX6_feed_36 : decode cX6_feed 36 = .ok (.iload_n 1, 1) := by decide +kernel
theorem dX6_feed_37 : decode cX6_feed 37 = .ok (.castore, 1) := by decide +kernel
theorem dX6_feed_38 : decode cX6_feed 38 = .ok (.aload_n 0, 1) := by decide +kernel
theorem dX6_feed_39 : decode cX6_feed 39 = .ok (.getfield 26, 3) := by decide +kernel
theorem dX6_feed_42 : decode cX6_feed 42 = .ok (.dup, 1) := by decide +kernel
theorem dX6_feed_43 : decode cX6_feed 43 = .ok (.getfield 136, 3) := by decide +kernel
theorem dX6_feed_46 : decode cX6_feed 46 = .ok (.iconst 1, 1) := by decide +kernel
theorem dX6_feed_47 : decode cX6_feed 47 = .ok (.iadd, 1) := by decide +kernel
theorem dX6_feed_48 : decode cX6_feed 48 = .ok (.putfield 136, 3) := by decide +kernel
theorem dX6_feed_51 : decode cX6_feed 51 = .ok (.aload_n 0, 1) := by decide +kernel
theorem dX6_feed_52 : decode cX6_feed 52 = .ok (.getfield 26, 3) := by decide +kernel
theorem dX6_feed_55 : decode cX6_feed 55 = .ok (.getfield 136, 3) := by decide +kernel
theorem dX6_feed_58 : decode cX6_feed 58 = .ok (.ireturn, 1) := by decide +kernel
theorem dX6_readItem_0 : decode cX6_readItem 0 = .ok (.aload_n 0, 1) := by decide +kernel
theorem dX6_readItem_1 : decode cX6_readItem 1 = .ok (.invokevirtual 106, 3) := by decide +kernel
theorem dX6_readItem_4 : decode cX6_readItem 4 = .ok (.aload_n 0, 1) := by decide +kernel
theorem dX6_readItem_5 : decode cX6_readItem 5 = .ok (.getfield 26, 3) := by decide +kernel
theorem dX6_readItem_8 : decode cX6_readItem 8 = .ok (.invokevirtual 148, 3) := by decide +kernel
theorem dX6_readItem_11 : decode cX6_readItem 11 = .ok (.istore_n 1, 1) := by decide +kernel
theorem dX6_readItem_12 : decode cX6_readItem 12 = .ok (.iload_n 1, 1) := by decide +kernel
theorem dX6_readItem_13 : decode cX6_readItem 13 = .ok (.iconst (-1), 1) := by decide +kernel
theorem dX6_readItem_14 : decode cX6_readItem 14 = .ok (.if_icmp .ne 18, 3) := by decide +kernel
theorem dX6_readItem_17 : decode cX6_readItem 17 = .ok (.aload_n 0, 1) := by decide +kernel
theorem dX6_readItem_18 : decode cX6_readItem 18 = .ok (.getfield 26, 3) := by decide +kernel
theorem dX6_readItem_21 : decode cX6_readItem 21 = .ok (.aload_n 0, 1) := by decide +kernel
theorem dX6_readItem_22 : decode cX6_readItem 22 = .ok (.getfield 10, 3) := by decide +kernel
theorem dX6_readItem_25 : decode cX6_readItem 25 = .ok (.invokevirtual 109, 3) := by decide +kernel
theorem dX6_readItem_28 : decode cX6_readItem 28 = .ok (.invokevirtual 151, 3) := by decide +kernel
theorem dX6_readItem_31 : decode cX6_readItem 31 = .ok (.istore_n 1, 1) := by decide +kernel
theorem dX6_readItem_32 : decode cX6_readItem 32 = .ok (.aload_n 0, 1) := by decide +kernel
theorem dX6_readItem_33 : decode cX6_readItem 33 = .ok (.getfield 26, 3) := by decide +kernel
theorem dX6_readItem_36 : decode cX6_readItem 36 = .ok (.iconst 0, 1) := by decide +kernel
theorem dX6_readItem_37 : decode cX6_readItem 37 = .ok (.putfield 136, 3) := by decide +kernel
theorem dX6_readItem_40 : decode cX6_readItem 40 = .ok (.iload_n 1, 1) := by decide +kernel
theorem dX6_readItem_41 : decode cX6_readItem 41 = .ok (.iconst (-1), 1) := by decide +kernel
theorem dX6_readItem_42 : decode cX6_readItem 42 = .ok (.if_icmp .ne 13, 3) := by decide +kernel
theorem dX6_readItem_45 : decode cX6_readItem 45 = .ok (.aload_n 0, 1) := by decide +kernel
theorem dX6_readItem_46 : decode cX6_readItem 46 = .ok (.getfield 10, 3) := by decide +kernel
theorem dX6_readItem_49 : decode cX6_readItem 49 = .ok (.invokevirtual 113, 3) := by decide +kernel
theorem dX6_readItem_52 : decode cX6_readItem 52 = .ok (.goto 7, 3) := by decide +kernel
theorem dX6_readItem_55 : decode cX6_readItem 55 = .ok (.bipush (-100), 2) := by decide +kernel
theorem dX6_readItem_57 : decode cX6_readItem 57 = .ok (.iload_n 1, 1) := by decide +kernel
theorem dX6_readItem_58 : decode cX6_readItem 58 = .ok (.isub, 1) := by decide +kernel
theorem dX6_readItem_59 : decode cX6_readItem 59 = .ok (.ireturn, 1) := by decide +kernel
theorem dX6_lines_0 : decode cX6_lines 0 = .ok (.aload_n 0, 1) := by decide +kernel
theorem dX6_lines_1 : decode cX6_lines 1 = .ok (.getfield 40, 3) := by decide +kernel
theorem dX6_lines_4 : decode cX6_lines 4 = .ok (.aload_n 0, 1) := by decide +kernel
theorem dX6_lines_5 : decode cX6_lines 5 = .ok (.getfield 10, 3) := by decide +kernel
theorem dX6_lines_8 : decode cX6_lines 8 = .ok (.invokevirtual 155, 3) := by decide +kernel
theorem dX6_lines_11 : decode cX6_lines 11 = .ok (.aload_n 0, 1) := by decide +kernel
theorem dX6_lines_12 : decode cX6_lines 12 = .ok (.getfield 40, 3) := by decide +kernel
theorem dX6_lines_15 : decode cX6_lines 15 = .ok (.getfield 159, 3) := by decide +kernel
theorem dX6_lines_18 : decode cX6_lines 18 = .ok (.ireturn, 1) := by decide +kernel
theorem dX6_lineOf_0 : decode cX6_lineOf 0 = .ok (.aload_n 0, 1) := by decide +kernel
theorem dX6_lineOf_1 : decode cX6_lineOf 1 = .ok (.iload_n 1, 1) := by decide +kernel
theorem dX6_lineOf_2 : decode cX6_lineOf 2 = .ok (.invokevirtual 117, 3) := by decide +kernel
theorem dX6_lineOf_5 : decode cX6_lineOf 5 = .ok (.aload_n 0, 1) := by decide +kernel
theorem dX6_lineOf_6 : decode cX6_lineOf 6 = .ok (.getfield 40, 3) := by decide +kernel
theorem dX6_lineOf_9 : decode cX6_lineOf 9 = .ok (.aload_n 0, 1) := by decide +kernel
theorem dX6_lineOf_10 : decode cX6_lineOf 10 = .ok (.getfield 10, 3) := by decide +kernel
theorem dX6_lineOf_13 : decode cX6_lineOf 13 = .ok (.invokevirtual 155, 3) := by decide +kernel
theorem dX6_lineOf_16 : decode cX6_lineOf 16 = .ok (.aload_n 0, 1) := by decide +kernel
theorem dX6_lineOf_17 : decode cX6_lineOf 17 = .ok (.getfield 40, 3) := by decide +kernel
theorem dX6_lineOf_20 : decode cX6_lineOf 20 = .ok (.iload_n 1, 1) := by decide +kernel
theorem dX6_lineOf_21 : decode cX6_lineOf 21 = .ok (.invokevirtual 162, 3) := by decide +kernel
theorem dX6_lineOf_24 : decode cX6_lineOf 24 = .ok (.ireturn, 1) := by decide +kernel
theorem dX6_itemAt_0 : decode cX6_itemAt 0 = .ok (.iload_n 1, 1) := by decide +kernel
theorem dX6_itemAt_1 : decode cX6_itemAt 1 = .ok (.iconst 0, 1) := by decide +kernel
theorem dX6_itemAt_2 : decode cX6_itemAt 2 = .ok (.aload_n 0, 1) := by decide +kernel
theorem dX6_itemAt_3 : decode cX6_itemAt 3 = .ok (.getfield 10, 3) := by decide +kernel
theorem dX6_itemAt_6 : decode cX6_itemAt 6 = .ok (.getfield 124, 3) := by decide +kernel
theorem dX6_itemAt_9 : decode cX6_itemAt 9 = .ok (.iconst 1, 1) := by decide +kernel
theorem dX6_itemAt_10 : decode cX6_itemAt 10 = .ok (.isub, 1) := by decide +kernel
theorem dX6_itemAt_11 : decode cX6_itemAt 11 = .ok (.invokestatic 58, 3) := by decide +kernel
theorem dX6_itemAt_14 : decode cX6_itemAt 14 = .ok (.ifCond .ne 13, 3) := by decide +kernel
theorem dX6_itemAt_17 : decode cX6_itemAt 17 = .ok (.new 86, 3) := by decide +kernel
theorem dX6_itemAt_20 : decode cX6_itemAt 20 = .ok (.dup, 1) := by decide +kernel
theorem dX6_itemAt_21 : decode cX6_itemAt 21 = .ok (.ldc 166, 2) := by decide +kernel
theorem dX6_itemAt_23 : decode cX6_itemAt 23 = .ok (.invokespecial 90, 3) := by decide +kernel
theorem dX6_itemAt_26 : decode cX6_itemAt 26 = .ok (.athrow, 1) := by decide +kernel
theorem dX6_itemAt_27 : decode cX6_itemAt 27 = .ok (.aload_n 0, 1) := by decide +kernel
theorem dX6_itemAt_28 : decode cX6_itemAt 28 = .ok (.getfield 40, 3) := by decide +kernel
theorem dX6_itemAt_31 : decode cX6_itemAt 31 = .ok (.aload_n 0, 1) := by decide +kernel
theorem dX6_itemAt_32 : decode cX6_itemAt 32 = .ok (.getfield 10, 3) := by decide +kernel
theorem dX6_itemAt_35 : decode cX6_itemAt 35 = .ok (.invokevirtual 168, 3) := by decide +kernel
theorem dX6_itemAt_38 : decode cX6_itemAt 38 = .ok (.aload_n 0, 1) := by decide +kernel
theorem dX6_itemAt_39 : decode cX6_itemAt 39 = .ok (.getfield 40, 3) := by decide +kernel
theorem dX6_itemAt_42 : decode cX6_itemAt 42 = .ok (.getfield 171, 3) := by decide +kernel
theorem dX6_itemAt_45 : decode cX6_itemAt 45 = .ok (.iload_n 1, 1) := by decide +kernel
theorem dX6_itemAt_46 : decode cX6_itemAt 46 = .ok (.iaload, 1) := by decide +kernel
theorem dX6_itemAt_47 : decode cX6_itemAt 47 = .ok (.ireturn, 1) := by decide +kernel
theorem dX6_hypotheticalSize_0 : decode cX6_hypotheticalSize 0 = .ok (.aload_n 0, 1) := by decide +kernel
theorem dX6_hypotheticalSize_1 : decode cX6_hypotheticalSize 1 = .ok (.iload_n 1, 1) := by decide +kernel
theorem dX6_hypotheticalSize_2 : decode cX6_hypotheticalSize 2 = .ok (.invokevirtual 117, 3) := by decide +kernel
theorem dX6_hypotheticalSize_5 : decode cX6_hypotheticalSize 5 = .ok (.aload_n 0, 1) := by decide +kernel
theorem dX6_hypotheticalSize_6 : decode cX6_hypotheticalSize 6 = .ok (.getfield 10, 3) := by decide +kernel
theorem dX6_hypotheticalSize_9 : decode cX6_hypotheticalSize 9 = .ok (.iload_n 1, 1) := by decide +kernel
theorem dX6_hypotheticalSize_10 : decode cX6_hypotheticalSize 10 = .ok (.invokevirtual 174, 3) := by decide +kernel
theorem dX6_hypotheticalSize_13 : decode cX6_hypotheticalSize 13 = .ok (.ireturn, 1) := by decide +kernel
theorem dX6_box_0 : decode cX6_box 0 = .ok (.aload_n 0, 1) := by decide +kernel
theorem dX6_box_1 : decode cX6_box 1 = .ok (.iload_n 1, 1) := by decide +kernel
theorem dX6_box_2 : decode cX6_box 2 = .ok (.invokevirtual 117, 3) := by decide +kernel
theorem dX6_box_5 : decode cX6_box 5 = .ok (.iload_n 2, 1) := by decide +kernel
theorem dX6_box_6 : decode cX6_box 6 = .ok (.iconst 0, 1) := by decide +kernel
theorem dX6_box_7 : decode cX6_box 7 = .ok (.iconst 3, 1) := by decide +kernel
theorem dX6_box_8 : decode cX6_box 8 = .ok (.invokestatic 58, 3) := by decide +kernel
theorem dX6_box_11 : decode cX6_box 11 = .ok (.ifCond .ne 13, 3) := by decide +kernel
theorem dX6_box_14 : decode cX6_box 14 = .ok (.new 86, 3) := by decide +kernel
theorem dX6_box_17 : decode cX6_box 17 = .ok (.dup, 1) := by decide +kernel
theorem dX6_box_18 : decode cX6_box 18 = .ok (.ldc 177, 2) := by decide +kernel
theorem dX6_box_20 : decode cX6_box 20 = .ok (.invokespecial 90, 3) := by decide +kernel
theorem dX6_box_23 : decode cX6_box 23 = .ok (.athrow, 1) := by decide +kernel
theorem dX6_box_24 : decode cX6_box 24 = .ok (.aload_n 0, 1) := by decide +kernel
theorem dX6_box_25 : decode cX6_box 25 = .ok (.invokevirtual 179, 3) := by decide +kernel
theorem dX6_box_28 : decode cX6_box 28 = .ok (.iload_n 2, 1) := by decide +kernel
theorem dX6_box_29 : decode cX6_box 29 = .ok (.ifCond .eq 8, 3) := by decide +kernel
theorem dX6_box_32 : decode cX6_box 32 = .ok (.iload_n 2, 1) := by decide +kernel
theorem dX6_box_33 : decode cX6_box 33 = .ok (.iconst 2, 1) := by decide +kernel
theorem dX6_box_34 : decode cX6_box 34 = .ok (.if_icmp .ne 7, 3) := by decide +kernel
theorem dX6_box_37 : decode cX6_box 37 = .ok (.iconst 1, 1) := by decide +kernel
theorem dX6_box_38 : decode cX6_box 38 = .ok (.goto 4, 3) := by decide +kernel
theorem dX6_box_41 : decode cX6_box 41 = .ok (.iconst 0, 1) := by decide +kernel
theorem dX6_box_42 : decode cX6_box 42 = .ok (.istore_n 3, 1) := by decide +kernel
theorem dX6_box_43 : decode cX6_box 43 = .ok (.iload_n 3, 1) := by decide +kernel
theorem dX6_box_44 : decode cX6_box 44 = .ok (.aload_n 0, 1) := by decide +kernel
theorem dX6_box_45 : decode cX6_box 45 = .ok (.getfield 10, 3) := by decide +kernel
theorem dX6_box_48 : decode cX6_box 48 = .ok (.invokevirtual 182, 3) := by decide +kernel
theorem dX6_box_51 : decode cX6_box 51 = .ok (.if_icmp .ne 7, 3) := by decide +kernel
theorem dX6_box_54 : decode cX6_box 54 = .ok (.iconst 1, 1) := by decide +kernel
theorem dX6_box_55 : decode cX6_box 55 = .ok (.goto 4, 3) := by decide +kernel
theorem dX6_box_58 : decode cX6_box 58 = .ok (.iconst 0, 1) := by decide +kernel
theorem dX6_box_59 : decode cX6_box 59 = .ok (.istore 4, 2) := by decide +kernel
theorem dX6_box_61 : decode cX6_box 61 = .ok (.iload_n 2, 1) := by decide +kernel
theorem dX6_box_62 : decode cX6_box 62 = .ok (.iconst 2, 1) := by decide +kernel
theorem dX6_box_63 : decode cX6_box 63 = .ok (.if_icmp .ge 30, 3) := by decide +kernel
theorem dX6_box_66 : decode cX6_box 66 = .ok (.iload 4, 2) := by decide +kernel
theorem dX6_box_68 : decode cX6_box 68 = .ok (.ifCond .eq 15, 3) := by decide +kernel
theorem dX6_box_71 : decode cX6_box 71 = .ok (.aload_n 0, 1) := by decide +kernel
theorem dX6_box_72 : decode cX6_box 72 = .ok (.getfield 47, 3) := by decide +kernel
theorem dX6_box_75 : decode cX6_box 75 = .ok (.getfield 186, 3) := by decide +kernel
theorem dX6_box_78 : decode cX6_box 78 = .ok (.iload_n 1, 1) := by decide +kernel
theorem dX6_box_79 : decode cX6_box 79 = .ok (.iaload, 1) := by decide +kernel
theorem dX6_box_80 : decode cX6_box 80 = .ok (.goto 12, 3) := by decide +kernel
theorem dX6_box_83 : decode cX6_box 83 = .ok (.aload_n 0, 1) := by decide +kernel
theorem dX6_box_84 : decode cX6_box 84 = .ok (.getfield 54, 3) := by decide +kernel
theorem dX6_box_87 : decode cX6_box 87 = .ok (.getfield 189, 3) := by decide +kernel
theorem dX6_box_90 : decode cX6_box 90 = .ok (.iload_n 1, 1) := by decide +kernel
theorem dX6_box_91 : decode cX6_box 91 = .ok (.iaload, 1) := by decide +kernel
theorem dX6_box_92 : decode cX6_box 92 = .ok (.ireturn, 1) := by decide +kernel
theorem dX6_box_93 : decode cX6_box 93 = .ok (.iload 4, 2) := by decide +kernel
theorem dX6_box_95 : decode cX6_box 95 = .ok (.ifCond .eq 15, 3) := by decide +kernel
theorem dX6_box_98 : decode cX6_box 98 = .ok (.aload_n 0, 1) := by decide +kernel
theorem dX6_box_99 : decode cX6_box 99 = .ok (.getfield 47, 3) := by decide +kernel
theorem dX6_box_102 : decode cX6_box 102 = .ok (.getfield 190, 3) := by decide +kernel
theorem dX6_box_105 : decode cX6_box 105 = .ok (.iload_n 1, 1) := by decide +kernel
theorem dX6_box_106 : decode cX6_box 106 = .ok (.iaload, 1) := by decide +kernel
theorem dX6_box_107 : decode cX6_box 107 = .ok (.goto 12, 3) := by decide +kernel
theorem dX6_box_110 : decode cX6_box 110 = .ok (.aload_n 0, 1) := by decide +kernel
theorem dX6_box_111 : decode cX6_box 111 = .ok (.getfield 54, 3) := by decide +kernel
theorem dX6_box_114 : decode cX6_box 114 = .ok (.getfield 193, 3) := by decide +kernel
theorem dX6_box_117 : decode cX6_box 117 = .ok (.iload_n 1, 1) := by decide +kernel
theorem dX6_box_118 : decode cX6_box 118 = .ok (.iaload, 1) := by decide +kernel
theorem dX6_box_119 : decode cX6_box 119 = .ok (.ireturn, 1) := by decide +kernel
theorem dX6_rounds_0 : decode cX6_rounds 0 = .ok (.aload_n 0, 1) := by decide +kernel
theorem dX6_rounds_1 : decode cX6_rounds 1 = .ok (.getfield 40, 3) := by decide +kernel
theorem dX6_rounds_4 : decode cX6_rounds 4 = .ok (.aload_n 0, 1) := by decide +kernel
theorem dX6_rounds_5 : decode cX6_rounds 5 = .ok (.getfield 10, 3) := by decide +kernel
theorem dX6_rounds_8 : decode cX6_rounds 8 = .ok (.invokevirtual 155, 3) := by decide +kernel
theorem dX6_rounds_11 : decode cX6_rounds 11 = .ok (.aload_n 0, 1) := by decide +kernel
theorem dX6_rounds_12 : decode cX6_rounds 12 = .ok (.iload_n 1, 1) := by decide +kernel
theorem dX6_rounds_13 : decode cX6_rounds 13 = .ok (.invokevirtual 194, 3) := by decide +kernel
theorem dX6_rounds_16 : decode cX6_rounds 16 = .ok (.aload_n 0, 1) := by decide +kernel
theorem dX6_rounds_17 : decode cX6_rounds 17 = .ok (.getfield 47, 3) := by decide +kernel
theorem dX6_rounds_20 : decode cX6_rounds 20 = .ok (.aload_n 0, 1) := by decide +kernel
theorem dX6_rounds_21 : decode cX6_rounds 21 = .ok (.getfield 10, 3) := by decide +kernel
theorem dX6_rounds_24 : decode cX6_rounds 24 = .ok (.aload_n 0, 1) := by decide +kernel
theorem dX6_rounds_25 : decode cX6_rounds 25 = .ok (.getfield 40, 3) := by decide +kernel
theorem dX6_rounds_28 : decode cX6_rounds 28 = .ok (.aload_n 0, 1) := by decide +kernel
theorem dX6_rounds_29 : decode cX6_rounds 29 = .ok (.getfield 33, 3) := by decide +kernel
theorem dX6_rounds_32 : decode cX6_rounds 32 = .ok (.invokevirtual 197, 3) := by decide +kernel
theorem dX6_rounds_35 : decode cX6_rounds 35 = .ok (.aload_n 0, 1) := by decide +kernel
theorem dX6_rounds_36 : decode cX6_rounds 36 = .ok (.getfield 47, 3) := by decide +kernel
theorem dX6_rounds_39 : decode cX6_rounds 39 = .ok (.getfield 200, 3) := by decide +kernel
theorem dX6_rounds_42 : decode cX6_rounds 42 = .ok (.iload_n 1, 1) := by decide +kernel
theorem dX6_rounds_43 : decode cX6_rounds 43 = .ok (.iaload, 1) := by decide +kernel
theorem dX6_rounds_44 : decode cX6_rounds 44 = .ok (.ireturn, 1) := by decide +kernel
theorem dX6_freeSpace_0 : decode cX6_freeSpace 0 = .ok (.aload_n 0, 1) := by decide +kernel
theorem dX6_freeSpace_1 : decode cX6_freeSpace 1 = .ok (.getfield 40, 3) := by decide +kernel
theorem dX6_freeSpace_4 : decode cX6_freeSpace 4 = .ok (.aload_n 0, 1) := by decide +kernel
theorem dX6_freeSpace_5 : decode cX6_freeSpace 5 = .ok (.getfield 10, 3) := by decide +kernel
theorem dX6_freeSpace_8 : decode cX6_freeSpace 8 = .ok (.invokevirtual 155, 3) := by decide +kernel
theorem dX6_freeSpace_11 : decode cX6_freeSpace 11 = .ok (.aload_n 0, 1) := by decide +kernel
theorem dX6_freeSpace_12 : decode cX6_freeSpace 12 = .ok (.iload_n 1, 1) := by decide +kernel
theorem dX6_freeSpace_13 : decode cX6_freeSpace 13 = .ok (.invokevirtual 194, 3) := by decide +kernel
theorem dX6_freeSpace_16 : decode cX6_freeSpace 16 = .ok (.aload_n 0, 1) := by decide +kernel
theorem dX6_freeSpace_17 : decode cX6_freeSpace 17 = .ok (.getfield 47, 3) := by decide +kernel
theorem dX6_freeSpace_20 : decode cX6_freeSpace 20 = .ok (.aload_n 0, 1) := by decide +kernel
theorem dX6_freeSpace_21 : decode cX6_freeSpace 21 = .ok (.getfield 10, 3) := by decide +kernel
theorem dX6_freeSpace_24 : decode cX6_freeSpace 24 = .ok (.aload_n 0, 1) := by decide +kernel
theorem dX6_freeSpace_25 : decode cX6_freeSpace 25 = .ok (.getfield 40, 3) := by decide +kernel
theorem dX6_freeSpace_28 : decode cX6_freeSpace 28 = .ok (.aload_n 0, 1) := by decide +kernel
theorem dX6_freeSpace_29 : decode cX6_freeSpace 29 = .ok (.getfield 33, 3) := by decide +kernel
theorem dX6_freeSpace_32 : decode cX6_freeSpace 32 = .ok (.invokevirtual 197, 3) := by decide +kernel
theorem dX6_freeSpace_35 : decode cX6_freeSpace 35 = .ok (.aload_n 0, 1) := by decide +kernel
theorem dX6_freeSpace_36 : decode cX6_freeSpace 36 = .ok (.getfield 47, 3) := by decide +kernel
theorem dX6_freeSpace_39 : decode cX6_freeSpace 39 = .ok (.getfield 203, 3) := by decide +kernel
theorem dX6_freeSpace_42 : decode cX6_freeSpace 42 = .ok (.iload_n 1, 1) := by decide +kernel
theorem dX6_freeSpace_43 : decode cX6_freeSpace 43 = .ok (.iaload, 1) := by decide +kernel
theorem dX6_freeSpace_44 : decode cX6_freeSpace 44 = .ok (.ireturn, 1) := by decide +kernel
theorem dX6_lineCross_0 : decode cX6_lineCross 0 = .ok (.aload_n 0, 1) := by decide +kernel
theorem dX6_lineCross_1 : decode cX6_lineCross 1 = .ok (.getfield 40, 3) := by decide +kernel
theorem dX6_lineCross_4 : decode cX6_lineCross 4 = .ok (.aload_n 0, 1) := by decide +kernel
theorem dX6_lineCross_5 : decode cX6_lineCross 5 = .ok (.getfield 10, 3) := by decide +kernel
theorem dX6_lineCross_8 : decode cX6_lineCross 8 = .ok (.invokevirtual 155, 3) := by decide +kernel
theorem dX6_lineCross_11 : decode cX6_lineCross 11 = .ok (.aload_n 0, 1) := by decide +kernel
theorem dX6_lineCross_12 : decode cX6_lineCross 12 = .ok (.iload_n 1, 1) := by decide +kernel
theorem dX6_lineCross_13 : decode cX6_lineCross 13 = .ok (.invokevirtual 194, 3) := by decide +kernel
theorem dX6_lineCross_16 : decode cX6_lineCross 16 = .ok (.aload_n 0, 1) := by decide +kernel
theorem dX6_lineCross_17 : decode cX6_lineCross 17 = .ok (.getfield 54, 3) := by decide +kernel
theorem dX6_lineCross_20 : decode cX6_lineCross 20 = .ok (.aload_n 0, 1) := by decide +kernel
theorem dX6_lineCross_21 : decode cX6_lineCross 21 = .ok (.getfield 10, 3) := by decide +kernel
theorem dX6_lineCross_24 : decode cX6_lineCross 24 = .ok (.aload_n 0, 1) := by decide +kernel
theorem dX6_lineCross_25 : decode cX6_lineCross 25 = .ok (.getfield 40, 3) := by decide +kernel
theorem dX6_lineCross_28 : decode cX6_lineCross 28 = .ok (.aload_n 0, 1) := by decide +kernel
theorem dX6_lineCross_29 : decode cX6_lineCross 29 = .ok (.getfield 33, 3) := by decide +kernel
theorem dX6_lineCross_32 : decode cX6_lineCross 32 = .ok (.invokevirtual 206, 3) := by decide +kernel
theorem dX6_lineCross_35 : decode cX6_lineCross 35 = .ok (.aload_n 0, 1) := by decide +kernel
theorem dX6_lineCross_36 : decode cX6_lineCross 36 = .ok (.getfield 54, 3) := by decide +kernel
theorem dX6_lineCross_39 : decode cX6_lineCross 39 = .ok (.getfield 207, 3) := by decide +kernel
theorem dX6_lineCross_42 : decode cX6_lineCross 42 = .ok (.iload_n 1, 1) := by decide +kernel
theorem dX6_lineCross_43 : decode cX6_lineCross 43 = .ok (.iaload, 1) := by decide +kernel
theorem dX6_lineCross_44 : decode cX6_lineCross 44 = .ok (.ireturn, 1) := by decide +kernel
theorem dX6_lineAscent_0 : decode cX6_lineAscent 0 = .ok (.aload_n 0, 1) := by decide +kernel
theorem dX6_lineAscent_1 : decode cX6_lineAscent 1 = .ok (.getfield 40, 3) := by decide +kernel
theorem dX6_lineAscent_4 : decode cX6_lineAscent 4 = .ok (.aload_n 0, 1) := by decide +kernel
theorem dX6_lineAscent_5 : decode cX6_lineAscent 5 = .ok (.getfield 10, 3) := by decide +kernel
theorem dX6_lineAscent_8 : decode cX6_lineAscent 8 = .ok (.invokevirtual 155, 3) := by decide +kernel
theorem dX6_lineAscent_11 : decode cX6_lineAscent 11 = .ok (.aload_n 0, 1) := by decide +kernel
theorem dX6_lineAscent_12 : decode cX6_lineAscent 12 = .ok (.iload_n 1, 1) := by decide +kernel
theorem dX6_lineAscent_13 : decode cX6_lineAscent 13 = .ok (.invokevirtual 194, 3) := by decide +kernel
theorem dX6_lineAscent_16 : decode cX6_lineAscent 16 = .ok (.aload_n 0, 1) := by decide +kernel
theorem dX6_lineAscent_17 : decode cX6_lineAscent 17 = .ok (.getfield 54, 3) := by decide +kernel
theorem dX6_lineAscent_20 : decode cX6_lineAscent 20 = .ok (.aload_n 0, 1) := by decide +kernel
theorem dX6_lineAscent_21 : decode cX6_lineAscent 21 = .ok (.getfield 10, 3) := by decide +kernel
theorem dX6_lineAscent_24 : decode cX6_lineAscent 24 = .ok (.aload_n 0, 1) := by decide +kernel
theorem dX6_lineAscent_25 : decode cX6_lineAscent 25 = .ok (.getfield 40, 3) := by decide +kernel
theorem dX6_lineAscent_28 : decode cX6_lineAscent 28 = .ok (.aload_n 0, 1) := by decide +kernel
theorem dX6_lineAscent_29 : decode cX6_lineAscent 29 = .ok (.getfield 33, 3) := by decide +kernel
theorem dX6_lineAscent_32 : decode cX6_lineAscent 32 = .ok (.invokevirtual 206, 3) := by decide +kernel
theorem dX6_lineAscent_35 : decode cX6_lineAscent 35 = .ok (.aload_n 0, 1) := by decide +kernel
theorem dX6_lineAscent_36 : decode cX6_lineAscent 36 = .ok (.getfield 54, 3) := by decide +kernel
theorem dX6_lineAscent_39 : decode cX6_lineAscent 39 = .ok (.getfield 210, 3) := by decide +kernel
theorem dX6_lineAscent_42 : decode cX6_lineAscent 42 = .ok (.iload_n 1, 1) := by decide +kernel
theorem dX6_lineAscent_43 : decode cX6_lineAscent 43 = .ok (.iaload, 1) := by decide +kernel
theorem dX6_lineAscent_44 : decode cX6_lineAscent 44 = .ok (.ireturn, 1) := by decide +kernel
theorem dX6_crossExtent_0 : decode cX6_crossExtent 0 = .ok (.aload_n 0, 1) := by decide +kernel
theorem dX6_crossExtent_1 : decode cX6_crossExtent 1 = .ok (.getfield 40, 3) := by decide +kernel
theorem dX6_crossExtent_4 : decode cX6_crossExtent 4 = .ok (.aload_n 0, 1) := by decide +kernel
theorem dX6_crossExtent_5 : decode cX6_crossExtent 5 = .ok (.getfield 10, 3) := by decide +kernel
theorem dX6_crossExtent_8 : decode cX6_crossExtent 8 = .ok (.invokevirtual 155, 3) := by decide +kernel
theorem dX6_crossExtent_11 : decode cX6_crossExtent 11 = .ok (.aload_n 0, 1) := by decide +kernel
theorem dX6_crossExtent_12 : decode cX6_crossExtent 12 = .ok (.getfield 54, 3) := by decide +kernel
theorem dX6_crossExtent_15 : decode cX6_crossExtent 15 = .ok (.aload_n 0, 1) := by decide +kernel
theorem dX6_crossExtent_16 : decode cX6_crossExtent 16 = .ok (.getfield 10, 3) := by decide +kernel
theorem dX6_crossExtent_19 : decode cX6_crossExtent 19 = .ok (.aload_n 0, 1) := by decide +kernel
theorem dX6_crossExtent_20 : decode cX6_crossExtent 20 = .ok (.getfield 40, 3) := by decide +kernel
theorem dX6_crossExtent_23 : decode cX6_crossExtent 23 = .ok (.aload_n 0, 1) := by decide +kernel
theorem dX6_crossExtent_24 : decode cX6_crossExtent 24 = .ok (.getfield 33, 3) := by decide +kernel
theorem dX6_crossExtent_27 : decode cX6_crossExtent 27 = .ok (.invokevirtual 206, 3) := by decide +kernel
theorem dX6_crossExtent_30 : decode cX6_crossExtent 30 = .ok (.aload_n 0, 1) := by decide +kernel
theorem dX6_crossExtent_31 : decode cX6_crossExtent 31 = .ok (.getfield 54, 3) := by decide +kernel
theorem dX6_crossExtent_34 : decode cX6_crossExtent 34 = .ok (.getfield 213, 3) := by decide +kernel
theorem dX6_crossExtent_37 : decode cX6_crossExtent 37 = .ok (.ireturn, 1) := by decide +kernel
theorem dX6_overflows_0 : decode cX6_overflows 0 = .ok (.aload_n 0, 1) := by decide +kernel
theorem dX6_overflows_1 : decode cX6_overflows 1 = .ok (.iload_n 1, 1) := by decide +kernel
theorem dX6_overflows_2 : decode cX6_overflows 2 = .ok (.invokevirtual 117, 3) := by decide +kernel
theorem dX6_overflows_5 : decode cX6_overflows 5 = .ok (.aload_n 0, 1) := by decide +kernel
theorem dX6_overflows_6 : decode cX6_overflows 6 = .ok (.invokevirtual 179, 3) := by decide +kernel
theorem dX6_overflows_9 : decode cX6_overflows 9 = .ok (.aload_n 0, 1) := by decide +kernel
theorem dX6_overflows_10 : decode cX6_overflows 10 = .ok (.getfield 47, 3) := by decide +kernel
theorem dX6_overflows_13 : decode cX6_overflows 13 = .ok (.getfield 186, 3) := by decide +kernel
theorem dX6_overflows_16 : decode cX6_overflows 16 = .ok (.iload_n 1, 1) := by decide +kernel
theorem dX6_overflows_17 : decode cX6_overflows 17 = .ok (.iaload, 1) := by decide +kernel
theorem dX6_overflows_18 : decode cX6_overflows 18 = .ok (.istore_n 2, 1) := by decide +kernel
theorem dX6_overflows_19 : decode cX6_overflows 19 = .ok (.aload_n 0, 1) := by decide +kernel
theorem dX6_overflows_20 : decode cX6_overflows 20 = .ok (.getfield 54, 3) := by decide +kernel
theorem dX6_overflows_23 : decode cX6_overflows 23 = .ok (.getfield 189, 3) := by decide +kernel
theorem dX6_overflows_26 : decode cX6_overflows 26 = .ok (.iload_n 1, 1) := by decide +kernel
theorem dX6_overflows_27 : decode cX6_overflows 27 = .ok (.iaload, 1) := by decide +kernel
theorem dX6_overflows_28 : decode cX6_overflows 28 = .ok (.istore_n 3, 1) := by decide +kernel
theorem dX6_overflows_29 : decode cX6_overflows 29 = .ok (.iload_n 2, 1) := by decide +kernel
theorem dX6_overflows_30 : decode cX6_overflows 30 = .ok (.ifCond .lt 49, 3) := by decide +kernel
theorem dX6_overflows_33 : decode cX6_overflows 33 = .ok (.iload_n 2, 1) := by decide +kernel
theorem dX6_overflows_34 : decode cX6_overflows 34 = .ok (.aload_n 0, 1) := by decide +kernel
theorem dX6_overflows_35 : decode cX6_overflows 35 = .ok (.getfield 47, 3) := by decide +kernel
theorem dX6_overflows_38 : decode cX6_overflows 38 = .ok (.getfield 190, 3) := by decide +kernel
theorem dX6_overflows_41 : decode cX6_overflows 41 = .ok (.iload_n 1, 1) := by decide +kernel
theorem dX6_overflows_42 : decode cX6_overflows 42 = .ok (.iaload, 1) := by decide +kernel
theorem dX6_overflows_43 : decode cX6_overflows 43 = .ok (.iadd, 1) := by decide +kernel
theorem dX6_overflows_44 : decode cX6_overflows 44 = .ok (.aload_n 0, 1) := by decide +kernel
theorem dX6_overflows_45 : decode cX6_overflows 45 = .ok (.getfield 10, 3) := by decide +kernel
theorem dX6_overflows_48 : decode cX6_overflows 48 = .ok (.getfield 69, 3) := by decide +kernel
theorem dX6_overflows_51 : decode cX6_overflows 51 = .ok (.if_icmp .gt 28, 3) := by decide +kernel
theorem dX6_overflows_54 : decode cX6_overflows 54 = .ok (.iload_n 3, 1) := by decide +kernel
theorem dX6_overflows_55 : decode cX6_overflows 55 = .ok (.ifCond .lt 24, 3) := by decide +kernel
theorem dX6_overflows_58 : decode cX6_overflows 58 = .ok (.iload_n 3, 1) := by decide +kernel
theorem dX6_overflows_59 : decode cX6_overflows 59 = .ok (.aload_n 0, 1) := by decide +kernel
theorem dX6_overflows_60 : decode cX6_overflows 60 = .ok (.getfield 54, 3) := by decide +kernel
theorem dX6_overflows_63 : decode cX6_overflows 63 = .ok (.getfield 193, 3) := by decide +kernel
theorem dX6_overflows_66 : decode cX6_overflows 66 = .ok (.iload_n 1, 1) := by decide +kernel
theorem dX6_overflows_67 : decode cX6_overflows 67 = .ok (.iaload, 1) := by decide +kernel
theorem dX6_overflows_68 : decode cX6_overflows 68 = .ok (.iadd, 1) := by decide +kernel
theorem dX6_overflows_69 : decode cX6_overflows 69 = .ok (.aload_n 0, 1) := by decide +kernel
theorem dX6_overflows_70 : decode cX6_overflows 70 = .ok (.getfield 54, 3) := by decide +kernel
theorem dX6_overflows_73 : decode cX6_overflows 73 = .ok (.getfield 213, 3) := by decide +kernel
theorem dX6_overflows_76 : decode cX6_overflows 76 = .ok (.if_icmp .le 7, 3) := by decide +kernel
theorem dX6_overflows_79 : decode cX6_overflows 79 = .ok (.iconst 1, 1) := by decide +kernel
theorem dX6_overflows_80 : decode cX6_overflows 80 = .ok (.goto 4, 3) := by decide +kernel
theorem dX6_overflows_83 : decode cX6_overflows 83 = .ok (.iconst 0, 1) := by decide +kernel
theorem dX6_overflows_84 : decode cX6_overflows 84 = .ok (.ireturn, 1) := by decide +kernel
theorem dX6_itemUnder_0 : decode cX6_itemUnder 0 = .ok (.aload_n 0, 1) := by decide +kernel
theorem dX6_itemUnder_1 : decode cX6_itemUnder 1 = .ok (.invokevirtual 179, 3) := by decide +kernel
theorem dX6_itemUnder_4 : decode cX6_itemUnder 4 = .ok (.aload_n 0, 1) := by decide +kernel
theorem dX6_itemUnder_5 : decode cX6_itemUnder 5 = .ok (.getfield 10, 3) := by decide +kernel
theorem dX6_itemUnder_8 : decode cX6_itemUnder 8 = .ok (.invokevirtual 182, 3) := by decide +kernel
theorem dX6_itemUnder_11 : decode cX6_itemUnder 11 = .ok (.ifCond .eq 7, 3) := by decide +kernel
theorem dX6_itemUnder_14 : decode cX6_itemUnder 14 = .ok (.iload_n 1, 1) := by decide +kernel
theorem dX6_itemUnder_15 : decode cX6_itemUnder 15 = .ok (.goto 4, 3) := by decide +kernel
theorem dX6_itemUnder_18 : decode cX6_itemUnder 18 = .ok (.iload_n 2, 1) := by decide +kernel
theorem dX6_itemUnder_19 : decode cX6_itemUnder 19 = .ok (.istore_n 3, 1) := by decide +kernel
theorem dX6_itemUnder_20 : decode cX6_itemUnder 20 = .ok (.aload_n 0, 1) := by decide +kernel
theorem dX6_itemUnder_21 : decode cX6_itemUnder 21 = .ok (.getfield 10, 3) := by decide +kernel
theorem dX6_itemUnder_24 : decode cX6_itemUnder 24 = .ok (.invokevirtual 182, 3) := by decide +kernel
theorem dX6_itemUnder_27 : decode cX6_itemUnder 27 = .ok (.ifCond .eq 7, 3) := by decide +kernel
theorem dX6_itemUnder_30 : decode cX6_itemUnder 30 = .ok (.iload_n 2, 1) := by decide +kernel
theorem dX6_itemUnder_31 : decode cX6_itemUnder 31 = .ok (.goto 4, 3) := by decide +kernel
theorem dX6_itemUnder_34 : decode cX6_itemUnder 34 = .ok (.iload_n 1, 1) := by decide +kernel
theorem dX6_itemUnder_35 : decode cX6_itemUnder 35 = .ok (.istore 4, 2) := by decide +kernel
theorem dX6_itemUnder_37 : decode cX6_itemUnder 37 = .ok (.aload_n 0, 1) := by decide +kernel
theorem dX6_itemUnder_38 : decode cX6_itemUnder 38 = .ok (.getfield 10, 3) := by decide +kernel
