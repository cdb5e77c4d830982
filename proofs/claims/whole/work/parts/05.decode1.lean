theorem dX6_itemUnder_41 : decode cX6_itemUnder 41 = .ok (.getfield 124, 3) := by decide +kernel
theorem dX6_itemUnder_44 : decode cX6_itemUnder 44 = .ok (.iconst 1, 1) := by decide +kernel
theorem dX6_itemUnder_45 : decode cX6_itemUnder 45 = .ok (.isub, 1) := by decide +kernel
theorem dX6_itemUnder_46 : decode cX6_itemUnder 46 = .ok (.istore 5, 2) := by decide +kernel
theorem dX6_itemUnder_48 : decode cX6_itemUnder 48 = .ok (.iload 5, 2) := by decide +kernel
theorem dX6_itemUnder_50 : decode cX6_itemUnder 50 = .ok (.ifCond .lt 36, 3) := by decide +kernel
theorem dX6_itemUnder_53 : decode cX6_itemUnder 53 = .ok (.aload_n 0, 1) := by decide +kernel
theorem dX6_itemUnder_54 : decode cX6_itemUnder 54 = .ok (.getfield 40, 3) := by decide +kernel
theorem dX6_itemUnder_57 : decode cX6_itemUnder 57 = .ok (.getfield 171, 3) := by decide +kernel
theorem dX6_itemUnder_60 : decode cX6_itemUnder 60 = .ok (.iload 5, 2) := by decide +kernel
theorem dX6_itemUnder_62 : decode cX6_itemUnder 62 = .ok (.iaload, 1) := by decide +kernel
theorem dX6_itemUnder_63 : decode cX6_itemUnder 63 = .ok (.istore 6, 2) := by decide +kernel
theorem dX6_itemUnder_65 : decode cX6_itemUnder 65 = .ok (.aload_n 0, 1) := by decide +kernel
theorem dX6_itemUnder_66 : decode cX6_itemUnder 66 = .ok (.iload 6, 2) := by decide +kernel
theorem dX6_itemUnder_68 : decode cX6_itemUnder 68 = .ok (.iload_n 3, 1) := by decide +kernel
theorem dX6_itemUnder_69 : decode cX6_itemUnder 69 = .ok (.iload 4, 2) := by decide +kernel
theorem dX6_itemUnder_71 : decode cX6_itemUnder 71 = .ok (.invokevirtual 216, 3) := by decide +kernel
theorem dX6_itemUnder_74 : decode cX6_itemUnder 74 = .ok (.ifCond .eq 6, 3) := by decide +kernel
theorem dX6_itemUnder_77 : decode cX6_itemUnder 77 = .ok (.iload 6, 2) := by decide +kernel
theorem dX6_itemUnder_79 : decode cX6_itemUnder 79 = .ok (.ireturn, 1) := by decide +kernel
theorem dX6_itemUnder_80 : decode cX6_itemUnder 80 = .ok (.iinc 5 (-1), 3) := by decide +kernel
theorem dX6_itemUnder_83 : decode cX6_itemUnder 83 = .ok (.goto (-35), 3) := by decide +kernel
theorem dX6_itemUnder_86 : decode cX6_itemUnder 86 = .ok (.new 219, 3) := by decide +kernel
theorem dX6_itemUnder_89 : decode cX6_itemUnder 89 = .ok (.dup, 1) := by decide +kernel
theorem dX6_itemUnder_90 : decode cX6_itemUnder 90 = .ok (.ldc 221, 2) := by decide +kernel
theorem dX6_itemUnder_92 : decode cX6_itemUnder 92 = .ok (.invokespecial 223, 3) := by decide +kernel
theorem dX6_itemUnder_95 : decode cX6_itemUnder 95 = .ok (.athrow, 1) := by decide +kernel
theorem dX6_overlaps_0 : decode cX6_overlaps 0 = .ok (.aload_n 0, 1) := by decide +kernel
theorem dX6_overlaps_1 : decode cX6_overlaps 1 = .ok (.invokevirtual 179, 3) := by decide +kernel
theorem dX6_overlaps_4 : decode cX6_overlaps 4 = .ok (.iconst 0, 1) := by decide +kernel
theorem dX6_overlaps_5 : decode cX6_overlaps 5 = .ok (.istore_n 1, 1) := by decide +kernel
theorem dX6_overlaps_6 : decode cX6_overlaps 6 = .ok (.iconst 1, 1) := by decide +kernel
theorem dX6_overlaps_7 : decode cX6_overlaps 7 = .ok (.istore_n 2, 1) := by decide +kernel
theorem dX6_overlaps_8 : decode cX6_overlaps 8 = .ok (.iload_n 2, 1) := by decide +kernel
theorem dX6_overlaps_9 : decode cX6_overlaps 9 = .ok (.aload_n 0, 1) := by decide +kernel
theorem dX6_overlaps_10 : decode cX6_overlaps 10 = .ok (.getfield 10, 3) := by decide +kernel
theorem dX6_overlaps_13 : decode cX6_overlaps 13 = .ok (.getfield 124, 3) := by decide +kernel
theorem dX6_overlaps_16 : decode cX6_overlaps 16 = .ok (.if_icmp .ge 34, 3) := by decide +kernel
theorem dX6_overlaps_19 : decode cX6_overlaps 19 = .ok (.iconst 0, 1) := by decide +kernel
theorem dX6_overlaps_20 : decode cX6_overlaps 20 = .ok (.istore_n 3, 1) := by decide +kernel
theorem dX6_overlaps_21 : decode cX6_overlaps 21 = .ok (.iload_n 3, 1) := by decide +kernel
theorem dX6_overlaps_22 : decode cX6_overlaps 22 = .ok (.iload_n 2, 1) := by decide +kernel
theorem dX6_overlaps_23 : decode cX6_overlaps 23 = .ok (.if_icmp .ge 21, 3) := by decide +kernel
theorem dX6_overlaps_26 : decode cX6_overlaps 26 = .ok (.aload_n 0, 1) := by decide +kernel
theorem dX6_overlaps_27 : decode cX6_overlaps 27 = .ok (.iload_n 3, 1) := by decide +kernel
theorem dX6_overlaps_28 : decode cX6_overlaps 28 = .ok (.iload_n 2, 1) := by decide +kernel
theorem dX6_overlaps_29 : decode cX6_overlaps 29 = .ok (.invokevirtual 224, 3) := by decide +kernel
theorem dX6_overlaps_32 : decode cX6_overlaps 32 = .ok (.ifCond .eq 6, 3) := by decide +kernel
theorem dX6_overlaps_35 : decode cX6_overlaps 35 = .ok (.iinc 1 1, 3) := by decide +kernel
theorem dX6_overlaps_38 : decode cX6_overlaps 38 = .ok (.iinc 3 1, 3) := by decide +kernel
theorem dX6_overlaps_41 : decode cX6_overlaps 41 = .ok (.goto (-20), 3) := by decide +kernel
theorem dX6_overlaps_44 : decode cX6_overlaps 44 = .ok (.iinc 2 1, 3) := by decide +kernel
theorem dX6_overlaps_47 : decode cX6_overlaps 47 = .ok (.goto (-39), 3) := by decide +kernel
theorem dX6_overlaps_50 : decode cX6_overlaps 50 = .ok (.iload_n 1, 1) := by decide +kernel
theorem dX6_overlaps_51 : decode cX6_overlaps 51 = .ok (.ireturn, 1) := by decide +kernel
theorem dX6_narrowest_0 : decode cX6_narrowest 0 = .ok (.iload_n 1, 1) := by decide +kernel
theorem dX6_narrowest_1 : decode cX6_narrowest 1 = .ok (.iconst 1, 1) := by decide +kernel
theorem dX6_narrowest_2 : decode cX6_narrowest 2 = .ok (.bipush 20, 2) := by decide +kernel
theorem dX6_narrowest_4 : decode cX6_narrowest 4 = .ok (.invokestatic 58, 3) := by decide +kernel
theorem dX6_narrowest_7 : decode cX6_narrowest 7 = .ok (.ifCond .ne 13, 3) := by decide +kernel
theorem dX6_narrowest_10 : decode cX6_narrowest 10 = .ok (.new 62, 3) := by decide +kernel
theorem dX6_narrowest_13 : decode cX6_narrowest 13 = .ok (.dup, 1) := by decide +kernel
theorem dX6_narrowest_14 : decode cX6_narrowest 14 = .ok (.ldc 227, 2) := by decide +kernel
theorem dX6_narrowest_16 : decode cX6_narrowest 16 = .ok (.invokespecial 66, 3) := by decide +kernel
theorem dX6_narrowest_19 : decode cX6_narrowest 19 = .ok (.athrow, 1) := by decide +kernel
theorem dX6_narrowest_20 : decode cX6_narrowest 20 = .ok (.aload_n 0, 1) := by decide +kernel
theorem dX6_narrowest_21 : decode cX6_narrowest 21 = .ok (.getfield 40, 3) := by decide +kernel
theorem dX6_narrowest_24 : decode cX6_narrowest 24 = .ok (.aload_n 0, 1) := by decide +kernel
theorem dX6_narrowest_25 : decode cX6_narrowest 25 = .ok (.getfield 10, 3) := by decide +kernel
theorem dX6_narrowest_28 : decode cX6_narrowest 28 = .ok (.invokevirtual 168, 3) := by decide +kernel
theorem dX6_narrowest_31 : decode cX6_narrowest 31 = .ok (.aload_n 0, 1) := by decide +kernel
theorem dX6_narrowest_32 : decode cX6_narrowest 32 = .ok (.getfield 40, 3) := by decide +kernel
theorem dX6_narrowest_35 : decode cX6_narrowest 35 = .ok (.aload_n 0, 1) := by decide +kernel
theorem dX6_narrowest_36 : decode cX6_narrowest 36 = .ok (.getfield 10, 3) := by decide +kernel
theorem dX6_narrowest_39 : decode cX6_narrowest 39 = .ok (.sipush 9999, 3) := by decide +kernel
theorem dX6_narrowest_42 : decode cX6_narrowest 42 = .ok (.invokevirtual 229, 3) := by decide +kernel
theorem dX6_narrowest_45 : decode cX6_narrowest 45 = .ok (.iload_n 1, 1) := by decide +kernel
theorem dX6_narrowest_46 : decode cX6_narrowest 46 = .ok (.if_icmp .le 13, 3) := by decide +kernel
theorem dX6_narrowest_49 : decode cX6_narrowest 49 = .ok (.new 219, 3) := by decide +kernel
theorem dX6_narrowest_52 : decode cX6_narrowest 52 = .ok (.dup, 1) := by decide +kernel
theorem dX6_narrowest_53 : decode cX6_narrowest 53 = .ok (.ldc 233, 2) := by decide +kernel
theorem dX6_narrowest_55 : decode cX6_narrowest 55 = .ok (.invokespecial 223, 3) := by decide +kernel
theorem dX6_narrowest_58 : decode cX6_narrowest 58 = .ok (.athrow, 1) := by decide +kernel
theorem dX6_narrowest_59 : decode cX6_narrowest 59 = .ok (.iconst 0, 1) := by decide +kernel
theorem dX6_narrowest_60 : decode cX6_narrowest 60 = .ok (.istore_n 2, 1) := by decide +kernel
theorem dX6_narrowest_61 : decode cX6_narrowest 61 = .ok (.sipush 9999, 3) := by decide +kernel
theorem dX6_narrowest_64 : decode cX6_narrowest 64 = .ok (.istore_n 3, 1) := by decide +kernel
theorem dX6_narrowest_65 : decode cX6_narrowest 65 = .ok (.iconst 0, 1) := by decide +kernel
theorem dX6_narrowest_66 : decode cX6_narrowest 66 = .ok (.istore 4, 2) := by decide +kernel
theorem dX6_narrowest_68 : decode cX6_narrowest 68 = .ok (.iload 4, 2) := by decide +kernel
theorem dX6_narrowest_70 : decode cX6_narrowest 70 = .ok (.bipush 14, 2) := by decide +kernel
theorem dX6_narrowest_72 : decode cX6_narrowest 72 = .ok (.if_icmp .ge 49, 3) := by decide +kernel
theorem dX6_narrowest_75 : decode cX6_narrowest 75 = .ok (.iload_n 2, 1) := by decide +kernel
theorem dX6_narrowest_76 : decode cX6_narrowest 76 = .ok (.iload_n 3, 1) := by decide +kernel
theorem dX6_narrowest_77 : decode cX6_narrowest 77 = .ok (.if_icmp .ge 44, 3) := by decide +kernel
theorem dX6_narrowest_80 : decode cX6_narrowest 80 = .ok (.iload_n 2, 1) := by decide +kernel
theorem dX6_narrowest_81 : decode cX6_narrowest 81 = .ok (.iload_n 3, 1) := by decide +kernel
theorem dX6_narrowest_82 : decode cX6_narrowest 82 = .ok (.iadd, 1) := by decide +kernel
theorem dX6_narrowest_83 : decode cX6_narrowest 83 = .ok (.iconst 2, 1) := by decide +kernel
theorem dX6_narrowest_84 : decode cX6_narrowest 84 = .ok (.idiv, 1) := by decide +kernel
theorem dX6_narrowest_85 : decode cX6_narrowest 85 = .ok (.istore 5, 2) := by decide +kernel
theorem dX6_narrowest_87 : decode cX6_narrowest 87 = .ok (.aload_n 0, 1) := by decide +kernel
theorem dX6_narrowest_88 : decode cX6_narrowest 88 = .ok (.getfield 40, 3) := by decide +kernel
theorem dX6_narrowest_91 : decode cX6_narrowest 91 = .ok (.aload_n 0, 1) := by decide +kernel
theorem dX6_narrowest_92 : decode cX6_narrowest 92 = .ok (.getfield 10, 3) := by decide +kernel
theorem dX6_narrowest_95 : decode cX6_narrowest 95 = .ok (.iload 5, 2) := by decide +kernel
theorem dX6_narrowest_97 : decode cX6_narrowest 97 = .ok (.invokevirtual 229, 3) := by decide +kernel
theorem dX6_narrowest_100 : decode cX6_narrowest 100 = .ok (.iload_n 1, 1) := by decide +kernel
theorem dX6_narrowest_101 : decode cX6_narrowest 101 = .ok (.if_icmp .le 11, 3) := by decide +kernel
theorem dX6_narrowest_104 : decode cX6_narrowest 104 = .ok (.iload 5, 2) := by decide +kernel
theorem dX6_narrowest_106 : decode cX6_narrowest 106 = .ok (.iconst 1, 1) := by decide +kernel
theorem dX6_narrowest_107 : decode cX6_narrowest 107 = .ok (.iadd, 1) := by decide +kernel
theorem dX6_narrowest_108 : decode cX6_narrowest 108 = .ok (.istore_n 2, 1) := by decide +kernel
theorem dX6_narrowest_109 : decode cX6_narrowest 109 = .ok (.goto 6, 3) := by decide +kernel
theorem dX6_narrowest_112 : decode cX6_narrowest 112 = .ok (.iload 5, 2) := by decide +kernel
theorem dX6_narrowest_114 : decode cX6_narrowest 114 = .ok (.istore_n 3, 1) := by decide +kernel
theorem dX6_narrowest_115 : decode cX6_narrowest 115 = .ok (.iinc 4 1, 3) := by decide +kernel
theorem dX6_narrowest_118 : decode cX6_narrowest 118 = .ok (.goto (-50), 3) := by decide +kernel
theorem dX6_narrowest_121 : decode cX6_narrowest 121 = .ok (.iload_n 2, 1) := by decide +kernel
theorem dX6_narrowest_122 : decode cX6_narrowest 122 = .ok (.ireturn, 1) := by decide +kernel
theorem dX6_share_0 : decode cX6_share 0 = .ok (.iload_n 1, 1) := by decide +kernel
theorem dX6_share_1 : decode cX6_share 1 = .ok (.iconst 0, 1) := by decide +kernel
theorem dX6_share_2 : decode cX6_share 2 = .ok (.ldc 235, 2) := by decide +kernel
theorem dX6_share_4 : decode cX6_share 4 = .ok (.invokestatic 58, 3) := by decide +kernel
theorem dX6_share_7 : decode cX6_share 7 = .ok (.ifCond .eq 10, 3) := by decide +kernel
theorem dX6_share_10 : decode cX6_share 10 = .ok (.iload_n 2, 1) := by decide +kernel
theorem dX6_share_11 : decode cX6_share 11 = .ok (.invokestatic 236, 3) := by decide +kernel
theorem dX6_share_14 : decode cX6_share 14 = .ok (.ifCond .ne 13, 3) := by decide +kernel
theorem dX6_share_17 : decode cX6_share 17 = .ok (.new 62, 3) := by decide +kernel
theorem dX6_share_20 : decode cX6_share 20 = .ok (.dup, 1) := by decide +kernel
theorem dX6_share_21 : decode cX6_share 21 = .ok (.ldc 240, 2) := by decide +kernel
theorem dX6_share_23 : decode cX6_share 23 = .ok (.invokespecial 66, 3) := by decide +kernel
theorem dX6_share_26 : decode cX6_share 26 = .ok (.athrow, 1) := by decide +kernel
theorem dX6_share_27 : decode cX6_share 27 = .ok (.aload_n 0, 1) := by decide +kernel
theorem dX6_share_28 : decode cX6_share 28 = .ok (.iload_n 3, 1) := by decide +kernel
theorem dX6_share_29 : decode cX6_share 29 = .ok (.invokevirtual 117, 3) := by decide +kernel
theorem dX6_share_32 : decode cX6_share 32 = .ok (.iconst 0, 1) := by decide +kernel
theorem dX6_share_33 : decode cX6_share 33 = .ok (.istore 4, 2) := by decide +kernel
theorem dX6_share_35 : decode cX6_share 35 = .ok (.iload 4, 2) := by decide +kernel
theorem dX6_share_37 : decode cX6_share 37 = .ok (.aload_n 0, 1) := by decide +kernel
theorem dX6_share_38 : decode cX6_share 38 = .ok (.getfield 10, 3) := by decide +kernel
theorem dX6_share_41 : decode cX6_share 41 = .ok (.getfield 124, 3) := by decide +kernel
theorem dX6_share_44 : decode cX6_share 44 = .ok (.if_icmp .ge 32, 3) := by decide +kernel
theorem dX6_share_47 : decode cX6_share 47 = .ok (.aload_n 0, 1) := by decide +kernel
theorem dX6_share_48 : decode cX6_share 48 = .ok (.getfield 33, 3) := by decide +kernel
theorem dX6_share_51 : decode cX6_share 51 = .ok (.getfield 242, 3) := by decide +kernel
theorem dX6_share_54 : decode cX6_share 54 = .ok (.iload 4, 2) := by decide +kernel
theorem dX6_share_56 : decode cX6_share 56 = .ok (.aload_n 0, 1) := by decide +kernel
theorem dX6_share_57 : decode cX6_share 57 = .ok (.getfield 10, 3) := by decide +kernel
theorem dX6_share_60 : decode cX6_share 60 = .ok (.getfield 132, 3) := by decide +kernel
theorem dX6_share_63 : decode cX6_share 63 = .ok (.iload 4, 2) := by decide +kernel
theorem dX6_share_65 : decode cX6_share 65 = .ok (.aaload, 1) := by decide +kernel
theorem dX6_share_66 : decode cX6_share 66 = .ok (.iload_n 2, 1) := by decide +kernel
theorem dX6_share_67 : decode cX6_share 67 = .ok (.iaload, 1) := by decide +kernel
theorem dX6_share_68 : decode cX6_share 68 = .ok (.i2l, 1) := by decide +kernel
theorem dX6_share_69 : decode cX6_share 69 = .ok (.lastore, 1) := by decide +kernel
theorem dX6_share_70 : decode cX6_share 70 = .ok (.iinc 4 1, 3) := by decide +kernel
theorem dX6_share_73 : decode cX6_share 73 = .ok (.goto (-38), 3) := by decide +kernel
theorem dX6_share_76 : decode cX6_share 76 = .ok (.aload_n 0, 1) := by decide +kernel
theorem dX6_share_77 : decode cX6_share 77 = .ok (.getfield 33, 3) := by decide +kernel
theorem dX6_share_80 : decode cX6_share 80 = .ok (.aload_n 0, 1) := by decide +kernel
theorem dX6_share_81 : decode cX6_share 81 = .ok (.getfield 10, 3) := by decide +kernel
theorem dX6_share_84 : decode cX6_share 84 = .ok (.getfield 124, 3) := by decide +kernel
theorem dX6_share_87 : decode cX6_share 87 = .ok (.invokevirtual 246, 3) := by decide +kernel
theorem dX6_share_90 : decode cX6_share 90 = .ok (.lconst 0, 1) := by decide +kernel
theorem dX6_share_91 : decode cX6_share 91 = .ok (.lcmp, 1) := by decide +kernel
theorem dX6_share_92 : decode cX6_share 92 = .ok (.ifCond .ne 13, 3) := by decide +kernel
theorem dX6_share_95 : decode cX6_share 95 = .ok (.new 250, 3) := by decide +kernel
theorem dX6_share_98 : decode cX6_share 98 = .ok (.dup, 1) := by decide +kernel
theorem dX6_share_99 : decode cX6_share 99 = .ok (.ldc 252, 2) := by decide +kernel
theorem dX6_share_101 : decode cX6_share 101 = .ok (.invokespecial 254, 3) := by decide +kernel
theorem dX6_share_104 : decode cX6_share 104 = .ok (.athrow, 1) := by decide +kernel
theorem dX6_share_105 : decode cX6_share 105 = .ok (.aload_n 0, 1) := by decide +kernel
theorem dX6_share_106 : decode cX6_share 106 = .ok (.getfield 33, 3) := by decide +kernel
theorem dX6_share_109 : decode cX6_share 109 = .ok (.iload_n 1, 1) := by decide +kernel
theorem dX6_share_110 : decode cX6_share 110 = .ok (.aload_n 0, 1) := by decide +kernel
theorem dX6_share_111 : decode cX6_share 111 = .ok (.getfield 10, 3) := by decide +kernel
theorem dX6_share_114 : decode cX6_share 114 = .ok (.getfield 124, 3) := by decide +kernel
theorem dX6_share_117 : decode cX6_share 117 = .ok (.invokevirtual 255, 3) := by decide +kernel
theorem dX6_share_120 : decode cX6_share 120 = .ok (.aload_n 0, 1) := by decide +kernel
theorem dX6_share_121 : decode cX6_share 121 = .ok (.getfield 33, 3) := by decide +kernel
theorem dX6_share_124 : decode cX6_share 124 = .ok (.getfield 259, 3) := by decide +kernel
theorem dX6_share_127 : decode cX6_share 127 = .ok (.iload_n 3, 1) := by decide +kernel
theorem dX6_share_128 : decode cX6_share 128 = .ok (.iaload, 1) := by decide +kernel
theorem dX6_share_129 : decode cX6_share 129 = .ok (.ireturn, 1) := by decide +kernel
theorem dX6_save_0 : decode cX6_save 0 = .ok (.aload_n 0, 1) := by decide +kernel
theorem dX6_save_1 : decode cX6_save 1 = .ok (.getfield 16, 3) := by decide +kernel
theorem dX6_save_4 : decode cX6_save 4 = .ok (.aload_n 0, 1) := by decide +kernel
theorem dX6_save_5 : decode cX6_save 5 = .ok (.getfield 10, 3) := by decide +kernel
theorem dX6_save_8 : decode cX6_save 8 = .ok (.invokevirtual 262, 3) := by decide +kernel
theorem dX6_save_11 : decode cX6_save 11 = .ok (.aload_n 0, 1) := by decide +kernel
theorem dX6_save_12 : decode cX6_save 12 = .ok (.iconst 1, 1) := by decide +kernel
theorem dX6_save_13 : decode cX6_save 13 = .ok (.putfield 19, 3) := by decide +kernel
theorem dX6_save_16 : decode cX6_save 16 = .ok (.aload_n 0, 1) := by decide +kernel
theorem dX6_save_17 : decode cX6_save 17 = .ok (.getfield 16, 3) := by decide +kernel
theorem dX6_save_20 : decode cX6_save 20 = .ok (.getfield 124, 3) := by decide +kernel
theorem dX6_save_23 : decode cX6_save 23 = .ok (.ireturn, 1) := by decide +kernel
theorem dX6_restore_0 : decode cX6_restore 0 = .ok (.aload_n 0, 1) := by decide +kernel
theorem dX6_restore_1 : decode cX6_restore 1 = .ok (.getfield 19, 3) := by decide +kernel
theorem dX6_restore_4 : decode cX6_restore 4 = .ok (.ifCond .ne 14, 3) := by decide +kernel
theorem dX6_restore_7 : decode cX6_restore 7 = .ok (.new 139, 3) := by decide +kernel
theorem dX6_restore_10 : decode cX6_restore 10 = .ok (.dup, 1) := by decide +kernel
theorem dX6_restore_11 : decode cX6_restore 11 = .ok (.ldc_w 265, 3) := by decide +kernel
theorem dX6_restore_14 : decode cX6_restore 14 = .ok (.invokespecial 143, 3) := by decide +kernel
theorem dX6_restore_17 : decode cX6_restore 17 = .ok (.athrow, 1) := by decide +kernel
theorem dX6_restore_18 : decode cX6_restore 18 = .ok (.aload_n 0, 1) := by decide +kernel
theorem dX6_restore_19 : decode cX6_restore 19 = .ok (.getfield 10, 3) := by decide +kernel
theorem dX6_restore_22 : decode cX6_restore 22 = .ok (.aload_n 0, 1) := by decide +kernel
theorem dX6_restore_23 : decode cX6_restore 23 = .ok (.getfield 16, 3) := by decide +kernel
theorem dX6_restore_26 : decode cX6_restore 26 = .ok (.invokevirtual 262, 3) := by decide +kernel
theorem dX6_restore_29 : decode cX6_restore 29 = .ok (.aload_n 0, 1) := by decide +kernel
theorem dX6_restore_30 : decode cX6_restore 30 = .ok (.getfield 10, 3) := by decide +kernel
theorem dX6_restore_33 : decode cX6_restore 33 = .ok (.getfield 124, 3) := by decide +kernel
theorem dX6_restore_36 : decode cX6_restore 36 = .ok (.ireturn, 1) := by decide +kernel
theorem dX6_requireRoom_0 : decode cX6_requireRoom 0 = .ok (.aload_n 0, 1) := by decide +kernel
theorem dX6_requireRoom_1 : decode cX6_requireRoom 1 = .ok (.getfield 10, 3) := by decide +kernel
theorem dX6_requireRoom_4 : decode cX6_requireRoom 4 = .ok (.getfield 124, 3) := by decide +kernel
theorem dX6_requireRoom_7 : decode cX6_requireRoom 7 = .ok (.bipush 20, 2) := by decide +kernel
theorem dX6_requireRoom_9 : decode cX6_requireRoom 9 = .ok (.if_icmp .lt 14, 3) := by decide +kernel
theorem dX6_requireRoom_12 : decode cX6_requireRoom 12 = .ok (.new 139, 3) := by decide +kernel
theorem dX6_requireRoom_15 : decode cX6_requireRoom 15 = .ok (.dup, 1) := by decide +kernel
theorem dX6_requireRoom_16 : decode cX6_requireRoom 16 = .ok (.ldc_w 267, 3) := by decide +kernel
theorem dX6_requireRoom_19 : decode cX6_requireRoom 19 = .ok (.invokespecial 143, 3) := by decide +kernel
theorem dX6_requireRoom_22 : decode cX6_requireRoom 22 = .ok (.athrow, 1) := by decide +kernel
theorem dX6_requireRoom_23 : decode cX6_requireRoom 23 = .ok (.return_, 1) := by decide +kernel
theorem dX6_requireItem_0 : decode cX6_requireItem 0 = .ok (.iload_n 1, 1) := by decide +kernel
theorem dX6_requireItem_1 : decode cX6_requireItem 1 = .ok (.iconst 0, 1) := by decide +kernel
theorem dX6_requireItem_2 : decode cX6_requireItem 2 = .ok (.aload_n 0, 1) := by decide +kernel
theorem dX6_requireItem_3 : decode cX6_requireItem 3 = .ok (.getfield 10, 3) := by decide +kernel
theorem dX6_requireItem_6 : decode cX6_requireItem 6 = .ok (.getfield 124, 3) := by decide +kernel
theorem dX6_requireItem_9 : decode cX6_requireItem 9 = .ok (.iconst 1, 1) := by decide +kernel
theorem dX6_requireItem_10 : decode cX6_requireItem 10 = .ok (.isub, 1) := by decide +kernel
theorem dX6_requireItem_11 : decode cX6_requireItem 11 = .ok (.invokestatic 58, 3) := by decide +kernel
theorem dX6_requireItem_14 : decode cX6_requireItem 14 = .ok (.ifCond .ne 14, 3) := by decide +kernel
theorem dX6_requireItem_17 : decode cX6_requireItem 17 = .ok (.new 86, 3) := by decide +kernel
theorem dX6_requireItem_20 : decode cX6_requireItem 20 = .ok (.dup, 1) := by decide +kernel
theorem dX6_requireItem_21 : decode cX6_requireItem 21 = .ok (.ldc_w 269, 3) := by decide +kernel
theorem dX6_requireItem_24 : decode cX6_requireItem 24 = .ok (.invokespecial 90, 3) := by decide +kernel
theorem dX6_requireItem_27 : decode cX6_requireItem 27 = .ok (.athrow, 1) := by decide +kernel
theorem dX6_requireItem_28 : decode cX6_requireItem 28 = .ok (.return_, 1) := by decide +kernel
theorem dX6_requireLine_0 : decode cX6_requireLine 0 = .ok (.iload_n 1, 1) := by decide +kernel
theorem dX6_requireLine_1 : decode cX6_requireLine 1 = .ok (.iconst 0, 1) := by decide +kernel
theorem dX6_requireLine_2 : decode cX6_requireLine 2 = .ok (.aload_n 0, 1) := by decide +kernel
theorem dX6_requireLine_3 : decode cX6_requireLine 3 = .ok (.getfield 40, 3) := by decide +kernel
theorem dX6_requireLine_6 : decode cX6_requireLine 6 = .ok (.getfield 159, 3) := by decide +kernel
theorem dX6_requireLine_9 : decode cX6_requireLine 9 = .ok (.iconst 1, 1) := by decide +kernel
theorem dX6_requireLine_10 : decode cX6_requireLine 10 = .ok (.isub, 1) := by decide +kernel
theorem dX6_requireLine_11 : decode cX6_requireLine 11 = .ok (.invokestatic 58, 3) := by decide +kernel
theorem dX6_requireLine_14 : decode cX6_requireLine 14 = .ok (.ifCond .ne 14, 3) := by decide +kernel
theorem dX6_requireLine_17 : decode cX6_requireLine 17 = .ok (.new 86, 3) := by decide +kernel
theorem dX6_requireLine_20 : decode cX6_requireLine 20 = .ok (.dup, 1) := by decide +kernel
theorem dX6_requireLine_21 : decode cX6_requireLine 21 = .ok (.ldc_w 271, 3) := by decide +kernel
theorem dX6_requireLine_24 : decode cX6_requireLine 24 = .ok (.invokespecial 90, 3) := by decide +kernel
theorem dX6_requireLine_27 : decode cX6_requireLine 27 = .ok (.athrow, 1) := by decide +kernel
theorem dX6_requireLine_28 : decode cX6_requireLine 28 = .ok (.return_, 1) := by decide +kernel
theorem dX6_requireProperty_0 : decode cX6_requireProperty 0 = .ok (.iload_n 0, 1) := by decide +kernel
theorem dX6_requireProperty_1 : decode cX6_requireProperty 1 = .ok (.iconst 0, 1) := by decide +kernel
theorem dX6_requireProperty_2 : decode cX6_requireProperty 2 = .ok (.bipush 9, 2) := by decide +kernel
theorem dX6_requireProperty_4 : decode cX6_requireProperty 4 = .ok (.invokestatic 58, 3) := by decide +kernel
theorem dX6_requireProperty_7 : decode cX6_requireProperty 7 = .ok (.ifCond .ne 14, 3) := by decide +kernel
theorem dX6_requireProperty_10 : decode cX6_requireProperty 10 = .ok (.new 86, 3) := by decide +kernel
theorem dX6_requireProperty_13 : decode cX6_requireProperty 13 = .ok (.dup, 1) := by decide +kernel
theorem dX6_requireProperty_14 : decode cX6_requireProperty 14 = .ok (.ldc_w 273, 3) := by decide +kernel
theorem dX6_requireProperty_17 : decode cX6_requireProperty 17 = .ok (.invokespecial 90, 3) := by decide +kernel
theorem dX6_requireProperty_20 : decode cX6_requireProperty 20 = .ok (.athrow, 1) := by decide +kernel
theorem dX6_requireProperty_21 : decode cX6_requireProperty 21 = .ok (.return_, 1) := by decide +kernel
theorem dX6_layOut_0 : decode cX6_layOut 0 = .ok (.aload_n 0, 1) := by decide +kernel
theorem dX6_layOut_1 : decode cX6_layOut 1 = .ok (.getfield 40, 3) := by decide +kernel
theorem dX6_layOut_4 : decode cX6_layOut 4 = .ok (.aload_n 0, 1) := by decide +kernel
theorem dX6_layOut_5 : decode cX6_layOut 5 = .ok (.getfield 10, 3) := by decide +kernel
theorem dX6_layOut_8 : decode cX6_layOut 8 = .ok (.invokevirtual 155, 3) := by decide +kernel
theorem dX6_layOut_11 : decode cX6_layOut 11 = .ok (.aload_n 0, 1) := by decide +kernel
theorem dX6_layOut_12 : decode cX6_layOut 12 = .ok (.getfield 47, 3) := by decide +kernel
theorem dX6_layOut_15 : decode cX6_layOut 15 = .ok (.aload_n 0, 1) := by decide +kernel
theorem dX6_layOut_16 : decode cX6_layOut 16 = .ok (.getfield 10, 3) := by decide +kernel
theorem dX6_layOut_19 : decode cX6_layOut 19 = .ok (.aload_n 0, 1) := by decide +kernel
theorem dX6_layOut_20 : decode cX6_layOut 20 = .ok (.getfield 40, 3) := by decide +kernel
theorem dX6_layOut_23 : decode cX6_layOut 23 = .ok (.aload_n 0, 1) := by decide +kernel
theorem dX6_layOut_24 : decode cX6_layOut 24 = .ok (.getfield 33, 3) := by decide +kernel
theorem dX6_layOut_27 : decode cX6_layOut 27 = .ok (.invokevirtual 197, 3) := by decide +kernel
theorem dX6_layOut_30 : decode cX6_layOut 30 = .ok (.aload_n 0, 1) := by decide +kernel
theorem dX6_layOut_31 : decode cX6_layOut 31 = .ok (.getfield 54, 3) := by decide +kernel
theorem dX6_layOut_34 : decode cX6_layOut 34 = .ok (.aload_n 0, 1) := by decide +kernel
theorem dX6_layOut_35 : decode cX6_layOut 35 = .ok (.getfield 10, 3) := by decide +kernel
theorem dX6_layOut_38 : decode cX6_layOut 38 = .ok (.aload_n 0, 1) := by decide +kernel
theorem dX6_layOut_39 : decode cX6_layOut 39 = .ok (.getfield 40, 3) := by decide +kernel
theorem dX6_layOut_42 : decode cX6_layOut 42 = .ok (.aload_n 0, 1) := by decide +kernel
theorem dX6_layOut_43 : decode cX6_layOut 43 = .ok (.getfield 33, 3) := by decide +kernel
theorem dX6_layOut_46 : decode cX6_layOut 46 = .ok (.invokevirtual 206, 3) := by decide +kernel
theorem dX6_layOut_49 : decode cX6_layOut 49 = .ok (.return_, 1) := by decide +kernel
theorem dX6_contains_0 : decode cX6_contains 0 = .ok (.aload_n 0, 1) := by decide +kernel
theorem dX6_contains_1 : decode cX6_contains 1 = .ok (.getfield 47, 3) := by decide +kernel
theorem dX6_contains_4 : decode cX6_contains 4 = .ok (.getfield 186, 3) := by decide +kernel
theorem dX6_contains_7 : decode cX6_contains 7 = .ok (.iload_n 1, 1) := by decide +kernel
theorem dX6_contains_8 : decode cX6_contains 8 = .ok (.iaload, 1) := by decide +kernel
theorem dX6_contains_9 : decode cX6_contains 9 = .ok (.istore 4, 2) := by decide +kernel
theorem dX6_contains_11 : decode cX6_contains 11 = .ok (.aload_n 0, 1) := by decide +kernel
theorem dX6_contains_12 : decode cX6_contains 12 = .ok (.getfield 54, 3) := by decide +kernel
theorem dX6_contains_15 : decode cX6_contains 15 = .ok (.getfield 189, 3) := by decide +kernel
theorem dX6_contains_18 : decode cX6_contains 18 = .ok (.iload_n 1, 1) := by decide +kernel
theorem dX6_contains_19 : decode cX6_contains 19 = .ok (.iaload, 1) := by decide +kernel
theorem dX6_contains_20 : decode cX6_contains 20 = .ok (.istore 5, 2) := by decide +kernel
theorem dX6_contains_22 : decode cX6_contains 22 = .ok (.iload_n 2, 1) := by decide +kernel
theorem dX6_contains_23 : decode cX6_contains 23 = .ok (.iload 4, 2) := by decide +kernel
theorem dX6_contains_25 : decode cX6_contains 25 = .ok (.if_icmp .lt 45, 3) := by decide +kernel
theorem dX6_contains_28 : decode cX6_contains 28 = .ok (.iload_n 2, 1) := by decide +kernel
theorem dX6_contains_29 : decode cX6_contains 29 = .ok (.iload 4, 2) := by decide +kernel
theorem dX6_contains_31 : decode cX6_contains 31 = .ok (.aload_n 0, 1) := by decide +kernel
theorem dX6_contains_32 : decode cX6_contains 32 = .ok (.getfield 47, 3) := by decide +kernel
theorem dX6_contains_35 : decode cX6_contains 35 = .ok (.getfield 190, 3) := by decide +kernel
theorem dX6_contains_38 : decode cX6_contains 38 = .ok (.iload_n 1, 1) := by decide +kernel
theorem dX6_contains_39 : decode cX6_contains 39 = .ok (.iaload, 1) := by decide +kernel
theorem dX6_contains_40 : decode cX6_contains 40 = .ok (.iadd, 1) := by decide +kernel
theorem dX6_contains_41 : decode cX6_contains 41 = .ok (.if_icmp .ge 29, 3) := by decide +kernel
theorem dX6_contains_44 : decode cX6_contains 44 = .ok (.iload_n 3, 1) := by decide +kernel
theorem dX6_contains_45 : decode cX6_contains 45 = .ok (.iload 5, 2) := by decide +kernel
theorem dX6_contains_47 : decode cX6_contains 47 = .ok (.if_icmp .lt 23, 3) := by decide +kernel
theorem dX6_contains_50 : decode cX6_contains 50 = .ok (.iload_n 3, 1) := by decide +kernel
theorem dX6_contains_51 : decode cX6_contains 51 = .ok (.iload 5, 2) := by decide +kernel
theorem dX6_contains_53 : decode cX6_contains 53 = .ok (.aload_n 0, 1) := by decide +kernel
theorem dX6_contains_54 : decode cX6_contains 54 = .ok (.getfield 54, 3) := by decide +kernel
theorem dX6_contains_57 : decode cX6_contains 57 = .ok (.getfield 193, 3) := by decide +kernel
theorem dX6_contains_60 : decode cX6_contains 60 = .ok (.iload_n 1, 1) := by decide +kernel
theorem dX6_contains_61 : decode cX6_contains 61 = .ok (.iaload, 1) := by decide +kernel
theorem dX6_contains_62 : decode cX6_contains 62 = .ok (.iadd, 1) := by decide +kernel
theorem dX6_contains_63 : decode cX6_contains 63 = .ok (.if_icmp .ge 7, 3) := by decide +kernel
theorem dX6_contains_66 : decode cX6_contains 66 = .ok (.iconst 1, 1) := by decide +kernel
theorem dX6_contains_67 : decode cX6_contains 67 = .ok (.goto 4, 3) := by decide +kernel
theorem dX6_contains_70 : decode cX6_contains 70 = .ok (.iconst 0, 1) := by decide +kernel
theorem dX6_contains_71 : decode cX6_contains 71 = .ok (.ireturn, 1) := by decide +kernel
theorem dX6_haveCommonPoint_0 : decode cX6_haveCommonPoint 0 = .ok (.aload_n 0, 1) := by decide +kernel
theorem dX6_haveCommonPoint_1 : decode cX6_haveCommonPoint 1 = .ok (.getfield 47, 3) := by decide +kernel
theorem dX6_haveCommonPoint_4 : decode cX6_haveCommonPoint 4 = .ok (.getfield 186, 3) := by decide +kernel
theorem dX6_haveCommonPoint_7 : decode cX6_haveCommonPoint 7 = .ok (.aload_n 0, 1) := by decide +kernel
theorem dX6_haveCommonPoint_8 : decode cX6_haveCommonPoint 8 = .ok (.getfield 47, 3) := by decide +kernel
theorem dX6_haveCommonPoint_11 : decode cX6_haveCommonPoint 11 = .ok (.getfield 190, 3) := by decide +kernel
theorem dX6_haveCommonPoint_14 : decode cX6_haveCommonPoint 14 = .ok (.iload_n 1, 1) := by decide +kernel
theorem dX6_haveCommonPoint_15 : decode cX6_haveCommonPoint 15 = .ok (.iload_n 2, 1) := by decide +kernel
theorem dX6_haveCommonPoint_16 : decode cX6_haveCommonPoint 16 = .ok (.invokestatic 275, 3) := by decide +kernel
theorem dX6_haveCommonPoint_19 : decode cX6_haveCommonPoint 19 = .ok (.ifCond .eq 29, 3) := by decide +kernel
theorem dX6_haveCommonPoint_22 : decode cX6_haveCommonPoint 22 = .ok (.aload_n 0, 1) := by decide +kernel
theorem dX6_haveCommonPoint_23 : decode cX6_haveCommonPoint 23 = .ok (.getfield 54, 3) := by decide +kernel
theorem dX6_haveCommonPoint_26 : decode cX6_haveCommonPoint 26 = .ok (.getfield 189, 3) := by decide +kernel
theorem dX6_haveCommonPoint_29 : decode cX6_haveCommonPoint 29 = .ok (.aload_n 0, 1) := by decide +kernel
theorem dX6_haveCommonPoint_30 : decode cX6_haveCommonPoint 30 = .ok (.getfield 54, 3) := by decide +kernel
theorem dX6_haveCommonPoint_33 : decode cX6_haveCommonPoint 33 = .ok (.getfield 193, 3) := by decide +kernel
theorem dX6_haveCommonPoint_36 : decode cX6_haveCommonPoint 36 = .ok (.iload_n 1, 1) := by decide +kernel
theorem dX6_haveCommonPoint_37 : decode cX6_haveCommonPoint 37 = .ok (.iload_n 2, 1) := by decide +kernel
theorem dX6_haveCommonPoint_38 : decode cX6_haveCommonPoint 38 = .ok (.invokestatic 275, 3) := by decide +kernel
theorem dX6_haveCommonPoint_41 : decode cX6_haveCommonPoint 41 = .ok (.ifCond .eq 7, 3) := by decide +kernel
theorem dX6_haveCommonPoint_44 : decode cX6_haveCommonPoint 44 = .ok (.iconst 1, 1) := by decide +kernel
theorem dX6_haveCommonPoint_45 : decode cX6_haveCommonPoint 45 = .ok (.goto 4, 3) := by decide +kernel
theorem dX6_haveCommonPoint_48 : decode cX6_haveCommonPoint 48 = .ok (.iconst 0, 1) := by decide +kernel
theorem dX6_haveCommonPoint_49 : decode cX6_haveCommonPoint 49 = .ok (.ireturn, 1) := by decide +kernel
theorem dX6_meet_0 : decode cX6_meet 0 = .ok (.aload_n 0, 1) := by decide +kernel
theorem dX6_meet_1 : decode cX6_meet 1 = .ok (.iload_n 2, 1) := by decide +kernel
theorem dX6_meet_2 : decode cX6_meet 2 = .ok (.iaload, 1) := by decide +kernel
theorem dX6_meet_3 : decode cX6_meet 3 = .ok (.aload_n 0, 1) := by decide +kernel
theorem dX6_meet_4 : decode cX6_meet 4 = .ok (.iload_n 3, 1) := by decide +kernel
theorem dX6_meet_5 : decode cX6_meet 5 = .ok (.iaload, 1) := by decide +kernel
theorem dX6_meet_6 : decode cX6_meet 6 = .ok (.invokestatic 279, 3) := by decide +kernel
theorem dX6_meet_9 : decode cX6_meet 9 = .ok (.istore 4, 2) := by decide +kernel
theorem dX6_meet_11 : decode cX6_meet 11 = .ok (.aload_n 0, 1) := by decide +kernel
theorem dX6_meet_12 : decode cX6_meet 12 = .ok (.iload_n 2, 1) := by decide +kernel
theorem dX6_meet_13 : decode cX6_meet 13 = .ok (.iaload, 1) := by decide +kernel
theorem dX6_meet_14 : decode cX6_meet 14 = .ok (.aload_n 1, 1) := by decide +kernel
theorem dX6_meet_15 : decode cX6_meet 15 = .ok (.iload_n 2, 1) := by decide +kernel
theorem dX6_meet_16 : decode cX6_meet 16 = .ok (.iaload, 1) := by decide +kernel
theorem dX6_meet_17 : decode cX6_meet 17 = .ok (.iadd, 1) := by decide +kernel
theorem dX6_meet_18 : decode cX6_meet 18 = .ok (.aload_n 0, 1) := by decide +kernel
theorem dX6_meet_19 : decode cX6_meet 19 = .ok (.iload_n 3, 1) := by decide +kernel
theorem dX6_meet_20 : decode cX6_meet 20 = .ok (.iaload, 1) := by decide +kernel
theorem dX6_meet_21 : decode cX6_meet 21 = .ok (.aload_n 1, 1) := by decide +kernel
theorem dX6_meet_22 : decode cX6_meet 22 = .ok (.iload_n 3, 1) := by decide +kernel
theorem dX6_meet_23 : decode cX6_meet 23 = .ok (.iaload, 1) := by decide +kernel
theorem dX6_meet_24 : decode cX6_meet 24 = .ok (.iadd, 1) := by decide +kernel
theorem dX6_meet_25 : decode cX6_meet 25 = .ok (.invokestatic 285, 3) := by decide +kernel
theorem dX6_meet_28 : decode cX6_meet 28 = .ok (.istore 5, 2) := by decide +kernel
theorem dX6_meet_30 : decode cX6_meet 30 = .ok (.iload 4, 2) := by decide +kernel
theorem dX6_meet_32 : decode cX6_meet 32 = .ok (.iload 5, 2) := by decide +kernel
theorem dX6_meet_34 : decode cX6_meet 34 = .ok (.if_icmp .ge 7, 3) := by decide +kernel
theorem dX6_meet_37 : decode cX6_meet 37 = .ok (.iconst 1, 1) := by decide +kernel
theorem dX6_meet_38 : decode cX6_meet 38 = .ok (.goto 4, 3) := by decide +kernel
theorem dX6_meet_41 : decode cX6_meet 41 = .ok (.iconst 0, 1) := by decide +kernel
theorem dX6_meet_42 : decode cX6_meet 42 = .ok (.ireturn, 1) := by decide +kernel
theorem dX6_isWithin_0 : decode cX6_isWithin 0 = .ok (.iload_n 0, 1) := by decide +kernel
theorem dX6_isWithin_1 : decode cX6_isWithin 1 = .ok (.iload_n 1, 1) := by decide +kernel
theorem dX6_isWithin_2 : decode cX6_isWithin 2 = .ok (.if_icmp .lt 12, 3) := by decide +kernel
theorem dX6_isWithin_5 : decode cX6_isWithin 5 = .ok (.iload_n 0, 1) := by decide +kernel
theorem dX6_isWithin_6 : decode cX6_isWithin 6 = .ok (.iload_n 2, 1) := by decide +kernel
theorem dX6_isWithin_7 : decode cX6_isWithin 7 = .ok (.if_icmp .gt 7, 3) := by decide +kernel
theorem dX6_isWithin_10 : decode cX6_isWithin 10 = .ok (.iconst 1, 1) := by decide +kernel
theorem dX6_isWithin_11 : decode cX6_isWithin 11 = .ok (.goto 4, 3) := by decide +kernel
theorem dX6_isWithin_14 : decode cX6_isWithin 14 = .ok (.iconst 0, 1) := by decide +kernel
theorem dX6_isWithin_15 : decode cX6_isWithin 15 = .ok (.ireturn, 1) := by decide +kernel
theorem dX6_canHave_0 : decode cX6_canHave 0 = .ok (.iload_n 0, 1) := by decide +kernel
theorem dX6_canHave_1 : decode cX6_canHave 1 = .ok (.iconst 0, 1) := by decide +kernel
theorem dX6_canHave_2 : decode cX6_canHave 2 = .ok (.bipush 9, 2) := by decide +kernel
theorem dX6_canHave_4 : decode cX6_canHave 4 = .ok (.invokestatic 58, 3) := by decide +kernel
theorem dX6_canHave_7 : decode cX6_canHave 7 = .ok (.ifCond .eq 24, 3) := by decide +kernel
theorem dX6_canHave_10 : decode cX6_canHave 10 = .ok (.iload_n 1, 1) := by decide +kernel
theorem dX6_canHave_11 : decode cX6_canHave 11 = .ok (.getstatic 288, 3) := by decide +kernel
theorem dX6_canHave_14 : decode cX6_canHave 14 = .ok (.iload_n 0, 1) := by decide +kernel
theorem dX6_canHave_15 : decode cX6_canHave 15 = .ok (.iaload, 1) := by decide +kernel
theorem dX6_canHave_16 : decode cX6_canHave 16 = .ok (.getstatic 291, 3) := by decide +kernel
theorem dX6_canHave_19 : decode cX6_canHave 19 = .ok (.iload_n 0, 1) := by decide +kernel
theorem dX6_canHave_20 : decode cX6_canHave 20 = .ok (.iaload, 1) := by decide +kernel
theorem dX6_canHave_21 : decode cX6_canHave 21 = .ok (.invokestatic 58, 3) := by decide +kernel
theorem dX6_canHave_24 : decode cX6_canHave 24 = .ok (.ifCond .eq 7, 3) := by decide +kernel
theorem dX6_canHave_27 : decode cX6_canHave 27 = .ok (.iconst 1, 1) := by decide +kernel
theorem dX6_canHave_28 : decode cX6_canHave 28 = .ok (.goto 4, 3) := by decide +kernel
theorem dX6_canHave_31 : decode cX6_canHave 31 = .ok (.iconst 0, 1) := by decide +kernel
theorem dX6_canHave_32 : decode cX6_canHave 32 = .ok (.ireturn, 1) := by decide +kernel
theorem dX6_canBeWeight_0 : decode cX6_canBeWeight 0 = .ok (.iload_n 0, 1) := by decide +kernel
theorem dX6_canBeWeight_1 : decode cX6_canBeWeight 1 = .ok (.iconst 0, 1) := by decide +kernel
theorem dX6_canBeWeight_2 : decode cX6_canBeWeight 2 = .ok (.iconst 3, 1) := by decide +kernel
theorem dX6_canBeWeight_3 : decode cX6_canBeWeight 3 = .ok (.invokestatic 58, 3) := by decide +kernel
theorem dX6_canBeWeight_6 : decode cX6_canBeWeight 6 = .ok (.ifCond .ne 8, 3) := by decide +kernel
theorem dX6_canBeWeight_9 : decode cX6_canBeWeight 9 = .ok (.iload_n 0, 1) := by decide +kernel
theorem dX6_canBeWeight_10 : decode cX6_canBeWeight 10 = .ok (.iconst 5, 1) := by decide +kernel
theorem dX6_canBeWeight_11 : decode cX6_canBeWeight 11 = .ok (.if_icmp .ne 7, 3) := by decide +kernel
theorem dX6_canBeWeight_14 : decode cX6_canBeWeight 14 = .ok (.iconst 1, 1) := by decide +kernel
theorem dX6_canBeWeight_15 : decode cX6_canBeWeight 15 = .ok (.goto 4, 3) := by decide +kernel
theorem dX6_canBeWeight_18 : decode cX6_canBeWeight 18 = .ok (.iconst 0, 1) := by decide +kernel
theorem dX6_canBeWeight_19 : decode cX6_canBeWeight 19 = .ok (.ireturn, 1) := by decide +kernel
theorem dX6_offset_0 : decode cX6_offset 0 = .ok (.iload_n 0, 1) := by decide +kernel
theorem dX6_offset_1 : decode cX6_offset 1 = .ok (.istore 4, 2) := by decide +kernel
theorem dX6_offset_3 : decode cX6_offset 3 = .ok (.iload_n 1, 1) := by decide +kernel
theorem dX6_offset_4 : decode cX6_offset 4 = .ok (.ifCond .ge 11, 3) := by decide +kernel
theorem dX6_offset_7 : decode cX6_offset 7 = .ok (.iload_n 0, 1) := by decide +kernel
theorem dX6_offset_8 : decode cX6_offset 8 = .ok (.iconst 3, 1) := by decide +kernel
theorem dX6_offset_9 : decode cX6_offset 9 = .ok (.if_icmp .ne 6, 3) := by decide +kernel
theorem dX6_offset_12 : decode cX6_offset 12 = .ok (.iconst 0, 1) := by decide +kernel
theorem dX6_offset_13 : decode cX6_offset 13 = .ok (.istore 4, 2) := by decide +kernel
theorem dX6_offset_15 : decode cX6_offset 15 = .ok (.iload_n 1, 1) := by decide +kernel
theorem dX6_offset_16 : decode cX6_offset 16 = .ok (.ifCond .ge 11, 3) := by decide +kernel
theorem dX6_offset_19 : decode cX6_offset 19 = .ok (.iload_n 0, 1) := by decide +kernel
theorem dX6_offset_20 : decode cX6_offset 20 = .ok (.iconst 3, 1) := by decide +kernel
theorem dX6_offset_21 : decode cX6_offset 21 = .ok (.if_icmp .le 6, 3) := by decide +kernel
theorem dX6_offset_24 : decode cX6_offset 24 = .ok (.iconst 2, 1) := by decide +kernel
theorem dX6_offset_25 : decode cX6_offset 25 = .ok (.istore 4, 2) := by decide +kernel
theorem dX6_offset_27 : decode cX6_offset 27 = .ok (.iload 4, 2) := by decide +kernel
theorem dX6_offset_29 : decode cX6_offset 29 = .ok (.tableswitch 98 1 5 #[35, 37, 43, 60, 80], 35) := by decide +kernel
theorem dX6_offset_64 : decode cX6_offset 64 = .ok (.iload_n 1, 1) := by decide +kernel
theorem dX6_offset_65 : decode cX6_offset 65 = .ok (.ireturn, 1) := by decide +kernel
theorem dX6_offset_66 : decode cX6_offset 66 = .ok (.iload_n 1, 1) := by decide +kernel
theorem dX6_offset_67 : decode cX6_offset 67 = .ok (.iconst 2, 1) := by decide +kernel
theorem dX6_offset_68 : decode cX6_offset 68 = .ok (.invokestatic 294, 3) := by decide +kernel
theorem dX6_offset_71 : decode cX6_offset 71 = .ok (.ireturn, 1) := by decide +kernel
theorem dX6_offset_72 : decode cX6_offset 72 = .ok (.iload_n 3, 1) := by decide +kernel
theorem dX6_offset_73 : decode cX6_offset 73 = .ok (.iconst 1, 1) := by decide +kernel
theorem dX6_offset_74 : decode cX6_offset 74 = .ok (.if_icmp .le 13, 3) := by decide +kernel
theorem dX6_offset_77 : decode cX6_offset 77 = .ok (.iload_n 1, 1) := by decide +kernel
theorem dX6_offset_78 : decode cX6_offset 78 = .ok (.iload_n 2, 1) := by decide +kernel
theorem dX6_offset_79 : decode cX6_offset 79 = .ok (.imul, 1) := by decide +kernel
theorem dX6_offset_80 : decode cX6_offset 80 = .ok (.iload_n 3, 1) := by decide +kernel
theorem dX6_offset_81 : decode cX6_offset 81 = .ok (.iconst 1, 1) := by decide +kernel
theorem dX6_offset_82 : decode cX6_offset 82 = .ok (.isub, 1) := by decide +kernel
theorem dX6_offset_83 : decode cX6_offset 83 = .ok (.idiv, 1) := by decide +kernel
theorem dX6_offset_84 : decode cX6_offset 84 = .ok (.goto 4, 3) := by decide +kernel
theorem dX6_offset_87 : decode cX6_offset 87 = .ok (.iconst 0, 1) := by decide +kernel
theorem dX6_offset_88 : decode cX6_offset 88 = .ok (.ireturn, 1) := by decide +kernel
theorem dX6_offset_89 : decode cX6_offset 89 = .ok (.iload_n 3, 1) := by decide +kernel
theorem dX6_offset_90 : decode cX6_offset 90 = .ok (.ifCond .le 17, 3) := by decide +kernel
theorem dX6_offset_93 : decode cX6_offset 93 = .ok (.iload_n 1, 1) := by decide +kernel
theorem dX6_offset_94 : decode cX6_offset 94 = .ok (.iconst 2, 1) := by decide +kernel
theorem dX6_offset_95 : decode cX6_offset 95 = .ok (.iload_n 2, 1) := by decide +kernel
theorem dX6_offset_96 : decode cX6_offset 96 = .ok (.imul, 1) := by decide +kernel
theorem dX6_offset_97 : decode cX6_offset 97 = .ok (.iconst 1, 1) := by decide +kernel
theorem dX6_offset_98 : decode cX6_offset 98 = .ok (.iadd, 1) := by decide +kernel
theorem dX6_offset_99 : decode cX6_offset 99 = .ok (.imul, 1) := by decide +kernel
theorem dX6_offset_100 : decode cX6_offset 100 = .ok (.iconst 2, 1) := by decide +kernel
theorem dX6_offset_101 : decode cX6_offset 101 = .ok (.iload_n 3, 1) := by decide +kernel
theorem dX6_offset_102 : decode cX6_offset 102 = .ok (.imul, 1) := by decide +kernel
theorem dX6_offset_103 : decode cX6_offset 103 = .ok (.idiv, 1) := by decide +kernel
theorem dX6_offset_104 : decode cX6_offset 104 = .ok (.goto 4, 3) := by decide +kernel
theorem dX6_offset_107 : decode cX6_offset 107 = .ok (.iconst 0, 1) := by decide +kernel
theorem dX6_offset_108 : decode cX6_offset 108 = .ok (.ireturn, 1) := by decide +kernel
theorem dX6_offset_109 : decode cX6_offset 109 = .ok (.iload_n 3, 1) := by decide +kernel
theorem dX6_offset_110 : decode cX6_offset 110 = .ok (.ifCond .le 15, 3) := by decide +kernel
theorem dX6_offset_113 : decode cX6_offset 113 = .ok (.iload_n 1, 1) := by decide +kernel
theorem dX6_offset_114 : decode cX6_offset 114 = .ok (.iload_n 2, 1) := by decide +kernel
theorem dX6_offset_115 : decode cX6_offset 115 = .ok (.iconst 1, 1) := by decide +kernel
theorem dX6_offset_116 : decode cX6_offset 116 = .ok (.iadd, 1) := by decide +kernel
theorem dX6_offset_117 : decode cX6_offset 117 = .ok (.imul, 1) := by decide +kernel
theorem dX6_offset_118 : decode cX6_offset 118 = .ok (.iload_n 3, 1) := by decide +kernel
theorem dX6_offset_119 : decode cX6_offset 119 = .ok (.iconst 1, 1) := by decide +kernel
theorem dX6_offset_120 : decode cX6_offset 120 = .ok (.iadd, 1) := by decide +kernel
theorem dX6_offset_121 : decode cX6_offset 121 = .ok (.idiv, 1) := by decide +kernel
theorem dX6_offset_122 : decode cX6_offset 122 = .ok (.goto 4, 3) := by decide +kernel
theorem dX6_offset_125 : decode cX6_offset 125 = .ok (.iconst 0, 1) := by decide +kernel
theorem dX6_offset_126 : decode cX6_offset 126 = .ok (.ireturn, 1) := by decide +kernel
theorem dX6_offset_127 : decode cX6_offset 127 = .ok (.iconst 0, 1) := by decide +kernel
theorem dX6_offset_128 : decode cX6_offset 128 = .ok (.ireturn, 1) := by decide +kernel
theorem dX7_init_0 : decode cX7_init 0 = .ok (.aload_n 0, 1) := by decide +kernel
theorem dX7_init_1 : decode cX7_init 1 = .ok (.invokespecial 1, 3) := by decide +kernel
theorem dX7_init_4 : decode cX7_init 4 = .ok (.aload_n 0, 1) := by decide +kernel
theorem dX7_init_5 : decode cX7_init 5 = .ok (.bipush 9, 2) := by decide +kernel
theorem dX7_init_7 : decode cX7_init 7 = .ok (.newarray .int, 2) := by decide +kernel
theorem dX7_init_9 : decode cX7_init 9 = .ok (.dup, 1) := by decide +kernel
theorem dX7_init_10 : decode cX7_init 10 = .ok (.iconst 0, 1) := by decide +kernel
theorem dX7_init_11 : decode cX7_init 11 = .ok (.bipush 100, 2) := by decide +kernel
theorem dX7_init_13 : decode cX7_init 13 = .ok (.iastore, 1) := by decide +kernel
theorem dX7_init_14 : decode cX7_init 14 = .ok (.dup, 1) := by decide +kernel
theorem dX7_init_15 : decode cX7_init 15 = .ok (.iconst 1, 1) := by decide +kernel
theorem dX7_init_16 : decode cX7_init 16 = .ok (.iconst (-1), 1) := by decide +kernel
theorem dX7_init_17 : decode cX7_init 17 = .ok (.iastore, 1) := by decide +kernel
theorem dX7_init_18 : decode cX7_init 18 = .ok (.dup, 1) := by decide +kernel
theorem dX7_init_19 : decode cX7_init 19 = .ok (.iconst 2, 1) := by decide +kernel
theorem dX7_init_20 : decode cX7_init 20 = .ok (.iconst 0, 1) := by decide +kernel
theorem dX7_init_21 : decode cX7_init 21 = .ok (.iastore, 1) := by decide +kernel
theorem dX7_init_22 : decode cX7_init 22 = .ok (.dup, 1) := by decide +kernel
theorem dX7_init_23 : decode cX7_init 23 = .ok (.iconst 3, 1) := by decide +kernel
theorem dX7_init_24 : decode cX7_init 24 = .ok (.iconst 0, 1) := by decide +kernel
theorem dX7_init_25 : decode cX7_init 25 = .ok (.iastore, 1) := by decide +kernel
theorem dX7_init_26 : decode cX7_init 26 = .ok (.dup, 1) := by decide +kernel
theorem dX7_init_27 : decode cX7_init 27 = .ok (.iconst 4, 1) := by decide +kernel
theorem dX7_init_28 : decode cX7_init 28 = .ok (.iconst 0, 1) := by decide +kernel
theorem dX7_init_29 : decode cX7_init 29 = .ok (.iastore, 1) := by decide +kernel
theorem dX7_init_30 : decode cX7_init 30 = .ok (.dup, 1) := by decide +kernel
theorem dX7_init_31 : decode cX7_init 31 = .ok (.iconst 5, 1) := by decide +kernel
theorem dX7_init_32 : decode cX7_init 32 = .ok (.iconst 0, 1) := by decide +kernel
theorem dX7_init_33 : decode cX7_init 33 = .ok (.iastore, 1) := by decide +kernel
theorem dX7_init_34 : decode cX7_init 34 = .ok (.dup, 1) := by decide +kernel
theorem dX7_init_35 : decode cX7_init 35 = .ok (.bipush 6, 2) := by decide +kernel
theorem dX7_init_37 : decode cX7_init 37 = .ok (.iconst 0, 1) := by decide +kernel
theorem dX7_init_38 : decode cX7_init 38 = .ok (.iastore, 1) := by decide +kernel
theorem dX7_init_39 : decode cX7_init 39 = .ok (.dup, 1) := by decide +kernel
theorem dX7_init_40 : decode cX7_init 40 = .ok (.bipush 7, 2) := by decide +kernel
theorem dX7_init_42 : decode cX7_init 42 = .ok (.iconst 0, 1) := by decide +kernel
theorem dX7_init_43 : decode cX7_init 43 = .ok (.iastore, 1) := by decide +kernel
theorem dX7_init_44 : decode cX7_init 44 = .ok (.dup, 1) := by decide +kernel
theorem dX7_init_45 : decode cX7_init 45 = .ok (.bipush 8, 2) := by decide +kernel
theorem dX7_init_47 : decode cX7_init 47 = .ok (.iconst 0, 1) := by decide +kernel
theorem dX7_init_48 : decode cX7_init 48 = .ok (.iastore, 1) := by decide +kernel
theorem dX7_init_49 : decode cX7_init 49 = .ok (.putfield 9, 3) := by decide +kernel
theorem dX7_init_52 : decode cX7_init 52 = .ok (.aload_n 0, 1) := by decide +kernel
theorem dX7_init_53 : decode cX7_init 53 = .ok (.sipush 200, 3) := by decide +kernel
theorem dX7_init_56 : decode cX7_init 56 = .ok (.newarray .int, 2) := by decide +kernel
theorem dX7_init_58 : decode cX7_init 58 = .ok (.putfield 13, 3) := by decide +kernel
theorem dX7_init_61 : decode cX7_init 61 = .ok (.aload_n 0, 1) := by decide +kernel
theorem dX7_init_62 : decode cX7_init 62 = .ok (.bipush 80, 2) := by decide +kernel
theorem dX7_init_64 : decode cX7_init 64 = .ok (.newarray .char, 2) := by decide +kernel
theorem dX7_init_66 : decode cX7_init 66 = .ok (.putfield 16, 3) := by decide +kernel
theorem dX7_init_69 : decode cX7_init 69 = .ok (.aload_n 0, 1) := by decide +kernel
theorem dX7_init_70 : decode cX7_init 70 = .ok (.bipush 40, 2) := by decide +kernel
theorem dX7_init_72 : decode cX7_init 72 = .ok (.newarray .int, 2) := by decide +kernel
theorem dX7_init_74 : decode cX7_init 74 = .ok (.putfield 20, 3) := by decide +kernel
theorem dX7_init_77 : decode cX7_init 77 = .ok (.aload_n 0, 1) := by decide +kernel
theorem dX7_init_78 : decode cX7_init 78 = .ok (.bipush 40, 2) := by decide +kernel
theorem dX7_init_80 : decode cX7_init 80 = .ok (.newarray .int, 2) := by decide +kernel
theorem dX7_init_82 : decode cX7_init 82 = .ok (.putfield 23, 3) := by decide +kernel
theorem dX7_init_85 : decode cX7_init 85 = .ok (.aload_n 0, 1) := by decide +kernel
theorem dX7_init_86 : decode cX7_init 86 = .ok (.bipush 40, 2) := by decide +kernel
theorem dX7_init_88 : decode cX7_init 88 = .ok (.newarray .int, 2) := by decide +kernel
theorem dX7_init_90 : decode cX7_init 90 = .ok (.putfield 26, 3) := by decide +kernel
theorem dX7_init_93 : decode cX7_init 93 = .ok (.aload_n 0, 1) := by decide +kernel
theorem dX7_init_94 : decode cX7_init 94 = .ok (.bipush 20, 2) := by decide +kernel
theorem dX7_init_96 : decode cX7_init 96 = .ok (.newarray .long, 2) := by decide +kernel
theorem dX7_init_98 : decode cX7_init 98 = .ok (.putfield 29, 3) := by decide +kernel
theorem dX7_init_101 : decode cX7_init 101 = .ok (.aload_n 0, 1) := by decide +kernel
theorem dX7_init_102 : decode cX7_init 102 = .ok (.bipush 20, 2) := by decide +kernel
theorem dX7_init_104 : decode cX7_init 104 = .ok (.newarray .long, 2) := by decide +kernel
theorem dX7_init_106 : decode cX7_init 106 = .ok (.putfield 33, 3) := by decide +kernel
theorem dX7_init_109 : decode cX7_init 109 = .ok (.aload_n 0, 1) := by decide +kernel
theorem dX7_init_110 : decode cX7_init 110 = .ok (.bipush 20, 2) := by decide +kernel
theorem dX7_init_112 : decode cX7_init 112 = .ok (.newarray .long, 2) := by decide +kernel
theorem dX7_init_114 : decode cX7_init 114 = .ok (.putfield 36, 3) := by decide +kernel
theorem dX7_init_117 : decode cX7_init 117 = .ok (.aload_n 0, 1) := by decide +kernel
theorem dX7_init_118 : decode cX7_init 118 = .ok (.bipush 20, 2) := by decide +kernel
theorem dX7_init_120 : decode cX7_init 120 = .ok (.newarray .int, 2) := by decide +kernel
theorem dX7_init_122 : decode cX7_init 122 = .ok (.putfield 39, 3) := by decide +kernel
theorem dX7_init_125 : decode cX7_init 125 = .ok (.aload_n 0, 1) := by decide +kernel
theorem dX7_init_126 : decode cX7_init 126 = .ok (.bipush 20, 2) := by decide +kernel
theorem dX7_init_128 : decode cX7_init 128 = .ok (.newarray .int, 2) := by decide +kernel
theorem dX7_init_130 : decode cX7_init 130 = .ok (.putfield 42, 3) := by decide +kernel
theorem dX7_init_133 : decode cX7_init 133 = .ok (.aload_n 0, 1) := by decide +kernel
theorem dX7_init_134 : decode cX7_init 134 = .ok (.bipush 20, 2) := by decide +kernel
theorem dX7_init_136 : decode cX7_init 136 = .ok (.newarray .int, 2) := by decide +kernel
theorem dX7_init_138 : decode cX7_init 138 = .ok (.putfield 45, 3) := by decide +kernel
theorem dX7_init_141 : decode cX7_init 141 = .ok (.aload_n 0, 1) := by decide +kernel
theorem dX7_init_142 : decode cX7_init 142 = .ok (.bipush 20, 2) := by decide +kernel
theorem dX7_init_144 : decode cX7_init 144 = .ok (.newarray .int, 2) := by decide +kernel
theorem dX7_init_146 : decode cX7_init 146 = .ok (.putfield 48, 3) := by decide +kernel
theorem dX7_init_149 : decode cX7_init 149 = .ok (.aload_n 0, 1) := by decide +kernel
theorem dX7_init_150 : decode cX7_init 150 = .ok (.bipush 20, 2) := by decide +kernel
theorem dX7_init_152 : decode cX7_init 152 = .ok (.newarray .int, 2) := by decide +kernel
theorem dX7_init_154 : decode cX7_init 154 = .ok (.putfield 51, 3) := by decide +kernel
theorem dX7_init_157 : decode cX7_init 157 = .ok (.aload_n 0, 1) := by decide +kernel
theorem dX7_init_158 : decode cX7_init 158 = .ok (.bipush 20, 2) := by decide +kernel
theorem dX7_init_160 : decode cX7_init 160 = .ok (.newarray .int, 2) := by decide +kernel
theorem dX7_init_162 : decode cX7_init 162 = .ok (.putfield 54, 3) := by decide +kernel
theorem dX7_init_165 : decode cX7_init 165 = .ok (.aload_n 0, 1) := by decide +kernel
theorem dX7_init_166 : decode cX7_init 166 = .ok (.bipush 20, 2) := by decide +kernel
theorem dX7_init_168 : decode cX7_init 168 = .ok (.newarray .int, 2) := by decide +kernel
theorem dX7_init_170 : decode cX7_init 170 = .ok (.putfield 57, 3) := by decide +kernel
theorem dX7_init_173 : decode cX7_init 173 = .ok (.aload_n 0, 1) := by decide +kernel
theorem dX7_init_174 : decode cX7_init 174 = .ok (.bipush 20, 2) := by decide +kernel
theorem dX7_init_176 : decode cX7_init 176 = .ok (.newarray .boolean, 2) := by decide +kernel
theorem dX7_init_178 : decode cX7_init 178 = .ok (.putfield 60, 3) := by decide +kernel
theorem dX7_init_181 : decode cX7_init 181 = .ok (.aload_n 0, 1) := by decide +kernel
theorem dX7_init_182 : decode cX7_init 182 = .ok (.bipush 20, 2) := by decide +kernel
theorem dX7_init_184 : decode cX7_init 184 = .ok (.newarray .int, 2) := by decide +kernel
theorem dX7_init_186 : decode cX7_init 186 = .ok (.putfield 64, 3) := by decide +kernel
theorem dX7_init_189 : decode cX7_init 189 = .ok (.aload_n 0, 1) := by decide +kernel
theorem dX7_init_190 : decode cX7_init 190 = .ok (.bipush 20, 2) := by decide +kernel
theorem dX7_init_192 : decode cX7_init 192 = .ok (.newarray .int, 2) := by decide +kernel
theorem dX7_init_194 : decode cX7_init 194 = .ok (.putfield 67, 3) := by decide +kernel
theorem dX7_init_197 : decode cX7_init 197 = .ok (.aload_n 0, 1) := by decide +kernel
theorem dX7_init_198 : decode cX7_init 198 = .ok (.bipush 20, 2) := by decide +kernel
theorem dX7_init_200 : decode cX7_init 200 = .ok (.newarray .int, 2) := by decide +kernel
theorem dX7_init_202 : decode cX7_init 202 = .ok (.putfield 70, 3) := by decide +kernel
theorem dX7_init_205 : decode cX7_init 205 = .ok (.aload_n 0, 1) := by decide +kernel
theorem dX7_init_206 : decode cX7_init 206 = .ok (.bipush 20, 2) := by decide +kernel
theorem dX7_init_208 : decode cX7_init 208 = .ok (.newarray .int, 2) := by decide +kernel
theorem dX7_init_210 : decode cX7_init 210 = .ok (.putfield 73, 3) := by decide +kernel
theorem dX7_init_213 : decode cX7_init 213 = .ok (.aload_n 0, 1) := by decide +kernel
theorem dX7_init_214 : decode cX7_init 214 = .ok (.bipush 20, 2) := by decide +kernel
theorem dX7_init_216 : decode cX7_init 216 = .ok (.newarray .int, 2) := by decide +kernel
theorem dX7_init_218 : decode cX7_init 218 = .ok (.putfield 76, 3) := by decide +kernel
theorem dX7_init_221 : decode cX7_init 221 = .ok (.aload_n 0, 1) := by decide +kernel
theorem dX7_init_222 : decode cX7_init 222 = .ok (.bipush 20, 2) := by decide +kernel
theorem dX7_init_224 : decode cX7_init 224 = .ok (.newarray .int, 2) := by decide +kernel
theorem dX7_init_226 : decode cX7_init 226 = .ok (.putfield 79, 3) := by decide +kernel
theorem dX7_init_229 : decode cX7_init 229 = .ok (.aload_n 0, 1) := by decide +kernel
theorem dX7_init_230 : decode cX7_init 230 = .ok (.bipush 20, 2) := by decide +kernel
theorem dX7_init_232 : decode cX7_init 232 = .ok (.newarray .int, 2) := by decide +kernel
theorem dX7_init_234 : decode cX7_init 234 = .ok (.putfield 82, 3) := by decide +kernel
theorem dX7_init_237 : decode cX7_init 237 = .ok (.aload_n 0, 1) := by decide +kernel
theorem dX7_init_238 : decode cX7_init 238 = .ok (.bipush 20, 2) := by decide +kernel
theorem dX7_init_240 : decode cX7_init 240 = .ok (.newarray .int, 2) := by decide +kernel
theorem dX7_init_242 : decode cX7_init 242 = .ok (.putfield 85, 3) := by decide +kernel
theorem dX7_init_245 : decode cX7_init 245 = .ok (.aload_n 0, 1) := by decide +kernel
theorem dX7_init_246 : decode cX7_init 246 = .ok (.bipush 20, 2) := by decide +kernel
theorem dX7_init_248 : decode cX7_init 248 = .ok (.newarray .int, 2) := by decide +kernel
theorem dX7_init_250 : decode cX7_init 250 = .ok (.putfield 88, 3) := by decide +kernel
theorem dX7_init_253 : decode cX7_init 253 = .ok (.aload_n 0, 1) := by decide +kernel
theorem dX7_init_254 : decode cX7_init 254 = .ok (.sipush 210, 3) := by decide +kernel
theorem dX7_init_257 : decode cX7_init 257 = .ok (.newarray .int, 2) := by decide +kernel
theorem dX7_init_259 : decode cX7_init 259 = .ok (.putfield 91, 3) := by decide +kernel
theorem dX7_init_262 : decode cX7_init 262 = .ok (.aload_n 0, 1) := by decide +kernel
theorem dX7_init_263 : decode cX7_init 263 = .ok (.iconst (-1), 1) := by decide +kernel
theorem dX7_init_264 : decode cX7_init 264 = .ok (.putfield 94, 3) := by decide +kernel
theorem dX7_init_267 : decode cX7_init 267 = .ok (.return_, 1) := by decide +kernel
theorem dX7_thrown_0 : decode cX7_thrown 0 = .ok (.aload_n 0, 1) := by decide +kernel
theorem dX7_thrown_1 : decode cX7_thrown 1 = .ok (.getfield 98, 3) := by decide +kernel
theorem dX7_thrown_4 : decode cX7_thrown 4 = .ok (.ireturn, 1) := by decide +kernel
theorem dX7_fails_0 : decode cX7_fails 0 = .ok (.aload_n 0, 1) := by decide +kernel
theorem dX7_fails_1 : decode cX7_fails 1 = .ok (.iload_n 1, 1) := by decide +kernel
theorem dX7_fails_2 : decode cX7_fails 2 = .ok (.putfield 98, 3) := by decide +kernel
theorem dX7_fails_5 : decode cX7_fails 5 = .ok (.iconst 0, 1) := by decide +kernel
theorem dX7_fails_6 : decode cX7_fails 6 = .ok (.ireturn, 1) := by decide +kernel
theorem dX7_isBetween_0 : decode cX7_isBetween 0 = .ok (.lload_n 0, 1) := by decide +kernel
theorem dX7_isBetween_1 : decode cX7_isBetween 1 = .ok (.lload_n 2, 1) := by decide +kernel
theorem dX7_isBetween_2 : decode cX7_isBetween 2 = .ok (.lcmp, 1) := by decide +kernel
theorem dX7_isBetween_3 : decode cX7_isBetween 3 = .ok (.ifCond .lt 14, 3) := by decide +kernel
theorem dX7_isBetween_6 : decode cX7_isBetween 6 = .ok (.lload_n 0, 1) := by decide +kernel
theorem dX7_isBetween_7 : decode cX7_isBetween 7 = .ok (.lload 4, 2) := by decide +kernel
theorem dX7_isBetween_9 : decode cX7_isBetween 9 = .ok (.lcmp, 1) := by decide +kernel
theorem dX7_isBetween_10 : decode cX7_isBetween 10 = .ok (.ifCond .gt 7, 3) := by decide +kernel
theorem dX7_isBetween_13 : decode cX7_isBetween 13 = .ok (.iconst 1, 1) := by decide +kernel
theorem dX7_isBetween_14 : decode cX7_isBetween 14 = .ok (.goto 4, 3) := by decide +kernel
theorem dX7_isBetween_17 : decode cX7_isBetween 17 = .ok (.iconst 0, 1) := by decide +kernel
theorem dX7_isBetween_18 : decode cX7_isBetween 18 = .ok (.ireturn, 1) := by decide +kernel
theorem dX7_replaces_0 : decode cX7_replaces 0 = .ok (.aload_n 0, 1) := by decide +kernel
theorem dX7_replaces_1 : decode cX7_replaces 1 = .ok (.iconst 0, 1) := by decide +kernel
theorem dX7_replaces_2 : decode cX7_replaces 2 = .ok (.putfield 98, 3) := by decide +kernel
theorem dX7_replaces_5 : decode cX7_replaces 5 = .ok (.aload_n 0, 1) := by decide +kernel
theorem dX7_replaces_6 : decode cX7_replaces 6 = .ok (.getfield 9, 3) := by decide +kernel
theorem dX7_replaces_9 : decode cX7_replaces 9 = .ok (.iload_n 1, 1) := by decide +kernel
theorem dX7_replaces_10 : decode cX7_replaces 10 = .ok (.iaload, 1) := by decide +kernel
theorem dX7_replaces_11 : decode cX7_replaces 11 = .ok (.istore_n 3, 1) := by decide +kernel
theorem dX7_replaces_12 : decode cX7_replaces 12 = .ok (.aload_n 0, 1) := by decide +kernel
theorem dX7_replaces_13 : decode cX7_replaces 13 = .ok (.getfield 9, 3) := by decide +kernel
theorem dX7_replaces_16 : decode cX7_replaces 16 = .ok (.iload_n 1, 1) := by decide +kernel
theorem dX7_replaces_17 : decode cX7_replaces 17 = .ok (.iload_n 2, 1) := by decide +kernel
theorem dX7_replaces_18 : decode cX7_replaces 18 = .ok (.iastore, 1) := by decide +kernel
theorem dX7_replaces_19 : decode cX7_replaces 19 = .ok (.iload_n 3, 1) := by decide +kernel
theorem dX7_replaces_20 : decode cX7_replaces 20 = .ok (.ireturn, 1) := by decide +kernel
theorem dX7_setMainSize_0 : decode cX7_setMainSize 0 = .ok (.iload_n 1, 1) := by decide +kernel
theorem dX7_setMainSize_1 : decode cX7_setMainSize 1 = .ok (.i2l, 1) := by decide +kernel
theorem dX7_setMainSize_2 : decode cX7_setMainSize 2 = .ok (.lconst 0, 1) := by decide +kernel
theorem dX7_setMainSize_3 : decode cX7_setMainSize 3 = .ok (.ldc2_w 101, 3) := by decide +kernel
theorem dX7_setMainSize_6 : decode cX7_setMainSize 6 = .ok (.invokestatic 103, 3) := by decide +kernel
theorem dX7_setMainSize_9 : decode cX7_setMainSize 9 = .ok (.ifCond .eq 12, 3) := by decide +kernel
theorem dX7_setMainSize_12 : decode cX7_setMainSize 12 = .ok (.aload_n 0, 1) := by decide +kernel
theorem dX7_setMainSize_13 : decode cX7_setMainSize 13 = .ok (.iconst 0, 1) := by decide +kernel
theorem dX7_setMainSize_14 : decode cX7_setMainSize 14 = .ok (.iload_n 1, 1) := by decide +kernel
theorem dX7_setMainSize_15 : decode cX7_setMainSize 15 = .ok (.invokevirtual 107, 3) := by decide +kernel
theorem dX7_setMainSize_18 : decode cX7_setMainSize 18 = .ok (.goto 8, 3) := by decide +kernel
theorem dX7_setMainSize_21 : decode cX7_setMainSize 21 = .ok (.aload_n 0, 1) := by decide +kernel
theorem dX7_setMainSize_22 : decode cX7_setMainSize 22 = .ok (.iconst 1, 1) := by decide +kernel
theorem dX7_setMainSize_23 : decode cX7_setMainSize 23 = .ok (.invokevirtual 111, 3) := by decide +kernel
theorem dX7_setMainSize_26 : decode cX7_setMainSize 26 = .ok (.ireturn, 1) := by decide +kernel
theorem dX7_setCrossSize_0 : decode cX7_setCrossSize 0 = .ok (.iload_n 1, 1) := by decide +kernel
theorem dX7_setCrossSize_1 : decode cX7_setCrossSize 1 = .ok (.i2l, 1) := by decide +kernel
theorem dX7_setCrossSize_2 : decode cX7_setCrossSize 2 = .ok (.ldc2_w 115, 3) := by decide +kernel
theorem dX7_setCrossSize_5 : decode cX7_setCrossSize 5 = .ok (.ldc2_w 101, 3) := by decide +kernel
theorem dX7_setCrossSize_8 : decode cX7_setCrossSize 8 = .ok (.invokestatic 103, 3) := by decide +kernel
theorem dX7_setCrossSize_11 : decode cX7_setCrossSize 11 = .ok (.ifCond .eq 12, 3) := by decide +kernel
theorem dX7_setCrossSize_14 : decode cX7_setCrossSize 14 = .ok (.aload_n 0, 1) := by decide +kernel
theorem dX7_setCrossSize_15 : decode cX7_setCrossSize 15 = .ok (.iconst 1, 1) := by decide +kernel
theorem dX7_setCrossSize_16 : decode cX7_setCrossSize 16 = .ok (.iload_n 1, 1) := by decide +kernel
theorem dX7_setCrossSize_17 : decode cX7_setCrossSize 17 = .ok (.invokevirtual 107, 3) := by decide +kernel
theorem dX7_setCrossSize_20 : decode cX7_setCrossSize 20 = .ok (.goto 8, 3) := by decide +kernel
theorem dX7_setCrossSize_23 : decode cX7_setCrossSize 23 = .ok (.aload_n 0, 1) := by decide +kernel
theorem dX7_setCrossSize_24 : decode cX7_setCrossSize 24 = .ok (.iconst 1, 1) := by decide +kernel
theorem dX7_setCrossSize_25 : decode cX7_setCrossSize 25 = .ok (.invokevirtual 111, 3) := by decide +kernel
theorem dX7_setCrossSize_28 : decode cX7_setCrossSize 28 = .ok (.ireturn, 1) := by decide +kernel
theorem dX7_setGaps_0 : decode cX7_setGaps 0 = .ok (.iload_n 1, 1) := by decide +kernel
theorem dX7_setGaps_1 : decode cX7_setGaps 1 = .ok (.i2l, 1) := by decide +kernel
theorem dX7_setGaps_2 : decode cX7_setGaps 2 = .ok (.lconst 0, 1) := by decide +kernel
theorem dX7_setGaps_3 : decode cX7_setGaps 3 = .ok (.ldc2_w 117, 3) := by decide +kernel
theorem dX7_setGaps_6 : decode cX7_setGaps 6 = .ok (.invokestatic 103, 3) := by decide +kernel
theorem dX7_setGaps_9 : decode cX7_setGaps 9 = .ok (.ifCond .eq 15, 3) := by decide +kernel
theorem dX7_setGaps_12 : decode cX7_setGaps 12 = .ok (.iload_n 2, 1) := by decide +kernel
theorem dX7_setGaps_13 : decode cX7_setGaps 13 = .ok (.i2l, 1) := by decide +kernel
theorem dX7_setGaps_14 : decode cX7_setGaps 14 = .ok (.lconst 0, 1) := by decide +kernel
theorem dX7_setGaps_15 : decode cX7_setGaps 15 = .ok (.ldc2_w 117, 3) := by decide +kernel
theorem dX7_setGaps_18 : decode cX7_setGaps 18 = .ok (.invokestatic 103, 3) := by decide +kernel
theorem dX7_setGaps_21 : decode cX7_setGaps 21 = .ok (.ifCond .ne 9, 3) := by decide +kernel
theorem dX7_setGaps_24 : decode cX7_setGaps 24 = .ok (.aload_n 0, 1) := by decide +kernel
theorem dX7_setGaps_25 : decode cX7_setGaps 25 = .ok (.iconst 1, 1) := by decide +kernel
theorem dX7_setGaps_26 : decode cX7_setGaps 26 = .ok (.invokevirtual 111, 3) := by decide +kernel
theorem dX7_setGaps_29 : decode cX7_setGaps 29 = .ok (.ireturn, 1) := by decide +kernel
theorem dX7_setGaps_30 : decode cX7_setGaps 30 = .ok (.bipush 100, 2) := by decide +kernel
theorem dX7_setGaps_32 : decode cX7_setGaps 32 = .ok (.aload_n 0, 1) := by decide +kernel
theorem dX7_setGaps_33 : decode cX7_setGaps 33 = .ok (.iconst 2, 1) := by decide +kernel
theorem dX7_setGaps_34 : decode cX7_setGaps 34 = .ok (.iload_n 1, 1) := by decide +kernel
theorem dX7_setGaps_35 : decode cX7_setGaps 35 = .ok (.invokevirtual 107, 3) := by decide +kernel
theorem dX7_setGaps_38 : decode cX7_setGaps 38 = .ok (.imul, 1) := by decide +kernel
theorem dX7_setGaps_39 : decode cX7_setGaps 39 = .ok (.istore_n 3, 1) := by decide +kernel
theorem dX7_setGaps_40 : decode cX7_setGaps 40 = .ok (.iload_n 3, 1) := by decide +kernel
theorem dX7_setGaps_41 : decode cX7_setGaps 41 = .ok (.aload_n 0, 1) := by decide +kernel
theorem dX7_setGaps_42 : decode cX7_setGaps 42 = .ok (.iconst 3, 1) := by decide +kernel
theorem dX7_setGaps_43 : decode cX7_setGaps 43 = .ok (.iload_n 2, 1) := by decide +kernel
theorem dX7_setGaps_44 : decode cX7_setGaps 44 = .ok (.invokevirtual 107, 3) := by decide +kernel
theorem dX7_setGaps_47 : decode cX7_setGaps 47 = .ok (.iadd, 1) := by decide +kernel
theorem dX7_setGaps_48 : decode cX7_setGaps 48 = .ok (.ireturn, 1) := by decide +kernel
theorem dX7_setSetting_0 : decode cX7_setSetting 0 = .ok (.iload_n 1, 1) := by decide +kernel
theorem dX7_setSetting_1 : decode cX7_setSetting 1 = .ok (.i2l, 1) := by decide +kernel
theorem dX7_setSetting_2 : decode cX7_setSetting 2 = .ok (.lconst 0, 1) := by decide +kernel
theorem dX7_setSetting_3 : decode cX7_setSetting 3 = .ok (.ldc2_w 119, 3) := by decide +kernel
theorem dX7_setSetting_6 : decode cX7_setSetting 6 = .ok (.invokestatic 103, 3) := by decide +kernel
theorem dX7_setSetting_9 : decode cX7_setSetting 9 = .ok (.ifCond .ne 9, 3) := by decide +kernel
theorem dX7_setSetting_12 : decode cX7_setSetting 12 = .ok (.aload_n 0, 1) := by decide +kernel
theorem dX7_setSetting_13 : decode cX7_setSetting 13 = .ok (.iconst 1, 1) := by decide +kernel
theorem dX7_setSetting_14 : decode cX7_setSetting 14 = .ok (.invokevirtual 111, 3) := by decide +kernel
theorem dX7_setSetting_17 : decode cX7_setSetting 17 = .ok (.ireturn, 1) := by decide +kernel
theorem dX7_setSetting_18 : decode cX7_setSetting 18 = .ok (.iload_n 2, 1) := by decide +kernel
theorem dX7_setSetting_19 : decode cX7_setSetting 19 = .ok (.i2l, 1) := by decide +kernel
theorem dX7_setSetting_20 : decode cX7_setSetting 20 = .ok (.lconst 0, 1) := by decide +kernel
theorem dX7_setSetting_21 : decode cX7_setSetting 21 = .ok (.getstatic 121, 3) := by decide +kernel
theorem dX7_setSetting_24 : decode cX7_setSetting 24 = .ok (.iload_n 1, 1) := by decide +kernel
theorem dX7_setSetting_25 : decode cX7_setSetting 25 = .ok (.iaload, 1) := by decide +kernel
theorem dX7_setSetting_26 : decode cX7_setSetting 26 = .ok (.i2l, 1) := by decide +kernel
theorem dX7_setSetting_27 : decode cX7_setSetting 27 = .ok (.invokestatic 103, 3) := by decide +kernel
theorem dX7_setSetting_30 : decode cX7_setSetting 30 = .ok (.ifCond .eq 14, 3) := by decide +kernel
theorem dX7_setSetting_33 : decode cX7_setSetting 33 = .ok (.aload_n 0, 1) := by decide +kernel
theorem dX7_setSetting_34 : decode cX7_setSetting 34 = .ok (.iconst 4, 1) := by decide +kernel
theorem dX7_setSetting_35 : decode cX7_setSetting 35 = .ok (.iload_n 1, 1) := by decide +kernel
theorem dX7_setSetting_36 : decode cX7_setSetting 36 = .ok (.iadd, 1) := by decide +kernel
theorem dX7_setSetting_37 : decode cX7_setSetting 37 = .ok (.iload_n 2, 1) := by decide +kernel
theorem dX7_setSetting_38 : decode cX7_setSetting 38 = .ok (.invokevirtual 107, 3) := by decide +kernel
theorem dX7_setSetting_41 : decode cX7_setSetting 41 = .ok (.goto 8, 3) := by decide +kernel
theorem dX7_setSetting_44 : decode cX7_setSetting 44 = .ok (.aload_n 0, 1) := by decide +kernel
theorem dX7_setSetting_45 : decode cX7_setSetting 45 = .ok (.iconst 2, 1) := by decide +kernel
theorem dX7_setSetting_46 : decode cX7_setSetting 46 = .ok (.invokevirtual 111, 3) := by decide +kernel
theorem dX7_setSetting_49 : decode cX7_setSetting 49 = .ok (.ireturn, 1) := by decide +kernel
theorem dX7_isItem_0 : decode cX7_isItem 0 = .ok (.iload_n 1, 1) := by decide +kernel
theorem dX7_isItem_1 : decode cX7_isItem 1 = .ok (.ifCond .lt 15, 3) := by decide +kernel
theorem dX7_isItem_4 : decode cX7_isItem 4 = .ok (.iload_n 1, 1) := by decide +kernel
theorem dX7_isItem_5 : decode cX7_isItem 5 = .ok (.aload_n 0, 1) := by decide +kernel
theorem dX7_isItem_6 : decode cX7_isItem 6 = .ok (.getfield 124, 3) := by decide +kernel
theorem dX7_isItem_9 : decode cX7_isItem 9 = .ok (.if_icmp .ge 7, 3) := by decide +kernel
theorem dX7_isItem_12 : decode cX7_isItem 12 = .ok (.iconst 1, 1) := by decide +kernel
theorem dX7_isItem_13 : decode cX7_isItem 13 = .ok (.goto 4, 3) := by decide +kernel
theorem dX7_isItem_16 : decode cX7_isItem 16 = .ok (.iconst 0, 1) := by decide +kernel
theorem dX7_isItem_17 : decode cX7_isItem 17 = .ok (.ireturn, 1) := by decide +kernel
theorem dX7_of_0 : decode cX7_of 0 = .ok (.aload_n 0, 1) := by decide +kernel
theorem dX7_of_1 : decode cX7_of 1 = .ok (.getfield 13, 3) := by decide +kernel
theorem dX7_of_4 : decode cX7_of 4 = .ok (.bipush 10, 2) := by decide +kernel
theorem dX7_of_6 : decode cX7_of 6 = .ok (.iload_n 1, 1) := by decide +kernel
theorem dX7_of_7 : decode cX7_of 7 = .ok (.imul, 1) := by decide +kernel
theorem dX7_of_8 : decode cX7_of 8 = .ok (.iload_n 2, 1) := by decide +kernel
theorem dX7_of_9 : decode cX7_of 9 = .ok (.iadd, 1) := by decide +kernel
theorem dX7_of_10 : decode cX7_of 10 = .ok (.iaload, 1) := by decide +kernel
theorem dX7_of_11 : decode cX7_of 11 = .ok (.ireturn, 1) := by decide +kernel
theorem dX7_begins_0 : decode cX7_begins 0 = .ok (.iconst 0, 1) := by decide +kernel
theorem dX7_begins_1 : decode cX7_begins 1 = .ok (.istore_n 3, 1) := by decide +kernel
theorem dX7_begins_2 : decode cX7_begins 2 = .ok (.iload_n 3, 1) := by decide +kernel
theorem dX7_begins_3 : decode cX7_begins 3 = .ok (.bipush 10, 2) := by decide +kernel
theorem dX7_begins_5 : decode cX7_begins 5 = .ok (.if_icmp .ge 28, 3) := by decide +kernel
theorem dX7_begins_8 : decode cX7_begins 8 = .ok (.aload_n 0, 1) := by decide +kernel
theorem dX7_begins_9 : decode cX7_begins 9 = .ok (.getfield 13, 3) := by decide +kernel
theorem dX7_begins_12 : decode cX7_begins 12 = .ok (.bipush 10, 2) := by decide +kernel
theorem dX7_begins_14 : decode cX7_begins 14 = .ok (.aload_n 0, 1) := by decide +kernel
theorem dX7_begins_15 : decode cX7_begins 15 = .ok (.getfield 124, 3) := by decide +kernel
theorem dX7_begins_18 : decode cX7_begins 18 = .ok (.imul, 1) := by decide +kernel
theorem dX7_begins_19 : decode cX7_begins 19 = .ok (.iload_n 3, 1) := by decide +kernel
theorem dX7_begins_20 : decode cX7_begins 20 = .ok (.iadd, 1) := by decide +kernel
theorem dX7_begins_21 : decode cX7_begins 21 = .ok (.getstatic 127, 3) := by decide +kernel
theorem dX7_begins_24 : decode cX7_begins 24 = .ok (.iload_n 3, 1) := by decide +kernel
theorem dX7_begins_25 : decode cX7_begins 25 = .ok (.iaload, 1) := by decide +kernel
theorem dX7_begins_26 : decode cX7_begins 26 = .ok (.iastore, 1) := by decide +kernel
theorem dX7_begins_27 : decode cX7_begins 27 = .ok (.iinc 3 1, 3) := by decide +kernel
theorem dX7_begins_30 : decode cX7_begins 30 = .ok (.goto (-28), 3) := by decide +kernel
theorem dX7_begins_33 : decode cX7_begins 33 = .ok (.aload_n 0, 1) := by decide +kernel
theorem dX7_begins_34 : decode cX7_begins 34 = .ok (.getfield 13, 3) := by decide +kernel
theorem dX7_begins_37 : decode cX7_begins 37 = .ok (.bipush 10, 2) := by decide +kernel
theorem dX7_begins_39 : decode cX7_begins 39 = .ok (.aload_n 0, 1) := by decide +kernel
theorem dX7_begins_40 : decode cX7_begins 40 = .ok (.getfield 124, 3) := by decide +kernel
theorem dX7_begins_43 : decode cX7_begins 43 = .ok (.imul, 1) := by decide +kernel
theorem dX7_begins_44 : decode cX7_begins 44 = .ok (.iload_n 1, 1) := by decide +kernel
theorem dX7_begins_45 : decode cX7_begins 45 = .ok (.iastore, 1) := by decide +kernel
theorem dX7_begins_46 : decode cX7_begins 46 = .ok (.aload_n 0, 1) := by decide +kernel
theorem dX7_begins_47 : decode cX7_begins 47 = .ok (.getfield 13, 3) := by decide +kernel
theorem dX7_begins_50 : decode cX7_begins 50 = .ok (.bipush 10, 2) := by decide +kernel
theorem dX7_begins_52 : decode cX7_begins 52 = .ok (.aload_n 0, 1) := by decide +kernel
theorem dX7_begins_53 : decode cX7_begins 53 = .ok (.getfield 124, 3) := by decide +kernel
theorem dX7_begins_56 : decode cX7_begins 56 = .ok (.imul, 1) := by decide +kernel
theorem dX7_begins_57 : decode cX7_begins 57 = .ok (.iconst 5, 1) := by decide +kernel
theorem dX7_begins_58 : decode cX7_begins 58 = .ok (.iadd, 1) := by decide +kernel
theorem dX7_begins_59 : decode cX7_begins 59 = .ok (.iload_n 2, 1) := by decide +kernel
theorem dX7_begins_60 : decode cX7_begins 60 = .ok (.iastore, 1) := by decide +kernel
theorem dX7_begins_61 : decode cX7_begins 61 = .ok (.aload_n 0, 1) := by decide +kernel
theorem dX7_begins_62 : decode cX7_begins 62 = .ok (.dup, 1) := by decide +kernel
theorem dX7_begins_63 : decode cX7_begins 63 = .ok (.getfield 124, 3) := by decide +kernel
theorem dX7_begins_66 : decode cX7_begins 66 = .ok (.iconst 1, 1) := by decide +kernel
theorem dX7_begins_67 : decode cX7_begins 67 = .ok (.iadd, 1) := by decide +kernel
theorem dX7_begins_68 : decode cX7_begins 68 = .ok (.putfield 124, 3) := by decide +kernel
theorem dX7_begins_71 : decode cX7_begins 71 = .ok (.aload_n 0, 1) := by decide +kernel
theorem dX7_begins_72 : decode cX7_begins 72 = .ok (.getfield 124, 3) := by decide +kernel
theorem dX7_begins_75 : decode cX7_begins 75 = .ok (.iconst 1, 1) := by decide +kernel
theorem dX7_begins_76 : decode cX7_begins 76 = .ok (.isub, 1) := by decide +kernel
theorem dX7_begins_77 : decode cX7_begins 77 = .ok (.ireturn, 1) := by decide +kernel
theorem dX7_addItem_0 : decode cX7_addItem 0 = .ok (.iload_n 1, 1) := by decide +kernel
theorem dX7_addItem_1 : decode cX7_addItem 1 = .ok (.i2l, 1) := by decide +kernel
theorem dX7_addItem_2 : decode cX7_addItem 2 = .ok (.lconst 0, 1) := by decide +kernel
theorem dX7_addItem_3 : decode cX7_addItem 3 = .ok (.ldc2_w 101, 3) := by decide +kernel
theorem dX7_addItem_6 : decode cX7_addItem 6 = .ok (.invokestatic 103, 3) := by decide +kernel
theorem dX7_addItem_9 : decode cX7_addItem 9 = .ok (.ifCond .eq 15, 3) := by decide +kernel
theorem dX7_addItem_12 : decode cX7_addItem 12 = .ok (.iload_n 2, 1) := by decide +kernel
theorem dX7_addItem_13 : decode cX7_addItem 13 = .ok (.i2l, 1) := by decide +kernel
theorem dX7_addItem_14 : decode cX7_addItem 14 = .ok (.lconst 0, 1) := by decide +kernel
theorem dX7_addItem_15 : decode cX7_addItem 15 = .ok (.ldc2_w 101, 3) := by decide +kernel
theorem dX7_addItem_18 : decode cX7_addItem 18 = .ok (.invokestatic 103, 3) := by decide +kernel
theorem dX7_addItem_21 : decode cX7_addItem 21 = .ok (.ifCond .ne 9, 3) := by decide +kernel
theorem dX7_addItem_24 : decode cX7_addItem 24 = .ok (.aload_n 0, 1) := by decide +kernel
theorem dX7_addItem_25 : decode cX7_addItem 25 = .ok (.iconst 1, 1) := by decide +kernel
theorem dX7_addItem_26 : decode cX7_addItem 26 = .ok (.invokevirtual 111, 3) := by decide +kernel
theorem dX7_addItem_29 : decode cX7_addItem 29 = .ok (.ireturn, 1) := by decide +kernel
theorem dX7_addItem_30 : decode cX7_addItem 30 = .ok (.aload_n 0, 1) := by decide +kernel
theorem dX7_addItem_31 : decode cX7_addItem 31 = .ok (.getfield 124, 3) := by decide +kernel
theorem dX7_addItem_34 : decode cX7_addItem 34 = .ok (.bipush 20, 2) := by decide +kernel
theorem dX7_addItem_36 : decode cX7_addItem 36 = .ok (.if_icmp .ne 9, 3) := by decide +kernel
theorem dX7_addItem_39 : decode cX7_addItem 39 = .ok (.aload_n 0, 1) := by decide +kernel
theorem dX7_addItem_40 : decode cX7_addItem 40 = .ok (.iconst 2, 1) := by decide +kernel
theorem dX7_addItem_41 : decode cX7_addItem 41 = .ok (.invokevirtual 111, 3) := by decide +kernel
theorem dX7_addItem_44 : decode cX7_addItem 44 = .ok (.ireturn, 1) := by decide +kernel
theorem dX7_addItem_45 : decode cX7_addItem 45 = .ok (.aload_n 0, 1) := by decide +kernel
theorem dX7_addItem_46 : decode cX7_addItem 46 = .ok (.iconst 0, 1) := by decide +kernel
theorem dX7_addItem_47 : decode cX7_addItem 47 = .ok (.putfield 98, 3) := by decide +kernel
theorem dX7_addItem_50 : decode cX7_addItem 50 = .ok (.aload_n 0, 1) := by decide +kernel
theorem dX7_addItem_51 : decode cX7_addItem 51 = .ok (.iload_n 1, 1) := by decide +kernel
theorem dX7_addItem_52 : decode cX7_addItem 52 = .ok (.iload_n 2, 1) := by decide +kernel
theorem dX7_addItem_53 : decode cX7_addItem 53 = .ok (.invokevirtual 130, 3) := by decide +kernel
theorem dX7_addItem_56 : decode cX7_addItem 56 = .ok (.ireturn, 1) := by decide +kernel
theorem dX7_removeItem_0 : decode cX7_removeItem 0 = .ok (.aload_n 0, 1) := by decide +kernel
theorem dX7_removeItem_1 : decode cX7_removeItem 1 = .ok (.iload_n 1, 1) := by decide +kernel
theorem dX7_removeItem_2 : decode cX7_removeItem 2 = .ok (.invokevirtual 133, 3) := by decide +kernel
theorem dX7_removeItem_5 : decode cX7_removeItem 5 = .ok (.ifCond .ne 9, 3) := by decide +kernel
theorem dX7_removeItem_8 : decode cX7_removeItem 8 = .ok (.aload_n 0, 1) := by decide +kernel
theorem dX7_removeItem_9 : decode cX7_removeItem 9 = .ok (.iconst 1, 1) := by decide +kernel
theorem dX7_removeItem_10 : decode cX7_removeItem 10 = .ok (.invokevirtual 111, 3) := by decide +kernel
theorem dX7_removeItem_13 : decode cX7_removeItem 13 = .ok (.ireturn, 1) := by decide +kernel
theorem dX7_removeItem_14 : decode cX7_removeItem 14 = .ok (.aload_n 0, 1) := by decide +kernel
theorem dX7_removeItem_15 : decode cX7_removeItem 15 = .ok (.iconst 0, 1) := by decide +kernel
theorem dX7_removeItem_16 : decode cX7_removeItem 16 = .ok (.putfield 98, 3) := by decide +kernel
theorem dX7_removeItem_19 : decode cX7_removeItem 19 = .ok (.aload_n 0, 1) := by decide +kernel
theorem dX7_removeItem_20 : decode cX7_removeItem 20 = .ok (.dup, 1) := by decide +kernel
theorem dX7_removeItem_21 : decode cX7_removeItem 21 = .ok (.getfield 124, 3) := by decide +kernel
theorem dX7_removeItem_24 : decode cX7_removeItem 24 = .ok (.iconst 1, 1) := by decide +kernel
theorem dX7_removeItem_25 : decode cX7_removeItem 25 = .ok (.isub, 1) := by decide +kernel
theorem dX7_removeItem_26 : decode cX7_removeItem 26 = .ok (.putfield 124, 3) := by decide +kernel
theorem dX7_removeItem_29 : decode cX7_removeItem 29 = .ok (.bipush 10, 2) := by decide +kernel
theorem dX7_removeItem_31 : decode cX7_removeItem 31 = .ok (.iload_n 1, 1) := by decide +kernel
theorem dX7_removeItem_32 : decode cX7_removeItem 32 = .ok (.imul, 1) := by decide +kernel
theorem dX7_removeItem_33 : decode cX7_removeItem 33 = .ok (.istore_n 2, 1) := by decide +kernel
theorem dX7_removeItem_34 : decode cX7_removeItem 34 = .ok (.iload_n 2, 1) := by decide +kernel
theorem dX7_removeItem_35 : decode cX7_removeItem 35 = .ok (.bipush 10, 2) := by decide +kernel
theorem dX7_removeItem_37 : decode cX7_removeItem 37 = .ok (.aload_n 0, 1) := by decide +kernel
theorem dX7_removeItem_38 : decode cX7_removeItem 38 = .ok (.getfield 124, 3) := by decide +kernel
theorem dX7_removeItem_41 : decode cX7_removeItem 41 = .ok (.imul, 1) := by decide +kernel
theorem dX7_removeItem_42 : decode cX7_removeItem 42 = .ok (.if_icmp .ge 24, 3) := by decide +kernel
theorem dX7_removeItem_45 : decode cX7_removeItem 45 = .ok (.aload_n 0, 1) := by decide +kernel
theorem dX7_removeItem_46 : decode cX7_removeItem 46 = .ok (.getfield 13, 3) := by decide +kernel
theorem dX7_removeItem_49 : decode cX7_removeItem 49 = .ok (.iload_n 2, 1) := by decide +kernel
theorem dX7_removeItem_50 : decode cX7_removeItem 50 = .ok (.aload_n 0, 1) := by decide +kernel
theorem dX7_removeItem_51 : decode cX7_removeItem 51 = .ok (.getfield 13, 3) := by decide +kernel
theorem dX7_removeItem_54 : decode cX7_removeItem 54 = .ok (.iload_n 2, 1) := by decide +kernel
theorem dX7_removeItem_55 : decode cX7_removeItem 55 = .ok (.bipush 10, 2) := by decide +kernel
theorem dX7_removeItem_57 : decode cX7_removeItem 57 = .ok (.iadd, 1) := by decide +kernel
theorem dX7_removeItem_58 : decode cX7_removeItem 58 = .ok (.iaload, 1) := by decide +kernel
theorem dX7_removeItem_59 : decode cX7_removeItem 59 = .ok (.iastore, 1) := by decide +kernel
theorem dX7_removeItem_60 : decode cX7_removeItem 60 = .ok (.iinc 2 1, 3) := by decide +kernel
theorem dX7_removeItem_63 : decode cX7_removeItem 63 = .ok (.goto (-29), 3) := by decide +kernel
theorem dX7_removeItem_66 : decode cX7_removeItem 66 = .ok (.aload_n 0, 1) := by decide +kernel
theorem dX7_removeItem_67 : decode cX7_removeItem 67 = .ok (.getfield 124, 3) := by decide +kernel
theorem dX7_removeItem_70 : decode cX7_removeItem 70 = .ok (.ireturn, 1) := by decide +kernel
theorem dX7_items_0 : decode cX7_items 0 = .ok (.aload_n 0, 1) := by decide +kernel
theorem dX7_items_1 : decode cX7_items 1 = .ok (.iconst 0, 1) := by decide +kernel
theorem dX7_items_2 : decode cX7_items 2 = .ok (.putfield 98, 3) := by decide +kernel
theorem dX7_items_5 : decode cX7_items 5 = .ok (.aload_n 0, 1) := by decide +kernel
theorem dX7_items_6 : decode cX7_items 6 = .ok (.getfield 124, 3) := by decide +kernel
theorem dX7_items_9 : decode cX7_items 9 = .ok (.ireturn, 1) := by decide +kernel
theorem dX7_setProperty_0 : decode cX7_setProperty 0 = .ok (.aload_n 0, 1) := by decide +kernel
theorem dX7_setProperty_1 : decode cX7_setProperty 1 = .ok (.iload_n 1, 1) := by decide +kernel
theorem dX7_setProperty_2 : decode cX7_setProperty 2 = .ok (.invokevirtual 133, 3) := by decide +kernel
theorem dX7_setProperty_5 : decode cX7_setProperty 5 = .ok (.ifCond .eq 15, 3) := by decide +kernel
theorem dX7_setProperty_8 : decode cX7_setProperty 8 = .ok (.iload_n 2, 1) := by decide +kernel
theorem dX7_setProperty_9 : decode cX7_setProperty 9 = .ok (.i2l, 1) := by decide +kernel
theorem dX7_setProperty_10 : decode cX7_setProperty 10 = .ok (.lconst 0, 1) := by decide +kernel
theorem dX7_setProperty_11 : decode cX7_setProperty 11 = .ok (.ldc2_w 137, 3) := by decide +kernel
theorem dX7_setProperty_14 : decode cX7_setProperty 14 = .ok (.invokestatic 103, 3) := by decide +kernel
theorem dX7_setProperty_17 : decode cX7_setProperty 17 = .ok (.ifCond .ne 9, 3) := by decide +kernel
theorem dX7_setProperty_20 : decode cX7_setProperty 20 = .ok (.aload_n 0, 1) := by decide +kernel
theorem dX7_setProperty_21 : decode cX7_setProperty 21 = .ok (.iconst 1, 1) := by decide +kernel
theorem dX7_setProperty_22 : decode cX7_setProperty 22 = .ok (.invokevirtual 111, 3) := by decide +kernel
theorem dX7_setProperty_25 : decode cX7_setProperty 25 = .ok (.ireturn, 1) := by decide +kernel
theorem dX7_setProperty_26 : decode cX7_setProperty 26 = .ok (.iload_n 3, 1) := by decide +kernel
theorem dX7_setProperty_27 : decode cX7_setProperty 27 = .ok (.i2l, 1) := by decide +kernel
theorem dX7_setProperty_28 : decode cX7_setProperty 28 = .ok (.getstatic 139, 3) := by decide +kernel
theorem dX7_setProperty_31 : decode cX7_setProperty 31 = .ok (.iload_n 2, 1) := by decide +kernel
theorem dX7_setProperty_32 : decode cX7_setProperty 32 = .ok (.iaload, 1) := by decide +kernel
theorem dX7_setProperty_33 : decode cX7_setProperty 33 = .ok (.i2l, 1) := by decide +kernel
theorem dX7_setProperty_34 : decode cX7_setProperty 34 = .ok (.getstatic 142, 3) := by decide +kernel
theorem dX7_setProperty_37 : decode cX7_setProperty 37 = .ok (.iload_n 2, 1) := by decide +kernel
theorem dX7_setProperty_38 : decode cX7_setProperty 38 = .ok (.iaload, 1) := by decide +kernel
theorem dX7_setProperty_39 : decode cX7_setProperty 39 = .ok (.i2l, 1) := by decide +kernel
theorem dX7_setProperty_40 : decode cX7_setProperty 40 = .ok (.invokestatic 103, 3) := by decide +kernel
theorem dX7_setProperty_43 : decode cX7_setProperty 43 = .ok (.ifCond .ne 9, 3) := by decide +kernel
theorem dX7_setProperty_46 : decode cX7_setProperty 46 = .ok (.aload_n 0, 1) := by decide +kernel
theorem dX7_setProperty_47 : decode cX7_setProperty 47 = .ok (.iconst 2, 1) := by decide +kernel
theorem dX7_setProperty_48 : decode cX7_setProperty 48 = .ok (.invokevirtual 111, 3) := by decide +kernel
theorem dX7_setProperty_51 : decode cX7_setProperty 51 = .ok (.ireturn, 1) := by decide +kernel
theorem dX7_setProperty_52 : decode cX7_setProperty 52 = .ok (.aload_n 0, 1) := by decide +kernel
theorem dX7_setProperty_53 : decode cX7_setProperty 53 = .ok (.iconst 0, 1) := by decide +kernel
theorem dX7_setProperty_54 : decode cX7_setProperty 54 = .ok (.putfield 98, 3) := by decide +kernel
theorem dX7_setProperty_57 : decode cX7_setProperty 57 = .ok (.aload_n 0, 1) := by decide +kernel
theorem dX7_setProperty_58 : decode cX7_setProperty 58 = .ok (.iload_n 1, 1) := by decide +kernel
theorem dX7_setProperty_59 : decode cX7_setProperty 59 = .ok (.iload_n 2, 1) := by decide +kernel
theorem dX7_setProperty_60 : decode cX7_setProperty 60 = .ok (.invokevirtual 145, 3) := by decide +kernel
theorem dX7_setProperty_63 : decode cX7_setProperty 63 = .ok (.istore 4, 2) := by decide +kernel
theorem dX7_setProperty_65 : decode cX7_setProperty 65 = .ok (.aload_n 0, 1) := by decide +kernel
theorem dX7_setProperty_66 : decode cX7_setProperty 66 = .ok (.getfield 13, 3) := by decide +kernel
theorem dX7_setProperty_69 : decode cX7_setProperty 69 = .ok (.bipush 10, 2) := by decide +kernel
theorem dX7_setProperty_71 : decode cX7_setProperty 71 = .ok (.iload_n 1, 1) := by decide +kernel
theorem dX7_setProperty_72 : decode cX7_setProperty 72 = .ok (.imul, 1) := by decide +kernel
theorem dX7_setProperty_73 : decode cX7_setProperty 73 = .ok (.iload_n 2, 1) := by decide +kernel
theorem dX7_setProperty_74 : decode cX7_setProperty 74 = .ok (.iadd, 1) := by decide +kernel
theorem dX7_setProperty_75 : decode cX7_setProperty 75 = .ok (.iload_n 3, 1) := by decide +kernel
theorem dX7_setProperty_76 : decode cX7_setProperty 76 = .ok (.iastore, 1) := by decide +kernel
theorem dX7_setProperty_77 : decode cX7_setProperty 77 = .ok (.iload 4, 2) := by decide +kernel
theorem dX7_setProperty_79 : decode cX7_setProperty 79 = .ok (.ireturn, 1) := by decide +kernel
theorem dX7_property_0 : decode cX7_property 0 = .ok (.aload_n 0, 1) := by decide +kernel
theorem dX7_property_1 : decode cX7_property 1 = .ok (.iload_n 1, 1) := by decide +kernel
theorem dX7_property_2 : decode cX7_property 2 = .ok (.invokevirtual 133, 3) := by decide +kernel
theorem dX7_property_5 : decode cX7_property 5 = .ok (.ifCond .eq 15, 3) := by decide +kernel
theorem dX7_property_8 : decode cX7_property 8 = .ok (.iload_n 2, 1) := by decide +kernel
theorem dX7_property_9 : decode cX7_property 9 = .ok (.i2l, 1) := by decide +kernel
theorem dX7_property_10 : decode cX7_property 10 = .ok (.lconst 0, 1) := by decide +kernel
theorem dX7_property_11 : decode cX7_property 11 = .ok (.ldc2_w 137, 3) := by decide +kernel
theorem dX7_property_14 : decode cX7_property 14 = .ok (.invokestatic 103, 3) := by decide +kernel
theorem dX7_property_17 : decode cX7_property 17 = .ok (.ifCond .ne 9, 3) := by decide +kernel
theorem dX7_property_20 : decode cX7_property 20 = .ok (.aload_n 0, 1) := by decide +kernel
theorem dX7_property_21 : decode cX7_property 21 = .ok (.iconst 1, 1) := by decide +kernel
theorem dX7_property_22 : decode cX7_property 22 = .ok (.invokevirtual 111, 3) := by decide +kernel
theorem dX7_property_25 : decode cX7_property 25 = .ok (.ireturn, 1) := by decide +kernel
theorem dX7_property_26 : decode cX7_property 26 = .ok (.aload_n 0, 1) := by decide +kernel
theorem dX7_property_27 : decode cX7_property 27 = .ok (.iconst 0, 1) := by decide +kernel
theorem dX7_property_28 : decode cX7_property 28 = .ok (.putfield 98, 3) := by decide +kernel
theorem dX7_property_31 : decode cX7_property 31 = .ok (.aload_n 0, 1) := by decide +kernel
theorem dX7_property_32 : decode cX7_property 32 = .ok (.iload_n 1, 1) := by decide +kernel
theorem dX7_property_33 : decode cX7_property 33 = .ok (.iload_n 2, 1) := by decide +kernel
theorem dX7_property_34 : decode cX7_property 34 = .ok (.invokevirtual 145, 3) := by decide +kernel
theorem dX7_property_37 : decode cX7_property 37 = .ok (.ireturn, 1) := by decide +kernel
theorem dX7_feed_0 : decode cX7_feed 0 = .ok (.aload_n 0, 1) := by decide +kernel
theorem dX7_feed_1 : decode cX7_feed 1 = .ok (.getfield 148, 3) := by decide +kernel
theorem dX7_feed_4 : decode cX7_feed 4 = .ok (.bipush 80, 2) := by decide +kernel
theorem dX7_feed_6 : decode cX7_feed 6 = .ok (.if_icmp .ne 9, 3) := by decide +kernel
theorem dX7_feed_9 : decode cX7_feed 9 = .ok (.aload_n 0, 1) := by decide +kernel
theorem dX7_feed_10 : decode cX7_feed 10 = .ok (.iconst 1, 1) := by decide +kernel
theorem dX7_feed_11 : decode cX7_feed 11 = .ok (.invokevirtual 111, 3) := by decide +kernel
theorem dX7_feed_14 : decode cX7_feed 14 = .ok (.ireturn, 1) := by decide +kernel
theorem dX7_feed_15 : decode cX7_feed 15 = .ok (.aload_n 0, 1) := by decide +kernel
theorem dX7_feed_16 : decode cX7_feed 16 = .ok (.iconst 0, 1) := by decide +kernel
theorem dX7_feed_17 : decode cX7_feed 17 = .ok (.putfield 98, 3) := by decide +kernel
theorem dX7_feed_20 : decode cX7_feed 20 = .ok (.aload_n 0, 1) := by decide +kernel
theorem dX7_feed_21 : decode cX7_feed 21 = .ok (.getfield 16, 3) := by decide +kernel
theorem dX7_feed_24 : decode cX7_feed 24 = .ok (.aload_n 0, 1) := by decide +kernel
theorem dX7_feed_25 : decode cX7_feed 25 = .ok (.getfield 148, 3) := by decide +kernel
theorem dX7_feed_28 : decode cX7_feed 28 = .ok (.iload_n 1, 1) := by decide +kernel
theorem dX7_feed_29 : decode cX7_feed 29 = .ok (.castore, 1) := by decide +kernel
theorem dX7_feed_30 : decode cX7_feed 30 = .ok (.aload_n 0, 1) := by decide +kernel
theorem dX7_feed_31 : decode cX7_feed 31 = .ok (.dup, 1) := by decide +kernel
theorem dX7_feed_32 : decode cX7_feed 32 = .ok (.getfield 148, 3) := by decide +kernel
theorem dX7_feed_35 : decode cX7_feed 35 = .ok (.iconst 1, 1) := by decide +kernel
theorem dX7_feed_36 : decode cX7_feed 36 = .ok (.iadd, 1) := by decide +kernel
theorem dX7_feed_37 : decode cX7_feed 37 = .ok (.putfield 148, 3) := by decide +kernel
theorem dX7_feed_40 : decode cX7_feed 40 = .ok (.aload_n 0, 1) := by decide +kernel
theorem dX7_feed_41 : decode cX7_feed 41 = .ok (.getfield 148, 3) := by decide +kernel
theorem dX7_feed_44 : decode cX7_feed 44 = .ok (.ireturn, 1) := by decide +kernel
theorem dX7_propertyOf_0 : decode cX7_propertyOf 0 = .ok (.iload_n 0, 1) := by decide +kernel
theorem dX7_propertyOf_1 : decode cX7_propertyOf 1 = .ok (.tableswitch 135 97 120 #[123, 111, 121, 135, 135, 135, 113, 135, 135, 135, 135, 126, 117, 135, 129, 135, 135, 135, 115, 132, 135, 135, 135, 119], 111) := by decide +kernel
theorem dX7_propertyOf_112 : decode cX7_propertyOf 112 = .ok (.iconst 0, 1) := by decide +kernel
theorem dX7_propertyOf_113 : decode cX7_propertyOf 113 = .ok (.ireturn, 1) := by decide +kernel
theorem dX7_propertyOf_114 : decode cX7_propertyOf 114 = .ok (.iconst 1, 1) := by decide +kernel
theorem dX7_propertyOf_115 : decode cX7_propertyOf 115 = .ok (.ireturn, 1) := by decide +kernel
theorem dX7_propertyOf_116 : decode cX7_propertyOf 116 = .ok (.iconst 2, 1) := by decide +kernel
theorem dX7_propertyOf_117 : decode cX7_propertyOf 117 = .ok (.ireturn, 1) := by decide +kernel
theorem dX7_propertyOf_118 : decode cX7_propertyOf 118 = .ok (.iconst 3, 1) := by decide +kernel
theorem dX7_propertyOf_119 : decode cX7_propertyOf 119 = .ok (.ireturn, 1) := by decide +kernel
theorem dX7_propertyOf_120 : decode cX7_propertyOf 120 = .ok (.iconst 4, 1) := by decide +kernel
theorem dX7_propertyOf_121 : decode cX7_propertyOf 121 = .ok (.ireturn, 1) := by decide +kernel
theorem dX7_propertyOf_122 : decode cX7_propertyOf 122 = .ok (.iconst 5, 1) := by decide +kernel
theorem dX7_propertyOf_123 : decode cX7_propertyOf 123 = .ok (.ireturn, 1) := by decide +kernel
theorem dX7_propertyOf_124 : decode cX7_propertyOf 124 = .ok (.bipush 6, 2) := by decide +kernel
theorem dX7_propertyOf_126 : decode cX7_propertyOf 126 = .ok (.ireturn, 1) := by decide +kernel
theorem dX7_propertyOf_127 : decode cX7_propertyOf 127 = .ok (.bipush 7, 2) := by decide +kernel
theorem dX7_propertyOf_129 : decode cX7_propertyOf 129 = .ok (.ireturn, 1) := by decide +kernel
theorem dX7_propertyOf_130 : decode cX7_propertyOf 130 = .ok (.bipush 8, 2) := by decide +kernel
theorem dX7_propertyOf_132 : decode cX7_propertyOf 132 = .ok (.ireturn, 1) := by decide +kernel
theorem dX7_propertyOf_133 : decode cX7_propertyOf 133 = .ok (.bipush 9, 2) := by decide +kernel
theorem dX7_propertyOf_135 : decode cX7_propertyOf 135 = .ok (.ireturn, 1) := by decide +kernel
theorem dX7_propertyOf_136 : decode cX7_propertyOf 136 = .ok (.iconst (-1), 1) := by decide +kernel
theorem dX7_propertyOf_137 : decode cX7_propertyOf 137 = .ok (.ireturn, 1) := by decide +kernel
theorem dX7_isDigit_0 : decode cX7_isDigit 0 = .ok (.aload_n 0, 1) := by decide +kernel
theorem dX7_isDigit_1 : decode cX7_isDigit 1 = .ok (.getfield 151, 3) := by decide +kernel
theorem dX7_isDigit_4 : decode cX7_isDigit 4 = .ok (.aload_n 0, 1) := by decide +kernel
theorem dX7_isDigit_5 : decode cX7_isDigit 5 = .ok (.getfield 148, 3) := by decide +kernel
theorem dX7_isDigit_8 : decode cX7_isDigit 8 = .ok (.if_icmp .ge 29, 3) := by decide +kernel
theorem dX7_isDigit_11 : decode cX7_isDigit 11 = .ok (.aload_n 0, 1) := by decide +kernel
theorem dX7_isDigit_12 : decode cX7_isDigit 12 = .ok (.getfield 16, 3) := by decide +kernel
theorem dX7_isDigit_15 : decode cX7_isDigit 15 = .ok (.aload_n 0, 1) := by decide +kernel
theorem dX7_isDigit_16 : decode cX7_isDigit 16 = .ok (.getfield 151, 3) := by decide +kernel
theorem dX7_isDigit_19 : decode cX7_isDigit 19 = .ok (.caload, 1) := by decide +kernel
theorem dX7_isDigit_20 : decode cX7_isDigit 20 = .ok (.i2l, 1) := by decide +kernel
theorem dX7_isDigit_21 : decode cX7_isDigit 21 = .ok (.ldc2_w 154, 3) := by decide +kernel
theorem dX7_isDigit_24 : decode cX7_isDigit 24 = .ok (.ldc2_w 156, 3) := by decide +kernel
theorem dX7_isDigit_27 : decode cX7_isDigit 27 = .ok (.invokestatic 103, 3) := by decide +kernel
theorem dX7_isDigit_30 : decode cX7_isDigit 30 = .ok (.ifCond .eq 7, 3) := by decide +kernel
theorem dX7_isDigit_33 : decode cX7_isDigit 33 = .ok (.iconst 1, 1) := by decide +kernel
theorem dX7_isDigit_34 : decode cX7_isDigit 34 = .ok (.goto 4, 3) := by decide +kernel
theorem dX7_isDigit_37 : decode cX7_isDigit 37 = .ok (.iconst 0, 1) := by decide +kernel
theorem dX7_isDigit_38 : decode cX7_isDigit 38 = .ok (.ireturn, 1) := by decide +kernel
theorem dX7_takesSetting_0 : decode cX7_takesSetting 0 = .ok (.aload_n 0, 1) := by decide +kernel
theorem dX7_takesSetting_1 : decode cX7_takesSetting 1 = .ok (.getfield 151, 3) := by decide +kernel
theorem dX7_takesSetting_4 : decode cX7_takesSetting 4 = .ok (.aload_n 0, 1) := by decide +kernel
theorem dX7_takesSetting_5 : decode cX7_takesSetting 5 = .ok (.getfield 148, 3) := by decide +kernel
theorem dX7_takesSetting_8 : decode cX7_takesSetting 8 = .ok (.if_icmp .eq 18, 3) := by decide +kernel
theorem dX7_takesSetting_11 : decode cX7_takesSetting 11 = .ok (.aload_n 0, 1) := by decide +kernel
theorem dX7_takesSetting_12 : decode cX7_takesSetting 12 = .ok (.getfield 16, 3) := by decide +kernel
theorem dX7_takesSetting_15 : decode cX7_takesSetting 15 = .ok (.aload_n 0, 1) := by decide +kernel
theorem dX7_takesSetting_16 : decode cX7_takesSetting 16 = .ok (.getfield 151, 3) := by decide +kernel
theorem dX7_takesSetting_19 : decode cX7_takesSetting 19 = .ok (.caload, 1) := by decide +kernel
theorem dX7_takesSetting_20 : decode cX7_takesSetting 20 = .ok (.invokestatic 158, 3) := by decide +kernel
theorem dX7_takesSetting_23 : decode cX7_takesSetting 23 = .ok (.ifCond .ge 5, 3) := by decide +kernel
theorem dX7_takesSetting_26 : decode cX7_takesSetting 26 = .ok (.iconst 0, 1) := by decide +kernel
theorem dX7_takesSetting_27 : decode cX7_takesSetting 27 = .ok (.ireturn, 1) := by decide +kernel
theorem dX7_takesSetting_28 : decode cX7_takesSetting 28 = .ok (.aload_n 0, 1) := by decide +kernel
theorem dX7_takesSetting_29 : decode cX7_takesSetting 29 = .ok (.getfield 20, 3) := by decide +kernel
theorem dX7_takesSetting_32 : decode cX7_takesSetting 32 = .ok (.aload_n 0, 1) := by decide +kernel
theorem dX7_takesSetting_33 : decode cX7_takesSetting 33 = .ok (.getfield 162, 3) := by decide +kernel
theorem dX7_takesSetting_36 : decode cX7_takesSetting 36 = .ok (.aload_n 0, 1) := by decide +kernel
theorem dX7_takesSetting_37 : decode cX7_takesSetting 37 = .ok (.getfield 16, 3) := by decide +kernel
theorem dX7_takesSetting_40 : decode cX7_takesSetting 40 = .ok (.aload_n 0, 1) := by decide +kernel
theorem dX7_takesSetting_41 : decode cX7_takesSetting 41 = .ok (.getfield 151, 3) := by decide +kernel
theorem dX7_takesSetting_44 : decode cX7_takesSetting 44 = .ok (.caload, 1) := by decide +kernel
theorem dX7_takesSetting_45 : decode cX7_takesSetting 45 = .ok (.invokestatic 158, 3) := by decide +kernel
theorem dX7_takesSetting_48 : decode cX7_takesSetting 48 = .ok (.iastore, 1) := by decide +kernel
theorem dX7_takesSetting_49 : decode cX7_takesSetting 49 = .ok (.aload_n 0, 1) := by decide +kernel
theorem dX7_takesSetting_50 : decode cX7_takesSetting 50 = .ok (.getfield 26, 3) := by decide +kernel
theorem dX7_takesSetting_53 : decode cX7_takesSetting 53 = .ok (.aload_n 0, 1) := by decide +kernel
theorem dX7_takesSetting_54 : decode cX7_takesSetting 54 = .ok (.getfield 162, 3) := by decide +kernel
theorem dX7_takesSetting_57 : decode cX7_takesSetting 57 = .ok (.aload_n 0, 1) := by decide +kernel
theorem dX7_takesSetting_58 : decode cX7_takesSetting 58 = .ok (.getfield 151, 3) := by decide +kernel
theorem dX7_takesSetting_61 : decode cX7_takesSetting 61 = .ok (.iastore, 1) := by decide +kernel
theorem dX7_takesSetting_62 : decode cX7_takesSetting 62 = .ok (.aload_n 0, 1) := by decide +kernel
theorem dX7_takesSetting_63 : decode cX7_takesSetting 63 = .ok (.dup, 1) := by decide +kernel
theorem dX7_takesSetting_64 : decode cX7_takesSetting 64 = .ok (.getfield 151, 3) := by decide +kernel
theorem dX7_takesSetting_67 : decode cX7_takesSetting 67 = .ok (.iconst 1, 1) := by decide +kernel
theorem dX7_takesSetting_68 : decode cX7_takesSetting 68 = .ok (.iadd, 1) := by decide +kernel
theorem dX7_takesSetting_69 : decode cX7_takesSetting 69 = .ok (.putfield 151, 3) := by decide +kernel
theorem dX7_takesSetting_72 : decode cX7_takesSetting 72 = .ok (.aload_n 0, 1) := by decide +kernel
theorem dX7_takesSetting_73 : decode cX7_takesSetting 73 = .ok (.getfield 151, 3) := by decide +kernel
theorem dX7_takesSetting_76 : decode cX7_takesSetting 76 = .ok (.aload_n 0, 1) := by decide +kernel
theorem dX7_takesSetting_77 : decode cX7_takesSetting 77 = .ok (.getfield 148, 3) := by decide +kernel
theorem dX7_takesSetting_80 : decode cX7_takesSetting 80 = .ok (.if_icmp .ge 21, 3) := by decide +kernel
theorem dX7_takesSetting_83 : decode cX7_takesSetting 83 = .ok (.aload_n 0, 1) := by decide +kernel
theorem dX7_takesSetting_84 : decode cX7_takesSetting 84 = .ok (.getfield 16, 3) := by decide +kernel
theorem dX7_takesSetting_87 : decode cX7_takesSetting 87 = .ok (.aload_n 0, 1) := by decide +kernel
theorem dX7_takesSetting_88 : decode cX7_takesSetting 88 = .ok (.getfield 151, 3) := by decide +kernel
theorem dX7_takesSetting_91 : decode cX7_takesSetting 91 = .ok (.caload, 1) := by decide +kernel
theorem dX7_takesSetting_92 : decode cX7_takesSetting 92 = .ok (.bipush 45, 2) := by decide +kernel
theorem dX7_takesSetting_94 : decode cX7_takesSetting 94 = .ok (.if_icmp .ne 7, 3) := by decide +kernel
theorem dX7_takesSetting_97 : decode cX7_takesSetting 97 = .ok (.iconst 1, 1) := by decide +kernel
theorem dX7_takesSetting_98 : decode cX7_takesSetting 98 = .ok (.goto 4, 3) := by decide +kernel
theorem dX7_takesSetting_101 : decode cX7_takesSetting 101 = .ok (.iconst 0, 1) := by decide +kernel
theorem dX7_takesSetting_102 : decode cX7_takesSetting 102 = .ok (.istore_n 1, 1) := by decide +kernel
theorem dX7_takesSetting_103 : decode cX7_takesSetting 103 = .ok (.aload_n 0, 1) := by decide +kernel
theorem dX7_takesSetting_104 : decode cX7_takesSetting 104 = .ok (.dup, 1) := by decide +kernel
theorem dX7_takesSetting_105 : decode cX7_takesSetting 105 = .ok (.getfield 151, 3) := by decide +kernel
theorem dX7_takesSetting_108 : decode cX7_takesSetting 108 = .ok (.iload_n 1, 1) := by decide +kernel
theorem dX7_takesSetting_109 : decode cX7_takesSetting 109 = .ok (.ifCond .eq 7, 3) := by decide +kernel
theorem dX7_takesSetting_112 : decode cX7_takesSetting 112 = .ok (.iconst 1, 1) := by decide +kernel
theorem dX7_takesSetting_113 : decode cX7_takesSetting 113 = .ok (.goto 4, 3) := by decide +kernel
theorem dX7_takesSetting_116 : decode cX7_takesSetting 116 = .ok (.iconst 0, 1) := by decide +kernel
theorem dX7_takesSetting_117 : decode cX7_takesSetting 117 = .ok (.iadd, 1) := by decide +kernel
theorem dX7_takesSetting_118 : decode cX7_takesSetting 118 = .ok (.putfield 151, 3) := by decide +kernel
theorem dX7_takesSetting_121 : decode cX7_takesSetting 121 = .ok (.aload_n 0, 1) := by decide +kernel
theorem dX7_takesSetting_122 : decode cX7_takesSetting 122 = .ok (.invokevirtual 165, 3) := by decide +kernel
theorem dX7_takesSetting_125 : decode cX7_takesSetting 125 = .ok (.ifCond .ne 5, 3) := by decide +kernel
theorem dX7_takesSetting_128 : decode cX7_takesSetting 128 = .ok (.iconst 0, 1) := by decide +kernel
theorem dX7_takesSetting_129 : decode cX7_takesSetting 129 = .ok (.ireturn, 1) := by decide +kernel
theorem dX7_takesSetting_130 : decode cX7_takesSetting 130 = .ok (.iconst 0, 1) := by decide +kernel
theorem dX7_takesSetting_131 : decode cX7_takesSetting 131 = .ok (.istore_n 2, 1) := by decide +kernel
theorem dX7_takesSetting_132 : decode cX7_takesSetting 132 = .ok (.iconst 0, 1) := by decide +kernel
theorem dX7_takesSetting_133 : decode cX7_takesSetting 133 = .ok (.istore_n 3, 1) := by decide +kernel
theorem dX7_takesSetting_134 : decode cX7_takesSetting 134 = .ok (.iload_n 3, 1) := by decide +kernel
theorem dX7_takesSetting_135 : decode cX7_takesSetting 135 = .ok (.iconst 4, 1) := by decide +kernel
theorem dX7_takesSetting_136 : decode cX7_takesSetting 136 = .ok (.if_icmp .ge 44, 3) := by decide +kernel
theorem dX7_takesSetting_139 : decode cX7_takesSetting 139 = .ok (.aload_n 0, 1) := by decide +kernel
theorem dX7_takesSetting_140 : decode cX7_takesSetting 140 = .ok (.invokevirtual 165, 3) := by decide +kernel
theorem dX7_takesSetting_143 : decode cX7_takesSetting 143 = .ok (.ifCond .eq 37, 3) := by decide +kernel
theorem dX7_takesSetting_146 : decode cX7_takesSetting 146 = .ok (.bipush 10, 2) := by decide +kernel
theorem dX7_takesSetting_148 : decode cX7_takesSetting 148 = .ok (.iload_n 2, 1) := by decide +kernel
theorem dX7_takesSetting_149 : decode cX7_takesSetting 149 = .ok (.imul, 1) := by decide +kernel
theorem dX7_takesSetting_150 : decode cX7_takesSetting 150 = .ok (.aload_n 0, 1) := by decide +kernel
theorem dX7_takesSetting_151 : decode cX7_takesSetting 151 = .ok (.getfield 16, 3) := by decide +kernel
theorem dX7_takesSetting_154 : decode cX7_takesSetting 154 = .ok (.aload_n 0, 1) := by decide +kernel
theorem dX7_takesSetting_155 : decode cX7_takesSetting 155 = .ok (.getfield 151, 3) := by decide +kernel
theorem dX7_takesSetting_158 : decode cX7_takesSetting 158 = .ok (.caload, 1) := by decide +kernel
theorem dX7_takesSetting_159 : decode cX7_takesSetting 159 = .ok (.iadd, 1) := by decide +kernel
theorem dX7_takesSetting_160 : decode cX7_takesSetting 160 = .ok (.bipush 48, 2) := by decide +kernel
theorem dX7_takesSetting_162 : decode cX7_takesSetting 162 = .ok (.isub, 1) := by decide +kernel
theorem dX7_takesSetting_163 : decode cX7_takesSetting 163 = .ok (.istore_n 2, 1) := by decide +kernel
theorem dX7_takesSetting_164 : decode cX7_takesSetting 164 = .ok (.aload_n 0, 1) := by decide +kernel
theorem dX7_takesSetting_165 : decode cX7_takesSetting 165 = .ok (.dup, 1) := by decide +kernel
theorem dX7_takesSetting_166 : decode cX7_takesSetting 166 = .ok (.getfield 151, 3) := by decide +kernel
theorem dX7_takesSetting_169 : decode cX7_takesSetting 169 = .ok (.iconst 1, 1) := by decide +kernel
theorem dX7_takesSetting_170 : decode cX7_takesSetting 170 = .ok (.iadd, 1) := by decide +kernel
theorem dX7_takesSetting_171 : decode cX7_takesSetting 171 = .ok (.putfield 151, 3) := by decide +kernel
theorem dX7_takesSetting_174 : decode cX7_takesSetting 174 = .ok (.iinc 3 1, 3) := by decide +kernel
theorem dX7_takesSetting_177 : decode cX7_takesSetting 177 = .ok (.goto (-43), 3) := by decide +kernel
theorem dX7_takesSetting_180 : decode cX7_takesSetting 180 = .ok (.aload_n 0, 1) := by decide +kernel
theorem dX7_takesSetting_181 : decode cX7_takesSetting 181 = .ok (.getfield 23, 3) := by decide +kernel
theorem dX7_takesSetting_184 : decode cX7_takesSetting 184 = .ok (.aload_n 0, 1) := by decide +kernel
theorem dX7_takesSetting_185 : decode cX7_takesSetting 185 = .ok (.getfield 162, 3) := by decide +kernel
theorem dX7_takesSetting_188 : decode cX7_takesSetting 188 = .ok (.iload_n 1, 1) := by decide +kernel
theorem dX7_takesSetting_189 : decode cX7_takesSetting 189 = .ok (.ifCond .eq 8, 3) := by decide +kernel
theorem dX7_takesSetting_192 : decode cX7_takesSetting 192 = .ok (.iload_n 2, 1) := by decide +kernel
theorem dX7_takesSetting_193 : decode cX7_takesSetting 193 = .ok (.ineg, 1) := by decide +kernel
theorem dX7_takesSetting_194 : decode cX7_takesSetting 194 = .ok (.goto 4, 3) := by decide +kernel
theorem dX7_takesSetting_197 : decode cX7_takesSetting 197 = .ok (.iload_n 2, 1) := by decide +kernel
theorem dX7_takesSetting_198 : decode cX7_takesSetting 198 = .ok (.iastore, 1) := by decide +kernel
theorem dX7_takesSetting_199 : decode cX7_takesSetting 199 = .ok (.aload_n 0, 1) := by decide +kernel
theorem dX7_takesSetting_200 : decode cX7_takesSetting 200 = .ok (.dup, 1) := by decide +kernel
theorem dX7_takesSetting_201 : decode cX7_takesSetting 201 = .ok (.getfield 162, 3) := by decide +kernel
theorem dX7_takesSetting_204 : decode cX7_takesSetting 204 = .ok (.iconst 1, 1) := by decide +kernel
theorem dX7_takesSetting_205 : decode cX7_takesSetting 205 = .ok (.iadd, 1) := by decide +kernel
theorem dX7_takesSetting_206 : decode cX7_takesSetting 206 = .ok (.putfield 162, 3) := by decide +kernel
theorem dX7_takesSetting_209 : decode cX7_takesSetting 209 = .ok (.iconst 1, 1) := by decide +kernel
theorem dX7_takesSetting_210 : decode cX7_takesSetting 210 = .ok (.ireturn, 1) := by decide +kernel
theorem dX7_takesAll_0 : decode cX7_takesAll 0 = .ok (.aload_n 0, 1) := by decide +kernel
theorem dX7_takesAll_1 : decode cX7_takesAll 1 = .ok (.iconst 0, 1) := by decide +kernel
theorem dX7_takesAll_2 : decode cX7_takesAll 2 = .ok (.putfield 151, 3) := by decide +kernel
theorem dX7_takesAll_5 : decode cX7_takesAll 5 = .ok (.aload_n 0, 1) := by decide +kernel
theorem dX7_takesAll_6 : decode cX7_takesAll 6 = .ok (.iconst 0, 1) := by decide +kernel
theorem dX7_takesAll_7 : decode cX7_takesAll 7 = .ok (.putfield 162, 3) := by decide +kernel
theorem dX7_takesAll_10 : decode cX7_takesAll 10 = .ok (.iconst 1, 1) := by decide +kernel
theorem dX7_takesAll_11 : decode cX7_takesAll 11 = .ok (.istore_n 1, 1) := by decide +kernel
theorem dX7_takesAll_12 : decode cX7_takesAll 12 = .ok (.iload_n 1, 1) := by decide +kernel
theorem dX7_takesAll_13 : decode cX7_takesAll 13 = .ok (.ifCond .eq 64, 3) := by decide +kernel
theorem dX7_takesAll_16 : decode cX7_takesAll 16 = .ok (.aload_n 0, 1) := by decide +kernel
theorem dX7_takesAll_17 : decode cX7_takesAll 17 = .ok (.invokevirtual 169, 3) := by decide +kernel
theorem dX7_takesAll_20 : decode cX7_takesAll 20 = .ok (.ifCond .ne 5, 3) := by decide +kernel
theorem dX7_takesAll_23 : decode cX7_takesAll 23 = .ok (.iconst 0, 1) := by decide +kernel
theorem dX7_takesAll_24 : decode cX7_takesAll 24 = .ok (.ireturn, 1) := by decide +kernel
theorem dX7_takesAll_25 : decode cX7_takesAll 25 = .ok (.aload_n 0, 1) := by decide +kernel
theorem dX7_takesAll_26 : decode cX7_takesAll 26 = .ok (.getfield 151, 3) := by decide +kernel
theorem dX7_takesAll_29 : decode cX7_takesAll 29 = .ok (.aload_n 0, 1) := by decide +kernel
theorem dX7_takesAll_30 : decode cX7_takesAll 30 = .ok (.getfield 148, 3) := by decide +kernel
theorem dX7_takesAll_33 : decode cX7_takesAll 33 = .ok (.if_icmp .ge 21, 3) := by decide +kernel
theorem dX7_takesAll_36 : decode cX7_takesAll 36 = .ok (.aload_n 0, 1) := by decide +kernel
theorem dX7_takesAll_37 : decode cX7_takesAll 37 = .ok (.getfield 16, 3) := by decide +kernel
theorem dX7_takesAll_40 : decode cX7_takesAll 40 = .ok (.aload_n 0, 1) := by decide +kernel
theorem dX7_takesAll_41 : decode cX7_takesAll 41 = .ok (.getfield 151, 3) := by decide +kernel
theorem dX7_takesAll_44 : decode cX7_takesAll 44 = .ok (.caload, 1) := by decide +kernel
theorem dX7_takesAll_45 : decode cX7_takesAll 45 = .ok (.bipush 32, 2) := by decide +kernel
theorem dX7_takesAll_47 : decode cX7_takesAll 47 = .ok (.if_icmp .ne 7, 3) := by decide +kernel
theorem dX7_takesAll_50 : decode cX7_takesAll 50 = .ok (.iconst 1, 1) := by decide +kernel
theorem dX7_takesAll_51 : decode cX7_takesAll 51 = .ok (.goto 4, 3) := by decide +kernel
theorem dX7_takesAll_54 : decode cX7_takesAll 54 = .ok (.iconst 0, 1) := by decide +kernel
theorem dX7_takesAll_55 : decode cX7_takesAll 55 = .ok (.istore_n 1, 1) := by decide +kernel
theorem dX7_takesAll_56 : decode cX7_takesAll 56 = .ok (.aload_n 0, 1) := by decide +kernel
theorem dX7_takesAll_57 : decode cX7_takesAll 57 = .ok (.dup, 1) := by decide +kernel
theorem dX7_takesAll_58 : decode cX7_takesAll 58 = .ok (.getfield 151, 3) := by decide +kernel
theorem dX7_takesAll_61 : decode cX7_takesAll 61 = .ok (.iload_n 1, 1) := by decide +kernel
theorem dX7_takesAll_62 : decode cX7_takesAll 62 = .ok (.ifCond .eq 7, 3) := by decide +kernel
theorem dX7_takesAll_65 : decode cX7_takesAll 65 = .ok (.iconst 1, 1) := by decide +kernel
theorem dX7_takesAll_66 : decode cX7_takesAll 66 = .ok (.goto 4, 3) := by decide +kernel
theorem dX7_takesAll_69 : decode cX7_takesAll 69 = .ok (.iconst 0, 1) := by decide +kernel
theorem dX7_takesAll_70 : decode cX7_takesAll 70 = .ok (.iadd, 1) := by decide +kernel
theorem dX7_takesAll_71 : decode cX7_takesAll 71 = .ok (.putfield 151, 3) := by decide +kernel
theorem dX7_takesAll_74 : decode cX7_takesAll 74 = .ok (.goto (-62), 3) := by decide +kernel
theorem dX7_takesAll_77 : decode cX7_takesAll 77 = .ok (.aload_n 0, 1) := by decide +kernel
theorem dX7_takesAll_78 : decode cX7_takesAll 78 = .ok (.getfield 151, 3) := by decide +kernel
theorem dX7_takesAll_81 : decode cX7_takesAll 81 = .ok (.aload_n 0, 1) := by decide +kernel
theorem dX7_takesAll_82 : decode cX7_takesAll 82 = .ok (.getfield 148, 3) := by decide +kernel
theorem dX7_takesAll_85 : decode cX7_takesAll 85 = .ok (.if_icmp .ne 7, 3) := by decide +kernel
theorem dX7_takesAll_88 : decode cX7_takesAll 88 = .ok (.iconst 1, 1) := by decide +kernel
theorem dX7_takesAll_89 : decode cX7_takesAll 89 = .ok (.goto 4, 3) := by decide +kernel
theorem dX7_takesAll_92 : decode cX7_takesAll 92 = .ok (.iconst 0, 1) := by decide +kernel
theorem dX7_takesAll_93 : decode cX7_takesAll 93 = .ok (.ireturn, 1) := by decide +kernel
theorem dX7_readItem_0 : decode cX7_readItem 0 = .ok (.aload_n 0, 1) := by decide +kernel
theorem dX7_readItem_1 : decode cX7_readItem 1 = .ok (.getfield 124, 3) := by decide +kernel
theorem dX7_readItem_4 : decode cX7_readItem 4 = .ok (.bipush 20, 2) := by decide +kernel
theorem dX7_readItem_6 : decode cX7_readItem 6 = .ok (.if_icmp .ne 9, 3) := by decide +kernel
theorem dX7_readItem_9 : decode cX7_readItem 9 = .ok (.aload_n 0, 1) := by decide +kernel
theorem dX7_readItem_10 : decode cX7_readItem 10 = .ok (.iconst 1, 1) := by decide +kernel
theorem dX7_readItem_11 : decode cX7_readItem 11 = .ok (.invokevirtual 111, 3) := by decide +kernel
theorem dX7_readItem_14 : decode cX7_readItem 14 = .ok (.ireturn, 1) := by decide +kernel
theorem dX7_readItem_15 : decode cX7_readItem 15 = .ok (.aload_n 0, 1) := by decide +kernel
theorem dX7_readItem_16 : decode cX7_readItem 16 = .ok (.iconst 0, 1) := by decide +kernel
theorem dX7_readItem_17 : decode cX7_readItem 17 = .ok (.putfield 98, 3) := by decide +kernel
theorem dX7_readItem_20 : decode cX7_readItem 20 = .ok (.aload_n 0, 1) := by decide +kernel
theorem dX7_readItem_21 : decode cX7_readItem 21 = .ok (.invokevirtual 172, 3) := by decide +kernel
theorem dX7_readItem_24 : decode cX7_readItem 24 = .ok (.istore_n 1, 1) := by decide +kernel
theorem dX7_readItem_25 : decode cX7_readItem 25 = .ok (.aload_n 0, 1) := by decide +kernel
theorem dX7_readItem_26 : decode cX7_readItem 26 = .ok (.iconst 0, 1) := by decide +kernel
theorem dX7_readItem_27 : decode cX7_readItem 27 = .ok (.putfield 148, 3) := by decide +kernel
theorem dX7_readItem_30 : decode cX7_readItem 30 = .ok (.iload_n 1, 1) := by decide +kernel
theorem dX7_readItem_31 : decode cX7_readItem 31 = .ok (.ifCond .ne 11, 3) := by decide +kernel
theorem dX7_readItem_34 : decode cX7_readItem 34 = .ok (.bipush (-100), 2) := by decide +kernel
theorem dX7_readItem_36 : decode cX7_readItem 36 = .ok (.aload_n 0, 1) := by decide +kernel
theorem dX7_readItem_37 : decode cX7_readItem 37 = .ok (.getfield 151, 3) := by decide +kernel
theorem dX7_readItem_40 : decode cX7_readItem 40 = .ok (.isub, 1) := by decide +kernel
theorem dX7_readItem_41 : decode cX7_readItem 41 = .ok (.ireturn, 1) := by decide +kernel
theorem dX7_readItem_42 : decode cX7_readItem 42 = .ok (.iconst 0, 1) := by decide +kernel
theorem dX7_readItem_43 : decode cX7_readItem 43 = .ok (.istore_n 2, 1) := by decide +kernel
theorem dX7_readItem_44 : decode cX7_readItem 44 = .ok (.iload_n 2, 1) := by decide +kernel
theorem dX7_readItem_45 : decode cX7_readItem 45 = .ok (.aload_n 0, 1) := by decide +kernel
theorem dX7_readItem_46 : decode cX7_readItem 46 = .ok (.getfield 162, 3) := by decide +kernel
theorem dX7_readItem_49 : decode cX7_readItem 49 = .ok (.if_icmp .ge 54, 3) := by decide +kernel
theorem dX7_readItem_52 : decode cX7_readItem 52 = .ok (.aload_n 0, 1) := by decide +kernel
theorem dX7_readItem_53 : decode cX7_readItem 53 = .ok (.getfield 23, 3) := by decide +kernel
theorem dX7_readItem_56 : decode cX7_readItem 56 = .ok (.iload_n 2, 1) := by decide +kernel
theorem dX7_readItem_57 : decode cX7_readItem 57 = .ok (.iaload, 1) := by decide +kernel
theorem dX7_readItem_58 : decode cX7_readItem 58 = .ok (.i2l, 1) := by decide +kernel
theorem dX7_readItem_59 : decode cX7_readItem 59 = .ok (.getstatic 139, 3) := by decide +kernel
theorem dX7_readItem_62 : decode cX7_readItem 62 = .ok (.aload_n 0, 1) := by decide +kernel
theorem dX7_readItem_63 : decode cX7_readItem 63 = .ok (.getfield 20, 3) := by decide +kernel
theorem dX7_readItem_66 : decode cX7_readItem 66 = .ok (.iload_n 2, 1) := by decide +kernel
theorem dX7_readItem_67 : decode cX7_readItem 67 = .ok (.iaload, 1) := by decide +kernel
theorem dX7_readItem_68 : decode cX7_readItem 68 = .ok (.iaload, 1) := by decide +kernel
theorem dX7_readItem_69 : decode cX7_readItem 69 = .ok (.i2l, 1) := by decide +kernel
theorem dX7_readItem_70 : decode cX7_readItem 70 = .ok (.getstatic 142, 3) := by decide +kernel
theorem dX7_readItem_73 : decode cX7_readItem 73 = .ok (.aload_n 0, 1) := by decide +kernel
theorem dX7_readItem_74 : decode cX7_readItem 74 = .ok (.getfield 20, 3) := by decide +kernel
theorem dX7_readItem_77 : decode cX7_readItem 77 = .ok (.iload_n 2, 1) := by decide +kernel
theorem dX7_readItem_78 : decode cX7_readItem 78 = .ok (.iaload, 1) := by decide +kernel
theorem dX7_readItem_79 : decode cX7_readItem 79 = .ok (.iaload, 1) := by decide +kernel
theorem dX7_readItem_80 : decode cX7_readItem 80 = .ok (.i2l, 1) := by decide +kernel
theorem dX7_readItem_81 : decode cX7_readItem 81 = .ok (.invokestatic 103, 3) := by decide +kernel
theorem dX7_readItem_84 : decode cX7_readItem 84 = .ok (.ifCond .ne 13, 3) := by decide +kernel
theorem dX7_readItem_87 : decode cX7_readItem 87 = .ok (.bipush (-100), 2) := by decide +kernel
theorem dX7_readItem_89 : decode cX7_readItem 89 = .ok (.aload_n 0, 1) := by decide +kernel
theorem dX7_readItem_90 : decode cX7_readItem 90 = .ok (.getfield 26, 3) := by decide +kernel
theorem dX7_readItem_93 : decode cX7_readItem 93 = .ok (.iload_n 2, 1) := by decide +kernel
theorem dX7_readItem_94 : decode cX7_readItem 94 = .ok (.iaload, 1) := by decide +kernel
theorem dX7_readItem_95 : decode cX7_readItem 95 = .ok (.isub, 1) := by decide +kernel
theorem dX7_readItem_96 : decode cX7_readItem 96 = .ok (.ireturn, 1) := by decide +kernel
theorem dX7_readItem_97 : decode cX7_readItem 97 = .ok (.iinc 2 1, 3) := by decide +kernel
theorem dX7_readItem_100 : decode cX7_readItem 100 = .ok (.goto (-56), 3) := by decide +kernel
theorem dX7_readItem_103 : decode cX7_readItem 103 = .ok (.aload_n 0, 1) := by decide +kernel
theorem dX7_readItem_104 : decode cX7_readItem 104 = .ok (.iconst 0, 1) := by decide +kernel
theorem dX7_readItem_105 : decode cX7_readItem 105 = .ok (.iconst 0, 1) := by decide +kernel
theorem dX7_readItem_106 : decode cX7_readItem 106 = .ok (.invokevirtual 130, 3) := by decide +kernel
theorem dX7_readItem_109 : decode cX7_readItem 109 = .ok (.istore_n 2, 1) := by decide +kernel
theorem dX7_readItem_110 : decode cX7_readItem 110 = .ok (.iconst 0, 1) := by decide +kernel
theorem dX7_readItem_111 : decode cX7_readItem 111 = .ok (.istore_n 3, 1) := by decide +kernel
theorem dX7_readItem_112 : decode cX7_readItem 112 = .ok (.iload_n 3, 1) := by decide +kernel
theorem dX7_readItem_113 : decode cX7_readItem 113 = .ok (.aload_n 0, 1) := by decide +kernel
theorem dX7_readItem_114 : decode cX7_readItem 114 = .ok (.getfield 162, 3) := by decide +kernel
theorem dX7_readItem_117 : decode cX7_readItem 117 = .ok (.if_icmp .ge 31, 3) := by decide +kernel
theorem dX7_readItem_120 : decode cX7_readItem 120 = .ok (.aload_n 0, 1) := by decide +kernel
theorem dX7_readItem_121 : decode cX7_readItem 121 = .ok (.getfield 13, 3) := by decide +kernel
theorem dX7_readItem_124 : decode cX7_readItem 124 = .ok (.bipush 10, 2) := by decide +kernel
theorem dX7_readItem_126 : decode cX7_readItem 126 = .ok (.iload_n 2, 1) := by decide +kernel
theorem dX7_readItem_127 : decode cX7_readItem 127 = .ok (.imul, 1) := by decide +kernel
theorem dX7_readItem_128 : decode cX7_readItem 128 = .ok (.aload_n 0, 1) := by decide +kernel
theorem dX7_readItem_129 : decode cX7_readItem 129 = .ok (.getfield 20, 3) := by decide +kernel
theorem dX7_readItem_132 : decode cX7_readItem 132 = .ok (.iload_n 3, 1) := by decide +kernel
theorem dX7_readItem_133 : decode cX7_readItem 133 = .ok (.iaload, 1) := by decide +kernel
theorem dX7_readItem_134 : decode cX7_readItem 134 = .ok (.iadd, 1) := by decide +kernel
theorem dX7_readItem_135 : decode cX7_readItem 135 = .ok (.aload_n 0, 1) := by decide +kernel
theorem dX7_readItem_136 : decode cX7_readItem 136 = .ok (.getfield 23, 3) := by decide +kernel
theorem dX7_readItem_139 : decode cX7_readItem 139 = .ok (.iload_n 3, 1) := by decide +kernel
theorem dX7_readItem_140 : decode cX7_readItem 140 = .ok (.iaload, 1) := by decide +kernel
theorem dX7_readItem_141 : decode cX7_readItem 141 = .ok (.iastore, 1) := by decide +kernel
theorem dX7_readItem_142 : decode cX7_readItem 142 = .ok (.iinc 3 1, 3) := by decide +kernel
theorem dX7_readItem_145 : decode cX7_readItem 145 = .ok (.goto (-33), 3) := by decide +kernel
theorem dX7_readItem_148 : decode cX7_readItem 148 = .ok (.iload_n 2, 1) := by decide +kernel
theorem dX7_readItem_149 : decode cX7_readItem 149 = .ok (.ireturn, 1) := by decide +kernel
theorem dX7_divides_0 : decode cX7_divides 0 = .ok (.lconst 0, 1) := by decide +kernel
theorem dX7_divides_1 : decode cX7_divides 1 = .ok (.lstore 4, 2) := by decide +kernel
theorem dX7_divides_3 : decode cX7_divides 3 = .ok (.iconst 0, 1) := by decide +kernel
theorem dX7_divides_4 : decode cX7_divides 4 = .ok (.istore 6, 2) := by decide +kernel
theorem dX7_divides_6 : decode cX7_divides 6 = .ok (.iload 6, 2) := by decide +kernel
theorem dX7_divides_8 : decode cX7_divides 8 = .ok (.iload_n 3, 1) := by decide +kernel
theorem dX7_divides_9 : decode cX7_divides 9 = .ok (.if_icmp .ge 21, 3) := by decide +kernel
theorem dX7_divides_12 : decode cX7_divides 12 = .ok (.lload 4, 2) := by decide +kernel
theorem dX7_divides_14 : decode cX7_divides 14 = .ok (.aload_n 0, 1) := by decide +kernel
theorem dX7_divides_15 : decode cX7_divides 15 = .ok (.getfield 29, 3) := by decide +kernel
theorem dX7_divides_18 : decode cX7_divides 18 = .ok (.iload 6, 2) := by decide +kernel
theorem dX7_divides_20 : decode cX7_divides 20 = .ok (.laload, 1) := by decide +kernel
theorem dX7_divides_21 : decode cX7_divides 21 = .ok (.ladd, 1) := by decide +kernel
theorem dX7_divides_22 : decode cX7_divides 22 = .ok (.lstore 4, 2) := by decide +kernel
theorem dX7_divides_24 : decode cX7_divides 24 = .ok (.iinc 6 1, 3) := by decide +kernel
theorem dX7_divides_27 : decode cX7_divides 27 = .ok (.goto (-21), 3) := by decide +kernel
theorem dX7_divides_30 : decode cX7_divides 30 = .ok (.lload_n 1, 1) := by decide +kernel
theorem dX7_divides_31 : decode cX7_divides 31 = .ok (.lstore 6, 2) := by decide +kernel
theorem dX7_divides_33 : decode cX7_divides 33 = .ok (.iconst 0, 1) := by decide +kernel
theorem dX7_divides_34 : decode cX7_divides 34 = .ok (.istore 8, 2) := by decide +kernel
theorem dX7_divides_36 : decode cX7_divides 36 = .ok (.iload 8, 2) := by decide +kernel
theorem dX7_divides_38 : decode cX7_divides 38 = .ok (.iload_n 3, 1) := by decide +kernel
theorem dX7_divides_39 : decode cX7_divides 39 = .ok (.if_icmp .ge 59, 3) := by decide +kernel
theorem dX7_divides_42 : decode cX7_divides 42 = .ok (.aload_n 0, 1) := by decide +kernel
theorem dX7_divides_43 : decode cX7_divides 43 = .ok (.getfield 33, 3) := by decide +kernel
theorem dX7_divides_46 : decode cX7_divides 46 = .ok (.iload 8, 2) := by decide +kernel
theorem dX7_divides_48 : decode cX7_divides 48 = .ok (.lload_n 1, 1) := by decide +kernel
theorem dX7_divides_49 : decode cX7_divides 49 = .ok (.aload_n 0, 1) := by decide +kernel
theorem dX7_divides_50 : decode cX7_divides 50 = .ok (.getfield 29, 3) := by decide +kernel
theorem dX7_divides_53 : decode cX7_divides 53 = .ok (.iload 8, 2) := by decide +kernel
theorem dX7_divides_55 : decode cX7_divides 55 = .ok (.laload, 1) := by decide +kernel
theorem dX7_divides_56 : decode cX7_divides 56 = .ok (.lmul, 1) := by decide +kernel
theorem dX7_divides_57 : decode cX7_divides 57 = .ok (.lload 4, 2) := by decide +kernel
theorem dX7_divides_59 : decode cX7_divides 59 = .ok (.ldiv, 1) := by decide +kernel
theorem dX7_divides_60 : decode cX7_divides 60 = .ok (.lastore, 1) := by decide +kernel
theorem dX7_divides_61 : decode cX7_divides 61 = .ok (.aload_n 0, 1) := by decide +kernel
theorem dX7_divides_62 : decode cX7_divides 62 = .ok (.getfield 36, 3) := by decide +kernel
theorem dX7_divides_65 : decode cX7_divides 65 = .ok (.iload 8, 2) := by decide +kernel
theorem dX7_divides_67 : decode cX7_divides 67 = .ok (.lload_n 1, 1) := by decide +kernel
theorem dX7_divides_68 : decode cX7_divides 68 = .ok (.aload_n 0, 1) := by decide +kernel
theorem dX7_divides_69 : decode cX7_divides 69 = .ok (.getfield 29, 3) := by decide +kernel
theorem dX7_divides_72 : decode cX7_divides 72 = .ok (.iload 8, 2) := by decide +kernel
theorem dX7_divides_74 : decode cX7_divides 74 = .ok (.laload, 1) := by decide +kernel
theorem dX7_divides_75 : decode cX7_divides 75 = .ok (.lmul, 1) := by decide +kernel
theorem dX7_divides_76 : decode cX7_divides 76 = .ok (.lload 4, 2) := by decide +kernel
theorem dX7_divides_78 : decode cX7_divides 78 = .ok (.lrem, 1) := by decide +kernel
theorem dX7_divides_79 : decode cX7_divides 79 = .ok (.lastore, 1) := by decide +kernel
theorem dX7_divides_80 : decode cX7_divides 80 = .ok (.lload 6, 2) := by decide +kernel
theorem dX7_divides_82 : decode cX7_divides 82 = .ok (.aload_n 0, 1) := by decide +kernel
theorem dX7_divides_83 : decode cX7_divides 83 = .ok (.getfield 33, 3) := by decide +kernel
theorem dX7_divides_86 : decode cX7_divides 86 = .ok (.iload 8, 2) := by decide +kernel
theorem dX7_divides_88 : decode cX7_divides 88 = .ok (.laload, 1) := by decide +kernel
theorem dX7_divides_89 : decode cX7_divides 89 = .ok (.lsub, 1) := by decide +kernel
theorem dX7_divides_90 : decode cX7_divides 90 = .ok (.lstore 6, 2) := by decide +kernel
theorem dX7_divides_92 : decode cX7_divides 92 = .ok (.iinc 8 1, 3) := by decide +kernel
theorem dX7_divides_95 : decode cX7_divides 95 = .ok (.goto (-59), 3) := by decide +kernel
theorem dX7_divides_98 : decode cX7_divides 98 = .ok (.lload 6, 2) := by decide +kernel
theorem dX7_divides_100 : decode cX7_divides 100 = .ok (.lconst 0, 1) := by decide +kernel
theorem dX7_divides_101 : decode cX7_divides 101 = .ok (.lcmp, 1) := by decide +kernel
theorem dX7_divides_102 : decode cX7_divides 102 = .ok (.ifCond .le 78, 3) := by decide +kernel
theorem dX7_divides_105 : decode cX7_divides 105 = .ok (.iconst 0, 1) := by decide +kernel
theorem dX7_divides_106 : decode cX7_divides 106 = .ok (.istore 8, 2) := by decide +kernel
theorem dX7_divides_108 : decode cX7_divides 108 = .ok (.iconst 1, 1) := by decide +kernel
theorem dX7_divides_109 : decode cX7_divides 109 = .ok (.istore 9, 2) := by decide +kernel
theorem dX7_divides_111 : decode cX7_divides 111 = .ok (.iload 9, 2) := by decide +kernel
theorem dX7_divides_113 : decode cX7_divides 113 = .ok (.iload_n 3, 1) := by decide +kernel
theorem dX7_divides_114 : decode cX7_divides 114 = .ok (.if_icmp .ge 36, 3) := by decide +kernel
theorem dX7_divides_117 : decode cX7_divides 117 = .ok (.aload_n 0, 1) := by decide +kernel
theorem dX7_divides_118 : decode cX7_divides 118 = .ok (.getfield 36, 3) := by decide +kernel
theorem dX7_divides_121 : decode cX7_divides 121 = .ok (.iload 9, 2) := by decide +kernel
theorem dX7_divides_123 : decode cX7_divides 123 = .ok (.laload, 1) := by decide +kernel
theorem dX7_divides_124 : decode cX7_divides 124 = .ok (.aload_n 0, 1) := by decide +kernel
theorem dX7_divides_125 : decode cX7_divides 125 = .ok (.getfield 36, 3) := by decide +kernel
theorem dX7_divides_128 : decode cX7_divides 128 = .ok (.iload 8, 2) := by decide +kernel
theorem dX7_divides_130 : decode cX7_divides 130 = .ok (.laload, 1) := by decide +kernel
theorem dX7_divides_131 : decode cX7_divides 131 = .ok (.lcmp, 1) := by decide +kernel
theorem dX7_divides_132 : decode cX7_divides 132 = .ok (.ifCond .le 8, 3) := by decide +kernel
theorem dX7_divides_135 : decode cX7_divides 135 = .ok (.iload 9, 2) := by decide +kernel
theorem dX7_divides_137 : decode cX7_divides 137 = .ok (.goto 5, 3) := by decide +kernel
theorem dX7_divides_140 : decode cX7_divides 140 = .ok (.iload 8, 2) := by decide +kernel
theorem dX7_divides_142 : decode cX7_divides 142 = .ok (.istore 8, 2) := by decide +kernel
theorem dX7_divides_144 : decode cX7_divides 144 = .ok (.iinc 9 1, 3) := by decide +kernel
theorem dX7_divides_147 : decode cX7_divides 147 = .ok (.goto (-36), 3) := by decide +kernel
theorem dX7_divides_150 : decode cX7_divides 150 = .ok (.aload_n 0, 1) := by decide +kernel
theorem dX7_divides_151 : decode cX7_divides 151 = .ok (.getfield 33, 3) := by decide +kernel
theorem dX7_divides_154 : decode cX7_divides 154 = .ok (.iload 8, 2) := by decide +kernel
theorem dX7_divides_156 : decode cX7_divides 156 = .ok (.dup2, 1) := by decide +kernel
theorem dX7_divides_157 : decode cX7_divides 157 = .ok (.laload, 1) := by decide +kernel
theorem dX7_divides_158 : decode cX7_divides 158 = .ok (.lconst 1, 1) := by decide +kernel
theorem dX7_divides_159 : decode cX7_divides 159 = .ok (.ladd, 1) := by decide +kernel
theorem dX7_divides_160 : decode cX7_divides 160 = .ok (.lastore, 1) := by decide +kernel
theorem dX7_divides_161 : decode cX7_divides 161 = .ok (.aload_n 0, 1) := by decide +kernel
theorem dX7_divides_162 : decode cX7_divides 162 = .ok (.getfield 36, 3) := by decide +kernel
theorem dX7_divides_165 : decode cX7_divides 165 = .ok (.iload 8, 2) := by decide +kernel
theorem dX7_divides_167 : decode cX7_divides 167 = .ok (.ldc2_w 115, 3) := by decide +kernel
theorem dX7_divides_170 : decode cX7_divides 170 = .ok (.lastore, 1) := by decide +kernel
theorem dX7_divides_171 : decode cX7_divides 171 = .ok (.lload 6, 2) := by decide +kernel
theorem dX7_divides_173 : decode cX7_divides 173 = .ok (.lconst 1, 1) := by decide +kernel
theorem dX7_divides_174 : decode cX7_divides 174 = .ok (.lsub, 1) := by decide +kernel
theorem dX7_divides_175 : decode cX7_divides 175 = .ok (.lstore 6, 2) := by decide +kernel
theorem dX7_divides_177 : decode cX7_divides 177 = .ok (.goto (-79), 3) := by decide +kernel
theorem dX7_divides_180 : decode cX7_divides 180 = .ok (.return_, 1) := by decide +kernel
theorem dX7_clamped_0 : decode cX7_clamped 0 = .ok (.aload_n 0, 1) := by decide +kernel
theorem dX7_clamped_1 : decode cX7_clamped 1 = .ok (.iload_n 1, 1) := by decide +kernel
theorem dX7_clamped_2 : decode cX7_clamped 2 = .ok (.iconst 4, 1) := by decide +kernel
theorem dX7_clamped_3 : decode cX7_clamped 3 = .ok (.invokevirtual 145, 3) := by decide +kernel
theorem dX7_clamped_6 : decode cX7_clamped 6 = .ok (.ifCond .lt 22, 3) := by decide +kernel
theorem dX7_clamped_9 : decode cX7_clamped 9 = .ok (.iload_n 2, 1) := by decide +kernel
theorem dX7_clamped_10 : decode cX7_clamped 10 = .ok (.aload_n 0, 1) := by decide +kernel
theorem dX7_clamped_11 : decode cX7_clamped 11 = .ok (.iload_n 1, 1) := by decide +kernel
theorem dX7_clamped_12 : decode cX7_clamped 12 = .ok (.iconst 4, 1) := by decide +kernel
theorem dX7_clamped_13 : decode cX7_clamped 13 = .ok (.invokevirtual 145, 3) := by decide +kernel
theorem dX7_clamped_16 : decode cX7_clamped 16 = .ok (.if_icmp .le 12, 3) := by decide +kernel
theorem dX7_clamped_19 : decode cX7_clamped 19 = .ok (.aload_n 0, 1) := by decide +kernel
theorem dX7_clamped_20 : decode cX7_clamped 20 = .ok (.iload_n 1, 1) := by decide +kernel
theorem dX7_clamped_21 : decode cX7_clamped 21 = .ok (.iconst 4, 1) := by decide +kernel
theorem dX7_clamped_22 : decode cX7_clamped 22 = .ok (.invokevirtual 145, 3) := by decide +kernel
theorem dX7_clamped_25 : decode cX7_clamped 25 = .ok (.goto 4, 3) := by decide +kernel
theorem dX7_clamped_28 : decode cX7_clamped 28 = .ok (.iload_n 2, 1) := by decide +kernel
theorem dX7_clamped_29 : decode cX7_clamped 29 = .ok (.istore_n 3, 1) := by decide +kernel
theorem dX7_clamped_30 : decode cX7_clamped 30 = .ok (.iload_n 3, 1) := by decide +kernel
theorem dX7_clamped_31 : decode cX7_clamped 31 = .ok (.aload_n 0, 1) := by decide +kernel
theorem dX7_clamped_32 : decode cX7_clamped 32 = .ok (.iload_n 1, 1) := by decide +kernel
theorem dX7_clamped_33 : decode cX7_clamped 33 = .ok (.iconst 3, 1) := by decide +kernel
theorem dX7_clamped_34 : decode cX7_clamped 34 = .ok (.invokevirtual 145, 3) := by decide +kernel
theorem dX7_clamped_37 : decode cX7_clamped 37 = .ok (.if_icmp .ge 12, 3) := by decide +kernel
theorem dX7_clamped_40 : decode cX7_clamped 40 = .ok (.aload_n 0, 1) := by decide +kernel
theorem dX7_clamped_41 : decode cX7_clamped 41 = .ok (.iload_n 1, 1) := by decide +kernel
theorem dX7_clamped_42 : decode cX7_clamped 42 = .ok (.iconst 3, 1) := by decide +kernel
theorem dX7_clamped_43 : decode cX7_clamped 43 = .ok (.invokevirtual 145, 3) := by decide +kernel
theorem dX7_clamped_46 : decode cX7_clamped 46 = .ok (.goto 4, 3) := by decide +kernel
theorem dX7_clamped_49 : decode cX7_clamped 49 = .ok (.iload_n 3, 1) := by decide +kernel
theorem dX7_clamped_50 : decode cX7_clamped 50 = .ok (.ireturn, 1) := by decide +kernel
theorem dX7_hypothetical_0 : decode cX7_hypothetical 0 = .ok (.aload_n 0, 1) := by decide +kernel
theorem dX7_hypothetical_1 : decode cX7_hypothetical 1 = .ok (.iload_n 1, 1) := by decide +kernel
theorem dX7_hypothetical_2 : decode cX7_hypothetical 2 = .ok (.aload_n 0, 1) := by decide +kernel
theorem dX7_hypothetical_3 : decode cX7_hypothetical 3 = .ok (.iload_n 1, 1) := by decide +kernel
theorem dX7_hypothetical_4 : decode cX7_hypothetical 4 = .ok (.iconst 0, 1) := by decide +kernel
theorem dX7_hypothetical_5 : decode cX7_hypothetical 5 = .ok (.invokevirtual 145, 3) := by decide +kernel
theorem dX7_hypothetical_8 : decode cX7_hypothetical 8 = .ok (.invokevirtual 175, 3) := by decide +kernel
theorem dX7_hypothetical_11 : decode cX7_hypothetical 11 = .ok (.ireturn, 1) := by decide +kernel
theorem dX7_findSequence_0 : decode cX7_findSequence 0 = .ok (.iconst 0, 1) := by decide +kernel
theorem dX7_findSequence_1 : decode cX7_findSequence 1 = .ok (.istore_n 1, 1) := by decide +kernel
theorem dX7_findSequence_2 : decode cX7_findSequence 2 = .ok (.iload_n 1, 1) := by decide +kernel
theorem dX7_findSequence_3 : decode cX7_findSequence 3 = .ok (.aload_n 0, 1) := by decide +kernel
theorem dX7_findSequence_4 : decode cX7_findSequence 4 = .ok (.getfield 124, 3) := by decide +kernel
theorem dX7_findSequence_7 : decode cX7_findSequence 7 = .ok (.if_icmp .ge 66, 3) := by decide +kernel
theorem dX7_findSequence_10 : decode cX7_findSequence 10 = .ok (.iload_n 1, 1) := by decide +kernel
theorem dX7_findSequence_11 : decode cX7_findSequence 11 = .ok (.istore_n 2, 1) := by decide +kernel
theorem dX7_findSequence_12 : decode cX7_findSequence 12 = .ok (.iload_n 2, 1) := by decide +kernel
theorem dX7_findSequence_13 : decode cX7_findSequence 13 = .ok (.ifCond .le 47, 3) := by decide +kernel
theorem dX7_findSequence_16 : decode cX7_findSequence 16 = .ok (.aload_n 0, 1) := by decide +kernel
theorem dX7_findSequence_17 : decode cX7_findSequence 17 = .ok (.aload_n 0, 1) := by decide +kernel
theorem dX7_findSequence_18 : decode cX7_findSequence 18 = .ok (.getfield 39, 3) := by decide +kernel
theorem dX7_findSequence_21 : decode cX7_findSequence 21 = .ok (.iload_n 2, 1) := by decide +kernel
theorem dX7_findSequence_22 : decode cX7_findSequence 22 = .ok (.iconst 1, 1) := by decide +kernel
theorem dX7_findSequence_23 : decode cX7_findSequence 23 = .ok (.isub, 1) := by decide +kernel
theorem dX7_findSequence_24 : decode cX7_findSequence 24 = .ok (.iaload, 1) := by decide +kernel
theorem dX7_findSequence_25 : decode cX7_findSequence 25 = .ok (.bipush 8, 2) := by decide +kernel
theorem dX7_findSequence_27 : decode cX7_findSequence 27 = .ok (.invokevirtual 145, 3) := by decide +kernel
theorem dX7_findSequence_30 : decode cX7_findSequence 30 = .ok (.aload_n 0, 1) := by decide +kernel
theorem dX7_findSequence_31 : decode cX7_findSequence 31 = .ok (.iload_n 1, 1) := by decide +kernel
theorem dX7_findSequence_32 : decode cX7_findSequence 32 = .ok (.bipush 8, 2) := by decide +kernel
theorem dX7_findSequence_34 : decode cX7_findSequence 34 = .ok (.invokevirtual 145, 3) := by decide +kernel
theorem dX7_findSequence_37 : decode cX7_findSequence 37 = .ok (.if_icmp .le 23, 3) := by decide +kernel
theorem dX7_findSequence_40 : decode cX7_findSequence 40 = .ok (.aload_n 0, 1) := by decide +kernel
theorem dX7_findSequence_41 : decode cX7_findSequence 41 = .ok (.getfield 39, 3) := by decide +kernel
theorem dX7_findSequence_44 : decode cX7_findSequence 44 = .ok (.iload_n 2, 1) := by decide +kernel
theorem dX7_findSequence_45 : decode cX7_findSequence 45 = .ok (.aload_n 0, 1) := by decide +kernel
theorem dX7_findSequence_46 : decode cX7_findSequence 46 = .ok (.getfield 39, 3) := by decide +kernel
theorem dX7_findSequence_49 : decode cX7_findSequence 49 = .ok (.iload_n 2, 1) := by decide +kernel
theorem dX7_findSequence_50 : decode cX7_findSequence 50 = .ok (.iconst 1, 1) := by decide +kernel
theorem dX7_findSequence_51 : decode cX7_findSequence 51 = .ok (.isub, 1) := by decide +kernel
theorem dX7_findSequence_52 : decode cX7_findSequence 52 = .ok (.iaload, 1) := by decide +kernel
theorem dX7_findSequence_53 : decode cX7_findSequence 53 = .ok (.iastore, 1) := by decide +kernel
theorem dX7_findSequence_54 : decode cX7_findSequence 54 = .ok (.iinc 2 (-1), 3) := by decide +kernel
theorem dX7_findSequence_57 : decode cX7_findSequence 57 = .ok (.goto (-45), 3) := by decide +kernel
theorem dX7_findSequence_60 : decode cX7_findSequence 60 = .ok (.aload_n 0, 1) := by decide +kernel
theorem dX7_findSequence_61 : decode cX7_findSequence 61 = .ok (.getfield 39, 3) := by decide +kernel
theorem dX7_findSequence_64 : decode cX7_findSequence 64 = .ok (.iload_n 2, 1) := by decide +kernel
theorem dX7_findSequence_65 : decode cX7_findSequence 65 = .ok (.iload_n 1, 1) := by decide +kernel
theorem dX7_findSequence_66 : decode cX7_findSequence 66 = .ok (.iastore, 1) := by decide +kernel
theorem dX7_findSequence_67 : decode cX7_findSequence 67 = .ok (.iinc 1 1, 3) := by decide +kernel
theorem dX7_findSequence_70 : decode cX7_findSequence 70 = .ok (.goto (-68), 3) := by decide +kernel
theorem dX7_findSequence_73 : decode cX7_findSequence 73 = .ok (.iconst 0, 1) := by decide +kernel
theorem dX7_findSequence_74 : decode cX7_findSequence 74 = .ok (.istore_n 1, 1) := by decide +kernel
theorem dX7_findSequence_75 : decode cX7_findSequence 75 = .ok (.iload_n 1, 1) := by decide +kernel
theorem dX7_findSequence_76 : decode cX7_findSequence 76 = .ok (.aload_n 0, 1) := by decide +kernel
theorem dX7_findSequence_77 : decode cX7_findSequence 77 = .ok (.getfield 124, 3) := by decide +kernel
theorem dX7_findSequence_80 : decode cX7_findSequence 80 = .ok (.if_icmp .ge 21, 3) := by decide +kernel
theorem dX7_findSequence_83 : decode cX7_findSequence 83 = .ok (.aload_n 0, 1) := by decide +kernel
theorem dX7_findSequence_84 : decode cX7_findSequence 84 = .ok (.getfield 57, 3) := by decide +kernel
theorem dX7_findSequence_87 : decode cX7_findSequence 87 = .ok (.aload_n 0, 1) := by decide +kernel
theorem dX7_findSequence_88 : decode cX7_findSequence 88 = .ok (.getfield 39, 3) := by decide +kernel
theorem dX7_findSequence_91 : decode cX7_findSequence 91 = .ok (.iload_n 1, 1) := by decide +kernel
theorem dX7_findSequence_92 : decode cX7_findSequence 92 = .ok (.iaload, 1) := by decide +kernel
theorem dX7_findSequence_93 : decode cX7_findSequence 93 = .ok (.iload_n 1, 1) := by decide +kernel
theorem dX7_findSequence_94 : decode cX7_findSequence 94 = .ok (.iastore, 1) := by decide +kernel
theorem dX7_findSequence_95 : decode cX7_findSequence 95 = .ok (.iinc 1 1, 3) := by decide +kernel
theorem dX7_findSequence_98 : decode cX7_findSequence 98 = .ok (.goto (-23), 3) := by decide +kernel
theorem dX7_findSequence_101 : decode cX7_findSequence 101 = .ok (.return_, 1) := by decide +kernel
theorem dX7_findLines_0 : decode cX7_findLines 0 = .ok (.aload_n 0, 1) := by decide +kernel
theorem dX7_findLines_1 : decode cX7_findLines 1 = .ok (.iconst 0, 1) := by decide +kernel
theorem dX7_findLines_2 : decode cX7_findLines 2 = .ok (.putfield 178, 3) := by decide +kernel
theorem dX7_findLines_5 : decode cX7_findLines 5 = .ok (.iconst 0, 1) := by decide +kernel
theorem dX7_findLines_6 : decode cX7_findLines 6 = .ok (.istore_n 3, 1) := by decide +kernel
theorem dX7_findLines_7 : decode cX7_findLines 7 = .ok (.iconst 0, 1) := by decide +kernel
theorem dX7_findLines_8 : decode cX7_findLines 8 = .ok (.istore 4, 2) := by decide +kernel
theorem dX7_findLines_10 : decode cX7_findLines 10 = .ok (.iload 4, 2) := by decide +kernel
theorem dX7_findLines_12 : decode cX7_findLines 12 = .ok (.aload_n 0, 1) := by decide +kernel
theorem dX7_findLines_13 : decode cX7_findLines 13 = .ok (.getfield 124, 3) := by decide +kernel
theorem dX7_findLines_16 : decode cX7_findLines 16 = .ok (.if_icmp .ge 141, 3) := by decide +kernel
theorem dX7_findLines_19 : decode cX7_findLines 19 = .ok (.aload_n 0, 1) := by decide +kernel
theorem dX7_findLines_20 : decode cX7_findLines 20 = .ok (.aload_n 0, 1) := by decide +kernel
theorem dX7_findLines_21 : decode cX7_findLines 21 = .ok (.getfield 39, 3) := by decide +kernel
theorem dX7_findLines_24 : decode cX7_findLines 24 = .ok (.iload 4, 2) := by decide +kernel
theorem dX7_findLines_26 : decode cX7_findLines 26 = .ok (.iaload, 1) := by decide +kernel
theorem dX7_findLines_27 : decode cX7_findLines 27 = .ok (.invokevirtual 181, 3) := by decide +kernel
theorem dX7_findLines_30 : decode cX7_findLines 30 = .ok (.istore 5, 2) := by decide +kernel
theorem dX7_findLines_32 : decode cX7_findLines 32 = .ok (.aload_n 0, 1) := by decide +kernel
theorem dX7_findLines_33 : decode cX7_findLines 33 = .ok (.getfield 178, 3) := by decide +kernel
theorem dX7_findLines_36 : decode cX7_findLines 36 = .ok (.ifCond .eq 22, 3) := by decide +kernel
theorem dX7_findLines_39 : decode cX7_findLines 39 = .ok (.iload_n 2, 1) := by decide +kernel
theorem dX7_findLines_40 : decode cX7_findLines 40 = .ok (.ifCond .eq 22, 3) := by decide +kernel
theorem dX7_findLines_43 : decode cX7_findLines 43 = .ok (.iload_n 3, 1) := by decide +kernel
theorem dX7_findLines_44 : decode cX7_findLines 44 = .ok (.aload_n 0, 1) := by decide +kernel
theorem dX7_findLines_45 : decode cX7_findLines 45 = .ok (.getfield 9, 3) := by decide +kernel
theorem dX7_findLines_48 : decode cX7_findLines 48 = .ok (.iconst 2, 1) := by decide +kernel
theorem dX7_findLines_49 : decode cX7_findLines 49 = .ok (.iaload, 1) := by decide +kernel
theorem dX7_findLines_50 : decode cX7_findLines 50 = .ok (.iadd, 1) := by decide +kernel
theorem dX7_findLines_51 : decode cX7_findLines 51 = .ok (.iload 5, 2) := by decide +kernel
theorem dX7_findLines_53 : decode cX7_findLines 53 = .ok (.iadd, 1) := by decide +kernel
theorem dX7_findLines_54 : decode cX7_findLines 54 = .ok (.iload_n 1, 1) := by decide +kernel
theorem dX7_findLines_55 : decode cX7_findLines 55 = .ok (.if_icmp .le 7, 3) := by decide +kernel
theorem dX7_findLines_58 : decode cX7_findLines 58 = .ok (.iconst 1, 1) := by decide +kernel
theorem dX7_findLines_59 : decode cX7_findLines 59 = .ok (.goto 4, 3) := by decide +kernel
theorem dX7_findLines_62 : decode cX7_findLines 62 = .ok (.iconst 0, 1) := by decide +kernel
theorem dX7_findLines_63 : decode cX7_findLines 63 = .ok (.istore 6, 2) := by decide +kernel
theorem dX7_findLines_65 : decode cX7_findLines 65 = .ok (.iload 6, 2) := by decide +kernel
theorem dX7_findLines_67 : decode cX7_findLines 67 = .ok (.ifCond .eq 34, 3) := by decide +kernel
theorem dX7_findLines_70 : decode cX7_findLines 70 = .ok (.aload_n 0, 1) := by decide +kernel
theorem dX7_findLines_71 : decode cX7_findLines 71 = .ok (.getfield 64, 3) := by decide +kernel
theorem dX7_findLines_74 : decode cX7_findLines 74 = .ok (.aload_n 0, 1) := by decide +kernel
theorem dX7_findLines_75 : decode cX7_findLines 75 = .ok (.getfield 178, 3) := by decide +kernel
theorem dX7_findLines_78 : decode cX7_findLines 78 = .ok (.iload 4, 2) := by decide +kernel
theorem dX7_findLines_80 : decode cX7_findLines 80 = .ok (.iastore, 1) := by decide +kernel
theorem dX7_findLines_81 : decode cX7_findLines 81 = .ok (.aload_n 0, 1) := by decide +kernel
theorem dX7_findLines_82 : decode cX7_findLines 82 = .ok (.getfield 67, 3) := by decide +kernel
theorem dX7_findLines_85 : decode cX7_findLines 85 = .ok (.aload_n 0, 1) := by decide +kernel
theorem dX7_findLines_86 : decode cX7_findLines 86 = .ok (.getfield 178, 3) := by decide +kernel
theorem dX7_findLines_89 : decode cX7_findLines 89 = .ok (.iconst 0, 1) := by decide +kernel
theorem dX7_findLines_90 : decode cX7_findLines 90 = .ok (.iastore, 1) := by decide +kernel
theorem dX7_findLines_91 : decode cX7_findLines 91 = .ok (.aload_n 0, 1) := by decide +kernel
theorem dX7_findLines_92 : decode cX7_findLines 92 = .ok (.dup, 1) := by decide +kernel
theorem dX7_findLines_93 : decode cX7_findLines 93 = .ok (.getfield 178, 3) := by decide +kernel
theorem dX7_findLines_96 : decode cX7_findLines 96 = .ok (.iconst 1, 1) := by decide +kernel
theorem dX7_findLines_97 : decode cX7_findLines 97 = .ok (.iadd, 1) := by decide +kernel
theorem dX7_findLines_98 : decode cX7_findLines 98 = .ok (.putfield 178, 3) := by decide +kernel
theorem dX7_findLines_101 : decode cX7_findLines 101 = .ok (.iload 6, 2) := by decide +kernel
theorem dX7_findLines_103 : decode cX7_findLines 103 = .ok (.ifCond .eq 8, 3) := by decide +kernel
theorem dX7_findLines_106 : decode cX7_findLines 106 = .ok (.iload 5, 2) := by decide +kernel
theorem dX7_findLines_108 : decode cX7_findLines 108 = .ok (.goto 14, 3) := by decide +kernel
theorem dX7_findLines_111 : decode cX7_findLines 111 = .ok (.iload_n 3, 1) := by decide +kernel
theorem dX7_findLines_112 : decode cX7_findLines 112 = .ok (.aload_n 0, 1) := by decide +kernel
theorem dX7_findLines_113 : decode cX7_findLines 113 = .ok (.getfield 9, 3) := by decide +kernel
theorem dX7_findLines_116 : decode cX7_findLines 116 = .ok (.iconst 2, 1) := by decide +kernel
theorem dX7_findLines_117 : decode cX7_findLines 117 = .ok (.iaload, 1) := by decide +kernel
theorem dX7_findLines_118 : decode cX7_findLines 118 = .ok (.iadd, 1) := by decide +kernel
theorem dX7_findLines_119 : decode cX7_findLines 119 = .ok (.iload 5, 2) := by decide +kernel
theorem dX7_findLines_121 : decode cX7_findLines 121 = .ok (.iadd, 1) := by decide +kernel
theorem dX7_findLines_122 : decode cX7_findLines 122 = .ok (.istore_n 3, 1) := by decide +kernel
theorem dX7_findLines_123 : decode cX7_findLines 123 = .ok (.aload_n 0, 1) := by decide +kernel
theorem dX7_findLines_124 : decode cX7_findLines 124 = .ok (.getfield 67, 3) := by decide +kernel
theorem dX7_findLines_127 : decode cX7_findLines 127 = .ok (.aload_n 0, 1) := by decide +kernel
theorem dX7_findLines_128 : decode cX7_findLines 128 = .ok (.getfield 178, 3) := by decide +kernel
theorem dX7_findLines_131 : decode cX7_findLines 131 = .ok (.iconst 1, 1) := by decide +kernel
theorem dX7_findLines_132 : decode cX7_findLines 132 = .ok (.isub, 1) := by decide +kernel
theorem dX7_findLines_133 : decode cX7_findLines 133 = .ok (.dup2, 1) := by decide +kernel
theorem dX7_findLines_134 : decode cX7_findLines 134 = .ok (.iaload, 1) := by decide +kernel
theorem dX7_findLines_135 : decode cX7_findLines 135 = .ok (.iconst 1, 1) := by decide +kernel
theorem dX7_findLines_136 : decode cX7_findLines 136 = .ok (.iadd, 1) := by decide +kernel
theorem dX7_findLines_137 : decode cX7_findLines 137 = .ok (.iastore, 1) := by decide +kernel
theorem dX7_findLines_138 : decode cX7_findLines 138 = .ok (.aload_n 0, 1) := by decide +kernel
theorem dX7_findLines_139 : decode cX7_findLines 139 = .ok (.getfield 45, 3) := by decide +kernel
theorem dX7_findLines_142 : decode cX7_findLines 142 = .ok (.iload 4, 2) := by decide +kernel
theorem dX7_findLines_144 : decode cX7_findLines 144 = .ok (.aload_n 0, 1) := by decide +kernel
theorem dX7_findLines_145 : decode cX7_findLines 145 = .ok (.getfield 178, 3) := by decide +kernel
theorem dX7_findLines_148 : decode cX7_findLines 148 = .ok (.iconst 1, 1) := by decide +kernel
theorem dX7_findLines_149 : decode cX7_findLines 149 = .ok (.isub, 1) := by decide +kernel
theorem dX7_findLines_150 : decode cX7_findLines 150 = .ok (.iastore, 1) := by decide +kernel
theorem dX7_findLines_151 : decode cX7_findLines 151 = .ok (.iinc 4 1, 3) := by decide +kernel
theorem dX7_findLines_154 : decode cX7_findLines 154 = .ok (.goto (-144), 3) := by decide +kernel
theorem dX7_findLines_157 : decode cX7_findLines 157 = .ok (.return_, 1) := by decide +kernel
theorem dX7_available_0 : decode cX7_available 0 = .ok (.aload_n 0, 1) := by decide +kernel
theorem dX7_available_1 : decode cX7_available 1 = .ok (.getfield 9, 3) := by decide +kernel
theorem dX7_available_4 : decode cX7_available 4 = .ok (.iconst 0, 1) := by decide +kernel
theorem dX7_available_5 : decode cX7_available 5 = .ok (.iaload, 1) := by decide +kernel
theorem dX7_available_6 : decode cX7_available 6 = .ok (.aload_n 0, 1) := by decide +kernel
theorem dX7_available_7 : decode cX7_available 7 = .ok (.getfield 9, 3) := by decide +kernel
theorem dX7_available_10 : decode cX7_available 10 = .ok (.iconst 2, 1) := by decide +kernel
theorem dX7_available_11 : decode cX7_available 11 = .ok (.iaload, 1) := by decide +kernel
theorem dX7_available_12 : decode cX7_available 12 = .ok (.aload_n 0, 1) := by decide +kernel
theorem dX7_available_13 : decode cX7_available 13 = .ok (.getfield 67, 3) := by decide +kernel
theorem dX7_available_16 : decode cX7_available 16 = .ok (.iload_n 1, 1) := by decide +kernel
theorem dX7_available_17 : decode cX7_available 17 = .ok (.iaload, 1) := by decide +kernel
theorem dX7_available_18 : decode cX7_available 18 = .ok (.iconst 1, 1) := by decide +kernel
theorem dX7_available_19 : decode cX7_available 19 = .ok (.isub, 1) := by decide +kernel
theorem dX7_available_20 : decode cX7_available 20 = .ok (.imul, 1) := by decide +kernel
theorem dX7_available_21 : decode cX7_available 21 = .ok (.isub, 1) := by decide +kernel
theorem dX7_available_22 : decode cX7_available 22 = .ok (.ireturn, 1) := by decide +kernel
theorem dX7_leftOf_0 : decode cX7_leftOf 0 = .ok (.aload_n 0, 1) := by decide +kernel
theorem dX7_leftOf_1 : decode cX7_leftOf 1 = .ok (.iload_n 1, 1) := by decide +kernel
theorem dX7_leftOf_2 : decode cX7_leftOf 2 = .ok (.invokevirtual 184, 3) := by decide +kernel
theorem dX7_leftOf_5 : decode cX7_leftOf 5 = .ok (.istore_n 2, 1) := by decide +kernel
theorem dX7_leftOf_6 : decode cX7_leftOf 6 = .ok (.aload_n 0, 1) := by decide +kernel
theorem dX7_leftOf_7 : decode cX7_leftOf 7 = .ok (.getfield 64, 3) := by decide +kernel
theorem dX7_leftOf_10 : decode cX7_leftOf 10 = .ok (.iload_n 1, 1) := by decide +kernel
theorem dX7_leftOf_11 : decode cX7_leftOf 11 = .ok (.iaload, 1) := by decide +kernel
theorem dX7_leftOf_12 : decode cX7_leftOf 12 = .ok (.istore_n 3, 1) := by decide +kernel
theorem dX7_leftOf_13 : decode cX7_leftOf 13 = .ok (.iload_n 3, 1) := by decide +kernel
theorem dX7_leftOf_14 : decode cX7_leftOf 14 = .ok (.aload_n 0, 1) := by decide +kernel
theorem dX7_leftOf_15 : decode cX7_leftOf 15 = .ok (.getfield 64, 3) := by decide +kernel
theorem dX7_leftOf_18 : decode cX7_leftOf 18 = .ok (.iload_n 1, 1) := by decide +kernel
theorem dX7_leftOf_19 : decode cX7_leftOf 19 = .ok (.iaload, 1) := by decide +kernel
theorem dX7_leftOf_20 : decode cX7_leftOf 20 = .ok (.aload_n 0, 1) := by decide +kernel
theorem dX7_leftOf_21 : decode cX7_leftOf 21 = .ok (.getfield 67, 3) := by decide +kernel
theorem dX7_leftOf_24 : decode cX7_leftOf 24 = .ok (.iload_n 1, 1) := by decide +kernel
theorem dX7_leftOf_25 : decode cX7_leftOf 25 = .ok (.iaload, 1) := by decide +kernel
theorem dX7_leftOf_26 : decode cX7_leftOf 26 = .ok (.iadd, 1) := by decide +kernel
theorem dX7_leftOf_27 : decode cX7_leftOf 27 = .ok (.if_icmp .ge 41, 3) := by decide +kernel
theorem dX7_leftOf_30 : decode cX7_leftOf 30 = .ok (.iload_n 2, 1) := by decide +kernel
theorem dX7_leftOf_31 : decode cX7_leftOf 31 = .ok (.aload_n 0, 1) := by decide +kernel
theorem dX7_leftOf_32 : decode cX7_leftOf 32 = .ok (.getfield 60, 3) := by decide +kernel
theorem dX7_leftOf_35 : decode cX7_leftOf 35 = .ok (.iload_n 3, 1) := by decide +kernel
theorem dX7_leftOf_36 : decode cX7_leftOf 36 = .ok (.baload, 1) := by decide +kernel
theorem dX7_leftOf_37 : decode cX7_leftOf 37 = .ok (.ifCond .eq 12, 3) := by decide +kernel
theorem dX7_leftOf_40 : decode cX7_leftOf 40 = .ok (.aload_n 0, 1) := by decide +kernel
theorem dX7_leftOf_41 : decode cX7_leftOf 41 = .ok (.getfield 42, 3) := by decide +kernel
theorem dX7_leftOf_44 : decode cX7_leftOf 44 = .ok (.iload_n 3, 1) := by decide +kernel
theorem dX7_leftOf_45 : decode cX7_leftOf 45 = .ok (.iaload, 1) := by decide +kernel
theorem dX7_leftOf_46 : decode cX7_leftOf 46 = .ok (.goto 14, 3) := by decide +kernel
theorem dX7_leftOf_49 : decode cX7_leftOf 49 = .ok (.aload_n 0, 1) := by decide +kernel
theorem dX7_leftOf_50 : decode cX7_leftOf 50 = .ok (.aload_n 0, 1) := by decide +kernel
theorem dX7_leftOf_51 : decode cX7_leftOf 51 = .ok (.getfield 39, 3) := by decide +kernel
theorem dX7_leftOf_54 : decode cX7_leftOf 54 = .ok (.iload_n 3, 1) := by decide +kernel
theorem dX7_leftOf_55 : decode cX7_leftOf 55 = .ok (.iaload, 1) := by decide +kernel
theorem dX7_leftOf_56 : decode cX7_leftOf 56 = .ok (.iconst 0, 1) := by decide +kernel
theorem dX7_leftOf_57 : decode cX7_leftOf 57 = .ok (.invokevirtual 145, 3) := by decide +kernel
theorem dX7_leftOf_60 : decode cX7_leftOf 60 = .ok (.isub, 1) := by decide +kernel
theorem dX7_leftOf_61 : decode cX7_leftOf 61 = .ok (.istore_n 2, 1) := by decide +kernel
theorem dX7_leftOf_62 : decode cX7_leftOf 62 = .ok (.iinc 3 1, 3) := by decide +kernel
theorem dX7_leftOf_65 : decode cX7_leftOf 65 = .ok (.goto (-52), 3) := by decide +kernel
theorem dX7_leftOf_68 : decode cX7_leftOf 68 = .ok (.iload_n 2, 1) := by decide +kernel
theorem dX7_leftOf_69 : decode cX7_leftOf 69 = .ok (.ireturn, 1) := by decide +kernel
theorem dX7_hasShares_0 : decode cX7_hasShares 0 = .ok (.lconst 0, 1) := by decide +kernel
theorem dX7_hasShares_1 : decode cX7_hasShares 1 = .ok (.lstore 4, 2) := by decide +kernel
theorem dX7_hasShares_3 : decode cX7_hasShares 3 = .ok (.iconst 0, 1) := by decide +kernel
theorem dX7_hasShares_4 : decode cX7_hasShares 4 = .ok (.istore 6, 2) := by decide +kernel
theorem dX7_hasShares_6 : decode cX7_hasShares 6 = .ok (.iload 6, 2) := by decide +kernel
theorem dX7_hasShares_8 : decode cX7_hasShares 8 = .ok (.aload_n 0, 1) := by decide +kernel
theorem dX7_hasShares_9 : decode cX7_hasShares 9 = .ok (.getfield 67, 3) := by decide +kernel
theorem dX7_hasShares_12 : decode cX7_hasShares 12 = .ok (.iload_n 1, 1) := by decide +kernel
theorem dX7_hasShares_13 : decode cX7_hasShares 13 = .ok (.iaload, 1) := by decide +kernel
theorem dX7_hasShares_14 : decode cX7_hasShares 14 = .ok (.if_icmp .ge 97, 3) := by decide +kernel
theorem dX7_hasShares_17 : decode cX7_hasShares 17 = .ok (.aload_n 0, 1) := by decide +kernel
theorem dX7_hasShares_18 : decode cX7_hasShares 18 = .ok (.getfield 39, 3) := by decide +kernel
theorem dX7_hasShares_21 : decode cX7_hasShares 21 = .ok (.aload_n 0, 1) := by decide +kernel
theorem dX7_hasShares_22 : decode cX7_hasShares 22 = .ok (.getfield 64, 3) := by decide +kernel
theorem dX7_hasShares_25 : decode cX7_hasShares 25 = .ok (.iload_n 1, 1) := by decide +kernel
theorem dX7_hasShares_26 : decode cX7_hasShares 26 = .ok (.iaload, 1) := by decide +kernel
theorem dX7_hasShares_27 : decode cX7_hasShares 27 = .ok (.iload 6, 2) := by decide +kernel
theorem dX7_hasShares_29 : decode cX7_hasShares 29 = .ok (.iadd, 1) := by decide +kernel
theorem dX7_hasShares_30 : decode cX7_hasShares 30 = .ok (.iaload, 1) := by decide +kernel
theorem dX7_hasShares_31 : decode cX7_hasShares 31 = .ok (.istore 7, 2) := by decide +kernel
theorem dX7_hasShares_33 : decode cX7_hasShares 33 = .ok (.aload_n 0, 1) := by decide +kernel
theorem dX7_hasShares_34 : decode cX7_hasShares 34 = .ok (.getfield 29, 3) := by decide +kernel
theorem dX7_hasShares_37 : decode cX7_hasShares 37 = .ok (.iload 6, 2) := by decide +kernel
theorem dX7_hasShares_39 : decode cX7_hasShares 39 = .ok (.aload_n 0, 1) := by decide +kernel
theorem dX7_hasShares_40 : decode cX7_hasShares 40 = .ok (.getfield 60, 3) := by decide +kernel
theorem dX7_hasShares_43 : decode cX7_hasShares 43 = .ok (.aload_n 0, 1) := by decide +kernel
theorem dX7_hasShares_44 : decode cX7_hasShares 44 = .ok (.getfield 64, 3) := by decide +kernel
theorem dX7_hasShares_47 : decode cX7_hasShares 47 = .ok (.iload_n 1, 1) := by decide +kernel
theorem dX7_hasShares_48 : decode cX7_hasShares 48 = .ok (.iaload, 1) := by decide +kernel
theorem dX7_hasShares_49 : decode cX7_hasShares 49 = .ok (.iload 6, 2) := by decide +kernel
theorem dX7_hasShares_51 : decode cX7_hasShares 51 = .ok (.iadd, 1) := by decide +kernel
theorem dX7_hasShares_52 : decode cX7_hasShares 52 = .ok (.baload, 1) := by decide +kernel
theorem dX7_hasShares_53 : decode cX7_hasShares 53 = .ok (.ifCond .eq 7, 3) := by decide +kernel
theorem dX7_hasShares_56 : decode cX7_hasShares 56 = .ok (.lconst 0, 1) := by decide +kernel
theorem dX7_hasShares_57 : decode cX7_hasShares 57 = .ok (.goto 35, 3) := by decide +kernel
theorem dX7_hasShares_60 : decode cX7_hasShares 60 = .ok (.iload_n 3, 1) := by decide +kernel
theorem dX7_hasShares_61 : decode cX7_hasShares 61 = .ok (.ifCond .eq 14, 3) := by decide +kernel
theorem dX7_hasShares_64 : decode cX7_hasShares 64 = .ok (.aload_n 0, 1) := by decide +kernel
theorem dX7_hasShares_65 : decode cX7_hasShares 65 = .ok (.iload 7, 2) := by decide +kernel
theorem dX7_hasShares_67 : decode cX7_hasShares 67 = .ok (.iconst 1, 1) := by decide +kernel
theorem dX7_hasShares_68 : decode cX7_hasShares 68 = .ok (.invokevirtual 145, 3) := by decide +kernel
theorem dX7_hasShares_71 : decode cX7_hasShares 71 = .ok (.i2l, 1) := by decide +kernel
theorem dX7_hasShares_72 : decode cX7_hasShares 72 = .ok (.goto 20, 3) := by decide +kernel
theorem dX7_hasShares_75 : decode cX7_hasShares 75 = .ok (.aload_n 0, 1) := by decide +kernel
theorem dX7_hasShares_76 : decode cX7_hasShares 76 = .ok (.iload 7, 2) := by decide +kernel
theorem dX7_hasShares_78 : decode cX7_hasShares 78 = .ok (.iconst 2, 1) := by decide +kernel
theorem dX7_hasShares_79 : decode cX7_hasShares 79 = .ok (.invokevirtual 145, 3) := by decide +kernel
theorem dX7_hasShares_82 : decode cX7_hasShares 82 = .ok (.i2l, 1) := by decide +kernel
theorem dX7_hasShares_83 : decode cX7_hasShares 83 = .ok (.aload_n 0, 1) := by decide +kernel
theorem dX7_hasShares_84 : decode cX7_hasShares 84 = .ok (.iload 7, 2) := by decide +kernel
theorem dX7_hasShares_86 : decode cX7_hasShares 86 = .ok (.iconst 0, 1) := by decide +kernel
theorem dX7_hasShares_87 : decode cX7_hasShares 87 = .ok (.invokevirtual 145, 3) := by decide +kernel
theorem dX7_hasShares_90 : decode cX7_hasShares 90 = .ok (.i2l, 1) := by decide +kernel
theorem dX7_hasShares_91 : decode cX7_hasShares 91 = .ok (.lmul, 1) := by decide +kernel
theorem dX7_hasShares_92 : decode cX7_hasShares 92 = .ok (.lastore, 1) := by decide +kernel
theorem dX7_hasShares_93 : decode cX7_hasShares 93 = .ok (.lload 4, 2) := by decide +kernel
theorem dX7_hasShares_95 : decode cX7_hasShares 95 = .ok (.aload_n 0, 1) := by decide +kernel
theorem dX7_hasShares_96 : decode cX7_hasShares 96 = .ok (.getfield 29, 3) := by decide +kernel
theorem dX7_hasShares_99 : decode cX7_hasShares 99 = .ok (.iload 6, 2) := by decide +kernel
theorem dX7_hasShares_101 : decode cX7_hasShares 101 = .ok (.laload, 1) := by decide +kernel
theorem dX7_hasShares_102 : decode cX7_hasShares 102 = .ok (.ladd, 1) := by decide +kernel
theorem dX7_hasShares_103 : decode cX7_hasShares 103 = .ok (.lstore 4, 2) := by decide +kernel
theorem dX7_hasShares_105 : decode cX7_hasShares 105 = .ok (.iinc 6 1, 3) := by decide +kernel
theorem dX7_hasShares_108 : decode cX7_hasShares 108 = .ok (.goto (-102), 3) := by decide +kernel
theorem dX7_hasShares_111 : decode cX7_hasShares 111 = .ok (.lload 4, 2) := by decide +kernel
theorem dX7_hasShares_113 : decode cX7_hasShares 113 = .ok (.lconst 0, 1) := by decide +kernel
theorem dX7_hasShares_114 : decode cX7_hasShares 114 = .ok (.lcmp, 1) := by decide +kernel
theorem dX7_hasShares_115 : decode cX7_hasShares 115 = .ok (.ifCond .eq 18, 3) := by decide +kernel
theorem dX7_hasShares_118 : decode cX7_hasShares 118 = .ok (.iload_n 3, 1) := by decide +kernel
theorem dX7_hasShares_119 : decode cX7_hasShares 119 = .ok (.ifCond .eq 10, 3) := by decide +kernel
theorem dX7_hasShares_122 : decode cX7_hasShares 122 = .ok (.iload_n 2, 1) := by decide +kernel
theorem dX7_hasShares_123 : decode cX7_hasShares 123 = .ok (.ifCond .gt 12, 3) := by decide +kernel
theorem dX7_hasShares_126 : decode cX7_hasShares 126 = .ok (.goto 7, 3) := by decide +kernel
theorem dX7_hasShares_129 : decode cX7_hasShares 129 = .ok (.iload_n 2, 1) := by decide +kernel
theorem dX7_hasShares_130 : decode cX7_hasShares 130 = .ok (.ifCond .lt 5, 3) := by decide +kernel
theorem dX7_hasShares_133 : decode cX7_hasShares 133 = .ok (.iconst 0, 1) := by decide +kernel
theorem dX7_hasShares_134 : decode cX7_hasShares 134 = .ok (.ireturn, 1) := by decide +kernel
theorem dX7_hasShares_135 : decode cX7_hasShares 135 = .ok (.aload_n 0, 1) := by decide +kernel
theorem dX7_hasShares_136 : decode cX7_hasShares 136 = .ok (.iload_n 3, 1) := by decide +kernel
theorem dX7_hasShares_137 : decode cX7_hasShares 137 = .ok (.ifCond .eq 8, 3) := by decide +kernel
theorem dX7_hasShares_140 : decode cX7_hasShares 140 = .ok (.iload_n 2, 1) := by decide +kernel
theorem dX7_hasShares_141 : decode cX7_hasShares 141 = .ok (.i2l, 1) := by decide +kernel
theorem dX7_hasShares_142 : decode cX7_hasShares 142 = .ok (.goto 6, 3) := by decide +kernel
theorem dX7_hasShares_145 : decode cX7_hasShares 145 = .ok (.iload_n 2, 1) := by decide +kernel
theorem dX7_hasShares_146 : decode cX7_hasShares 146 = .ok (.ineg, 1) := by decide +kernel
theorem dX7_hasShares_147 : decode cX7_hasShares 147 = .ok (.i2l, 1) := by decide +kernel
theorem dX7_hasShares_148 : decode cX7_hasShares 148 = .ok (.aload_n 0, 1) := by decide +kernel
theorem dX7_hasShares_149 : decode cX7_hasShares 149 = .ok (.getfield 67, 3) := by decide +kernel
theorem dX7_hasShares_152 : decode cX7_hasShares 152 = .ok (.iload_n 1, 1) := by decide +kernel
theorem dX7_hasShares_153 : decode cX7_hasShares 153 = .ok (.iaload, 1) := by decide +kernel
theorem dX7_hasShares_154 : decode cX7_hasShares 154 = .ok (.invokevirtual 187, 3) := by decide +kernel
theorem dX7_hasShares_157 : decode cX7_hasShares 157 = .ok (.iconst 1, 1) := by decide +kernel
theorem dX7_hasShares_158 : decode cX7_hasShares 158 = .ok (.ireturn, 1) := by decide +kernel
theorem dX7_areFrozen_0 : decode cX7_areFrozen 0 = .ok (.iconst 1, 1) := by decide +kernel
theorem dX7_areFrozen_1 : decode cX7_areFrozen 1 = .ok (.istore_n 2, 1) := by decide +kernel
theorem dX7_areFrozen_2 : decode cX7_areFrozen 2 = .ok (.aload_n 0, 1) := by decide +kernel
theorem dX7_areFrozen_3 : decode cX7_areFrozen 3 = .ok (.getfield 64, 3) := by decide +kernel
theorem dX7_areFrozen_6 : decode cX7_areFrozen 6 = .ok (.iload_n 1, 1) := by decide +kernel
theorem dX7_areFrozen_7 : decode cX7_areFrozen 7 = .ok (.iaload, 1) := by decide +kernel
theorem dX7_areFrozen_8 : decode cX7_areFrozen 8 = .ok (.istore_n 3, 1) := by decide +kernel
theorem dX7_areFrozen_9 : decode cX7_areFrozen 9 = .ok (.iload_n 3, 1) := by decide +kernel
theorem dX7_areFrozen_10 : decode cX7_areFrozen 10 = .ok (.aload_n 0, 1) := by decide +kernel
theorem dX7_areFrozen_11 : decode cX7_areFrozen 11 = .ok (.getfield 64, 3) := by decide +kernel
theorem dX7_areFrozen_14 : decode cX7_areFrozen 14 = .ok (.iload_n 1, 1) := by decide +kernel
theorem dX7_areFrozen_15 : decode cX7_areFrozen 15 = .ok (.iaload, 1) := by decide +kernel
theorem dX7_areFrozen_16 : decode cX7_areFrozen 16 = .ok (.aload_n 0, 1) := by decide +kernel
theorem dX7_areFrozen_17 : decode cX7_areFrozen 17 = .ok (.getfield 67, 3) := by decide +kernel
theorem dX7_areFrozen_20 : decode cX7_areFrozen 20 = .ok (.iload_n 1, 1) := by decide +kernel
theorem dX7_areFrozen_21 : decode cX7_areFrozen 21 = .ok (.iaload, 1) := by decide +kernel
theorem dX7_areFrozen_22 : decode cX7_areFrozen 22 = .ok (.iadd, 1) := by decide +kernel
theorem dX7_areFrozen_23 : decode cX7_areFrozen 23 = .ok (.if_icmp .ge 28, 3) := by decide +kernel
theorem dX7_areFrozen_26 : decode cX7_areFrozen 26 = .ok (.iload_n 2, 1) := by decide +kernel
theorem dX7_areFrozen_27 : decode cX7_areFrozen 27 = .ok (.ifCond .eq 16, 3) := by decide +kernel
theorem dX7_areFrozen_30 : decode cX7_areFrozen 30 = .ok (.aload_n 0, 1) := by decide +kernel
theorem dX7_areFrozen_31 : decode cX7_areFrozen 31 = .ok (.getfield 60, 3) := by decide +kernel
theorem dX7_areFrozen_34 : decode cX7_areFrozen 34 = .ok (.iload_n 3, 1) := by decide +kernel
theorem dX7_areFrozen_35 : decode cX7_areFrozen 35 = .ok (.baload, 1) := by decide +kernel
theorem dX7_areFrozen_36 : decode cX7_areFrozen 36 = .ok (.ifCond .eq 7, 3) := by decide +kernel
theorem dX7_areFrozen_39 : decode cX7_areFrozen 39 = .ok (.iconst 1, 1) := by decide +kernel
theorem dX7_areFrozen_40 : decode cX7_areFrozen 40 = .ok (.goto 4, 3) := by decide +kernel
theorem dX7_areFrozen_43 : decode cX7_areFrozen 43 = .ok (.iconst 0, 1) := by decide +kernel
theorem dX7_areFrozen_44 : decode cX7_areFrozen 44 = .ok (.istore_n 2, 1) := by decide +kernel
theorem dX7_areFrozen_45 : decode cX7_areFrozen 45 = .ok (.iinc 3 1, 3) := by decide +kernel
theorem dX7_areFrozen_48 : decode cX7_areFrozen 48 = .ok (.goto (-39), 3) := by decide +kernel
theorem dX7_areFrozen_51 : decode cX7_areFrozen 51 = .ok (.iload_n 2, 1) := by decide +kernel
theorem dX7_areFrozen_52 : decode cX7_areFrozen 52 = .ok (.ireturn, 1) := by decide +kernel
theorem dX7_round_0 : decode cX7_round 0 = .ok (.aload_n 0, 1) := by decide +kernel
theorem dX7_round_1 : decode cX7_round 1 = .ok (.iload_n 1, 1) := by decide +kernel
theorem dX7_round_2 : decode cX7_round 2 = .ok (.aload_n 0, 1) := by decide +kernel
theorem dX7_round_3 : decode cX7_round 3 = .ok (.iload_n 1, 1) := by decide +kernel
theorem dX7_round_4 : decode cX7_round 4 = .ok (.invokevirtual 191, 3) := by decide +kernel
theorem dX7_round_7 : decode cX7_round 7 = .ok (.iload_n 2, 1) := by decide +kernel
theorem dX7_round_8 : decode cX7_round 8 = .ok (.invokevirtual 194, 3) := by decide +kernel
theorem dX7_round_11 : decode cX7_round 11 = .ok (.istore_n 3, 1) := by decide +kernel
theorem dX7_round_12 : decode cX7_round 12 = .ok (.iconst 0, 1) := by decide +kernel
theorem dX7_round_13 : decode cX7_round 13 = .ok (.istore 4, 2) := by decide +kernel
theorem dX7_round_15 : decode cX7_round 15 = .ok (.aload_n 0, 1) := by decide +kernel
theorem dX7_round_16 : decode cX7_round 16 = .ok (.getfield 64, 3) := by decide +kernel
theorem dX7_round_19 : decode cX7_round 19 = .ok (.iload_n 1, 1) := by decide +kernel
theorem dX7_round_20 : decode cX7_round 20 = .ok (.iaload, 1) := by decide +kernel
theorem dX7_round_21 : decode cX7_round 21 = .ok (.istore 5, 2) := by decide +kernel
theorem dX7_round_23 : decode cX7_round 23 = .ok (.iload 5, 2) := by decide +kernel
theorem dX7_round_25 : decode cX7_round 25 = .ok (.aload_n 0, 1) := by decide +kernel
theorem dX7_round_26 : decode cX7_round 26 = .ok (.getfield 64, 3) := by decide +kernel
theorem dX7_round_29 : decode cX7_round 29 = .ok (.iload_n 1, 1) := by decide +kernel
theorem dX7_round_30 : decode cX7_round 30 = .ok (.iaload, 1) := by decide +kernel
theorem dX7_round_31 : decode cX7_round 31 = .ok (.aload_n 0, 1) := by decide +kernel
theorem dX7_round_32 : decode cX7_round 32 = .ok (.getfield 67, 3) := by decide +kernel
theorem dX7_round_35 : decode cX7_round 35 = .ok (.iload_n 1, 1) := by decide +kernel
theorem dX7_round_36 : decode cX7_round 36 = .ok (.iaload, 1) := by decide +kernel
theorem dX7_round_37 : decode cX7_round 37 = .ok (.iadd, 1) := by decide +kernel
theorem dX7_round_38 : decode cX7_round 38 = .ok (.if_icmp .ge 123, 3) := by decide +kernel
theorem dX7_round_41 : decode cX7_round 41 = .ok (.aload_n 0, 1) := by decide +kernel
theorem dX7_round_42 : decode cX7_round 42 = .ok (.getfield 60, 3) := by decide +kernel
theorem dX7_round_45 : decode cX7_round 45 = .ok (.iload 5, 2) := by decide +kernel
theorem dX7_round_47 : decode cX7_round 47 = .ok (.baload, 1) := by decide +kernel
theorem dX7_round_48 : decode cX7_round 48 = .ok (.ifCond .eq 6, 3) := by decide +kernel
theorem dX7_round_51 : decode cX7_round 51 = .ok (.goto 104, 3) := by decide +kernel
theorem dX7_round_54 : decode cX7_round 54 = .ok (.iload_n 3, 1) := by decide +kernel
theorem dX7_round_55 : decode cX7_round 55 = .ok (.ifCond .eq 21, 3) := by decide +kernel
theorem dX7_round_58 : decode cX7_round 58 = .ok (.aload_n 0, 1) := by decide +kernel
theorem dX7_round_59 : decode cX7_round 59 = .ok (.getfield 33, 3) := by decide +kernel
theorem dX7_round_62 : decode cX7_round 62 = .ok (.iload 5, 2) := by decide +kernel
theorem dX7_round_64 : decode cX7_round 64 = .ok (.aload_n 0, 1) := by decide +kernel
theorem dX7_round_65 : decode cX7_round 65 = .ok (.getfield 64, 3) := by decide +kernel
theorem dX7_round_68 : decode cX7_round 68 = .ok (.iload_n 1, 1) := by decide +kernel
theorem dX7_round_69 : decode cX7_round 69 = .ok (.iaload, 1) := by decide +kernel
theorem dX7_round_70 : decode cX7_round 70 = .ok (.isub, 1) := by decide +kernel
theorem dX7_round_71 : decode cX7_round 71 = .ok (.laload, 1) := by decide +kernel
theorem dX7_round_72 : decode cX7_round 72 = .ok (.l2i, 1) := by decide +kernel
theorem dX7_round_73 : decode cX7_round 73 = .ok (.goto 4, 3) := by decide +kernel
theorem dX7_round_76 : decode cX7_round 76 = .ok (.iconst 0, 1) := by decide +kernel
theorem dX7_round_77 : decode cX7_round 77 = .ok (.istore 6, 2) := by decide +kernel
theorem dX7_round_79 : decode cX7_round 79 = .ok (.aload_n 0, 1) := by decide +kernel
theorem dX7_round_80 : decode cX7_round 80 = .ok (.aload_n 0, 1) := by decide +kernel
theorem dX7_round_81 : decode cX7_round 81 = .ok (.getfield 39, 3) := by decide +kernel
theorem dX7_round_84 : decode cX7_round 84 = .ok (.iload 5, 2) := by decide +kernel
theorem dX7_round_86 : decode cX7_round 86 = .ok (.iaload, 1) := by decide +kernel
theorem dX7_round_87 : decode cX7_round 87 = .ok (.iconst 0, 1) := by decide +kernel
theorem dX7_round_88 : decode cX7_round 88 = .ok (.invokevirtual 145, 3) := by decide +kernel
theorem dX7_round_91 : decode cX7_round 91 = .ok (.iload_n 2, 1) := by decide +kernel
theorem dX7_round_92 : decode cX7_round 92 = .ok (.ifCond .eq 8, 3) := by decide +kernel
theorem dX7_round_95 : decode cX7_round 95 = .ok (.iload 6, 2) := by decide +kernel
theorem dX7_round_97 : decode cX7_round 97 = .ok (.goto 6, 3) := by decide +kernel
theorem dX7_round_100 : decode cX7_round 100 = .ok (.iload 6, 2) := by decide +kernel
theorem dX7_round_102 : decode cX7_round 102 = .ok (.ineg, 1) := by decide +kernel
theorem dX7_round_103 : decode cX7_round 103 = .ok (.iadd, 1) := by decide +kernel
theorem dX7_round_104 : decode cX7_round 104 = .ok (.istore 7, 2) := by decide +kernel
theorem dX7_round_106 : decode cX7_round 106 = .ok (.aload_n 0, 1) := by decide +kernel
theorem dX7_round_107 : decode cX7_round 107 = .ok (.getfield 42, 3) := by decide +kernel
theorem dX7_round_110 : decode cX7_round 110 = .ok (.iload 5, 2) := by decide +kernel
theorem dX7_round_112 : decode cX7_round 112 = .ok (.aload_n 0, 1) := by decide +kernel
theorem dX7_round_113 : decode cX7_round 113 = .ok (.aload_n 0, 1) := by decide +kernel
theorem dX7_round_114 : decode cX7_round 114 = .ok (.getfield 39, 3) := by decide +kernel
theorem dX7_round_117 : decode cX7_round 117 = .ok (.iload 5, 2) := by decide +kernel
theorem dX7_round_119 : decode cX7_round 119 = .ok (.iaload, 1) := by decide +kernel
theorem dX7_round_120 : decode cX7_round 120 = .ok (.iload 7, 2) := by decide +kernel
theorem dX7_round_122 : decode cX7_round 122 = .ok (.invokevirtual 175, 3) := by decide +kernel
theorem dX7_round_125 : decode cX7_round 125 = .ok (.iastore, 1) := by decide +kernel
theorem dX7_round_126 : decode cX7_round 126 = .ok (.aload_n 0, 1) := by decide +kernel
theorem dX7_round_127 : decode cX7_round 127 = .ok (.getfield 88, 3) := by decide +kernel
theorem dX7_round_130 : decode cX7_round 130 = .ok (.iload 5, 2) := by decide +kernel
theorem dX7_round_132 : decode cX7_round 132 = .ok (.aload_n 0, 1) := by decide +kernel
theorem dX7_round_133 : decode cX7_round 133 = .ok (.getfield 42, 3) := by decide +kernel
theorem dX7_round_136 : decode cX7_round 136 = .ok (.iload 5, 2) := by decide +kernel
theorem dX7_round_138 : decode cX7_round 138 = .ok (.iaload, 1) := by decide +kernel
theorem dX7_round_139 : decode cX7_round 139 = .ok (.iload 7, 2) := by decide +kernel
theorem dX7_round_141 : decode cX7_round 141 = .ok (.isub, 1) := by decide +kernel
theorem dX7_round_142 : decode cX7_round 142 = .ok (.iastore, 1) := by decide +kernel
theorem dX7_round_143 : decode cX7_round 143 = .ok (.iload 4, 2) := by decide +kernel
theorem dX7_round_145 : decode cX7_round 145 = .ok (.aload_n 0, 1) := by decide +kernel
theorem dX7_round_146 : decode cX7_round 146 = .ok (.getfield 88, 3) := by decide +kernel
theorem dX7_round_149 : decode cX7_round 149 = .ok (.iload 5, 2) := by decide +kernel
theorem dX7_round_151 : decode cX7_round 151 = .ok (.iaload, 1) := by decide +kernel
theorem dX7_round_152 : decode cX7_round 152 = .ok (.iadd, 1) := by decide +kernel
theorem dX7_round_153 : decode cX7_round 153 = .ok (.istore 4, 2) := by decide +kernel
theorem dX7_round_155 : decode cX7_round 155 = .ok (.iinc 5 1, 3) := by decide +kernel
theorem dX7_round_158 : decode cX7_round 158 = .ok (.goto (-135), 3) := by decide +kernel
theorem dX7_round_161 : decode cX7_round 161 = .ok (.aload_n 0, 1) := by decide +kernel
theorem dX7_round_162 : decode cX7_round 162 = .ok (.getfield 64, 3) := by decide +kernel
theorem dX7_round_165 : decode cX7_round 165 = .ok (.iload_n 1, 1) := by decide +kernel
theorem dX7_round_166 : decode cX7_round 166 = .ok (.iaload, 1) := by decide +kernel
theorem dX7_round_167 : decode cX7_round 167 = .ok (.istore 5, 2) := by decide +kernel
theorem dX7_round_169 : decode cX7_round 169 = .ok (.iload 5, 2) := by decide +kernel
theorem dX7_round_171 : decode cX7_round 171 = .ok (.aload_n 0, 1) := by decide +kernel
theorem dX7_round_172 : decode cX7_round 172 = .ok (.getfield 64, 3) := by decide +kernel
theorem dX7_round_175 : decode cX7_round 175 = .ok (.iload_n 1, 1) := by decide +kernel
theorem dX7_round_176 : decode cX7_round 176 = .ok (.iaload, 1) := by decide +kernel
theorem dX7_round_177 : decode cX7_round 177 = .ok (.aload_n 0, 1) := by decide +kernel
theorem dX7_round_178 : decode cX7_round 178 = .ok (.getfield 67, 3) := by decide +kernel
theorem dX7_round_181 : decode cX7_round 181 = .ok (.iload_n 1, 1) := by decide +kernel
theorem dX7_round_182 : decode cX7_round 182 = .ok (.iaload, 1) := by decide +kernel
theorem dX7_round_183 : decode cX7_round 183 = .ok (.iadd, 1) := by decide +kernel
theorem dX7_round_184 : decode cX7_round 184 = .ok (.if_icmp .ge 64, 3) := by decide +kernel
theorem dX7_round_187 : decode cX7_round 187 = .ok (.aload_n 0, 1) := by decide +kernel
theorem dX7_round_188 : decode cX7_round 188 = .ok (.getfield 60, 3) := by decide +kernel
theorem dX7_round_191 : decode cX7_round 191 = .ok (.iload 5, 2) := by decide +kernel
theorem dX7_round_193 : decode cX7_round 193 = .ok (.baload, 1) := by decide +kernel
theorem dX7_round_194 : decode cX7_round 194 = .ok (.ifCond .ne 48, 3) := by decide +kernel
theorem dX7_round_197 : decode cX7_round 197 = .ok (.aload_n 0, 1) := by decide +kernel
theorem dX7_round_198 : decode cX7_round 198 = .ok (.getfield 60, 3) := by decide +kernel
theorem dX7_round_201 : decode cX7_round 201 = .ok (.iload 5, 2) := by decide +kernel
theorem dX7_round_203 : decode cX7_round 203 = .ok (.iload 4, 2) := by decide +kernel
theorem dX7_round_205 : decode cX7_round 205 = .ok (.ifCond .eq 31, 3) := by decide +kernel
theorem dX7_round_208 : decode cX7_round 208 = .ok (.iload 4, 2) := by decide +kernel
theorem dX7_round_210 : decode cX7_round 210 = .ok (.ifCond .le 16, 3) := by decide +kernel
theorem dX7_round_213 : decode cX7_round 213 = .ok (.aload_n 0, 1) := by decide +kernel
theorem dX7_round_214 : decode cX7_round 214 = .ok (.getfield 88, 3) := by decide +kernel
theorem dX7_round_217 : decode cX7_round 217 = .ok (.iload 5, 2) := by decide +kernel
theorem dX7_round_219 : decode cX7_round 219 = .ok (.iaload, 1) := by decide +kernel
theorem dX7_round_220 : decode cX7_round 220 = .ok (.ifCond .le 20, 3) := by decide +kernel
theorem dX7_round_223 : decode cX7_round 223 = .ok (.goto 13, 3) := by decide +kernel
theorem dX7_round_226 : decode cX7_round 226 = .ok (.aload_n 0, 1) := by decide +kernel
theorem dX7_round_227 : decode cX7_round 227 = .ok (.getfield 88, 3) := by decide +kernel
theorem dX7_round_230 : decode cX7_round 230 = .ok (.iload 5, 2) := by decide +kernel
theorem dX7_round_232 : decode cX7_round 232 = .ok (.iaload, 1) := by decide +kernel
theorem dX7_round_233 : decode cX7_round 233 = .ok (.ifCond .ge 7, 3) := by decide +kernel
theorem dX7_round_236 : decode cX7_round 236 = .ok (.iconst 1, 1) := by decide +kernel
theorem dX7_round_237 : decode cX7_round 237 = .ok (.goto 4, 3) := by decide +kernel
theorem dX7_round_240 : decode cX7_round 240 = .ok (.iconst 0, 1) := by decide +kernel
theorem dX7_round_241 : decode cX7_round 241 = .ok (.bastore, 1) := by decide +kernel
theorem dX7_round_242 : decode cX7_round 242 = .ok (.iinc 5 1, 3) := by decide +kernel
theorem dX7_round_245 : decode cX7_round 245 = .ok (.goto (-76), 3) := by decide +kernel
theorem dX7_round_248 : decode cX7_round 248 = .ok (.return_, 1) := by decide +kernel
theorem dX7_findSizes_0 : decode cX7_findSizes 0 = .ok (.iconst 0, 1) := by decide +kernel
theorem dX7_findSizes_1 : decode cX7_findSizes 1 = .ok (.istore_n 2, 1) := by decide +kernel
theorem dX7_findSizes_2 : decode cX7_findSizes 2 = .ok (.aload_n 0, 1) := by decide +kernel
theorem dX7_findSizes_3 : decode cX7_findSizes 3 = .ok (.getfield 64, 3) := by decide +kernel
theorem dX7_findSizes_6 : decode cX7_findSizes 6 = .ok (.iload_n 1, 1) := by decide +kernel
theorem dX7_findSizes_7 : decode cX7_findSizes 7 = .ok (.iaload, 1) := by decide +kernel
theorem dX7_findSizes_8 : decode cX7_findSizes 8 = .ok (.istore_n 3, 1) := by decide +kernel
theorem dX7_findSizes_9 : decode cX7_findSizes 9 = .ok (.iload_n 3, 1) := by decide +kernel
theorem dX7_findSizes_10 : decode cX7_findSizes 10 = .ok (.aload_n 0, 1) := by decide +kernel
theorem dX7_findSizes_11 : decode cX7_findSizes 11 = .ok (.getfield 64, 3) := by decide +kernel
theorem dX7_findSizes_14 : decode cX7_findSizes 14 = .ok (.iload_n 1, 1) := by decide +kernel
theorem dX7_findSizes_15 : decode cX7_findSizes 15 = .ok (.iaload, 1) := by decide +kernel
theorem dX7_findSizes_16 : decode cX7_findSizes 16 = .ok (.aload_n 0, 1) := by decide +kernel
theorem dX7_findSizes_17 : decode cX7_findSizes 17 = .ok (.getfield 67, 3) := by decide +kernel
theorem dX7_findSizes_20 : decode cX7_findSizes 20 = .ok (.iload_n 1, 1) := by decide +kernel
theorem dX7_findSizes_21 : decode cX7_findSizes 21 = .ok (.iaload, 1) := by decide +kernel
theorem dX7_findSizes_22 : decode cX7_findSizes 22 = .ok (.iadd, 1) := by decide +kernel
theorem dX7_findSizes_23 : decode cX7_findSizes 23 = .ok (.if_icmp .ge 22, 3) := by decide +kernel
theorem dX7_findSizes_26 : decode cX7_findSizes 26 = .ok (.iload_n 2, 1) := by decide +kernel
theorem dX7_findSizes_27 : decode cX7_findSizes 27 = .ok (.aload_n 0, 1) := by decide +kernel
theorem dX7_findSizes_28 : decode cX7_findSizes 28 = .ok (.aload_n 0, 1) := by decide +kernel
theorem dX7_findSizes_29 : decode cX7_findSizes 29 = .ok (.getfield 39, 3) := by decide +kernel
theorem dX7_findSizes_32 : decode cX7_findSizes 32 = .ok (.iload_n 3, 1) := by decide +kernel
theorem dX7_findSizes_33 : decode cX7_findSizes 33 = .ok (.iaload, 1) := by decide +kernel
theorem dX7_findSizes_34 : decode cX7_findSizes 34 = .ok (.invokevirtual 181, 3) := by decide +kernel
theorem dX7_findSizes_37 : decode cX7_findSizes 37 = .ok (.iadd, 1) := by decide +kernel
theorem dX7_findSizes_38 : decode cX7_findSizes 38 = .ok (.istore_n 2, 1) := by decide +kernel
theorem dX7_findSizes_39 : decode cX7_findSizes 39 = .ok (.iinc 3 1, 3) := by decide +kernel
theorem dX7_findSizes_42 : decode cX7_findSizes 42 = .ok (.goto (-33), 3) := by decide +kernel
theorem dX7_findSizes_45 : decode cX7_findSizes 45 = .ok (.iload_n 2, 1) := by decide +kernel
theorem dX7_findSizes_46 : decode cX7_findSizes 46 = .ok (.aload_n 0, 1) := by decide +kernel
theorem dX7_findSizes_47 : decode cX7_findSizes 47 = .ok (.iload_n 1, 1) := by decide +kernel
theorem dX7_findSizes_48 : decode cX7_findSizes 48 = .ok (.invokevirtual 184, 3) := by decide +kernel
theorem dX7_findSizes_51 : decode cX7_findSizes 51 = .ok (.if_icmp .ge 7, 3) := by decide +kernel
theorem dX7_findSizes_54 : decode cX7_findSizes 54 = .ok (.iconst 1, 1) := by decide +kernel
theorem dX7_findSizes_55 : decode cX7_findSizes 55 = .ok (.goto 4, 3) := by decide +kernel
theorem dX7_findSizes_58 : decode cX7_findSizes 58 = .ok (.iconst 0, 1) := by decide +kernel
theorem dX7_findSizes_59 : decode cX7_findSizes 59 = .ok (.istore_n 3, 1) := by decide +kernel
theorem dX7_findSizes_60 : decode cX7_findSizes 60 = .ok (.aload_n 0, 1) := by decide +kernel
theorem dX7_findSizes_61 : decode cX7_findSizes 61 = .ok (.getfield 64, 3) := by decide +kernel
theorem dX7_findSizes_64 : decode cX7_findSizes 64 = .ok (.iload_n 1, 1) := by decide +kernel
theorem dX7_findSizes_65 : decode cX7_findSizes 65 = .ok (.iaload, 1) := by decide +kernel
theorem dX7_findSizes_66 : decode cX7_findSizes 66 = .ok (.istore 4, 2) := by decide +kernel
theorem dX7_findSizes_68 : decode cX7_findSizes 68 = .ok (.iload 4, 2) := by decide +kernel
theorem dX7_findSizes_70 : decode cX7_findSizes 70 = .ok (.aload_n 0, 1) := by decide +kernel
theorem dX7_findSizes_71 : decode cX7_findSizes 71 = .ok (.getfield 64, 3) := by decide +kernel
theorem dX7_findSizes_74 : decode cX7_findSizes 74 = .ok (.iload_n 1, 1) := by decide +kernel
theorem dX7_findSizes_75 : decode cX7_findSizes 75 = .ok (.iaload, 1) := by decide +kernel
theorem dX7_findSizes_76 : decode cX7_findSizes 76 = .ok (.aload_n 0, 1) := by decide +kernel
theorem dX7_findSizes_77 : decode cX7_findSizes 77 = .ok (.getfield 67, 3) := by decide +kernel
theorem dX7_findSizes_80 : decode cX7_findSizes 80 = .ok (.iload_n 1, 1) := by decide +kernel
theorem dX7_findSizes_81 : decode cX7_findSizes 81 = .ok (.iaload, 1) := by decide +kernel
theorem dX7_findSizes_82 : decode cX7_findSizes 82 = .ok (.iadd, 1) := by decide +kernel
theorem dX7_findSizes_83 : decode cX7_findSizes 83 = .ok (.if_icmp .ge 102, 3) := by decide +kernel
theorem dX7_findSizes_86 : decode cX7_findSizes 86 = .ok (.aload_n 0, 1) := by decide +kernel
theorem dX7_findSizes_87 : decode cX7_findSizes 87 = .ok (.getfield 39, 3) := by decide +kernel
theorem dX7_findSizes_90 : decode cX7_findSizes 90 = .ok (.iload 4, 2) := by decide +kernel
theorem dX7_findSizes_92 : decode cX7_findSizes 92 = .ok (.iaload, 1) := by decide +kernel
theorem dX7_findSizes_93 : decode cX7_findSizes 93 = .ok (.istore 5, 2) := by decide +kernel
theorem dX7_findSizes_95 : decode cX7_findSizes 95 = .ok (.aload_n 0, 1) := by decide +kernel
theorem dX7_findSizes_96 : decode cX7_findSizes 96 = .ok (.getfield 42, 3) := by decide +kernel
theorem dX7_findSizes_99 : decode cX7_findSizes 99 = .ok (.iload 4, 2) := by decide +kernel
theorem dX7_findSizes_101 : decode cX7_findSizes 101 = .ok (.aload_n 0, 1) := by decide +kernel
theorem dX7_findSizes_102 : decode cX7_findSizes 102 = .ok (.iload 5, 2) := by decide +kernel
theorem dX7_findSizes_104 : decode cX7_findSizes 104 = .ok (.invokevirtual 181, 3) := by decide +kernel
theorem dX7_findSizes_107 : decode cX7_findSizes 107 = .ok (.iastore, 1) := by decide +kernel
theorem dX7_findSizes_108 : decode cX7_findSizes 108 = .ok (.aload_n 0, 1) := by decide +kernel
theorem dX7_findSizes_109 : decode cX7_findSizes 109 = .ok (.getfield 60, 3) := by decide +kernel
theorem dX7_findSizes_112 : decode cX7_findSizes 112 = .ok (.iload 4, 2) := by decide +kernel
theorem dX7_findSizes_114 : decode cX7_findSizes 114 = .ok (.aload_n 0, 1) := by decide +kernel
theorem dX7_findSizes_115 : decode cX7_findSizes 115 = .ok (.iload 5, 2) := by decide +kernel
theorem dX7_findSizes_117 : decode cX7_findSizes 117 = .ok (.iload_n 3, 1) := by decide +kernel
theorem dX7_findSizes_118 : decode cX7_findSizes 118 = .ok (.ifCond .eq 7, 3) := by decide +kernel
theorem dX7_findSizes_121 : decode cX7_findSizes 121 = .ok (.iconst 1, 1) := by decide +kernel
theorem dX7_findSizes_122 : decode cX7_findSizes 122 = .ok (.goto 4, 3) := by decide +kernel
theorem dX7_findSizes_125 : decode cX7_findSizes 125 = .ok (.iconst 2, 1) := by decide +kernel
theorem dX7_findSizes_126 : decode cX7_findSizes 126 = .ok (.invokevirtual 145, 3) := by decide +kernel
theorem dX7_findSizes_129 : decode cX7_findSizes 129 = .ok (.ifCond .eq 44, 3) := by decide +kernel
theorem dX7_findSizes_132 : decode cX7_findSizes 132 = .ok (.iload_n 3, 1) := by decide +kernel
theorem dX7_findSizes_133 : decode cX7_findSizes 133 = .ok (.ifCond .eq 23, 3) := by decide +kernel
theorem dX7_findSizes_136 : decode cX7_findSizes 136 = .ok (.aload_n 0, 1) := by decide +kernel
theorem dX7_findSizes_137 : decode cX7_findSizes 137 = .ok (.iload 5, 2) := by decide +kernel
theorem dX7_findSizes_139 : decode cX7_findSizes 139 = .ok (.iconst 0, 1) := by decide +kernel
theorem dX7_findSizes_140 : decode cX7_findSizes 140 = .ok (.invokevirtual 145, 3) := by decide +kernel
theorem dX7_findSizes_143 : decode cX7_findSizes 143 = .ok (.aload_n 0, 1) := by decide +kernel
theorem dX7_findSizes_144 : decode cX7_findSizes 144 = .ok (.getfield 42, 3) := by decide +kernel
theorem dX7_findSizes_147 : decode cX7_findSizes 147 = .ok (.iload 4, 2) := by decide +kernel
theorem dX7_findSizes_149 : decode cX7_findSizes 149 = .ok (.iaload, 1) := by decide +kernel
theorem dX7_findSizes_150 : decode cX7_findSizes 150 = .ok (.if_icmp .le 27, 3) := by decide +kernel
theorem dX7_findSizes_153 : decode cX7_findSizes 153 = .ok (.goto 20, 3) := by decide +kernel
theorem dX7_findSizes_156 : decode cX7_findSizes 156 = .ok (.aload_n 0, 1) := by decide +kernel
theorem dX7_findSizes_157 : decode cX7_findSizes 157 = .ok (.iload 5, 2) := by decide +kernel
theorem dX7_findSizes_159 : decode cX7_findSizes 159 = .ok (.iconst 0, 1) := by decide +kernel
theorem dX7_findSizes_160 : decode cX7_findSizes 160 = .ok (.invokevirtual 145, 3) := by decide +kernel
theorem dX7_findSizes_163 : decode cX7_findSizes 163 = .ok (.aload_n 0, 1) := by decide +kernel
theorem dX7_findSizes_164 : decode cX7_findSizes 164 = .ok (.getfield 42, 3) := by decide +kernel
theorem dX7_findSizes_167 : decode cX7_findSizes 167 = .ok (.iload 4, 2) := by decide +kernel
theorem dX7_findSizes_169 : decode cX7_findSizes 169 = .ok (.iaload, 1) := by decide +kernel
theorem dX7_findSizes_170 : decode cX7_findSizes 170 = .ok (.if_icmp .ge 7, 3) := by decide +kernel
theorem dX7_findSizes_173 : decode cX7_findSizes 173 = .ok (.iconst 1, 1) := by decide +kernel
theorem dX7_findSizes_174 : decode cX7_findSizes 174 = .ok (.goto 4, 3) := by decide +kernel
theorem dX7_findSizes_177 : decode cX7_findSizes 177 = .ok (.iconst 0, 1) := by decide +kernel
theorem dX7_findSizes_178 : decode cX7_findSizes 178 = .ok (.bastore, 1) := by decide +kernel
theorem dX7_findSizes_179 : decode cX7_findSizes 179 = .ok (.iinc 4 1, 3) := by decide +kernel
theorem dX7_findSizes_182 : decode cX7_findSizes 182 = .ok (.goto (-114), 3) := by decide +kernel
theorem dX7_findSizes_185 : decode cX7_findSizes 185 = .ok (.aload_n 0, 1) := by decide +kernel
theorem dX7_findSizes_186 : decode cX7_findSizes 186 = .ok (.getfield 70, 3) := by decide +kernel
theorem dX7_findSizes_189 : decode cX7_findSizes 189 = .ok (.iload_n 1, 1) := by decide +kernel
theorem dX7_findSizes_190 : decode cX7_findSizes 190 = .ok (.iconst 0, 1) := by decide +kernel
theorem dX7_findSizes_191 : decode cX7_findSizes 191 = .ok (.iastore, 1) := by decide +kernel
theorem dX7_findSizes_192 : decode cX7_findSizes 192 = .ok (.aload_n 0, 1) := by decide +kernel
theorem dX7_findSizes_193 : decode cX7_findSizes 193 = .ok (.iload_n 1, 1) := by decide +kernel
theorem dX7_findSizes_194 : decode cX7_findSizes 194 = .ok (.invokevirtual 198, 3) := by decide +kernel
theorem dX7_findSizes_197 : decode cX7_findSizes 197 = .ok (.ifCond .ne 22, 3) := by decide +kernel
theorem dX7_findSizes_200 : decode cX7_findSizes 200 = .ok (.aload_n 0, 1) := by decide +kernel
theorem dX7_findSizes_201 : decode cX7_findSizes 201 = .ok (.iload_n 1, 1) := by decide +kernel
theorem dX7_findSizes_202 : decode cX7_findSizes 202 = .ok (.iload_n 3, 1) := by decide +kernel
theorem dX7_findSizes_203 : decode cX7_findSizes 203 = .ok (.invokevirtual 201, 3) := by decide +kernel
theorem dX7_findSizes_206 : decode cX7_findSizes 206 = .ok (.aload_n 0, 1) := by decide +kernel
theorem dX7_findSizes_207 : decode cX7_findSizes 207 = .ok (.getfield 70, 3) := by decide +kernel
theorem dX7_findSizes_210 : decode cX7_findSizes 210 = .ok (.iload_n 1, 1) := by decide +kernel
theorem dX7_findSizes_211 : decode cX7_findSizes 211 = .ok (.dup2, 1) := by decide +kernel
theorem dX7_findSizes_212 : decode cX7_findSizes 212 = .ok (.iaload, 1) := by decide +kernel
theorem dX7_findSizes_213 : decode cX7_findSizes 213 = .ok (.iconst 1, 1) := by decide +kernel
theorem dX7_findSizes_214 : decode cX7_findSizes 214 = .ok (.iadd, 1) := by decide +kernel
theorem dX7_findSizes_215 : decode cX7_findSizes 215 = .ok (.iastore, 1) := by decide +kernel
theorem dX7_findSizes_216 : decode cX7_findSizes 216 = .ok (.goto (-24), 3) := by decide +kernel
theorem dX7_findSizes_219 : decode cX7_findSizes 219 = .ok (.aload_n 0, 1) := by decide +kernel
theorem dX7_findSizes_220 : decode cX7_findSizes 220 = .ok (.getfield 73, 3) := by decide +kernel
theorem dX7_findSizes_223 : decode cX7_findSizes 223 = .ok (.iload_n 1, 1) := by decide +kernel
theorem dX7_findSizes_224 : decode cX7_findSizes 224 = .ok (.aload_n 0, 1) := by decide +kernel
theorem dX7_findSizes_225 : decode cX7_findSizes 225 = .ok (.iload_n 1, 1) := by decide +kernel
theorem dX7_findSizes_226 : decode cX7_findSizes 226 = .ok (.invokevirtual 184, 3) := by decide +kernel
theorem dX7_findSizes_229 : decode cX7_findSizes 229 = .ok (.iastore, 1) := by decide +kernel
theorem dX7_findSizes_230 : decode cX7_findSizes 230 = .ok (.aload_n 0, 1) := by decide +kernel
theorem dX7_findSizes_231 : decode cX7_findSizes 231 = .ok (.getfield 64, 3) := by decide +kernel
theorem dX7_findSizes_234 : decode cX7_findSizes 234 = .ok (.iload_n 1, 1) := by decide +kernel
theorem dX7_findSizes_235 : decode cX7_findSizes 235 = .ok (.iaload, 1) := by decide +kernel
theorem dX7_findSizes_236 : decode cX7_findSizes 236 = .ok (.istore 4, 2) := by decide +kernel
theorem dX7_findSizes_238 : decode cX7_findSizes 238 = .ok (.iload 4, 2) := by decide +kernel
theorem dX7_findSizes_240 : decode cX7_findSizes 240 = .ok (.aload_n 0, 1) := by decide +kernel
theorem dX7_findSizes_241 : decode cX7_findSizes 241 = .ok (.getfield 64, 3) := by decide +kernel
theorem dX7_findSizes_244 : decode cX7_findSizes 244 = .ok (.iload_n 1, 1) := by decide +kernel
theorem dX7_findSizes_245 : decode cX7_findSizes 245 = .ok (.iaload, 1) := by decide +kernel
theorem dX7_findSizes_246 : decode cX7_findSizes 246 = .ok (.aload_n 0, 1) := by decide +kernel
theorem dX7_findSizes_247 : decode cX7_findSizes 247 = .ok (.getfield 67, 3) := by decide +kernel
theorem dX7_findSizes_250 : decode cX7_findSizes 250 = .ok (.iload_n 1, 1) := by decide +kernel
theorem dX7_findSizes_251 : decode cX7_findSizes 251 = .ok (.iaload, 1) := by decide +kernel
theorem dX7_findSizes_252 : decode cX7_findSizes 252 = .ok (.iadd, 1) := by decide +kernel
theorem dX7_findSizes_253 : decode cX7_findSizes 253 = .ok (.if_icmp .ge 25, 3) := by decide +kernel
theorem dX7_findSizes_256 : decode cX7_findSizes 256 = .ok (.aload_n 0, 1) := by decide +kernel
theorem dX7_findSizes_257 : decode cX7_findSizes 257 = .ok (.getfield 73, 3) := by decide +kernel
theorem dX7_findSizes_260 : decode cX7_findSizes 260 = .ok (.iload_n 1, 1) := by decide +kernel
theorem dX7_findSizes_261 : decode cX7_findSizes 261 = .ok (.dup2, 1) := by decide +kernel
theorem dX7_findSizes_262 : decode cX7_findSizes 262 = .ok (.iaload, 1) := by decide +kernel
theorem dX7_findSizes_263 : decode cX7_findSizes 263 = .ok (.aload_n 0, 1) := by decide +kernel
theorem dX7_findSizes_264 : decode cX7_findSizes 264 = .ok (.getfield 42, 3) := by decide +kernel
theorem dX7_findSizes_267 : decode cX7_findSizes 267 = .ok (.iload 4, 2) := by decide +kernel
theorem dX7_findSizes_269 : decode cX7_findSizes 269 = .ok (.iaload, 1) := by decide +kernel
theorem dX7_findSizes_270 : decode cX7_findSizes 270 = .ok (.isub, 1) := by decide +kernel
theorem dX7_findSizes_271 : decode cX7_findSizes 271 = .ok (.iastore, 1) := by decide +kernel
theorem dX7_findSizes_272 : decode cX7_findSizes 272 = .ok (.iinc 4 1, 3) := by decide +kernel
theorem dX7_findSizes_275 : decode cX7_findSizes 275 = .ok (.goto (-37), 3) := by decide +kernel
theorem dX7_findSizes_278 : decode cX7_findSizes 278 = .ok (.return_, 1) := by decide +kernel
theorem dX7_alignmentOf_0 : decode cX7_alignmentOf 0 = .ok (.aload_n 0, 1) := by decide +kernel
theorem dX7_alignmentOf_1 : decode cX7_alignmentOf 1 = .ok (.iload_n 1, 1) := by decide +kernel
theorem dX7_alignmentOf_2 : decode cX7_alignmentOf 2 = .ok (.bipush 7, 2) := by decide +kernel
theorem dX7_alignmentOf_4 : decode cX7_alignmentOf 4 = .ok (.invokevirtual 145, 3) := by decide +kernel
theorem dX7_alignmentOf_7 : decode cX7_alignmentOf 7 = .ok (.ifCond .ge 13, 3) := by decide +kernel
theorem dX7_alignmentOf_10 : decode cX7_alignmentOf 10 = .ok (.aload_n 0, 1) := by decide +kernel
theorem dX7_alignmentOf_11 : decode cX7_alignmentOf 11 = .ok (.getfield 9, 3) := by decide +kernel
theorem dX7_alignmentOf_14 : decode cX7_alignmentOf 14 = .ok (.bipush 7, 2) := by decide +kernel
theorem dX7_alignmentOf_16 : decode cX7_alignmentOf 16 = .ok (.iaload, 1) := by decide +kernel
theorem dX7_alignmentOf_17 : decode cX7_alignmentOf 17 = .ok (.goto 10, 3) := by decide +kernel
theorem dX7_alignmentOf_20 : decode cX7_alignmentOf 20 = .ok (.aload_n 0, 1) := by decide +kernel
theorem dX7_alignmentOf_21 : decode cX7_alignmentOf 21 = .ok (.iload_n 1, 1) := by decide +kernel
theorem dX7_alignmentOf_22 : decode cX7_alignmentOf 22 = .ok (.bipush 7, 2) := by decide +kernel
theorem dX7_alignmentOf_24 : decode cX7_alignmentOf 24 = .ok (.invokevirtual 145, 3) := by decide +kernel
theorem dX7_alignmentOf_27 : decode cX7_alignmentOf 27 = .ok (.ireturn, 1) := by decide +kernel
theorem dX7_findNatural_0 : decode cX7_findNatural 0 = .ok (.iconst 0, 1) := by decide +kernel
theorem dX7_findNatural_1 : decode cX7_findNatural 1 = .ok (.istore_n 2, 1) := by decide +kernel
theorem dX7_findNatural_2 : decode cX7_findNatural 2 = .ok (.iconst 0, 1) := by decide +kernel
theorem dX7_findNatural_3 : decode cX7_findNatural 3 = .ok (.istore_n 3, 1) := by decide +kernel
theorem dX7_findNatural_4 : decode cX7_findNatural 4 = .ok (.iconst 0, 1) := by decide +kernel
theorem dX7_findNatural_5 : decode cX7_findNatural 5 = .ok (.istore 4, 2) := by decide +kernel
theorem dX7_findNatural_7 : decode cX7_findNatural 7 = .ok (.aload_n 0, 1) := by decide +kernel
theorem dX7_findNatural_8 : decode cX7_findNatural 8 = .ok (.getfield 79, 3) := by decide +kernel
theorem dX7_findNatural_11 : decode cX7_findNatural 11 = .ok (.iload_n 1, 1) := by decide +kernel
theorem dX7_findNatural_12 : decode cX7_findNatural 12 = .ok (.iconst 0, 1) := by decide +kernel
theorem dX7_findNatural_13 : decode cX7_findNatural 13 = .ok (.iastore, 1) := by decide +kernel
theorem dX7_findNatural_14 : decode cX7_findNatural 14 = .ok (.aload_n 0, 1) := by decide +kernel
theorem dX7_findNatural_15 : decode cX7_findNatural 15 = .ok (.getfield 64, 3) := by decide +kernel
theorem dX7_findNatural_18 : decode cX7_findNatural 18 = .ok (.iload_n 1, 1) := by decide +kernel
theorem dX7_findNatural_19 : decode cX7_findNatural 19 = .ok (.iaload, 1) := by decide +kernel
theorem dX7_findNatural_20 : decode cX7_findNatural 20 = .ok (.istore 5, 2) := by decide +kernel
theorem dX7_findNatural_22 : decode cX7_findNatural 22 = .ok (.iload 5, 2) := by decide +kernel
theorem dX7_findNatural_24 : decode cX7_findNatural 24 = .ok (.aload_n 0, 1) := by decide +kernel
theorem dX7_findNatural_25 : decode cX7_findNatural 25 = .ok (.getfield 64, 3) := by decide +kernel
theorem dX7_findNatural_28 : decode cX7_findNatural 28 = .ok (.iload_n 1, 1) := by decide +kernel
theorem dX7_findNatural_29 : decode cX7_findNatural 29 = .ok (.iaload, 1) := by decide +kernel
theorem dX7_findNatural_30 : decode cX7_findNatural 30 = .ok (.aload_n 0, 1) := by decide +kernel
theorem dX7_findNatural_31 : decode cX7_findNatural 31 = .ok (.getfield 67, 3) := by decide +kernel
theorem dX7_findNatural_34 : decode cX7_findNatural 34 = .ok (.iload_n 1, 1) := by decide +kernel
theorem dX7_findNatural_35 : decode cX7_findNatural 35 = .ok (.iaload, 1) := by decide +kernel
theorem dX7_findNatural_36 : decode cX7_findNatural 36 = .ok (.iadd, 1) := by decide +kernel
theorem dX7_findNatural_37 : decode cX7_findNatural 37 = .ok (.if_icmp .ge 134, 3) := by decide +kernel
theorem dX7_findNatural_40 : decode cX7_findNatural 40 = .ok (.aload_n 0, 1) := by decide +kernel
theorem dX7_findNatural_41 : decode cX7_findNatural 41 = .ok (.getfield 39, 3) := by decide +kernel
theorem dX7_findNatural_44 : decode cX7_findNatural 44 = .ok (.iload 5, 2) := by decide +kernel
theorem dX7_findNatural_46 : decode cX7_findNatural 46 = .ok (.iaload, 1) := by decide +kernel
theorem dX7_findNatural_47 : decode cX7_findNatural 47 = .ok (.istore 6, 2) := by decide +kernel
theorem dX7_findNatural_49 : decode cX7_findNatural 49 = .ok (.aload_n 0, 1) := by decide +kernel
theorem dX7_findNatural_50 : decode cX7_findNatural 50 = .ok (.iload 6, 2) := by decide +kernel
theorem dX7_findNatural_52 : decode cX7_findNatural 52 = .ok (.invokevirtual 205, 3) := by decide +kernel
theorem dX7_findNatural_55 : decode cX7_findNatural 55 = .ok (.iconst 4, 1) := by decide +kernel
theorem dX7_findNatural_56 : decode cX7_findNatural 56 = .ok (.if_icmp .eq 32, 3) := by decide +kernel
theorem dX7_findNatural_59 : decode cX7_findNatural 59 = .ok (.aload_n 0, 1) := by decide +kernel
theorem dX7_findNatural_60 : decode cX7_findNatural 60 = .ok (.iload 6, 2) := by decide +kernel
theorem dX7_findNatural_62 : decode cX7_findNatural 62 = .ok (.iconst 5, 1) := by decide +kernel
theorem dX7_findNatural_63 : decode cX7_findNatural 63 = .ok (.invokevirtual 145, 3) := by decide +kernel
theorem dX7_findNatural_66 : decode cX7_findNatural 66 = .ok (.iload 4, 2) := by decide +kernel
theorem dX7_findNatural_68 : decode cX7_findNatural 68 = .ok (.if_icmp .le 13, 3) := by decide +kernel
theorem dX7_findNatural_71 : decode cX7_findNatural 71 = .ok (.aload_n 0, 1) := by decide +kernel
theorem dX7_findNatural_72 : decode cX7_findNatural 72 = .ok (.iload 6, 2) := by decide +kernel
theorem dX7_findNatural_74 : decode cX7_findNatural 74 = .ok (.iconst 5, 1) := by decide +kernel
theorem dX7_findNatural_75 : decode cX7_findNatural 75 = .ok (.invokevirtual 145, 3) := by decide +kernel
theorem dX7_findNatural_78 : decode cX7_findNatural 78 = .ok (.goto 5, 3) := by decide +kernel
theorem dX7_findNatural_81 : decode cX7_findNatural 81 = .ok (.iload 4, 2) := by decide +kernel
theorem dX7_findNatural_83 : decode cX7_findNatural 83 = .ok (.istore 4, 2) := by decide +kernel
theorem dX7_findNatural_85 : decode cX7_findNatural 85 = .ok (.goto 80, 3) := by decide +kernel
theorem dX7_findNatural_88 : decode cX7_findNatural 88 = .ok (.aload_n 0, 1) := by decide +kernel
theorem dX7_findNatural_89 : decode cX7_findNatural 89 = .ok (.iload 6, 2) := by decide +kernel
theorem dX7_findNatural_91 : decode cX7_findNatural 91 = .ok (.iconst 5, 1) := by decide +kernel
theorem dX7_findNatural_92 : decode cX7_findNatural 92 = .ok (.invokevirtual 145, 3) := by decide +kernel
theorem dX7_findNatural_95 : decode cX7_findNatural 95 = .ok (.aload_n 0, 1) := by decide +kernel
theorem dX7_findNatural_96 : decode cX7_findNatural 96 = .ok (.iload 6, 2) := by decide +kernel
theorem dX7_findNatural_98 : decode cX7_findNatural 98 = .ok (.bipush 6, 2) := by decide +kernel
theorem dX7_findNatural_100 : decode cX7_findNatural 100 = .ok (.invokevirtual 145, 3) := by decide +kernel
theorem dX7_findNatural_103 : decode cX7_findNatural 103 = .ok (.isub, 1) := by decide +kernel
theorem dX7_findNatural_104 : decode cX7_findNatural 104 = .ok (.istore 7, 2) := by decide +kernel
theorem dX7_findNatural_106 : decode cX7_findNatural 106 = .ok (.aload_n 0, 1) := by decide +kernel
theorem dX7_findNatural_107 : decode cX7_findNatural 107 = .ok (.getfield 79, 3) := by decide +kernel
theorem dX7_findNatural_110 : decode cX7_findNatural 110 = .ok (.iload_n 1, 1) := by decide +kernel
theorem dX7_findNatural_111 : decode cX7_findNatural 111 = .ok (.aload_n 0, 1) := by decide +kernel
theorem dX7_findNatural_112 : decode cX7_findNatural 112 = .ok (.iload 6, 2) := by decide +kernel
theorem dX7_findNatural_114 : decode cX7_findNatural 114 = .ok (.bipush 6, 2) := by decide +kernel
theorem dX7_findNatural_116 : decode cX7_findNatural 116 = .ok (.invokevirtual 145, 3) := by decide +kernel
theorem dX7_findNatural_119 : decode cX7_findNatural 119 = .ok (.aload_n 0, 1) := by decide +kernel
theorem dX7_findNatural_120 : decode cX7_findNatural 120 = .ok (.getfield 79, 3) := by decide +kernel
theorem dX7_findNatural_123 : decode cX7_findNatural 123 = .ok (.iload_n 1, 1) := by decide +kernel
theorem dX7_findNatural_124 : decode cX7_findNatural 124 = .ok (.iaload, 1) := by decide +kernel
theorem dX7_findNatural_125 : decode cX7_findNatural 125 = .ok (.if_icmp .le 14, 3) := by decide +kernel
theorem dX7_findNatural_128 : decode cX7_findNatural 128 = .ok (.aload_n 0, 1) := by decide +kernel
theorem dX7_findNatural_129 : decode cX7_findNatural 129 = .ok (.iload 6, 2) := by decide +kernel
theorem dX7_findNatural_131 : decode cX7_findNatural 131 = .ok (.bipush 6, 2) := by decide +kernel
theorem dX7_findNatural_133 : decode cX7_findNatural 133 = .ok (.invokevirtual 145, 3) := by decide +kernel
theorem dX7_findNatural_136 : decode cX7_findNatural 136 = .ok (.goto 9, 3) := by decide +kernel
theorem dX7_findNatural_139 : decode cX7_findNatural 139 = .ok (.aload_n 0, 1) := by decide +kernel
theorem dX7_findNatural_140 : decode cX7_findNatural 140 = .ok (.getfield 79, 3) := by decide +kernel
theorem dX7_findNatural_143 : decode cX7_findNatural 143 = .ok (.iload_n 1, 1) := by decide +kernel
theorem dX7_findNatural_144 : decode cX7_findNatural 144 = .ok (.iaload, 1) := by decide +kernel
theorem dX7_findNatural_145 : decode cX7_findNatural 145 = .ok (.iastore, 1) := by decide +kernel
theorem dX7_findNatural_146 : decode cX7_findNatural 146 = .ok (.iload_n 2, 1) := by decide +kernel
theorem dX7_findNatural_147 : decode cX7_findNatural 147 = .ok (.ifCond .eq 9, 3) := by decide +kernel
theorem dX7_findNatural_150 : decode cX7_findNatural 150 = .ok (.iload 7, 2) := by decide +kernel
theorem dX7_findNatural_152 : decode cX7_findNatural 152 = .ok (.iload_n 3, 1) := by decide +kernel
theorem dX7_findNatural_153 : decode cX7_findNatural 153 = .ok (.if_icmp .le 8, 3) := by decide +kernel
theorem dX7_findNatural_156 : decode cX7_findNatural 156 = .ok (.iload 7, 2) := by decide +kernel
theorem dX7_findNatural_158 : decode cX7_findNatural 158 = .ok (.goto 4, 3) := by decide +kernel
theorem dX7_findNatural_161 : decode cX7_findNatural 161 = .ok (.iload_n 3, 1) := by decide +kernel
theorem dX7_findNatural_162 : decode cX7_findNatural 162 = .ok (.istore_n 3, 1) := by decide +kernel
theorem dX7_findNatural_163 : decode cX7_findNatural 163 = .ok (.iconst 1, 1) := by decide +kernel
theorem dX7_findNatural_164 : decode cX7_findNatural 164 = .ok (.istore_n 2, 1) := by decide +kernel
theorem dX7_findNatural_165 : decode cX7_findNatural 165 = .ok (.iinc 5 1, 3) := by decide +kernel
theorem dX7_findNatural_168 : decode cX7_findNatural 168 = .ok (.goto (-146), 3) := by decide +kernel
theorem dX7_findNatural_171 : decode cX7_findNatural 171 = .ok (.aload_n 0, 1) := by decide +kernel
theorem dX7_findNatural_172 : decode cX7_findNatural 172 = .ok (.getfield 82, 3) := by decide +kernel
theorem dX7_findNatural_175 : decode cX7_findNatural 175 = .ok (.iload_n 1, 1) := by decide +kernel
theorem dX7_findNatural_176 : decode cX7_findNatural 176 = .ok (.aload_n 0, 1) := by decide +kernel
theorem dX7_findNatural_177 : decode cX7_findNatural 177 = .ok (.getfield 79, 3) := by decide +kernel
theorem dX7_findNatural_180 : decode cX7_findNatural 180 = .ok (.iload_n 1, 1) := by decide +kernel
theorem dX7_findNatural_181 : decode cX7_findNatural 181 = .ok (.iaload, 1) := by decide +kernel
theorem dX7_findNatural_182 : decode cX7_findNatural 182 = .ok (.iload_n 3, 1) := by decide +kernel
theorem dX7_findNatural_183 : decode cX7_findNatural 183 = .ok (.iadd, 1) := by decide +kernel
theorem dX7_findNatural_184 : decode cX7_findNatural 184 = .ok (.iload 4, 2) := by decide +kernel
theorem dX7_findNatural_186 : decode cX7_findNatural 186 = .ok (.if_icmp .le 14, 3) := by decide +kernel
theorem dX7_findNatural_189 : decode cX7_findNatural 189 = .ok (.aload_n 0, 1) := by decide +kernel
theorem dX7_findNatural_190 : decode cX7_findNatural 190 = .ok (.getfield 79, 3) := by decide +kernel
theorem dX7_findNatural_193 : decode cX7_findNatural 193 = .ok (.iload_n 1, 1) := by decide +kernel
theorem dX7_findNatural_194 : decode cX7_findNatural 194 = .ok (.iaload, 1) := by decide +kernel
theorem dX7_findNatural_195 : decode cX7_findNatural 195 = .ok (.iload_n 3, 1) := by decide +kernel
theorem dX7_findNatural_196 : decode cX7_findNatural 196 = .ok (.iadd, 1) := by decide +kernel
theorem dX7_findNatural_197 : decode cX7_findNatural 197 = .ok (.goto 5, 3) := by decide +kernel
theorem dX7_findNatural_200 : decode cX7_findNatural 200 = .ok (.iload 4, 2) := by decide +kernel
theorem dX7_findNatural_202 : decode cX7_findNatural 202 = .ok (.iastore, 1) := by decide +kernel
theorem dX7_findNatural_203 : decode cX7_findNatural 203 = .ok (.return_, 1) := by decide +kernel
theorem dX7_crossLeft_0 : decode cX7_crossLeft 0 = .ok (.aload_n 0, 1) := by decide +kernel
theorem dX7_crossLeft_1 : decode cX7_crossLeft 1 = .ok (.getfield 9, 3) := by decide +kernel
theorem dX7_crossLeft_4 : decode cX7_crossLeft 4 = .ok (.iconst 1, 1) := by decide +kernel
theorem dX7_crossLeft_5 : decode cX7_crossLeft 5 = .ok (.iaload, 1) := by decide +kernel
theorem dX7_crossLeft_6 : decode cX7_crossLeft 6 = .ok (.aload_n 0, 1) := by decide +kernel
theorem dX7_crossLeft_7 : decode cX7_crossLeft 7 = .ok (.getfield 9, 3) := by decide +kernel
theorem dX7_crossLeft_10 : decode cX7_crossLeft 10 = .ok (.iconst 3, 1) := by decide +kernel
theorem dX7_crossLeft_11 : decode cX7_crossLeft 11 = .ok (.iaload, 1) := by decide +kernel
theorem dX7_crossLeft_12 : decode cX7_crossLeft 12 = .ok (.aload_n 0, 1) := by decide +kernel
theorem dX7_crossLeft_13 : decode cX7_crossLeft 13 = .ok (.getfield 178, 3) := by decide +kernel
theorem dX7_crossLeft_16 : decode cX7_crossLeft 16 = .ok (.iconst 1, 1) := by decide +kernel
theorem dX7_crossLeft_17 : decode cX7_crossLeft 17 = .ok (.isub, 1) := by decide +kernel
theorem dX7_crossLeft_18 : decode cX7_crossLeft 18 = .ok (.imul, 1) := by decide +kernel
theorem dX7_crossLeft_19 : decode cX7_crossLeft 19 = .ok (.isub, 1) := by decide +kernel
theorem dX7_crossLeft_20 : decode cX7_crossLeft 20 = .ok (.istore_n 1, 1) := by decide +kernel
theorem dX7_crossLeft_21 : decode cX7_crossLeft 21 = .ok (.iconst 0, 1) := by decide +kernel
theorem dX7_crossLeft_22 : decode cX7_crossLeft 22 = .ok (.istore_n 2, 1) := by decide +kernel
theorem dX7_crossLeft_23 : decode cX7_crossLeft 23 = .ok (.iload_n 2, 1) := by decide +kernel
theorem dX7_crossLeft_24 : decode cX7_crossLeft 24 = .ok (.aload_n 0, 1) := by decide +kernel
theorem dX7_crossLeft_25 : decode cX7_crossLeft 25 = .ok (.getfield 178, 3) := by decide +kernel
theorem dX7_crossLeft_28 : decode cX7_crossLeft 28 = .ok (.if_icmp .ge 18, 3) := by decide +kernel
theorem dX7_crossLeft_31 : decode cX7_crossLeft 31 = .ok (.iload_n 1, 1) := by decide +kernel
theorem dX7_crossLeft_32 : decode cX7_crossLeft 32 = .ok (.aload_n 0, 1) := by decide +kernel
theorem dX7_crossLeft_33 : decode cX7_crossLeft 33 = .ok (.getfield 76, 3) := by decide +kernel
theorem dX7_crossLeft_36 : decode cX7_crossLeft 36 = .ok (.iload_n 2, 1) := by decide +kernel
theorem dX7_crossLeft_37 : decode cX7_crossLeft 37 = .ok (.iaload, 1) := by decide +kernel
theorem dX7_crossLeft_38 : decode cX7_crossLeft 38 = .ok (.isub, 1) := by decide +kernel
theorem dX7_crossLeft_39 : decode cX7_crossLeft 39 = .ok (.istore_n 1, 1) := by decide +kernel
theorem dX7_crossLeft_40 : decode cX7_crossLeft 40 = .ok (.iinc 2 1, 3) := by decide +kernel
theorem dX7_crossLeft_43 : decode cX7_crossLeft 43 = .ok (.goto (-20), 3) := by decide +kernel
theorem dX7_crossLeft_46 : decode cX7_crossLeft 46 = .ok (.aload_n 0, 1) := by decide +kernel
theorem dX7_crossLeft_47 : decode cX7_crossLeft 47 = .ok (.getfield 9, 3) := by decide +kernel
theorem dX7_crossLeft_50 : decode cX7_crossLeft 50 = .ok (.iconst 1, 1) := by decide +kernel
theorem dX7_crossLeft_51 : decode cX7_crossLeft 51 = .ok (.iaload, 1) := by decide +kernel
theorem dX7_crossLeft_52 : decode cX7_crossLeft 52 = .ok (.iconst (-1), 1) := by decide +kernel
theorem dX7_crossLeft_53 : decode cX7_crossLeft 53 = .ok (.if_icmp .eq 10, 3) := by decide +kernel
theorem dX7_crossLeft_56 : decode cX7_crossLeft 56 = .ok (.aload_n 0, 1) := by decide +kernel
theorem dX7_crossLeft_57 : decode cX7_crossLeft 57 = .ok (.getfield 178, 3) := by decide +kernel
theorem dX7_crossLeft_60 : decode cX7_crossLeft 60 = .ok (.ifCond .ne 7, 3) := by decide +kernel
theorem dX7_crossLeft_63 : decode cX7_crossLeft 63 = .ok (.iconst 0, 1) := by decide +kernel
theorem dX7_crossLeft_64 : decode cX7_crossLeft 64 = .ok (.goto 4, 3) := by decide +kernel
theorem dX7_crossLeft_67 : decode cX7_crossLeft 67 = .ok (.iload_n 1, 1) := by decide +kernel
theorem dX7_crossLeft_68 : decode cX7_crossLeft 68 = .ok (.ireturn, 1) := by decide +kernel
theorem dX7_findLineCrosses_0 : decode cX7_findLineCrosses 0 = .ok (.iconst 0, 1) := by decide +kernel
theorem dX7_findLineCrosses_1 : decode cX7_findLineCrosses 1 = .ok (.istore_n 1, 1) := by decide +kernel
theorem dX7_findLineCrosses_2 : decode cX7_findLineCrosses 2 = .ok (.iload_n 1, 1) := by decide +kernel
theorem dX7_findLineCrosses_3 : decode cX7_findLineCrosses 3 = .ok (.aload_n 0, 1) := by decide +kernel
theorem dX7_findLineCrosses_4 : decode cX7_findLineCrosses 4 = .ok (.getfield 178, 3) := by decide +kernel
theorem dX7_findLineCrosses_7 : decode cX7_findLineCrosses 7 = .ok (.if_icmp .ge 26, 3) := by decide +kernel
theorem dX7_findLineCrosses_10 : decode cX7_findLineCrosses 10 = .ok (.aload_n 0, 1) := by decide +kernel
theorem dX7_findLineCrosses_11 : decode cX7_findLineCrosses 11 = .ok (.iload_n 1, 1) := by decide +kernel
theorem dX7_findLineCrosses_12 : decode cX7_findLineCrosses 12 = .ok (.invokevirtual 208, 3) := by decide +kernel
theorem dX7_findLineCrosses_15 : decode cX7_findLineCrosses 15 = .ok (.aload_n 0, 1) := by decide +kernel
theorem dX7_findLineCrosses_16 : decode cX7_findLineCrosses 16 = .ok (.getfield 76, 3) := by decide +kernel
theorem dX7_findLineCrosses_19 : decode cX7_findLineCrosses 19 = .ok (.iload_n 1, 1) := by decide +kernel
theorem dX7_findLineCrosses_20 : decode cX7_findLineCrosses 20 = .ok (.aload_n 0, 1) := by decide +kernel
theorem dX7_findLineCrosses_21 : decode cX7_findLineCrosses 21 = .ok (.getfield 82, 3) := by decide +kernel
theorem dX7_findLineCrosses_24 : decode cX7_findLineCrosses 24 = .ok (.iload_n 1, 1) := by decide +kernel
theorem dX7_findLineCrosses_25 : decode cX7_findLineCrosses 25 = .ok (.iaload, 1) := by decide +kernel
theorem dX7_findLineCrosses_26 : decode cX7_findLineCrosses 26 = .ok (.iastore, 1) := by decide +kernel
theorem dX7_findLineCrosses_27 : decode cX7_findLineCrosses 27 = .ok (.iinc 1 1, 3) := by decide +kernel
theorem dX7_findLineCrosses_30 : decode cX7_findLineCrosses 30 = .ok (.goto (-28), 3) := by decide +kernel
theorem dX7_findLineCrosses_33 : decode cX7_findLineCrosses 33 = .ok (.aload_n 0, 1) := by decide +kernel
theorem dX7_findLineCrosses_34 : decode cX7_findLineCrosses 34 = .ok (.getfield 178, 3) := by decide +kernel
theorem dX7_findLineCrosses_37 : decode cX7_findLineCrosses 37 = .ok (.iconst 1, 1) := by decide +kernel
theorem dX7_findLineCrosses_38 : decode cX7_findLineCrosses 38 = .ok (.if_icmp .ne 37, 3) := by decide +kernel
theorem dX7_findLineCrosses_41 : decode cX7_findLineCrosses 41 = .ok (.aload_n 0, 1) := by decide +kernel
theorem dX7_findLineCrosses_42 : decode cX7_findLineCrosses 42 = .ok (.getfield 9, 3) := by decide +kernel
theorem dX7_findLineCrosses_45 : decode cX7_findLineCrosses 45 = .ok (.iconst 5, 1) := by decide +kernel
theorem dX7_findLineCrosses_46 : decode cX7_findLineCrosses 46 = .ok (.iaload, 1) := by decide +kernel
theorem dX7_findLineCrosses_47 : decode cX7_findLineCrosses 47 = .ok (.ifCond .ne 28, 3) := by decide +kernel
theorem dX7_findLineCrosses_50 : decode cX7_findLineCrosses 50 = .ok (.aload_n 0, 1) := by decide +kernel
theorem dX7_findLineCrosses_51 : decode cX7_findLineCrosses 51 = .ok (.getfield 9, 3) := by decide +kernel
theorem dX7_findLineCrosses_54 : decode cX7_findLineCrosses 54 = .ok (.iconst 1, 1) := by decide +kernel
theorem dX7_findLineCrosses_55 : decode cX7_findLineCrosses 55 = .ok (.iaload, 1) := by decide +kernel
theorem dX7_findLineCrosses_56 : decode cX7_findLineCrosses 56 = .ok (.iconst (-1), 1) := by decide +kernel
theorem dX7_findLineCrosses_57 : decode cX7_findLineCrosses 57 = .ok (.if_icmp .eq 18, 3) := by decide +kernel
theorem dX7_findLineCrosses_60 : decode cX7_findLineCrosses 60 = .ok (.aload_n 0, 1) := by decide +kernel
theorem dX7_findLineCrosses_61 : decode cX7_findLineCrosses 61 = .ok (.getfield 76, 3) := by decide +kernel
theorem dX7_findLineCrosses_64 : decode cX7_findLineCrosses 64 = .ok (.iconst 0, 1) := by decide +kernel
theorem dX7_findLineCrosses_65 : decode cX7_findLineCrosses 65 = .ok (.aload_n 0, 1) := by decide +kernel
theorem dX7_findLineCrosses_66 : decode cX7_findLineCrosses 66 = .ok (.getfield 9, 3) := by decide +kernel
theorem dX7_findLineCrosses_69 : decode cX7_findLineCrosses 69 = .ok (.iconst 1, 1) := by decide +kernel
theorem dX7_findLineCrosses_70 : decode cX7_findLineCrosses 70 = .ok (.iaload, 1) := by decide +kernel
theorem dX7_findLineCrosses_71 : decode cX7_findLineCrosses 71 = .ok (.iastore, 1) := by decide +kernel
theorem dX7_findLineCrosses_72 : decode cX7_findLineCrosses 72 = .ok (.goto 98, 3) := by decide +kernel
theorem dX7_findLineCrosses_75 : decode cX7_findLineCrosses 75 = .ok (.aload_n 0, 1) := by decide +kernel
theorem dX7_findLineCrosses_76 : decode cX7_findLineCrosses 76 = .ok (.getfield 9, 3) := by decide +kernel
theorem dX7_findLineCrosses_79 : decode cX7_findLineCrosses 79 = .ok (.iconst 1, 1) := by decide +kernel
theorem dX7_findLineCrosses_80 : decode cX7_findLineCrosses 80 = .ok (.iaload, 1) := by decide +kernel
theorem dX7_findLineCrosses_81 : decode cX7_findLineCrosses 81 = .ok (.iconst (-1), 1) := by decide +kernel
theorem dX7_findLineCrosses_82 : decode cX7_findLineCrosses 82 = .ok (.if_icmp .eq 88, 3) := by decide +kernel
theorem dX7_findLineCrosses_85 : decode cX7_findLineCrosses 85 = .ok (.aload_n 0, 1) := by decide +kernel
theorem dX7_findLineCrosses_86 : decode cX7_findLineCrosses 86 = .ok (.getfield 9, 3) := by decide +kernel
theorem dX7_findLineCrosses_89 : decode cX7_findLineCrosses 89 = .ok (.bipush 8, 2) := by decide +kernel
theorem dX7_findLineCrosses_91 : decode cX7_findLineCrosses 91 = .ok (.iaload, 1) := by decide +kernel
theorem dX7_findLineCrosses_92 : decode cX7_findLineCrosses 92 = .ok (.ifCond .ne 78, 3) := by decide +kernel
theorem dX7_findLineCrosses_95 : decode cX7_findLineCrosses 95 = .ok (.aload_n 0, 1) := by decide +kernel
theorem dX7_findLineCrosses_96 : decode cX7_findLineCrosses 96 = .ok (.invokevirtual 212, 3) := by decide +kernel
theorem dX7_findLineCrosses_99 : decode cX7_findLineCrosses 99 = .ok (.ifCond .le 71, 3) := by decide +kernel
theorem dX7_findLineCrosses_102 : decode cX7_findLineCrosses 102 = .ok (.iconst 0, 1) := by decide +kernel
theorem dX7_findLineCrosses_103 : decode cX7_findLineCrosses 103 = .ok (.istore_n 1, 1) := by decide +kernel
theorem dX7_findLineCrosses_104 : decode cX7_findLineCrosses 104 = .ok (.iload_n 1, 1) := by decide +kernel
theorem dX7_findLineCrosses_105 : decode cX7_findLineCrosses 105 = .ok (.aload_n 0, 1) := by decide +kernel
theorem dX7_findLineCrosses_106 : decode cX7_findLineCrosses 106 = .ok (.getfield 178, 3) := by decide +kernel
theorem dX7_findLineCrosses_109 : decode cX7_findLineCrosses 109 = .ok (.if_icmp .ge 16, 3) := by decide +kernel
theorem dX7_findLineCrosses_112 : decode cX7_findLineCrosses 112 = .ok (.aload_n 0, 1) := by decide +kernel
theorem dX7_findLineCrosses_113 : decode cX7_findLineCrosses 113 = .ok (.getfield 29, 3) := by decide +kernel
theorem dX7_findLineCrosses_116 : decode cX7_findLineCrosses 116 = .ok (.iload_n 1, 1) := by decide +kernel
theorem dX7_findLineCrosses_117 : decode cX7_findLineCrosses 117 = .ok (.lconst 1, 1) := by decide +kernel
theorem dX7_findLineCrosses_118 : decode cX7_findLineCrosses 118 = .ok (.lastore, 1) := by decide +kernel
theorem dX7_findLineCrosses_119 : decode cX7_findLineCrosses 119 = .ok (.iinc 1 1, 3) := by decide +kernel
theorem dX7_findLineCrosses_122 : decode cX7_findLineCrosses 122 = .ok (.goto (-18), 3) := by decide +kernel
theorem dX7_findLineCrosses_125 : decode cX7_findLineCrosses 125 = .ok (.aload_n 0, 1) := by decide +kernel
theorem dX7_findLineCrosses_126 : decode cX7_findLineCrosses 126 = .ok (.aload_n 0, 1) := by decide +kernel
theorem dX7_findLineCrosses_127 : decode cX7_findLineCrosses 127 = .ok (.invokevirtual 212, 3) := by decide +kernel
theorem dX7_findLineCrosses_130 : decode cX7_findLineCrosses 130 = .ok (.i2l, 1) := by decide +kernel
theorem dX7_findLineCrosses_131 : decode cX7_findLineCrosses 131 = .ok (.aload_n 0, 1) := by decide +kernel
theorem dX7_findLineCrosses_132 : decode cX7_findLineCrosses 132 = .ok (.getfield 178, 3) := by decide +kernel
theorem dX7_findLineCrosses_135 : decode cX7_findLineCrosses 135 = .ok (.invokevirtual 187, 3) := by decide +kernel
theorem dX7_findLineCrosses_138 : decode cX7_findLineCrosses 138 = .ok (.iconst 0, 1) := by decide +kernel
theorem dX7_findLineCrosses_139 : decode cX7_findLineCrosses 139 = .ok (.istore_n 1, 1) := by decide +kernel
theorem dX7_findLineCrosses_140 : decode cX7_findLineCrosses 140 = .ok (.iload_n 1, 1) := by decide +kernel
theorem dX7_findLineCrosses_141 : decode cX7_findLineCrosses 141 = .ok (.aload_n 0, 1) := by decide +kernel
theorem dX7_findLineCrosses_142 : decode cX7_findLineCrosses 142 = .ok (.getfield 178, 3) := by decide +kernel
theorem dX7_findLineCrosses_145 : decode cX7_findLineCrosses 145 = .ok (.if_icmp .ge 25, 3) := by decide +kernel
theorem dX7_findLineCrosses_148 : decode cX7_findLineCrosses 148 = .ok (.aload_n 0, 1) := by decide +kernel
theorem dX7_findLineCrosses_149 : decode cX7_findLineCrosses 149 = .ok (.getfield 76, 3) := by decide +kernel
