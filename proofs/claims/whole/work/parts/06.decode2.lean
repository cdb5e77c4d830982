theorem dX7_findLineCrosses_152 : decode cX7_findLineCrosses 152 = .ok (.iload_n 1, 1) := by decide +kernel
theorem dX7_findLineCrosses_153 : decode cX7_findLineCrosses 153 = .ok (.dup2, 1) := by decide +kernel
theorem dX7_findLineCrosses_154 : decode cX7_findLineCrosses 154 = .ok (.iaload, 1) := by decide +kernel
theorem dX7_findLineCrosses_155 : decode cX7_findLineCrosses 155 = .ok (.aload_n 0, 1) := by decide +kernel
theorem dX7_findLineCrosses_156 : decode cX7_findLineCrosses 156 = .ok (.getfield 33, 3) := by decide +kernel
theorem dX7_findLineCrosses_159 : decode cX7_findLineCrosses 159 = .ok (.iload_n 1, 1) := by decide +kernel
theorem dX7_findLineCrosses_160 : decode cX7_findLineCrosses 160 = .ok (.laload, 1) := by decide +kernel
theorem dX7_findLineCrosses_161 : decode cX7_findLineCrosses 161 = .ok (.l2i, 1) := by decide +kernel
theorem dX7_findLineCrosses_162 : decode cX7_findLineCrosses 162 = .ok (.iadd, 1) := by decide +kernel
theorem dX7_findLineCrosses_163 : decode cX7_findLineCrosses 163 = .ok (.iastore, 1) := by decide +kernel
theorem dX7_findLineCrosses_164 : decode cX7_findLineCrosses 164 = .ok (.iinc 1 1, 3) := by decide +kernel
theorem dX7_findLineCrosses_167 : decode cX7_findLineCrosses 167 = .ok (.goto (-27), 3) := by decide +kernel
theorem dX7_findLineCrosses_170 : decode cX7_findLineCrosses 170 = .ok (.aload_n 0, 1) := by decide +kernel
theorem dX7_findLineCrosses_171 : decode cX7_findLineCrosses 171 = .ok (.aload_n 0, 1) := by decide +kernel
theorem dX7_findLineCrosses_172 : decode cX7_findLineCrosses 172 = .ok (.getfield 9, 3) := by decide +kernel
theorem dX7_findLineCrosses_175 : decode cX7_findLineCrosses 175 = .ok (.iconst 1, 1) := by decide +kernel
theorem dX7_findLineCrosses_176 : decode cX7_findLineCrosses 176 = .ok (.iaload, 1) := by decide +kernel
theorem dX7_findLineCrosses_177 : decode cX7_findLineCrosses 177 = .ok (.putfield 216, 3) := by decide +kernel
theorem dX7_findLineCrosses_180 : decode cX7_findLineCrosses 180 = .ok (.aload_n 0, 1) := by decide +kernel
theorem dX7_findLineCrosses_181 : decode cX7_findLineCrosses 181 = .ok (.getfield 9, 3) := by decide +kernel
theorem dX7_findLineCrosses_184 : decode cX7_findLineCrosses 184 = .ok (.iconst 1, 1) := by decide +kernel
theorem dX7_findLineCrosses_185 : decode cX7_findLineCrosses 185 = .ok (.iaload, 1) := by decide +kernel
theorem dX7_findLineCrosses_186 : decode cX7_findLineCrosses 186 = .ok (.iconst (-1), 1) := by decide +kernel
theorem dX7_findLineCrosses_187 : decode cX7_findLineCrosses 187 = .ok (.if_icmp .eq 4, 3) := by decide +kernel
theorem dX7_findLineCrosses_190 : decode cX7_findLineCrosses 190 = .ok (.return_, 1) := by decide +kernel
theorem dX7_findLineCrosses_191 : decode cX7_findLineCrosses 191 = .ok (.aload_n 0, 1) := by decide +kernel
theorem dX7_findLineCrosses_192 : decode cX7_findLineCrosses 192 = .ok (.aload_n 0, 1) := by decide +kernel
theorem dX7_findLineCrosses_193 : decode cX7_findLineCrosses 193 = .ok (.getfield 178, 3) := by decide +kernel
theorem dX7_findLineCrosses_196 : decode cX7_findLineCrosses 196 = .ok (.ifCond .ne 7, 3) := by decide +kernel
theorem dX7_findLineCrosses_199 : decode cX7_findLineCrosses 199 = .ok (.iconst 0, 1) := by decide +kernel
theorem dX7_findLineCrosses_200 : decode cX7_findLineCrosses 200 = .ok (.goto 16, 3) := by decide +kernel
theorem dX7_findLineCrosses_203 : decode cX7_findLineCrosses 203 = .ok (.aload_n 0, 1) := by decide +kernel
theorem dX7_findLineCrosses_204 : decode cX7_findLineCrosses 204 = .ok (.getfield 9, 3) := by decide +kernel
theorem dX7_findLineCrosses_207 : decode cX7_findLineCrosses 207 = .ok (.iconst 3, 1) := by decide +kernel
theorem dX7_findLineCrosses_208 : decode cX7_findLineCrosses 208 = .ok (.iaload, 1) := by decide +kernel
theorem dX7_findLineCrosses_209 : decode cX7_findLineCrosses 209 = .ok (.aload_n 0, 1) := by decide +kernel
theorem dX7_findLineCrosses_210 : decode cX7_findLineCrosses 210 = .ok (.getfield 178, 3) := by decide +kernel
theorem dX7_findLineCrosses_213 : decode cX7_findLineCrosses 213 = .ok (.iconst 1, 1) := by decide +kernel
theorem dX7_findLineCrosses_214 : decode cX7_findLineCrosses 214 = .ok (.isub, 1) := by decide +kernel
theorem dX7_findLineCrosses_215 : decode cX7_findLineCrosses 215 = .ok (.imul, 1) := by decide +kernel
theorem dX7_findLineCrosses_216 : decode cX7_findLineCrosses 216 = .ok (.putfield 216, 3) := by decide +kernel
theorem dX7_findLineCrosses_219 : decode cX7_findLineCrosses 219 = .ok (.iconst 0, 1) := by decide +kernel
theorem dX7_findLineCrosses_220 : decode cX7_findLineCrosses 220 = .ok (.istore_n 1, 1) := by decide +kernel
theorem dX7_findLineCrosses_221 : decode cX7_findLineCrosses 221 = .ok (.iload_n 1, 1) := by decide +kernel
theorem dX7_findLineCrosses_222 : decode cX7_findLineCrosses 222 = .ok (.aload_n 0, 1) := by decide +kernel
theorem dX7_findLineCrosses_223 : decode cX7_findLineCrosses 223 = .ok (.getfield 178, 3) := by decide +kernel
theorem dX7_findLineCrosses_226 : decode cX7_findLineCrosses 226 = .ok (.if_icmp .ge 24, 3) := by decide +kernel
theorem dX7_findLineCrosses_229 : decode cX7_findLineCrosses 229 = .ok (.aload_n 0, 1) := by decide +kernel
theorem dX7_findLineCrosses_230 : decode cX7_findLineCrosses 230 = .ok (.dup, 1) := by decide +kernel
theorem dX7_findLineCrosses_231 : decode cX7_findLineCrosses 231 = .ok (.getfield 216, 3) := by decide +kernel
theorem dX7_findLineCrosses_234 : decode cX7_findLineCrosses 234 = .ok (.aload_n 0, 1) := by decide +kernel
theorem dX7_findLineCrosses_235 : decode cX7_findLineCrosses 235 = .ok (.getfield 76, 3) := by decide +kernel
theorem dX7_findLineCrosses_238 : decode cX7_findLineCrosses 238 = .ok (.iload_n 1, 1) := by decide +kernel
theorem dX7_findLineCrosses_239 : decode cX7_findLineCrosses 239 = .ok (.iaload, 1) := by decide +kernel
theorem dX7_findLineCrosses_240 : decode cX7_findLineCrosses 240 = .ok (.iadd, 1) := by decide +kernel
theorem dX7_findLineCrosses_241 : decode cX7_findLineCrosses 241 = .ok (.putfield 216, 3) := by decide +kernel
theorem dX7_findLineCrosses_244 : decode cX7_findLineCrosses 244 = .ok (.iinc 1 1, 3) := by decide +kernel
theorem dX7_findLineCrosses_247 : decode cX7_findLineCrosses 247 = .ok (.goto (-26), 3) := by decide +kernel
theorem dX7_findLineCrosses_250 : decode cX7_findLineCrosses 250 = .ok (.return_, 1) := by decide +kernel
theorem dX7_floor_0 : decode cX7_floor 0 = .ok (.iload_n 0, 1) := by decide +kernel
theorem dX7_floor_1 : decode cX7_floor 1 = .ok (.ifCond .lt 9, 3) := by decide +kernel
theorem dX7_floor_4 : decode cX7_floor 4 = .ok (.iload_n 0, 1) := by decide +kernel
theorem dX7_floor_5 : decode cX7_floor 5 = .ok (.iload_n 1, 1) := by decide +kernel
theorem dX7_floor_6 : decode cX7_floor 6 = .ok (.idiv, 1) := by decide +kernel
theorem dX7_floor_7 : decode cX7_floor 7 = .ok (.goto 11, 3) := by decide +kernel
theorem dX7_floor_10 : decode cX7_floor 10 = .ok (.iload_n 1, 1) := by decide +kernel
theorem dX7_floor_11 : decode cX7_floor 11 = .ok (.iconst 1, 1) := by decide +kernel
theorem dX7_floor_12 : decode cX7_floor 12 = .ok (.isub, 1) := by decide +kernel
theorem dX7_floor_13 : decode cX7_floor 13 = .ok (.iload_n 0, 1) := by decide +kernel
theorem dX7_floor_14 : decode cX7_floor 14 = .ok (.isub, 1) := by decide +kernel
theorem dX7_floor_15 : decode cX7_floor 15 = .ok (.iload_n 1, 1) := by decide +kernel
theorem dX7_floor_16 : decode cX7_floor 16 = .ok (.idiv, 1) := by decide +kernel
theorem dX7_floor_17 : decode cX7_floor 17 = .ok (.ineg, 1) := by decide +kernel
theorem dX7_floor_18 : decode cX7_floor 18 = .ok (.ireturn, 1) := by decide +kernel
theorem dX7_offset_0 : decode cX7_offset 0 = .ok (.iload_n 1, 1) := by decide +kernel
theorem dX7_offset_1 : decode cX7_offset 1 = .ok (.ifCond .ge 8, 3) := by decide +kernel
theorem dX7_offset_4 : decode cX7_offset 4 = .ok (.iload_n 0, 1) := by decide +kernel
theorem dX7_offset_5 : decode cX7_offset 5 = .ok (.iconst 3, 1) := by decide +kernel
theorem dX7_offset_6 : decode cX7_offset 6 = .ok (.if_icmp .ge 7, 3) := by decide +kernel
theorem dX7_offset_9 : decode cX7_offset 9 = .ok (.iload_n 0, 1) := by decide +kernel
theorem dX7_offset_10 : decode cX7_offset 10 = .ok (.goto 13, 3) := by decide +kernel
theorem dX7_offset_13 : decode cX7_offset 13 = .ok (.iload_n 0, 1) := by decide +kernel
theorem dX7_offset_14 : decode cX7_offset 14 = .ok (.iconst 3, 1) := by decide +kernel
theorem dX7_offset_15 : decode cX7_offset 15 = .ok (.if_icmp .ne 7, 3) := by decide +kernel
theorem dX7_offset_18 : decode cX7_offset 18 = .ok (.iconst 0, 1) := by decide +kernel
theorem dX7_offset_19 : decode cX7_offset 19 = .ok (.goto 4, 3) := by decide +kernel
theorem dX7_offset_22 : decode cX7_offset 22 = .ok (.iconst 2, 1) := by decide +kernel
theorem dX7_offset_23 : decode cX7_offset 23 = .ok (.istore 4, 2) := by decide +kernel
theorem dX7_offset_25 : decode cX7_offset 25 = .ok (.iload 4, 2) := by decide +kernel
theorem dX7_offset_27 : decode cX7_offset 27 = .ok (.tableswitch 80 1 5 #[33, 35, 41, 58, 70], 33) := by decide +kernel
theorem dX7_offset_60 : decode cX7_offset 60 = .ok (.iload_n 1, 1) := by decide +kernel
theorem dX7_offset_61 : decode cX7_offset 61 = .ok (.ireturn, 1) := by decide +kernel
theorem dX7_offset_62 : decode cX7_offset 62 = .ok (.iload_n 1, 1) := by decide +kernel
theorem dX7_offset_63 : decode cX7_offset 63 = .ok (.iconst 2, 1) := by decide +kernel
theorem dX7_offset_64 : decode cX7_offset 64 = .ok (.invokestatic 219, 3) := by decide +kernel
theorem dX7_offset_67 : decode cX7_offset 67 = .ok (.ireturn, 1) := by decide +kernel
theorem dX7_offset_68 : decode cX7_offset 68 = .ok (.iload_n 3, 1) := by decide +kernel
theorem dX7_offset_69 : decode cX7_offset 69 = .ok (.iconst 1, 1) := by decide +kernel
theorem dX7_offset_70 : decode cX7_offset 70 = .ok (.if_icmp .ne 7, 3) := by decide +kernel
theorem dX7_offset_73 : decode cX7_offset 73 = .ok (.iconst 0, 1) := by decide +kernel
theorem dX7_offset_74 : decode cX7_offset 74 = .ok (.goto 10, 3) := by decide +kernel
theorem dX7_offset_77 : decode cX7_offset 77 = .ok (.iload_n 1, 1) := by decide +kernel
theorem dX7_offset_78 : decode cX7_offset 78 = .ok (.iload_n 2, 1) := by decide +kernel
theorem dX7_offset_79 : decode cX7_offset 79 = .ok (.imul, 1) := by decide +kernel
theorem dX7_offset_80 : decode cX7_offset 80 = .ok (.iload_n 3, 1) := by decide +kernel
theorem dX7_offset_81 : decode cX7_offset 81 = .ok (.iconst 1, 1) := by decide +kernel
theorem dX7_offset_82 : decode cX7_offset 82 = .ok (.isub, 1) := by decide +kernel
theorem dX7_offset_83 : decode cX7_offset 83 = .ok (.idiv, 1) := by decide +kernel
theorem dX7_offset_84 : decode cX7_offset 84 = .ok (.ireturn, 1) := by decide +kernel
theorem dX7_offset_85 : decode cX7_offset 85 = .ok (.iload_n 1, 1) := by decide +kernel
theorem dX7_offset_86 : decode cX7_offset 86 = .ok (.iconst 2, 1) := by decide +kernel
theorem dX7_offset_87 : decode cX7_offset 87 = .ok (.iload_n 2, 1) := by decide +kernel
theorem dX7_offset_88 : decode cX7_offset 88 = .ok (.imul, 1) := by decide +kernel
theorem dX7_offset_89 : decode cX7_offset 89 = .ok (.iconst 1, 1) := by decide +kernel
theorem dX7_offset_90 : decode cX7_offset 90 = .ok (.iadd, 1) := by decide +kernel
theorem dX7_offset_91 : decode cX7_offset 91 = .ok (.imul, 1) := by decide +kernel
theorem dX7_offset_92 : decode cX7_offset 92 = .ok (.iconst 2, 1) := by decide +kernel
theorem dX7_offset_93 : decode cX7_offset 93 = .ok (.iload_n 3, 1) := by decide +kernel
theorem dX7_offset_94 : decode cX7_offset 94 = .ok (.imul, 1) := by decide +kernel
theorem dX7_offset_95 : decode cX7_offset 95 = .ok (.idiv, 1) := by decide +kernel
theorem dX7_offset_96 : decode cX7_offset 96 = .ok (.ireturn, 1) := by decide +kernel
theorem dX7_offset_97 : decode cX7_offset 97 = .ok (.iload_n 1, 1) := by decide +kernel
theorem dX7_offset_98 : decode cX7_offset 98 = .ok (.iload_n 2, 1) := by decide +kernel
theorem dX7_offset_99 : decode cX7_offset 99 = .ok (.iconst 1, 1) := by decide +kernel
theorem dX7_offset_100 : decode cX7_offset 100 = .ok (.iadd, 1) := by decide +kernel
theorem dX7_offset_101 : decode cX7_offset 101 = .ok (.imul, 1) := by decide +kernel
theorem dX7_offset_102 : decode cX7_offset 102 = .ok (.iload_n 3, 1) := by decide +kernel
theorem dX7_offset_103 : decode cX7_offset 103 = .ok (.iconst 1, 1) := by decide +kernel
theorem dX7_offset_104 : decode cX7_offset 104 = .ok (.iadd, 1) := by decide +kernel
theorem dX7_offset_105 : decode cX7_offset 105 = .ok (.idiv, 1) := by decide +kernel
theorem dX7_offset_106 : decode cX7_offset 106 = .ok (.ireturn, 1) := by decide +kernel
theorem dX7_offset_107 : decode cX7_offset 107 = .ok (.iconst 0, 1) := by decide +kernel
theorem dX7_offset_108 : decode cX7_offset 108 = .ok (.ireturn, 1) := by decide +kernel
theorem dX7_findPlaces_0 : decode cX7_findPlaces 0 = .ok (.iconst 0, 1) := by decide +kernel
theorem dX7_findPlaces_1 : decode cX7_findPlaces 1 = .ok (.istore_n 2, 1) := by decide +kernel
theorem dX7_findPlaces_2 : decode cX7_findPlaces 2 = .ok (.iconst 0, 1) := by decide +kernel
theorem dX7_findPlaces_3 : decode cX7_findPlaces 3 = .ok (.istore_n 3, 1) := by decide +kernel
theorem dX7_findPlaces_4 : decode cX7_findPlaces 4 = .ok (.iload_n 3, 1) := by decide +kernel
theorem dX7_findPlaces_5 : decode cX7_findPlaces 5 = .ok (.aload_n 0, 1) := by decide +kernel
theorem dX7_findPlaces_6 : decode cX7_findPlaces 6 = .ok (.getfield 67, 3) := by decide +kernel
theorem dX7_findPlaces_9 : decode cX7_findPlaces 9 = .ok (.iload_n 1, 1) := by decide +kernel
theorem dX7_findPlaces_10 : decode cX7_findPlaces 10 = .ok (.iaload, 1) := by decide +kernel
theorem dX7_findPlaces_11 : decode cX7_findPlaces 11 = .ok (.if_icmp .ge 288, 3) := by decide +kernel
theorem dX7_findPlaces_14 : decode cX7_findPlaces 14 = .ok (.aload_n 0, 1) := by decide +kernel
theorem dX7_findPlaces_15 : decode cX7_findPlaces 15 = .ok (.getfield 64, 3) := by decide +kernel
theorem dX7_findPlaces_18 : decode cX7_findPlaces 18 = .ok (.iload_n 1, 1) := by decide +kernel
theorem dX7_findPlaces_19 : decode cX7_findPlaces 19 = .ok (.iaload, 1) := by decide +kernel
theorem dX7_findPlaces_20 : decode cX7_findPlaces 20 = .ok (.iload_n 3, 1) := by decide +kernel
theorem dX7_findPlaces_21 : decode cX7_findPlaces 21 = .ok (.iadd, 1) := by decide +kernel
theorem dX7_findPlaces_22 : decode cX7_findPlaces 22 = .ok (.istore 4, 2) := by decide +kernel
theorem dX7_findPlaces_24 : decode cX7_findPlaces 24 = .ok (.aload_n 0, 1) := by decide +kernel
theorem dX7_findPlaces_25 : decode cX7_findPlaces 25 = .ok (.getfield 39, 3) := by decide +kernel
theorem dX7_findPlaces_28 : decode cX7_findPlaces 28 = .ok (.iload 4, 2) := by decide +kernel
theorem dX7_findPlaces_30 : decode cX7_findPlaces 30 = .ok (.iaload, 1) := by decide +kernel
theorem dX7_findPlaces_31 : decode cX7_findPlaces 31 = .ok (.istore 5, 2) := by decide +kernel
theorem dX7_findPlaces_33 : decode cX7_findPlaces 33 = .ok (.aload_n 0, 1) := by decide +kernel
theorem dX7_findPlaces_34 : decode cX7_findPlaces 34 = .ok (.iload 5, 2) := by decide +kernel
theorem dX7_findPlaces_36 : decode cX7_findPlaces 36 = .ok (.invokevirtual 205, 3) := by decide +kernel
theorem dX7_findPlaces_39 : decode cX7_findPlaces 39 = .ok (.istore 6, 2) := by decide +kernel
theorem dX7_findPlaces_41 : decode cX7_findPlaces 41 = .ok (.aload_n 0, 1) := by decide +kernel
theorem dX7_findPlaces_42 : decode cX7_findPlaces 42 = .ok (.getfield 51, 3) := by decide +kernel
theorem dX7_findPlaces_45 : decode cX7_findPlaces 45 = .ok (.iload 4, 2) := by decide +kernel
theorem dX7_findPlaces_47 : decode cX7_findPlaces 47 = .ok (.iload_n 2, 1) := by decide +kernel
theorem dX7_findPlaces_48 : decode cX7_findPlaces 48 = .ok (.aload_n 0, 1) := by decide +kernel
theorem dX7_findPlaces_49 : decode cX7_findPlaces 49 = .ok (.getfield 9, 3) := by decide +kernel
theorem dX7_findPlaces_52 : decode cX7_findPlaces 52 = .ok (.bipush 6, 2) := by decide +kernel
theorem dX7_findPlaces_54 : decode cX7_findPlaces 54 = .ok (.iaload, 1) := by decide +kernel
theorem dX7_findPlaces_55 : decode cX7_findPlaces 55 = .ok (.aload_n 0, 1) := by decide +kernel
theorem dX7_findPlaces_56 : decode cX7_findPlaces 56 = .ok (.getfield 73, 3) := by decide +kernel
theorem dX7_findPlaces_59 : decode cX7_findPlaces 59 = .ok (.iload_n 1, 1) := by decide +kernel
theorem dX7_findPlaces_60 : decode cX7_findPlaces 60 = .ok (.iaload, 1) := by decide +kernel
theorem dX7_findPlaces_61 : decode cX7_findPlaces 61 = .ok (.iload_n 3, 1) := by decide +kernel
theorem dX7_findPlaces_62 : decode cX7_findPlaces 62 = .ok (.aload_n 0, 1) := by decide +kernel
theorem dX7_findPlaces_63 : decode cX7_findPlaces 63 = .ok (.getfield 67, 3) := by decide +kernel
theorem dX7_findPlaces_66 : decode cX7_findPlaces 66 = .ok (.iload_n 1, 1) := by decide +kernel
theorem dX7_findPlaces_67 : decode cX7_findPlaces 67 = .ok (.iaload, 1) := by decide +kernel
theorem dX7_findPlaces_68 : decode cX7_findPlaces 68 = .ok (.invokestatic 222, 3) := by decide +kernel
theorem dX7_findPlaces_71 : decode cX7_findPlaces 71 = .ok (.iadd, 1) := by decide +kernel
theorem dX7_findPlaces_72 : decode cX7_findPlaces 72 = .ok (.iastore, 1) := by decide +kernel
theorem dX7_findPlaces_73 : decode cX7_findPlaces 73 = .ok (.iload_n 2, 1) := by decide +kernel
theorem dX7_findPlaces_74 : decode cX7_findPlaces 74 = .ok (.aload_n 0, 1) := by decide +kernel
theorem dX7_findPlaces_75 : decode cX7_findPlaces 75 = .ok (.getfield 42, 3) := by decide +kernel
theorem dX7_findPlaces_78 : decode cX7_findPlaces 78 = .ok (.iload 4, 2) := by decide +kernel
theorem dX7_findPlaces_80 : decode cX7_findPlaces 80 = .ok (.iaload, 1) := by decide +kernel
theorem dX7_findPlaces_81 : decode cX7_findPlaces 81 = .ok (.aload_n 0, 1) := by decide +kernel
theorem dX7_findPlaces_82 : decode cX7_findPlaces 82 = .ok (.getfield 9, 3) := by decide +kernel
theorem dX7_findPlaces_85 : decode cX7_findPlaces 85 = .ok (.iconst 2, 1) := by decide +kernel
theorem dX7_findPlaces_86 : decode cX7_findPlaces 86 = .ok (.iaload, 1) := by decide +kernel
theorem dX7_findPlaces_87 : decode cX7_findPlaces 87 = .ok (.iadd, 1) := by decide +kernel
theorem dX7_findPlaces_88 : decode cX7_findPlaces 88 = .ok (.iadd, 1) := by decide +kernel
theorem dX7_findPlaces_89 : decode cX7_findPlaces 89 = .ok (.istore_n 2, 1) := by decide +kernel
theorem dX7_findPlaces_90 : decode cX7_findPlaces 90 = .ok (.aload_n 0, 1) := by decide +kernel
theorem dX7_findPlaces_91 : decode cX7_findPlaces 91 = .ok (.getfield 48, 3) := by decide +kernel
theorem dX7_findPlaces_94 : decode cX7_findPlaces 94 = .ok (.iload 4, 2) := by decide +kernel
theorem dX7_findPlaces_96 : decode cX7_findPlaces 96 = .ok (.iload 6, 2) := by decide +kernel
theorem dX7_findPlaces_98 : decode cX7_findPlaces 98 = .ok (.ifCond .ne 24, 3) := by decide +kernel
theorem dX7_findPlaces_101 : decode cX7_findPlaces 101 = .ok (.aload_n 0, 1) := by decide +kernel
theorem dX7_findPlaces_102 : decode cX7_findPlaces 102 = .ok (.iload 5, 2) := by decide +kernel
theorem dX7_findPlaces_104 : decode cX7_findPlaces 104 = .ok (.bipush 9, 2) := by decide +kernel
theorem dX7_findPlaces_106 : decode cX7_findPlaces 106 = .ok (.invokevirtual 145, 3) := by decide +kernel
theorem dX7_findPlaces_109 : decode cX7_findPlaces 109 = .ok (.iconst 1, 1) := by decide +kernel
theorem dX7_findPlaces_110 : decode cX7_findPlaces 110 = .ok (.if_icmp .ne 12, 3) := by decide +kernel
theorem dX7_findPlaces_113 : decode cX7_findPlaces 113 = .ok (.aload_n 0, 1) := by decide +kernel
theorem dX7_findPlaces_114 : decode cX7_findPlaces 114 = .ok (.getfield 76, 3) := by decide +kernel
theorem dX7_findPlaces_117 : decode cX7_findPlaces 117 = .ok (.iload_n 1, 1) := by decide +kernel
theorem dX7_findPlaces_118 : decode cX7_findPlaces 118 = .ok (.iaload, 1) := by decide +kernel
theorem dX7_findPlaces_119 : decode cX7_findPlaces 119 = .ok (.goto 10, 3) := by decide +kernel
theorem dX7_findPlaces_122 : decode cX7_findPlaces 122 = .ok (.aload_n 0, 1) := by decide +kernel
theorem dX7_findPlaces_123 : decode cX7_findPlaces 123 = .ok (.iload 5, 2) := by decide +kernel
theorem dX7_findPlaces_125 : decode cX7_findPlaces 125 = .ok (.iconst 5, 1) := by decide +kernel
theorem dX7_findPlaces_126 : decode cX7_findPlaces 126 = .ok (.invokevirtual 145, 3) := by decide +kernel
theorem dX7_findPlaces_129 : decode cX7_findPlaces 129 = .ok (.iastore, 1) := by decide +kernel
theorem dX7_findPlaces_130 : decode cX7_findPlaces 130 = .ok (.aload_n 0, 1) := by decide +kernel
theorem dX7_findPlaces_131 : decode cX7_findPlaces 131 = .ok (.getfield 76, 3) := by decide +kernel
theorem dX7_findPlaces_134 : decode cX7_findPlaces 134 = .ok (.iload_n 1, 1) := by decide +kernel
theorem dX7_findPlaces_135 : decode cX7_findPlaces 135 = .ok (.iaload, 1) := by decide +kernel
theorem dX7_findPlaces_136 : decode cX7_findPlaces 136 = .ok (.aload_n 0, 1) := by decide +kernel
theorem dX7_findPlaces_137 : decode cX7_findPlaces 137 = .ok (.getfield 48, 3) := by decide +kernel
theorem dX7_findPlaces_140 : decode cX7_findPlaces 140 = .ok (.iload 4, 2) := by decide +kernel
theorem dX7_findPlaces_142 : decode cX7_findPlaces 142 = .ok (.iaload, 1) := by decide +kernel
theorem dX7_findPlaces_143 : decode cX7_findPlaces 143 = .ok (.isub, 1) := by decide +kernel
theorem dX7_findPlaces_144 : decode cX7_findPlaces 144 = .ok (.istore 7, 2) := by decide +kernel
theorem dX7_findPlaces_146 : decode cX7_findPlaces 146 = .ok (.iload 6, 2) := by decide +kernel
theorem dX7_findPlaces_148 : decode cX7_findPlaces 148 = .ok (.iconst 2, 1) := by decide +kernel
theorem dX7_findPlaces_149 : decode cX7_findPlaces 149 = .ok (.if_icmp .ne 8, 3) := by decide +kernel
theorem dX7_findPlaces_152 : decode cX7_findPlaces 152 = .ok (.iload 7, 2) := by decide +kernel
theorem dX7_findPlaces_154 : decode cX7_findPlaces 154 = .ok (.goto 43, 3) := by decide +kernel
theorem dX7_findPlaces_157 : decode cX7_findPlaces 157 = .ok (.iload 6, 2) := by decide +kernel
theorem dX7_findPlaces_159 : decode cX7_findPlaces 159 = .ok (.iconst 3, 1) := by decide +kernel
theorem dX7_findPlaces_160 : decode cX7_findPlaces 160 = .ok (.if_icmp .ne 12, 3) := by decide +kernel
theorem dX7_findPlaces_163 : decode cX7_findPlaces 163 = .ok (.iload 7, 2) := by decide +kernel
theorem dX7_findPlaces_165 : decode cX7_findPlaces 165 = .ok (.iconst 2, 1) := by decide +kernel
theorem dX7_findPlaces_166 : decode cX7_findPlaces 166 = .ok (.invokestatic 219, 3) := by decide +kernel
theorem dX7_findPlaces_169 : decode cX7_findPlaces 169 = .ok (.goto 28, 3) := by decide +kernel
theorem dX7_findPlaces_172 : decode cX7_findPlaces 172 = .ok (.iload 6, 2) := by decide +kernel
theorem dX7_findPlaces_174 : decode cX7_findPlaces 174 = .ok (.iconst 4, 1) := by decide +kernel
theorem dX7_findPlaces_175 : decode cX7_findPlaces 175 = .ok (.if_icmp .ne 21, 3) := by decide +kernel
theorem dX7_findPlaces_178 : decode cX7_findPlaces 178 = .ok (.aload_n 0, 1) := by decide +kernel
theorem dX7_findPlaces_179 : decode cX7_findPlaces 179 = .ok (.getfield 79, 3) := by decide +kernel
theorem dX7_findPlaces_182 : decode cX7_findPlaces 182 = .ok (.iload_n 1, 1) := by decide +kernel
theorem dX7_findPlaces_183 : decode cX7_findPlaces 183 = .ok (.iaload, 1) := by decide +kernel
theorem dX7_findPlaces_184 : decode cX7_findPlaces 184 = .ok (.aload_n 0, 1) := by decide +kernel
theorem dX7_findPlaces_185 : decode cX7_findPlaces 185 = .ok (.iload 5, 2) := by decide +kernel
theorem dX7_findPlaces_187 : decode cX7_findPlaces 187 = .ok (.bipush 6, 2) := by decide +kernel
theorem dX7_findPlaces_189 : decode cX7_findPlaces 189 = .ok (.invokevirtual 145, 3) := by decide +kernel
theorem dX7_findPlaces_192 : decode cX7_findPlaces 192 = .ok (.isub, 1) := by decide +kernel
theorem dX7_findPlaces_193 : decode cX7_findPlaces 193 = .ok (.goto 4, 3) := by decide +kernel
theorem dX7_findPlaces_196 : decode cX7_findPlaces 196 = .ok (.iconst 0, 1) := by decide +kernel
theorem dX7_findPlaces_197 : decode cX7_findPlaces 197 = .ok (.istore 8, 2) := by decide +kernel
theorem dX7_findPlaces_199 : decode cX7_findPlaces 199 = .ok (.aload_n 0, 1) := by decide +kernel
theorem dX7_findPlaces_200 : decode cX7_findPlaces 200 = .ok (.getfield 54, 3) := by decide +kernel
theorem dX7_findPlaces_203 : decode cX7_findPlaces 203 = .ok (.iload 4, 2) := by decide +kernel
theorem dX7_findPlaces_205 : decode cX7_findPlaces 205 = .ok (.aload_n 0, 1) := by decide +kernel
theorem dX7_findPlaces_206 : decode cX7_findPlaces 206 = .ok (.getfield 85, 3) := by decide +kernel
theorem dX7_findPlaces_209 : decode cX7_findPlaces 209 = .ok (.iload_n 1, 1) := by decide +kernel
theorem dX7_findPlaces_210 : decode cX7_findPlaces 210 = .ok (.iaload, 1) := by decide +kernel
theorem dX7_findPlaces_211 : decode cX7_findPlaces 211 = .ok (.iload 8, 2) := by decide +kernel
theorem dX7_findPlaces_213 : decode cX7_findPlaces 213 = .ok (.iadd, 1) := by decide +kernel
theorem dX7_findPlaces_214 : decode cX7_findPlaces 214 = .ok (.iastore, 1) := by decide +kernel
theorem dX7_findPlaces_215 : decode cX7_findPlaces 215 = .ok (.aload_n 0, 1) := by decide +kernel
theorem dX7_findPlaces_216 : decode cX7_findPlaces 216 = .ok (.getfield 9, 3) := by decide +kernel
theorem dX7_findPlaces_219 : decode cX7_findPlaces 219 = .ok (.iconst 4, 1) := by decide +kernel
theorem dX7_findPlaces_220 : decode cX7_findPlaces 220 = .ok (.iaload, 1) := by decide +kernel
theorem dX7_findPlaces_221 : decode cX7_findPlaces 221 = .ok (.iconst 2, 1) := by decide +kernel
theorem dX7_findPlaces_222 : decode cX7_findPlaces 222 = .ok (.irem, 1) := by decide +kernel
theorem dX7_findPlaces_223 : decode cX7_findPlaces 223 = .ok (.iconst 1, 1) := by decide +kernel
theorem dX7_findPlaces_224 : decode cX7_findPlaces 224 = .ok (.if_icmp .ne 32, 3) := by decide +kernel
theorem dX7_findPlaces_227 : decode cX7_findPlaces 227 = .ok (.aload_n 0, 1) := by decide +kernel
theorem dX7_findPlaces_228 : decode cX7_findPlaces 228 = .ok (.getfield 51, 3) := by decide +kernel
theorem dX7_findPlaces_231 : decode cX7_findPlaces 231 = .ok (.iload 4, 2) := by decide +kernel
theorem dX7_findPlaces_233 : decode cX7_findPlaces 233 = .ok (.aload_n 0, 1) := by decide +kernel
theorem dX7_findPlaces_234 : decode cX7_findPlaces 234 = .ok (.getfield 9, 3) := by decide +kernel
theorem dX7_findPlaces_237 : decode cX7_findPlaces 237 = .ok (.iconst 0, 1) := by decide +kernel
theorem dX7_findPlaces_238 : decode cX7_findPlaces 238 = .ok (.iaload, 1) := by decide +kernel
theorem dX7_findPlaces_239 : decode cX7_findPlaces 239 = .ok (.aload_n 0, 1) := by decide +kernel
theorem dX7_findPlaces_240 : decode cX7_findPlaces 240 = .ok (.getfield 51, 3) := by decide +kernel
theorem dX7_findPlaces_243 : decode cX7_findPlaces 243 = .ok (.iload 4, 2) := by decide +kernel
theorem dX7_findPlaces_245 : decode cX7_findPlaces 245 = .ok (.iaload, 1) := by decide +kernel
theorem dX7_findPlaces_246 : decode cX7_findPlaces 246 = .ok (.isub, 1) := by decide +kernel
theorem dX7_findPlaces_247 : decode cX7_findPlaces 247 = .ok (.aload_n 0, 1) := by decide +kernel
theorem dX7_findPlaces_248 : decode cX7_findPlaces 248 = .ok (.getfield 42, 3) := by decide +kernel
theorem dX7_findPlaces_251 : decode cX7_findPlaces 251 = .ok (.iload 4, 2) := by decide +kernel
theorem dX7_findPlaces_253 : decode cX7_findPlaces 253 = .ok (.iaload, 1) := by decide +kernel
theorem dX7_findPlaces_254 : decode cX7_findPlaces 254 = .ok (.isub, 1) := by decide +kernel
theorem dX7_findPlaces_255 : decode cX7_findPlaces 255 = .ok (.iastore, 1) := by decide +kernel
theorem dX7_findPlaces_256 : decode cX7_findPlaces 256 = .ok (.aload_n 0, 1) := by decide +kernel
theorem dX7_findPlaces_257 : decode cX7_findPlaces 257 = .ok (.getfield 9, 3) := by decide +kernel
theorem dX7_findPlaces_260 : decode cX7_findPlaces 260 = .ok (.iconst 5, 1) := by decide +kernel
theorem dX7_findPlaces_261 : decode cX7_findPlaces 261 = .ok (.iaload, 1) := by decide +kernel
theorem dX7_findPlaces_262 : decode cX7_findPlaces 262 = .ok (.iconst 2, 1) := by decide +kernel
theorem dX7_findPlaces_263 : decode cX7_findPlaces 263 = .ok (.if_icmp .ne 30, 3) := by decide +kernel
theorem dX7_findPlaces_266 : decode cX7_findPlaces 266 = .ok (.aload_n 0, 1) := by decide +kernel
theorem dX7_findPlaces_267 : decode cX7_findPlaces 267 = .ok (.getfield 54, 3) := by decide +kernel
theorem dX7_findPlaces_270 : decode cX7_findPlaces 270 = .ok (.iload 4, 2) := by decide +kernel
theorem dX7_findPlaces_272 : decode cX7_findPlaces 272 = .ok (.aload_n 0, 1) := by decide +kernel
theorem dX7_findPlaces_273 : decode cX7_findPlaces 273 = .ok (.getfield 216, 3) := by decide +kernel
theorem dX7_findPlaces_276 : decode cX7_findPlaces 276 = .ok (.aload_n 0, 1) := by decide +kernel
theorem dX7_findPlaces_277 : decode cX7_findPlaces 277 = .ok (.getfield 54, 3) := by decide +kernel
theorem dX7_findPlaces_280 : decode cX7_findPlaces 280 = .ok (.iload 4, 2) := by decide +kernel
theorem dX7_findPlaces_282 : decode cX7_findPlaces 282 = .ok (.iaload, 1) := by decide +kernel
theorem dX7_findPlaces_283 : decode cX7_findPlaces 283 = .ok (.isub, 1) := by decide +kernel
theorem dX7_findPlaces_284 : decode cX7_findPlaces 284 = .ok (.aload_n 0, 1) := by decide +kernel
theorem dX7_findPlaces_285 : decode cX7_findPlaces 285 = .ok (.getfield 48, 3) := by decide +kernel
theorem dX7_findPlaces_288 : decode cX7_findPlaces 288 = .ok (.iload 4, 2) := by decide +kernel
theorem dX7_findPlaces_290 : decode cX7_findPlaces 290 = .ok (.iaload, 1) := by decide +kernel
theorem dX7_findPlaces_291 : decode cX7_findPlaces 291 = .ok (.isub, 1) := by decide +kernel
theorem dX7_findPlaces_292 : decode cX7_findPlaces 292 = .ok (.iastore, 1) := by decide +kernel
theorem dX7_findPlaces_293 : decode cX7_findPlaces 293 = .ok (.iinc 3 1, 3) := by decide +kernel
theorem dX7_findPlaces_296 : decode cX7_findPlaces 296 = .ok (.goto (-292), 3) := by decide +kernel
theorem dX7_findPlaces_299 : decode cX7_findPlaces 299 = .ok (.return_, 1) := by decide +kernel
theorem dX7_findLayout_0 : decode cX7_findLayout 0 = .ok (.aload_n 0, 1) := by decide +kernel
theorem dX7_findLayout_1 : decode cX7_findLayout 1 = .ok (.invokevirtual 226, 3) := by decide +kernel
theorem dX7_findLayout_4 : decode cX7_findLayout 4 = .ok (.aload_n 0, 1) := by decide +kernel
theorem dX7_findLayout_5 : decode cX7_findLayout 5 = .ok (.aload_n 0, 1) := by decide +kernel
theorem dX7_findLayout_6 : decode cX7_findLayout 6 = .ok (.getfield 9, 3) := by decide +kernel
theorem dX7_findLayout_9 : decode cX7_findLayout 9 = .ok (.iconst 0, 1) := by decide +kernel
theorem dX7_findLayout_10 : decode cX7_findLayout 10 = .ok (.iaload, 1) := by decide +kernel
theorem dX7_findLayout_11 : decode cX7_findLayout 11 = .ok (.aload_n 0, 1) := by decide +kernel
theorem dX7_findLayout_12 : decode cX7_findLayout 12 = .ok (.getfield 9, 3) := by decide +kernel
theorem dX7_findLayout_15 : decode cX7_findLayout 15 = .ok (.iconst 5, 1) := by decide +kernel
theorem dX7_findLayout_16 : decode cX7_findLayout 16 = .ok (.iaload, 1) := by decide +kernel
theorem dX7_findLayout_17 : decode cX7_findLayout 17 = .ok (.ifCond .le 7, 3) := by decide +kernel
theorem dX7_findLayout_20 : decode cX7_findLayout 20 = .ok (.iconst 1, 1) := by decide +kernel
theorem dX7_findLayout_21 : decode cX7_findLayout 21 = .ok (.goto 4, 3) := by decide +kernel
theorem dX7_findLayout_24 : decode cX7_findLayout 24 = .ok (.iconst 0, 1) := by decide +kernel
theorem dX7_findLayout_25 : decode cX7_findLayout 25 = .ok (.invokevirtual 229, 3) := by decide +kernel
theorem dX7_findLayout_28 : decode cX7_findLayout 28 = .ok (.iconst 0, 1) := by decide +kernel
theorem dX7_findLayout_29 : decode cX7_findLayout 29 = .ok (.istore_n 1, 1) := by decide +kernel
theorem dX7_findLayout_30 : decode cX7_findLayout 30 = .ok (.iload_n 1, 1) := by decide +kernel
theorem dX7_findLayout_31 : decode cX7_findLayout 31 = .ok (.aload_n 0, 1) := by decide +kernel
theorem dX7_findLayout_32 : decode cX7_findLayout 32 = .ok (.getfield 178, 3) := by decide +kernel
theorem dX7_findLayout_35 : decode cX7_findLayout 35 = .ok (.if_icmp .ge 14, 3) := by decide +kernel
theorem dX7_findLayout_38 : decode cX7_findLayout 38 = .ok (.aload_n 0, 1) := by decide +kernel
theorem dX7_findLayout_39 : decode cX7_findLayout 39 = .ok (.iload_n 1, 1) := by decide +kernel
theorem dX7_findLayout_40 : decode cX7_findLayout 40 = .ok (.invokevirtual 232, 3) := by decide +kernel
theorem dX7_findLayout_43 : decode cX7_findLayout 43 = .ok (.iinc 1 1, 3) := by decide +kernel
theorem dX7_findLayout_46 : decode cX7_findLayout 46 = .ok (.goto (-16), 3) := by decide +kernel
theorem dX7_findLayout_49 : decode cX7_findLayout 49 = .ok (.aload_n 0, 1) := by decide +kernel
theorem dX7_findLayout_50 : decode cX7_findLayout 50 = .ok (.invokevirtual 235, 3) := by decide +kernel
theorem dX7_findLayout_53 : decode cX7_findLayout 53 = .ok (.aload_n 0, 1) := by decide +kernel
theorem dX7_findLayout_54 : decode cX7_findLayout 54 = .ok (.invokevirtual 212, 3) := by decide +kernel
theorem dX7_findLayout_57 : decode cX7_findLayout 57 = .ok (.istore_n 1, 1) := by decide +kernel
theorem dX7_findLayout_58 : decode cX7_findLayout 58 = .ok (.iconst 0, 1) := by decide +kernel
theorem dX7_findLayout_59 : decode cX7_findLayout 59 = .ok (.istore_n 2, 1) := by decide +kernel
theorem dX7_findLayout_60 : decode cX7_findLayout 60 = .ok (.iconst 0, 1) := by decide +kernel
theorem dX7_findLayout_61 : decode cX7_findLayout 61 = .ok (.istore_n 3, 1) := by decide +kernel
theorem dX7_findLayout_62 : decode cX7_findLayout 62 = .ok (.iload_n 3, 1) := by decide +kernel
theorem dX7_findLayout_63 : decode cX7_findLayout 63 = .ok (.aload_n 0, 1) := by decide +kernel
theorem dX7_findLayout_64 : decode cX7_findLayout 64 = .ok (.getfield 178, 3) := by decide +kernel
theorem dX7_findLayout_67 : decode cX7_findLayout 67 = .ok (.if_icmp .ge 65, 3) := by decide +kernel
theorem dX7_findLayout_70 : decode cX7_findLayout 70 = .ok (.aload_n 0, 1) := by decide +kernel
theorem dX7_findLayout_71 : decode cX7_findLayout 71 = .ok (.getfield 85, 3) := by decide +kernel
theorem dX7_findLayout_74 : decode cX7_findLayout 74 = .ok (.iload_n 3, 1) := by decide +kernel
theorem dX7_findLayout_75 : decode cX7_findLayout 75 = .ok (.iload_n 2, 1) := by decide +kernel
theorem dX7_findLayout_76 : decode cX7_findLayout 76 = .ok (.aload_n 0, 1) := by decide +kernel
theorem dX7_findLayout_77 : decode cX7_findLayout 77 = .ok (.getfield 9, 3) := by decide +kernel
theorem dX7_findLayout_80 : decode cX7_findLayout 80 = .ok (.bipush 8, 2) := by decide +kernel
theorem dX7_findLayout_82 : decode cX7_findLayout 82 = .ok (.iaload, 1) := by decide +kernel
theorem dX7_findLayout_83 : decode cX7_findLayout 83 = .ok (.ifCond .ne 7, 3) := by decide +kernel
theorem dX7_findLayout_86 : decode cX7_findLayout 86 = .ok (.iconst 0, 1) := by decide +kernel
theorem dX7_findLayout_87 : decode cX7_findLayout 87 = .ok (.goto 12, 3) := by decide +kernel
theorem dX7_findLayout_90 : decode cX7_findLayout 90 = .ok (.aload_n 0, 1) := by decide +kernel
theorem dX7_findLayout_91 : decode cX7_findLayout 91 = .ok (.getfield 9, 3) := by decide +kernel
theorem dX7_findLayout_94 : decode cX7_findLayout 94 = .ok (.bipush 8, 2) := by decide +kernel
theorem dX7_findLayout_96 : decode cX7_findLayout 96 = .ok (.iaload, 1) := by decide +kernel
theorem dX7_findLayout_97 : decode cX7_findLayout 97 = .ok (.iconst 1, 1) := by decide +kernel
theorem dX7_findLayout_98 : decode cX7_findLayout 98 = .ok (.isub, 1) := by decide +kernel
theorem dX7_findLayout_99 : decode cX7_findLayout 99 = .ok (.iload_n 1, 1) := by decide +kernel
theorem dX7_findLayout_100 : decode cX7_findLayout 100 = .ok (.iload_n 3, 1) := by decide +kernel
theorem dX7_findLayout_101 : decode cX7_findLayout 101 = .ok (.aload_n 0, 1) := by decide +kernel
theorem dX7_findLayout_102 : decode cX7_findLayout 102 = .ok (.getfield 178, 3) := by decide +kernel
theorem dX7_findLayout_105 : decode cX7_findLayout 105 = .ok (.invokestatic 222, 3) := by decide +kernel
theorem dX7_findLayout_108 : decode cX7_findLayout 108 = .ok (.iadd, 1) := by decide +kernel
theorem dX7_findLayout_109 : decode cX7_findLayout 109 = .ok (.iastore, 1) := by decide +kernel
theorem dX7_findLayout_110 : decode cX7_findLayout 110 = .ok (.iload_n 2, 1) := by decide +kernel
theorem dX7_findLayout_111 : decode cX7_findLayout 111 = .ok (.aload_n 0, 1) := by decide +kernel
theorem dX7_findLayout_112 : decode cX7_findLayout 112 = .ok (.getfield 76, 3) := by decide +kernel
theorem dX7_findLayout_115 : decode cX7_findLayout 115 = .ok (.iload_n 3, 1) := by decide +kernel
theorem dX7_findLayout_116 : decode cX7_findLayout 116 = .ok (.iaload, 1) := by decide +kernel
theorem dX7_findLayout_117 : decode cX7_findLayout 117 = .ok (.aload_n 0, 1) := by decide +kernel
theorem dX7_findLayout_118 : decode cX7_findLayout 118 = .ok (.getfield 9, 3) := by decide +kernel
theorem dX7_findLayout_121 : decode cX7_findLayout 121 = .ok (.iconst 3, 1) := by decide +kernel
theorem dX7_findLayout_122 : decode cX7_findLayout 122 = .ok (.iaload, 1) := by decide +kernel
theorem dX7_findLayout_123 : decode cX7_findLayout 123 = .ok (.iadd, 1) := by decide +kernel
theorem dX7_findLayout_124 : decode cX7_findLayout 124 = .ok (.iadd, 1) := by decide +kernel
theorem dX7_findLayout_125 : decode cX7_findLayout 125 = .ok (.istore_n 2, 1) := by decide +kernel
theorem dX7_findLayout_126 : decode cX7_findLayout 126 = .ok (.iinc 3 1, 3) := by decide +kernel
theorem dX7_findLayout_129 : decode cX7_findLayout 129 = .ok (.goto (-67), 3) := by decide +kernel
theorem dX7_findLayout_132 : decode cX7_findLayout 132 = .ok (.iconst 0, 1) := by decide +kernel
theorem dX7_findLayout_133 : decode cX7_findLayout 133 = .ok (.istore_n 3, 1) := by decide +kernel
theorem dX7_findLayout_134 : decode cX7_findLayout 134 = .ok (.iload_n 3, 1) := by decide +kernel
theorem dX7_findLayout_135 : decode cX7_findLayout 135 = .ok (.aload_n 0, 1) := by decide +kernel
theorem dX7_findLayout_136 : decode cX7_findLayout 136 = .ok (.getfield 178, 3) := by decide +kernel
theorem dX7_findLayout_139 : decode cX7_findLayout 139 = .ok (.if_icmp .ge 14, 3) := by decide +kernel
theorem dX7_findLayout_142 : decode cX7_findLayout 142 = .ok (.aload_n 0, 1) := by decide +kernel
theorem dX7_findLayout_143 : decode cX7_findLayout 143 = .ok (.iload_n 3, 1) := by decide +kernel
theorem dX7_findLayout_144 : decode cX7_findLayout 144 = .ok (.invokevirtual 238, 3) := by decide +kernel
theorem dX7_findLayout_147 : decode cX7_findLayout 147 = .ok (.iinc 3 1, 3) := by decide +kernel
theorem dX7_findLayout_150 : decode cX7_findLayout 150 = .ok (.goto (-16), 3) := by decide +kernel
theorem dX7_findLayout_153 : decode cX7_findLayout 153 = .ok (.return_, 1) := by decide +kernel
theorem dX7_lines_0 : decode cX7_lines 0 = .ok (.aload_n 0, 1) := by decide +kernel
theorem dX7_lines_1 : decode cX7_lines 1 = .ok (.iconst 0, 1) := by decide +kernel
theorem dX7_lines_2 : decode cX7_lines 2 = .ok (.putfield 98, 3) := by decide +kernel
theorem dX7_lines_5 : decode cX7_lines 5 = .ok (.aload_n 0, 1) := by decide +kernel
theorem dX7_lines_6 : decode cX7_lines 6 = .ok (.invokevirtual 241, 3) := by decide +kernel
theorem dX7_lines_9 : decode cX7_lines 9 = .ok (.aload_n 0, 1) := by decide +kernel
theorem dX7_lines_10 : decode cX7_lines 10 = .ok (.getfield 178, 3) := by decide +kernel
theorem dX7_lines_13 : decode cX7_lines 13 = .ok (.ireturn, 1) := by decide +kernel
theorem dX7_lineOf_0 : decode cX7_lineOf 0 = .ok (.aload_n 0, 1) := by decide +kernel
theorem dX7_lineOf_1 : decode cX7_lineOf 1 = .ok (.iload_n 1, 1) := by decide +kernel
theorem dX7_lineOf_2 : decode cX7_lineOf 2 = .ok (.invokevirtual 133, 3) := by decide +kernel
theorem dX7_lineOf_5 : decode cX7_lineOf 5 = .ok (.ifCond .ne 9, 3) := by decide +kernel
theorem dX7_lineOf_8 : decode cX7_lineOf 8 = .ok (.aload_n 0, 1) := by decide +kernel
theorem dX7_lineOf_9 : decode cX7_lineOf 9 = .ok (.iconst 1, 1) := by decide +kernel
theorem dX7_lineOf_10 : decode cX7_lineOf 10 = .ok (.invokevirtual 111, 3) := by decide +kernel
theorem dX7_lineOf_13 : decode cX7_lineOf 13 = .ok (.ireturn, 1) := by decide +kernel
theorem dX7_lineOf_14 : decode cX7_lineOf 14 = .ok (.aload_n 0, 1) := by decide +kernel
theorem dX7_lineOf_15 : decode cX7_lineOf 15 = .ok (.iconst 0, 1) := by decide +kernel
theorem dX7_lineOf_16 : decode cX7_lineOf 16 = .ok (.putfield 98, 3) := by decide +kernel
theorem dX7_lineOf_19 : decode cX7_lineOf 19 = .ok (.aload_n 0, 1) := by decide +kernel
theorem dX7_lineOf_20 : decode cX7_lineOf 20 = .ok (.invokevirtual 241, 3) := by decide +kernel
theorem dX7_lineOf_23 : decode cX7_lineOf 23 = .ok (.aload_n 0, 1) := by decide +kernel
theorem dX7_lineOf_24 : decode cX7_lineOf 24 = .ok (.getfield 45, 3) := by decide +kernel
theorem dX7_lineOf_27 : decode cX7_lineOf 27 = .ok (.aload_n 0, 1) := by decide +kernel
theorem dX7_lineOf_28 : decode cX7_lineOf 28 = .ok (.getfield 57, 3) := by decide +kernel
theorem dX7_lineOf_31 : decode cX7_lineOf 31 = .ok (.iload_n 1, 1) := by decide +kernel
theorem dX7_lineOf_32 : decode cX7_lineOf 32 = .ok (.iaload, 1) := by decide +kernel
theorem dX7_lineOf_33 : decode cX7_lineOf 33 = .ok (.iaload, 1) := by decide +kernel
theorem dX7_lineOf_34 : decode cX7_lineOf 34 = .ok (.ireturn, 1) := by decide +kernel
theorem dX7_itemAt_0 : decode cX7_itemAt 0 = .ok (.aload_n 0, 1) := by decide +kernel
theorem dX7_itemAt_1 : decode cX7_itemAt 1 = .ok (.iload_n 1, 1) := by decide +kernel
theorem dX7_itemAt_2 : decode cX7_itemAt 2 = .ok (.invokevirtual 133, 3) := by decide +kernel
theorem dX7_itemAt_5 : decode cX7_itemAt 5 = .ok (.ifCond .ne 9, 3) := by decide +kernel
theorem dX7_itemAt_8 : decode cX7_itemAt 8 = .ok (.aload_n 0, 1) := by decide +kernel
theorem dX7_itemAt_9 : decode cX7_itemAt 9 = .ok (.iconst 1, 1) := by decide +kernel
theorem dX7_itemAt_10 : decode cX7_itemAt 10 = .ok (.invokevirtual 111, 3) := by decide +kernel
theorem dX7_itemAt_13 : decode cX7_itemAt 13 = .ok (.ireturn, 1) := by decide +kernel
theorem dX7_itemAt_14 : decode cX7_itemAt 14 = .ok (.aload_n 0, 1) := by decide +kernel
theorem dX7_itemAt_15 : decode cX7_itemAt 15 = .ok (.iconst 0, 1) := by decide +kernel
theorem dX7_itemAt_16 : decode cX7_itemAt 16 = .ok (.putfield 98, 3) := by decide +kernel
theorem dX7_itemAt_19 : decode cX7_itemAt 19 = .ok (.aload_n 0, 1) := by decide +kernel
theorem dX7_itemAt_20 : decode cX7_itemAt 20 = .ok (.invokevirtual 226, 3) := by decide +kernel
theorem dX7_itemAt_23 : decode cX7_itemAt 23 = .ok (.aload_n 0, 1) := by decide +kernel
theorem dX7_itemAt_24 : decode cX7_itemAt 24 = .ok (.getfield 39, 3) := by decide +kernel
theorem dX7_itemAt_27 : decode cX7_itemAt 27 = .ok (.iload_n 1, 1) := by decide +kernel
theorem dX7_itemAt_28 : decode cX7_itemAt 28 = .ok (.iaload, 1) := by decide +kernel
theorem dX7_itemAt_29 : decode cX7_itemAt 29 = .ok (.ireturn, 1) := by decide +kernel
theorem dX7_hypotheticalSize_0 : decode cX7_hypotheticalSize 0 = .ok (.aload_n 0, 1) := by decide +kernel
theorem dX7_hypotheticalSize_1 : decode cX7_hypotheticalSize 1 = .ok (.iload_n 1, 1) := by decide +kernel
theorem dX7_hypotheticalSize_2 : decode cX7_hypotheticalSize 2 = .ok (.invokevirtual 133, 3) := by decide +kernel
theorem dX7_hypotheticalSize_5 : decode cX7_hypotheticalSize 5 = .ok (.ifCond .ne 9, 3) := by decide +kernel
theorem dX7_hypotheticalSize_8 : decode cX7_hypotheticalSize 8 = .ok (.aload_n 0, 1) := by decide +kernel
theorem dX7_hypotheticalSize_9 : decode cX7_hypotheticalSize 9 = .ok (.iconst 1, 1) := by decide +kernel
theorem dX7_hypotheticalSize_10 : decode cX7_hypotheticalSize 10 = .ok (.invokevirtual 111, 3) := by decide +kernel
theorem dX7_hypotheticalSize_13 : decode cX7_hypotheticalSize 13 = .ok (.ireturn, 1) := by decide +kernel
theorem dX7_hypotheticalSize_14 : decode cX7_hypotheticalSize 14 = .ok (.aload_n 0, 1) := by decide +kernel
theorem dX7_hypotheticalSize_15 : decode cX7_hypotheticalSize 15 = .ok (.iconst 0, 1) := by decide +kernel
theorem dX7_hypotheticalSize_16 : decode cX7_hypotheticalSize 16 = .ok (.putfield 98, 3) := by decide +kernel
theorem dX7_hypotheticalSize_19 : decode cX7_hypotheticalSize 19 = .ok (.aload_n 0, 1) := by decide +kernel
theorem dX7_hypotheticalSize_20 : decode cX7_hypotheticalSize 20 = .ok (.iload_n 1, 1) := by decide +kernel
theorem dX7_hypotheticalSize_21 : decode cX7_hypotheticalSize 21 = .ok (.invokevirtual 181, 3) := by decide +kernel
theorem dX7_hypotheticalSize_24 : decode cX7_hypotheticalSize 24 = .ok (.ireturn, 1) := by decide +kernel
theorem dX7_coordinate_0 : decode cX7_coordinate 0 = .ok (.aload_n 0, 1) := by decide +kernel
theorem dX7_coordinate_1 : decode cX7_coordinate 1 = .ok (.getfield 9, 3) := by decide +kernel
theorem dX7_coordinate_4 : decode cX7_coordinate 4 = .ok (.iconst 4, 1) := by decide +kernel
theorem dX7_coordinate_5 : decode cX7_coordinate 5 = .ok (.iaload, 1) := by decide +kernel
theorem dX7_coordinate_6 : decode cX7_coordinate 6 = .ok (.iconst 2, 1) := by decide +kernel
theorem dX7_coordinate_7 : decode cX7_coordinate 7 = .ok (.if_icmp .ge 7, 3) := by decide +kernel
theorem dX7_coordinate_10 : decode cX7_coordinate 10 = .ok (.iconst 1, 1) := by decide +kernel
theorem dX7_coordinate_11 : decode cX7_coordinate 11 = .ok (.goto 4, 3) := by decide +kernel
theorem dX7_coordinate_14 : decode cX7_coordinate 14 = .ok (.iconst 0, 1) := by decide +kernel
theorem dX7_coordinate_15 : decode cX7_coordinate 15 = .ok (.iload_n 2, 1) := by decide +kernel
theorem dX7_coordinate_16 : decode cX7_coordinate 16 = .ok (.iconst 2, 1) := by decide +kernel
theorem dX7_coordinate_17 : decode cX7_coordinate 17 = .ok (.irem, 1) := by decide +kernel
theorem dX7_coordinate_18 : decode cX7_coordinate 18 = .ok (.ifCond .ne 7, 3) := by decide +kernel
theorem dX7_coordinate_21 : decode cX7_coordinate 21 = .ok (.iconst 1, 1) := by decide +kernel
theorem dX7_coordinate_22 : decode cX7_coordinate 22 = .ok (.goto 4, 3) := by decide +kernel
theorem dX7_coordinate_25 : decode cX7_coordinate 25 = .ok (.iconst 0, 1) := by decide +kernel
theorem dX7_coordinate_26 : decode cX7_coordinate 26 = .ok (.if_icmp .ne 7, 3) := by decide +kernel
theorem dX7_coordinate_29 : decode cX7_coordinate 29 = .ok (.iconst 1, 1) := by decide +kernel
theorem dX7_coordinate_30 : decode cX7_coordinate 30 = .ok (.goto 4, 3) := by decide +kernel
theorem dX7_coordinate_33 : decode cX7_coordinate 33 = .ok (.iconst 0, 1) := by decide +kernel
theorem dX7_coordinate_34 : decode cX7_coordinate 34 = .ok (.istore_n 3, 1) := by decide +kernel
theorem dX7_coordinate_35 : decode cX7_coordinate 35 = .ok (.iload_n 2, 1) := by decide +kernel
theorem dX7_coordinate_36 : decode cX7_coordinate 36 = .ok (.iconst 2, 1) := by decide +kernel
theorem dX7_coordinate_37 : decode cX7_coordinate 37 = .ok (.if_icmp .ge 23, 3) := by decide +kernel
theorem dX7_coordinate_40 : decode cX7_coordinate 40 = .ok (.iload_n 3, 1) := by decide +kernel
theorem dX7_coordinate_41 : decode cX7_coordinate 41 = .ok (.ifCond .eq 12, 3) := by decide +kernel
theorem dX7_coordinate_44 : decode cX7_coordinate 44 = .ok (.aload_n 0, 1) := by decide +kernel
theorem dX7_coordinate_45 : decode cX7_coordinate 45 = .ok (.getfield 51, 3) := by decide +kernel
theorem dX7_coordinate_48 : decode cX7_coordinate 48 = .ok (.iload_n 1, 1) := by decide +kernel
theorem dX7_coordinate_49 : decode cX7_coordinate 49 = .ok (.iaload, 1) := by decide +kernel
theorem dX7_coordinate_50 : decode cX7_coordinate 50 = .ok (.goto 9, 3) := by decide +kernel
theorem dX7_coordinate_53 : decode cX7_coordinate 53 = .ok (.aload_n 0, 1) := by decide +kernel
theorem dX7_coordinate_54 : decode cX7_coordinate 54 = .ok (.getfield 54, 3) := by decide +kernel
theorem dX7_coordinate_57 : decode cX7_coordinate 57 = .ok (.iload_n 1, 1) := by decide +kernel
theorem dX7_coordinate_58 : decode cX7_coordinate 58 = .ok (.iaload, 1) := by decide +kernel
theorem dX7_coordinate_59 : decode cX7_coordinate 59 = .ok (.ireturn, 1) := by decide +kernel
theorem dX7_coordinate_60 : decode cX7_coordinate 60 = .ok (.iload_n 3, 1) := by decide +kernel
theorem dX7_coordinate_61 : decode cX7_coordinate 61 = .ok (.ifCond .eq 12, 3) := by decide +kernel
theorem dX7_coordinate_64 : decode cX7_coordinate 64 = .ok (.aload_n 0, 1) := by decide +kernel
theorem dX7_coordinate_65 : decode cX7_coordinate 65 = .ok (.getfield 42, 3) := by decide +kernel
theorem dX7_coordinate_68 : decode cX7_coordinate 68 = .ok (.iload_n 1, 1) := by decide +kernel
theorem dX7_coordinate_69 : decode cX7_coordinate 69 = .ok (.iaload, 1) := by decide +kernel
theorem dX7_coordinate_70 : decode cX7_coordinate 70 = .ok (.goto 9, 3) := by decide +kernel
theorem dX7_coordinate_73 : decode cX7_coordinate 73 = .ok (.aload_n 0, 1) := by decide +kernel
theorem dX7_coordinate_74 : decode cX7_coordinate 74 = .ok (.getfield 48, 3) := by decide +kernel
theorem dX7_coordinate_77 : decode cX7_coordinate 77 = .ok (.iload_n 1, 1) := by decide +kernel
theorem dX7_coordinate_78 : decode cX7_coordinate 78 = .ok (.iaload, 1) := by decide +kernel
theorem dX7_coordinate_79 : decode cX7_coordinate 79 = .ok (.ireturn, 1) := by decide +kernel
theorem dX7_box_0 : decode cX7_box 0 = .ok (.aload_n 0, 1) := by decide +kernel
theorem dX7_box_1 : decode cX7_box 1 = .ok (.iload_n 1, 1) := by decide +kernel
theorem dX7_box_2 : decode cX7_box 2 = .ok (.invokevirtual 133, 3) := by decide +kernel
theorem dX7_box_5 : decode cX7_box 5 = .ok (.ifCond .eq 15, 3) := by decide +kernel
theorem dX7_box_8 : decode cX7_box 8 = .ok (.iload_n 2, 1) := by decide +kernel
theorem dX7_box_9 : decode cX7_box 9 = .ok (.i2l, 1) := by decide +kernel
theorem dX7_box_10 : decode cX7_box 10 = .ok (.lconst 0, 1) := by decide +kernel
theorem dX7_box_11 : decode cX7_box 11 = .ok (.ldc2_w 244, 3) := by decide +kernel
theorem dX7_box_14 : decode cX7_box 14 = .ok (.invokestatic 103, 3) := by decide +kernel
theorem dX7_box_17 : decode cX7_box 17 = .ok (.ifCond .ne 9, 3) := by decide +kernel
theorem dX7_box_20 : decode cX7_box 20 = .ok (.aload_n 0, 1) := by decide +kernel
theorem dX7_box_21 : decode cX7_box 21 = .ok (.iconst 1, 1) := by decide +kernel
theorem dX7_box_22 : decode cX7_box 22 = .ok (.invokevirtual 111, 3) := by decide +kernel
theorem dX7_box_25 : decode cX7_box 25 = .ok (.ireturn, 1) := by decide +kernel
theorem dX7_box_26 : decode cX7_box 26 = .ok (.aload_n 0, 1) := by decide +kernel
theorem dX7_box_27 : decode cX7_box 27 = .ok (.iconst 0, 1) := by decide +kernel
theorem dX7_box_28 : decode cX7_box 28 = .ok (.putfield 98, 3) := by decide +kernel
theorem dX7_box_31 : decode cX7_box 31 = .ok (.aload_n 0, 1) := by decide +kernel
theorem dX7_box_32 : decode cX7_box 32 = .ok (.invokevirtual 241, 3) := by decide +kernel
theorem dX7_box_35 : decode cX7_box 35 = .ok (.aload_n 0, 1) := by decide +kernel
theorem dX7_box_36 : decode cX7_box 36 = .ok (.aload_n 0, 1) := by decide +kernel
theorem dX7_box_37 : decode cX7_box 37 = .ok (.getfield 57, 3) := by decide +kernel
theorem dX7_box_40 : decode cX7_box 40 = .ok (.iload_n 1, 1) := by decide +kernel
theorem dX7_box_41 : decode cX7_box 41 = .ok (.iaload, 1) := by decide +kernel
theorem dX7_box_42 : decode cX7_box 42 = .ok (.iload_n 2, 1) := by decide +kernel
theorem dX7_box_43 : decode cX7_box 43 = .ok (.invokevirtual 246, 3) := by decide +kernel
theorem dX7_box_46 : decode cX7_box 46 = .ok (.ireturn, 1) := by decide +kernel
theorem dX7_isLine_0 : decode cX7_isLine 0 = .ok (.aload_n 0, 1) := by decide +kernel
theorem dX7_isLine_1 : decode cX7_isLine 1 = .ok (.invokevirtual 241, 3) := by decide +kernel
theorem dX7_isLine_4 : decode cX7_isLine 4 = .ok (.aload_n 0, 1) := by decide +kernel
theorem dX7_isLine_5 : decode cX7_isLine 5 = .ok (.iload_n 1, 1) := by decide +kernel
theorem dX7_isLine_6 : decode cX7_isLine 6 = .ok (.ifCond .lt 15, 3) := by decide +kernel
theorem dX7_isLine_9 : decode cX7_isLine 9 = .ok (.iload_n 1, 1) := by decide +kernel
theorem dX7_isLine_10 : decode cX7_isLine 10 = .ok (.aload_n 0, 1) := by decide +kernel
theorem dX7_isLine_11 : decode cX7_isLine 11 = .ok (.getfield 178, 3) := by decide +kernel
theorem dX7_isLine_14 : decode cX7_isLine 14 = .ok (.if_icmp .ge 7, 3) := by decide +kernel
theorem dX7_isLine_17 : decode cX7_isLine 17 = .ok (.iconst 0, 1) := by decide +kernel
theorem dX7_isLine_18 : decode cX7_isLine 18 = .ok (.goto 4, 3) := by decide +kernel
theorem dX7_isLine_21 : decode cX7_isLine 21 = .ok (.iconst 1, 1) := by decide +kernel
theorem dX7_isLine_22 : decode cX7_isLine 22 = .ok (.putfield 98, 3) := by decide +kernel
theorem dX7_isLine_25 : decode cX7_isLine 25 = .ok (.aload_n 0, 1) := by decide +kernel
theorem dX7_isLine_26 : decode cX7_isLine 26 = .ok (.getfield 98, 3) := by decide +kernel
theorem dX7_isLine_29 : decode cX7_isLine 29 = .ok (.ifCond .ne 7, 3) := by decide +kernel
theorem dX7_isLine_32 : decode cX7_isLine 32 = .ok (.iconst 1, 1) := by decide +kernel
theorem dX7_isLine_33 : decode cX7_isLine 33 = .ok (.goto 4, 3) := by decide +kernel
theorem dX7_isLine_36 : decode cX7_isLine 36 = .ok (.iconst 0, 1) := by decide +kernel
theorem dX7_isLine_37 : decode cX7_isLine 37 = .ok (.ireturn, 1) := by decide +kernel
theorem dX7_rounds_0 : decode cX7_rounds 0 = .ok (.aload_n 0, 1) := by decide +kernel
theorem dX7_rounds_1 : decode cX7_rounds 1 = .ok (.iload_n 1, 1) := by decide +kernel
theorem dX7_rounds_2 : decode cX7_rounds 2 = .ok (.invokevirtual 249, 3) := by decide +kernel
theorem dX7_rounds_5 : decode cX7_rounds 5 = .ok (.ifCond .eq 12, 3) := by decide +kernel
theorem dX7_rounds_8 : decode cX7_rounds 8 = .ok (.aload_n 0, 1) := by decide +kernel
theorem dX7_rounds_9 : decode cX7_rounds 9 = .ok (.getfield 70, 3) := by decide +kernel
theorem dX7_rounds_12 : decode cX7_rounds 12 = .ok (.iload_n 1, 1) := by decide +kernel
theorem dX7_rounds_13 : decode cX7_rounds 13 = .ok (.iaload, 1) := by decide +kernel
theorem dX7_rounds_14 : decode cX7_rounds 14 = .ok (.goto 4, 3) := by decide +kernel
theorem dX7_rounds_17 : decode cX7_rounds 17 = .ok (.iconst 0, 1) := by decide +kernel
theorem dX7_rounds_18 : decode cX7_rounds 18 = .ok (.ireturn, 1) := by decide +kernel
theorem dX7_freeSpace_0 : decode cX7_freeSpace 0 = .ok (.aload_n 0, 1) := by decide +kernel
theorem dX7_freeSpace_1 : decode cX7_freeSpace 1 = .ok (.iload_n 1, 1) := by decide +kernel
theorem dX7_freeSpace_2 : decode cX7_freeSpace 2 = .ok (.invokevirtual 249, 3) := by decide +kernel
theorem dX7_freeSpace_5 : decode cX7_freeSpace 5 = .ok (.ifCond .eq 12, 3) := by decide +kernel
theorem dX7_freeSpace_8 : decode cX7_freeSpace 8 = .ok (.aload_n 0, 1) := by decide +kernel
theorem dX7_freeSpace_9 : decode cX7_freeSpace 9 = .ok (.getfield 73, 3) := by decide +kernel
theorem dX7_freeSpace_12 : decode cX7_freeSpace 12 = .ok (.iload_n 1, 1) := by decide +kernel
theorem dX7_freeSpace_13 : decode cX7_freeSpace 13 = .ok (.iaload, 1) := by decide +kernel
theorem dX7_freeSpace_14 : decode cX7_freeSpace 14 = .ok (.goto 4, 3) := by decide +kernel
theorem dX7_freeSpace_17 : decode cX7_freeSpace 17 = .ok (.iconst 0, 1) := by decide +kernel
theorem dX7_freeSpace_18 : decode cX7_freeSpace 18 = .ok (.ireturn, 1) := by decide +kernel
theorem dX7_lineCross_0 : decode cX7_lineCross 0 = .ok (.aload_n 0, 1) := by decide +kernel
theorem dX7_lineCross_1 : decode cX7_lineCross 1 = .ok (.iload_n 1, 1) := by decide +kernel
theorem dX7_lineCross_2 : decode cX7_lineCross 2 = .ok (.invokevirtual 249, 3) := by decide +kernel
theorem dX7_lineCross_5 : decode cX7_lineCross 5 = .ok (.ifCond .eq 12, 3) := by decide +kernel
theorem dX7_lineCross_8 : decode cX7_lineCross 8 = .ok (.aload_n 0, 1) := by decide +kernel
theorem dX7_lineCross_9 : decode cX7_lineCross 9 = .ok (.getfield 76, 3) := by decide +kernel
theorem dX7_lineCross_12 : decode cX7_lineCross 12 = .ok (.iload_n 1, 1) := by decide +kernel
theorem dX7_lineCross_13 : decode cX7_lineCross 13 = .ok (.iaload, 1) := by decide +kernel
theorem dX7_lineCross_14 : decode cX7_lineCross 14 = .ok (.goto 4, 3) := by decide +kernel
theorem dX7_lineCross_17 : decode cX7_lineCross 17 = .ok (.iconst 0, 1) := by decide +kernel
theorem dX7_lineCross_18 : decode cX7_lineCross 18 = .ok (.ireturn, 1) := by decide +kernel
theorem dX7_lineAscent_0 : decode cX7_lineAscent 0 = .ok (.aload_n 0, 1) := by decide +kernel
theorem dX7_lineAscent_1 : decode cX7_lineAscent 1 = .ok (.iload_n 1, 1) := by decide +kernel
theorem dX7_lineAscent_2 : decode cX7_lineAscent 2 = .ok (.invokevirtual 249, 3) := by decide +kernel
theorem dX7_lineAscent_5 : decode cX7_lineAscent 5 = .ok (.ifCond .eq 12, 3) := by decide +kernel
theorem dX7_lineAscent_8 : decode cX7_lineAscent 8 = .ok (.aload_n 0, 1) := by decide +kernel
theorem dX7_lineAscent_9 : decode cX7_lineAscent 9 = .ok (.getfield 79, 3) := by decide +kernel
theorem dX7_lineAscent_12 : decode cX7_lineAscent 12 = .ok (.iload_n 1, 1) := by decide +kernel
theorem dX7_lineAscent_13 : decode cX7_lineAscent 13 = .ok (.iaload, 1) := by decide +kernel
theorem dX7_lineAscent_14 : decode cX7_lineAscent 14 = .ok (.goto 4, 3) := by decide +kernel
theorem dX7_lineAscent_17 : decode cX7_lineAscent 17 = .ok (.iconst 0, 1) := by decide +kernel
theorem dX7_lineAscent_18 : decode cX7_lineAscent 18 = .ok (.ireturn, 1) := by decide +kernel
theorem dX7_crossExtent_0 : decode cX7_crossExtent 0 = .ok (.aload_n 0, 1) := by decide +kernel
theorem dX7_crossExtent_1 : decode cX7_crossExtent 1 = .ok (.iconst 0, 1) := by decide +kernel
theorem dX7_crossExtent_2 : decode cX7_crossExtent 2 = .ok (.putfield 98, 3) := by decide +kernel
theorem dX7_crossExtent_5 : decode cX7_crossExtent 5 = .ok (.aload_n 0, 1) := by decide +kernel
theorem dX7_crossExtent_6 : decode cX7_crossExtent 6 = .ok (.invokevirtual 241, 3) := by decide +kernel
theorem dX7_crossExtent_9 : decode cX7_crossExtent 9 = .ok (.aload_n 0, 1) := by decide +kernel
theorem dX7_crossExtent_10 : decode cX7_crossExtent 10 = .ok (.getfield 216, 3) := by decide +kernel
theorem dX7_crossExtent_13 : decode cX7_crossExtent 13 = .ok (.ireturn, 1) := by decide +kernel
theorem dX7_overflows_0 : decode cX7_overflows 0 = .ok (.aload_n 0, 1) := by decide +kernel
theorem dX7_overflows_1 : decode cX7_overflows 1 = .ok (.aload_n 0, 1) := by decide +kernel
theorem dX7_overflows_2 : decode cX7_overflows 2 = .ok (.iload_n 1, 1) := by decide +kernel
theorem dX7_overflows_3 : decode cX7_overflows 3 = .ok (.invokevirtual 133, 3) := by decide +kernel
theorem dX7_overflows_6 : decode cX7_overflows 6 = .ok (.ifCond .eq 7, 3) := by decide +kernel
theorem dX7_overflows_9 : decode cX7_overflows 9 = .ok (.iconst 0, 1) := by decide +kernel
theorem dX7_overflows_10 : decode cX7_overflows 10 = .ok (.goto 4, 3) := by decide +kernel
theorem dX7_overflows_13 : decode cX7_overflows 13 = .ok (.iconst 1, 1) := by decide +kernel
theorem dX7_overflows_14 : decode cX7_overflows 14 = .ok (.putfield 98, 3) := by decide +kernel
theorem dX7_overflows_17 : decode cX7_overflows 17 = .ok (.aload_n 0, 1) := by decide +kernel
theorem dX7_overflows_18 : decode cX7_overflows 18 = .ok (.getfield 98, 3) := by decide +kernel
theorem dX7_overflows_21 : decode cX7_overflows 21 = .ok (.ifCond .le 5, 3) := by decide +kernel
theorem dX7_overflows_24 : decode cX7_overflows 24 = .ok (.iconst 0, 1) := by decide +kernel
theorem dX7_overflows_25 : decode cX7_overflows 25 = .ok (.ireturn, 1) := by decide +kernel
theorem dX7_overflows_26 : decode cX7_overflows 26 = .ok (.aload_n 0, 1) := by decide +kernel
theorem dX7_overflows_27 : decode cX7_overflows 27 = .ok (.invokevirtual 241, 3) := by decide +kernel
theorem dX7_overflows_30 : decode cX7_overflows 30 = .ok (.aload_n 0, 1) := by decide +kernel
theorem dX7_overflows_31 : decode cX7_overflows 31 = .ok (.getfield 57, 3) := by decide +kernel
theorem dX7_overflows_34 : decode cX7_overflows 34 = .ok (.iload_n 1, 1) := by decide +kernel
theorem dX7_overflows_35 : decode cX7_overflows 35 = .ok (.iaload, 1) := by decide +kernel
theorem dX7_overflows_36 : decode cX7_overflows 36 = .ok (.istore_n 2, 1) := by decide +kernel
theorem dX7_overflows_37 : decode cX7_overflows 37 = .ok (.aload_n 0, 1) := by decide +kernel
theorem dX7_overflows_38 : decode cX7_overflows 38 = .ok (.getfield 51, 3) := by decide +kernel
theorem dX7_overflows_41 : decode cX7_overflows 41 = .ok (.iload_n 2, 1) := by decide +kernel
theorem dX7_overflows_42 : decode cX7_overflows 42 = .ok (.iaload, 1) := by decide +kernel
theorem dX7_overflows_43 : decode cX7_overflows 43 = .ok (.ifCond .lt 54, 3) := by decide +kernel
theorem dX7_overflows_46 : decode cX7_overflows 46 = .ok (.aload_n 0, 1) := by decide +kernel
theorem dX7_overflows_47 : decode cX7_overflows 47 = .ok (.getfield 51, 3) := by decide +kernel
theorem dX7_overflows_50 : decode cX7_overflows 50 = .ok (.iload_n 2, 1) := by decide +kernel
theorem dX7_overflows_51 : decode cX7_overflows 51 = .ok (.iaload, 1) := by decide +kernel
theorem dX7_overflows_52 : decode cX7_overflows 52 = .ok (.aload_n 0, 1) := by decide +kernel
theorem dX7_overflows_53 : decode cX7_overflows 53 = .ok (.getfield 42, 3) := by decide +kernel
theorem dX7_overflows_56 : decode cX7_overflows 56 = .ok (.iload_n 2, 1) := by decide +kernel
theorem dX7_overflows_57 : decode cX7_overflows 57 = .ok (.iaload, 1) := by decide +kernel
theorem dX7_overflows_58 : decode cX7_overflows 58 = .ok (.iadd, 1) := by decide +kernel
theorem dX7_overflows_59 : decode cX7_overflows 59 = .ok (.aload_n 0, 1) := by decide +kernel
theorem dX7_overflows_60 : decode cX7_overflows 60 = .ok (.getfield 9, 3) := by decide +kernel
theorem dX7_overflows_63 : decode cX7_overflows 63 = .ok (.iconst 0, 1) := by decide +kernel
theorem dX7_overflows_64 : decode cX7_overflows 64 = .ok (.iaload, 1) := by decide +kernel
theorem dX7_overflows_65 : decode cX7_overflows 65 = .ok (.if_icmp .gt 32, 3) := by decide +kernel
theorem dX7_overflows_68 : decode cX7_overflows 68 = .ok (.aload_n 0, 1) := by decide +kernel
theorem dX7_overflows_69 : decode cX7_overflows 69 = .ok (.getfield 54, 3) := by decide +kernel
theorem dX7_overflows_72 : decode cX7_overflows 72 = .ok (.iload_n 2, 1) := by decide +kernel
theorem dX7_overflows_73 : decode cX7_overflows 73 = .ok (.iaload, 1) := by decide +kernel
theorem dX7_overflows_74 : decode cX7_overflows 74 = .ok (.ifCond .lt 23, 3) := by decide +kernel
theorem dX7_overflows_77 : decode cX7_overflows 77 = .ok (.aload_n 0, 1) := by decide +kernel
theorem dX7_overflows_78 : decode cX7_overflows 78 = .ok (.getfield 54, 3) := by decide +kernel
theorem dX7_overflows_81 : decode cX7_overflows 81 = .ok (.iload_n 2, 1) := by decide +kernel
theorem dX7_overflows_82 : decode cX7_overflows 82 = .ok (.iaload, 1) := by decide +kernel
theorem dX7_overflows_83 : decode cX7_overflows 83 = .ok (.aload_n 0, 1) := by decide +kernel
theorem dX7_overflows_84 : decode cX7_overflows 84 = .ok (.getfield 48, 3) := by decide +kernel
theorem dX7_overflows_87 : decode cX7_overflows 87 = .ok (.iload_n 2, 1) := by decide +kernel
theorem dX7_overflows_88 : decode cX7_overflows 88 = .ok (.iaload, 1) := by decide +kernel
theorem dX7_overflows_89 : decode cX7_overflows 89 = .ok (.iadd, 1) := by decide +kernel
theorem dX7_overflows_90 : decode cX7_overflows 90 = .ok (.aload_n 0, 1) := by decide +kernel
theorem dX7_overflows_91 : decode cX7_overflows 91 = .ok (.getfield 216, 3) := by decide +kernel
theorem dX7_overflows_94 : decode cX7_overflows 94 = .ok (.if_icmp .le 7, 3) := by decide +kernel
theorem dX7_overflows_97 : decode cX7_overflows 97 = .ok (.iconst 1, 1) := by decide +kernel
theorem dX7_overflows_98 : decode cX7_overflows 98 = .ok (.goto 4, 3) := by decide +kernel
theorem dX7_overflows_101 : decode cX7_overflows 101 = .ok (.iconst 0, 1) := by decide +kernel
theorem dX7_overflows_102 : decode cX7_overflows 102 = .ok (.ireturn, 1) := by decide +kernel
theorem dX7_itemUnder_0 : decode cX7_itemUnder 0 = .ok (.aload_n 0, 1) := by decide +kernel
theorem dX7_itemUnder_1 : decode cX7_itemUnder 1 = .ok (.iconst 0, 1) := by decide +kernel
theorem dX7_itemUnder_2 : decode cX7_itemUnder 2 = .ok (.putfield 98, 3) := by decide +kernel
theorem dX7_itemUnder_5 : decode cX7_itemUnder 5 = .ok (.aload_n 0, 1) := by decide +kernel
theorem dX7_itemUnder_6 : decode cX7_itemUnder 6 = .ok (.invokevirtual 241, 3) := by decide +kernel
theorem dX7_itemUnder_9 : decode cX7_itemUnder 9 = .ok (.aload_n 0, 1) := by decide +kernel
theorem dX7_itemUnder_10 : decode cX7_itemUnder 10 = .ok (.getfield 124, 3) := by decide +kernel
theorem dX7_itemUnder_13 : decode cX7_itemUnder 13 = .ok (.iconst 1, 1) := by decide +kernel
theorem dX7_itemUnder_14 : decode cX7_itemUnder 14 = .ok (.isub, 1) := by decide +kernel
theorem dX7_itemUnder_15 : decode cX7_itemUnder 15 = .ok (.istore_n 3, 1) := by decide +kernel
theorem dX7_itemUnder_16 : decode cX7_itemUnder 16 = .ok (.iload_n 3, 1) := by decide +kernel
theorem dX7_itemUnder_17 : decode cX7_itemUnder 17 = .ok (.ifCond .lt 78, 3) := by decide +kernel
theorem dX7_itemUnder_20 : decode cX7_itemUnder 20 = .ok (.aload_n 0, 1) := by decide +kernel
theorem dX7_itemUnder_21 : decode cX7_itemUnder 21 = .ok (.iload_n 3, 1) := by decide +kernel
theorem dX7_itemUnder_22 : decode cX7_itemUnder 22 = .ok (.iconst 0, 1) := by decide +kernel
theorem dX7_itemUnder_23 : decode cX7_itemUnder 23 = .ok (.invokevirtual 246, 3) := by decide +kernel
theorem dX7_itemUnder_26 : decode cX7_itemUnder 26 = .ok (.istore 4, 2) := by decide +kernel
theorem dX7_itemUnder_28 : decode cX7_itemUnder 28 = .ok (.aload_n 0, 1) := by decide +kernel
theorem dX7_itemUnder_29 : decode cX7_itemUnder 29 = .ok (.iload_n 3, 1) := by decide +kernel
theorem dX7_itemUnder_30 : decode cX7_itemUnder 30 = .ok (.iconst 1, 1) := by decide +kernel
theorem dX7_itemUnder_31 : decode cX7_itemUnder 31 = .ok (.invokevirtual 246, 3) := by decide +kernel
theorem dX7_itemUnder_34 : decode cX7_itemUnder 34 = .ok (.istore 5, 2) := by decide +kernel
theorem dX7_itemUnder_36 : decode cX7_itemUnder 36 = .ok (.iload_n 1, 1) := by decide +kernel
theorem dX7_itemUnder_37 : decode cX7_itemUnder 37 = .ok (.i2l, 1) := by decide +kernel
theorem dX7_itemUnder_38 : decode cX7_itemUnder 38 = .ok (.iload 4, 2) := by decide +kernel
theorem dX7_itemUnder_40 : decode cX7_itemUnder 40 = .ok (.i2l, 1) := by decide +kernel
theorem dX7_itemUnder_41 : decode cX7_itemUnder 41 = .ok (.iload 4, 2) := by decide +kernel
theorem dX7_itemUnder_43 : decode cX7_itemUnder 43 = .ok (.aload_n 0, 1) := by decide +kernel
theorem dX7_itemUnder_44 : decode cX7_itemUnder 44 = .ok (.iload_n 3, 1) := by decide +kernel
theorem dX7_itemUnder_45 : decode cX7_itemUnder 45 = .ok (.iconst 2, 1) := by decide +kernel
theorem dX7_itemUnder_46 : decode cX7_itemUnder 46 = .ok (.invokevirtual 246, 3) := by decide +kernel
theorem dX7_itemUnder_49 : decode cX7_itemUnder 49 = .ok (.iadd, 1) := by decide +kernel
theorem dX7_itemUnder_50 : decode cX7_itemUnder 50 = .ok (.i2l, 1) := by decide +kernel
theorem dX7_itemUnder_51 : decode cX7_itemUnder 51 = .ok (.lconst 1, 1) := by decide +kernel
theorem dX7_itemUnder_52 : decode cX7_itemUnder 52 = .ok (.lsub, 1) := by decide +kernel
theorem dX7_itemUnder_53 : decode cX7_itemUnder 53 = .ok (.invokestatic 103, 3) := by decide +kernel
theorem dX7_itemUnder_56 : decode cX7_itemUnder 56 = .ok (.ifCond .eq 33, 3) := by decide +kernel
theorem dX7_itemUnder_59 : decode cX7_itemUnder 59 = .ok (.iload_n 2, 1) := by decide +kernel
theorem dX7_itemUnder_60 : decode cX7_itemUnder 60 = .ok (.i2l, 1) := by decide +kernel
theorem dX7_itemUnder_61 : decode cX7_itemUnder 61 = .ok (.iload 5, 2) := by decide +kernel
theorem dX7_itemUnder_63 : decode cX7_itemUnder 63 = .ok (.i2l, 1) := by decide +kernel
theorem dX7_itemUnder_64 : decode cX7_itemUnder 64 = .ok (.iload 5, 2) := by decide +kernel
theorem dX7_itemUnder_66 : decode cX7_itemUnder 66 = .ok (.aload_n 0, 1) := by decide +kernel
theorem dX7_itemUnder_67 : decode cX7_itemUnder 67 = .ok (.iload_n 3, 1) := by decide +kernel
theorem dX7_itemUnder_68 : decode cX7_itemUnder 68 = .ok (.iconst 3, 1) := by decide +kernel
theorem dX7_itemUnder_69 : decode cX7_itemUnder 69 = .ok (.invokevirtual 246, 3) := by decide +kernel
theorem dX7_itemUnder_72 : decode cX7_itemUnder 72 = .ok (.iadd, 1) := by decide +kernel
theorem dX7_itemUnder_73 : decode cX7_itemUnder 73 = .ok (.i2l, 1) := by decide +kernel
theorem dX7_itemUnder_74 : decode cX7_itemUnder 74 = .ok (.lconst 1, 1) := by decide +kernel
theorem dX7_itemUnder_75 : decode cX7_itemUnder 75 = .ok (.lsub, 1) := by decide +kernel
theorem dX7_itemUnder_76 : decode cX7_itemUnder 76 = .ok (.invokestatic 103, 3) := by decide +kernel
theorem dX7_itemUnder_79 : decode cX7_itemUnder 79 = .ok (.ifCond .eq 10, 3) := by decide +kernel
theorem dX7_itemUnder_82 : decode cX7_itemUnder 82 = .ok (.aload_n 0, 1) := by decide +kernel
theorem dX7_itemUnder_83 : decode cX7_itemUnder 83 = .ok (.getfield 39, 3) := by decide +kernel
theorem dX7_itemUnder_86 : decode cX7_itemUnder 86 = .ok (.iload_n 3, 1) := by decide +kernel
theorem dX7_itemUnder_87 : decode cX7_itemUnder 87 = .ok (.iaload, 1) := by decide +kernel
theorem dX7_itemUnder_88 : decode cX7_itemUnder 88 = .ok (.ireturn, 1) := by decide +kernel
theorem dX7_itemUnder_89 : decode cX7_itemUnder 89 = .ok (.iinc 3 (-1), 3) := by decide +kernel
theorem dX7_itemUnder_92 : decode cX7_itemUnder 92 = .ok (.goto (-76), 3) := by decide +kernel
theorem dX7_itemUnder_95 : decode cX7_itemUnder 95 = .ok (.aload_n 0, 1) := by decide +kernel
theorem dX7_itemUnder_96 : decode cX7_itemUnder 96 = .ok (.iconst 1, 1) := by decide +kernel
theorem dX7_itemUnder_97 : decode cX7_itemUnder 97 = .ok (.invokevirtual 111, 3) := by decide +kernel
theorem dX7_itemUnder_100 : decode cX7_itemUnder 100 = .ok (.ireturn, 1) := by decide +kernel
theorem dX7_meet_0 : decode cX7_meet 0 = .ok (.aload_n 0, 1) := by decide +kernel
theorem dX7_meet_1 : decode cX7_meet 1 = .ok (.iload_n 1, 1) := by decide +kernel
theorem dX7_meet_2 : decode cX7_meet 2 = .ok (.iload_n 3, 1) := by decide +kernel
theorem dX7_meet_3 : decode cX7_meet 3 = .ok (.invokevirtual 246, 3) := by decide +kernel
theorem dX7_meet_6 : decode cX7_meet 6 = .ok (.aload_n 0, 1) := by decide +kernel
theorem dX7_meet_7 : decode cX7_meet 7 = .ok (.iload_n 2, 1) := by decide +kernel
theorem dX7_meet_8 : decode cX7_meet 8 = .ok (.iload_n 3, 1) := by decide +kernel
theorem dX7_meet_9 : decode cX7_meet 9 = .ok (.invokevirtual 246, 3) := by decide +kernel
theorem dX7_meet_12 : decode cX7_meet 12 = .ok (.if_icmp .le 12, 3) := by decide +kernel
theorem dX7_meet_15 : decode cX7_meet 15 = .ok (.aload_n 0, 1) := by decide +kernel
theorem dX7_meet_16 : decode cX7_meet 16 = .ok (.iload_n 1, 1) := by decide +kernel
theorem dX7_meet_17 : decode cX7_meet 17 = .ok (.iload_n 3, 1) := by decide +kernel
theorem dX7_meet_18 : decode cX7_meet 18 = .ok (.invokevirtual 246, 3) := by decide +kernel
theorem dX7_meet_21 : decode cX7_meet 21 = .ok (.goto 9, 3) := by decide +kernel
theorem dX7_meet_24 : decode cX7_meet 24 = .ok (.aload_n 0, 1) := by decide +kernel
theorem dX7_meet_25 : decode cX7_meet 25 = .ok (.iload_n 2, 1) := by decide +kernel
theorem dX7_meet_26 : decode cX7_meet 26 = .ok (.iload_n 3, 1) := by decide +kernel
theorem dX7_meet_27 : decode cX7_meet 27 = .ok (.invokevirtual 246, 3) := by decide +kernel
theorem dX7_meet_30 : decode cX7_meet 30 = .ok (.istore 4, 2) := by decide +kernel
theorem dX7_meet_32 : decode cX7_meet 32 = .ok (.aload_n 0, 1) := by decide +kernel
theorem dX7_meet_33 : decode cX7_meet 33 = .ok (.iload_n 1, 1) := by decide +kernel
theorem dX7_meet_34 : decode cX7_meet 34 = .ok (.iload_n 3, 1) := by decide +kernel
theorem dX7_meet_35 : decode cX7_meet 35 = .ok (.invokevirtual 246, 3) := by decide +kernel
theorem dX7_meet_38 : decode cX7_meet 38 = .ok (.aload_n 0, 1) := by decide +kernel
theorem dX7_meet_39 : decode cX7_meet 39 = .ok (.iload_n 1, 1) := by decide +kernel
theorem dX7_meet_40 : decode cX7_meet 40 = .ok (.iconst 2, 1) := by decide +kernel
theorem dX7_meet_41 : decode cX7_meet 41 = .ok (.iload_n 3, 1) := by decide +kernel
theorem dX7_meet_42 : decode cX7_meet 42 = .ok (.iadd, 1) := by decide +kernel
theorem dX7_meet_43 : decode cX7_meet 43 = .ok (.invokevirtual 246, 3) := by decide +kernel
theorem dX7_meet_46 : decode cX7_meet 46 = .ok (.iadd, 1) := by decide +kernel
theorem dX7_meet_47 : decode cX7_meet 47 = .ok (.istore 5, 2) := by decide +kernel
theorem dX7_meet_49 : decode cX7_meet 49 = .ok (.aload_n 0, 1) := by decide +kernel
theorem dX7_meet_50 : decode cX7_meet 50 = .ok (.iload_n 2, 1) := by decide +kernel
theorem dX7_meet_51 : decode cX7_meet 51 = .ok (.iload_n 3, 1) := by decide +kernel
theorem dX7_meet_52 : decode cX7_meet 52 = .ok (.invokevirtual 246, 3) := by decide +kernel
theorem dX7_meet_55 : decode cX7_meet 55 = .ok (.aload_n 0, 1) := by decide +kernel
theorem dX7_meet_56 : decode cX7_meet 56 = .ok (.iload_n 2, 1) := by decide +kernel
theorem dX7_meet_57 : decode cX7_meet 57 = .ok (.iconst 2, 1) := by decide +kernel
theorem dX7_meet_58 : decode cX7_meet 58 = .ok (.iload_n 3, 1) := by decide +kernel
theorem dX7_meet_59 : decode cX7_meet 59 = .ok (.iadd, 1) := by decide +kernel
theorem dX7_meet_60 : decode cX7_meet 60 = .ok (.invokevirtual 246, 3) := by decide +kernel
theorem dX7_meet_63 : decode cX7_meet 63 = .ok (.iadd, 1) := by decide +kernel
theorem dX7_meet_64 : decode cX7_meet 64 = .ok (.istore 6, 2) := by decide +kernel
theorem dX7_meet_66 : decode cX7_meet 66 = .ok (.iload 4, 2) := by decide +kernel
theorem dX7_meet_68 : decode cX7_meet 68 = .ok (.iload 5, 2) := by decide +kernel
theorem dX7_meet_70 : decode cX7_meet 70 = .ok (.if_icmp .ge 14, 3) := by decide +kernel
theorem dX7_meet_73 : decode cX7_meet 73 = .ok (.iload 4, 2) := by decide +kernel
theorem dX7_meet_75 : decode cX7_meet 75 = .ok (.iload 6, 2) := by decide +kernel
theorem dX7_meet_77 : decode cX7_meet 77 = .ok (.if_icmp .ge 7, 3) := by decide +kernel
theorem dX7_meet_80 : decode cX7_meet 80 = .ok (.iconst 1, 1) := by decide +kernel
theorem dX7_meet_81 : decode cX7_meet 81 = .ok (.goto 4, 3) := by decide +kernel
theorem dX7_meet_84 : decode cX7_meet 84 = .ok (.iconst 0, 1) := by decide +kernel
theorem dX7_meet_85 : decode cX7_meet 85 = .ok (.ireturn, 1) := by decide +kernel
theorem dX7_overlaps_0 : decode cX7_overlaps 0 = .ok (.aload_n 0, 1) := by decide +kernel
theorem dX7_overlaps_1 : decode cX7_overlaps 1 = .ok (.iconst 0, 1) := by decide +kernel
theorem dX7_overlaps_2 : decode cX7_overlaps 2 = .ok (.putfield 98, 3) := by decide +kernel
theorem dX7_overlaps_5 : decode cX7_overlaps 5 = .ok (.aload_n 0, 1) := by decide +kernel
theorem dX7_overlaps_6 : decode cX7_overlaps 6 = .ok (.invokevirtual 241, 3) := by decide +kernel
theorem dX7_overlaps_9 : decode cX7_overlaps 9 = .ok (.iconst 0, 1) := by decide +kernel
theorem dX7_overlaps_10 : decode cX7_overlaps 10 = .ok (.istore_n 1, 1) := by decide +kernel
theorem dX7_overlaps_11 : decode cX7_overlaps 11 = .ok (.iconst 0, 1) := by decide +kernel
theorem dX7_overlaps_12 : decode cX7_overlaps 12 = .ok (.istore_n 2, 1) := by decide +kernel
theorem dX7_overlaps_13 : decode cX7_overlaps 13 = .ok (.iload_n 2, 1) := by decide +kernel
theorem dX7_overlaps_14 : decode cX7_overlaps 14 = .ok (.aload_n 0, 1) := by decide +kernel
theorem dX7_overlaps_15 : decode cX7_overlaps 15 = .ok (.getfield 124, 3) := by decide +kernel
theorem dX7_overlaps_18 : decode cX7_overlaps 18 = .ok (.if_icmp .ge 50, 3) := by decide +kernel
theorem dX7_overlaps_21 : decode cX7_overlaps 21 = .ok (.iconst 0, 1) := by decide +kernel
theorem dX7_overlaps_22 : decode cX7_overlaps 22 = .ok (.istore_n 3, 1) := by decide +kernel
theorem dX7_overlaps_23 : decode cX7_overlaps 23 = .ok (.iload_n 3, 1) := by decide +kernel
theorem dX7_overlaps_24 : decode cX7_overlaps 24 = .ok (.iload_n 2, 1) := by decide +kernel
theorem dX7_overlaps_25 : decode cX7_overlaps 25 = .ok (.if_icmp .ge 37, 3) := by decide +kernel
theorem dX7_overlaps_28 : decode cX7_overlaps 28 = .ok (.iload_n 1, 1) := by decide +kernel
theorem dX7_overlaps_29 : decode cX7_overlaps 29 = .ok (.aload_n 0, 1) := by decide +kernel
theorem dX7_overlaps_30 : decode cX7_overlaps 30 = .ok (.iload_n 2, 1) := by decide +kernel
theorem dX7_overlaps_31 : decode cX7_overlaps 31 = .ok (.iload_n 3, 1) := by decide +kernel
theorem dX7_overlaps_32 : decode cX7_overlaps 32 = .ok (.iconst 0, 1) := by decide +kernel
theorem dX7_overlaps_33 : decode cX7_overlaps 33 = .ok (.invokevirtual 252, 3) := by decide +kernel
theorem dX7_overlaps_36 : decode cX7_overlaps 36 = .ok (.ifCond .eq 17, 3) := by decide +kernel
theorem dX7_overlaps_39 : decode cX7_overlaps 39 = .ok (.aload_n 0, 1) := by decide +kernel
theorem dX7_overlaps_40 : decode cX7_overlaps 40 = .ok (.iload_n 2, 1) := by decide +kernel
theorem dX7_overlaps_41 : decode cX7_overlaps 41 = .ok (.iload_n 3, 1) := by decide +kernel
theorem dX7_overlaps_42 : decode cX7_overlaps 42 = .ok (.iconst 1, 1) := by decide +kernel
theorem dX7_overlaps_43 : decode cX7_overlaps 43 = .ok (.invokevirtual 252, 3) := by decide +kernel
theorem dX7_overlaps_46 : decode cX7_overlaps 46 = .ok (.ifCond .eq 7, 3) := by decide +kernel
theorem dX7_overlaps_49 : decode cX7_overlaps 49 = .ok (.iconst 1, 1) := by decide +kernel
theorem dX7_overlaps_50 : decode cX7_overlaps 50 = .ok (.goto 4, 3) := by decide +kernel
theorem dX7_overlaps_53 : decode cX7_overlaps 53 = .ok (.iconst 0, 1) := by decide +kernel
theorem dX7_overlaps_54 : decode cX7_overlaps 54 = .ok (.iadd, 1) := by decide +kernel
theorem dX7_overlaps_55 : decode cX7_overlaps 55 = .ok (.istore_n 1, 1) := by decide +kernel
theorem dX7_overlaps_56 : decode cX7_overlaps 56 = .ok (.iinc 3 1, 3) := by decide +kernel
theorem dX7_overlaps_59 : decode cX7_overlaps 59 = .ok (.goto (-36), 3) := by decide +kernel
theorem dX7_overlaps_62 : decode cX7_overlaps 62 = .ok (.iinc 2 1, 3) := by decide +kernel
theorem dX7_overlaps_65 : decode cX7_overlaps 65 = .ok (.goto (-52), 3) := by decide +kernel
theorem dX7_overlaps_68 : decode cX7_overlaps 68 = .ok (.iload_n 1, 1) := by decide +kernel
theorem dX7_overlaps_69 : decode cX7_overlaps 69 = .ok (.ireturn, 1) := by decide +kernel
theorem dX7_narrowest_0 : decode cX7_narrowest 0 = .ok (.iload_n 1, 1) := by decide +kernel
theorem dX7_narrowest_1 : decode cX7_narrowest 1 = .ok (.i2l, 1) := by decide +kernel
theorem dX7_narrowest_2 : decode cX7_narrowest 2 = .ok (.lconst 1, 1) := by decide +kernel
theorem dX7_narrowest_3 : decode cX7_narrowest 3 = .ok (.ldc2_w 256, 3) := by decide +kernel
theorem dX7_narrowest_6 : decode cX7_narrowest 6 = .ok (.invokestatic 103, 3) := by decide +kernel
theorem dX7_narrowest_9 : decode cX7_narrowest 9 = .ok (.ifCond .ne 9, 3) := by decide +kernel
theorem dX7_narrowest_12 : decode cX7_narrowest 12 = .ok (.aload_n 0, 1) := by decide +kernel
theorem dX7_narrowest_13 : decode cX7_narrowest 13 = .ok (.iconst 1, 1) := by decide +kernel
theorem dX7_narrowest_14 : decode cX7_narrowest 14 = .ok (.invokevirtual 111, 3) := by decide +kernel
theorem dX7_narrowest_17 : decode cX7_narrowest 17 = .ok (.ireturn, 1) := by decide +kernel
theorem dX7_narrowest_18 : decode cX7_narrowest 18 = .ok (.aload_n 0, 1) := by decide +kernel
theorem dX7_narrowest_19 : decode cX7_narrowest 19 = .ok (.iconst 0, 1) := by decide +kernel
theorem dX7_narrowest_20 : decode cX7_narrowest 20 = .ok (.putfield 98, 3) := by decide +kernel
theorem dX7_narrowest_23 : decode cX7_narrowest 23 = .ok (.aload_n 0, 1) := by decide +kernel
theorem dX7_narrowest_24 : decode cX7_narrowest 24 = .ok (.invokevirtual 226, 3) := by decide +kernel
theorem dX7_narrowest_27 : decode cX7_narrowest 27 = .ok (.iconst 0, 1) := by decide +kernel
theorem dX7_narrowest_28 : decode cX7_narrowest 28 = .ok (.istore_n 2, 1) := by decide +kernel
theorem dX7_narrowest_29 : decode cX7_narrowest 29 = .ok (.iload_n 2, 1) := by decide +kernel
theorem dX7_narrowest_30 : decode cX7_narrowest 30 = .ok (.sipush 9999, 3) := by decide +kernel
theorem dX7_narrowest_33 : decode cX7_narrowest 33 = .ok (.if_icmp .gt 25, 3) := by decide +kernel
theorem dX7_narrowest_36 : decode cX7_narrowest 36 = .ok (.aload_n 0, 1) := by decide +kernel
theorem dX7_narrowest_37 : decode cX7_narrowest 37 = .ok (.iload_n 2, 1) := by decide +kernel
theorem dX7_narrowest_38 : decode cX7_narrowest 38 = .ok (.iconst 1, 1) := by decide +kernel
theorem dX7_narrowest_39 : decode cX7_narrowest 39 = .ok (.invokevirtual 229, 3) := by decide +kernel
theorem dX7_narrowest_42 : decode cX7_narrowest 42 = .ok (.aload_n 0, 1) := by decide +kernel
theorem dX7_narrowest_43 : decode cX7_narrowest 43 = .ok (.getfield 178, 3) := by decide +kernel
theorem dX7_narrowest_46 : decode cX7_narrowest 46 = .ok (.iload_n 1, 1) := by decide +kernel
theorem dX7_narrowest_47 : decode cX7_narrowest 47 = .ok (.if_icmp .gt 5, 3) := by decide +kernel
theorem dX7_narrowest_50 : decode cX7_narrowest 50 = .ok (.iload_n 2, 1) := by decide +kernel
theorem dX7_narrowest_51 : decode cX7_narrowest 51 = .ok (.ireturn, 1) := by decide +kernel
theorem dX7_narrowest_52 : decode cX7_narrowest 52 = .ok (.iinc 2 1, 3) := by decide +kernel
theorem dX7_narrowest_55 : decode cX7_narrowest 55 = .ok (.goto (-26), 3) := by decide +kernel
theorem dX7_narrowest_58 : decode cX7_narrowest 58 = .ok (.aload_n 0, 1) := by decide +kernel
theorem dX7_narrowest_59 : decode cX7_narrowest 59 = .ok (.iconst 2, 1) := by decide +kernel
theorem dX7_narrowest_60 : decode cX7_narrowest 60 = .ok (.invokevirtual 111, 3) := by decide +kernel
theorem dX7_narrowest_63 : decode cX7_narrowest 63 = .ok (.ireturn, 1) := by decide +kernel
theorem dX7_share_0 : decode cX7_share 0 = .ok (.iload_n 1, 1) := by decide +kernel
theorem dX7_share_1 : decode cX7_share 1 = .ok (.i2l, 1) := by decide +kernel
theorem dX7_share_2 : decode cX7_share 2 = .ok (.lconst 0, 1) := by decide +kernel
theorem dX7_share_3 : decode cX7_share 3 = .ok (.ldc2_w 258, 3) := by decide +kernel
theorem dX7_share_6 : decode cX7_share 6 = .ok (.invokestatic 103, 3) := by decide +kernel
theorem dX7_share_9 : decode cX7_share 9 = .ok (.ifCond .eq 20, 3) := by decide +kernel
theorem dX7_share_12 : decode cX7_share 12 = .ok (.iload_n 2, 1) := by decide +kernel
theorem dX7_share_13 : decode cX7_share 13 = .ok (.i2l, 1) := by decide +kernel
theorem dX7_share_14 : decode cX7_share 14 = .ok (.lconst 0, 1) := by decide +kernel
theorem dX7_share_15 : decode cX7_share 15 = .ok (.ldc2_w 244, 3) := by decide +kernel
theorem dX7_share_18 : decode cX7_share 18 = .ok (.invokestatic 103, 3) := by decide +kernel
theorem dX7_share_21 : decode cX7_share 21 = .ok (.ifCond .ne 14, 3) := by decide +kernel
theorem dX7_share_24 : decode cX7_share 24 = .ok (.iload_n 2, 1) := by decide +kernel
theorem dX7_share_25 : decode cX7_share 25 = .ok (.iconst 5, 1) := by decide +kernel
theorem dX7_share_26 : decode cX7_share 26 = .ok (.if_icmp .eq 9, 3) := by decide +kernel
theorem dX7_share_29 : decode cX7_share 29 = .ok (.aload_n 0, 1) := by decide +kernel
theorem dX7_share_30 : decode cX7_share 30 = .ok (.iconst 1, 1) := by decide +kernel
theorem dX7_share_31 : decode cX7_share 31 = .ok (.invokevirtual 111, 3) := by decide +kernel
theorem dX7_share_34 : decode cX7_share 34 = .ok (.ireturn, 1) := by decide +kernel
theorem dX7_share_35 : decode cX7_share 35 = .ok (.aload_n 0, 1) := by decide +kernel
theorem dX7_share_36 : decode cX7_share 36 = .ok (.iload_n 3, 1) := by decide +kernel
theorem dX7_share_37 : decode cX7_share 37 = .ok (.invokevirtual 133, 3) := by decide +kernel
theorem dX7_share_40 : decode cX7_share 40 = .ok (.ifCond .ne 9, 3) := by decide +kernel
theorem dX7_share_43 : decode cX7_share 43 = .ok (.aload_n 0, 1) := by decide +kernel
theorem dX7_share_44 : decode cX7_share 44 = .ok (.iconst 2, 1) := by decide +kernel
theorem dX7_share_45 : decode cX7_share 45 = .ok (.invokevirtual 111, 3) := by decide +kernel
theorem dX7_share_48 : decode cX7_share 48 = .ok (.ireturn, 1) := by decide +kernel
theorem dX7_share_49 : decode cX7_share 49 = .ok (.lconst 0, 1) := by decide +kernel
theorem dX7_share_50 : decode cX7_share 50 = .ok (.lstore 4, 2) := by decide +kernel
theorem dX7_share_52 : decode cX7_share 52 = .ok (.iconst 0, 1) := by decide +kernel
theorem dX7_share_53 : decode cX7_share 53 = .ok (.istore 6, 2) := by decide +kernel
theorem dX7_share_55 : decode cX7_share 55 = .ok (.iload 6, 2) := by decide +kernel
theorem dX7_share_57 : decode cX7_share 57 = .ok (.aload_n 0, 1) := by decide +kernel
theorem dX7_share_58 : decode cX7_share 58 = .ok (.getfield 124, 3) := by decide +kernel
theorem dX7_share_61 : decode cX7_share 61 = .ok (.if_icmp .ge 36, 3) := by decide +kernel
theorem dX7_share_64 : decode cX7_share 64 = .ok (.aload_n 0, 1) := by decide +kernel
theorem dX7_share_65 : decode cX7_share 65 = .ok (.getfield 29, 3) := by decide +kernel
theorem dX7_share_68 : decode cX7_share 68 = .ok (.iload 6, 2) := by decide +kernel
theorem dX7_share_70 : decode cX7_share 70 = .ok (.aload_n 0, 1) := by decide +kernel
theorem dX7_share_71 : decode cX7_share 71 = .ok (.iload 6, 2) := by decide +kernel
theorem dX7_share_73 : decode cX7_share 73 = .ok (.iload_n 2, 1) := by decide +kernel
theorem dX7_share_74 : decode cX7_share 74 = .ok (.invokevirtual 145, 3) := by decide +kernel
theorem dX7_share_77 : decode cX7_share 77 = .ok (.i2l, 1) := by decide +kernel
theorem dX7_share_78 : decode cX7_share 78 = .ok (.lastore, 1) := by decide +kernel
theorem dX7_share_79 : decode cX7_share 79 = .ok (.lload 4, 2) := by decide +kernel
theorem dX7_share_81 : decode cX7_share 81 = .ok (.aload_n 0, 1) := by decide +kernel
theorem dX7_share_82 : decode cX7_share 82 = .ok (.getfield 29, 3) := by decide +kernel
theorem dX7_share_85 : decode cX7_share 85 = .ok (.iload 6, 2) := by decide +kernel
theorem dX7_share_87 : decode cX7_share 87 = .ok (.laload, 1) := by decide +kernel
theorem dX7_share_88 : decode cX7_share 88 = .ok (.ladd, 1) := by decide +kernel
theorem dX7_share_89 : decode cX7_share 89 = .ok (.lstore 4, 2) := by decide +kernel
theorem dX7_share_91 : decode cX7_share 91 = .ok (.iinc 6 1, 3) := by decide +kernel
theorem dX7_share_94 : decode cX7_share 94 = .ok (.goto (-39), 3) := by decide +kernel
theorem dX7_share_97 : decode cX7_share 97 = .ok (.lload 4, 2) := by decide +kernel
theorem dX7_share_99 : decode cX7_share 99 = .ok (.lconst 0, 1) := by decide +kernel
theorem dX7_share_100 : decode cX7_share 100 = .ok (.lcmp, 1) := by decide +kernel
theorem dX7_share_101 : decode cX7_share 101 = .ok (.ifCond .ne 9, 3) := by decide +kernel
theorem dX7_share_104 : decode cX7_share 104 = .ok (.aload_n 0, 1) := by decide +kernel
theorem dX7_share_105 : decode cX7_share 105 = .ok (.iconst 3, 1) := by decide +kernel
theorem dX7_share_106 : decode cX7_share 106 = .ok (.invokevirtual 111, 3) := by decide +kernel
theorem dX7_share_109 : decode cX7_share 109 = .ok (.ireturn, 1) := by decide +kernel
theorem dX7_share_110 : decode cX7_share 110 = .ok (.aload_n 0, 1) := by decide +kernel
theorem dX7_share_111 : decode cX7_share 111 = .ok (.iconst 0, 1) := by decide +kernel
theorem dX7_share_112 : decode cX7_share 112 = .ok (.putfield 98, 3) := by decide +kernel
theorem dX7_share_115 : decode cX7_share 115 = .ok (.aload_n 0, 1) := by decide +kernel
theorem dX7_share_116 : decode cX7_share 116 = .ok (.iload_n 1, 1) := by decide +kernel
theorem dX7_share_117 : decode cX7_share 117 = .ok (.i2l, 1) := by decide +kernel
theorem dX7_share_118 : decode cX7_share 118 = .ok (.aload_n 0, 1) := by decide +kernel
theorem dX7_share_119 : decode cX7_share 119 = .ok (.getfield 124, 3) := by decide +kernel
theorem dX7_share_122 : decode cX7_share 122 = .ok (.invokevirtual 187, 3) := by decide +kernel
theorem dX7_share_125 : decode cX7_share 125 = .ok (.aload_n 0, 1) := by decide +kernel
theorem dX7_share_126 : decode cX7_share 126 = .ok (.getfield 33, 3) := by decide +kernel
theorem dX7_share_129 : decode cX7_share 129 = .ok (.iload_n 3, 1) := by decide +kernel
theorem dX7_share_130 : decode cX7_share 130 = .ok (.laload, 1) := by decide +kernel
theorem dX7_share_131 : decode cX7_share 131 = .ok (.l2i, 1) := by decide +kernel
theorem dX7_share_132 : decode cX7_share 132 = .ok (.ireturn, 1) := by decide +kernel
theorem dX7_save_0 : decode cX7_save 0 = .ok (.aload_n 0, 1) := by decide +kernel
theorem dX7_save_1 : decode cX7_save 1 = .ok (.iconst 0, 1) := by decide +kernel
theorem dX7_save_2 : decode cX7_save 2 = .ok (.putfield 98, 3) := by decide +kernel
theorem dX7_save_5 : decode cX7_save 5 = .ok (.aload_n 0, 1) := by decide +kernel
theorem dX7_save_6 : decode cX7_save 6 = .ok (.aload_n 0, 1) := by decide +kernel
theorem dX7_save_7 : decode cX7_save 7 = .ok (.getfield 124, 3) := by decide +kernel
theorem dX7_save_10 : decode cX7_save 10 = .ok (.putfield 94, 3) := by decide +kernel
theorem dX7_save_13 : decode cX7_save 13 = .ok (.iconst 0, 1) := by decide +kernel
theorem dX7_save_14 : decode cX7_save 14 = .ok (.istore_n 1, 1) := by decide +kernel
theorem dX7_save_15 : decode cX7_save 15 = .ok (.iload_n 1, 1) := by decide +kernel
theorem dX7_save_16 : decode cX7_save 16 = .ok (.bipush 9, 2) := by decide +kernel
theorem dX7_save_18 : decode cX7_save 18 = .ok (.if_icmp .ge 25, 3) := by decide +kernel
theorem dX7_save_21 : decode cX7_save 21 = .ok (.aload_n 0, 1) := by decide +kernel
theorem dX7_save_22 : decode cX7_save 22 = .ok (.getfield 91, 3) := by decide +kernel
theorem dX7_save_25 : decode cX7_save 25 = .ok (.sipush 200, 3) := by decide +kernel
theorem dX7_save_28 : decode cX7_save 28 = .ok (.iload_n 1, 1) := by decide +kernel
theorem dX7_save_29 : decode cX7_save 29 = .ok (.iadd, 1) := by decide +kernel
theorem dX7_save_30 : decode cX7_save 30 = .ok (.aload_n 0, 1) := by decide +kernel
theorem dX7_save_31 : decode cX7_save 31 = .ok (.getfield 9, 3) := by decide +kernel
theorem dX7_save_34 : decode cX7_save 34 = .ok (.iload_n 1, 1) := by decide +kernel
theorem dX7_save_35 : decode cX7_save 35 = .ok (.iaload, 1) := by decide +kernel
theorem dX7_save_36 : decode cX7_save 36 = .ok (.iastore, 1) := by decide +kernel
theorem dX7_save_37 : decode cX7_save 37 = .ok (.iinc 1 1, 3) := by decide +kernel
theorem dX7_save_40 : decode cX7_save 40 = .ok (.goto (-25), 3) := by decide +kernel
theorem dX7_save_43 : decode cX7_save 43 = .ok (.iconst 0, 1) := by decide +kernel
theorem dX7_save_44 : decode cX7_save 44 = .ok (.istore_n 1, 1) := by decide +kernel
theorem dX7_save_45 : decode cX7_save 45 = .ok (.iload_n 1, 1) := by decide +kernel
theorem dX7_save_46 : decode cX7_save 46 = .ok (.sipush 200, 3) := by decide +kernel
theorem dX7_save_49 : decode cX7_save 49 = .ok (.if_icmp .ge 21, 3) := by decide +kernel
theorem dX7_save_52 : decode cX7_save 52 = .ok (.aload_n 0, 1) := by decide +kernel
theorem dX7_save_53 : decode cX7_save 53 = .ok (.getfield 91, 3) := by decide +kernel
theorem dX7_save_56 : decode cX7_save 56 = .ok (.iload_n 1, 1) := by decide +kernel
theorem dX7_save_57 : decode cX7_save 57 = .ok (.aload_n 0, 1) := by decide +kernel
theorem dX7_save_58 : decode cX7_save 58 = .ok (.getfield 13, 3) := by decide +kernel
theorem dX7_save_61 : decode cX7_save 61 = .ok (.iload_n 1, 1) := by decide +kernel
theorem dX7_save_62 : decode cX7_save 62 = .ok (.iaload, 1) := by decide +kernel
theorem dX7_save_63 : decode cX7_save 63 = .ok (.iastore, 1) := by decide +kernel
theorem dX7_save_64 : decode cX7_save 64 = .ok (.iinc 1 1, 3) := by decide +kernel
theorem dX7_save_67 : decode cX7_save 67 = .ok (.goto (-22), 3) := by decide +kernel
theorem dX7_save_70 : decode cX7_save 70 = .ok (.aload_n 0, 1) := by decide +kernel
theorem dX7_save_71 : decode cX7_save 71 = .ok (.getfield 124, 3) := by decide +kernel
theorem dX7_save_74 : decode cX7_save 74 = .ok (.ireturn, 1) := by decide +kernel
theorem dX7_restore_0 : decode cX7_restore 0 = .ok (.aload_n 0, 1) := by decide +kernel
theorem dX7_restore_1 : decode cX7_restore 1 = .ok (.getfield 94, 3) := by decide +kernel
theorem dX7_restore_4 : decode cX7_restore 4 = .ok (.ifCond .ge 9, 3) := by decide +kernel
theorem dX7_restore_7 : decode cX7_restore 7 = .ok (.aload_n 0, 1) := by decide +kernel
theorem dX7_restore_8 : decode cX7_restore 8 = .ok (.iconst 1, 1) := by decide +kernel
theorem dX7_restore_9 : decode cX7_restore 9 = .ok (.invokevirtual 111, 3) := by decide +kernel
theorem dX7_restore_12 : decode cX7_restore 12 = .ok (.ireturn, 1) := by decide +kernel
theorem dX7_restore_13 : decode cX7_restore 13 = .ok (.aload_n 0, 1) := by decide +kernel
theorem dX7_restore_14 : decode cX7_restore 14 = .ok (.iconst 0, 1) := by decide +kernel
theorem dX7_restore_15 : decode cX7_restore 15 = .ok (.putfield 98, 3) := by decide +kernel
theorem dX7_restore_18 : decode cX7_restore 18 = .ok (.aload_n 0, 1) := by decide +kernel
theorem dX7_restore_19 : decode cX7_restore 19 = .ok (.aload_n 0, 1) := by decide +kernel
theorem dX7_restore_20 : decode cX7_restore 20 = .ok (.getfield 94, 3) := by decide +kernel
theorem dX7_restore_23 : decode cX7_restore 23 = .ok (.putfield 124, 3) := by decide +kernel
theorem dX7_restore_26 : decode cX7_restore 26 = .ok (.iconst 0, 1) := by decide +kernel
theorem dX7_restore_27 : decode cX7_restore 27 = .ok (.istore_n 1, 1) := by decide +kernel
theorem dX7_restore_28 : decode cX7_restore 28 = .ok (.iload_n 1, 1) := by decide +kernel
theorem dX7_restore_29 : decode cX7_restore 29 = .ok (.bipush 9, 2) := by decide +kernel
theorem dX7_restore_31 : decode cX7_restore 31 = .ok (.if_icmp .ge 25, 3) := by decide +kernel
theorem dX7_restore_34 : decode cX7_restore 34 = .ok (.aload_n 0, 1) := by decide +kernel
theorem dX7_restore_35 : decode cX7_restore 35 = .ok (.getfield 9, 3) := by decide +kernel
theorem dX7_restore_38 : decode cX7_restore 38 = .ok (.iload_n 1, 1) := by decide +kernel
theorem dX7_restore_39 : decode cX7_restore 39 = .ok (.aload_n 0, 1) := by decide +kernel
theorem dX7_restore_40 : decode cX7_restore 40 = .ok (.getfield 91, 3) := by decide +kernel
theorem dX7_restore_43 : decode cX7_restore 43 = .ok (.sipush 200, 3) := by decide +kernel
theorem dX7_restore_46 : decode cX7_restore 46 = .ok (.iload_n 1, 1) := by decide +kernel
theorem dX7_restore_47 : decode cX7_restore 47 = .ok (.iadd, 1) := by decide +kernel
theorem dX7_restore_48 : decode cX7_restore 48 = .ok (.iaload, 1) := by decide +kernel
theorem dX7_restore_49 : decode cX7_restore 49 = .ok (.iastore, 1) := by decide +kernel
theorem dX7_restore_50 : decode cX7_restore 50 = .ok (.iinc 1 1, 3) := by decide +kernel
theorem dX7_restore_53 : decode cX7_restore 53 = .ok (.goto (-25), 3) := by decide +kernel
theorem dX7_restore_56 : decode cX7_restore 56 = .ok (.iconst 0, 1) := by decide +kernel
theorem dX7_restore_57 : decode cX7_restore 57 = .ok (.istore_n 1, 1) := by decide +kernel
theorem dX7_restore_58 : decode cX7_restore 58 = .ok (.iload_n 1, 1) := by decide +kernel
theorem dX7_restore_59 : decode cX7_restore 59 = .ok (.sipush 200, 3) := by decide +kernel
theorem dX7_restore_62 : decode cX7_restore 62 = .ok (.if_icmp .ge 21, 3) := by decide +kernel
theorem dX7_restore_65 : decode cX7_restore 65 = .ok (.aload_n 0, 1) := by decide +kernel
theorem dX7_restore_66 : decode cX7_restore 66 = .ok (.getfield 13, 3) := by decide +kernel
theorem dX7_restore_69 : decode cX7_restore 69 = .ok (.iload_n 1, 1) := by decide +kernel
theorem dX7_restore_70 : decode cX7_restore 70 = .ok (.aload_n 0, 1) := by decide +kernel
theorem dX7_restore_71 : decode cX7_restore 71 = .ok (.getfield 91, 3) := by decide +kernel
theorem dX7_restore_74 : decode cX7_restore 74 = .ok (.iload_n 1, 1) := by decide +kernel
theorem dX7_restore_75 : decode cX7_restore 75 = .ok (.iaload, 1) := by decide +kernel
theorem dX7_restore_76 : decode cX7_restore 76 = .ok (.iastore, 1) := by decide +kernel
theorem dX7_restore_77 : decode cX7_restore 77 = .ok (.iinc 1 1, 3) := by decide +kernel
theorem dX7_restore_80 : decode cX7_restore 80 = .ok (.goto (-22), 3) := by decide +kernel
theorem dX7_restore_83 : decode cX7_restore 83 = .ok (.aload_n 0, 1) := by decide +kernel
theorem dX7_restore_84 : decode cX7_restore 84 = .ok (.getfield 124, 3) := by decide +kernel
theorem dX7_restore_87 : decode cX7_restore 87 = .ok (.ireturn, 1) := by decide +kernel
theorem dJx00060_init_a7421_0 : decode cJx00060_init_a7421 0 = .ok (.aload_n 0, 1) := by decide +kernel
theorem dJx00060_init_a7421_1 : decode cJx00060_init_a7421 1 = .ok (.aload_n 1, 1) := by decide +kernel
theorem dJx00060_init_a7421_2 : decode cJx00060_init_a7421 2 = .ok (.invokespecial 7, 3) := by decide +kernel
theorem dJx00060_init_a7421_5 : decode cJx00060_init_a7421 5 = .ok (.return_, 1) := by decide +kernel
theorem dJ9_floorDiv_7cf53_0 : decode cJ9_floorDiv_7cf53 0 = .ok (.iload_n 0, 1) := by decide +kernel
theorem dJ9_floorDiv_7cf53_1 : decode cJ9_floorDiv_7cf53 1 = .ok (.iload_n 1, 1) := by decide +kernel
theorem dJ9_floorDiv_7cf53_2 : decode cJ9_floorDiv_7cf53 2 = .ok (.idiv, 1) := by decide +kernel
theorem dJ9_floorDiv_7cf53_3 : decode cJ9_floorDiv_7cf53 3 = .ok (.istore_n 2, 1) := by decide +kernel
theorem dJ9_floorDiv_7cf53_4 : decode cJ9_floorDiv_7cf53 4 = .ok (.iload_n 0, 1) := by decide +kernel
theorem dJ9_floorDiv_7cf53_5 : decode cJ9_floorDiv_7cf53 5 = .ok (.iload_n 1, 1) := by decide +kernel
theorem dJ9_floorDiv_7cf53_6 : decode cJ9_floorDiv_7cf53 6 = .ok (.ixor, 1) := by decide +kernel
theorem dJ9_floorDiv_7cf53_7 : decode cJ9_floorDiv_7cf53 7 = .ok (.ifCond .ge 14, 3) := by decide +kernel
theorem dJ9_floorDiv_7cf53_10 : decode cJ9_floorDiv_7cf53 10 = .ok (.iload_n 2, 1) := by decide +kernel
theorem dJ9_floorDiv_7cf53_11 : decode cJ9_floorDiv_7cf53 11 = .ok (.iload_n 1, 1) := by decide +kernel
theorem dJ9_floorDiv_7cf53_12 : decode cJ9_floorDiv_7cf53 12 = .ok (.imul, 1) := by decide +kernel
theorem dJ9_floorDiv_7cf53_13 : decode cJ9_floorDiv_7cf53 13 = .ok (.iload_n 0, 1) := by decide +kernel
theorem dJ9_floorDiv_7cf53_14 : decode cJ9_floorDiv_7cf53 14 = .ok (.if_icmp .eq 7, 3) := by decide +kernel
theorem dJ9_floorDiv_7cf53_17 : decode cJ9_floorDiv_7cf53 17 = .ok (.iload_n 2, 1) := by decide +kernel
theorem dJ9_floorDiv_7cf53_18 : decode cJ9_floorDiv_7cf53 18 = .ok (.iconst 1, 1) := by decide +kernel
theorem dJ9_floorDiv_7cf53_19 : decode cJ9_floorDiv_7cf53 19 = .ok (.isub, 1) := by decide +kernel
theorem dJ9_floorDiv_7cf53_20 : decode cJ9_floorDiv_7cf53 20 = .ok (.ireturn, 1) := by decide +kernel
theorem dJ9_floorDiv_7cf53_21 : decode cJ9_floorDiv_7cf53 21 = .ok (.iload_n 2, 1) := by decide +kernel
theorem dJ9_floorDiv_7cf53_22 : decode cJ9_floorDiv_7cf53 22 = .ok (.ireturn, 1) := by decide +kernel
theorem dJ9_abs_0f7a4_0 : decode cJ9_abs_0f7a4 0 = .ok (.iload_n 0, 1) := by decide +kernel
theorem dJ9_abs_0f7a4_1 : decode cJ9_abs_0f7a4 1 = .ok (.ifCond .ge 8, 3) := by decide +kernel
theorem dJ9_abs_0f7a4_4 : decode cJ9_abs_0f7a4 4 = .ok (.iload_n 0, 1) := by decide +kernel
theorem dJ9_abs_0f7a4_5 : decode cJ9_abs_0f7a4 5 = .ok (.ineg, 1) := by decide +kernel
theorem dJ9_abs_0f7a4_6 : decode cJ9_abs_0f7a4 6 = .ok (.goto 4, 3) := by decide +kernel
theorem dJ9_abs_0f7a4_9 : decode cJ9_abs_0f7a4 9 = .ok (.iload_n 0, 1) := by decide +kernel
theorem dJ9_abs_0f7a4_10 : decode cJ9_abs_0f7a4 10 = .ok (.ireturn, 1) := by decide +kernel
theorem dJ9_max_7cf53_0 : decode cJ9_max_7cf53 0 = .ok (.iload_n 0, 1) := by decide +kernel
theorem dJ9_max_7cf53_1 : decode cJ9_max_7cf53 1 = .ok (.iload_n 1, 1) := by decide +kernel
theorem dJ9_max_7cf53_2 : decode cJ9_max_7cf53 2 = .ok (.if_icmp .lt 7, 3) := by decide +kernel
theorem dJ9_max_7cf53_5 : decode cJ9_max_7cf53 5 = .ok (.iload_n 0, 1) := by decide +kernel
theorem dJ9_max_7cf53_6 : decode cJ9_max_7cf53 6 = .ok (.goto 4, 3) := by decide +kernel
theorem dJ9_max_7cf53_9 : decode cJ9_max_7cf53 9 = .ok (.iload_n 1, 1) := by decide +kernel
theorem dJ9_max_7cf53_10 : decode cJ9_max_7cf53 10 = .ok (.ireturn, 1) := by decide +kernel
theorem dJ9_min_7cf53_0 : decode cJ9_min_7cf53 0 = .ok (.iload_n 0, 1) := by decide +kernel
theorem dJ9_min_7cf53_1 : decode cJ9_min_7cf53 1 = .ok (.iload_n 1, 1) := by decide +kernel
theorem dJ9_min_7cf53_2 : decode cJ9_min_7cf53 2 = .ok (.if_icmp .gt 7, 3) := by decide +kernel
theorem dJ9_min_7cf53_5 : decode cJ9_min_7cf53 5 = .ok (.iload_n 0, 1) := by decide +kernel
theorem dJ9_min_7cf53_6 : decode cJ9_min_7cf53 6 = .ok (.goto 4, 3) := by decide +kernel
theorem dJ9_min_7cf53_9 : decode cJ9_min_7cf53 9 = .ok (.iload_n 1, 1) := by decide +kernel
theorem dJ9_min_7cf53_10 : decode cJ9_min_7cf53 10 = .ok (.ireturn, 1) := by decide +kernel
theorem dL_setMainSize_0 : decode cL_setMainSize 0 = .ok (.aload_n 2, 1) := by decide +kernel
theorem dL_setMainSize_1 : decode cL_setMainSize 1 = .ok (.iconst 0, 1) := by decide +kernel
theorem dL_setMainSize_2 : decode cL_setMainSize 2 = .ok (.aload_n 0, 1) := by decide +kernel
theorem dL_setMainSize_3 : decode cL_setMainSize 3 = .ok (.iload_n 1, 1) := by decide +kernel
theorem dL_setMainSize_4 : decode cL_setMainSize 4 = .ok (.invokevirtual 7, 3) := by decide +kernel
theorem dL_setMainSize_7 : decode cL_setMainSize 7 = .ok (.i2l, 1) := by decide +kernel
theorem dL_setMainSize_8 : decode cL_setMainSize 8 = .ok (.lastore, 1) := by decide +kernel
theorem dL_setMainSize_9 : decode cL_setMainSize 9 = .ok (.goto 6, 3) := by decide +kernel
theorem dL_setMainSize_12 : decode cL_setMainSize 12 = .ok (.astore_n 3, 1) := by decide +kernel
theorem dL_setMainSize_13 : decode cL_setMainSize 13 = .ok (.iconst 1, 1) := by decide +kernel
theorem dL_setMainSize_14 : decode cL_setMainSize 14 = .ok (.ireturn, 1) := by decide +kernel
theorem dL_setMainSize_15 : decode cL_setMainSize 15 = .ok (.iconst 0, 1) := by decide +kernel
theorem dL_setMainSize_16 : decode cL_setMainSize 16 = .ok (.ireturn, 1) := by decide +kernel
theorem dL_setCrossSize_0 : decode cL_setCrossSize 0 = .ok (.aload_n 2, 1) := by decide +kernel
theorem dL_setCrossSize_1 : decode cL_setCrossSize 1 = .ok (.iconst 0, 1) := by decide +kernel
theorem dL_setCrossSize_2 : decode cL_setCrossSize 2 = .ok (.aload_n 0, 1) := by decide +kernel
theorem dL_setCrossSize_3 : decode cL_setCrossSize 3 = .ok (.iload_n 1, 1) := by decide +kernel
theorem dL_setCrossSize_4 : decode cL_setCrossSize 4 = .ok (.invokevirtual 15, 3) := by decide +kernel
theorem dL_setCrossSize_7 : decode cL_setCrossSize 7 = .ok (.i2l, 1) := by decide +kernel
theorem dL_setCrossSize_8 : decode cL_setCrossSize 8 = .ok (.lastore, 1) := by decide +kernel
theorem dL_setCrossSize_9 : decode cL_setCrossSize 9 = .ok (.goto 6, 3) := by decide +kernel
theorem dL_setCrossSize_12 : decode cL_setCrossSize 12 = .ok (.astore_n 3, 1) := by decide +kernel
theorem dL_setCrossSize_13 : decode cL_setCrossSize 13 = .ok (.iconst 1, 1) := by decide +kernel
theorem dL_setCrossSize_14 : decode cL_setCrossSize 14 = .ok (.ireturn, 1) := by decide +kernel
theorem dL_setCrossSize_15 : decode cL_setCrossSize 15 = .ok (.iconst 0, 1) := by decide +kernel
theorem dL_setCrossSize_16 : decode cL_setCrossSize 16 = .ok (.ireturn, 1) := by decide +kernel
theorem dL_setGaps_0 : decode cL_setGaps 0 = .ok (.aload_n 3, 1) := by decide +kernel
theorem dL_setGaps_1 : decode cL_setGaps 1 = .ok (.iconst 0, 1) := by decide +kernel
theorem dL_setGaps_2 : decode cL_setGaps 2 = .ok (.aload_n 0, 1) := by decide +kernel
theorem dL_setGaps_3 : decode cL_setGaps 3 = .ok (.iload_n 1, 1) := by decide +kernel
theorem dL_setGaps_4 : decode cL_setGaps 4 = .ok (.iload_n 2, 1) := by decide +kernel
theorem dL_setGaps_5 : decode cL_setGaps 5 = .ok (.invokevirtual 18, 3) := by decide +kernel
theorem dL_setGaps_8 : decode cL_setGaps 8 = .ok (.i2l, 1) := by decide +kernel
theorem dL_setGaps_9 : decode cL_setGaps 9 = .ok (.lastore, 1) := by decide +kernel
theorem dL_setGaps_10 : decode cL_setGaps 10 = .ok (.goto 7, 3) := by decide +kernel
theorem dL_setGaps_13 : decode cL_setGaps 13 = .ok (.astore 4, 2) := by decide +kernel
theorem dL_setGaps_15 : decode cL_setGaps 15 = .ok (.iconst 1, 1) := by decide +kernel
theorem dL_setGaps_16 : decode cL_setGaps 16 = .ok (.ireturn, 1) := by decide +kernel
theorem dL_setGaps_17 : decode cL_setGaps 17 = .ok (.iconst 0, 1) := by decide +kernel
theorem dL_setGaps_18 : decode cL_setGaps 18 = .ok (.ireturn, 1) := by decide +kernel
theorem dL_setSetting_0 : decode cL_setSetting 0 = .ok (.aload_n 3, 1) := by decide +kernel
theorem dL_setSetting_1 : decode cL_setSetting 1 = .ok (.iconst 0, 1) := by decide +kernel
theorem dL_setSetting_2 : decode cL_setSetting 2 = .ok (.aload_n 0, 1) := by decide +kernel
theorem dL_setSetting_3 : decode cL_setSetting 3 = .ok (.iload_n 1, 1) := by decide +kernel
theorem dL_setSetting_4 : decode cL_setSetting 4 = .ok (.iload_n 2, 1) := by decide +kernel
theorem dL_setSetting_5 : decode cL_setSetting 5 = .ok (.invokevirtual 22, 3) := by decide +kernel
theorem dL_setSetting_8 : decode cL_setSetting 8 = .ok (.i2l, 1) := by decide +kernel
theorem dL_setSetting_9 : decode cL_setSetting 9 = .ok (.lastore, 1) := by decide +kernel
theorem dL_setSetting_10 : decode cL_setSetting 10 = .ok (.goto 11, 3) := by decide +kernel
theorem dL_setSetting_13 : decode cL_setSetting 13 = .ok (.astore 4, 2) := by decide +kernel
theorem dL_setSetting_15 : decode cL_setSetting 15 = .ok (.iconst 1, 1) := by decide +kernel
theorem dL_setSetting_16 : decode cL_setSetting 16 = .ok (.ireturn, 1) := by decide +kernel
theorem dL_setSetting_17 : decode cL_setSetting 17 = .ok (.astore 4, 2) := by decide +kernel
theorem dL_setSetting_19 : decode cL_setSetting 19 = .ok (.iconst 2, 1) := by decide +kernel
theorem dL_setSetting_20 : decode cL_setSetting 20 = .ok (.ireturn, 1) := by decide +kernel
theorem dL_setSetting_21 : decode cL_setSetting 21 = .ok (.iconst 0, 1) := by decide +kernel
theorem dL_setSetting_22 : decode cL_setSetting 22 = .ok (.ireturn, 1) := by decide +kernel
theorem dL_addItem_0 : decode cL_addItem 0 = .ok (.aload_n 3, 1) := by decide +kernel
theorem dL_addItem_1 : decode cL_addItem 1 = .ok (.iconst 0, 1) := by decide +kernel
theorem dL_addItem_2 : decode cL_addItem 2 = .ok (.aload_n 0, 1) := by decide +kernel
theorem dL_addItem_3 : decode cL_addItem 3 = .ok (.iload_n 1, 1) := by decide +kernel
theorem dL_addItem_4 : decode cL_addItem 4 = .ok (.iload_n 2, 1) := by decide +kernel
theorem dL_addItem_5 : decode cL_addItem 5 = .ok (.invokevirtual 27, 3) := by decide +kernel
theorem dL_addItem_8 : decode cL_addItem 8 = .ok (.i2l, 1) := by decide +kernel
theorem dL_addItem_9 : decode cL_addItem 9 = .ok (.lastore, 1) := by decide +kernel
theorem dL_addItem_10 : decode cL_addItem 10 = .ok (.goto 11, 3) := by decide +kernel
theorem dL_addItem_13 : decode cL_addItem 13 = .ok (.astore 4, 2) := by decide +kernel
theorem dL_addItem_15 : decode cL_addItem 15 = .ok (.iconst 1, 1) := by decide +kernel
theorem dL_addItem_16 : decode cL_addItem 16 = .ok (.ireturn, 1) := by decide +kernel
theorem dL_addItem_17 : decode cL_addItem 17 = .ok (.astore 4, 2) := by decide +kernel
theorem dL_addItem_19 : decode cL_addItem 19 = .ok (.iconst 2, 1) := by decide +kernel
theorem dL_addItem_20 : decode cL_addItem 20 = .ok (.ireturn, 1) := by decide +kernel
theorem dL_addItem_21 : decode cL_addItem 21 = .ok (.iconst 0, 1) := by decide +kernel
theorem dL_addItem_22 : decode cL_addItem 22 = .ok (.ireturn, 1) := by decide +kernel
theorem dL_removeItem_0 : decode cL_removeItem 0 = .ok (.aload_n 2, 1) := by decide +kernel
theorem dL_removeItem_1 : decode cL_removeItem 1 = .ok (.iconst 0, 1) := by decide +kernel
theorem dL_removeItem_2 : decode cL_removeItem 2 = .ok (.aload_n 0, 1) := by decide +kernel
theorem dL_removeItem_3 : decode cL_removeItem 3 = .ok (.iload_n 1, 1) := by decide +kernel
theorem dL_removeItem_4 : decode cL_removeItem 4 = .ok (.invokevirtual 32, 3) := by decide +kernel
theorem dL_removeItem_7 : decode cL_removeItem 7 = .ok (.i2l, 1) := by decide +kernel
theorem dL_removeItem_8 : decode cL_removeItem 8 = .ok (.lastore, 1) := by decide +kernel
theorem dL_removeItem_9 : decode cL_removeItem 9 = .ok (.goto 6, 3) := by decide +kernel
theorem dL_removeItem_12 : decode cL_removeItem 12 = .ok (.astore_n 3, 1) := by decide +kernel
theorem dL_removeItem_13 : decode cL_removeItem 13 = .ok (.iconst 1, 1) := by decide +kernel
theorem dL_removeItem_14 : decode cL_removeItem 14 = .ok (.ireturn, 1) := by decide +kernel
theorem dL_removeItem_15 : decode cL_removeItem 15 = .ok (.iconst 0, 1) := by decide +kernel
theorem dL_removeItem_16 : decode cL_removeItem 16 = .ok (.ireturn, 1) := by decide +kernel
theorem dL_setProperty_0 : decode cL_setProperty 0 = .ok (.aload 4, 2) := by decide +kernel
theorem dL_setProperty_2 : decode cL_setProperty 2 = .ok (.iconst 0, 1) := by decide +kernel
theorem dL_setProperty_3 : decode cL_setProperty 3 = .ok (.aload_n 0, 1) := by decide +kernel
theorem dL_setProperty_4 : decode cL_setProperty 4 = .ok (.iload_n 1, 1) := by decide +kernel
theorem dL_setProperty_5 : decode cL_setProperty 5 = .ok (.iload_n 2, 1) := by decide +kernel
theorem dL_setProperty_6 : decode cL_setProperty 6 = .ok (.iload_n 3, 1) := by decide +kernel
theorem dL_setProperty_7 : decode cL_setProperty 7 = .ok (.invokevirtual 35, 3) := by decide +kernel
theorem dL_setProperty_10 : decode cL_setProperty 10 = .ok (.i2l, 1) := by decide +kernel
theorem dL_setProperty_11 : decode cL_setProperty 11 = .ok (.lastore, 1) := by decide +kernel
theorem dL_setProperty_12 : decode cL_setProperty 12 = .ok (.goto 11, 3) := by decide +kernel
theorem dL_setProperty_15 : decode cL_setProperty 15 = .ok (.astore 5, 2) := by decide +kernel
theorem dL_setProperty_17 : decode cL_setProperty 17 = .ok (.iconst 1, 1) := by decide +kernel
theorem dL_setProperty_18 : decode cL_setProperty 18 = .ok (.ireturn, 1) := by decide +kernel
theorem dL_setProperty_19 : decode cL_setProperty 19 = .ok (.astore 5, 2) := by decide +kernel
theorem dL_setProperty_21 : decode cL_setProperty 21 = .ok (.iconst 2, 1) := by decide +kernel
theorem dL_setProperty_22 : decode cL_setProperty 22 = .ok (.ireturn, 1) := by decide +kernel
theorem dL_setProperty_23 : decode cL_setProperty 23 = .ok (.iconst 0, 1) := by decide +kernel
theorem dL_setProperty_24 : decode cL_setProperty 24 = .ok (.ireturn, 1) := by decide +kernel
theorem dL_property_0 : decode cL_property 0 = .ok (.aload_n 3, 1) := by decide +kernel
theorem dL_property_1 : decode cL_property 1 = .ok (.iconst 0, 1) := by decide +kernel
theorem dL_property_2 : decode cL_property 2 = .ok (.aload_n 0, 1) := by decide +kernel
theorem dL_property_3 : decode cL_property 3 = .ok (.iload_n 1, 1) := by decide +kernel
theorem dL_property_4 : decode cL_property 4 = .ok (.iload_n 2, 1) := by decide +kernel
theorem dL_property_5 : decode cL_property 5 = .ok (.invokevirtual 39, 3) := by decide +kernel
theorem dL_property_8 : decode cL_property 8 = .ok (.i2l, 1) := by decide +kernel
theorem dL_property_9 : decode cL_property 9 = .ok (.lastore, 1) := by decide +kernel
theorem dL_property_10 : decode cL_property 10 = .ok (.goto 7, 3) := by decide +kernel
theorem dL_property_13 : decode cL_property 13 = .ok (.astore 4, 2) := by decide +kernel
theorem dL_property_15 : decode cL_property 15 = .ok (.iconst 1, 1) := by decide +kernel
theorem dL_property_16 : decode cL_property 16 = .ok (.ireturn, 1) := by decide +kernel
theorem dL_property_17 : decode cL_property 17 = .ok (.iconst 0, 1) := by decide +kernel
theorem dL_property_18 : decode cL_property 18 = .ok (.ireturn, 1) := by decide +kernel
theorem dL_feed_0 : decode cL_feed 0 = .ok (.aload_n 2, 1) := by decide +kernel
theorem dL_feed_1 : decode cL_feed 1 = .ok (.iconst 0, 1) := by decide +kernel
theorem dL_feed_2 : decode cL_feed 2 = .ok (.aload_n 0, 1) := by decide +kernel
theorem dL_feed_3 : decode cL_feed 3 = .ok (.iload_n 1, 1) := by decide +kernel
theorem dL_feed_4 : decode cL_feed 4 = .ok (.invokevirtual 42, 3) := by decide +kernel
theorem dL_feed_7 : decode cL_feed 7 = .ok (.i2l, 1) := by decide +kernel
theorem dL_feed_8 : decode cL_feed 8 = .ok (.lastore, 1) := by decide +kernel
theorem dL_feed_9 : decode cL_feed 9 = .ok (.goto 6, 3) := by decide +kernel
theorem dL_feed_12 : decode cL_feed 12 = .ok (.astore_n 3, 1) := by decide +kernel
theorem dL_feed_13 : decode cL_feed 13 = .ok (.iconst 1, 1) := by decide +kernel
theorem dL_feed_14 : decode cL_feed 14 = .ok (.ireturn, 1) := by decide +kernel
theorem dL_feed_15 : decode cL_feed 15 = .ok (.iconst 0, 1) := by decide +kernel
theorem dL_feed_16 : decode cL_feed 16 = .ok (.ireturn, 1) := by decide +kernel
theorem dL_readItem_0 : decode cL_readItem 0 = .ok (.aload_n 1, 1) := by decide +kernel
theorem dL_readItem_1 : decode cL_readItem 1 = .ok (.iconst 0, 1) := by decide +kernel
theorem dL_readItem_2 : decode cL_readItem 2 = .ok (.aload_n 0, 1) := by decide +kernel
theorem dL_readItem_3 : decode cL_readItem 3 = .ok (.invokevirtual 46, 3) := by decide +kernel
theorem dL_readItem_6 : decode cL_readItem 6 = .ok (.i2l, 1) := by decide +kernel
theorem dL_readItem_7 : decode cL_readItem 7 = .ok (.lastore, 1) := by decide +kernel
theorem dL_readItem_8 : decode cL_readItem 8 = .ok (.goto 6, 3) := by decide +kernel
theorem dL_readItem_11 : decode cL_readItem 11 = .ok (.astore_n 2, 1) := by decide +kernel
theorem dL_readItem_12 : decode cL_readItem 12 = .ok (.iconst 1, 1) := by decide +kernel
theorem dL_readItem_13 : decode cL_readItem 13 = .ok (.ireturn, 1) := by decide +kernel
theorem dL_readItem_14 : decode cL_readItem 14 = .ok (.iconst 0, 1) := by decide +kernel
theorem dL_readItem_15 : decode cL_readItem 15 = .ok (.ireturn, 1) := by decide +kernel
theorem dL_lineOf_0 : decode cL_lineOf 0 = .ok (.aload_n 2, 1) := by decide +kernel
theorem dL_lineOf_1 : decode cL_lineOf 1 = .ok (.iconst 0, 1) := by decide +kernel
theorem dL_lineOf_2 : decode cL_lineOf 2 = .ok (.aload_n 0, 1) := by decide +kernel
theorem dL_lineOf_3 : decode cL_lineOf 3 = .ok (.iload_n 1, 1) := by decide +kernel
theorem dL_lineOf_4 : decode cL_lineOf 4 = .ok (.invokevirtual 50, 3) := by decide +kernel
theorem dL_lineOf_7 : decode cL_lineOf 7 = .ok (.i2l, 1) := by decide +kernel
theorem dL_lineOf_8 : decode cL_lineOf 8 = .ok (.lastore, 1) := by decide +kernel
theorem dL_lineOf_9 : decode cL_lineOf 9 = .ok (.goto 6, 3) := by decide +kernel
theorem dL_lineOf_12 : decode cL_lineOf 12 = .ok (.astore_n 3, 1) := by decide +kernel
theorem dL_lineOf_13 : decode cL_lineOf 13 = .ok (.iconst 1, 1) := by decide +kernel
theorem dL_lineOf_14 : decode cL_lineOf 14 = .ok (.ireturn, 1) := by decide +kernel
theorem dL_lineOf_15 : decode cL_lineOf 15 = .ok (.iconst 0, 1) := by decide +kernel
theorem dL_lineOf_16 : decode cL_lineOf 16 = .ok (.ireturn, 1) := by decide +kernel
theorem dL_itemAt_0 : decode cL_itemAt 0 = .ok (.aload_n 2, 1) := by decide +kernel
theorem dL_itemAt_1 : decode cL_itemAt 1 = .ok (.iconst 0, 1) := by decide +kernel
theorem dL_itemAt_2 : decode cL_itemAt 2 = .ok (.aload_n 0, 1) := by decide +kernel
theorem dL_itemAt_3 : decode cL_itemAt 3 = .ok (.iload_n 1, 1) := by decide +kernel
theorem dL_itemAt_4 : decode cL_itemAt 4 = .ok (.invokevirtual 53, 3) := by decide +kernel
theorem dL_itemAt_7 : decode cL_itemAt 7 = .ok (.i2l, 1) := by decide +kernel
theorem dL_itemAt_8 : decode cL_itemAt 8 = .ok (.lastore, 1) := by decide +kernel
theorem dL_itemAt_9 : decode cL_itemAt 9 = .ok (.goto 6, 3) := by decide +kernel
theorem dL_itemAt_12 : decode cL_itemAt 12 = .ok (.astore_n 3, 1) := by decide +kernel
theorem dL_itemAt_13 : decode cL_itemAt 13 = .ok (.iconst 1, 1) := by decide +kernel
theorem dL_itemAt_14 : decode cL_itemAt 14 = .ok (.ireturn, 1) := by decide +kernel
theorem dL_itemAt_15 : decode cL_itemAt 15 = .ok (.iconst 0, 1) := by decide +kernel
theorem dL_itemAt_16 : decode cL_itemAt 16 = .ok (.ireturn, 1) := by decide +kernel
theorem dL_hypotheticalSize_0 : decode cL_hypotheticalSize 0 = .ok (.aload_n 2, 1) := by decide +kernel
theorem dL_hypotheticalSize_1 : decode cL_hypotheticalSize 1 = .ok (.iconst 0, 1) := by decide +kernel
theorem dL_hypotheticalSize_2 : decode cL_hypotheticalSize 2 = .ok (.aload_n 0, 1) := by decide +kernel
theorem dL_hypotheticalSize_3 : decode cL_hypotheticalSize 3 = .ok (.iload_n 1, 1) := by decide +kernel
theorem dL_hypotheticalSize_4 : decode cL_hypotheticalSize 4 = .ok (.invokevirtual 56, 3) := by decide +kernel
theorem dL_hypotheticalSize_7 : decode cL_hypotheticalSize 7 = .ok (.i2l, 1) := by decide +kernel
theorem dL_hypotheticalSize_8 : decode cL_hypotheticalSize 8 = .ok (.lastore, 1) := by decide +kernel
theorem dL_hypotheticalSize_9 : decode cL_hypotheticalSize 9 = .ok (.goto 6, 3) := by decide +kernel
theorem dL_hypotheticalSize_12 : decode cL_hypotheticalSize 12 = .ok (.astore_n 3, 1) := by decide +kernel
theorem dL_hypotheticalSize_13 : decode cL_hypotheticalSize 13 = .ok (.iconst 1, 1) := by decide +kernel
theorem dL_hypotheticalSize_14 : decode cL_hypotheticalSize 14 = .ok (.ireturn, 1) := by decide +kernel
theorem dL_hypotheticalSize_15 : decode cL_hypotheticalSize 15 = .ok (.iconst 0, 1) := by decide +kernel
theorem dL_hypotheticalSize_16 : decode cL_hypotheticalSize 16 = .ok (.ireturn, 1) := by decide +kernel
theorem dL_box_0 : decode cL_box 0 = .ok (.aload_n 3, 1) := by decide +kernel
theorem dL_box_1 : decode cL_box 1 = .ok (.iconst 0, 1) := by decide +kernel
theorem dL_box_2 : decode cL_box 2 = .ok (.aload_n 0, 1) := by decide +kernel
theorem dL_box_3 : decode cL_box 3 = .ok (.iload_n 1, 1) := by decide +kernel
theorem dL_box_4 : decode cL_box 4 = .ok (.iload_n 2, 1) := by decide +kernel
theorem dL_box_5 : decode cL_box 5 = .ok (.invokevirtual 59, 3) := by decide +kernel
theorem dL_box_8 : decode cL_box 8 = .ok (.i2l, 1) := by decide +kernel
theorem dL_box_9 : decode cL_box 9 = .ok (.lastore, 1) := by decide +kernel
theorem dL_box_10 : decode cL_box 10 = .ok (.goto 7, 3) := by decide +kernel
theorem dL_box_13 : decode cL_box 13 = .ok (.astore 4, 2) := by decide +kernel
theorem dL_box_15 : decode cL_box 15 = .ok (.iconst 1, 1) := by decide +kernel
theorem dL_box_16 : decode cL_box 16 = .ok (.ireturn, 1) := by decide +kernel
theorem dL_box_17 : decode cL_box 17 = .ok (.iconst 0, 1) := by decide +kernel
theorem dL_box_18 : decode cL_box 18 = .ok (.ireturn, 1) := by decide +kernel
theorem dL_rounds_0 : decode cL_rounds 0 = .ok (.aload_n 2, 1) := by decide +kernel
theorem dL_rounds_1 : decode cL_rounds 1 = .ok (.iconst 0, 1) := by decide +kernel
theorem dL_rounds_2 : decode cL_rounds 2 = .ok (.aload_n 0, 1) := by decide +kernel
theorem dL_rounds_3 : decode cL_rounds 3 = .ok (.iload_n 1, 1) := by decide +kernel
theorem dL_rounds_4 : decode cL_rounds 4 = .ok (.invokevirtual 62, 3) := by decide +kernel
theorem dL_rounds_7 : decode cL_rounds 7 = .ok (.i2l, 1) := by decide +kernel
theorem dL_rounds_8 : decode cL_rounds 8 = .ok (.lastore, 1) := by decide +kernel
theorem dL_rounds_9 : decode cL_rounds 9 = .ok (.goto 6, 3) := by decide +kernel
theorem dL_rounds_12 : decode cL_rounds 12 = .ok (.astore_n 3, 1) := by decide +kernel
theorem dL_rounds_13 : decode cL_rounds 13 = .ok (.iconst 1, 1) := by decide +kernel
theorem dL_rounds_14 : decode cL_rounds 14 = .ok (.ireturn, 1) := by decide +kernel
theorem dL_rounds_15 : decode cL_rounds 15 = .ok (.iconst 0, 1) := by decide +kernel
theorem dL_rounds_16 : decode cL_rounds 16 = .ok (.ireturn, 1) := by decide +kernel
theorem dL_freeSpace_0 : decode cL_freeSpace 0 = .ok (.aload_n 2, 1) := by decide +kernel
theorem dL_freeSpace_1 : decode cL_freeSpace 1 = .ok (.iconst 0, 1) := by decide +kernel
theorem dL_freeSpace_2 : decode cL_freeSpace 2 = .ok (.aload_n 0, 1) := by decide +kernel
theorem dL_freeSpace_3 : decode cL_freeSpace 3 = .ok (.iload_n 1, 1) := by decide +kernel
theorem dL_freeSpace_4 : decode cL_freeSpace 4 = .ok (.invokevirtual 65, 3) := by decide +kernel
theorem dL_freeSpace_7 : decode cL_freeSpace 7 = .ok (.i2l, 1) := by decide +kernel
theorem dL_freeSpace_8 : decode cL_freeSpace 8 = .ok (.lastore, 1) := by decide +kernel
theorem dL_freeSpace_9 : decode cL_freeSpace 9 = .ok (.goto 6, 3) := by decide +kernel
theorem dL_freeSpace_12 : decode cL_freeSpace 12 = .ok (.astore_n 3, 1) := by decide +kernel
theorem dL_freeSpace_13 : decode cL_freeSpace 13 = .ok (.iconst 1, 1) := by decide +kernel
theorem dL_freeSpace_14 : decode cL_freeSpace 14 = .ok (.ireturn, 1) := by decide +kernel
theorem dL_freeSpace_15 : decode cL_freeSpace 15 = .ok (.iconst 0, 1) := by decide +kernel
theorem dL_freeSpace_16 : decode cL_freeSpace 16 = .ok (.ireturn, 1) := by decide +kernel
theorem dL_lineCross_0 : decode cL_lineCross 0 = .ok (.aload_n 2, 1) := by decide +kernel
theorem dL_lineCross_1 : decode cL_lineCross 1 = .ok (.iconst 0, 1) := by decide +kernel
theorem dL_lineCross_2 : decode cL_lineCross 2 = .ok (.aload_n 0, 1) := by decide +kernel
theorem dL_lineCross_3 : decode cL_lineCross 3 = .ok (.iload_n 1, 1) := by decide +kernel
theorem dL_lineCross_4 : decode cL_lineCross 4 = .ok (.invokevirtual 68, 3) := by decide +kernel
theorem dL_lineCross_7 : decode cL_lineCross 7 = .ok (.i2l, 1) := by decide +kernel
theorem dL_lineCross_8 : decode cL_lineCross 8 = .ok (.lastore, 1) := by decide +kernel
theorem dL_lineCross_9 : decode cL_lineCross 9 = .ok (.goto 6, 3) := by decide +kernel
theorem dL_lineCross_12 : decode cL_lineCross 12 = .ok (.astore_n 3, 1) := by decide +kernel
theorem dL_lineCross_13 : decode cL_lineCross 13 = .ok (.iconst 1, 1) := by decide +kernel
theorem dL_lineCross_14 : decode cL_lineCross 14 = .ok (.ireturn, 1) := by decide +kernel
theorem dL_lineCross_15 : decode cL_lineCross 15 = .ok (.iconst 0, 1) := by decide +kernel
theorem dL_lineCross_16 : decode cL_lineCross 16 = .ok (.ireturn, 1) := by decide +kernel
theorem dL_lineAscent_0 : decode cL_lineAscent 0 = .ok (.aload_n 2, 1) := by decide +kernel
theorem dL_lineAscent_1 : decode cL_lineAscent 1 = .ok (.iconst 0, 1) := by decide +kernel
theorem dL_lineAscent_2 : decode cL_lineAscent 2 = .ok (.aload_n 0, 1) := by decide +kernel
theorem dL_lineAscent_3 : decode cL_lineAscent 3 = .ok (.iload_n 1, 1) := by decide +kernel
theorem dL_lineAscent_4 : decode cL_lineAscent 4 = .ok (.invokevirtual 71, 3) := by decide +kernel
theorem dL_lineAscent_7 : decode cL_lineAscent 7 = .ok (.i2l, 1) := by decide +kernel
theorem dL_lineAscent_8 : decode cL_lineAscent 8 = .ok (.lastore, 1) := by decide +kernel
theorem dL_lineAscent_9 : decode cL_lineAscent 9 = .ok (.goto 6, 3) := by decide +kernel
theorem dL_lineAscent_12 : decode cL_lineAscent 12 = .ok (.astore_n 3, 1) := by decide +kernel
theorem dL_lineAscent_13 : decode cL_lineAscent 13 = .ok (.iconst 1, 1) := by decide +kernel
theorem dL_lineAscent_14 : decode cL_lineAscent 14 = .ok (.ireturn, 1) := by decide +kernel
theorem dL_lineAscent_15 : decode cL_lineAscent 15 = .ok (.iconst 0, 1) := by decide +kernel
theorem dL_lineAscent_16 : decode cL_lineAscent 16 = .ok (.ireturn, 1) := by decide +kernel
theorem dL_overflows_0 : decode cL_overflows 0 = .ok (.aload_n 2, 1) := by decide +kernel
theorem dL_overflows_1 : decode cL_overflows 1 = .ok (.iconst 0, 1) := by decide +kernel
theorem dL_overflows_2 : decode cL_overflows 2 = .ok (.aload_n 0, 1) := by decide +kernel
theorem dL_overflows_3 : decode cL_overflows 3 = .ok (.iload_n 1, 1) := by decide +kernel
theorem dL_overflows_4 : decode cL_overflows 4 = .ok (.invokevirtual 74, 3) := by decide +kernel
theorem dL_overflows_7 : decode cL_overflows 7 = .ok (.ifCond .eq 7, 3) := by decide +kernel
theorem dL_overflows_10 : decode cL_overflows 10 = .ok (.lconst 1, 1) := by decide +kernel
theorem dL_overflows_11 : decode cL_overflows 11 = .ok (.goto 4, 3) := by decide +kernel
theorem dL_overflows_14 : decode cL_overflows 14 = .ok (.lconst 0, 1) := by decide +kernel
theorem dL_overflows_15 : decode cL_overflows 15 = .ok (.lastore, 1) := by decide +kernel
theorem dL_overflows_16 : decode cL_overflows 16 = .ok (.goto 6, 3) := by decide +kernel
theorem dL_overflows_19 : decode cL_overflows 19 = .ok (.astore_n 3, 1) := by decide +kernel
theorem dL_overflows_20 : decode cL_overflows 20 = .ok (.iconst 1, 1) := by decide +kernel
theorem dL_overflows_21 : decode cL_overflows 21 = .ok (.ireturn, 1) := by decide +kernel
theorem dL_overflows_22 : decode cL_overflows 22 = .ok (.iconst 0, 1) := by decide +kernel
theorem dL_overflows_23 : decode cL_overflows 23 = .ok (.ireturn, 1) := by decide +kernel
theorem dL_itemUnder_0 : decode cL_itemUnder 0 = .ok (.aload_n 3, 1) := by decide +kernel
theorem dL_itemUnder_1 : decode cL_itemUnder 1 = .ok (.iconst 0, 1) := by decide +kernel
theorem dL_itemUnder_2 : decode cL_itemUnder 2 = .ok (.aload_n 0, 1) := by decide +kernel
theorem dL_itemUnder_3 : decode cL_itemUnder 3 = .ok (.iload_n 1, 1) := by decide +kernel
theorem dL_itemUnder_4 : decode cL_itemUnder 4 = .ok (.iload_n 2, 1) := by decide +kernel
theorem dL_itemUnder_5 : decode cL_itemUnder 5 = .ok (.invokevirtual 78, 3) := by decide +kernel
theorem dL_itemUnder_8 : decode cL_itemUnder 8 = .ok (.i2l, 1) := by decide +kernel
theorem dL_itemUnder_9 : decode cL_itemUnder 9 = .ok (.lastore, 1) := by decide +kernel
theorem dL_itemUnder_10 : decode cL_itemUnder 10 = .ok (.goto 7, 3) := by decide +kernel
theorem dL_itemUnder_13 : decode cL_itemUnder 13 = .ok (.astore 4, 2) := by decide +kernel
theorem dL_itemUnder_15 : decode cL_itemUnder 15 = .ok (.iconst 1, 1) := by decide +kernel
theorem dL_itemUnder_16 : decode cL_itemUnder 16 = .ok (.ireturn, 1) := by decide +kernel
theorem dL_itemUnder_17 : decode cL_itemUnder 17 = .ok (.iconst 0, 1) := by decide +kernel
theorem dL_itemUnder_18 : decode cL_itemUnder 18 = .ok (.ireturn, 1) := by decide +kernel
theorem dL_narrowest_0 : decode cL_narrowest 0 = .ok (.aload_n 2, 1) := by decide +kernel
theorem dL_narrowest_1 : decode cL_narrowest 1 = .ok (.iconst 0, 1) := by decide +kernel
theorem dL_narrowest_2 : decode cL_narrowest 2 = .ok (.aload_n 0, 1) := by decide +kernel
theorem dL_narrowest_3 : decode cL_narrowest 3 = .ok (.iload_n 1, 1) := by decide +kernel
theorem dL_narrowest_4 : decode cL_narrowest 4 = .ok (.invokevirtual 83, 3) := by decide +kernel
theorem dL_narrowest_7 : decode cL_narrowest 7 = .ok (.i2l, 1) := by decide +kernel
theorem dL_narrowest_8 : decode cL_narrowest 8 = .ok (.lastore, 1) := by decide +kernel
theorem dL_narrowest_9 : decode cL_narrowest 9 = .ok (.goto 9, 3) := by decide +kernel
theorem dL_narrowest_12 : decode cL_narrowest 12 = .ok (.astore_n 3, 1) := by decide +kernel
theorem dL_narrowest_13 : decode cL_narrowest 13 = .ok (.iconst 1, 1) := by decide +kernel
theorem dL_narrowest_14 : decode cL_narrowest 14 = .ok (.ireturn, 1) := by decide +kernel
theorem dL_narrowest_15 : decode cL_narrowest 15 = .ok (.astore_n 3, 1) := by decide +kernel
theorem dL_narrowest_16 : decode cL_narrowest 16 = .ok (.iconst 2, 1) := by decide +kernel
theorem dL_narrowest_17 : decode cL_narrowest 17 = .ok (.ireturn, 1) := by decide +kernel
theorem dL_narrowest_18 : decode cL_narrowest 18 = .ok (.iconst 0, 1) := by decide +kernel
theorem dL_narrowest_19 : decode cL_narrowest 19 = .ok (.ireturn, 1) := by decide +kernel
theorem dL_share_0 : decode cL_share 0 = .ok (.aload 4, 2) := by decide +kernel
theorem dL_share_2 : decode cL_share 2 = .ok (.iconst 0, 1) := by decide +kernel
theorem dL_share_3 : decode cL_share 3 = .ok (.aload_n 0, 1) := by decide +kernel
theorem dL_share_4 : decode cL_share 4 = .ok (.iload_n 1, 1) := by decide +kernel
theorem dL_share_5 : decode cL_share 5 = .ok (.iload_n 2, 1) := by decide +kernel
theorem dL_share_6 : decode cL_share 6 = .ok (.iload_n 3, 1) := by decide +kernel
theorem dL_share_7 : decode cL_share 7 = .ok (.invokevirtual 86, 3) := by decide +kernel
theorem dL_share_10 : decode cL_share 10 = .ok (.i2l, 1) := by decide +kernel
theorem dL_share_11 : decode cL_share 11 = .ok (.lastore, 1) := by decide +kernel
theorem dL_share_12 : decode cL_share 12 = .ok (.goto 15, 3) := by decide +kernel
theorem dL_share_15 : decode cL_share 15 = .ok (.astore 5, 2) := by decide +kernel
theorem dL_share_17 : decode cL_share 17 = .ok (.iconst 1, 1) := by decide +kernel
theorem dL_share_18 : decode cL_share 18 = .ok (.ireturn, 1) := by decide +kernel
theorem dL_share_19 : decode cL_share 19 = .ok (.astore 5, 2) := by decide +kernel
theorem dL_share_21 : decode cL_share 21 = .ok (.iconst 2, 1) := by decide +kernel
theorem dL_share_22 : decode cL_share 22 = .ok (.ireturn, 1) := by decide +kernel
theorem dL_share_23 : decode cL_share 23 = .ok (.astore 5, 2) := by decide +kernel
theorem dL_share_25 : decode cL_share 25 = .ok (.iconst 3, 1) := by decide +kernel
theorem dL_share_26 : decode cL_share 26 = .ok (.ireturn, 1) := by decide +kernel
theorem dL_share_27 : decode cL_share 27 = .ok (.iconst 0, 1) := by decide +kernel
theorem dL_share_28 : decode cL_share 28 = .ok (.ireturn, 1) := by decide +kernel
theorem dL_restore_0 : decode cL_restore 0 = .ok (.aload_n 1, 1) := by decide +kernel
theorem dL_restore_1 : decode cL_restore 1 = .ok (.iconst 0, 1) := by decide +kernel
theorem dL_restore_2 : decode cL_restore 2 = .ok (.aload_n 0, 1) := by decide +kernel
theorem dL_restore_3 : decode cL_restore 3 = .ok (.invokevirtual 91, 3) := by decide +kernel
theorem dL_restore_6 : decode cL_restore 6 = .ok (.i2l, 1) := by decide +kernel
theorem dL_restore_7 : decode cL_restore 7 = .ok (.lastore, 1) := by decide +kernel
theorem dL_restore_8 : decode cL_restore 8 = .ok (.goto 6, 3) := by decide +kernel
theorem dL_restore_11 : decode cL_restore 11 = .ok (.astore_n 2, 1) := by decide +kernel
theorem dL_restore_12 : decode cL_restore 12 = .ok (.iconst 1, 1) := by decide +kernel
theorem dL_restore_13 : decode cL_restore 13 = .ok (.ireturn, 1) := by decide +kernel
theorem dL_restore_14 : decode cL_restore 14 = .ok (.iconst 0, 1) := by decide +kernel
theorem dL_restore_15 : decode cL_restore 15 = .ok (.ireturn, 1) := by decide +kernel
theorem dL_law_0 : decode cL_law 0 = .ok (.new 8, 3) := by decide +kernel
theorem dL_law_3 : decode cL_law 3 = .ok (.dup, 1) := by decide +kernel
theorem dL_law_4 : decode cL_law 4 = .ok (.invokespecial 94, 3) := by decide +kernel
theorem dL_law_7 : decode cL_law 7 = .ok (.astore_n 1, 1) := by decide +kernel
theorem dL_law_8 : decode cL_law 8 = .ok (.new 95, 3) := by decide +kernel
theorem dL_law_11 : decode cL_law 11 = .ok (.dup, 1) := by decide +kernel
theorem dL_law_12 : decode cL_law 12 = .ok (.invokespecial 97, 3) := by decide +kernel
theorem dL_law_15 : decode cL_law 15 = .ok (.astore_n 2, 1) := by decide +kernel
theorem dL_law_16 : decode cL_law 16 = .ok (.iconst 1, 1) := by decide +kernel
theorem dL_law_17 : decode cL_law 17 = .ok (.newarray .long, 2) := by decide +kernel
theorem dL_law_19 : decode cL_law 19 = .ok (.astore_n 3, 1) := by decide +kernel
theorem dL_law_20 : decode cL_law 20 = .ok (.iconst 0, 1) := by decide +kernel
theorem dL_law_21 : decode cL_law 21 = .ok (.istore 4, 2) := by decide +kernel
theorem dL_law_23 : decode cL_law 23 = .ok (.iload 4, 2) := by decide +kernel
theorem dL_law_25 : decode cL_law 25 = .ok (.aload_n 0, 1) := by decide +kernel
theorem dL_law_26 : decode cL_law 26 = .ok (.arraylength, 1) := by decide +kernel
theorem dL_law_27 : decode cL_law 27 = .ok (.iconst 4, 1) := by decide +kernel
theorem dL_law_28 : decode cL_law 28 = .ok (.isub, 1) := by decide +kernel
theorem dL_law_29 : decode cL_law 29 = .ok (.if_icmp .gt 1599, 3) := by decide +kernel
theorem dL_law_32 : decode cL_law 32 = .ok (.aload_n 0, 1) := by decide +kernel
theorem dL_law_33 : decode cL_law 33 = .ok (.iload 4, 2) := by decide +kernel
theorem dL_law_35 : decode cL_law 35 = .ok (.iaload, 1) := by decide +kernel
theorem dL_law_36 : decode cL_law 36 = .ok (.bipush 31, 2) := by decide +kernel
theorem dL_law_38 : decode cL_law 38 = .ok (.iand, 1) := by decide +kernel
theorem dL_law_39 : decode cL_law 39 = .ok (.tableswitch 1583 0 27 #[125, 181, 237, 305, 373, 441, 497, 510, 590, 658, 716, 760, 773, 829, 885, 941, 1009, 1065, 1121, 1177, 1233, 1246, 1309, 1377, 1390, 1446, 1526, 1539], 125) := by decide +kernel
theorem dL_law_164 : decode cL_law 164 = .ok (.aload_n 1, 1) := by decide +kernel
theorem dL_law_165 : decode cL_law 165 = .ok (.aload_n 0, 1) := by decide +kernel
theorem dL_law_166 : decode cL_law 166 = .ok (.iload 4, 2) := by decide +kernel
theorem dL_law_168 : decode cL_law 168 = .ok (.iconst 1, 1) := by decide +kernel
theorem dL_law_169 : decode cL_law 169 = .ok (.iadd, 1) := by decide +kernel
theorem dL_law_170 : decode cL_law 170 = .ok (.iaload, 1) := by decide +kernel
theorem dL_law_171 : decode cL_law 171 = .ok (.aload_n 3, 1) := by decide +kernel
theorem dL_law_172 : decode cL_law 172 = .ok (.invokestatic 98, 3) := by decide +kernel
theorem dL_law_175 : decode cL_law 175 = .ok (.istore 5, 2) := by decide +kernel
theorem dL_law_177 : decode cL_law 177 = .ok (.aload_n 2, 1) := by decide +kernel
theorem dL_law_178 : decode cL_law 178 = .ok (.aload_n 0, 1) := by decide +kernel
theorem dL_law_179 : decode cL_law 179 = .ok (.iload 4, 2) := by decide +kernel
theorem dL_law_181 : decode cL_law 181 = .ok (.iconst 1, 1) := by decide +kernel
theorem dL_law_182 : decode cL_law 182 = .ok (.iadd, 1) := by decide +kernel
theorem dL_law_183 : decode cL_law 183 = .ok (.iaload, 1) := by decide +kernel
theorem dL_law_184 : decode cL_law 184 = .ok (.invokevirtual 103, 3) := by decide +kernel
theorem dL_law_187 : decode cL_law 187 = .ok (.istore 6, 2) := by decide +kernel
theorem dL_law_189 : decode cL_law 189 = .ok (.aload_n 2, 1) := by decide +kernel
theorem dL_law_190 : decode cL_law 190 = .ok (.invokevirtual 104, 3) := by decide +kernel
theorem dL_law_193 : decode cL_law 193 = .ok (.iload 5, 2) := by decide +kernel
theorem dL_law_195 : decode cL_law 195 = .ok (.if_icmp .eq 5, 3) := by decide +kernel
theorem dL_law_198 : decode cL_law 198 = .ok (.iconst 0, 1) := by decide +kernel
theorem dL_law_199 : decode cL_law 199 = .ok (.ireturn, 1) := by decide +kernel
theorem dL_law_200 : decode cL_law 200 = .ok (.iload 5, 2) := by decide +kernel
theorem dL_law_202 : decode cL_law 202 = .ok (.ifCond .ne 15, 3) := by decide +kernel
theorem dL_law_205 : decode cL_law 205 = .ok (.aload_n 3, 1) := by decide +kernel
theorem dL_law_206 : decode cL_law 206 = .ok (.iconst 0, 1) := by decide +kernel
theorem dL_law_207 : decode cL_law 207 = .ok (.laload, 1) := by decide +kernel
theorem dL_law_208 : decode cL_law 208 = .ok (.iload 6, 2) := by decide +kernel
theorem dL_law_210 : decode cL_law 210 = .ok (.i2l, 1) := by decide +kernel
theorem dL_law_211 : decode cL_law 211 = .ok (.lcmp, 1) := by decide +kernel
theorem dL_law_212 : decode cL_law 212 = .ok (.ifCond .eq 5, 3) := by decide +kernel
theorem dL_law_215 : decode cL_law 215 = .ok (.iconst 0, 1) := by decide +kernel
theorem dL_law_216 : decode cL_law 216 = .ok (.ireturn, 1) := by decide +kernel
theorem dL_law_217 : decode cL_law 217 = .ok (.goto 1405, 3) := by decide +kernel
theorem dL_law_220 : decode cL_law 220 = .ok (.aload_n 1, 1) := by decide +kernel
theorem dL_law_221 : decode cL_law 221 = .ok (.aload_n 0, 1) := by decide +kernel
theorem dL_law_222 : decode cL_law 222 = .ok (.iload 4, 2) := by decide +kernel
theorem dL_law_224 : decode cL_law 224 = .ok (.iconst 1, 1) := by decide +kernel
theorem dL_law_225 : decode cL_law 225 = .ok (.iadd, 1) := by decide +kernel
theorem dL_law_226 : decode cL_law 226 = .ok (.iaload, 1) := by decide +kernel
theorem dL_law_227 : decode cL_law 227 = .ok (.aload_n 3, 1) := by decide +kernel
theorem dL_law_228 : decode cL_law 228 = .ok (.invokestatic 107, 3) := by decide +kernel
theorem dL_law_231 : decode cL_law 231 = .ok (.istore 5, 2) := by decide +kernel
theorem dL_law_233 : decode cL_law 233 = .ok (.aload_n 2, 1) := by decide +kernel
theorem dL_law_234 : decode cL_law 234 = .ok (.aload_n 0, 1) := by decide +kernel
theorem dL_law_235 : decode cL_law 235 = .ok (.iload 4, 2) := by decide +kernel
theorem dL_law_237 : decode cL_law 237 = .ok (.iconst 1, 1) := by decide +kernel
theorem dL_law_238 : decode cL_law 238 = .ok (.iadd, 1) := by decide +kernel
theorem dL_law_239 : decode cL_law 239 = .ok (.iaload, 1) := by decide +kernel
theorem dL_law_240 : decode cL_law 240 = .ok (.invokevirtual 109, 3) := by decide +kernel
theorem dL_law_243 : decode cL_law 243 = .ok (.istore 6, 2) := by decide +kernel
theorem dL_law_245 : decode cL_law 245 = .ok (.aload_n 2, 1) := by decide +kernel
theorem dL_law_246 : decode cL_law 246 = .ok (.invokevirtual 104, 3) := by decide +kernel
theorem dL_law_249 : decode cL_law 249 = .ok (.iload 5, 2) := by decide +kernel
theorem dL_law_251 : decode cL_law 251 = .ok (.if_icmp .eq 5, 3) := by decide +kernel
theorem dL_law_254 : decode cL_law 254 = .ok (.iconst 0, 1) := by decide +kernel
theorem dL_law_255 : decode cL_law 255 = .ok (.ireturn, 1) := by decide +kernel
theorem dL_law_256 : decode cL_law 256 = .ok (.iload 5, 2) := by decide +kernel
theorem dL_law_258 : decode cL_law 258 = .ok (.ifCond .ne 15, 3) := by decide +kernel
theorem dL_law_261 : decode cL_law 261 = .ok (.aload_n 3, 1) := by decide +kernel
theorem dL_law_262 : decode cL_law 262 = .ok (.iconst 0, 1) := by decide +kernel
theorem dL_law_263 : decode cL_law 263 = .ok (.laload, 1) := by decide +kernel
theorem dL_law_264 : decode cL_law 264 = .ok (.iload 6, 2) := by decide +kernel
theorem dL_law_266 : decode cL_law 266 = .ok (.i2l, 1) := by decide +kernel
theorem dL_law_267 : decode cL_law 267 = .ok (.lcmp, 1) := by decide +kernel
theorem dL_law_268 : decode cL_law 268 = .ok (.ifCond .eq 5, 3) := by decide +kernel
theorem dL_law_271 : decode cL_law 271 = .ok (.iconst 0, 1) := by decide +kernel
theorem dL_law_272 : decode cL_law 272 = .ok (.ireturn, 1) := by decide +kernel
theorem dL_law_273 : decode cL_law 273 = .ok (.goto 1349, 3) := by decide +kernel
theorem dL_law_276 : decode cL_law 276 = .ok (.aload_n 1, 1) := by decide +kernel
theorem dL_law_277 : decode cL_law 277 = .ok (.aload_n 0, 1) := by decide +kernel
theorem dL_law_278 : decode cL_law 278 = .ok (.iload 4, 2) := by decide +kernel
theorem dL_law_280 : decode cL_law 280 = .ok (.iconst 1, 1) := by decide +kernel
theorem dL_law_281 : decode cL_law 281 = .ok (.iadd, 1) := by decide +kernel
theorem dL_law_282 : decode cL_law 282 = .ok (.iaload, 1) := by decide +kernel
theorem dL_law_283 : decode cL_law 283 = .ok (.aload_n 0, 1) := by decide +kernel
theorem dL_law_284 : decode cL_law 284 = .ok (.iload 4, 2) := by decide +kernel
theorem dL_law_286 : decode cL_law 286 = .ok (.iconst 2, 1) := by decide +kernel
theorem dL_law_287 : decode cL_law 287 = .ok (.iadd, 1) := by decide +kernel
theorem dL_law_288 : decode cL_law 288 = .ok (.iaload, 1) := by decide +kernel
theorem dL_law_289 : decode cL_law 289 = .ok (.aload_n 3, 1) := by decide +kernel
theorem dL_law_290 : decode cL_law 290 = .ok (.invokestatic 110, 3) := by decide +kernel
theorem dL_law_293 : decode cL_law 293 = .ok (.istore 5, 2) := by decide +kernel
theorem dL_law_295 : decode cL_law 295 = .ok (.aload_n 2, 1) := by decide +kernel
theorem dL_law_296 : decode cL_law 296 = .ok (.aload_n 0, 1) := by decide +kernel
theorem dL_law_297 : decode cL_law 297 = .ok (.iload 4, 2) := by decide +kernel
theorem dL_law_299 : decode cL_law 299 = .ok (.iconst 1, 1) := by decide +kernel
theorem dL_law_300 : decode cL_law 300 = .ok (.iadd, 1) := by decide +kernel
theorem dL_law_301 : decode cL_law 301 = .ok (.iaload, 1) := by decide +kernel
theorem dL_law_302 : decode cL_law 302 = .ok (.aload_n 0, 1) := by decide +kernel
theorem dL_law_303 : decode cL_law 303 = .ok (.iload 4, 2) := by decide +kernel
theorem dL_law_305 : decode cL_law 305 = .ok (.iconst 2, 1) := by decide +kernel
theorem dL_law_306 : decode cL_law 306 = .ok (.iadd, 1) := by decide +kernel
theorem dL_law_307 : decode cL_law 307 = .ok (.iaload, 1) := by decide +kernel
theorem dL_law_308 : decode cL_law 308 = .ok (.invokevirtual 113, 3) := by decide +kernel
theorem dL_law_311 : decode cL_law 311 = .ok (.istore 6, 2) := by decide +kernel
theorem dL_law_313 : decode cL_law 313 = .ok (.aload_n 2, 1) := by decide +kernel
theorem dL_law_314 : decode cL_law 314 = .ok (.invokevirtual 104, 3) := by decide +kernel
theorem dL_law_317 : decode cL_law 317 = .ok (.iload 5, 2) := by decide +kernel
theorem dL_law_319 : decode cL_law 319 = .ok (.if_icmp .eq 5, 3) := by decide +kernel
theorem dL_law_322 : decode cL_law 322 = .ok (.iconst 0, 1) := by decide +kernel
theorem dL_law_323 : decode cL_law 323 = .ok (.ireturn, 1) := by decide +kernel
theorem dL_law_324 : decode cL_law 324 = .ok (.iload 5, 2) := by decide +kernel
theorem dL_law_326 : decode cL_law 326 = .ok (.ifCond .ne 15, 3) := by decide +kernel
theorem dL_law_329 : decode cL_law 329 = .ok (.aload_n 3, 1) := by decide +kernel
theorem dL_law_330 : decode cL_law 330 = .ok (.iconst 0, 1) := by decide +kernel
theorem dL_law_331 : decode cL_law 331 = .ok (.laload, 1) := by decide +kernel
theorem dL_law_332 : decode cL_law 332 = .ok (.iload 6, 2) := by decide +kernel
theorem dL_law_334 : decode cL_law 334 = .ok (.i2l, 1) := by decide +kernel
theorem dL_law_335 : decode cL_law 335 = .ok (.lcmp, 1) := by decide +kernel
theorem dL_law_336 : decode cL_law 336 = .ok (.ifCond .eq 5, 3) := by decide +kernel
theorem dL_law_339 : decode cL_law 339 = .ok (.iconst 0, 1) := by decide +kernel
theorem dL_law_340 : decode cL_law 340 = .ok (.ireturn, 1) := by decide +kernel
theorem dL_law_341 : decode cL_law 341 = .ok (.goto 1281, 3) := by decide +kernel
theorem dL_law_344 : decode cL_law 344 = .ok (.aload_n 1, 1) := by decide +kernel
theorem dL_law_345 : decode cL_law 345 = .ok (.aload_n 0, 1) := by decide +kernel
theorem dL_law_346 : decode cL_law 346 = .ok (.iload 4, 2) := by decide +kernel
theorem dL_law_348 : decode cL_law 348 = .ok (.iconst 1, 1) := by decide +kernel
theorem dL_law_349 : decode cL_law 349 = .ok (.iadd, 1) := by decide +kernel
theorem dL_law_350 : decode cL_law 350 = .ok (.iaload, 1) := by decide +kernel
theorem dL_law_351 : decode cL_law 351 = .ok (.aload_n 0, 1) := by decide +kernel
theorem dL_law_352 : decode cL_law 352 = .ok (.iload 4, 2) := by decide +kernel
theorem dL_law_354 : decode cL_law 354 = .ok (.iconst 2, 1) := by decide +kernel
theorem dL_law_355 : decode cL_law 355 = .ok (.iadd, 1) := by decide +kernel
theorem dL_law_356 : decode cL_law 356 = .ok (.iaload, 1) := by decide +kernel
theorem dL_law_357 : decode cL_law 357 = .ok (.aload_n 3, 1) := by decide +kernel
theorem dL_law_358 : decode cL_law 358 = .ok (.invokestatic 114, 3) := by decide +kernel
theorem dL_law_361 : decode cL_law 361 = .ok (.istore 5, 2) := by decide +kernel
theorem dL_law_363 : decode cL_law 363 = .ok (.aload_n 2, 1) := by decide +kernel
theorem dL_law_364 : decode cL_law 364 = .ok (.aload_n 0, 1) := by decide +kernel
theorem dL_law_365 : decode cL_law 365 = .ok (.iload 4, 2) := by decide +kernel
theorem dL_law_367 : decode cL_law 367 = .ok (.iconst 1, 1) := by decide +kernel
theorem dL_law_368 : decode cL_law 368 = .ok (.iadd, 1) := by decide +kernel
theorem dL_law_369 : decode cL_law 369 = .ok (.iaload, 1) := by decide +kernel
theorem dL_law_370 : decode cL_law 370 = .ok (.aload_n 0, 1) := by decide +kernel
theorem dL_law_371 : decode cL_law 371 = .ok (.iload 4, 2) := by decide +kernel
theorem dL_law_373 : decode cL_law 373 = .ok (.iconst 2, 1) := by decide +kernel
theorem dL_law_374 : decode cL_law 374 = .ok (.iadd, 1) := by decide +kernel
theorem dL_law_375 : decode cL_law 375 = .ok (.iaload, 1) := by decide +kernel
theorem dL_law_376 : decode cL_law 376 = .ok (.invokevirtual 116, 3) := by decide +kernel
theorem dL_law_379 : decode cL_law 379 = .ok (.istore 6, 2) := by decide +kernel
theorem dL_law_381 : decode cL_law 381 = .ok (.aload_n 2, 1) := by decide +kernel
theorem dL_law_382 : decode cL_law 382 = .ok (.invokevirtual 104, 3) := by decide +kernel
theorem dL_law_385 : decode cL_law 385 = .ok (.iload 5, 2) := by decide +kernel
theorem dL_law_387 : decode cL_law 387 = .ok (.if_icmp .eq 5, 3) := by decide +kernel
theorem dL_law_390 : decode cL_law 390 = .ok (.iconst 0, 1) := by decide +kernel
theorem dL_law_391 : decode cL_law 391 = .ok (.ireturn, 1) := by decide +kernel
theorem dL_law_392 : decode cL_law 392 = .ok (.iload 5, 2) := by decide +kernel
theorem dL_law_394 : decode cL_law 394 = .ok (.ifCond .ne 15, 3) := by decide +kernel
theorem dL_law_397 : decode cL_law 397 = .ok (.aload_n 3, 1) := by decide +kernel
theorem dL_law_398 : decode cL_law 398 = .ok (.iconst 0, 1) := by decide +kernel
theorem dL_law_399 : decode cL_law 399 = .ok (.laload, 1) := by decide +kernel
theorem dL_law_400 : decode cL_law 400 = .ok (.iload 6, 2) := by decide +kernel
theorem dL_law_402 : decode cL_law 402 = .ok (.i2l, 1) := by decide +kernel
theorem dL_law_403 : decode cL_law 403 = .ok (.lcmp, 1) := by decide +kernel
theorem dL_law_404 : decode cL_law 404 = .ok (.ifCond .eq 5, 3) := by decide +kernel
theorem dL_law_407 : decode cL_law 407 = .ok (.iconst 0, 1) := by decide +kernel
theorem dL_law_408 : decode cL_law 408 = .ok (.ireturn, 1) := by decide +kernel
theorem dL_law_409 : decode cL_law 409 = .ok (.goto 1213, 3) := by decide +kernel
theorem dL_law_412 : decode cL_law 412 = .ok (.aload_n 1, 1) := by decide +kernel
theorem dL_law_413 : decode cL_law 413 = .ok (.aload_n 0, 1) := by decide +kernel
theorem dL_law_414 : decode cL_law 414 = .ok (.iload 4, 2) := by decide +kernel
theorem dL_law_416 : decode cL_law 416 = .ok (.iconst 1, 1) := by decide +kernel
theorem dL_law_417 : decode cL_law 417 = .ok (.iadd, 1) := by decide +kernel
theorem dL_law_418 : decode cL_law 418 = .ok (.iaload, 1) := by decide +kernel
theorem dL_law_419 : decode cL_law 419 = .ok (.aload_n 0, 1) := by decide +kernel
theorem dL_law_420 : decode cL_law 420 = .ok (.iload 4, 2) := by decide +kernel
theorem dL_law_422 : decode cL_law 422 = .ok (.iconst 2, 1) := by decide +kernel
theorem dL_law_423 : decode cL_law 423 = .ok (.iadd, 1) := by decide +kernel
theorem dL_law_424 : decode cL_law 424 = .ok (.iaload, 1) := by decide +kernel
theorem dL_law_425 : decode cL_law 425 = .ok (.aload_n 3, 1) := by decide +kernel
theorem dL_law_426 : decode cL_law 426 = .ok (.invokestatic 117, 3) := by decide +kernel
theorem dL_law_429 : decode cL_law 429 = .ok (.istore 5, 2) := by decide +kernel
theorem dL_law_431 : decode cL_law 431 = .ok (.aload_n 2, 1) := by decide +kernel
theorem dL_law_432 : decode cL_law 432 = .ok (.aload_n 0, 1) := by decide +kernel
theorem dL_law_433 : decode cL_law 433 = .ok (.iload 4, 2) := by decide +kernel
theorem dL_law_435 : decode cL_law 435 = .ok (.iconst 1, 1) := by decide +kernel
theorem dL_law_436 : decode cL_law 436 = .ok (.iadd, 1) := by decide +kernel
theorem dL_law_437 : decode cL_law 437 = .ok (.iaload, 1) := by decide +kernel
theorem dL_law_438 : decode cL_law 438 = .ok (.aload_n 0, 1) := by decide +kernel
theorem dL_law_439 : decode cL_law 439 = .ok (.iload 4, 2) := by decide +kernel
theorem dL_law_441 : decode cL_law 441 = .ok (.iconst 2, 1) := by decide +kernel
theorem dL_law_442 : decode cL_law 442 = .ok (.iadd, 1) := by decide +kernel
theorem dL_law_443 : decode cL_law 443 = .ok (.iaload, 1) := by decide +kernel
theorem dL_law_444 : decode cL_law 444 = .ok (.invokevirtual 119, 3) := by decide +kernel
theorem dL_law_447 : decode cL_law 447 = .ok (.istore 6, 2) := by decide +kernel
theorem dL_law_449 : decode cL_law 449 = .ok (.aload_n 2, 1) := by decide +kernel
theorem dL_law_450 : decode cL_law 450 = .ok (.invokevirtual 104, 3) := by decide +kernel
theorem dL_law_453 : decode cL_law 453 = .ok (.iload 5, 2) := by decide +kernel
theorem dL_law_455 : decode cL_law 455 = .ok (.if_icmp .eq 5, 3) := by decide +kernel
theorem dL_law_458 : decode cL_law 458 = .ok (.iconst 0, 1) := by decide +kernel
theorem dL_law_459 : decode cL_law 459 = .ok (.ireturn, 1) := by decide +kernel
theorem dL_law_460 : decode cL_law 460 = .ok (.iload 5, 2) := by decide +kernel
theorem dL_law_462 : decode cL_law 462 = .ok (.ifCond .ne 15, 3) := by decide +kernel
theorem dL_law_465 : decode cL_law 465 = .ok (.aload_n 3, 1) := by decide +kernel
theorem dL_law_466 : decode cL_law 466 = .ok (.iconst 0, 1) := by decide +kernel
theorem dL_law_467 : decode cL_law 467 = .ok (.laload, 1) := by decide +kernel
theorem dL_law_468 : decode cL_law 468 = .ok (.iload 6, 2) := by decide +kernel
theorem dL_law_470 : decode cL_law 470 = .ok (.i2l, 1) := by decide +kernel
theorem dL_law_471 : decode cL_law 471 = .ok (.lcmp, 1) := by decide +kernel
theorem dL_law_472 : decode cL_law 472 = .ok (.ifCond .eq 5, 3) := by decide +kernel
theorem dL_law_475 : decode cL_law 475 = .ok (.iconst 0, 1) := by decide +kernel
theorem dL_law_476 : decode cL_law 476 = .ok (.ireturn, 1) := by decide +kernel
theorem dL_law_477 : decode cL_law 477 = .ok (.goto 1145, 3) := by decide +kernel
theorem dL_law_480 : decode cL_law 480 = .ok (.aload_n 1, 1) := by decide +kernel
theorem dL_law_481 : decode cL_law 481 = .ok (.aload_n 0, 1) := by decide +kernel
theorem dL_law_482 : decode cL_law 482 = .ok (.iload 4, 2) := by decide +kernel
theorem dL_law_484 : decode cL_law 484 = .ok (.iconst 1, 1) := by decide +kernel
theorem dL_law_485 : decode cL_law 485 = .ok (.iadd, 1) := by decide +kernel
theorem dL_law_486 : decode cL_law 486 = .ok (.iaload, 1) := by decide +kernel
theorem dL_law_487 : decode cL_law 487 = .ok (.aload_n 3, 1) := by decide +kernel
theorem dL_law_488 : decode cL_law 488 = .ok (.invokestatic 120, 3) := by decide +kernel
theorem dL_law_491 : decode cL_law 491 = .ok (.istore 5, 2) := by decide +kernel
theorem dL_law_493 : decode cL_law 493 = .ok (.aload_n 2, 1) := by decide +kernel
theorem dL_law_494 : decode cL_law 494 = .ok (.aload_n 0, 1) := by decide +kernel
theorem dL_law_495 : decode cL_law 495 = .ok (.iload 4, 2) := by decide +kernel
theorem dL_law_497 : decode cL_law 497 = .ok (.iconst 1, 1) := by decide +kernel
theorem dL_law_498 : decode cL_law 498 = .ok (.iadd, 1) := by decide +kernel
theorem dL_law_499 : decode cL_law 499 = .ok (.iaload, 1) := by decide +kernel
theorem dL_law_500 : decode cL_law 500 = .ok (.invokevirtual 122, 3) := by decide +kernel
theorem dL_law_503 : decode cL_law 503 = .ok (.istore 6, 2) := by decide +kernel
theorem dL_law_505 : decode cL_law 505 = .ok (.aload_n 2, 1) := by decide +kernel
theorem dL_law_506 : decode cL_law 506 = .ok (.invokevirtual 104, 3) := by decide +kernel
theorem dL_law_509 : decode cL_law 509 = .ok (.iload 5, 2) := by decide +kernel
theorem dL_law_511 : decode cL_law 511 = .ok (.if_icmp .eq 5, 3) := by decide +kernel
theorem dL_law_514 : decode cL_law 514 = .ok (.iconst 0, 1) := by decide +kernel
theorem dL_law_515 : decode cL_law 515 = .ok (.ireturn, 1) := by decide +kernel
theorem dL_law_516 : decode cL_law 516 = .ok (.iload 5, 2) := by decide +kernel
theorem dL_law_518 : decode cL_law 518 = .ok (.ifCond .ne 15, 3) := by decide +kernel
theorem dL_law_521 : decode cL_law 521 = .ok (.aload_n 3, 1) := by decide +kernel
theorem dL_law_522 : decode cL_law 522 = .ok (.iconst 0, 1) := by decide +kernel
theorem dL_law_523 : decode cL_law 523 = .ok (.laload, 1) := by decide +kernel
theorem dL_law_524 : decode cL_law 524 = .ok (.iload 6, 2) := by decide +kernel
theorem dL_law_526 : decode cL_law 526 = .ok (.i2l, 1) := by decide +kernel
theorem dL_law_527 : decode cL_law 527 = .ok (.lcmp, 1) := by decide +kernel
theorem dL_law_528 : decode cL_law 528 = .ok (.ifCond .eq 5, 3) := by decide +kernel
theorem dL_law_531 : decode cL_law 531 = .ok (.iconst 0, 1) := by decide +kernel
theorem dL_law_532 : decode cL_law 532 = .ok (.ireturn, 1) := by decide +kernel
theorem dL_law_533 : decode cL_law 533 = .ok (.goto 1089, 3) := by decide +kernel
theorem dL_law_536 : decode cL_law 536 = .ok (.aload_n 1, 1) := by decide +kernel
theorem dL_law_537 : decode cL_law 537 = .ok (.invokevirtual 123, 3) := by decide +kernel
theorem dL_law_540 : decode cL_law 540 = .ok (.aload_n 2, 1) := by decide +kernel
theorem dL_law_541 : decode cL_law 541 = .ok (.invokevirtual 126, 3) := by decide +kernel
theorem dL_law_544 : decode cL_law 544 = .ok (.if_icmp .eq 1078, 3) := by decide +kernel
theorem dL_law_547 : decode cL_law 547 = .ok (.iconst 0, 1) := by decide +kernel
theorem dL_law_548 : decode cL_law 548 = .ok (.ireturn, 1) := by decide +kernel
theorem dL_law_549 : decode cL_law 549 = .ok (.aload_n 1, 1) := by decide +kernel
theorem dL_law_550 : decode cL_law 550 = .ok (.aload_n 0, 1) := by decide +kernel
theorem dL_law_551 : decode cL_law 551 = .ok (.iload 4, 2) := by decide +kernel
theorem dL_law_553 : decode cL_law 553 = .ok (.iconst 1, 1) := by decide +kernel
theorem dL_law_554 : decode cL_law 554 = .ok (.iadd, 1) := by decide +kernel
theorem dL_law_555 : decode cL_law 555 = .ok (.iaload, 1) := by decide +kernel
theorem dL_law_556 : decode cL_law 556 = .ok (.aload_n 0, 1) := by decide +kernel
theorem dL_law_557 : decode cL_law 557 = .ok (.iload 4, 2) := by decide +kernel
theorem dL_law_559 : decode cL_law 559 = .ok (.iconst 2, 1) := by decide +kernel
theorem dL_law_560 : decode cL_law 560 = .ok (.iadd, 1) := by decide +kernel
theorem dL_law_561 : decode cL_law 561 = .ok (.iaload, 1) := by decide +kernel
theorem dL_law_562 : decode cL_law 562 = .ok (.aload_n 0, 1) := by decide +kernel
theorem dL_law_563 : decode cL_law 563 = .ok (.iload 4, 2) := by decide +kernel
theorem dL_law_565 : decode cL_law 565 = .ok (.iconst 3, 1) := by decide +kernel
theorem dL_law_566 : decode cL_law 566 = .ok (.iadd, 1) := by decide +kernel
theorem dL_law_567 : decode cL_law 567 = .ok (.iaload, 1) := by decide +kernel
theorem dL_law_568 : decode cL_law 568 = .ok (.aload_n 3, 1) := by decide +kernel
theorem dL_law_569 : decode cL_law 569 = .ok (.invokestatic 127, 3) := by decide +kernel
theorem dL_law_572 : decode cL_law 572 = .ok (.istore 5, 2) := by decide +kernel
theorem dL_law_574 : decode cL_law 574 = .ok (.aload_n 2, 1) := by decide +kernel
theorem dL_law_575 : decode cL_law 575 = .ok (.aload_n 0, 1) := by decide +kernel
theorem dL_law_576 : decode cL_law 576 = .ok (.iload 4, 2) := by decide +kernel
theorem dL_law_578 : decode cL_law 578 = .ok (.iconst 1, 1) := by decide +kernel
theorem dL_law_579 : decode cL_law 579 = .ok (.iadd, 1) := by decide +kernel
theorem dL_law_580 : decode cL_law 580 = .ok (.iaload, 1) := by decide +kernel
theorem dL_law_581 : decode cL_law 581 = .ok (.aload_n 0, 1) := by decide +kernel
theorem dL_law_582 : decode cL_law 582 = .ok (.iload 4, 2) := by decide +kernel
theorem dL_law_584 : decode cL_law 584 = .ok (.iconst 2, 1) := by decide +kernel
theorem dL_law_585 : decode cL_law 585 = .ok (.iadd, 1) := by decide +kernel
theorem dL_law_586 : decode cL_law 586 = .ok (.iaload, 1) := by decide +kernel
theorem dL_law_587 : decode cL_law 587 = .ok (.aload_n 0, 1) := by decide +kernel
theorem dL_law_588 : decode cL_law 588 = .ok (.iload 4, 2) := by decide +kernel
theorem dL_law_590 : decode cL_law 590 = .ok (.iconst 3, 1) := by decide +kernel
theorem dL_law_591 : decode cL_law 591 = .ok (.iadd, 1) := by decide +kernel
theorem dL_law_592 : decode cL_law 592 = .ok (.iaload, 1) := by decide +kernel
theorem dL_law_593 : decode cL_law 593 = .ok (.invokevirtual 130, 3) := by decide +kernel
theorem dL_law_596 : decode cL_law 596 = .ok (.istore 6, 2) := by decide +kernel
theorem dL_law_598 : decode cL_law 598 = .ok (.aload_n 2, 1) := by decide +kernel
theorem dL_law_599 : decode cL_law 599 = .ok (.invokevirtual 104, 3) := by decide +kernel
theorem dL_law_602 : decode cL_law 602 = .ok (.iload 5, 2) := by decide +kernel
theorem dL_law_604 : decode cL_law 604 = .ok (.if_icmp .eq 5, 3) := by decide +kernel
theorem dL_law_607 : decode cL_law 607 = .ok (.iconst 0, 1) := by decide +kernel
theorem dL_law_608 : decode cL_law 608 = .ok (.ireturn, 1) := by decide +kernel
theorem dL_law_609 : decode cL_law 609 = .ok (.iload 5, 2) := by decide +kernel
theorem dL_law_611 : decode cL_law 611 = .ok (.ifCond .ne 15, 3) := by decide +kernel
theorem dL_law_614 : decode cL_law 614 = .ok (.aload_n 3, 1) := by decide +kernel
theorem dL_law_615 : decode cL_law 615 = .ok (.iconst 0, 1) := by decide +kernel
theorem dL_law_616 : decode cL_law 616 = .ok (.laload, 1) := by decide +kernel
theorem dL_law_617 : decode cL_law 617 = .ok (.iload 6, 2) := by decide +kernel
theorem dL_law_619 : decode cL_law 619 = .ok (.i2l, 1) := by decide +kernel
theorem dL_law_620 : decode cL_law 620 = .ok (.lcmp, 1) := by decide +kernel
theorem dL_law_621 : decode cL_law 621 = .ok (.ifCond .eq 5, 3) := by decide +kernel
theorem dL_law_624 : decode cL_law 624 = .ok (.iconst 0, 1) := by decide +kernel
theorem dL_law_625 : decode cL_law 625 = .ok (.ireturn, 1) := by decide +kernel
theorem dL_law_626 : decode cL_law 626 = .ok (.goto 996, 3) := by decide +kernel
theorem dL_law_629 : decode cL_law 629 = .ok (.aload_n 1, 1) := by decide +kernel
theorem dL_law_630 : decode cL_law 630 = .ok (.aload_n 0, 1) := by decide +kernel
theorem dL_law_631 : decode cL_law 631 = .ok (.iload 4, 2) := by decide +kernel
theorem dL_law_633 : decode cL_law 633 = .ok (.iconst 1, 1) := by decide +kernel
theorem dL_law_634 : decode cL_law 634 = .ok (.iadd, 1) := by decide +kernel
theorem dL_law_635 : decode cL_law 635 = .ok (.iaload, 1) := by decide +kernel
theorem dL_law_636 : decode cL_law 636 = .ok (.aload_n 0, 1) := by decide +kernel
theorem dL_law_637 : decode cL_law 637 = .ok (.iload 4, 2) := by decide +kernel
theorem dL_law_639 : decode cL_law 639 = .ok (.iconst 2, 1) := by decide +kernel
theorem dL_law_640 : decode cL_law 640 = .ok (.iadd, 1) := by decide +kernel
theorem dL_law_641 : decode cL_law 641 = .ok (.iaload, 1) := by decide +kernel
theorem dL_law_642 : decode cL_law 642 = .ok (.aload_n 3, 1) := by decide +kernel
theorem dL_law_643 : decode cL_law 643 = .ok (.invokestatic 131, 3) := by decide +kernel
theorem dL_law_646 : decode cL_law 646 = .ok (.istore 5, 2) := by decide +kernel
theorem dL_law_648 : decode cL_law 648 = .ok (.aload_n 2, 1) := by decide +kernel
theorem dL_law_649 : decode cL_law 649 = .ok (.aload_n 0, 1) := by decide +kernel
theorem dL_law_650 : decode cL_law 650 = .ok (.iload 4, 2) := by decide +kernel
theorem dL_law_652 : decode cL_law 652 = .ok (.iconst 1, 1) := by decide +kernel
theorem dL_law_653 : decode cL_law 653 = .ok (.iadd, 1) := by decide +kernel
theorem dL_law_654 : decode cL_law 654 = .ok (.iaload, 1) := by decide +kernel
theorem dL_law_655 : decode cL_law 655 = .ok (.aload_n 0, 1) := by decide +kernel
theorem dL_law_656 : decode cL_law 656 = .ok (.iload 4, 2) := by decide +kernel
theorem dL_law_658 : decode cL_law 658 = .ok (.iconst 2, 1) := by decide +kernel
theorem dL_law_659 : decode cL_law 659 = .ok (.iadd, 1) := by decide +kernel
theorem dL_law_660 : decode cL_law 660 = .ok (.iaload, 1) := by decide +kernel
theorem dL_law_661 : decode cL_law 661 = .ok (.invokevirtual 133, 3) := by decide +kernel
theorem dL_law_664 : decode cL_law 664 = .ok (.istore 6, 2) := by decide +kernel
theorem dL_law_666 : decode cL_law 666 = .ok (.aload_n 2, 1) := by decide +kernel
theorem dL_law_667 : decode cL_law 667 = .ok (.invokevirtual 104, 3) := by decide +kernel
theorem dL_law_670 : decode cL_law 670 = .ok (.iload 5, 2) := by decide +kernel
theorem dL_law_672 : decode cL_law 672 = .ok (.if_icmp .eq 5, 3) := by decide +kernel
theorem dL_law_675 : decode cL_law 675 = .ok (.iconst 0, 1) := by decide +kernel
theorem dL_law_676 : decode cL_law 676 = .ok (.ireturn, 1) := by decide +kernel
theorem dL_law_677 : decode cL_law 677 = .ok (.iload 5, 2) := by decide +kernel
theorem dL_law_679 : decode cL_law 679 = .ok (.ifCond .ne 15, 3) := by decide +kernel
theorem dL_law_682 : decode cL_law 682 = .ok (.aload_n 3, 1) := by decide +kernel
theorem dL_law_683 : decode cL_law 683 = .ok (.iconst 0, 1) := by decide +kernel
theorem dL_law_684 : decode cL_law 684 = .ok (.laload, 1) := by decide +kernel
theorem dL_law_685 : decode cL_law 685 = .ok (.iload 6, 2) := by decide +kernel
theorem dL_law_687 : decode cL_law 687 = .ok (.i2l, 1) := by decide +kernel
theorem dL_law_688 : decode cL_law 688 = .ok (.lcmp, 1) := by decide +kernel
theorem dL_law_689 : decode cL_law 689 = .ok (.ifCond .eq 5, 3) := by decide +kernel
theorem dL_law_692 : decode cL_law 692 = .ok (.iconst 0, 1) := by decide +kernel
theorem dL_law_693 : decode cL_law 693 = .ok (.ireturn, 1) := by decide +kernel
theorem dL_law_694 : decode cL_law 694 = .ok (.goto 928, 3) := by decide +kernel
theorem dL_law_697 : decode cL_law 697 = .ok (.aload_n 1, 1) := by decide +kernel
theorem dL_law_698 : decode cL_law 698 = .ok (.aload_n 0, 1) := by decide +kernel
theorem dL_law_699 : decode cL_law 699 = .ok (.iload 4, 2) := by decide +kernel
theorem dL_law_701 : decode cL_law 701 = .ok (.iconst 1, 1) := by decide +kernel
theorem dL_law_702 : decode cL_law 702 = .ok (.iadd, 1) := by decide +kernel
theorem dL_law_703 : decode cL_law 703 = .ok (.iaload, 1) := by decide +kernel
theorem dL_law_704 : decode cL_law 704 = .ok (.i2c, 1) := by decide +kernel
theorem dL_law_705 : decode cL_law 705 = .ok (.aload_n 3, 1) := by decide +kernel
theorem dL_law_706 : decode cL_law 706 = .ok (.invokestatic 134, 3) := by decide +kernel
theorem dL_law_709 : decode cL_law 709 = .ok (.istore 5, 2) := by decide +kernel
theorem dL_law_711 : decode cL_law 711 = .ok (.aload_n 2, 1) := by decide +kernel
theorem dL_law_712 : decode cL_law 712 = .ok (.aload_n 0, 1) := by decide +kernel
theorem dL_law_713 : decode cL_law 713 = .ok (.iload 4, 2) := by decide +kernel
theorem dL_law_715 : decode cL_law 715 = .ok (.iconst 1, 1) := by decide +kernel
theorem dL_law_716 : decode cL_law 716 = .ok (.iadd, 1) := by decide +kernel
theorem dL_law_717 : decode cL_law 717 = .ok (.iaload, 1) := by decide +kernel
theorem dL_law_718 : decode cL_law 718 = .ok (.i2c, 1) := by decide +kernel
theorem dL_law_719 : decode cL_law 719 = .ok (.invokevirtual 137, 3) := by decide +kernel
theorem dL_law_722 : decode cL_law 722 = .ok (.istore 6, 2) := by decide +kernel
theorem dL_law_724 : decode cL_law 724 = .ok (.aload_n 2, 1) := by decide +kernel
theorem dL_law_725 : decode cL_law 725 = .ok (.invokevirtual 104, 3) := by decide +kernel
theorem dL_law_728 : decode cL_law 728 = .ok (.iload 5, 2) := by decide +kernel
theorem dL_law_730 : decode cL_law 730 = .ok (.if_icmp .eq 5, 3) := by decide +kernel
theorem dL_law_733 : decode cL_law 733 = .ok (.iconst 0, 1) := by decide +kernel
theorem dL_law_734 : decode cL_law 734 = .ok (.ireturn, 1) := by decide +kernel
theorem dL_law_735 : decode cL_law 735 = .ok (.iload 5, 2) := by decide +kernel
theorem dL_law_737 : decode cL_law 737 = .ok (.ifCond .ne 15, 3) := by decide +kernel
theorem dL_law_740 : decode cL_law 740 = .ok (.aload_n 3, 1) := by decide +kernel
theorem dL_law_741 : decode cL_law 741 = .ok (.iconst 0, 1) := by decide +kernel
theorem dL_law_742 : decode cL_law 742 = .ok (.laload, 1) := by decide +kernel
theorem dL_law_743 : decode cL_law 743 = .ok (.iload 6, 2) := by decide +kernel
theorem dL_law_745 : decode cL_law 745 = .ok (.i2l, 1) := by decide +kernel
theorem dL_law_746 : decode cL_law 746 = .ok (.lcmp, 1) := by decide +kernel
theorem dL_law_747 : decode cL_law 747 = .ok (.ifCond .eq 5, 3) := by decide +kernel
theorem dL_law_750 : decode cL_law 750 = .ok (.iconst 0, 1) := by decide +kernel
theorem dL_law_751 : decode cL_law 751 = .ok (.ireturn, 1) := by decide +kernel
theorem dL_law_752 : decode cL_law 752 = .ok (.goto 870, 3) := by decide +kernel
theorem dL_law_755 : decode cL_law 755 = .ok (.aload_n 1, 1) := by decide +kernel
theorem dL_law_756 : decode cL_law 756 = .ok (.aload_n 3, 1) := by decide +kernel
theorem dL_law_757 : decode cL_law 757 = .ok (.invokestatic 138, 3) := by decide +kernel
theorem dL_law_760 : decode cL_law 760 = .ok (.istore 5, 2) := by decide +kernel
theorem dL_law_762 : decode cL_law 762 = .ok (.aload_n 2, 1) := by decide +kernel
theorem dL_law_763 : decode cL_law 763 = .ok (.invokevirtual 141, 3) := by decide +kernel
theorem dL_law_766 : decode cL_law 766 = .ok (.istore 6, 2) := by decide +kernel
theorem dL_law_768 : decode cL_law 768 = .ok (.aload_n 2, 1) := by decide +kernel
theorem dL_law_769 : decode cL_law 769 = .ok (.invokevirtual 104, 3) := by decide +kernel
theorem dL_law_772 : decode cL_law 772 = .ok (.iload 5, 2) := by decide +kernel
theorem dL_law_774 : decode cL_law 774 = .ok (.if_icmp .eq 5, 3) := by decide +kernel
theorem dL_law_777 : decode cL_law 777 = .ok (.iconst 0, 1) := by decide +kernel
theorem dL_law_778 : decode cL_law 778 = .ok (.ireturn, 1) := by decide +kernel
theorem dL_law_779 : decode cL_law 779 = .ok (.iload 5, 2) := by decide +kernel
theorem dL_law_781 : decode cL_law 781 = .ok (.ifCond .ne 15, 3) := by decide +kernel
theorem dL_law_784 : decode cL_law 784 = .ok (.aload_n 3, 1) := by decide +kernel
theorem dL_law_785 : decode cL_law 785 = .ok (.iconst 0, 1) := by decide +kernel
theorem dL_law_786 : decode cL_law 786 = .ok (.laload, 1) := by decide +kernel
theorem dL_law_787 : decode cL_law 787 = .ok (.iload 6, 2) := by decide +kernel
theorem dL_law_789 : decode cL_law 789 = .ok (.i2l, 1) := by decide +kernel
theorem dL_law_790 : decode cL_law 790 = .ok (.lcmp, 1) := by decide +kernel
theorem dL_law_791 : decode cL_law 791 = .ok (.ifCond .eq 5, 3) := by decide +kernel
theorem dL_law_794 : decode cL_law 794 = .ok (.iconst 0, 1) := by decide +kernel
theorem dL_law_795 : decode cL_law 795 = .ok (.ireturn, 1) := by decide +kernel
theorem dL_law_796 : decode cL_law 796 = .ok (.goto 826, 3) := by decide +kernel
theorem dL_law_799 : decode cL_law 799 = .ok (.aload_n 1, 1) := by decide +kernel
theorem dL_law_800 : decode cL_law 800 = .ok (.invokevirtual 142, 3) := by decide +kernel
theorem dL_law_803 : decode cL_law 803 = .ok (.aload_n 2, 1) := by decide +kernel
theorem dL_law_804 : decode cL_law 804 = .ok (.invokevirtual 145, 3) := by decide +kernel
theorem dL_law_807 : decode cL_law 807 = .ok (.if_icmp .eq 815, 3) := by decide +kernel
theorem dL_law_810 : decode cL_law 810 = .ok (.iconst 0, 1) := by decide +kernel
theorem dL_law_811 : decode cL_law 811 = .ok (.ireturn, 1) := by decide +kernel
theorem dL_law_812 : decode cL_law 812 = .ok (.aload_n 1, 1) := by decide +kernel
theorem dL_law_813 : decode cL_law 813 = .ok (.aload_n 0, 1) := by decide +kernel
theorem dL_law_814 : decode cL_law 814 = .ok (.iload 4, 2) := by decide +kernel
theorem dL_law_816 : decode cL_law 816 = .ok (.iconst 1, 1) := by decide +kernel
theorem dL_law_817 : decode cL_law 817 = .ok (.iadd, 1) := by decide +kernel
theorem dL_law_818 : decode cL_law 818 = .ok (.iaload, 1) := by decide +kernel
theorem dL_law_819 : decode cL_law 819 = .ok (.aload_n 3, 1) := by decide +kernel
theorem dL_law_820 : decode cL_law 820 = .ok (.invokestatic 146, 3) := by decide +kernel
theorem dL_law_823 : decode cL_law 823 = .ok (.istore 5, 2) := by decide +kernel
theorem dL_law_825 : decode cL_law 825 = .ok (.aload_n 2, 1) := by decide +kernel
theorem dL_law_826 : decode cL_law 826 = .ok (.aload_n 0, 1) := by decide +kernel
theorem dL_law_827 : decode cL_law 827 = .ok (.iload 4, 2) := by decide +kernel
theorem dL_law_829 : decode cL_law 829 = .ok (.iconst 1, 1) := by decide +kernel
theorem dL_law_830 : decode cL_law 830 = .ok (.iadd, 1) := by decide +kernel
theorem dL_law_831 : decode cL_law 831 = .ok (.iaload, 1) := by decide +kernel
theorem dL_law_832 : decode cL_law 832 = .ok (.invokevirtual 148, 3) := by decide +kernel
theorem dL_law_835 : decode cL_law 835 = .ok (.istore 6, 2) := by decide +kernel
theorem dL_law_837 : decode cL_law 837 = .ok (.aload_n 2, 1) := by decide +kernel
theorem dL_law_838 : decode cL_law 838 = .ok (.invokevirtual 104, 3) := by decide +kernel
theorem dL_law_841 : decode cL_law 841 = .ok (.iload 5, 2) := by decide +kernel
theorem dL_law_843 : decode cL_law 843 = .ok (.if_icmp .eq 5, 3) := by decide +kernel
theorem dL_law_846 : decode cL_law 846 = .ok (.iconst 0, 1) := by decide +kernel
theorem dL_law_847 : decode cL_law 847 = .ok (.ireturn, 1) := by decide +kernel
theorem dL_law_848 : decode cL_law 848 = .ok (.iload 5, 2) := by decide +kernel
theorem dL_law_850 : decode cL_law 850 = .ok (.ifCond .ne 15, 3) := by decide +kernel
theorem dL_law_853 : decode cL_law 853 = .ok (.aload_n 3, 1) := by decide +kernel
theorem dL_law_854 : decode cL_law 854 = .ok (.iconst 0, 1) := by decide +kernel
theorem dL_law_855 : decode cL_law 855 = .ok (.laload, 1) := by decide +kernel
theorem dL_law_856 : decode cL_law 856 = .ok (.iload 6, 2) := by decide +kernel
theorem dL_law_858 : decode cL_law 858 = .ok (.i2l, 1) := by decide +kernel
theorem dL_law_859 : decode cL_law 859 = .ok (.lcmp, 1) := by decide +kernel
theorem dL_law_860 : decode cL_law 860 = .ok (.ifCond .eq 5, 3) := by decide +kernel
theorem dL_law_863 : decode cL_law 863 = .ok (.iconst 0, 1) := by decide +kernel
theorem dL_law_864 : decode cL_law 864 = .ok (.ireturn, 1) := by decide +kernel
theorem dL_law_865 : decode cL_law 865 = .ok (.goto 757, 3) := by decide +kernel
theorem dL_law_868 : decode cL_law 868 = .ok (.aload_n 1, 1) := by decide +kernel
theorem dL_law_869 : decode cL_law 869 = .ok (.aload_n 0, 1) := by decide +kernel
theorem dL_law_870 : decode cL_law 870 = .ok (.iload 4, 2) := by decide +kernel
theorem dL_law_872 : decode cL_law 872 = .ok (.iconst 1, 1) := by decide +kernel
theorem dL_law_873 : decode cL_law 873 = .ok (.iadd, 1) := by decide +kernel
theorem dL_law_874 : decode cL_law 874 = .ok (.iaload, 1) := by decide +kernel
theorem dL_law_875 : decode cL_law 875 = .ok (.aload_n 3, 1) := by decide +kernel
theorem dL_law_876 : decode cL_law 876 = .ok (.invokestatic 149, 3) := by decide +kernel
theorem dL_law_879 : decode cL_law 879 = .ok (.istore 5, 2) := by decide +kernel
theorem dL_law_881 : decode cL_law 881 = .ok (.aload_n 2, 1) := by decide +kernel
theorem dL_law_882 : decode cL_law 882 = .ok (.aload_n 0, 1) := by decide +kernel
theorem dL_law_883 : decode cL_law 883 = .ok (.iload 4, 2) := by decide +kernel
theorem dL_law_885 : decode cL_law 885 = .ok (.iconst 1, 1) := by decide +kernel
theorem dL_law_886 : decode cL_law 886 = .ok (.iadd, 1) := by decide +kernel
theorem dL_law_887 : decode cL_law 887 = .ok (.iaload, 1) := by decide +kernel
theorem dL_law_888 : decode cL_law 888 = .ok (.invokevirtual 151, 3) := by decide +kernel
theorem dL_law_891 : decode cL_law 891 = .ok (.istore 6, 2) := by decide +kernel
theorem dL_law_893 : decode cL_law 893 = .ok (.aload_n 2, 1) := by decide +kernel
theorem dL_law_894 : decode cL_law 894 = .ok (.invokevirtual 104, 3) := by decide +kernel
theorem dL_law_897 : decode cL_law 897 = .ok (.iload 5, 2) := by decide +kernel
theorem dL_law_899 : decode cL_law 899 = .ok (.if_icmp .eq 5, 3) := by decide +kernel
theorem dL_law_902 : decode cL_law 902 = .ok (.iconst 0, 1) := by decide +kernel
theorem dL_law_903 : decode cL_law 903 = .ok (.ireturn, 1) := by decide +kernel
theorem dL_law_904 : decode cL_law 904 = .ok (.iload 5, 2) := by decide +kernel
theorem dL_law_906 : decode cL_law 906 = .ok (.ifCond .ne 15, 3) := by decide +kernel
theorem dL_law_909 : decode cL_law 909 = .ok (.aload_n 3, 1) := by decide +kernel
theorem dL_law_910 : decode cL_law 910 = .ok (.iconst 0, 1) := by decide +kernel
theorem dL_law_911 : decode cL_law 911 = .ok (.laload, 1) := by decide +kernel
theorem dL_law_912 : decode cL_law 912 = .ok (.iload 6, 2) := by decide +kernel
theorem dL_law_914 : decode cL_law 914 = .ok (.i2l, 1) := by decide +kernel
theorem dL_law_915 : decode cL_law 915 = .ok (.lcmp, 1) := by decide +kernel
theorem dL_law_916 : decode cL_law 916 = .ok (.ifCond .eq 5, 3) := by decide +kernel
theorem dL_law_919 : decode cL_law 919 = .ok (.iconst 0, 1) := by decide +kernel
theorem dL_law_920 : decode cL_law 920 = .ok (.ireturn, 1) := by decide +kernel
theorem dL_law_921 : decode cL_law 921 = .ok (.goto 701, 3) := by decide +kernel
theorem dL_law_924 : decode cL_law 924 = .ok (.aload_n 1, 1) := by decide +kernel
theorem dL_law_925 : decode cL_law 925 = .ok (.aload_n 0, 1) := by decide +kernel
theorem dL_law_926 : decode cL_law 926 = .ok (.iload 4, 2) := by decide +kernel
theorem dL_law_928 : decode cL_law 928 = .ok (.iconst 1, 1) := by decide +kernel
theorem dL_law_929 : decode cL_law 929 = .ok (.iadd, 1) := by decide +kernel
theorem dL_law_930 : decode cL_law 930 = .ok (.iaload, 1) := by decide +kernel
theorem dL_law_931 : decode cL_law 931 = .ok (.aload_n 3, 1) := by decide +kernel
theorem dL_law_932 : decode cL_law 932 = .ok (.invokestatic 152, 3) := by decide +kernel
theorem dL_law_935 : decode cL_law 935 = .ok (.istore 5, 2) := by decide +kernel
theorem dL_law_937 : decode cL_law 937 = .ok (.aload_n 2, 1) := by decide +kernel
theorem dL_law_938 : decode cL_law 938 = .ok (.aload_n 0, 1) := by decide +kernel
theorem dL_law_939 : decode cL_law 939 = .ok (.iload 4, 2) := by decide +kernel
theorem dL_law_941 : decode cL_law 941 = .ok (.iconst 1, 1) := by decide +kernel
theorem dL_law_942 : decode cL_law 942 = .ok (.iadd, 1) := by decide +kernel
theorem dL_law_943 : decode cL_law 943 = .ok (.iaload, 1) := by decide +kernel
theorem dL_law_944 : decode cL_law 944 = .ok (.invokevirtual 154, 3) := by decide +kernel
theorem dL_law_947 : decode cL_law 947 = .ok (.istore 6, 2) := by decide +kernel
theorem dL_law_949 : decode cL_law 949 = .ok (.aload_n 2, 1) := by decide +kernel
theorem dL_law_950 : decode cL_law 950 = .ok (.invokevirtual 104, 3) := by decide +kernel
theorem dL_law_953 : decode cL_law 953 = .ok (.iload 5, 2) := by decide +kernel
theorem dL_law_955 : decode cL_law 955 = .ok (.if_icmp .eq 5, 3) := by decide +kernel
theorem dL_law_958 : decode cL_law 958 = .ok (.iconst 0, 1) := by decide +kernel
theorem dL_law_959 : decode cL_law 959 = .ok (.ireturn, 1) := by decide +kernel
theorem dL_law_960 : decode cL_law 960 = .ok (.iload 5, 2) := by decide +kernel
theorem dL_law_962 : decode cL_law 962 = .ok (.ifCond .ne 15, 3) := by decide +kernel
theorem dL_law_965 : decode cL_law 965 = .ok (.aload_n 3, 1) := by decide +kernel
theorem dL_law_966 : decode cL_law 966 = .ok (.iconst 0, 1) := by decide +kernel
theorem dL_law_967 : decode cL_law 967 = .ok (.laload, 1) := by decide +kernel
theorem dL_law_968 : decode cL_law 968 = .ok (.iload 6, 2) := by decide +kernel
theorem dL_law_970 : decode cL_law 970 = .ok (.i2l, 1) := by decide +kernel
theorem dL_law_971 : decode cL_law 971 = .ok (.lcmp, 1) := by decide +kernel
theorem dL_law_972 : decode cL_law 972 = .ok (.ifCond .eq 5, 3) := by decide +kernel
theorem dL_law_975 : decode cL_law 975 = .ok (.iconst 0, 1) := by decide +kernel
theorem dL_law_976 : decode cL_law 976 = .ok (.ireturn, 1) := by decide +kernel
theorem dL_law_977 : decode cL_law 977 = .ok (.goto 645, 3) := by decide +kernel
theorem dL_law_980 : decode cL_law 980 = .ok (.aload_n 1, 1) := by decide +kernel
theorem dL_law_981 : decode cL_law 981 = .ok (.aload_n 0, 1) := by decide +kernel
theorem dL_law_982 : decode cL_law 982 = .ok (.iload 4, 2) := by decide +kernel
theorem dL_law_984 : decode cL_law 984 = .ok (.iconst 1, 1) := by decide +kernel
theorem dL_law_985 : decode cL_law 985 = .ok (.iadd, 1) := by decide +kernel
theorem dL_law_986 : decode cL_law 986 = .ok (.iaload, 1) := by decide +kernel
theorem dL_law_987 : decode cL_law 987 = .ok (.aload_n 0, 1) := by decide +kernel
theorem dL_law_988 : decode cL_law 988 = .ok (.iload 4, 2) := by decide +kernel
theorem dL_law_990 : decode cL_law 990 = .ok (.iconst 2, 1) := by decide +kernel
theorem dL_law_991 : decode cL_law 991 = .ok (.iadd, 1) := by decide +kernel
theorem dL_law_992 : decode cL_law 992 = .ok (.iaload, 1) := by decide +kernel
theorem dL_law_993 : decode cL_law 993 = .ok (.aload_n 3, 1) := by decide +kernel
theorem dL_law_994 : decode cL_law 994 = .ok (.invokestatic 155, 3) := by decide +kernel
theorem dL_law_997 : decode cL_law 997 = .ok (.istore 5, 2) := by decide +kernel
theorem dL_law_999 : decode cL_law 999 = .ok (.aload_n 2, 1) := by decide +kernel
theorem dL_law_1000 : decode cL_law 1000 = .ok (.aload_n 0, 1) := by decide +kernel
theorem dL_law_1001 : decode cL_law 1001 = .ok (.iload 4, 2) := by decide +kernel
theorem dL_law_1003 : decode cL_law 1003 = .ok (.iconst 1, 1) := by decide +kernel
theorem dL_law_1004 : decode cL_law 1004 = .ok (.iadd, 1) := by decide +kernel
theorem dL_law_1005 : decode cL_law 1005 = .ok (.iaload, 1) := by decide +kernel
theorem dL_law_1006 : decode cL_law 1006 = .ok (.aload_n 0, 1) := by decide +kernel
theorem dL_law_1007 : decode cL_law 1007 = .ok (.iload 4, 2) := by decide +kernel
theorem dL_law_1009 : decode cL_law 1009 = .ok (.iconst 2, 1) := by decide +kernel
theorem dL_law_1010 : decode cL_law 1010 = .ok (.iadd, 1) := by decide +kernel
theorem dL_law_1011 : decode cL_law 1011 = .ok (.iaload, 1) := by decide +kernel
theorem dL_law_1012 : decode cL_law 1012 = .ok (.invokevirtual 157, 3) := by decide +kernel
theorem dL_law_1015 : decode cL_law 1015 = .ok (.istore 6, 2) := by decide +kernel
theorem dL_law_1017 : decode cL_law 1017 = .ok (.aload_n 2, 1) := by decide +kernel
theorem dL_law_1018 : decode cL_law 1018 = .ok (.invokevirtual 104, 3) := by decide +kernel
theorem dL_law_1021 : decode cL_law 1021 = .ok (.iload 5, 2) := by decide +kernel
theorem dL_law_1023 : decode cL_law 1023 = .ok (.if_icmp .eq 5, 3) := by decide +kernel
theorem dL_law_1026 : decode cL_law 1026 = .ok (.iconst 0, 1) := by decide +kernel
theorem dL_law_1027 : decode cL_law 1027 = .ok (.ireturn, 1) := by decide +kernel
theorem dL_law_1028 : decode cL_law 1028 = .ok (.iload 5, 2) := by decide +kernel
theorem dL_law_1030 : decode cL_law 1030 = .ok (.ifCond .ne 15, 3) := by decide +kernel
theorem dL_law_1033 : decode cL_law 1033 = .ok (.aload_n 3, 1) := by decide +kernel
theorem dL_law_1034 : decode cL_law 1034 = .ok (.iconst 0, 1) := by decide +kernel
theorem dL_law_1035 : decode cL_law 1035 = .ok (.laload, 1) := by decide +kernel
theorem dL_law_1036 : decode cL_law 1036 = .ok (.iload 6, 2) := by decide +kernel
theorem dL_law_1038 : decode cL_law 1038 = .ok (.i2l, 1) := by decide +kernel
theorem dL_law_1039 : decode cL_law 1039 = .ok (.lcmp, 1) := by decide +kernel
theorem dL_law_1040 : decode cL_law 1040 = .ok (.ifCond .eq 5, 3) := by decide +kernel
theorem dL_law_1043 : decode cL_law 1043 = .ok (.iconst 0, 1) := by decide +kernel
theorem dL_law_1044 : decode cL_law 1044 = .ok (.ireturn, 1) := by decide +kernel
theorem dL_law_1045 : decode cL_law 1045 = .ok (.goto 577, 3) := by decide +kernel
theorem dL_law_1048 : decode cL_law 1048 = .ok (.aload_n 1, 1) := by decide +kernel
theorem dL_law_1049 : decode cL_law 1049 = .ok (.aload_n 0, 1) := by decide +kernel
theorem dL_law_1050 : decode cL_law 1050 = .ok (.iload 4, 2) := by decide +kernel
theorem dL_law_1052 : decode cL_law 1052 = .ok (.iconst 1, 1) := by decide +kernel
theorem dL_law_1053 : decode cL_law 1053 = .ok (.iadd, 1) := by decide +kernel
theorem dL_law_1054 : decode cL_law 1054 = .ok (.iaload, 1) := by decide +kernel
theorem dL_law_1055 : decode cL_law 1055 = .ok (.aload_n 3, 1) := by decide +kernel
theorem dL_law_1056 : decode cL_law 1056 = .ok (.invokestatic 158, 3) := by decide +kernel
theorem dL_law_1059 : decode cL_law 1059 = .ok (.istore 5, 2) := by decide +kernel
theorem dL_law_1061 : decode cL_law 1061 = .ok (.aload_n 2, 1) := by decide +kernel
theorem dL_law_1062 : decode cL_law 1062 = .ok (.aload_n 0, 1) := by decide +kernel
theorem dL_law_1063 : decode cL_law 1063 = .ok (.iload 4, 2) := by decide +kernel
theorem dL_law_1065 : decode cL_law 1065 = .ok (.iconst 1, 1) := by decide +kernel
theorem dL_law_1066 : decode cL_law 1066 = .ok (.iadd, 1) := by decide +kernel
theorem dL_law_1067 : decode cL_law 1067 = .ok (.iaload, 1) := by decide +kernel
theorem dL_law_1068 : decode cL_law 1068 = .ok (.invokevirtual 160, 3) := by decide +kernel
theorem dL_law_1071 : decode cL_law 1071 = .ok (.istore 6, 2) := by decide +kernel
theorem dL_law_1073 : decode cL_law 1073 = .ok (.aload_n 2, 1) := by decide +kernel
theorem dL_law_1074 : decode cL_law 1074 = .ok (.invokevirtual 104, 3) := by decide +kernel
theorem dL_law_1077 : decode cL_law 1077 = .ok (.iload 5, 2) := by decide +kernel
theorem dL_law_1079 : decode cL_law 1079 = .ok (.if_icmp .eq 5, 3) := by decide +kernel
theorem dL_law_1082 : decode cL_law 1082 = .ok (.iconst 0, 1) := by decide +kernel
theorem dL_law_1083 : decode cL_law 1083 = .ok (.ireturn, 1) := by decide +kernel
theorem dL_law_1084 : decode cL_law 1084 = .ok (.iload 5, 2) := by decide +kernel
theorem dL_law_1086 : decode cL_law 1086 = .ok (.ifCond .ne 15, 3) := by decide +kernel
theorem dL_law_1089 : decode cL_law 1089 = .ok (.aload_n 3, 1) := by decide +kernel
theorem dL_law_1090 : decode cL_law 1090 = .ok (.iconst 0, 1) := by decide +kernel
theorem dL_law_1091 : decode cL_law 1091 = .ok (.laload, 1) := by decide +kernel
theorem dL_law_1092 : decode cL_law 1092 = .ok (.iload 6, 2) := by decide +kernel
theorem dL_law_1094 : decode cL_law 1094 = .ok (.i2l, 1) := by decide +kernel
theorem dL_law_1095 : decode cL_law 1095 = .ok (.lcmp, 1) := by decide +kernel
theorem dL_law_1096 : decode cL_law 1096 = .ok (.ifCond .eq 5, 3) := by decide +kernel
theorem dL_law_1099 : decode cL_law 1099 = .ok (.iconst 0, 1) := by decide +kernel
theorem dL_law_1100 : decode cL_law 1100 = .ok (.ireturn, 1) := by decide +kernel
theorem dL_law_1101 : decode cL_law 1101 = .ok (.goto 521, 3) := by decide +kernel
theorem dL_law_1104 : decode cL_law 1104 = .ok (.aload_n 1, 1) := by decide +kernel
theorem dL_law_1105 : decode cL_law 1105 = .ok (.aload_n 0, 1) := by decide +kernel
theorem dL_law_1106 : decode cL_law 1106 = .ok (.iload 4, 2) := by decide +kernel
theorem dL_law_1108 : decode cL_law 1108 = .ok (.iconst 1, 1) := by decide +kernel
theorem dL_law_1109 : decode cL_law 1109 = .ok (.iadd, 1) := by decide +kernel
theorem dL_law_1110 : decode cL_law 1110 = .ok (.iaload, 1) := by decide +kernel
theorem dL_law_1111 : decode cL_law 1111 = .ok (.aload_n 3, 1) := by decide +kernel
theorem dL_law_1112 : decode cL_law 1112 = .ok (.invokestatic 161, 3) := by decide +kernel
theorem dL_law_1115 : decode cL_law 1115 = .ok (.istore 5, 2) := by decide +kernel
theorem dL_law_1117 : decode cL_law 1117 = .ok (.aload_n 2, 1) := by decide +kernel
theorem dL_law_1118 : decode cL_law 1118 = .ok (.aload_n 0, 1) := by decide +kernel
theorem dL_law_1119 : decode cL_law 1119 = .ok (.iload 4, 2) := by decide +kernel
theorem dL_law_1121 : decode cL_law 1121 = .ok (.iconst 1, 1) := by decide +kernel
theorem dL_law_1122 : decode cL_law 1122 = .ok (.iadd, 1) := by decide +kernel
theorem dL_law_1123 : decode cL_law 1123 = .ok (.iaload, 1) := by decide +kernel
theorem dL_law_1124 : decode cL_law 1124 = .ok (.invokevirtual 163, 3) := by decide +kernel
theorem dL_law_1127 : decode cL_law 1127 = .ok (.istore 6, 2) := by decide +kernel
theorem dL_law_1129 : decode cL_law 1129 = .ok (.aload_n 2, 1) := by decide +kernel
theorem dL_law_1130 : decode cL_law 1130 = .ok (.invokevirtual 104, 3) := by decide +kernel
theorem dL_law_1133 : decode cL_law 1133 = .ok (.iload 5, 2) := by decide +kernel
theorem dL_law_1135 : decode cL_law 1135 = .ok (.if_icmp .eq 5, 3) := by decide +kernel
theorem dL_law_1138 : decode cL_law 1138 = .ok (.iconst 0, 1) := by decide +kernel
theorem dL_law_1139 : decode cL_law 1139 = .ok (.ireturn, 1) := by decide +kernel
theorem dL_law_1140 : decode cL_law 1140 = .ok (.iload 5, 2) := by decide +kernel
theorem dL_law_1142 : decode cL_law 1142 = .ok (.ifCond .ne 15, 3) := by decide +kernel
theorem dL_law_1145 : decode cL_law 1145 = .ok (.aload_n 3, 1) := by decide +kernel
theorem dL_law_1146 : decode cL_law 1146 = .ok (.iconst 0, 1) := by decide +kernel
theorem dL_law_1147 : decode cL_law 1147 = .ok (.laload, 1) := by decide +kernel
theorem dL_law_1148 : decode cL_law 1148 = .ok (.iload 6, 2) := by decide +kernel
theorem dL_law_1150 : decode cL_law 1150 = .ok (.i2l, 1) := by decide +kernel
theorem dL_law_1151 : decode cL_law 1151 = .ok (.lcmp, 1) := by decide +kernel
theorem dL_law_1152 : decode cL_law 1152 = .ok (.ifCond .eq 5, 3) := by decide +kernel
theorem dL_law_1155 : decode cL_law 1155 = .ok (.iconst 0, 1) := by decide +kernel
theorem dL_law_1156 : decode cL_law 1156 = .ok (.ireturn, 1) := by decide +kernel
theorem dL_law_1157 : decode cL_law 1157 = .ok (.goto 465, 3) := by decide +kernel
theorem dL_law_1160 : decode cL_law 1160 = .ok (.aload_n 1, 1) := by decide +kernel
theorem dL_law_1161 : decode cL_law 1161 = .ok (.aload_n 0, 1) := by decide +kernel
theorem dL_law_1162 : decode cL_law 1162 = .ok (.iload 4, 2) := by decide +kernel
theorem dL_law_1164 : decode cL_law 1164 = .ok (.iconst 1, 1) := by decide +kernel
theorem dL_law_1165 : decode cL_law 1165 = .ok (.iadd, 1) := by decide +kernel
theorem dL_law_1166 : decode cL_law 1166 = .ok (.iaload, 1) := by decide +kernel
theorem dL_law_1167 : decode cL_law 1167 = .ok (.aload_n 3, 1) := by decide +kernel
theorem dL_law_1168 : decode cL_law 1168 = .ok (.invokestatic 164, 3) := by decide +kernel
theorem dL_law_1171 : decode cL_law 1171 = .ok (.istore 5, 2) := by decide +kernel
theorem dL_law_1173 : decode cL_law 1173 = .ok (.aload_n 2, 1) := by decide +kernel
theorem dL_law_1174 : decode cL_law 1174 = .ok (.aload_n 0, 1) := by decide +kernel
theorem dL_law_1175 : decode cL_law 1175 = .ok (.iload 4, 2) := by decide +kernel
theorem dL_law_1177 : decode cL_law 1177 = .ok (.iconst 1, 1) := by decide +kernel
theorem dL_law_1178 : decode cL_law 1178 = .ok (.iadd, 1) := by decide +kernel
theorem dL_law_1179 : decode cL_law 1179 = .ok (.iaload, 1) := by decide +kernel
theorem dL_law_1180 : decode cL_law 1180 = .ok (.invokevirtual 166, 3) := by decide +kernel
theorem dL_law_1183 : decode cL_law 1183 = .ok (.istore 6, 2) := by decide +kernel
theorem dL_law_1185 : decode cL_law 1185 = .ok (.aload_n 2, 1) := by decide +kernel
theorem dL_law_1186 : decode cL_law 1186 = .ok (.invokevirtual 104, 3) := by decide +kernel
theorem dL_law_1189 : decode cL_law 1189 = .ok (.iload 5, 2) := by decide +kernel
theorem dL_law_1191 : decode cL_law 1191 = .ok (.if_icmp .eq 5, 3) := by decide +kernel
theorem dL_law_1194 : decode cL_law 1194 = .ok (.iconst 0, 1) := by decide +kernel
theorem dL_law_1195 : decode cL_law 1195 = .ok (.ireturn, 1) := by decide +kernel
theorem dL_law_1196 : decode cL_law 1196 = .ok (.iload 5, 2) := by decide +kernel
theorem dL_law_1198 : decode cL_law 1198 = .ok (.ifCond .ne 15, 3) := by decide +kernel
theorem dL_law_1201 : decode cL_law 1201 = .ok (.aload_n 3, 1) := by decide +kernel
theorem dL_law_1202 : decode cL_law 1202 = .ok (.iconst 0, 1) := by decide +kernel
theorem dL_law_1203 : decode cL_law 1203 = .ok (.laload, 1) := by decide +kernel
theorem dL_law_1204 : decode cL_law 1204 = .ok (.iload 6, 2) := by decide +kernel
theorem dL_law_1206 : decode cL_law 1206 = .ok (.i2l, 1) := by decide +kernel
theorem dL_law_1207 : decode cL_law 1207 = .ok (.lcmp, 1) := by decide +kernel
theorem dL_law_1208 : decode cL_law 1208 = .ok (.ifCond .eq 5, 3) := by decide +kernel
theorem dL_law_1211 : decode cL_law 1211 = .ok (.iconst 0, 1) := by decide +kernel
theorem dL_law_1212 : decode cL_law 1212 = .ok (.ireturn, 1) := by decide +kernel
theorem dL_law_1213 : decode cL_law 1213 = .ok (.goto 409, 3) := by decide +kernel
theorem dL_law_1216 : decode cL_law 1216 = .ok (.aload_n 1, 1) := by decide +kernel
theorem dL_law_1217 : decode cL_law 1217 = .ok (.aload_n 0, 1) := by decide +kernel
theorem dL_law_1218 : decode cL_law 1218 = .ok (.iload 4, 2) := by decide +kernel
theorem dL_law_1220 : decode cL_law 1220 = .ok (.iconst 1, 1) := by decide +kernel
theorem dL_law_1221 : decode cL_law 1221 = .ok (.iadd, 1) := by decide +kernel
theorem dL_law_1222 : decode cL_law 1222 = .ok (.iaload, 1) := by decide +kernel
theorem dL_law_1223 : decode cL_law 1223 = .ok (.aload_n 3, 1) := by decide +kernel
theorem dL_law_1224 : decode cL_law 1224 = .ok (.invokestatic 167, 3) := by decide +kernel
theorem dL_law_1227 : decode cL_law 1227 = .ok (.istore 5, 2) := by decide +kernel
theorem dL_law_1229 : decode cL_law 1229 = .ok (.aload_n 2, 1) := by decide +kernel
theorem dL_law_1230 : decode cL_law 1230 = .ok (.aload_n 0, 1) := by decide +kernel
theorem dL_law_1231 : decode cL_law 1231 = .ok (.iload 4, 2) := by decide +kernel
theorem dL_law_1233 : decode cL_law 1233 = .ok (.iconst 1, 1) := by decide +kernel
theorem dL_law_1234 : decode cL_law 1234 = .ok (.iadd, 1) := by decide +kernel
theorem dL_law_1235 : decode cL_law 1235 = .ok (.iaload, 1) := by decide +kernel
theorem dL_law_1236 : decode cL_law 1236 = .ok (.invokevirtual 169, 3) := by decide +kernel
theorem dL_law_1239 : decode cL_law 1239 = .ok (.istore 6, 2) := by decide +kernel
theorem dL_law_1241 : decode cL_law 1241 = .ok (.aload_n 2, 1) := by decide +kernel
theorem dL_law_1242 : decode cL_law 1242 = .ok (.invokevirtual 104, 3) := by decide +kernel
theorem dL_law_1245 : decode cL_law 1245 = .ok (.iload 5, 2) := by decide +kernel
theorem dL_law_1247 : decode cL_law 1247 = .ok (.if_icmp .eq 5, 3) := by decide +kernel
theorem dL_law_1250 : decode cL_law 1250 = .ok (.iconst 0, 1) := by decide +kernel
theorem dL_law_1251 : decode cL_law 1251 = .ok (.ireturn, 1) := by decide +kernel
theorem dL_law_1252 : decode cL_law 1252 = .ok (.iload 5, 2) := by decide +kernel
theorem dL_law_1254 : decode cL_law 1254 = .ok (.ifCond .ne 15, 3) := by decide +kernel
theorem dL_law_1257 : decode cL_law 1257 = .ok (.aload_n 3, 1) := by decide +kernel
theorem dL_law_1258 : decode cL_law 1258 = .ok (.iconst 0, 1) := by decide +kernel
theorem dL_law_1259 : decode cL_law 1259 = .ok (.laload, 1) := by decide +kernel
theorem dL_law_1260 : decode cL_law 1260 = .ok (.iload 6, 2) := by decide +kernel
theorem dL_law_1262 : decode cL_law 1262 = .ok (.i2l, 1) := by decide +kernel
theorem dL_law_1263 : decode cL_law 1263 = .ok (.lcmp, 1) := by decide +kernel
theorem dL_law_1264 : decode cL_law 1264 = .ok (.ifCond .eq 5, 3) := by decide +kernel
theorem dL_law_1267 : decode cL_law 1267 = .ok (.iconst 0, 1) := by decide +kernel
theorem dL_law_1268 : decode cL_law 1268 = .ok (.ireturn, 1) := by decide +kernel
theorem dL_law_1269 : decode cL_law 1269 = .ok (.goto 353, 3) := by decide +kernel
theorem dL_law_1272 : decode cL_law 1272 = .ok (.aload_n 1, 1) := by decide +kernel
theorem dL_law_1273 : decode cL_law 1273 = .ok (.invokevirtual 170, 3) := by decide +kernel
theorem dL_law_1276 : decode cL_law 1276 = .ok (.aload_n 2, 1) := by decide +kernel
theorem dL_law_1277 : decode cL_law 1277 = .ok (.invokevirtual 173, 3) := by decide +kernel
theorem dL_law_1280 : decode cL_law 1280 = .ok (.if_icmp .eq 342, 3) := by decide +kernel
theorem dL_law_1283 : decode cL_law 1283 = .ok (.iconst 0, 1) := by decide +kernel
theorem dL_law_1284 : decode cL_law 1284 = .ok (.ireturn, 1) := by decide +kernel
theorem dL_law_1285 : decode cL_law 1285 = .ok (.aload_n 1, 1) := by decide +kernel
theorem dL_law_1286 : decode cL_law 1286 = .ok (.aload_n 0, 1) := by decide +kernel
theorem dL_law_1287 : decode cL_law 1287 = .ok (.iload 4, 2) := by decide +kernel
theorem dL_law_1289 : decode cL_law 1289 = .ok (.iconst 1, 1) := by decide +kernel
theorem dL_law_1290 : decode cL_law 1290 = .ok (.iadd, 1) := by decide +kernel
theorem dL_law_1291 : decode cL_law 1291 = .ok (.iaload, 1) := by decide +kernel
theorem dL_law_1292 : decode cL_law 1292 = .ok (.aload_n 3, 1) := by decide +kernel
theorem dL_law_1293 : decode cL_law 1293 = .ok (.invokestatic 174, 3) := by decide +kernel
theorem dL_law_1296 : decode cL_law 1296 = .ok (.istore 5, 2) := by decide +kernel
theorem dL_law_1298 : decode cL_law 1298 = .ok (.aload_n 2, 1) := by decide +kernel
theorem dL_law_1299 : decode cL_law 1299 = .ok (.aload_n 0, 1) := by decide +kernel
theorem dL_law_1300 : decode cL_law 1300 = .ok (.iload 4, 2) := by decide +kernel
theorem dL_law_1302 : decode cL_law 1302 = .ok (.iconst 1, 1) := by decide +kernel
theorem dL_law_1303 : decode cL_law 1303 = .ok (.iadd, 1) := by decide +kernel
theorem dL_law_1304 : decode cL_law 1304 = .ok (.iaload, 1) := by decide +kernel
theorem dL_law_1305 : decode cL_law 1305 = .ok (.invokevirtual 176, 3) := by decide +kernel
theorem dL_law_1308 : decode cL_law 1308 = .ok (.istore 6, 2) := by decide +kernel
theorem dL_law_1310 : decode cL_law 1310 = .ok (.aload_n 2, 1) := by decide +kernel
theorem dL_law_1311 : decode cL_law 1311 = .ok (.invokevirtual 104, 3) := by decide +kernel
theorem dL_law_1314 : decode cL_law 1314 = .ok (.iload 5, 2) := by decide +kernel
theorem dL_law_1316 : decode cL_law 1316 = .ok (.if_icmp .eq 5, 3) := by decide +kernel
theorem dL_law_1319 : decode cL_law 1319 = .ok (.iconst 0, 1) := by decide +kernel
theorem dL_law_1320 : decode cL_law 1320 = .ok (.ireturn, 1) := by decide +kernel
theorem dL_law_1321 : decode cL_law 1321 = .ok (.iload 5, 2) := by decide +kernel
theorem dL_law_1323 : decode cL_law 1323 = .ok (.ifCond .ne 22, 3) := by decide +kernel
theorem dL_law_1326 : decode cL_law 1326 = .ok (.aload_n 3, 1) := by decide +kernel
theorem dL_law_1327 : decode cL_law 1327 = .ok (.iconst 0, 1) := by decide +kernel
theorem dL_law_1328 : decode cL_law 1328 = .ok (.laload, 1) := by decide +kernel
theorem dL_law_1329 : decode cL_law 1329 = .ok (.iload 6, 2) := by decide +kernel
theorem dL_law_1331 : decode cL_law 1331 = .ok (.ifCond .eq 7, 3) := by decide +kernel
theorem dL_law_1334 : decode cL_law 1334 = .ok (.lconst 1, 1) := by decide +kernel
theorem dL_law_1335 : decode cL_law 1335 = .ok (.goto 4, 3) := by decide +kernel
theorem dL_law_1338 : decode cL_law 1338 = .ok (.lconst 0, 1) := by decide +kernel
theorem dL_law_1339 : decode cL_law 1339 = .ok (.lcmp, 1) := by decide +kernel
theorem dL_law_1340 : decode cL_law 1340 = .ok (.ifCond .eq 5, 3) := by decide +kernel
theorem dL_law_1343 : decode cL_law 1343 = .ok (.iconst 0, 1) := by decide +kernel
theorem dL_law_1344 : decode cL_law 1344 = .ok (.ireturn, 1) := by decide +kernel
theorem dL_law_1345 : decode cL_law 1345 = .ok (.goto 277, 3) := by decide +kernel
theorem dL_law_1348 : decode cL_law 1348 = .ok (.aload_n 1, 1) := by decide +kernel
theorem dL_law_1349 : decode cL_law 1349 = .ok (.aload_n 0, 1) := by decide +kernel
theorem dL_law_1350 : decode cL_law 1350 = .ok (.iload 4, 2) := by decide +kernel
theorem dL_law_1352 : decode cL_law 1352 = .ok (.iconst 1, 1) := by decide +kernel
theorem dL_law_1353 : decode cL_law 1353 = .ok (.iadd, 1) := by decide +kernel
theorem dL_law_1354 : decode cL_law 1354 = .ok (.iaload, 1) := by decide +kernel
theorem dL_law_1355 : decode cL_law 1355 = .ok (.aload_n 0, 1) := by decide +kernel
theorem dL_law_1356 : decode cL_law 1356 = .ok (.iload 4, 2) := by decide +kernel
theorem dL_law_1358 : decode cL_law 1358 = .ok (.iconst 2, 1) := by decide +kernel
theorem dL_law_1359 : decode cL_law 1359 = .ok (.iadd, 1) := by decide +kernel
theorem dL_law_1360 : decode cL_law 1360 = .ok (.iaload, 1) := by decide +kernel
theorem dL_law_1361 : decode cL_law 1361 = .ok (.aload_n 3, 1) := by decide +kernel
theorem dL_law_1362 : decode cL_law 1362 = .ok (.invokestatic 177, 3) := by decide +kernel
theorem dL_law_1365 : decode cL_law 1365 = .ok (.istore 5, 2) := by decide +kernel
theorem dL_law_1367 : decode cL_law 1367 = .ok (.aload_n 2, 1) := by decide +kernel
theorem dL_law_1368 : decode cL_law 1368 = .ok (.aload_n 0, 1) := by decide +kernel
theorem dL_law_1369 : decode cL_law 1369 = .ok (.iload 4, 2) := by decide +kernel
theorem dL_law_1371 : decode cL_law 1371 = .ok (.iconst 1, 1) := by decide +kernel
theorem dL_law_1372 : decode cL_law 1372 = .ok (.iadd, 1) := by decide +kernel
theorem dL_law_1373 : decode cL_law 1373 = .ok (.iaload, 1) := by decide +kernel
theorem dL_law_1374 : decode cL_law 1374 = .ok (.aload_n 0, 1) := by decide +kernel
theorem dL_law_1375 : decode cL_law 1375 = .ok (.iload 4, 2) := by decide +kernel
theorem dL_law_1377 : decode cL_law 1377 = .ok (.iconst 2, 1) := by decide +kernel
theorem dL_law_1378 : decode cL_law 1378 = .ok (.iadd, 1) := by decide +kernel
theorem dL_law_1379 : decode cL_law 1379 = .ok (.iaload, 1) := by decide +kernel
theorem dL_law_1380 : decode cL_law 1380 = .ok (.invokevirtual 179, 3) := by decide +kernel
theorem dL_law_1383 : decode cL_law 1383 = .ok (.istore 6, 2) := by decide +kernel
theorem dL_law_1385 : decode cL_law 1385 = .ok (.aload_n 2, 1) := by decide +kernel
theorem dL_law_1386 : decode cL_law 1386 = .ok (.invokevirtual 104, 3) := by decide +kernel
theorem dL_law_1389 : decode cL_law 1389 = .ok (.iload 5, 2) := by decide +kernel
theorem dL_law_1391 : decode cL_law 1391 = .ok (.if_icmp .eq 5, 3) := by decide +kernel
theorem dL_law_1394 : decode cL_law 1394 = .ok (.iconst 0, 1) := by decide +kernel
theorem dL_law_1395 : decode cL_law 1395 = .ok (.ireturn, 1) := by decide +kernel
theorem dL_law_1396 : decode cL_law 1396 = .ok (.iload 5, 2) := by decide +kernel
theorem dL_law_1398 : decode cL_law 1398 = .ok (.ifCond .ne 15, 3) := by decide +kernel
theorem dL_law_1401 : decode cL_law 1401 = .ok (.aload_n 3, 1) := by decide +kernel
theorem dL_law_1402 : decode cL_law 1402 = .ok (.iconst 0, 1) := by decide +kernel
theorem dL_law_1403 : decode cL_law 1403 = .ok (.laload, 1) := by decide +kernel
theorem dL_law_1404 : decode cL_law 1404 = .ok (.iload 6, 2) := by decide +kernel
theorem dL_law_1406 : decode cL_law 1406 = .ok (.i2l, 1) := by decide +kernel
theorem dL_law_1407 : decode cL_law 1407 = .ok (.lcmp, 1) := by decide +kernel
theorem dL_law_1408 : decode cL_law 1408 = .ok (.ifCond .eq 5, 3) := by decide +kernel
theorem dL_law_1411 : decode cL_law 1411 = .ok (.iconst 0, 1) := by decide +kernel
theorem dL_law_1412 : decode cL_law 1412 = .ok (.ireturn, 1) := by decide +kernel
theorem dL_law_1413 : decode cL_law 1413 = .ok (.goto 209, 3) := by decide +kernel
theorem dL_law_1416 : decode cL_law 1416 = .ok (.aload_n 1, 1) := by decide +kernel
theorem dL_law_1417 : decode cL_law 1417 = .ok (.invokevirtual 180, 3) := by decide +kernel
theorem dL_law_1420 : decode cL_law 1420 = .ok (.aload_n 2, 1) := by decide +kernel
theorem dL_law_1421 : decode cL_law 1421 = .ok (.invokevirtual 183, 3) := by decide +kernel
theorem dL_law_1424 : decode cL_law 1424 = .ok (.if_icmp .eq 198, 3) := by decide +kernel
theorem dL_law_1427 : decode cL_law 1427 = .ok (.iconst 0, 1) := by decide +kernel
theorem dL_law_1428 : decode cL_law 1428 = .ok (.ireturn, 1) := by decide +kernel
theorem dL_law_1429 : decode cL_law 1429 = .ok (.aload_n 1, 1) := by decide +kernel
theorem dL_law_1430 : decode cL_law 1430 = .ok (.aload_n 0, 1) := by decide +kernel
theorem dL_law_1431 : decode cL_law 1431 = .ok (.iload 4, 2) := by decide +kernel
theorem dL_law_1433 : decode cL_law 1433 = .ok (.iconst 1, 1) := by decide +kernel
theorem dL_law_1434 : decode cL_law 1434 = .ok (.iadd, 1) := by decide +kernel
theorem dL_law_1435 : decode cL_law 1435 = .ok (.iaload, 1) := by decide +kernel
theorem dL_law_1436 : decode cL_law 1436 = .ok (.aload_n 3, 1) := by decide +kernel
theorem dL_law_1437 : decode cL_law 1437 = .ok (.invokestatic 184, 3) := by decide +kernel
theorem dL_law_1440 : decode cL_law 1440 = .ok (.istore 5, 2) := by decide +kernel
theorem dL_law_1442 : decode cL_law 1442 = .ok (.aload_n 2, 1) := by decide +kernel
theorem dL_law_1443 : decode cL_law 1443 = .ok (.aload_n 0, 1) := by decide +kernel
theorem dL_law_1444 : decode cL_law 1444 = .ok (.iload 4, 2) := by decide +kernel
theorem dL_law_1446 : decode cL_law 1446 = .ok (.iconst 1, 1) := by decide +kernel
theorem dL_law_1447 : decode cL_law 1447 = .ok (.iadd, 1) := by decide +kernel
theorem dL_law_1448 : decode cL_law 1448 = .ok (.iaload, 1) := by decide +kernel
theorem dL_law_1449 : decode cL_law 1449 = .ok (.invokevirtual 186, 3) := by decide +kernel
theorem dL_law_1452 : decode cL_law 1452 = .ok (.istore 6, 2) := by decide +kernel
theorem dL_law_1454 : decode cL_law 1454 = .ok (.aload_n 2, 1) := by decide +kernel
theorem dL_law_1455 : decode cL_law 1455 = .ok (.invokevirtual 104, 3) := by decide +kernel
theorem dL_law_1458 : decode cL_law 1458 = .ok (.iload 5, 2) := by decide +kernel
theorem dL_law_1460 : decode cL_law 1460 = .ok (.if_icmp .eq 5, 3) := by decide +kernel
theorem dL_law_1463 : decode cL_law 1463 = .ok (.iconst 0, 1) := by decide +kernel
theorem dL_law_1464 : decode cL_law 1464 = .ok (.ireturn, 1) := by decide +kernel
theorem dL_law_1465 : decode cL_law 1465 = .ok (.iload 5, 2) := by decide +kernel
theorem dL_law_1467 : decode cL_law 1467 = .ok (.ifCond .ne 15, 3) := by decide +kernel
theorem dL_law_1470 : decode cL_law 1470 = .ok (.aload_n 3, 1) := by decide +kernel
theorem dL_law_1471 : decode cL_law 1471 = .ok (.iconst 0, 1) := by decide +kernel
theorem dL_law_1472 : decode cL_law 1472 = .ok (.laload, 1) := by decide +kernel
theorem dL_law_1473 : decode cL_law 1473 = .ok (.iload 6, 2) := by decide +kernel
theorem dL_law_1475 : decode cL_law 1475 = .ok (.i2l, 1) := by decide +kernel
theorem dL_law_1476 : decode cL_law 1476 = .ok (.lcmp, 1) := by decide +kernel
theorem dL_law_1477 : decode cL_law 1477 = .ok (.ifCond .eq 5, 3) := by decide +kernel
theorem dL_law_1480 : decode cL_law 1480 = .ok (.iconst 0, 1) := by decide +kernel
theorem dL_law_1481 : decode cL_law 1481 = .ok (.ireturn, 1) := by decide +kernel
theorem dL_law_1482 : decode cL_law 1482 = .ok (.goto 140, 3) := by decide +kernel
theorem dL_law_1485 : decode cL_law 1485 = .ok (.aload_n 1, 1) := by decide +kernel
theorem dL_law_1486 : decode cL_law 1486 = .ok (.aload_n 0, 1) := by decide +kernel
theorem dL_law_1487 : decode cL_law 1487 = .ok (.iload 4, 2) := by decide +kernel
theorem dL_law_1489 : decode cL_law 1489 = .ok (.iconst 1, 1) := by decide +kernel
theorem dL_law_1490 : decode cL_law 1490 = .ok (.iadd, 1) := by decide +kernel
theorem dL_law_1491 : decode cL_law 1491 = .ok (.iaload, 1) := by decide +kernel
theorem dL_law_1492 : decode cL_law 1492 = .ok (.aload_n 0, 1) := by decide +kernel
theorem dL_law_1493 : decode cL_law 1493 = .ok (.iload 4, 2) := by decide +kernel
theorem dL_law_1495 : decode cL_law 1495 = .ok (.iconst 2, 1) := by decide +kernel
theorem dL_law_1496 : decode cL_law 1496 = .ok (.iadd, 1) := by decide +kernel
theorem dL_law_1497 : decode cL_law 1497 = .ok (.iaload, 1) := by decide +kernel
theorem dL_law_1498 : decode cL_law 1498 = .ok (.aload_n 0, 1) := by decide +kernel
theorem dL_law_1499 : decode cL_law 1499 = .ok (.iload 4, 2) := by decide +kernel
theorem dL_law_1501 : decode cL_law 1501 = .ok (.iconst 3, 1) := by decide +kernel
theorem dL_law_1502 : decode cL_law 1502 = .ok (.iadd, 1) := by decide +kernel
theorem dL_law_1503 : decode cL_law 1503 = .ok (.iaload, 1) := by decide +kernel
theorem dL_law_1504 : decode cL_law 1504 = .ok (.aload_n 3, 1) := by decide +kernel
theorem dL_law_1505 : decode cL_law 1505 = .ok (.invokestatic 187, 3) := by decide +kernel
theorem dL_law_1508 : decode cL_law 1508 = .ok (.istore 5, 2) := by decide +kernel
theorem dL_law_1510 : decode cL_law 1510 = .ok (.aload_n 2, 1) := by decide +kernel
theorem dL_law_1511 : decode cL_law 1511 = .ok (.aload_n 0, 1) := by decide +kernel
theorem dL_law_1512 : decode cL_law 1512 = .ok (.iload 4, 2) := by decide +kernel
theorem dL_law_1514 : decode cL_law 1514 = .ok (.iconst 1, 1) := by decide +kernel
theorem dL_law_1515 : decode cL_law 1515 = .ok (.iadd, 1) := by decide +kernel
theorem dL_law_1516 : decode cL_law 1516 = .ok (.iaload, 1) := by decide +kernel
theorem dL_law_1517 : decode cL_law 1517 = .ok (.aload_n 0, 1) := by decide +kernel
theorem dL_law_1518 : decode cL_law 1518 = .ok (.iload 4, 2) := by decide +kernel
theorem dL_law_1520 : decode cL_law 1520 = .ok (.iconst 2, 1) := by decide +kernel
theorem dL_law_1521 : decode cL_law 1521 = .ok (.iadd, 1) := by decide +kernel
theorem dL_law_1522 : decode cL_law 1522 = .ok (.iaload, 1) := by decide +kernel
theorem dL_law_1523 : decode cL_law 1523 = .ok (.aload_n 0, 1) := by decide +kernel
theorem dL_law_1524 : decode cL_law 1524 = .ok (.iload 4, 2) := by decide +kernel
theorem dL_law_1526 : decode cL_law 1526 = .ok (.iconst 3, 1) := by decide +kernel
theorem dL_law_1527 : decode cL_law 1527 = .ok (.iadd, 1) := by decide +kernel
theorem dL_law_1528 : decode cL_law 1528 = .ok (.iaload, 1) := by decide +kernel
theorem dL_law_1529 : decode cL_law 1529 = .ok (.invokevirtual 189, 3) := by decide +kernel
theorem dL_law_1532 : decode cL_law 1532 = .ok (.istore 6, 2) := by decide +kernel
theorem dL_law_1534 : decode cL_law 1534 = .ok (.aload_n 2, 1) := by decide +kernel
theorem dL_law_1535 : decode cL_law 1535 = .ok (.invokevirtual 104, 3) := by decide +kernel
theorem dL_law_1538 : decode cL_law 1538 = .ok (.iload 5, 2) := by decide +kernel
theorem dL_law_1540 : decode cL_law 1540 = .ok (.if_icmp .eq 5, 3) := by decide +kernel
theorem dL_law_1543 : decode cL_law 1543 = .ok (.iconst 0, 1) := by decide +kernel
theorem dL_law_1544 : decode cL_law 1544 = .ok (.ireturn, 1) := by decide +kernel
theorem dL_law_1545 : decode cL_law 1545 = .ok (.iload 5, 2) := by decide +kernel
theorem dL_law_1547 : decode cL_law 1547 = .ok (.ifCond .ne 15, 3) := by decide +kernel
theorem dL_law_1550 : decode cL_law 1550 = .ok (.aload_n 3, 1) := by decide +kernel
theorem dL_law_1551 : decode cL_law 1551 = .ok (.iconst 0, 1) := by decide +kernel
theorem dL_law_1552 : decode cL_law 1552 = .ok (.laload, 1) := by decide +kernel
theorem dL_law_1553 : decode cL_law 1553 = .ok (.iload 6, 2) := by decide +kernel
theorem dL_law_1555 : decode cL_law 1555 = .ok (.i2l, 1) := by decide +kernel
theorem dL_law_1556 : decode cL_law 1556 = .ok (.lcmp, 1) := by decide +kernel
theorem dL_law_1557 : decode cL_law 1557 = .ok (.ifCond .eq 5, 3) := by decide +kernel
theorem dL_law_1560 : decode cL_law 1560 = .ok (.iconst 0, 1) := by decide +kernel
theorem dL_law_1561 : decode cL_law 1561 = .ok (.ireturn, 1) := by decide +kernel
theorem dL_law_1562 : decode cL_law 1562 = .ok (.goto 60, 3) := by decide +kernel
theorem dL_law_1565 : decode cL_law 1565 = .ok (.aload_n 1, 1) := by decide +kernel
theorem dL_law_1566 : decode cL_law 1566 = .ok (.invokevirtual 190, 3) := by decide +kernel
theorem dL_law_1569 : decode cL_law 1569 = .ok (.aload_n 2, 1) := by decide +kernel
theorem dL_law_1570 : decode cL_law 1570 = .ok (.invokevirtual 193, 3) := by decide +kernel
theorem dL_law_1573 : decode cL_law 1573 = .ok (.if_icmp .eq 49, 3) := by decide +kernel
theorem dL_law_1576 : decode cL_law 1576 = .ok (.iconst 0, 1) := by decide +kernel
theorem dL_law_1577 : decode cL_law 1577 = .ok (.ireturn, 1) := by decide +kernel
theorem dL_law_1578 : decode cL_law 1578 = .ok (.aload_n 1, 1) := by decide +kernel
theorem dL_law_1579 : decode cL_law 1579 = .ok (.aload_n 3, 1) := by decide +kernel
theorem dL_law_1580 : decode cL_law 1580 = .ok (.invokestatic 194, 3) := by decide +kernel
theorem dL_law_1583 : decode cL_law 1583 = .ok (.istore 5, 2) := by decide +kernel
theorem dL_law_1585 : decode cL_law 1585 = .ok (.aload_n 2, 1) := by decide +kernel
theorem dL_law_1586 : decode cL_law 1586 = .ok (.invokevirtual 196, 3) := by decide +kernel
theorem dL_law_1589 : decode cL_law 1589 = .ok (.istore 6, 2) := by decide +kernel
theorem dL_law_1591 : decode cL_law 1591 = .ok (.aload_n 2, 1) := by decide +kernel
theorem dL_law_1592 : decode cL_law 1592 = .ok (.invokevirtual 104, 3) := by decide +kernel
theorem dL_law_1595 : decode cL_law 1595 = .ok (.iload 5, 2) := by decide +kernel
theorem dL_law_1597 : decode cL_law 1597 = .ok (.if_icmp .eq 5, 3) := by decide +kernel
theorem dL_law_1600 : decode cL_law 1600 = .ok (.iconst 0, 1) := by decide +kernel
theorem dL_law_1601 : decode cL_law 1601 = .ok (.ireturn, 1) := by decide +kernel
theorem dL_law_1602 : decode cL_law 1602 = .ok (.iload 5, 2) := by decide +kernel
theorem dL_law_1604 : decode cL_law 1604 = .ok (.ifCond .ne 15, 3) := by decide +kernel
theorem dL_law_1607 : decode cL_law 1607 = .ok (.aload_n 3, 1) := by decide +kernel
theorem dL_law_1608 : decode cL_law 1608 = .ok (.iconst 0, 1) := by decide +kernel
theorem dL_law_1609 : decode cL_law 1609 = .ok (.laload, 1) := by decide +kernel
theorem dL_law_1610 : decode cL_law 1610 = .ok (.iload 6, 2) := by decide +kernel
theorem dL_law_1612 : decode cL_law 1612 = .ok (.i2l, 1) := by decide +kernel
theorem dL_law_1613 : decode cL_law 1613 = .ok (.lcmp, 1) := by decide +kernel
theorem dL_law_1614 : decode cL_law 1614 = .ok (.ifCond .eq 5, 3) := by decide +kernel
theorem dL_law_1617 : decode cL_law 1617 = .ok (.iconst 0, 1) := by decide +kernel
theorem dL_law_1618 : decode cL_law 1618 = .ok (.ireturn, 1) := by decide +kernel
theorem dL_law_1619 : decode cL_law 1619 = .ok (.goto 3, 3) := by decide +kernel
theorem dL_law_1622 : decode cL_law 1622 = .ok (.iinc 4 4, 3) := by decide +kernel
theorem dL_law_1625 : decode cL_law 1625 = .ok (.goto (-1602), 3) := by decide +kernel
theorem dL_law_1628 : decode cL_law 1628 = .ok (.iconst 1, 1) := by decide +kernel
theorem dL_law_1629 : decode cL_law 1629 = .ok (.ireturn, 1) := by decide +kernel
