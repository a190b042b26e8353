/-! Block lemmas, by program (wip/whole/gen_blk.py). -/
theorem k208_0 : px_cod 208 0 = some ((.iload_n 3), 1, [], 3) := rfl
theorem k208_1 : px_cod 208 1 = some ((.sipush 1439), 3, [], 1439) := rfl
theorem k208_4 : px_cod 208 4 = some ((.if_icmp .gt 35), 3, [39], 0) := rfl
theorem k208_7 : px_cod 208 7 = some ((.aload_n 0), 1, [], 0) := rfl
theorem k208_8 : px_cod 208 8 = some ((.getfield 86), 3, [226, 12, 4, 1], 42) := rfl
theorem k208_11 : px_cod 208 11 = some ((.iload_n 3), 1, [], 3) := rfl
theorem k208_12 : px_cod 208 12 = some (.iaload, 1, [], 0) := rfl
theorem k208_13 : px_cod 208 13 = some ((.aload_n 0), 1, [], 0) := rfl
theorem k208_14 : px_cod 208 14 = some ((.getfield 7), 3, [187, 12, 4, 1], 3) := rfl
theorem k208_17 : px_cod 208 17 = some ((.bipush 20), 2, [], 20) := rfl
theorem k208_19 : px_cod 208 19 = some ((.iconst 2), 1, [], 2) := rfl
theorem k208_20 : px_cod 208 20 = some ((.iload_n 2), 1, [], 2) := rfl
theorem k208_21 : px_cod 208 21 = some (.imul, 1, [], 0) := rfl
theorem k208_22 : px_cod 208 22 = some (.iadd, 1, [], 0) := rfl
theorem k208_23 : px_cod 208 23 = some (.iaload, 1, [], 0) := rfl
theorem k208_24 : px_cod 208 24 = some ((.aload_n 0), 1, [], 0) := rfl
theorem k208_25 : px_cod 208 25 = some ((.iload_n 1), 1, [], 1) := rfl
theorem k208_26 : px_cod 208 26 = some ((.bipush 6), 2, [], 6) := rfl
theorem k208_28 : px_cod 208 28 = some ((.invokevirtual 364), 3, [0, 258, 146], 0) := rfl
theorem k208_31 : px_cod 208 31 = some (.iadd, 1, [], 0) := rfl
theorem k208_32 : px_cod 208 32 = some ((.if_icmp .gt 7), 3, [39], 0) := rfl
theorem k208_35 : px_cod 208 35 = some ((.iconst 1), 1, [], 1) := rfl
theorem k208_36 : px_cod 208 36 = some ((.goto 4), 3, [40], 0) := rfl
theorem k208_39 : px_cod 208 39 = some ((.iconst 0), 1, [], 0) := rfl
theorem k208_40 : px_cod 208 40 = some (.ireturn, 1, [], 0) := rfl
theorem k209_0 : px_cod 209 0 = some ((.aload_n 0), 1, [], 0) := rfl
theorem k209_1 : px_cod 209 1 = some ((.getfield 7), 3, [187, 12, 4, 1], 3) := rfl
theorem k209_4 : px_cod 209 4 = some ((.bipush 20), 2, [], 20) := rfl
theorem k209_6 : px_cod 209 6 = some ((.iconst 2), 1, [], 2) := rfl
theorem k209_7 : px_cod 209 7 = some ((.iload_n 1), 1, [], 1) := rfl
theorem k209_8 : px_cod 209 8 = some (.imul, 1, [], 0) := rfl
theorem k209_9 : px_cod 209 9 = some (.iadd, 1, [], 0) := rfl
theorem k209_10 : px_cod 209 10 = some ((.iconst 1), 1, [], 1) := rfl
theorem k209_11 : px_cod 209 11 = some (.iadd, 1, [], 0) := rfl
theorem k209_12 : px_cod 209 12 = some (.iaload, 1, [], 0) := rfl
theorem k209_13 : px_cod 209 13 = some ((.iconst 1), 1, [], 1) := rfl
theorem k209_14 : px_cod 209 14 = some ((.if_icmp .ne 7), 3, [21], 0) := rfl
theorem k209_17 : px_cod 209 17 = some ((.iconst 1), 1, [], 1) := rfl
theorem k209_18 : px_cod 209 18 = some ((.goto 4), 3, [22], 0) := rfl
theorem k209_21 : px_cod 209 21 = some ((.iconst 0), 1, [], 0) := rfl
theorem k209_22 : px_cod 209 22 = some (.ireturn, 1, [], 0) := rfl
theorem k210_0 : px_cod 210 0 = some ((.iload_n 1), 1, [], 1) := rfl
theorem k210_1 : px_cod 210 1 = some ((.aload_n 0), 1, [], 0) := rfl
theorem k210_2 : px_cod 210 2 = some ((.getfield 125), 3, [184, 12, 0, 1], 0) := rfl
theorem k210_5 : px_cod 210 5 = some (.irem, 1, [], 0) := rfl
theorem k210_6 : px_cod 210 6 = some ((.iload_n 2), 1, [], 2) := rfl
theorem k210_7 : px_cod 210 7 = some ((.iconst 1), 1, [], 1) := rfl
theorem k210_8 : px_cod 210 8 = some ((.if_icmp .ne 7), 3, [15], 0) := rfl
theorem k210_11 : px_cod 210 11 = some ((.iconst 1), 1, [], 1) := rfl
theorem k210_12 : px_cod 210 12 = some ((.goto 13), 3, [25], 0) := rfl
theorem k210_15 : px_cod 210 15 = some ((.iload_n 2), 1, [], 2) := rfl
theorem k210_16 : px_cod 210 16 = some ((.iconst 3), 1, [], 3) := rfl
theorem k210_17 : px_cod 210 17 = some ((.if_icmp .ne 7), 3, [24], 0) := rfl
theorem k210_20 : px_cod 210 20 = some ((.iconst (-1)), 1, [], (-1)) := rfl
theorem k210_21 : px_cod 210 21 = some ((.goto 4), 3, [25], 0) := rfl
theorem k210_24 : px_cod 210 24 = some ((.iconst 0), 1, [], 0) := rfl
theorem k210_25 : px_cod 210 25 = some (.iadd, 1, [], 0) := rfl
theorem k210_26 : px_cod 210 26 = some ((.istore_n 3), 1, [], 3) := rfl
theorem k210_27 : px_cod 210 27 = some ((.iload_n 1), 1, [], 1) := rfl
theorem k210_28 : px_cod 210 28 = some ((.aload_n 0), 1, [], 0) := rfl
theorem k210_29 : px_cod 210 29 = some ((.getfield 125), 3, [184, 12, 0, 1], 0) := rfl
theorem k210_32 : px_cod 210 32 = some (.idiv, 1, [], 0) := rfl
theorem k210_33 : px_cod 210 33 = some ((.iload_n 2), 1, [], 2) := rfl
theorem k210_34 : px_cod 210 34 = some ((.iconst 2), 1, [], 2) := rfl
theorem k210_35 : px_cod 210 35 = some ((.if_icmp .ne 7), 3, [42], 0) := rfl
theorem k210_38 : px_cod 210 38 = some ((.iconst 1), 1, [], 1) := rfl
theorem k210_39 : px_cod 210 39 = some ((.goto 12), 3, [51], 0) := rfl
theorem k210_42 : px_cod 210 42 = some ((.iload_n 2), 1, [], 2) := rfl
theorem k210_43 : px_cod 210 43 = some ((.ifCond .ne 7), 3, [50], 0) := rfl
theorem k210_46 : px_cod 210 46 = some ((.iconst (-1)), 1, [], (-1)) := rfl
theorem k210_47 : px_cod 210 47 = some ((.goto 4), 3, [51], 0) := rfl
theorem k210_50 : px_cod 210 50 = some ((.iconst 0), 1, [], 0) := rfl
theorem k210_51 : px_cod 210 51 = some (.iadd, 1, [], 0) := rfl
theorem k210_52 : px_cod 210 52 = some ((.istore 4), 2, [], 4) := rfl
theorem k210_54 : px_cod 210 54 = some ((.iload_n 3), 1, [], 3) := rfl
theorem k210_55 : px_cod 210 55 = some ((.iconst 0), 1, [], 0) := rfl
theorem k210_56 : px_cod 210 56 = some ((.aload_n 0), 1, [], 0) := rfl
theorem k210_57 : px_cod 210 57 = some ((.getfield 125), 3, [184, 12, 0, 1], 0) := rfl
theorem k210_60 : px_cod 210 60 = some ((.iconst 1), 1, [], 1) := rfl
theorem k210_61 : px_cod 210 61 = some (.isub, 1, [], 0) := rfl
theorem k210_62 : px_cod 210 62 = some ((.invokestatic 138), 3, [0, 209, 141], 0) := rfl
theorem k210_65 : px_cod 210 65 = some ((.ifCond .eq 30), 3, [95], 0) := rfl
theorem k210_68 : px_cod 210 68 = some ((.iload 4), 2, [], 4) := rfl
theorem k210_70 : px_cod 210 70 = some ((.iconst 0), 1, [], 0) := rfl
theorem k210_71 : px_cod 210 71 = some ((.aload_n 0), 1, [], 0) := rfl
theorem k210_72 : px_cod 210 72 = some ((.getfield 128), 3, [185, 12, 0, 1], 1) := rfl
theorem k210_75 : px_cod 210 75 = some ((.iconst 1), 1, [], 1) := rfl
theorem k210_76 : px_cod 210 76 = some (.isub, 1, [], 0) := rfl
theorem k210_77 : px_cod 210 77 = some ((.invokestatic 138), 3, [0, 209, 141], 0) := rfl
theorem k210_80 : px_cod 210 80 = some ((.ifCond .eq 15), 3, [95], 0) := rfl
theorem k210_83 : px_cod 210 83 = some ((.iload_n 3), 1, [], 3) := rfl
theorem k210_84 : px_cod 210 84 = some ((.aload_n 0), 1, [], 0) := rfl
theorem k210_85 : px_cod 210 85 = some ((.getfield 125), 3, [184, 12, 0, 1], 0) := rfl
theorem k210_88 : px_cod 210 88 = some ((.iload 4), 2, [], 4) := rfl
theorem k210_90 : px_cod 210 90 = some (.imul, 1, [], 0) := rfl
theorem k210_91 : px_cod 210 91 = some (.iadd, 1, [], 0) := rfl
theorem k210_92 : px_cod 210 92 = some ((.goto 4), 3, [96], 0) := rfl
theorem k210_95 : px_cod 210 95 = some ((.iconst (-1)), 1, [], (-1)) := rfl
theorem k210_96 : px_cod 210 96 = some (.ireturn, 1, [], 0) := rfl
theorem k211_0 : px_cod 211 0 = some ((.aload_n 0), 1, [], 0) := rfl
theorem k211_1 : px_cod 211 1 = some ((.aload_n 0), 1, [], 0) := rfl
theorem k211_2 : px_cod 211 2 = some ((.getfield 7), 3, [187, 12, 4, 1], 3) := rfl
theorem k211_5 : px_cod 211 5 = some ((.iconst 0), 1, [], 0) := rfl
theorem k211_6 : px_cod 211 6 = some (.iaload, 1, [], 0) := rfl
theorem k211_7 : px_cod 211 7 = some ((.invokevirtual 400), 3, [0, 275, 209], 0) := rfl
theorem k211_10 : px_cod 211 10 = some ((.ifCond .eq 5), 3, [15], 0) := rfl
theorem k211_13 : px_cod 211 13 = some ((.iconst 0), 1, [], 0) := rfl
theorem k211_14 : px_cod 211 14 = some (.ireturn, 1, [], 0) := rfl
theorem k211_15 : px_cod 211 15 = some ((.iconst 0), 1, [], 0) := rfl
theorem k211_16 : px_cod 211 16 = some ((.istore_n 3), 1, [], 3) := rfl
theorem k211_17 : px_cod 211 17 = some ((.iload_n 3), 1, [], 3) := rfl
theorem k211_18 : px_cod 211 18 = some ((.aload_n 0), 1, [], 0) := rfl
theorem k211_19 : px_cod 211 19 = some ((.getfield 131), 3, [186, 12, 0, 1], 2) := rfl
theorem k211_22 : px_cod 211 22 = some ((.if_icmp .ge 30), 3, [52], 0) := rfl
theorem k211_25 : px_cod 211 25 = some ((.aload_n 0), 1, [], 0) := rfl
theorem k211_26 : px_cod 211 26 = some ((.getfield 89), 3, [227, 12, 4, 1], 43) := rfl
theorem k211_29 : px_cod 211 29 = some ((.iload_n 3), 1, [], 3) := rfl
theorem k211_30 : px_cod 211 30 = some ((.iload_n 3), 1, [], 3) := rfl
theorem k211_31 : px_cod 211 31 = some ((.aload_n 0), 1, [], 0) := rfl
theorem k211_32 : px_cod 211 32 = some ((.getfield 7), 3, [187, 12, 4, 1], 3) := rfl
theorem k211_35 : px_cod 211 35 = some ((.iconst 0), 1, [], 0) := rfl
theorem k211_36 : px_cod 211 36 = some (.iaload, 1, [], 0) := rfl
theorem k211_37 : px_cod 211 37 = some ((.if_icmp .ne 7), 3, [44], 0) := rfl
theorem k211_40 : px_cod 211 40 = some ((.iconst 1), 1, [], 1) := rfl
theorem k211_41 : px_cod 211 41 = some ((.goto 4), 3, [45], 0) := rfl
theorem k211_44 : px_cod 211 44 = some ((.iconst 0), 1, [], 0) := rfl
theorem k211_45 : px_cod 211 45 = some (.bastore, 1, [], 0) := rfl
theorem k211_46 : px_cod 211 46 = some ((.iinc 3 1), 3, [3], 1) := rfl
theorem k211_49 : px_cod 211 49 = some ((.goto (-32)), 3, [17], 0) := rfl
theorem k211_52 : px_cod 211 52 = some ((.iconst 1), 1, [], 1) := rfl
theorem k211_53 : px_cod 211 53 = some ((.istore_n 3), 1, [], 3) := rfl
theorem k211_54 : px_cod 211 54 = some ((.iload_n 3), 1, [], 3) := rfl
theorem k211_55 : px_cod 211 55 = some ((.aload_n 0), 1, [], 0) := rfl
theorem k211_56 : px_cod 211 56 = some ((.getfield 131), 3, [186, 12, 0, 1], 2) := rfl
theorem k211_59 : px_cod 211 59 = some ((.if_icmp .gt 176), 3, [235], 0) := rfl
theorem k211_62 : px_cod 211 62 = some ((.iconst 0), 1, [], 0) := rfl
theorem k211_63 : px_cod 211 63 = some ((.istore 4), 2, [], 4) := rfl
theorem k211_65 : px_cod 211 65 = some ((.iload_n 2), 1, [], 2) := rfl
theorem k211_66 : px_cod 211 66 = some ((.iload_n 3), 1, [], 3) := rfl
theorem k211_67 : px_cod 211 67 = some ((.aload_n 0), 1, [], 0) := rfl
theorem k211_68 : px_cod 211 68 = some ((.iload_n 1), 1, [], 1) := rfl
theorem k211_69 : px_cod 211 69 = some ((.iconst 5), 1, [], 5) := rfl
theorem k211_70 : px_cod 211 70 = some ((.invokevirtual 364), 3, [0, 258, 146], 0) := rfl
theorem k211_73 : px_cod 211 73 = some (.imul, 1, [], 0) := rfl
theorem k211_74 : px_cod 211 74 = some (.iadd, 1, [], 0) := rfl
theorem k211_75 : px_cod 211 75 = some ((.istore 5), 2, [], 5) := rfl
theorem k211_77 : px_cod 211 77 = some ((.iconst 0), 1, [], 0) := rfl
theorem k211_78 : px_cod 211 78 = some ((.istore 6), 2, [], 6) := rfl
theorem k211_80 : px_cod 211 80 = some ((.iload 6), 2, [], 6) := rfl
theorem k211_82 : px_cod 211 82 = some ((.aload_n 0), 1, [], 0) := rfl
theorem k211_83 : px_cod 211 83 = some ((.getfield 131), 3, [186, 12, 0, 1], 2) := rfl
theorem k211_86 : px_cod 211 86 = some ((.if_icmp .ge 136), 3, [222], 0) := rfl
theorem k211_89 : px_cod 211 89 = some ((.iconst 0), 1, [], 0) := rfl
theorem k211_90 : px_cod 211 90 = some ((.istore 7), 2, [], 7) := rfl
theorem k211_92 : px_cod 211 92 = some ((.iconst 0), 1, [], 0) := rfl
theorem k211_93 : px_cod 211 93 = some ((.istore 8), 2, [], 8) := rfl
theorem k211_95 : px_cod 211 95 = some ((.iload 8), 2, [], 8) := rfl
theorem k211_97 : px_cod 211 97 = some ((.iconst 4), 1, [], 4) := rfl
theorem k211_98 : px_cod 211 98 = some ((.if_icmp .ge 54), 3, [152], 0) := rfl
theorem k211_101 : px_cod 211 101 = some ((.aload_n 0), 1, [], 0) := rfl
theorem k211_102 : px_cod 211 102 = some ((.iload 6), 2, [], 6) := rfl
theorem k211_104 : px_cod 211 104 = some ((.iload 8), 2, [], 8) := rfl
theorem k211_106 : px_cod 211 106 = some ((.invokevirtual 403), 3, [0, 276, 210], 0) := rfl
theorem k211_109 : px_cod 211 109 = some ((.istore 9), 2, [], 9) := rfl
theorem k211_111 : px_cod 211 111 = some ((.iload 7), 2, [], 7) := rfl
theorem k211_113 : px_cod 211 113 = some ((.ifCond .ne 26), 3, [139], 0) := rfl
theorem k211_116 : px_cod 211 116 = some ((.iload 9), 2, [], 9) := rfl
theorem k211_118 : px_cod 211 118 = some ((.iconst (-1)), 1, [], (-1)) := rfl
theorem k211_119 : px_cod 211 119 = some ((.if_icmp .eq 24), 3, [143], 0) := rfl
theorem k211_122 : px_cod 211 122 = some ((.aload_n 0), 1, [], 0) := rfl
theorem k211_123 : px_cod 211 123 = some ((.getfield 89), 3, [227, 12, 4, 1], 43) := rfl
theorem k211_126 : px_cod 211 126 = some ((.bipush 36), 2, [], 36) := rfl
theorem k211_128 : px_cod 211 128 = some ((.iload_n 3), 1, [], 3) := rfl
theorem k211_129 : px_cod 211 129 = some ((.iconst 1), 1, [], 1) := rfl
theorem k211_130 : px_cod 211 130 = some (.isub, 1, [], 0) := rfl
theorem k211_131 : px_cod 211 131 = some (.imul, 1, [], 0) := rfl
theorem k211_132 : px_cod 211 132 = some ((.iload 9), 2, [], 9) := rfl
theorem k211_134 : px_cod 211 134 = some (.iadd, 1, [], 0) := rfl
theorem k211_135 : px_cod 211 135 = some (.baload, 1, [], 0) := rfl
theorem k211_136 : px_cod 211 136 = some ((.ifCond .eq 7), 3, [143], 0) := rfl
theorem k211_139 : px_cod 211 139 = some ((.iconst 1), 1, [], 1) := rfl
theorem k211_140 : px_cod 211 140 = some ((.goto 4), 3, [144], 0) := rfl
theorem k211_143 : px_cod 211 143 = some ((.iconst 0), 1, [], 0) := rfl
theorem k211_144 : px_cod 211 144 = some ((.istore 7), 2, [], 7) := rfl
theorem k211_146 : px_cod 211 146 = some ((.iinc 8 1), 3, [8], 1) := rfl
theorem k211_149 : px_cod 211 149 = some ((.goto (-54)), 3, [95], 0) := rfl
theorem k211_152 : px_cod 211 152 = some ((.iload 7), 2, [], 7) := rfl
theorem k211_154 : px_cod 211 154 = some ((.ifCond .eq 19), 3, [173], 0) := rfl
theorem k211_157 : px_cod 211 157 = some ((.aload_n 0), 1, [], 0) := rfl
theorem k211_158 : px_cod 211 158 = some ((.iload_n 1), 1, [], 1) := rfl
theorem k211_159 : px_cod 211 159 = some ((.iload 6), 2, [], 6) := rfl
theorem k211_161 : px_cod 211 161 = some ((.iload 5), 2, [], 5) := rfl
theorem k211_163 : px_cod 211 163 = some ((.invokevirtual 406), 3, [0, 277, 208], 0) := rfl
theorem k211_166 : px_cod 211 166 = some ((.ifCond .eq 7), 3, [173], 0) := rfl
theorem k211_169 : px_cod 211 169 = some ((.iconst 1), 1, [], 1) := rfl
theorem k211_170 : px_cod 211 170 = some ((.goto 4), 3, [174], 0) := rfl
theorem k211_173 : px_cod 211 173 = some ((.iconst 0), 1, [], 0) := rfl
theorem k211_174 : px_cod 211 174 = some ((.istore 7), 2, [], 7) := rfl
theorem k211_176 : px_cod 211 176 = some ((.aload_n 0), 1, [], 0) := rfl
theorem k211_177 : px_cod 211 177 = some ((.getfield 89), 3, [227, 12, 4, 1], 43) := rfl
theorem k211_180 : px_cod 211 180 = some ((.bipush 36), 2, [], 36) := rfl
theorem k211_182 : px_cod 211 182 = some ((.iload_n 3), 1, [], 3) := rfl
theorem k211_183 : px_cod 211 183 = some (.imul, 1, [], 0) := rfl
theorem k211_184 : px_cod 211 184 = some ((.iload 6), 2, [], 6) := rfl
theorem k211_186 : px_cod 211 186 = some (.iadd, 1, [], 0) := rfl
theorem k211_187 : px_cod 211 187 = some ((.iload 7), 2, [], 7) := rfl
theorem k211_189 : px_cod 211 189 = some (.bastore, 1, [], 0) := rfl
theorem k211_190 : px_cod 211 190 = some ((.iload 4), 2, [], 4) := rfl
theorem k211_192 : px_cod 211 192 = some ((.ifCond .ne 17), 3, [209], 0) := rfl
theorem k211_195 : px_cod 211 195 = some ((.iload 7), 2, [], 7) := rfl
theorem k211_197 : px_cod 211 197 = some ((.ifCond .eq 16), 3, [213], 0) := rfl
theorem k211_200 : px_cod 211 200 = some ((.aload_n 0), 1, [], 0) := rfl
theorem k211_201 : px_cod 211 201 = some ((.iload 6), 2, [], 6) := rfl
theorem k211_203 : px_cod 211 203 = some ((.invokevirtual 400), 3, [0, 275, 209], 0) := rfl
theorem k211_206 : px_cod 211 206 = some ((.ifCond .eq 7), 3, [213], 0) := rfl
theorem k211_209 : px_cod 211 209 = some ((.iconst 1), 1, [], 1) := rfl
theorem k211_210 : px_cod 211 210 = some ((.goto 4), 3, [214], 0) := rfl
theorem k211_213 : px_cod 211 213 = some ((.iconst 0), 1, [], 0) := rfl
theorem k211_214 : px_cod 211 214 = some ((.istore 4), 2, [], 4) := rfl
theorem k211_216 : px_cod 211 216 = some ((.iinc 6 1), 3, [6], 1) := rfl
theorem k211_219 : px_cod 211 219 = some ((.goto (-139)), 3, [80], 0) := rfl
theorem k211_222 : px_cod 211 222 = some ((.iload 4), 2, [], 4) := rfl
theorem k211_224 : px_cod 211 224 = some ((.ifCond .eq 5), 3, [229], 0) := rfl
theorem k211_227 : px_cod 211 227 = some ((.iload_n 3), 1, [], 3) := rfl
theorem k211_228 : px_cod 211 228 = some (.ireturn, 1, [], 0) := rfl
theorem k211_229 : px_cod 211 229 = some ((.iinc 3 1), 3, [3], 1) := rfl
theorem k211_232 : px_cod 211 232 = some ((.goto (-178)), 3, [54], 0) := rfl
theorem k211_235 : px_cod 211 235 = some ((.iconst (-1)), 1, [], (-1)) := rfl
theorem k211_236 : px_cod 211 236 = some (.ireturn, 1, [], 0) := rfl
theorem k212_0 : px_cod 212 0 = some ((.iconst 0), 1, [], 0) := rfl
theorem k212_1 : px_cod 212 1 = some ((.istore_n 2), 1, [], 2) := rfl
theorem k212_2 : px_cod 212 2 = some ((.iload_n 2), 1, [], 2) := rfl
theorem k212_3 : px_cod 212 3 = some ((.aload_n 0), 1, [], 0) := rfl
theorem k212_4 : px_cod 212 4 = some ((.getfield 131), 3, [186, 12, 0, 1], 2) := rfl
theorem k212_7 : px_cod 212 7 = some ((.if_icmp .ge 47), 3, [54], 0) := rfl
theorem k212_10 : px_cod 212 10 = some ((.aload_n 0), 1, [], 0) := rfl
theorem k212_11 : px_cod 212 11 = some ((.getfield 89), 3, [227, 12, 4, 1], 43) := rfl
theorem k212_14 : px_cod 212 14 = some ((.bipush 36), 2, [], 36) := rfl
theorem k212_16 : px_cod 212 16 = some ((.iload_n 1), 1, [], 1) := rfl
theorem k212_17 : px_cod 212 17 = some (.imul, 1, [], 0) := rfl
theorem k212_18 : px_cod 212 18 = some ((.iload_n 2), 1, [], 2) := rfl
theorem k212_19 : px_cod 212 19 = some (.iadd, 1, [], 0) := rfl
theorem k212_20 : px_cod 212 20 = some ((.aload_n 0), 1, [], 0) := rfl
theorem k212_21 : px_cod 212 21 = some ((.getfield 89), 3, [227, 12, 4, 1], 43) := rfl
theorem k212_24 : px_cod 212 24 = some ((.bipush 36), 2, [], 36) := rfl
theorem k212_26 : px_cod 212 26 = some ((.iload_n 1), 1, [], 1) := rfl
theorem k212_27 : px_cod 212 27 = some (.imul, 1, [], 0) := rfl
theorem k212_28 : px_cod 212 28 = some ((.iload_n 2), 1, [], 2) := rfl
theorem k212_29 : px_cod 212 29 = some (.iadd, 1, [], 0) := rfl
theorem k212_30 : px_cod 212 30 = some (.baload, 1, [], 0) := rfl
theorem k212_31 : px_cod 212 31 = some ((.ifCond .eq 15), 3, [46], 0) := rfl
theorem k212_34 : px_cod 212 34 = some ((.aload_n 0), 1, [], 0) := rfl
theorem k212_35 : px_cod 212 35 = some ((.iload_n 2), 1, [], 2) := rfl
theorem k212_36 : px_cod 212 36 = some ((.invokevirtual 400), 3, [0, 275, 209], 0) := rfl
theorem k212_39 : px_cod 212 39 = some ((.ifCond .eq 7), 3, [46], 0) := rfl
theorem k212_42 : px_cod 212 42 = some ((.iconst 1), 1, [], 1) := rfl
theorem k212_43 : px_cod 212 43 = some ((.goto 4), 3, [47], 0) := rfl
theorem k212_46 : px_cod 212 46 = some ((.iconst 0), 1, [], 0) := rfl
theorem k212_47 : px_cod 212 47 = some (.bastore, 1, [], 0) := rfl
theorem k212_48 : px_cod 212 48 = some ((.iinc 2 1), 3, [2], 1) := rfl
theorem k212_51 : px_cod 212 51 = some ((.goto (-49)), 3, [2], 0) := rfl
theorem k212_54 : px_cod 212 54 = some ((.iload_n 1), 1, [], 1) := rfl
theorem k212_55 : px_cod 212 55 = some ((.iconst 1), 1, [], 1) := rfl
theorem k212_56 : px_cod 212 56 = some (.isub, 1, [], 0) := rfl
theorem k212_57 : px_cod 212 57 = some ((.istore_n 2), 1, [], 2) := rfl
theorem k212_58 : px_cod 212 58 = some ((.iload_n 2), 1, [], 2) := rfl
theorem k212_59 : px_cod 212 59 = some ((.ifCond .lt 122), 3, [181], 0) := rfl
theorem k212_62 : px_cod 212 62 = some ((.iconst 0), 1, [], 0) := rfl
theorem k212_63 : px_cod 212 63 = some ((.istore_n 3), 1, [], 3) := rfl
theorem k212_64 : px_cod 212 64 = some ((.iload_n 3), 1, [], 3) := rfl
theorem k212_65 : px_cod 212 65 = some ((.aload_n 0), 1, [], 0) := rfl
theorem k212_66 : px_cod 212 66 = some ((.getfield 131), 3, [186, 12, 0, 1], 2) := rfl
theorem k212_69 : px_cod 212 69 = some ((.if_icmp .ge 106), 3, [175], 0) := rfl
theorem k212_72 : px_cod 212 72 = some ((.iconst 0), 1, [], 0) := rfl
theorem k212_73 : px_cod 212 73 = some ((.istore 4), 2, [], 4) := rfl
theorem k212_75 : px_cod 212 75 = some ((.iconst 0), 1, [], 0) := rfl
theorem k212_76 : px_cod 212 76 = some ((.istore 5), 2, [], 5) := rfl
theorem k212_78 : px_cod 212 78 = some ((.iload 5), 2, [], 5) := rfl
theorem k212_80 : px_cod 212 80 = some ((.iconst 4), 1, [], 4) := rfl
theorem k212_81 : px_cod 212 81 = some ((.if_icmp .ge 53), 3, [134], 0) := rfl
theorem k212_84 : px_cod 212 84 = some ((.aload_n 0), 1, [], 0) := rfl
theorem k212_85 : px_cod 212 85 = some ((.iload_n 3), 1, [], 3) := rfl
theorem k212_86 : px_cod 212 86 = some ((.iload 5), 2, [], 5) := rfl
theorem k212_88 : px_cod 212 88 = some ((.invokevirtual 403), 3, [0, 276, 210], 0) := rfl
theorem k212_91 : px_cod 212 91 = some ((.istore 6), 2, [], 6) := rfl
theorem k212_93 : px_cod 212 93 = some ((.iload 4), 2, [], 4) := rfl
theorem k212_95 : px_cod 212 95 = some ((.ifCond .ne 26), 3, [121], 0) := rfl
theorem k212_98 : px_cod 212 98 = some ((.iload 6), 2, [], 6) := rfl
theorem k212_100 : px_cod 212 100 = some ((.iconst (-1)), 1, [], (-1)) := rfl
theorem k212_101 : px_cod 212 101 = some ((.if_icmp .eq 24), 3, [125], 0) := rfl
theorem k212_104 : px_cod 212 104 = some ((.aload_n 0), 1, [], 0) := rfl
theorem k212_105 : px_cod 212 105 = some ((.getfield 89), 3, [227, 12, 4, 1], 43) := rfl
theorem k212_108 : px_cod 212 108 = some ((.bipush 36), 2, [], 36) := rfl
theorem k212_110 : px_cod 212 110 = some ((.iload_n 2), 1, [], 2) := rfl
theorem k212_111 : px_cod 212 111 = some ((.iconst 1), 1, [], 1) := rfl
theorem k212_112 : px_cod 212 112 = some (.iadd, 1, [], 0) := rfl
theorem k212_113 : px_cod 212 113 = some (.imul, 1, [], 0) := rfl
theorem k212_114 : px_cod 212 114 = some ((.iload 6), 2, [], 6) := rfl
theorem k212_116 : px_cod 212 116 = some (.iadd, 1, [], 0) := rfl
theorem k212_117 : px_cod 212 117 = some (.baload, 1, [], 0) := rfl
theorem k212_118 : px_cod 212 118 = some ((.ifCond .eq 7), 3, [125], 0) := rfl
theorem k212_121 : px_cod 212 121 = some ((.iconst 1), 1, [], 1) := rfl
theorem k212_122 : px_cod 212 122 = some ((.goto 4), 3, [126], 0) := rfl
theorem k212_125 : px_cod 212 125 = some ((.iconst 0), 1, [], 0) := rfl
theorem k212_126 : px_cod 212 126 = some ((.istore 4), 2, [], 4) := rfl
theorem k212_128 : px_cod 212 128 = some ((.iinc 5 1), 3, [5], 1) := rfl
theorem k212_131 : px_cod 212 131 = some ((.goto (-53)), 3, [78], 0) := rfl
theorem k212_134 : px_cod 212 134 = some ((.aload_n 0), 1, [], 0) := rfl
theorem k212_135 : px_cod 212 135 = some ((.getfield 89), 3, [227, 12, 4, 1], 43) := rfl
theorem k212_138 : px_cod 212 138 = some ((.bipush 36), 2, [], 36) := rfl
theorem k212_140 : px_cod 212 140 = some ((.iload_n 2), 1, [], 2) := rfl
theorem k212_141 : px_cod 212 141 = some (.imul, 1, [], 0) := rfl
theorem k212_142 : px_cod 212 142 = some ((.iload_n 3), 1, [], 3) := rfl
theorem k212_143 : px_cod 212 143 = some (.iadd, 1, [], 0) := rfl
theorem k212_144 : px_cod 212 144 = some ((.aload_n 0), 1, [], 0) := rfl
theorem k212_145 : px_cod 212 145 = some ((.getfield 89), 3, [227, 12, 4, 1], 43) := rfl
theorem k212_148 : px_cod 212 148 = some ((.bipush 36), 2, [], 36) := rfl
theorem k212_150 : px_cod 212 150 = some ((.iload_n 2), 1, [], 2) := rfl
theorem k212_151 : px_cod 212 151 = some (.imul, 1, [], 0) := rfl
theorem k212_152 : px_cod 212 152 = some ((.iload_n 3), 1, [], 3) := rfl
theorem k212_153 : px_cod 212 153 = some (.iadd, 1, [], 0) := rfl
theorem k212_154 : px_cod 212 154 = some (.baload, 1, [], 0) := rfl
theorem k212_155 : px_cod 212 155 = some ((.ifCond .eq 12), 3, [167], 0) := rfl
theorem k212_158 : px_cod 212 158 = some ((.iload 4), 2, [], 4) := rfl
theorem k212_160 : px_cod 212 160 = some ((.ifCond .eq 7), 3, [167], 0) := rfl
theorem k212_163 : px_cod 212 163 = some ((.iconst 1), 1, [], 1) := rfl
theorem k212_164 : px_cod 212 164 = some ((.goto 4), 3, [168], 0) := rfl
theorem k212_167 : px_cod 212 167 = some ((.iconst 0), 1, [], 0) := rfl
theorem k212_168 : px_cod 212 168 = some (.bastore, 1, [], 0) := rfl
theorem k212_169 : px_cod 212 169 = some ((.iinc 3 1), 3, [3], 1) := rfl
theorem k212_172 : px_cod 212 172 = some ((.goto (-108)), 3, [64], 0) := rfl
theorem k212_175 : px_cod 212 175 = some ((.iinc 2 (-1)), 3, [2], (-1)) := rfl
theorem k212_178 : px_cod 212 178 = some ((.goto (-120)), 3, [58], 0) := rfl
theorem k212_181 : px_cod 212 181 = some ((.aload_n 0), 1, [], 0) := rfl
theorem k212_182 : px_cod 212 182 = some ((.getfield 7), 3, [187, 12, 4, 1], 3) := rfl
theorem k212_185 : px_cod 212 185 = some ((.iconst 0), 1, [], 0) := rfl
theorem k212_186 : px_cod 212 186 = some (.iaload, 1, [], 0) := rfl
theorem k212_187 : px_cod 212 187 = some ((.istore_n 2), 1, [], 2) := rfl
theorem k212_188 : px_cod 212 188 = some ((.iconst 1), 1, [], 1) := rfl
theorem k212_189 : px_cod 212 189 = some ((.istore_n 3), 1, [], 3) := rfl
theorem k212_190 : px_cod 212 190 = some ((.iload_n 3), 1, [], 3) := rfl
theorem k212_191 : px_cod 212 191 = some ((.iload_n 1), 1, [], 1) := rfl
theorem k212_192 : px_cod 212 192 = some ((.if_icmp .gt 92), 3, [284], 0) := rfl
theorem k212_195 : px_cod 212 195 = some ((.iconst (-1)), 1, [], (-1)) := rfl
theorem k212_196 : px_cod 212 196 = some ((.istore 4), 2, [], 4) := rfl
theorem k212_198 : px_cod 212 198 = some ((.iconst 0), 1, [], 0) := rfl
theorem k212_199 : px_cod 212 199 = some ((.istore 5), 2, [], 5) := rfl
theorem k212_201 : px_cod 212 201 = some ((.iload 5), 2, [], 5) := rfl
theorem k212_203 : px_cod 212 203 = some ((.iconst 4), 1, [], 4) := rfl
theorem k212_204 : px_cod 212 204 = some ((.if_icmp .ge 61), 3, [265], 0) := rfl
theorem k212_207 : px_cod 212 207 = some ((.aload_n 0), 1, [], 0) := rfl
theorem k212_208 : px_cod 212 208 = some ((.iload_n 2), 1, [], 2) := rfl
theorem k212_209 : px_cod 212 209 = some ((.iload 5), 2, [], 5) := rfl
theorem k212_211 : px_cod 212 211 = some ((.invokevirtual 403), 3, [0, 276, 210], 0) := rfl
theorem k212_214 : px_cod 212 214 = some ((.istore 6), 2, [], 6) := rfl
theorem k212_216 : px_cod 212 216 = some ((.iload 6), 2, [], 6) := rfl
theorem k212_218 : px_cod 212 218 = some ((.iconst (-1)), 1, [], (-1)) := rfl
theorem k212_219 : px_cod 212 219 = some ((.if_icmp .eq 36), 3, [255], 0) := rfl
theorem k212_222 : px_cod 212 222 = some ((.aload_n 0), 1, [], 0) := rfl
theorem k212_223 : px_cod 212 223 = some ((.getfield 89), 3, [227, 12, 4, 1], 43) := rfl
theorem k212_226 : px_cod 212 226 = some ((.bipush 36), 2, [], 36) := rfl
theorem k212_228 : px_cod 212 228 = some ((.iload_n 3), 1, [], 3) := rfl
theorem k212_229 : px_cod 212 229 = some (.imul, 1, [], 0) := rfl
theorem k212_230 : px_cod 212 230 = some ((.iload 6), 2, [], 6) := rfl
theorem k212_232 : px_cod 212 232 = some (.iadd, 1, [], 0) := rfl
theorem k212_233 : px_cod 212 233 = some (.baload, 1, [], 0) := rfl
theorem k212_234 : px_cod 212 234 = some ((.ifCond .eq 21), 3, [255], 0) := rfl
theorem k212_237 : px_cod 212 237 = some ((.iload 4), 2, [], 4) := rfl
theorem k212_239 : px_cod 212 239 = some ((.iconst (-1)), 1, [], (-1)) := rfl
theorem k212_240 : px_cod 212 240 = some ((.if_icmp .eq 10), 3, [250], 0) := rfl
theorem k212_243 : px_cod 212 243 = some ((.iload 6), 2, [], 6) := rfl
theorem k212_245 : px_cod 212 245 = some ((.iload 4), 2, [], 4) := rfl
theorem k212_247 : px_cod 212 247 = some ((.if_icmp .ge 8), 3, [255], 0) := rfl
theorem k212_250 : px_cod 212 250 = some ((.iload 6), 2, [], 6) := rfl
theorem k212_252 : px_cod 212 252 = some ((.goto 5), 3, [257], 0) := rfl
theorem k212_255 : px_cod 212 255 = some ((.iload 4), 2, [], 4) := rfl
theorem k212_257 : px_cod 212 257 = some ((.istore 4), 2, [], 4) := rfl
theorem k212_259 : px_cod 212 259 = some ((.iinc 5 1), 3, [5], 1) := rfl
theorem k212_262 : px_cod 212 262 = some ((.goto (-61)), 3, [201], 0) := rfl
theorem k212_265 : px_cod 212 265 = some ((.aload_n 0), 1, [], 0) := rfl
theorem k212_266 : px_cod 212 266 = some ((.getfield 92), 3, [228, 12, 4, 1], 44) := rfl
theorem k212_269 : px_cod 212 269 = some ((.iload_n 3), 1, [], 3) := rfl
theorem k212_270 : px_cod 212 270 = some ((.iconst 1), 1, [], 1) := rfl
theorem k212_271 : px_cod 212 271 = some (.isub, 1, [], 0) := rfl
theorem k212_272 : px_cod 212 272 = some ((.iload 4), 2, [], 4) := rfl
theorem k212_274 : px_cod 212 274 = some (.iastore, 1, [], 0) := rfl
theorem k212_275 : px_cod 212 275 = some ((.iload 4), 2, [], 4) := rfl
theorem k212_277 : px_cod 212 277 = some ((.istore_n 2), 1, [], 2) := rfl
theorem k212_278 : px_cod 212 278 = some ((.iinc 3 1), 3, [3], 1) := rfl
theorem k212_281 : px_cod 212 281 = some ((.goto (-91)), 3, [190], 0) := rfl
theorem k212_284 : px_cod 212 284 = some (.return_, 1, [], 0) := rfl
theorem k213_0 : px_cod 213 0 = some ((.aload_n 0), 1, [], 0) := rfl
theorem k213_1 : px_cod 213 1 = some ((.iload_n 1), 1, [], 1) := rfl
theorem k213_2 : px_cod 213 2 = some ((.invokevirtual 146), 3, [0, 215, 144], 0) := rfl
theorem k213_5 : px_cod 213 5 = some ((.ifCond .eq 15), 3, [20], 0) := rfl
theorem k213_8 : px_cod 213 8 = some ((.iload_n 2), 1, [], 2) := rfl
theorem k213_9 : px_cod 213 9 = some ((.invokestatic 358), 3, [0, 248, 145], 0) := rfl
theorem k213_12 : px_cod 213 12 = some ((.ifCond .eq 8), 3, [20], 0) := rfl
theorem k213_15 : px_cod 213 15 = some ((.iload_n 3), 1, [], 3) := rfl
theorem k213_16 : px_cod 213 16 = some ((.iconst (-1)), 1, [], (-1)) := rfl
theorem k213_17 : px_cod 213 17 = some ((.if_icmp .ge 5), 3, [22], 0) := rfl
theorem k213_20 : px_cod 213 20 = some ((.iconst (-1)), 1, [], (-1)) := rfl
theorem k213_21 : px_cod 213 21 = some (.ireturn, 1, [], 0) := rfl
theorem k213_22 : px_cod 213 22 = some ((.aload_n 0), 1, [], 0) := rfl
theorem k213_23 : px_cod 213 23 = some ((.invokevirtual 409), 3, [0, 273, 207], 0) := rfl
theorem k213_26 : px_cod 213 26 = some ((.aload_n 0), 1, [], 0) := rfl
theorem k213_27 : px_cod 213 27 = some ((.iload_n 1), 1, [], 1) := rfl
theorem k213_28 : px_cod 213 28 = some ((.iload_n 2), 1, [], 2) := rfl
theorem k213_29 : px_cod 213 29 = some ((.invokevirtual 412), 3, [0, 274, 211], 0) := rfl
theorem k213_32 : px_cod 213 32 = some ((.istore 4), 2, [], 4) := rfl
theorem k213_34 : px_cod 213 34 = some ((.iload_n 3), 1, [], 3) := rfl
theorem k213_35 : px_cod 213 35 = some ((.iconst (-1)), 1, [], (-1)) := rfl
theorem k213_36 : px_cod 213 36 = some ((.if_icmp .eq 9), 3, [45], 0) := rfl
theorem k213_39 : px_cod 213 39 = some ((.iload_n 3), 1, [], 3) := rfl
theorem k213_40 : px_cod 213 40 = some ((.iload 4), 2, [], 4) := rfl
theorem k213_42 : px_cod 213 42 = some ((.if_icmp .lt 15), 3, [57], 0) := rfl
theorem k213_45 : px_cod 213 45 = some ((.iload_n 3), 1, [], 3) := rfl
theorem k213_46 : px_cod 213 46 = some ((.iconst (-1)), 1, [], (-1)) := rfl
theorem k213_47 : px_cod 213 47 = some ((.if_icmp .ne 8), 3, [55], 0) := rfl
theorem k213_50 : px_cod 213 50 = some ((.iload 4), 2, [], 4) := rfl
theorem k213_52 : px_cod 213 52 = some ((.goto 4), 3, [56], 0) := rfl
theorem k213_55 : px_cod 213 55 = some ((.iconst (-1)), 1, [], (-1)) := rfl
theorem k213_56 : px_cod 213 56 = some (.ireturn, 1, [], 0) := rfl
theorem k213_57 : px_cod 213 57 = some ((.aload_n 0), 1, [], 0) := rfl
theorem k213_58 : px_cod 213 58 = some ((.iload 4), 2, [], 4) := rfl
theorem k213_60 : px_cod 213 60 = some ((.invokevirtual 415), 3, [0, 278, 212], 0) := rfl
theorem k213_63 : px_cod 213 63 = some ((.aload_n 0), 1, [], 0) := rfl
theorem k213_64 : px_cod 213 64 = some ((.getfield 92), 3, [228, 12, 4, 1], 44) := rfl
theorem k213_67 : px_cod 213 67 = some ((.iload_n 3), 1, [], 3) := rfl
theorem k213_68 : px_cod 213 68 = some (.iaload, 1, [], 0) := rfl
theorem k213_69 : px_cod 213 69 = some (.ireturn, 1, [], 0) := rfl
theorem k214_0 : px_cod 214 0 = some ((.aload_n 0), 1, [], 0) := rfl
theorem k214_1 : px_cod 214 1 = some ((.iload_n 1), 1, [], 1) := rfl
theorem k214_2 : px_cod 214 2 = some ((.invokevirtual 146), 3, [0, 215, 144], 0) := rfl
theorem k214_5 : px_cod 214 5 = some ((.ifCond .ne 5), 3, [10], 0) := rfl
theorem k214_8 : px_cod 214 8 = some ((.iconst (-1)), 1, [], (-1)) := rfl
theorem k214_9 : px_cod 214 9 = some (.ireturn, 1, [], 0) := rfl
theorem k214_10 : px_cod 214 10 = some ((.aload_n 0), 1, [], 0) := rfl
theorem k214_11 : px_cod 214 11 = some ((.invokevirtual 409), 3, [0, 273, 207], 0) := rfl
theorem k214_14 : px_cod 214 14 = some ((.sipush 1439), 3, [], 1439) := rfl
theorem k214_17 : px_cod 214 17 = some ((.istore_n 2), 1, [], 2) := rfl
theorem k214_18 : px_cod 214 18 = some ((.iload_n 2), 1, [], 2) := rfl
theorem k214_19 : px_cod 214 19 = some ((.ifCond .lt 21), 3, [40], 0) := rfl
theorem k214_22 : px_cod 214 22 = some ((.aload_n 0), 1, [], 0) := rfl
theorem k214_23 : px_cod 214 23 = some ((.iload_n 1), 1, [], 1) := rfl
theorem k214_24 : px_cod 214 24 = some ((.iload_n 2), 1, [], 2) := rfl
theorem k214_25 : px_cod 214 25 = some ((.invokevirtual 412), 3, [0, 274, 211], 0) := rfl
theorem k214_28 : px_cod 214 28 = some ((.iconst (-1)), 1, [], (-1)) := rfl
theorem k214_29 : px_cod 214 29 = some ((.if_icmp .eq 5), 3, [34], 0) := rfl
theorem k214_32 : px_cod 214 32 = some ((.iload_n 2), 1, [], 2) := rfl
theorem k214_33 : px_cod 214 33 = some (.ireturn, 1, [], 0) := rfl
theorem k214_34 : px_cod 214 34 = some ((.iinc 2 (-1)), 3, [2], (-1)) := rfl
theorem k214_37 : px_cod 214 37 = some ((.goto (-19)), 3, [18], 0) := rfl
theorem k214_40 : px_cod 214 40 = some ((.iconst (-1)), 1, [], (-1)) := rfl
theorem k214_41 : px_cod 214 41 = some (.ireturn, 1, [], 0) := rfl
theorem k215_0 : px_cod 215 0 = some ((.iconst 0), 1, [], 0) := rfl
theorem k215_1 : px_cod 215 1 = some ((.istore_n 1), 1, [], 1) := rfl
theorem k215_2 : px_cod 215 2 = some ((.iload_n 1), 1, [], 1) := rfl
theorem k215_3 : px_cod 215 3 = some ((.aload_n 0), 1, [], 0) := rfl
theorem k215_4 : px_cod 215 4 = some ((.getfield 131), 3, [186, 12, 0, 1], 2) := rfl
theorem k215_7 : px_cod 215 7 = some ((.if_icmp .ge 29), 3, [36], 0) := rfl
theorem k215_10 : px_cod 215 10 = some ((.aload_n 0), 1, [], 0) := rfl
theorem k215_11 : px_cod 215 11 = some ((.getfield 95), 3, [229, 12, 4, 1], 45) := rfl
theorem k215_14 : px_cod 215 14 = some ((.iload_n 1), 1, [], 1) := rfl
theorem k215_15 : px_cod 215 15 = some ((.aload_n 0), 1, [], 0) := rfl
theorem k215_16 : px_cod 215 16 = some ((.iload_n 1), 1, [], 1) := rfl
theorem k215_17 : px_cod 215 17 = some ((.invokevirtual 400), 3, [0, 275, 209], 0) := rfl
theorem k215_20 : px_cod 215 20 = some ((.ifCond .eq 7), 3, [27], 0) := rfl
theorem k215_23 : px_cod 215 23 = some ((.iconst 0), 1, [], 0) := rfl
theorem k215_24 : px_cod 215 24 = some ((.goto 5), 3, [29], 0) := rfl
theorem k215_27 : px_cod 215 27 = some ((.bipush 99), 2, [], 99) := rfl
theorem k215_29 : px_cod 215 29 = some (.iastore, 1, [], 0) := rfl
theorem k215_30 : px_cod 215 30 = some ((.iinc 1 1), 3, [1], 1) := rfl
theorem k215_33 : px_cod 215 33 = some ((.goto (-31)), 3, [2], 0) := rfl
theorem k215_36 : px_cod 215 36 = some ((.iconst 0), 1, [], 0) := rfl
theorem k215_37 : px_cod 215 37 = some ((.istore_n 1), 1, [], 1) := rfl
theorem k215_38 : px_cod 215 38 = some ((.iload_n 1), 1, [], 1) := rfl
theorem k215_39 : px_cod 215 39 = some ((.aload_n 0), 1, [], 0) := rfl
theorem k215_40 : px_cod 215 40 = some ((.getfield 131), 3, [186, 12, 0, 1], 2) := rfl
theorem k215_43 : px_cod 215 43 = some ((.if_icmp .ge 94), 3, [137], 0) := rfl
theorem k215_46 : px_cod 215 46 = some ((.iconst 0), 1, [], 0) := rfl
theorem k215_47 : px_cod 215 47 = some ((.istore_n 2), 1, [], 2) := rfl
theorem k215_48 : px_cod 215 48 = some ((.iload_n 2), 1, [], 2) := rfl
theorem k215_49 : px_cod 215 49 = some ((.aload_n 0), 1, [], 0) := rfl
theorem k215_50 : px_cod 215 50 = some ((.getfield 131), 3, [186, 12, 0, 1], 2) := rfl
theorem k215_53 : px_cod 215 53 = some ((.if_icmp .ge 78), 3, [131], 0) := rfl
theorem k215_56 : px_cod 215 56 = some ((.iconst 0), 1, [], 0) := rfl
theorem k215_57 : px_cod 215 57 = some ((.istore_n 3), 1, [], 3) := rfl
theorem k215_58 : px_cod 215 58 = some ((.iload_n 3), 1, [], 3) := rfl
theorem k215_59 : px_cod 215 59 = some ((.iconst 4), 1, [], 4) := rfl
theorem k215_60 : px_cod 215 60 = some ((.if_icmp .ge 65), 3, [125], 0) := rfl
theorem k215_63 : px_cod 215 63 = some ((.aload_n 0), 1, [], 0) := rfl
theorem k215_64 : px_cod 215 64 = some ((.iload_n 2), 1, [], 2) := rfl
theorem k215_65 : px_cod 215 65 = some ((.iload_n 3), 1, [], 3) := rfl
theorem k215_66 : px_cod 215 66 = some ((.invokevirtual 403), 3, [0, 276, 210], 0) := rfl
theorem k215_69 : px_cod 215 69 = some ((.istore 4), 2, [], 4) := rfl
theorem k215_71 : px_cod 215 71 = some ((.aload_n 0), 1, [], 0) := rfl
theorem k215_72 : px_cod 215 72 = some ((.getfield 95), 3, [229, 12, 4, 1], 45) := rfl
theorem k215_75 : px_cod 215 75 = some ((.iload_n 2), 1, [], 2) := rfl
theorem k215_76 : px_cod 215 76 = some ((.iload 4), 2, [], 4) := rfl
theorem k215_78 : px_cod 215 78 = some ((.iconst (-1)), 1, [], (-1)) := rfl
theorem k215_79 : px_cod 215 79 = some ((.if_icmp .eq 33), 3, [112], 0) := rfl
theorem k215_82 : px_cod 215 82 = some ((.aload_n 0), 1, [], 0) := rfl
theorem k215_83 : px_cod 215 83 = some ((.getfield 95), 3, [229, 12, 4, 1], 45) := rfl
theorem k215_86 : px_cod 215 86 = some ((.iload 4), 2, [], 4) := rfl
theorem k215_88 : px_cod 215 88 = some (.iaload, 1, [], 0) := rfl
theorem k215_89 : px_cod 215 89 = some ((.iconst 1), 1, [], 1) := rfl
theorem k215_90 : px_cod 215 90 = some (.iadd, 1, [], 0) := rfl
theorem k215_91 : px_cod 215 91 = some ((.aload_n 0), 1, [], 0) := rfl
theorem k215_92 : px_cod 215 92 = some ((.getfield 95), 3, [229, 12, 4, 1], 45) := rfl
theorem k215_95 : px_cod 215 95 = some ((.iload_n 2), 1, [], 2) := rfl
theorem k215_96 : px_cod 215 96 = some (.iaload, 1, [], 0) := rfl
theorem k215_97 : px_cod 215 97 = some ((.if_icmp .ge 15), 3, [112], 0) := rfl
theorem k215_100 : px_cod 215 100 = some ((.aload_n 0), 1, [], 0) := rfl
theorem k215_101 : px_cod 215 101 = some ((.getfield 95), 3, [229, 12, 4, 1], 45) := rfl
theorem k215_104 : px_cod 215 104 = some ((.iload 4), 2, [], 4) := rfl
theorem k215_106 : px_cod 215 106 = some (.iaload, 1, [], 0) := rfl
theorem k215_107 : px_cod 215 107 = some ((.iconst 1), 1, [], 1) := rfl
theorem k215_108 : px_cod 215 108 = some (.iadd, 1, [], 0) := rfl
theorem k215_109 : px_cod 215 109 = some ((.goto 9), 3, [118], 0) := rfl
theorem k215_112 : px_cod 215 112 = some ((.aload_n 0), 1, [], 0) := rfl
theorem k215_113 : px_cod 215 113 = some ((.getfield 95), 3, [229, 12, 4, 1], 45) := rfl
theorem k215_116 : px_cod 215 116 = some ((.iload_n 2), 1, [], 2) := rfl
theorem k215_117 : px_cod 215 117 = some (.iaload, 1, [], 0) := rfl
theorem k215_118 : px_cod 215 118 = some (.iastore, 1, [], 0) := rfl
theorem k215_119 : px_cod 215 119 = some ((.iinc 3 1), 3, [3], 1) := rfl
theorem k215_122 : px_cod 215 122 = some ((.goto (-64)), 3, [58], 0) := rfl
theorem k215_125 : px_cod 215 125 = some ((.iinc 2 1), 3, [2], 1) := rfl
theorem k215_128 : px_cod 215 128 = some ((.goto (-80)), 3, [48], 0) := rfl
theorem k215_131 : px_cod 215 131 = some ((.iinc 1 1), 3, [1], 1) := rfl
theorem k215_134 : px_cod 215 134 = some ((.goto (-96)), 3, [38], 0) := rfl
theorem k215_137 : px_cod 215 137 = some (.return_, 1, [], 0) := rfl
theorem k216_0 : px_cod 216 0 = some ((.iconst (-1)), 1, [], (-1)) := rfl
theorem k216_1 : px_cod 216 1 = some ((.istore_n 2), 1, [], 2) := rfl
theorem k216_2 : px_cod 216 2 = some ((.iconst 0), 1, [], 0) := rfl
theorem k216_3 : px_cod 216 3 = some ((.istore_n 3), 1, [], 3) := rfl
theorem k216_4 : px_cod 216 4 = some ((.iload_n 3), 1, [], 3) := rfl
theorem k216_5 : px_cod 216 5 = some ((.iconst 4), 1, [], 4) := rfl
theorem k216_6 : px_cod 216 6 = some ((.if_icmp .ge 57), 3, [63], 0) := rfl
theorem k216_9 : px_cod 216 9 = some ((.aload_n 0), 1, [], 0) := rfl
theorem k216_10 : px_cod 216 10 = some ((.iload_n 1), 1, [], 1) := rfl
theorem k216_11 : px_cod 216 11 = some ((.iload_n 3), 1, [], 3) := rfl
theorem k216_12 : px_cod 216 12 = some ((.invokevirtual 403), 3, [0, 276, 210], 0) := rfl
theorem k216_15 : px_cod 216 15 = some ((.istore 4), 2, [], 4) := rfl
theorem k216_17 : px_cod 216 17 = some ((.iload 4), 2, [], 4) := rfl
theorem k216_19 : px_cod 216 19 = some ((.iconst (-1)), 1, [], (-1)) := rfl
theorem k216_20 : px_cod 216 20 = some ((.if_icmp .eq 35), 3, [55], 0) := rfl
theorem k216_23 : px_cod 216 23 = some ((.aload_n 0), 1, [], 0) := rfl
theorem k216_24 : px_cod 216 24 = some ((.getfield 95), 3, [229, 12, 4, 1], 45) := rfl
theorem k216_27 : px_cod 216 27 = some ((.iload 4), 2, [], 4) := rfl
theorem k216_29 : px_cod 216 29 = some (.iaload, 1, [], 0) := rfl
theorem k216_30 : px_cod 216 30 = some ((.aload_n 0), 1, [], 0) := rfl
theorem k216_31 : px_cod 216 31 = some ((.getfield 95), 3, [229, 12, 4, 1], 45) := rfl
theorem k216_34 : px_cod 216 34 = some ((.iload_n 1), 1, [], 1) := rfl
theorem k216_35 : px_cod 216 35 = some (.iaload, 1, [], 0) := rfl
theorem k216_36 : px_cod 216 36 = some ((.if_icmp .ge 19), 3, [55], 0) := rfl
theorem k216_39 : px_cod 216 39 = some ((.iload_n 2), 1, [], 2) := rfl
theorem k216_40 : px_cod 216 40 = some ((.iconst (-1)), 1, [], (-1)) := rfl
theorem k216_41 : px_cod 216 41 = some ((.if_icmp .eq 9), 3, [50], 0) := rfl
theorem k216_44 : px_cod 216 44 = some ((.iload 4), 2, [], 4) := rfl
theorem k216_46 : px_cod 216 46 = some ((.iload_n 2), 1, [], 2) := rfl
theorem k216_47 : px_cod 216 47 = some ((.if_icmp .ge 8), 3, [55], 0) := rfl
theorem k216_50 : px_cod 216 50 = some ((.iload 4), 2, [], 4) := rfl
theorem k216_52 : px_cod 216 52 = some ((.goto 4), 3, [56], 0) := rfl
theorem k216_55 : px_cod 216 55 = some ((.iload_n 2), 1, [], 2) := rfl
theorem k216_56 : px_cod 216 56 = some ((.istore_n 2), 1, [], 2) := rfl
theorem k216_57 : px_cod 216 57 = some ((.iinc 3 1), 3, [3], 1) := rfl
theorem k216_60 : px_cod 216 60 = some ((.goto (-56)), 3, [4], 0) := rfl
theorem k216_63 : px_cod 216 63 = some ((.iload_n 2), 1, [], 2) := rfl
theorem k216_64 : px_cod 216 64 = some (.ireturn, 1, [], 0) := rfl
theorem k217_0 : px_cod 217 0 = some ((.aload_n 0), 1, [], 0) := rfl
theorem k217_1 : px_cod 217 1 = some ((.iload_n 2), 1, [], 2) := rfl
theorem k217_2 : px_cod 217 2 = some ((.invokevirtual 418), 3, [0, 283, 216], 0) := rfl
theorem k217_5 : px_cod 217 5 = some ((.istore 5), 2, [], 5) := rfl
theorem k217_7 : px_cod 217 7 = some ((.iconst 0), 1, [], 0) := rfl
theorem k217_8 : px_cod 217 8 = some ((.istore 6), 2, [], 6) := rfl
theorem k217_10 : px_cod 217 10 = some ((.iload 6), 2, [], 6) := rfl
theorem k217_12 : px_cod 217 12 = some ((.iconst 4), 1, [], 4) := rfl
theorem k217_13 : px_cod 217 13 = some ((.if_icmp .ge 83), 3, [96], 0) := rfl
theorem k217_16 : px_cod 217 16 = some ((.aload_n 0), 1, [], 0) := rfl
theorem k217_17 : px_cod 217 17 = some ((.iload_n 2), 1, [], 2) := rfl
theorem k217_18 : px_cod 217 18 = some ((.iload 6), 2, [], 6) := rfl
theorem k217_20 : px_cod 217 20 = some ((.invokevirtual 403), 3, [0, 276, 210], 0) := rfl
theorem k217_23 : px_cod 217 23 = some ((.istore 7), 2, [], 7) := rfl
theorem k217_25 : px_cod 217 25 = some ((.iload 7), 2, [], 7) := rfl
theorem k217_27 : px_cod 217 27 = some ((.iload 5), 2, [], 5) := rfl
theorem k217_29 : px_cod 217 29 = some ((.if_icmp .ne 12), 3, [41], 0) := rfl
theorem k217_32 : px_cod 217 32 = some ((.bipush 12), 2, [], 12) := rfl
theorem k217_34 : px_cod 217 34 = some ((.iconst 3), 1, [], 3) := rfl
theorem k217_35 : px_cod 217 35 = some ((.iload_n 3), 1, [], 3) := rfl
theorem k217_36 : px_cod 217 36 = some (.imul, 1, [], 0) := rfl
theorem k217_37 : px_cod 217 37 = some (.isub, 1, [], 0) := rfl
theorem k217_38 : px_cod 217 38 = some ((.goto 4), 3, [42], 0) := rfl
theorem k217_41 : px_cod 217 41 = some ((.iload_n 3), 1, [], 3) := rfl
theorem k217_42 : px_cod 217 42 = some ((.istore 8), 2, [], 8) := rfl
theorem k217_44 : px_cod 217 44 = some ((.iload 7), 2, [], 7) := rfl
theorem k217_46 : px_cod 217 46 = some ((.iconst (-1)), 1, [], (-1)) := rfl
theorem k217_47 : px_cod 217 47 = some ((.if_icmp .ne 7), 3, [54], 0) := rfl
theorem k217_50 : px_cod 217 50 = some ((.iload_n 2), 1, [], 2) := rfl
theorem k217_51 : px_cod 217 51 = some ((.goto 5), 3, [56], 0) := rfl
theorem k217_54 : px_cod 217 54 = some ((.iload 7), 2, [], 7) := rfl
theorem k217_56 : px_cod 217 56 = some ((.istore 9), 2, [], 9) := rfl
theorem k217_58 : px_cod 217 58 = some ((.aload_n 0), 1, [], 0) := rfl
theorem k217_59 : px_cod 217 59 = some ((.iload_n 1), 1, [], 1) := rfl
theorem k217_60 : px_cod 217 60 = some ((.iload 9), 2, [], 9) := rfl
theorem k217_62 : px_cod 217 62 = some ((.iload 4), 2, [], 4) := rfl
theorem k217_64 : px_cod 217 64 = some ((.invokevirtual 406), 3, [0, 277, 208], 0) := rfl
theorem k217_67 : px_cod 217 67 = some ((.ifCond .eq 23), 3, [90], 0) := rfl
theorem k217_70 : px_cod 217 70 = some ((.aload_n 0), 1, [], 0) := rfl
theorem k217_71 : px_cod 217 71 = some ((.getfield 101), 3, [231, 12, 4, 1], 47) := rfl
theorem k217_74 : px_cod 217 74 = some ((.iload 9), 2, [], 9) := rfl
theorem k217_76 : px_cod 217 76 = some (.dup2, 1, [], 0) := rfl
theorem k217_77 : px_cod 217 77 = some (.laload, 1, [], 0) := rfl
theorem k217_78 : px_cod 217 78 = some ((.aload_n 0), 1, [], 0) := rfl
theorem k217_79 : px_cod 217 79 = some ((.getfield 98), 3, [230, 12, 4, 1], 46) := rfl
theorem k217_82 : px_cod 217 82 = some ((.iload_n 2), 1, [], 2) := rfl
theorem k217_83 : px_cod 217 83 = some (.laload, 1, [], 0) := rfl
theorem k217_84 : px_cod 217 84 = some ((.iload 8), 2, [], 8) := rfl
theorem k217_86 : px_cod 217 86 = some (.i2l, 1, [], 0) := rfl
theorem k217_87 : px_cod 217 87 = some (.lmul, 1, [], 0) := rfl
theorem k217_88 : px_cod 217 88 = some (.ladd, 1, [], 0) := rfl
theorem k217_89 : px_cod 217 89 = some (.lastore, 1, [], 0) := rfl
theorem k217_90 : px_cod 217 90 = some ((.iinc 6 1), 3, [6], 1) := rfl
theorem k217_93 : px_cod 217 93 = some ((.goto (-83)), 3, [10], 0) := rfl
theorem k217_96 : px_cod 217 96 = some (.return_, 1, [], 0) := rfl
theorem k218_0 : px_cod 218 0 = some ((.aload_n 0), 1, [], 0) := rfl
theorem k218_1 : px_cod 218 1 = some ((.iload_n 1), 1, [], 1) := rfl
theorem k218_2 : px_cod 218 2 = some ((.invokevirtual 146), 3, [0, 215, 144], 0) := rfl
theorem k218_5 : px_cod 218 5 = some ((.ifCond .eq 30), 3, [35], 0) := rfl
theorem k218_8 : px_cod 218 8 = some ((.iload_n 2), 1, [], 2) := rfl
theorem k218_9 : px_cod 218 9 = some ((.invokestatic 358), 3, [0, 248, 145], 0) := rfl
theorem k218_12 : px_cod 218 12 = some ((.ifCond .eq 23), 3, [35], 0) := rfl
theorem k218_15 : px_cod 218 15 = some ((.iload_n 3), 1, [], 3) := rfl
theorem k218_16 : px_cod 218 16 = some ((.iconst 0), 1, [], 0) := rfl
theorem k218_17 : px_cod 218 17 = some ((.iconst 3), 1, [], 3) := rfl
theorem k218_18 : px_cod 218 18 = some ((.invokestatic 138), 3, [0, 209, 141], 0) := rfl
theorem k218_21 : px_cod 218 21 = some ((.ifCond .eq 14), 3, [35], 0) := rfl
theorem k218_24 : px_cod 218 24 = some ((.iload 4), 2, [], 4) := rfl
theorem k218_26 : px_cod 218 26 = some ((.iconst 1), 1, [], 1) := rfl
theorem k218_27 : px_cod 218 27 = some ((.bipush 10), 2, [], 10) := rfl
theorem k218_29 : px_cod 218 29 = some ((.invokestatic 138), 3, [0, 209, 141], 0) := rfl
theorem k218_32 : px_cod 218 32 = some ((.ifCond .ne 5), 3, [37], 0) := rfl
theorem k218_35 : px_cod 218 35 = some ((.iconst (-1)), 1, [], (-1)) := rfl
theorem k218_36 : px_cod 218 36 = some (.ireturn, 1, [], 0) := rfl
theorem k218_37 : px_cod 218 37 = some ((.aload_n 0), 1, [], 0) := rfl
theorem k218_38 : px_cod 218 38 = some ((.invokevirtual 409), 3, [0, 273, 207], 0) := rfl
theorem k218_41 : px_cod 218 41 = some ((.aload_n 0), 1, [], 0) := rfl
theorem k218_42 : px_cod 218 42 = some ((.invokevirtual 421), 3, [0, 281, 215], 0) := rfl
theorem k218_45 : px_cod 218 45 = some ((.aload_n 0), 1, [], 0) := rfl
theorem k218_46 : px_cod 218 46 = some ((.getfield 95), 3, [229, 12, 4, 1], 45) := rfl
theorem k218_49 : px_cod 218 49 = some ((.iconst 0), 1, [], 0) := rfl
theorem k218_50 : px_cod 218 50 = some (.iaload, 1, [], 0) := rfl
theorem k218_51 : px_cod 218 51 = some ((.bipush 99), 2, [], 99) := rfl
theorem k218_53 : px_cod 218 53 = some ((.if_icmp .ne 5), 3, [58], 0) := rfl
theorem k218_56 : px_cod 218 56 = some ((.iconst 0), 1, [], 0) := rfl
theorem k218_57 : px_cod 218 57 = some (.ireturn, 1, [], 0) := rfl
theorem k218_58 : px_cod 218 58 = some ((.iconst 0), 1, [], 0) := rfl
theorem k218_59 : px_cod 218 59 = some ((.istore 5), 2, [], 5) := rfl
theorem k218_61 : px_cod 218 61 = some ((.iload 5), 2, [], 5) := rfl
theorem k218_63 : px_cod 218 63 = some ((.aload_n 0), 1, [], 0) := rfl
theorem k218_64 : px_cod 218 64 = some ((.getfield 131), 3, [186, 12, 0, 1], 2) := rfl
theorem k218_67 : px_cod 218 67 = some ((.if_icmp .ge 32), 3, [99], 0) := rfl
theorem k218_70 : px_cod 218 70 = some ((.aload_n 0), 1, [], 0) := rfl
theorem k218_71 : px_cod 218 71 = some ((.getfield 98), 3, [230, 12, 4, 1], 46) := rfl
theorem k218_74 : px_cod 218 74 = some ((.iload 5), 2, [], 5) := rfl
theorem k218_76 : px_cod 218 76 = some ((.iload 5), 2, [], 5) := rfl
theorem k218_78 : px_cod 218 78 = some ((.aload_n 0), 1, [], 0) := rfl
theorem k218_79 : px_cod 218 79 = some ((.getfield 7), 3, [187, 12, 4, 1], 3) := rfl
theorem k218_82 : px_cod 218 82 = some ((.iconst 0), 1, [], 0) := rfl
theorem k218_83 : px_cod 218 83 = some (.iaload, 1, [], 0) := rfl
theorem k218_84 : px_cod 218 84 = some ((.if_icmp .ne 7), 3, [91], 0) := rfl
theorem k218_87 : px_cod 218 87 = some ((.lconst 1), 1, [], 1) := rfl
theorem k218_88 : px_cod 218 88 = some ((.goto 4), 3, [92], 0) := rfl
theorem k218_91 : px_cod 218 91 = some ((.lconst 0), 1, [], 0) := rfl
theorem k218_92 : px_cod 218 92 = some (.lastore, 1, [], 0) := rfl
theorem k218_93 : px_cod 218 93 = some ((.iinc 5 1), 3, [5], 1) := rfl
theorem k218_96 : px_cod 218 96 = some ((.goto (-35)), 3, [61], 0) := rfl
theorem k218_99 : px_cod 218 99 = some ((.lconst 1), 1, [], 1) := rfl
theorem k218_100 : px_cod 218 100 = some ((.lstore 5), 2, [], 5) := rfl
theorem k218_102 : px_cod 218 102 = some ((.iconst 1), 1, [], 1) := rfl
theorem k218_103 : px_cod 218 103 = some ((.istore 7), 2, [], 7) := rfl
theorem k218_105 : px_cod 218 105 = some ((.iload 7), 2, [], 7) := rfl
theorem k218_107 : px_cod 218 107 = some ((.iload 4), 2, [], 4) := rfl
theorem k218_109 : px_cod 218 109 = some ((.if_icmp .gt 156), 3, [265], 0) := rfl
theorem k218_112 : px_cod 218 112 = some ((.lload 5), 2, [], 5) := rfl
theorem k218_114 : px_cod 218 114 = some ((.ldc2_w 424), 3, [0, 44], 12) := rfl
theorem k218_117 : px_cod 218 117 = some (.lmul, 1, [], 0) := rfl
theorem k218_118 : px_cod 218 118 = some ((.lstore 5), 2, [], 5) := rfl
theorem k218_120 : px_cod 218 120 = some ((.iconst 0), 1, [], 0) := rfl
theorem k218_121 : px_cod 218 121 = some ((.istore 8), 2, [], 8) := rfl
theorem k218_123 : px_cod 218 123 = some ((.iload 8), 2, [], 8) := rfl
theorem k218_125 : px_cod 218 125 = some ((.aload_n 0), 1, [], 0) := rfl
theorem k218_126 : px_cod 218 126 = some ((.getfield 131), 3, [186, 12, 0, 1], 2) := rfl
theorem k218_129 : px_cod 218 129 = some ((.if_icmp .ge 40), 3, [169], 0) := rfl
theorem k218_132 : px_cod 218 132 = some ((.aload_n 0), 1, [], 0) := rfl
theorem k218_133 : px_cod 218 133 = some ((.getfield 101), 3, [231, 12, 4, 1], 47) := rfl
theorem k218_136 : px_cod 218 136 = some ((.iload 8), 2, [], 8) := rfl
theorem k218_138 : px_cod 218 138 = some ((.aload_n 0), 1, [], 0) := rfl
theorem k218_139 : px_cod 218 139 = some ((.iload 8), 2, [], 8) := rfl
theorem k218_141 : px_cod 218 141 = some ((.invokevirtual 400), 3, [0, 275, 209], 0) := rfl
theorem k218_144 : px_cod 218 144 = some ((.ifCond .eq 17), 3, [161], 0) := rfl
theorem k218_147 : px_cod 218 147 = some ((.aload_n 0), 1, [], 0) := rfl
theorem k218_148 : px_cod 218 148 = some ((.getfield 98), 3, [230, 12, 4, 1], 46) := rfl
theorem k218_151 : px_cod 218 151 = some ((.iload 8), 2, [], 8) := rfl
theorem k218_153 : px_cod 218 153 = some (.laload, 1, [], 0) := rfl
theorem k218_154 : px_cod 218 154 = some ((.ldc2_w 424), 3, [0, 44], 12) := rfl
theorem k218_157 : px_cod 218 157 = some (.lmul, 1, [], 0) := rfl
theorem k218_158 : px_cod 218 158 = some ((.goto 4), 3, [162], 0) := rfl
theorem k218_161 : px_cod 218 161 = some ((.lconst 0), 1, [], 0) := rfl
theorem k218_162 : px_cod 218 162 = some (.lastore, 1, [], 0) := rfl
theorem k218_163 : px_cod 218 163 = some ((.iinc 8 1), 3, [8], 1) := rfl
theorem k218_166 : px_cod 218 166 = some ((.goto (-43)), 3, [123], 0) := rfl
theorem k218_169 : px_cod 218 169 = some ((.iconst 0), 1, [], 0) := rfl
theorem k218_170 : px_cod 218 170 = some ((.istore 8), 2, [], 8) := rfl
theorem k218_172 : px_cod 218 172 = some ((.iload 8), 2, [], 8) := rfl
theorem k218_174 : px_cod 218 174 = some ((.aload_n 0), 1, [], 0) := rfl
theorem k218_175 : px_cod 218 175 = some ((.getfield 131), 3, [186, 12, 0, 1], 2) := rfl
theorem k218_178 : px_cod 218 178 = some ((.if_icmp .ge 49), 3, [227], 0) := rfl
theorem k218_181 : px_cod 218 181 = some ((.aload_n 0), 1, [], 0) := rfl
theorem k218_182 : px_cod 218 182 = some ((.getfield 98), 3, [230, 12, 4, 1], 46) := rfl
theorem k218_185 : px_cod 218 185 = some ((.iload 8), 2, [], 8) := rfl
theorem k218_187 : px_cod 218 187 = some (.laload, 1, [], 0) := rfl
theorem k218_188 : px_cod 218 188 = some ((.lconst 0), 1, [], 0) := rfl
theorem k218_189 : px_cod 218 189 = some (.lcmp, 1, [], 0) := rfl
theorem k218_190 : px_cod 218 190 = some ((.ifCond .le 31), 3, [221], 0) := rfl
theorem k218_193 : px_cod 218 193 = some ((.aload_n 0), 1, [], 0) := rfl
theorem k218_194 : px_cod 218 194 = some ((.iload 8), 2, [], 8) := rfl
theorem k218_196 : px_cod 218 196 = some ((.invokevirtual 400), 3, [0, 275, 209], 0) := rfl
theorem k218_199 : px_cod 218 199 = some ((.ifCond .ne 22), 3, [221], 0) := rfl
theorem k218_202 : px_cod 218 202 = some ((.aload_n 0), 1, [], 0) := rfl
theorem k218_203 : px_cod 218 203 = some ((.iload_n 1), 1, [], 1) := rfl
theorem k218_204 : px_cod 218 204 = some ((.iload 8), 2, [], 8) := rfl
theorem k218_206 : px_cod 218 206 = some ((.iload_n 3), 1, [], 3) := rfl
theorem k218_207 : px_cod 218 207 = some ((.iload_n 2), 1, [], 2) := rfl
theorem k218_208 : px_cod 218 208 = some ((.iload 7), 2, [], 7) := rfl
theorem k218_210 : px_cod 218 210 = some ((.aload_n 0), 1, [], 0) := rfl
theorem k218_211 : px_cod 218 211 = some ((.iload_n 1), 1, [], 1) := rfl
theorem k218_212 : px_cod 218 212 = some ((.iconst 5), 1, [], 5) := rfl
theorem k218_213 : px_cod 218 213 = some ((.invokevirtual 364), 3, [0, 258, 146], 0) := rfl
theorem k218_216 : px_cod 218 216 = some (.imul, 1, [], 0) := rfl
theorem k218_217 : px_cod 218 217 = some (.iadd, 1, [], 0) := rfl
theorem k218_218 : px_cod 218 218 = some ((.invokevirtual 426), 3, [0, 282, 217], 0) := rfl
theorem k218_221 : px_cod 218 221 = some ((.iinc 8 1), 3, [8], 1) := rfl
theorem k218_224 : px_cod 218 224 = some ((.goto (-52)), 3, [172], 0) := rfl
theorem k218_227 : px_cod 218 227 = some ((.iconst 0), 1, [], 0) := rfl
theorem k218_228 : px_cod 218 228 = some ((.istore 8), 2, [], 8) := rfl
theorem k218_230 : px_cod 218 230 = some ((.iload 8), 2, [], 8) := rfl
theorem k218_232 : px_cod 218 232 = some ((.aload_n 0), 1, [], 0) := rfl
theorem k218_233 : px_cod 218 233 = some ((.getfield 131), 3, [186, 12, 0, 1], 2) := rfl
theorem k218_236 : px_cod 218 236 = some ((.if_icmp .ge 23), 3, [259], 0) := rfl
theorem k218_239 : px_cod 218 239 = some ((.aload_n 0), 1, [], 0) := rfl
theorem k218_240 : px_cod 218 240 = some ((.getfield 98), 3, [230, 12, 4, 1], 46) := rfl
theorem k218_243 : px_cod 218 243 = some ((.iload 8), 2, [], 8) := rfl
theorem k218_245 : px_cod 218 245 = some ((.aload_n 0), 1, [], 0) := rfl
theorem k218_246 : px_cod 218 246 = some ((.getfield 101), 3, [231, 12, 4, 1], 47) := rfl
theorem k218_249 : px_cod 218 249 = some ((.iload 8), 2, [], 8) := rfl
theorem k218_251 : px_cod 218 251 = some (.laload, 1, [], 0) := rfl
theorem k218_252 : px_cod 218 252 = some (.lastore, 1, [], 0) := rfl
theorem k218_253 : px_cod 218 253 = some ((.iinc 8 1), 3, [8], 1) := rfl
theorem k218_256 : px_cod 218 256 = some ((.goto (-26)), 3, [230], 0) := rfl
theorem k218_259 : px_cod 218 259 = some ((.iinc 7 1), 3, [7], 1) := rfl
theorem k218_262 : px_cod 218 262 = some ((.goto (-157)), 3, [105], 0) := rfl
theorem k218_265 : px_cod 218 265 = some ((.lconst 0), 1, [], 0) := rfl
theorem k218_266 : px_cod 218 266 = some ((.lstore 7), 2, [], 7) := rfl
theorem k218_268 : px_cod 218 268 = some ((.iconst 0), 1, [], 0) := rfl
theorem k218_269 : px_cod 218 269 = some ((.istore 9), 2, [], 9) := rfl
theorem k218_271 : px_cod 218 271 = some ((.iload 9), 2, [], 9) := rfl
theorem k218_273 : px_cod 218 273 = some ((.aload_n 0), 1, [], 0) := rfl
theorem k218_274 : px_cod 218 274 = some ((.getfield 131), 3, [186, 12, 0, 1], 2) := rfl
theorem k218_277 : px_cod 218 277 = some ((.if_icmp .ge 34), 3, [311], 0) := rfl
theorem k218_280 : px_cod 218 280 = some ((.lload 7), 2, [], 7) := rfl
theorem k218_282 : px_cod 218 282 = some ((.aload_n 0), 1, [], 0) := rfl
theorem k218_283 : px_cod 218 283 = some ((.iload 9), 2, [], 9) := rfl
theorem k218_285 : px_cod 218 285 = some ((.invokevirtual 400), 3, [0, 275, 209], 0) := rfl
theorem k218_288 : px_cod 218 288 = some ((.ifCond .eq 13), 3, [301], 0) := rfl
theorem k218_291 : px_cod 218 291 = some ((.aload_n 0), 1, [], 0) := rfl
theorem k218_292 : px_cod 218 292 = some ((.getfield 98), 3, [230, 12, 4, 1], 46) := rfl
theorem k218_295 : px_cod 218 295 = some ((.iload 9), 2, [], 9) := rfl
theorem k218_297 : px_cod 218 297 = some (.laload, 1, [], 0) := rfl
theorem k218_298 : px_cod 218 298 = some ((.goto 4), 3, [302], 0) := rfl
theorem k218_301 : px_cod 218 301 = some ((.lconst 0), 1, [], 0) := rfl
theorem k218_302 : px_cod 218 302 = some (.ladd, 1, [], 0) := rfl
theorem k218_303 : px_cod 218 303 = some ((.lstore 7), 2, [], 7) := rfl
theorem k218_305 : px_cod 218 305 = some ((.iinc 9 1), 3, [9], 1) := rfl
theorem k218_308 : px_cod 218 308 = some ((.goto (-37)), 3, [271], 0) := rfl
theorem k218_311 : px_cod 218 311 = some ((.ldc2_w 430), 3, [0, 45], 1000) := rfl
theorem k218_314 : px_cod 218 314 = some ((.lload 7), 2, [], 7) := rfl
theorem k218_316 : px_cod 218 316 = some (.lmul, 1, [], 0) := rfl
theorem k218_317 : px_cod 218 317 = some ((.lload 5), 2, [], 5) := rfl
theorem k218_319 : px_cod 218 319 = some (.ldiv, 1, [], 0) := rfl
theorem k218_320 : px_cod 218 320 = some (.l2i, 1, [], 0) := rfl
theorem k218_321 : px_cod 218 321 = some (.ireturn, 1, [], 0) := rfl
theorem k219_0 : px_cod 219 0 = some ((.iconst 0), 1, [], 0) := rfl
theorem k219_1 : px_cod 219 1 = some ((.istore_n 1), 1, [], 1) := rfl
theorem k219_2 : px_cod 219 2 = some ((.iconst 0), 1, [], 0) := rfl
theorem k219_3 : px_cod 219 3 = some ((.istore_n 2), 1, [], 2) := rfl
theorem k219_4 : px_cod 219 4 = some ((.iload_n 2), 1, [], 2) := rfl
theorem k219_5 : px_cod 219 5 = some ((.aload_n 0), 1, [], 0) := rfl
theorem k219_6 : px_cod 219 6 = some ((.getfield 7), 3, [187, 12, 4, 1], 3) := rfl
theorem k219_9 : px_cod 219 9 = some ((.iconst 4), 1, [], 4) := rfl
theorem k219_10 : px_cod 219 10 = some (.iaload, 1, [], 0) := rfl
theorem k219_11 : px_cod 219 11 = some ((.if_icmp .ge 19), 3, [30], 0) := rfl
theorem k219_14 : px_cod 219 14 = some ((.iload_n 1), 1, [], 1) := rfl
theorem k219_15 : px_cod 219 15 = some ((.aload_n 0), 1, [], 0) := rfl
theorem k219_16 : px_cod 219 16 = some ((.iload_n 2), 1, [], 2) := rfl
theorem k219_17 : px_cod 219 17 = some ((.bipush 8), 2, [], 8) := rfl
theorem k219_19 : px_cod 219 19 = some ((.invokevirtual 364), 3, [0, 258, 146], 0) := rfl
theorem k219_22 : px_cod 219 22 = some (.iadd, 1, [], 0) := rfl
theorem k219_23 : px_cod 219 23 = some ((.istore_n 1), 1, [], 1) := rfl
theorem k219_24 : px_cod 219 24 = some ((.iinc 2 1), 3, [2], 1) := rfl
theorem k219_27 : px_cod 219 27 = some ((.goto (-23)), 3, [4], 0) := rfl
theorem k219_30 : px_cod 219 30 = some ((.iload_n 1), 1, [], 1) := rfl
theorem k219_31 : px_cod 219 31 = some (.ireturn, 1, [], 0) := rfl
theorem k220_0 : px_cod 220 0 = some ((.iconst 0), 1, [], 0) := rfl
theorem k220_1 : px_cod 220 1 = some ((.istore_n 3), 1, [], 3) := rfl
theorem k220_2 : px_cod 220 2 = some ((.iload_n 3), 1, [], 3) := rfl
theorem k220_3 : px_cod 220 3 = some ((.bipush 8), 2, [], 8) := rfl
theorem k220_5 : px_cod 220 5 = some ((.if_icmp .ge 42), 3, [47], 0) := rfl
theorem k220_8 : px_cod 220 8 = some ((.aload_n 0), 1, [], 0) := rfl
theorem k220_9 : px_cod 220 9 = some ((.getfield 76), 3, [223, 12, 4, 1], 39) := rfl
theorem k220_12 : px_cod 220 12 = some ((.iload_n 3), 1, [], 3) := rfl
theorem k220_13 : px_cod 220 13 = some ((.iload_n 3), 1, [], 3) := rfl
theorem k220_14 : px_cod 220 14 = some ((.aload_n 0), 1, [], 0) := rfl
theorem k220_15 : px_cod 220 15 = some ((.getfield 7), 3, [187, 12, 4, 1], 3) := rfl
theorem k220_18 : px_cod 220 18 = some ((.iconst 3), 1, [], 3) := rfl
theorem k220_19 : px_cod 220 19 = some (.iaload, 1, [], 0) := rfl
theorem k220_20 : px_cod 220 20 = some ((.if_icmp .ge 19), 3, [39], 0) := rfl
theorem k220_23 : px_cod 220 23 = some ((.aload_n 0), 1, [], 0) := rfl
theorem k220_24 : px_cod 220 24 = some ((.getfield 7), 3, [187, 12, 4, 1], 3) := rfl
theorem k220_27 : px_cod 220 27 = some ((.bipush 100), 2, [], 100) := rfl
theorem k220_29 : px_cod 220 29 = some ((.iconst 2), 1, [], 2) := rfl
theorem k220_30 : px_cod 220 30 = some ((.iload_n 3), 1, [], 3) := rfl
theorem k220_31 : px_cod 220 31 = some (.imul, 1, [], 0) := rfl
theorem k220_32 : px_cod 220 32 = some (.iadd, 1, [], 0) := rfl
theorem k220_33 : px_cod 220 33 = some ((.iconst 1), 1, [], 1) := rfl
theorem k220_34 : px_cod 220 34 = some (.iadd, 1, [], 0) := rfl
theorem k220_35 : px_cod 220 35 = some (.iaload, 1, [], 0) := rfl
theorem k220_36 : px_cod 220 36 = some ((.goto 4), 3, [40], 0) := rfl
theorem k220_39 : px_cod 220 39 = some ((.iconst 0), 1, [], 0) := rfl
theorem k220_40 : px_cod 220 40 = some (.iastore, 1, [], 0) := rfl
theorem k220_41 : px_cod 220 41 = some ((.iinc 3 1), 3, [3], 1) := rfl
theorem k220_44 : px_cod 220 44 = some ((.goto (-42)), 3, [2], 0) := rfl
theorem k220_47 : px_cod 220 47 = some ((.iconst 0), 1, [], 0) := rfl
theorem k220_48 : px_cod 220 48 = some ((.istore_n 3), 1, [], 3) := rfl
theorem k220_49 : px_cod 220 49 = some ((.iconst 0), 1, [], 0) := rfl
theorem k220_50 : px_cod 220 50 = some ((.istore 4), 2, [], 4) := rfl
theorem k220_52 : px_cod 220 52 = some ((.iload 4), 2, [], 4) := rfl
theorem k220_54 : px_cod 220 54 = some ((.iload_n 1), 1, [], 1) := rfl
theorem k220_55 : px_cod 220 55 = some ((.if_icmp .ge 90), 3, [145], 0) := rfl
theorem k220_58 : px_cod 220 58 = some ((.aload_n 0), 1, [], 0) := rfl
theorem k220_59 : px_cod 220 59 = some ((.getfield 107), 3, [233, 12, 4, 1], 49) := rfl
theorem k220_62 : px_cod 220 62 = some ((.iload 4), 2, [], 4) := rfl
theorem k220_64 : px_cod 220 64 = some (.iaload, 1, [], 0) := rfl
theorem k220_65 : px_cod 220 65 = some ((.istore 5), 2, [], 5) := rfl
theorem k220_67 : px_cod 220 67 = some ((.iload 5), 2, [], 5) := rfl
theorem k220_69 : px_cod 220 69 = some ((.bipush 8), 2, [], 8) := rfl
theorem k220_71 : px_cod 220 71 = some ((.if_icmp .eq 26), 3, [97], 0) := rfl
theorem k220_74 : px_cod 220 74 = some ((.aload_n 0), 1, [], 0) := rfl
theorem k220_75 : px_cod 220 75 = some ((.getfield 76), 3, [223, 12, 4, 1], 39) := rfl
theorem k220_78 : px_cod 220 78 = some ((.iload 5), 2, [], 5) := rfl
theorem k220_80 : px_cod 220 80 = some (.dup2, 1, [], 0) := rfl
theorem k220_81 : px_cod 220 81 = some (.iaload, 1, [], 0) := rfl
theorem k220_82 : px_cod 220 82 = some ((.iconst 1), 1, [], 1) := rfl
theorem k220_83 : px_cod 220 83 = some (.isub, 1, [], 0) := rfl
theorem k220_84 : px_cod 220 84 = some (.iastore, 1, [], 0) := rfl
theorem k220_85 : px_cod 220 85 = some ((.aload_n 0), 1, [], 0) := rfl
theorem k220_86 : px_cod 220 86 = some ((.getfield 76), 3, [223, 12, 4, 1], 39) := rfl
theorem k220_89 : px_cod 220 89 = some ((.iload 5), 2, [], 5) := rfl
theorem k220_91 : px_cod 220 91 = some (.iaload, 1, [], 0) := rfl
theorem k220_92 : px_cod 220 92 = some ((.ifCond .ge 5), 3, [97], 0) := rfl
theorem k220_95 : px_cod 220 95 = some ((.iconst (-1)), 1, [], (-1)) := rfl
theorem k220_96 : px_cod 220 96 = some (.ireturn, 1, [], 0) := rfl
theorem k220_97 : px_cod 220 97 = some ((.iload_n 3), 1, [], 3) := rfl
theorem k220_98 : px_cod 220 98 = some ((.iload_n 2), 1, [], 2) := rfl
theorem k220_99 : px_cod 220 99 = some ((.iload 5), 2, [], 5) := rfl
theorem k220_101 : px_cod 220 101 = some ((.bipush 8), 2, [], 8) := rfl
theorem k220_103 : px_cod 220 103 = some ((.if_icmp .ne 7), 3, [110], 0) := rfl
theorem k220_106 : px_cod 220 106 = some ((.iconst 0), 1, [], 0) := rfl
theorem k220_107 : px_cod 220 107 = some ((.goto 9), 3, [116], 0) := rfl
theorem k220_110 : px_cod 220 110 = some ((.aload_n 0), 1, [], 0) := rfl
theorem k220_111 : px_cod 220 111 = some ((.iload 5), 2, [], 5) := rfl
theorem k220_113 : px_cod 220 113 = some ((.invokevirtual 368), 3, [0, 263, 194], 0) := rfl
theorem k220_116 : px_cod 220 116 = some ((.if_icmp .le 20), 3, [136], 0) := rfl
theorem k220_119 : px_cod 220 119 = some ((.aload_n 0), 1, [], 0) := rfl
theorem k220_120 : px_cod 220 120 = some ((.aload_n 0), 1, [], 0) := rfl
theorem k220_121 : px_cod 220 121 = some ((.getfield 104), 3, [232, 12, 4, 1], 48) := rfl
theorem k220_124 : px_cod 220 124 = some ((.iload 4), 2, [], 4) := rfl
theorem k220_126 : px_cod 220 126 = some (.iaload, 1, [], 0) := rfl
theorem k220_127 : px_cod 220 127 = some ((.iconst 0), 1, [], 0) := rfl
theorem k220_128 : px_cod 220 128 = some ((.invokevirtual 364), 3, [0, 258, 146], 0) := rfl
theorem k220_131 : px_cod 220 131 = some ((.iconst 1), 1, [], 1) := rfl
theorem k220_132 : px_cod 220 132 = some (.iadd, 1, [], 0) := rfl
theorem k220_133 : px_cod 220 133 = some ((.goto 4), 3, [137], 0) := rfl
theorem k220_136 : px_cod 220 136 = some ((.iconst 0), 1, [], 0) := rfl
theorem k220_137 : px_cod 220 137 = some (.iadd, 1, [], 0) := rfl
theorem k220_138 : px_cod 220 138 = some ((.istore_n 3), 1, [], 3) := rfl
theorem k220_139 : px_cod 220 139 = some ((.iinc 4 1), 3, [4], 1) := rfl
theorem k220_142 : px_cod 220 142 = some ((.goto (-90)), 3, [52], 0) := rfl
theorem k220_145 : px_cod 220 145 = some ((.iload_n 3), 1, [], 3) := rfl
theorem k220_146 : px_cod 220 146 = some (.ireturn, 1, [], 0) := rfl
theorem k221_0 : px_cod 221 0 = some ((.aload_n 0), 1, [], 0) := rfl
theorem k221_1 : px_cod 221 1 = some ((.invokevirtual 432), 3, [0, 285, 219], 0) := rfl
theorem k221_4 : px_cod 221 4 = some ((.istore_n 3), 1, [], 3) := rfl
theorem k221_5 : px_cod 221 5 = some ((.iload_n 1), 1, [], 1) := rfl
theorem k221_6 : px_cod 221 6 = some ((.invokestatic 358), 3, [0, 248, 145], 0) := rfl
theorem k221_9 : px_cod 221 9 = some ((.ifCond .eq 31), 3, [40], 0) := rfl
theorem k221_12 : px_cod 221 12 = some ((.iload_n 3), 1, [], 3) := rfl
theorem k221_13 : px_cod 221 13 = some ((.iconst 5), 1, [], 5) := rfl
theorem k221_14 : px_cod 221 14 = some ((.if_icmp .gt 26), 3, [40], 0) := rfl
theorem k221_17 : px_cod 221 17 = some ((.iload_n 2), 1, [], 2) := rfl
theorem k221_18 : px_cod 221 18 = some ((.iconst (-1)), 1, [], (-1)) := rfl
theorem k221_19 : px_cod 221 19 = some ((.if_icmp .eq 23), 3, [42], 0) := rfl
theorem k221_22 : px_cod 221 22 = some ((.aload_n 0), 1, [], 0) := rfl
theorem k221_23 : px_cod 221 23 = some ((.iload_n 2), 1, [], 2) := rfl
theorem k221_24 : px_cod 221 24 = some ((.invokevirtual 146), 3, [0, 215, 144], 0) := rfl
theorem k221_27 : px_cod 221 27 = some ((.ifCond .eq 13), 3, [40], 0) := rfl
theorem k221_30 : px_cod 221 30 = some ((.aload_n 0), 1, [], 0) := rfl
theorem k221_31 : px_cod 221 31 = some ((.iload_n 2), 1, [], 2) := rfl
theorem k221_32 : px_cod 221 32 = some ((.bipush 8), 2, [], 8) := rfl
theorem k221_34 : px_cod 221 34 = some ((.invokevirtual 364), 3, [0, 258, 146], 0) := rfl
theorem k221_37 : px_cod 221 37 = some ((.ifCond .ne 5), 3, [42], 0) := rfl
theorem k221_40 : px_cod 221 40 = some ((.iconst (-1)), 1, [], (-1)) := rfl
theorem k221_41 : px_cod 221 41 = some (.ireturn, 1, [], 0) := rfl
theorem k221_42 : px_cod 221 42 = some ((.iconst 1), 1, [], 1) := rfl
theorem k221_43 : px_cod 221 43 = some ((.istore 4), 2, [], 4) := rfl
theorem k221_45 : px_cod 221 45 = some ((.iconst 0), 1, [], 0) := rfl
theorem k221_46 : px_cod 221 46 = some ((.istore 5), 2, [], 5) := rfl
theorem k221_48 : px_cod 221 48 = some ((.iconst 0), 1, [], 0) := rfl
theorem k221_49 : px_cod 221 49 = some ((.istore 6), 2, [], 6) := rfl
theorem k221_51 : px_cod 221 51 = some ((.iload 6), 2, [], 6) := rfl
theorem k221_53 : px_cod 221 53 = some ((.aload_n 0), 1, [], 0) := rfl
theorem k221_54 : px_cod 221 54 = some ((.getfield 7), 3, [187, 12, 4, 1], 3) := rfl
theorem k221_57 : px_cod 221 57 = some ((.iconst 4), 1, [], 4) := rfl
theorem k221_58 : px_cod 221 58 = some (.iaload, 1, [], 0) := rfl
theorem k221_59 : px_cod 221 59 = some ((.if_icmp .ge 40), 3, [99], 0) := rfl
theorem k221_62 : px_cod 221 62 = some ((.aload_n 0), 1, [], 0) := rfl
theorem k221_63 : px_cod 221 63 = some ((.iload 6), 2, [], 6) := rfl
theorem k221_65 : px_cod 221 65 = some ((.bipush 8), 2, [], 8) := rfl
theorem k221_67 : px_cod 221 67 = some ((.invokevirtual 364), 3, [0, 258, 146], 0) := rfl
theorem k221_70 : px_cod 221 70 = some ((.iconst 1), 1, [], 1) := rfl
theorem k221_71 : px_cod 221 71 = some ((.if_icmp .ne 22), 3, [93], 0) := rfl
theorem k221_74 : px_cod 221 74 = some ((.aload_n 0), 1, [], 0) := rfl
theorem k221_75 : px_cod 221 75 = some ((.getfield 104), 3, [232, 12, 4, 1], 48) := rfl
theorem k221_78 : px_cod 221 78 = some ((.iload 5), 2, [], 5) := rfl
theorem k221_80 : px_cod 221 80 = some ((.iload 6), 2, [], 6) := rfl
theorem k221_82 : px_cod 221 82 = some (.iastore, 1, [], 0) := rfl
theorem k221_83 : px_cod 221 83 = some ((.iinc 5 1), 3, [5], 1) := rfl
theorem k221_86 : px_cod 221 86 = some ((.iload 4), 2, [], 4) := rfl
theorem k221_88 : px_cod 221 88 = some ((.bipush 9), 2, [], 9) := rfl
theorem k221_90 : px_cod 221 90 = some (.imul, 1, [], 0) := rfl
theorem k221_91 : px_cod 221 91 = some ((.istore 4), 2, [], 4) := rfl
theorem k221_93 : px_cod 221 93 = some ((.iinc 6 1), 3, [6], 1) := rfl
theorem k221_96 : px_cod 221 96 = some ((.goto (-45)), 3, [51], 0) := rfl
theorem k221_99 : px_cod 221 99 = some ((.aload_n 0), 1, [], 0) := rfl
theorem k221_100 : px_cod 221 100 = some ((.iload_n 1), 1, [], 1) := rfl
theorem k221_101 : px_cod 221 101 = some ((.invokevirtual 361), 3, [0, 249, 192], 0) := rfl
theorem k221_104 : px_cod 221 104 = some ((.istore 6), 2, [], 6) := rfl
theorem k221_106 : px_cod 221 106 = some ((.iconst (-1)), 1, [], (-1)) := rfl
theorem k221_107 : px_cod 221 107 = some ((.istore 7), 2, [], 7) := rfl
theorem k221_109 : px_cod 221 109 = some ((.iconst 0), 1, [], 0) := rfl
theorem k221_110 : px_cod 221 110 = some ((.istore 8), 2, [], 8) := rfl
theorem k221_112 : px_cod 221 112 = some ((.iload 8), 2, [], 8) := rfl
theorem k221_114 : px_cod 221 114 = some ((.iload 4), 2, [], 4) := rfl
theorem k221_116 : px_cod 221 116 = some ((.if_icmp .ge 109), 3, [225], 0) := rfl
theorem k221_119 : px_cod 221 119 = some ((.iload 8), 2, [], 8) := rfl
theorem k221_121 : px_cod 221 121 = some ((.istore 9), 2, [], 9) := rfl
theorem k221_123 : px_cod 221 123 = some ((.iload_n 3), 1, [], 3) := rfl
theorem k221_124 : px_cod 221 124 = some ((.iconst 1), 1, [], 1) := rfl
theorem k221_125 : px_cod 221 125 = some (.isub, 1, [], 0) := rfl
theorem k221_126 : px_cod 221 126 = some ((.istore 10), 2, [], 10) := rfl
theorem k221_128 : px_cod 221 128 = some ((.iload 10), 2, [], 10) := rfl
theorem k221_130 : px_cod 221 130 = some ((.ifCond .lt 28), 3, [158], 0) := rfl
theorem k221_133 : px_cod 221 133 = some ((.aload_n 0), 1, [], 0) := rfl
theorem k221_134 : px_cod 221 134 = some ((.getfield 107), 3, [233, 12, 4, 1], 49) := rfl
theorem k221_137 : px_cod 221 137 = some ((.iload 10), 2, [], 10) := rfl
theorem k221_139 : px_cod 221 139 = some ((.iload 9), 2, [], 9) := rfl
theorem k221_141 : px_cod 221 141 = some ((.bipush 9), 2, [], 9) := rfl
theorem k221_143 : px_cod 221 143 = some (.irem, 1, [], 0) := rfl
theorem k221_144 : px_cod 221 144 = some (.iastore, 1, [], 0) := rfl
theorem k221_145 : px_cod 221 145 = some ((.iload 9), 2, [], 9) := rfl
theorem k221_147 : px_cod 221 147 = some ((.bipush 9), 2, [], 9) := rfl
theorem k221_149 : px_cod 221 149 = some (.idiv, 1, [], 0) := rfl
theorem k221_150 : px_cod 221 150 = some ((.istore 9), 2, [], 9) := rfl
theorem k221_152 : px_cod 221 152 = some ((.iinc 10 (-1)), 3, [10], (-1)) := rfl
theorem k221_155 : px_cod 221 155 = some ((.goto (-27)), 3, [128], 0) := rfl
theorem k221_158 : px_cod 221 158 = some ((.aload_n 0), 1, [], 0) := rfl
theorem k221_159 : px_cod 221 159 = some ((.iload_n 3), 1, [], 3) := rfl
theorem k221_160 : px_cod 221 160 = some ((.iload 6), 2, [], 6) := rfl
theorem k221_162 : px_cod 221 162 = some ((.invokevirtual 435), 3, [0, 286, 220], 0) := rfl
theorem k221_165 : px_cod 221 165 = some ((.istore 10), 2, [], 10) := rfl
theorem k221_167 : px_cod 221 167 = some ((.iload 10), 2, [], 10) := rfl
theorem k221_169 : px_cod 221 169 = some ((.iconst (-1)), 1, [], (-1)) := rfl
theorem k221_170 : px_cod 221 170 = some ((.if_icmp .eq 49), 3, [219], 0) := rfl
theorem k221_173 : px_cod 221 173 = some ((.iload 7), 2, [], 7) := rfl
theorem k221_175 : px_cod 221 175 = some ((.iconst (-1)), 1, [], (-1)) := rfl
theorem k221_176 : px_cod 221 176 = some ((.if_icmp .eq 10), 3, [186], 0) := rfl
theorem k221_179 : px_cod 221 179 = some ((.iload 10), 2, [], 10) := rfl
theorem k221_181 : px_cod 221 181 = some ((.iload 7), 2, [], 7) := rfl
theorem k221_183 : px_cod 221 183 = some ((.if_icmp .ge 36), 3, [219], 0) := rfl
theorem k221_186 : px_cod 221 186 = some ((.iload 10), 2, [], 10) := rfl
theorem k221_188 : px_cod 221 188 = some ((.istore 7), 2, [], 7) := rfl
theorem k221_190 : px_cod 221 190 = some ((.iconst 0), 1, [], 0) := rfl
theorem k221_191 : px_cod 221 191 = some ((.istore 11), 2, [], 11) := rfl
theorem k221_193 : px_cod 221 193 = some ((.iload 11), 2, [], 11) := rfl
theorem k221_195 : px_cod 221 195 = some ((.iload_n 3), 1, [], 3) := rfl
theorem k221_196 : px_cod 221 196 = some ((.if_icmp .ge 23), 3, [219], 0) := rfl
theorem k221_199 : px_cod 221 199 = some ((.aload_n 0), 1, [], 0) := rfl
theorem k221_200 : px_cod 221 200 = some ((.getfield 110), 3, [234, 12, 4, 1], 50) := rfl
theorem k221_203 : px_cod 221 203 = some ((.iload 11), 2, [], 11) := rfl
theorem k221_205 : px_cod 221 205 = some ((.aload_n 0), 1, [], 0) := rfl
theorem k221_206 : px_cod 221 206 = some ((.getfield 107), 3, [233, 12, 4, 1], 49) := rfl
theorem k221_209 : px_cod 221 209 = some ((.iload 11), 2, [], 11) := rfl
theorem k221_211 : px_cod 221 211 = some (.iaload, 1, [], 0) := rfl
theorem k221_212 : px_cod 221 212 = some (.iastore, 1, [], 0) := rfl
theorem k221_213 : px_cod 221 213 = some ((.iinc 11 1), 3, [11], 1) := rfl
theorem k221_216 : px_cod 221 216 = some ((.goto (-23)), 3, [193], 0) := rfl
theorem k221_219 : px_cod 221 219 = some ((.iinc 8 1), 3, [8], 1) := rfl
theorem k221_222 : px_cod 221 222 = some ((.goto (-110)), 3, [112], 0) := rfl
theorem k221_225 : px_cod 221 225 = some ((.iload_n 2), 1, [], 2) := rfl
theorem k221_226 : px_cod 221 226 = some ((.iconst (-1)), 1, [], (-1)) := rfl
theorem k221_227 : px_cod 221 227 = some ((.if_icmp .ne 6), 3, [233], 0) := rfl
theorem k221_230 : px_cod 221 230 = some ((.iload 7), 2, [], 7) := rfl
theorem k221_232 : px_cod 221 232 = some (.ireturn, 1, [], 0) := rfl
theorem k221_233 : px_cod 221 233 = some ((.iconst 0), 1, [], 0) := rfl
theorem k221_234 : px_cod 221 234 = some ((.istore 8), 2, [], 8) := rfl
theorem k221_236 : px_cod 221 236 = some ((.aload_n 0), 1, [], 0) := rfl
theorem k221_237 : px_cod 221 237 = some ((.getfield 104), 3, [232, 12, 4, 1], 48) := rfl
theorem k221_240 : px_cod 221 240 = some ((.iload 8), 2, [], 8) := rfl
theorem k221_242 : px_cod 221 242 = some (.iaload, 1, [], 0) := rfl
theorem k221_243 : px_cod 221 243 = some ((.iload_n 2), 1, [], 2) := rfl
theorem k221_244 : px_cod 221 244 = some ((.if_icmp .eq 9), 3, [253], 0) := rfl
theorem k221_247 : px_cod 221 247 = some ((.iinc 8 1), 3, [8], 1) := rfl
theorem k221_250 : px_cod 221 250 = some ((.goto (-14)), 3, [236], 0) := rfl
theorem k221_253 : px_cod 221 253 = some ((.aload_n 0), 1, [], 0) := rfl
theorem k221_254 : px_cod 221 254 = some ((.getfield 110), 3, [234, 12, 4, 1], 50) := rfl
theorem k221_257 : px_cod 221 257 = some ((.iload 8), 2, [], 8) := rfl
theorem k221_259 : px_cod 221 259 = some (.iaload, 1, [], 0) := rfl
theorem k221_260 : px_cod 221 260 = some (.ireturn, 1, [], 0) := rfl
theorem k222_0 : px_cod 222 0 = some ((.aload_n 0), 1, [], 0) := rfl
theorem k222_1 : px_cod 222 1 = some ((.aload_n 0), 1, [], 0) := rfl
theorem k222_2 : px_cod 222 2 = some ((.invokevirtual 381), 3, [0, 259, 198], 0) := rfl
theorem k222_5 : px_cod 222 5 = some ((.iload_n 1), 1, [], 1) := rfl
theorem k222_6 : px_cod 222 6 = some ((.invokevirtual 384), 3, [0, 260, 197], 0) := rfl
theorem k222_9 : px_cod 222 9 = some ((.iconst 0), 1, [], 0) := rfl
theorem k222_10 : px_cod 222 10 = some ((.istore_n 2), 1, [], 2) := rfl
theorem k222_11 : px_cod 222 11 = some ((.iload_n 2), 1, [], 2) := rfl
theorem k222_12 : px_cod 222 12 = some ((.aload_n 0), 1, [], 0) := rfl
theorem k222_13 : px_cod 222 13 = some ((.getfield 7), 3, [187, 12, 4, 1], 3) := rfl
theorem k222_16 : px_cod 222 16 = some ((.iconst 4), 1, [], 4) := rfl
theorem k222_17 : px_cod 222 17 = some (.iaload, 1, [], 0) := rfl
theorem k222_18 : px_cod 222 18 = some ((.if_icmp .ge 86), 3, [104], 0) := rfl
theorem k222_21 : px_cod 222 21 = some ((.aload_n 0), 1, [], 0) := rfl
theorem k222_22 : px_cod 222 22 = some ((.getfield 113), 3, [235, 12, 4, 1], 51) := rfl
theorem k222_25 : px_cod 222 25 = some ((.iload_n 2), 1, [], 2) := rfl
theorem k222_26 : px_cod 222 26 = some ((.sipush 1440), 3, [], 1440) := rfl
theorem k222_29 : px_cod 222 29 = some (.iastore, 1, [], 0) := rfl
theorem k222_30 : px_cod 222 30 = some ((.sipush 1439), 3, [], 1439) := rfl
theorem k222_33 : px_cod 222 33 = some ((.istore_n 3), 1, [], 3) := rfl
theorem k222_34 : px_cod 222 34 = some ((.iload_n 3), 1, [], 3) := rfl
theorem k222_35 : px_cod 222 35 = some ((.iload_n 1), 1, [], 1) := rfl
theorem k222_36 : px_cod 222 36 = some ((.if_icmp .lt 62), 3, [98], 0) := rfl
theorem k222_39 : px_cod 222 39 = some ((.aload_n 0), 1, [], 0) := rfl
theorem k222_40 : px_cod 222 40 = some ((.getfield 73), 3, [222, 12, 4, 1], 38) := rfl
theorem k222_43 : px_cod 222 43 = some ((.iload_n 2), 1, [], 2) := rfl
theorem k222_44 : px_cod 222 44 = some (.iaload, 1, [], 0) := rfl
theorem k222_45 : px_cod 222 45 = some ((.bipush (-2)), 2, [], (-2)) := rfl
theorem k222_47 : px_cod 222 47 = some ((.if_icmp .eq 51), 3, [98], 0) := rfl
theorem k222_50 : px_cod 222 50 = some ((.aload_n 0), 1, [], 0) := rfl
theorem k222_51 : px_cod 222 51 = some ((.getfield 113), 3, [235, 12, 4, 1], 51) := rfl
theorem k222_54 : px_cod 222 54 = some ((.iload_n 2), 1, [], 2) := rfl
theorem k222_55 : px_cod 222 55 = some ((.aload_n 0), 1, [], 0) := rfl
theorem k222_56 : px_cod 222 56 = some ((.getfield 86), 3, [226, 12, 4, 1], 42) := rfl
theorem k222_59 : px_cod 222 59 = some ((.iload_n 3), 1, [], 3) := rfl
theorem k222_60 : px_cod 222 60 = some (.iaload, 1, [], 0) := rfl
theorem k222_61 : px_cod 222 61 = some ((.aload_n 0), 1, [], 0) := rfl
theorem k222_62 : px_cod 222 62 = some ((.aload_n 0), 1, [], 0) := rfl
theorem k222_63 : px_cod 222 63 = some ((.getfield 73), 3, [222, 12, 4, 1], 38) := rfl
theorem k222_66 : px_cod 222 66 = some ((.iload_n 2), 1, [], 2) := rfl
theorem k222_67 : px_cod 222 67 = some (.iaload, 1, [], 0) := rfl
theorem k222_68 : px_cod 222 68 = some ((.invokevirtual 368), 3, [0, 263, 194], 0) := rfl
theorem k222_71 : px_cod 222 71 = some ((.aload_n 0), 1, [], 0) := rfl
theorem k222_72 : px_cod 222 72 = some ((.iload_n 2), 1, [], 2) := rfl
theorem k222_73 : px_cod 222 73 = some ((.iconst 1), 1, [], 1) := rfl
theorem k222_74 : px_cod 222 74 = some ((.invokevirtual 364), 3, [0, 258, 146], 0) := rfl
theorem k222_77 : px_cod 222 77 = some (.iadd, 1, [], 0) := rfl
theorem k222_78 : px_cod 222 78 = some ((.if_icmp .le 7), 3, [85], 0) := rfl
theorem k222_81 : px_cod 222 81 = some ((.iload_n 3), 1, [], 3) := rfl
theorem k222_82 : px_cod 222 82 = some ((.goto 9), 3, [91], 0) := rfl
theorem k222_85 : px_cod 222 85 = some ((.aload_n 0), 1, [], 0) := rfl
theorem k222_86 : px_cod 222 86 = some ((.getfield 113), 3, [235, 12, 4, 1], 51) := rfl
theorem k222_89 : px_cod 222 89 = some ((.iload_n 2), 1, [], 2) := rfl
theorem k222_90 : px_cod 222 90 = some (.iaload, 1, [], 0) := rfl
theorem k222_91 : px_cod 222 91 = some (.iastore, 1, [], 0) := rfl
theorem k222_92 : px_cod 222 92 = some ((.iinc 3 (-1)), 3, [3], (-1)) := rfl
theorem k222_95 : px_cod 222 95 = some ((.goto (-61)), 3, [34], 0) := rfl
theorem k222_98 : px_cod 222 98 = some ((.iinc 2 1), 3, [2], 1) := rfl
theorem k222_101 : px_cod 222 101 = some ((.goto (-90)), 3, [11], 0) := rfl
theorem k222_104 : px_cod 222 104 = some (.return_, 1, [], 0) := rfl
theorem k223_0 : px_cod 223 0 = some ((.iload_n 2), 1, [], 2) := rfl
theorem k223_1 : px_cod 223 1 = some ((.istore_n 3), 1, [], 3) := rfl
theorem k223_2 : px_cod 223 2 = some ((.iload_n 1), 1, [], 1) := rfl
theorem k223_3 : px_cod 223 3 = some ((.istore 4), 2, [], 4) := rfl
theorem k223_5 : px_cod 223 5 = some ((.iload 4), 2, [], 4) := rfl
theorem k223_7 : px_cod 223 7 = some ((.ifCond .eq 103), 3, [110], 0) := rfl
theorem k223_10 : px_cod 223 10 = some ((.iconst (-1)), 1, [], (-1)) := rfl
theorem k223_11 : px_cod 223 11 = some ((.istore 5), 2, [], 5) := rfl
theorem k223_13 : px_cod 223 13 = some ((.iconst 0), 1, [], 0) := rfl
theorem k223_14 : px_cod 223 14 = some ((.istore 6), 2, [], 6) := rfl
theorem k223_16 : px_cod 223 16 = some ((.iload 6), 2, [], 6) := rfl
theorem k223_18 : px_cod 223 18 = some ((.aload_n 0), 1, [], 0) := rfl
theorem k223_19 : px_cod 223 19 = some ((.getfield 7), 3, [187, 12, 4, 1], 3) := rfl
theorem k223_22 : px_cod 223 22 = some ((.iconst 4), 1, [], 4) := rfl
theorem k223_23 : px_cod 223 23 = some (.iaload, 1, [], 0) := rfl
theorem k223_24 : px_cod 223 24 = some ((.if_icmp .ge 47), 3, [71], 0) := rfl
theorem k223_27 : px_cod 223 27 = some ((.iload 4), 2, [], 4) := rfl
theorem k223_29 : px_cod 223 29 = some ((.iload 6), 2, [], 6) := rfl
theorem k223_31 : px_cod 223 31 = some (.ishr, 1, [], 0) := rfl
theorem k223_32 : px_cod 223 32 = some ((.iconst 1), 1, [], 1) := rfl
theorem k223_33 : px_cod 223 33 = some (.iand, 1, [], 0) := rfl
theorem k223_34 : px_cod 223 34 = some ((.iconst 1), 1, [], 1) := rfl
theorem k223_35 : px_cod 223 35 = some ((.if_icmp .ne 30), 3, [65], 0) := rfl
theorem k223_38 : px_cod 223 38 = some ((.iload 5), 2, [], 5) := rfl
theorem k223_40 : px_cod 223 40 = some ((.iconst (-1)), 1, [], (-1)) := rfl
theorem k223_41 : px_cod 223 41 = some ((.if_icmp .eq 20), 3, [61], 0) := rfl
theorem k223_44 : px_cod 223 44 = some ((.aload_n 0), 1, [], 0) := rfl
theorem k223_45 : px_cod 223 45 = some ((.getfield 113), 3, [235, 12, 4, 1], 51) := rfl
theorem k223_48 : px_cod 223 48 = some ((.iload 6), 2, [], 6) := rfl
theorem k223_50 : px_cod 223 50 = some (.iaload, 1, [], 0) := rfl
theorem k223_51 : px_cod 223 51 = some ((.aload_n 0), 1, [], 0) := rfl
theorem k223_52 : px_cod 223 52 = some ((.getfield 113), 3, [235, 12, 4, 1], 51) := rfl
theorem k223_55 : px_cod 223 55 = some ((.iload 5), 2, [], 5) := rfl
theorem k223_57 : px_cod 223 57 = some (.iaload, 1, [], 0) := rfl
theorem k223_58 : px_cod 223 58 = some ((.if_icmp .ge 7), 3, [65], 0) := rfl
theorem k223_61 : px_cod 223 61 = some ((.iload 6), 2, [], 6) := rfl
theorem k223_63 : px_cod 223 63 = some ((.istore 5), 2, [], 5) := rfl
theorem k223_65 : px_cod 223 65 = some ((.iinc 6 1), 3, [6], 1) := rfl
theorem k223_68 : px_cod 223 68 = some ((.goto (-52)), 3, [16], 0) := rfl
theorem k223_71 : px_cod 223 71 = some ((.iload_n 3), 1, [], 3) := rfl
theorem k223_72 : px_cod 223 72 = some ((.iconst 1), 1, [], 1) := rfl
theorem k223_73 : px_cod 223 73 = some ((.aload_n 0), 1, [], 0) := rfl
theorem k223_74 : px_cod 223 74 = some ((.iload 5), 2, [], 5) := rfl
theorem k223_76 : px_cod 223 76 = some ((.iconst 4), 1, [], 4) := rfl
theorem k223_77 : px_cod 223 77 = some ((.invokevirtual 364), 3, [0, 258, 146], 0) := rfl
theorem k223_80 : px_cod 223 80 = some (.iadd, 1, [], 0) := rfl
theorem k223_81 : px_cod 223 81 = some (.iadd, 1, [], 0) := rfl
theorem k223_82 : px_cod 223 82 = some ((.istore_n 3), 1, [], 3) := rfl
theorem k223_83 : px_cod 223 83 = some ((.iload_n 3), 1, [], 3) := rfl
theorem k223_84 : px_cod 223 84 = some ((.aload_n 0), 1, [], 0) := rfl
theorem k223_85 : px_cod 223 85 = some ((.getfield 113), 3, [235, 12, 4, 1], 51) := rfl
theorem k223_88 : px_cod 223 88 = some ((.iload 5), 2, [], 5) := rfl
theorem k223_90 : px_cod 223 90 = some (.iaload, 1, [], 0) := rfl
theorem k223_91 : px_cod 223 91 = some ((.if_icmp .le 5), 3, [96], 0) := rfl
theorem k223_94 : px_cod 223 94 = some ((.iconst 0), 1, [], 0) := rfl
theorem k223_95 : px_cod 223 95 = some (.ireturn, 1, [], 0) := rfl
theorem k223_96 : px_cod 223 96 = some ((.iload 4), 2, [], 4) := rfl
theorem k223_98 : px_cod 223 98 = some ((.iconst 1), 1, [], 1) := rfl
theorem k223_99 : px_cod 223 99 = some ((.iload 5), 2, [], 5) := rfl
theorem k223_101 : px_cod 223 101 = some (.ishl, 1, [], 0) := rfl
theorem k223_102 : px_cod 223 102 = some ((.iconst (-1)), 1, [], (-1)) := rfl
theorem k223_103 : px_cod 223 103 = some (.ixor, 1, [], 0) := rfl
theorem k223_104 : px_cod 223 104 = some (.iand, 1, [], 0) := rfl
theorem k223_105 : px_cod 223 105 = some ((.istore 4), 2, [], 4) := rfl
theorem k223_107 : px_cod 223 107 = some ((.goto (-102)), 3, [5], 0) := rfl
theorem k223_110 : px_cod 223 110 = some ((.iconst 1), 1, [], 1) := rfl
theorem k223_111 : px_cod 223 111 = some (.ireturn, 1, [], 0) := rfl
theorem k224_0 : px_cod 224 0 = some ((.iload_n 1), 1, [], 1) := rfl
theorem k224_1 : px_cod 224 1 = some ((.invokestatic 358), 3, [0, 248, 145], 0) := rfl
theorem k224_4 : px_cod 224 4 = some ((.ifCond .eq 12), 3, [16], 0) := rfl
theorem k224_7 : px_cod 224 7 = some ((.iload_n 2), 1, [], 2) := rfl
theorem k224_8 : px_cod 224 8 = some ((.iconst 0), 1, [], 0) := rfl
theorem k224_9 : px_cod 224 9 = some ((.iconst 2), 1, [], 2) := rfl
theorem k224_10 : px_cod 224 10 = some ((.invokestatic 138), 3, [0, 209, 141], 0) := rfl
theorem k224_13 : px_cod 224 13 = some ((.ifCond .ne 5), 3, [18], 0) := rfl
theorem k224_16 : px_cod 224 16 = some ((.iconst (-1)), 1, [], (-1)) := rfl
theorem k224_17 : px_cod 224 17 = some (.ireturn, 1, [], 0) := rfl
theorem k224_18 : px_cod 224 18 = some ((.aload_n 0), 1, [], 0) := rfl
theorem k224_19 : px_cod 224 19 = some ((.invokevirtual 409), 3, [0, 273, 207], 0) := rfl
theorem k224_22 : px_cod 224 22 = some ((.aload_n 0), 1, [], 0) := rfl
theorem k224_23 : px_cod 224 23 = some ((.iload_n 1), 1, [], 1) := rfl
theorem k224_24 : px_cod 224 24 = some ((.invokevirtual 438), 3, [0, 288, 222], 0) := rfl
theorem k224_27 : px_cod 224 27 = some ((.aload_n 0), 1, [], 0) := rfl
theorem k224_28 : px_cod 224 28 = some ((.invokevirtual 381), 3, [0, 259, 198], 0) := rfl
theorem k224_31 : px_cod 224 31 = some ((.istore_n 3), 1, [], 3) := rfl
theorem k224_32 : px_cod 224 32 = some ((.iconst 0), 1, [], 0) := rfl
theorem k224_33 : px_cod 224 33 = some ((.istore 4), 2, [], 4) := rfl
theorem k224_35 : px_cod 224 35 = some ((.iconst 0), 1, [], 0) := rfl
theorem k224_36 : px_cod 224 36 = some ((.istore 5), 2, [], 5) := rfl
theorem k224_38 : px_cod 224 38 = some ((.iconst 1), 1, [], 1) := rfl
theorem k224_39 : px_cod 224 39 = some ((.istore 6), 2, [], 6) := rfl
theorem k224_41 : px_cod 224 41 = some ((.iload 6), 2, [], 6) := rfl
theorem k224_43 : px_cod 224 43 = some ((.iload_n 3), 1, [], 3) := rfl
theorem k224_44 : px_cod 224 44 = some ((.if_icmp .gt 95), 3, [139], 0) := rfl
theorem k224_47 : px_cod 224 47 = some ((.iload 6), 2, [], 6) := rfl
theorem k224_49 : px_cod 224 49 = some ((.iload_n 3), 1, [], 3) := rfl
theorem k224_50 : px_cod 224 50 = some ((.iconst (-1)), 1, [], (-1)) := rfl
theorem k224_51 : px_cod 224 51 = some (.ixor, 1, [], 0) := rfl
theorem k224_52 : px_cod 224 52 = some (.iand, 1, [], 0) := rfl
theorem k224_53 : px_cod 224 53 = some ((.ifCond .ne 80), 3, [133], 0) := rfl
theorem k224_56 : px_cod 224 56 = some ((.iconst 0), 1, [], 0) := rfl
theorem k224_57 : px_cod 224 57 = some ((.istore 7), 2, [], 7) := rfl
theorem k224_59 : px_cod 224 59 = some ((.iconst 0), 1, [], 0) := rfl
theorem k224_60 : px_cod 224 60 = some ((.istore 8), 2, [], 8) := rfl
theorem k224_62 : px_cod 224 62 = some ((.iload 8), 2, [], 8) := rfl
theorem k224_64 : px_cod 224 64 = some ((.aload_n 0), 1, [], 0) := rfl
theorem k224_65 : px_cod 224 65 = some ((.getfield 7), 3, [187, 12, 4, 1], 3) := rfl
theorem k224_68 : px_cod 224 68 = some ((.iconst 4), 1, [], 4) := rfl
theorem k224_69 : px_cod 224 69 = some (.iaload, 1, [], 0) := rfl
theorem k224_70 : px_cod 224 70 = some ((.if_icmp .ge 38), 3, [108], 0) := rfl
theorem k224_73 : px_cod 224 73 = some ((.iload 7), 2, [], 7) := rfl
theorem k224_75 : px_cod 224 75 = some ((.iload 6), 2, [], 6) := rfl
theorem k224_77 : px_cod 224 77 = some ((.iload 8), 2, [], 8) := rfl
theorem k224_79 : px_cod 224 79 = some (.ishr, 1, [], 0) := rfl
theorem k224_80 : px_cod 224 80 = some ((.iconst 1), 1, [], 1) := rfl
theorem k224_81 : px_cod 224 81 = some (.iand, 1, [], 0) := rfl
theorem k224_82 : px_cod 224 82 = some ((.iconst 1), 1, [], 1) := rfl
theorem k224_83 : px_cod 224 83 = some ((.if_icmp .ne 15), 3, [98], 0) := rfl
theorem k224_86 : px_cod 224 86 = some ((.aload_n 0), 1, [], 0) := rfl
theorem k224_87 : px_cod 224 87 = some ((.iload 8), 2, [], 8) := rfl
theorem k224_89 : px_cod 224 89 = some ((.iconst 0), 1, [], 0) := rfl
theorem k224_90 : px_cod 224 90 = some ((.invokevirtual 364), 3, [0, 258, 146], 0) := rfl
theorem k224_93 : px_cod 224 93 = some ((.iconst 1), 1, [], 1) := rfl
theorem k224_94 : px_cod 224 94 = some (.iadd, 1, [], 0) := rfl
theorem k224_95 : px_cod 224 95 = some ((.goto 4), 3, [99], 0) := rfl
theorem k224_98 : px_cod 224 98 = some ((.iconst 0), 1, [], 0) := rfl
theorem k224_99 : px_cod 224 99 = some (.iadd, 1, [], 0) := rfl
theorem k224_100 : px_cod 224 100 = some ((.istore 7), 2, [], 7) := rfl
theorem k224_102 : px_cod 224 102 = some ((.iinc 8 1), 3, [8], 1) := rfl
theorem k224_105 : px_cod 224 105 = some ((.goto (-43)), 3, [62], 0) := rfl
theorem k224_108 : px_cod 224 108 = some ((.iload 7), 2, [], 7) := rfl
theorem k224_110 : px_cod 224 110 = some ((.iload 5), 2, [], 5) := rfl
theorem k224_112 : px_cod 224 112 = some ((.if_icmp .le 21), 3, [133], 0) := rfl
theorem k224_115 : px_cod 224 115 = some ((.aload_n 0), 1, [], 0) := rfl
theorem k224_116 : px_cod 224 116 = some ((.iload 6), 2, [], 6) := rfl
theorem k224_118 : px_cod 224 118 = some ((.iload_n 1), 1, [], 1) := rfl
theorem k224_119 : px_cod 224 119 = some ((.invokevirtual 441), 3, [0, 289, 223], 0) := rfl
theorem k224_122 : px_cod 224 122 = some ((.ifCond .eq 11), 3, [133], 0) := rfl
theorem k224_125 : px_cod 224 125 = some ((.iload 7), 2, [], 7) := rfl
theorem k224_127 : px_cod 224 127 = some ((.istore 5), 2, [], 5) := rfl
theorem k224_129 : px_cod 224 129 = some ((.iload 6), 2, [], 6) := rfl
theorem k224_131 : px_cod 224 131 = some ((.istore 4), 2, [], 4) := rfl
theorem k224_133 : px_cod 224 133 = some ((.iinc 6 1), 3, [6], 1) := rfl
theorem k224_136 : px_cod 224 136 = some ((.goto (-95)), 3, [41], 0) := rfl
theorem k224_139 : px_cod 224 139 = some ((.iconst 0), 1, [], 0) := rfl
theorem k224_140 : px_cod 224 140 = some ((.istore 6), 2, [], 6) := rfl
theorem k224_142 : px_cod 224 142 = some ((.iconst 0), 1, [], 0) := rfl
theorem k224_143 : px_cod 224 143 = some ((.istore 7), 2, [], 7) := rfl
theorem k224_145 : px_cod 224 145 = some ((.iload 7), 2, [], 7) := rfl
theorem k224_147 : px_cod 224 147 = some ((.aload_n 0), 1, [], 0) := rfl
theorem k224_148 : px_cod 224 148 = some ((.getfield 7), 3, [187, 12, 4, 1], 3) := rfl
theorem k224_151 : px_cod 224 151 = some ((.iconst 4), 1, [], 4) := rfl
theorem k224_152 : px_cod 224 152 = some (.iaload, 1, [], 0) := rfl
theorem k224_153 : px_cod 224 153 = some ((.if_icmp .ge 21), 3, [174], 0) := rfl
theorem k224_156 : px_cod 224 156 = some ((.iload 6), 2, [], 6) := rfl
theorem k224_158 : px_cod 224 158 = some ((.iload 4), 2, [], 4) := rfl
theorem k224_160 : px_cod 224 160 = some ((.iload 7), 2, [], 7) := rfl
theorem k224_162 : px_cod 224 162 = some (.ishr, 1, [], 0) := rfl
theorem k224_163 : px_cod 224 163 = some ((.iconst 1), 1, [], 1) := rfl
theorem k224_164 : px_cod 224 164 = some (.iand, 1, [], 0) := rfl
theorem k224_165 : px_cod 224 165 = some (.iadd, 1, [], 0) := rfl
theorem k224_166 : px_cod 224 166 = some ((.istore 6), 2, [], 6) := rfl
theorem k224_168 : px_cod 224 168 = some ((.iinc 7 1), 3, [7], 1) := rfl
theorem k224_171 : px_cod 224 171 = some ((.goto (-26)), 3, [145], 0) := rfl
theorem k224_174 : px_cod 224 174 = some ((.iload_n 2), 1, [], 2) := rfl
theorem k224_175 : px_cod 224 175 = some ((.ifCond .ne 8), 3, [183], 0) := rfl
theorem k224_178 : px_cod 224 178 = some ((.iload 4), 2, [], 4) := rfl
theorem k224_180 : px_cod 224 180 = some ((.goto 20), 3, [200], 0) := rfl
theorem k224_183 : px_cod 224 183 = some ((.iload_n 2), 1, [], 2) := rfl
theorem k224_184 : px_cod 224 184 = some ((.iconst 1), 1, [], 1) := rfl
theorem k224_185 : px_cod 224 185 = some ((.if_icmp .ne 8), 3, [193], 0) := rfl
theorem k224_188 : px_cod 224 188 = some ((.iload 5), 2, [], 5) := rfl
theorem k224_190 : px_cod 224 190 = some ((.goto 10), 3, [200], 0) := rfl
theorem k224_193 : px_cod 224 193 = some ((.aload_n 0), 1, [], 0) := rfl
theorem k224_194 : px_cod 224 194 = some ((.invokevirtual 432), 3, [0, 285, 219], 0) := rfl
theorem k224_197 : px_cod 224 197 = some ((.iload 6), 2, [], 6) := rfl
theorem k224_199 : px_cod 224 199 = some (.isub, 1, [], 0) := rfl
theorem k224_200 : px_cod 224 200 = some (.ireturn, 1, [], 0) := rfl
theorem k225_0 : px_cod 225 0 = some ((.iload_n 1), 1, [], 1) := rfl
theorem k225_1 : px_cod 225 1 = some ((.iconst 1), 1, [], 1) := rfl
theorem k225_2 : px_cod 225 2 = some ((.sipush 999), 3, [], 999) := rfl
theorem k225_5 : px_cod 225 5 = some ((.invokestatic 138), 3, [0, 209, 141], 0) := rfl
theorem k225_8 : px_cod 225 8 = some ((.ifCond .eq 15), 3, [23], 0) := rfl
theorem k225_11 : px_cod 225 11 = some ((.aload_n 0), 1, [], 0) := rfl
theorem k225_12 : px_cod 225 12 = some ((.getfield 7), 3, [187, 12, 4, 1], 3) := rfl
theorem k225_15 : px_cod 225 15 = some ((.bipush 7), 2, [], 7) := rfl
theorem k225_17 : px_cod 225 17 = some (.iaload, 1, [], 0) := rfl
theorem k225_18 : px_cod 225 18 = some ((.bipush 7), 2, [], 7) := rfl
theorem k225_20 : px_cod 225 20 = some ((.if_icmp .ne 5), 3, [25], 0) := rfl
theorem k225_23 : px_cod 225 23 = some ((.iconst (-1)), 1, [], (-1)) := rfl
theorem k225_24 : px_cod 225 24 = some (.ireturn, 1, [], 0) := rfl
theorem k225_25 : px_cod 225 25 = some ((.aload_n 0), 1, [], 0) := rfl
theorem k225_26 : px_cod 225 26 = some ((.getfield 7), 3, [187, 12, 4, 1], 3) := rfl
theorem k225_29 : px_cod 225 29 = some ((.sipush 270), 3, [], 270) := rfl
theorem k225_32 : px_cod 225 32 = some ((.aload_n 0), 1, [], 0) := rfl
theorem k225_33 : px_cod 225 33 = some ((.getfield 7), 3, [187, 12, 4, 1], 3) := rfl
theorem k225_36 : px_cod 225 36 = some ((.bipush 7), 2, [], 7) := rfl
theorem k225_38 : px_cod 225 38 = some (.iaload, 1, [], 0) := rfl
theorem k225_39 : px_cod 225 39 = some (.iadd, 1, [], 0) := rfl
theorem k225_40 : px_cod 225 40 = some ((.iload_n 1), 1, [], 1) := rfl
theorem k225_41 : px_cod 225 41 = some (.iastore, 1, [], 0) := rfl
theorem k225_42 : px_cod 225 42 = some ((.aload_n 0), 1, [], 0) := rfl
theorem k225_43 : px_cod 225 43 = some ((.getfield 7), 3, [187, 12, 4, 1], 3) := rfl
theorem k225_46 : px_cod 225 46 = some ((.bipush 7), 2, [], 7) := rfl
theorem k225_48 : px_cod 225 48 = some (.dup2, 1, [], 0) := rfl
theorem k225_49 : px_cod 225 49 = some (.iaload, 1, [], 0) := rfl
theorem k225_50 : px_cod 225 50 = some ((.iconst 1), 1, [], 1) := rfl
theorem k225_51 : px_cod 225 51 = some (.iadd, 1, [], 0) := rfl
theorem k225_52 : px_cod 225 52 = some (.iastore, 1, [], 0) := rfl
theorem k225_53 : px_cod 225 53 = some ((.aload_n 0), 1, [], 0) := rfl
theorem k225_54 : px_cod 225 54 = some ((.getfield 7), 3, [187, 12, 4, 1], 3) := rfl
theorem k225_57 : px_cod 225 57 = some ((.bipush 7), 2, [], 7) := rfl
theorem k225_59 : px_cod 225 59 = some (.iaload, 1, [], 0) := rfl
theorem k225_60 : px_cod 225 60 = some (.ireturn, 1, [], 0) := rfl
theorem k226_0 : px_cod 226 0 = some ((.iconst 1), 1, [], 1) := rfl
theorem k226_1 : px_cod 226 1 = some ((.istore_n 1), 1, [], 1) := rfl
theorem k226_2 : px_cod 226 2 = some ((.iload_n 1), 1, [], 1) := rfl
theorem k226_3 : px_cod 226 3 = some ((.bipush 21), 2, [], 21) := rfl
theorem k226_5 : px_cod 226 5 = some ((.if_icmp .ge 49), 3, [54], 0) := rfl
theorem k226_8 : px_cod 226 8 = some ((.aload_n 0), 1, [], 0) := rfl
theorem k226_9 : px_cod 226 9 = some ((.getfield 66), 3, [220, 12, 4, 1], 36) := rfl
theorem k226_12 : px_cod 226 12 = some ((.bipush 14), 2, [], 14) := rfl
theorem k226_14 : px_cod 226 14 = some ((.iload_n 1), 1, [], 1) := rfl
theorem k226_15 : px_cod 226 15 = some (.iastore, 1, [], 0) := rfl
theorem k226_16 : px_cod 226 16 = some ((.aload_n 0), 1, [], 0) := rfl
theorem k226_17 : px_cod 226 17 = some ((.getfield 116), 3, [236, 12, 4, 1], 52) := rfl
theorem k226_20 : px_cod 226 20 = some ((.iload_n 1), 1, [], 1) := rfl
theorem k226_21 : px_cod 226 21 = some ((.aload_n 0), 1, [], 0) := rfl
theorem k226_22 : px_cod 226 22 = some ((.iconst 3), 1, [], 3) := rfl
theorem k226_23 : px_cod 226 23 = some ((.invokevirtual 344), 3, [0, 250, 187], 0) := rfl
theorem k226_26 : px_cod 226 26 = some ((.ifCond .eq 17), 3, [43], 0) := rfl
theorem k226_29 : px_cod 226 29 = some ((.aload_n 0), 1, [], 0) := rfl
theorem k226_30 : px_cod 226 30 = some ((.iconst 3), 1, [], 3) := rfl
theorem k226_31 : px_cod 226 31 = some ((.lconst 0), 1, [], 0) := rfl
theorem k226_32 : px_cod 226 32 = some ((.invokevirtual 350), 3, [0, 252, 188], 0) := rfl
theorem k226_35 : px_cod 226 35 = some ((.ldc 228), 2, [0, 40], 99999) := rfl
theorem k226_37 : px_cod 226 37 = some ((.invokestatic 354), 3, [0, 256, 190], 0) := rfl
theorem k226_40 : px_cod 226 40 = some ((.goto 7), 3, [47], 0) := rfl
theorem k226_43 : px_cod 226 43 = some ((.bipush 100), 2, [], 100) := rfl
theorem k226_45 : px_cod 226 45 = some ((.iload_n 1), 1, [], 1) := rfl
theorem k226_46 : px_cod 226 46 = some (.imul, 1, [], 0) := rfl
theorem k226_47 : px_cod 226 47 = some (.iastore, 1, [], 0) := rfl
theorem k226_48 : px_cod 226 48 = some ((.iinc 1 1), 3, [1], 1) := rfl
theorem k226_51 : px_cod 226 51 = some ((.goto (-49)), 3, [2], 0) := rfl
theorem k226_54 : px_cod 226 54 = some ((.iconst 1), 1, [], 1) := rfl
theorem k226_55 : px_cod 226 55 = some ((.istore_n 1), 1, [], 1) := rfl
theorem k226_56 : px_cod 226 56 = some ((.iload_n 1), 1, [], 1) := rfl
theorem k226_57 : px_cod 226 57 = some ((.iconst 1), 1, [], 1) := rfl
theorem k226_58 : px_cod 226 58 = some ((.aload_n 0), 1, [], 0) := rfl
theorem k226_59 : px_cod 226 59 = some ((.getfield 7), 3, [187, 12, 4, 1], 3) := rfl
theorem k226_62 : px_cod 226 62 = some ((.bipush 7), 2, [], 7) := rfl
theorem k226_64 : px_cod 226 64 = some (.iaload, 1, [], 0) := rfl
theorem k226_65 : px_cod 226 65 = some (.ishl, 1, [], 0) := rfl
theorem k226_66 : px_cod 226 66 = some ((.if_icmp .ge 102), 3, [168], 0) := rfl
theorem k226_69 : px_cod 226 69 = some ((.iconst 0), 1, [], 0) := rfl
theorem k226_70 : px_cod 226 70 = some ((.istore_n 2), 1, [], 2) := rfl
theorem k226_71 : px_cod 226 71 = some ((.iconst 0), 1, [], 0) := rfl
theorem k226_72 : px_cod 226 72 = some ((.istore_n 3), 1, [], 3) := rfl
theorem k226_73 : px_cod 226 73 = some ((.iload_n 3), 1, [], 3) := rfl
theorem k226_74 : px_cod 226 74 = some ((.aload_n 0), 1, [], 0) := rfl
theorem k226_75 : px_cod 226 75 = some ((.getfield 7), 3, [187, 12, 4, 1], 3) := rfl
theorem k226_78 : px_cod 226 78 = some ((.bipush 7), 2, [], 7) := rfl
theorem k226_80 : px_cod 226 80 = some (.iaload, 1, [], 0) := rfl
theorem k226_81 : px_cod 226 81 = some ((.if_icmp .ge 35), 3, [116], 0) := rfl
theorem k226_84 : px_cod 226 84 = some ((.iload_n 2), 1, [], 2) := rfl
theorem k226_85 : px_cod 226 85 = some ((.iload_n 1), 1, [], 1) := rfl
theorem k226_86 : px_cod 226 86 = some ((.iload_n 3), 1, [], 3) := rfl
theorem k226_87 : px_cod 226 87 = some (.ishr, 1, [], 0) := rfl
theorem k226_88 : px_cod 226 88 = some ((.iconst 1), 1, [], 1) := rfl
theorem k226_89 : px_cod 226 89 = some (.iand, 1, [], 0) := rfl
theorem k226_90 : px_cod 226 90 = some ((.iconst 1), 1, [], 1) := rfl
theorem k226_91 : px_cod 226 91 = some ((.if_icmp .ne 16), 3, [107], 0) := rfl
theorem k226_94 : px_cod 226 94 = some ((.aload_n 0), 1, [], 0) := rfl
theorem k226_95 : px_cod 226 95 = some ((.getfield 7), 3, [187, 12, 4, 1], 3) := rfl
theorem k226_98 : px_cod 226 98 = some ((.sipush 270), 3, [], 270) := rfl
theorem k226_101 : px_cod 226 101 = some ((.iload_n 3), 1, [], 3) := rfl
theorem k226_102 : px_cod 226 102 = some (.iadd, 1, [], 0) := rfl
theorem k226_103 : px_cod 226 103 = some (.iaload, 1, [], 0) := rfl
theorem k226_104 : px_cod 226 104 = some ((.goto 4), 3, [108], 0) := rfl
theorem k226_107 : px_cod 226 107 = some ((.iconst 0), 1, [], 0) := rfl
theorem k226_108 : px_cod 226 108 = some (.iadd, 1, [], 0) := rfl
theorem k226_109 : px_cod 226 109 = some ((.istore_n 2), 1, [], 2) := rfl
theorem k226_110 : px_cod 226 110 = some ((.iinc 3 1), 3, [3], 1) := rfl
theorem k226_113 : px_cod 226 113 = some ((.goto (-40)), 3, [73], 0) := rfl
theorem k226_116 : px_cod 226 116 = some ((.aload_n 0), 1, [], 0) := rfl
theorem k226_117 : px_cod 226 117 = some ((.getfield 119), 3, [237, 12, 4, 1], 53) := rfl
theorem k226_120 : px_cod 226 120 = some ((.iload_n 1), 1, [], 1) := rfl
theorem k226_121 : px_cod 226 121 = some ((.iconst 0), 1, [], 0) := rfl
theorem k226_122 : px_cod 226 122 = some (.iastore, 1, [], 0) := rfl
theorem k226_123 : px_cod 226 123 = some ((.bipush 20), 2, [], 20) := rfl
theorem k226_125 : px_cod 226 125 = some ((.istore_n 3), 1, [], 3) := rfl
theorem k226_126 : px_cod 226 126 = some ((.iload_n 3), 1, [], 3) := rfl
theorem k226_127 : px_cod 226 127 = some ((.ifCond .le 35), 3, [162], 0) := rfl
theorem k226_130 : px_cod 226 130 = some ((.aload_n 0), 1, [], 0) := rfl
theorem k226_131 : px_cod 226 131 = some ((.getfield 119), 3, [237, 12, 4, 1], 53) := rfl
theorem k226_134 : px_cod 226 134 = some ((.iload_n 1), 1, [], 1) := rfl
theorem k226_135 : px_cod 226 135 = some ((.aload_n 0), 1, [], 0) := rfl
theorem k226_136 : px_cod 226 136 = some ((.getfield 116), 3, [236, 12, 4, 1], 52) := rfl
theorem k226_139 : px_cod 226 139 = some ((.iload_n 3), 1, [], 3) := rfl
theorem k226_140 : px_cod 226 140 = some (.iaload, 1, [], 0) := rfl
theorem k226_141 : px_cod 226 141 = some ((.iload_n 2), 1, [], 2) := rfl
theorem k226_142 : px_cod 226 142 = some ((.if_icmp .lt 7), 3, [149], 0) := rfl
theorem k226_145 : px_cod 226 145 = some ((.iload_n 3), 1, [], 3) := rfl
theorem k226_146 : px_cod 226 146 = some ((.goto 9), 3, [155], 0) := rfl
theorem k226_149 : px_cod 226 149 = some ((.aload_n 0), 1, [], 0) := rfl
theorem k226_150 : px_cod 226 150 = some ((.getfield 119), 3, [237, 12, 4, 1], 53) := rfl
theorem k226_153 : px_cod 226 153 = some ((.iload_n 1), 1, [], 1) := rfl
theorem k226_154 : px_cod 226 154 = some (.iaload, 1, [], 0) := rfl
theorem k226_155 : px_cod 226 155 = some (.iastore, 1, [], 0) := rfl
theorem k226_156 : px_cod 226 156 = some ((.iinc 3 (-1)), 3, [3], (-1)) := rfl
theorem k226_159 : px_cod 226 159 = some ((.goto (-33)), 3, [126], 0) := rfl
theorem k226_162 : px_cod 226 162 = some ((.iinc 1 1), 3, [1], 1) := rfl
theorem k226_165 : px_cod 226 165 = some ((.goto (-109)), 3, [56], 0) := rfl
theorem k226_168 : px_cod 226 168 = some (.return_, 1, [], 0) := rfl
theorem k227_0 : px_cod 227 0 = some ((.aload_n 0), 1, [], 0) := rfl
theorem k227_1 : px_cod 227 1 = some ((.invokevirtual 445), 3, [0, 292, 226], 0) := rfl
theorem k227_4 : px_cod 227 4 = some ((.aload_n 0), 1, [], 0) := rfl
theorem k227_5 : px_cod 227 5 = some ((.getfield 122), 3, [238, 12, 4, 1], 54) := rfl
theorem k227_8 : px_cod 227 8 = some ((.iconst 0), 1, [], 0) := rfl
theorem k227_9 : px_cod 227 9 = some ((.iconst 0), 1, [], 0) := rfl
theorem k227_10 : px_cod 227 10 = some (.iastore, 1, [], 0) := rfl
theorem k227_11 : px_cod 227 11 = some ((.iconst 1), 1, [], 1) := rfl
theorem k227_12 : px_cod 227 12 = some ((.aload_n 0), 1, [], 0) := rfl
theorem k227_13 : px_cod 227 13 = some ((.getfield 7), 3, [187, 12, 4, 1], 3) := rfl
theorem k227_16 : px_cod 227 16 = some ((.bipush 7), 2, [], 7) := rfl
theorem k227_18 : px_cod 227 18 = some (.iaload, 1, [], 0) := rfl
theorem k227_19 : px_cod 227 19 = some (.ishl, 1, [], 0) := rfl
theorem k227_20 : px_cod 227 20 = some ((.iconst 1), 1, [], 1) := rfl
theorem k227_21 : px_cod 227 21 = some (.isub, 1, [], 0) := rfl
theorem k227_22 : px_cod 227 22 = some ((.istore_n 1), 1, [], 1) := rfl
theorem k227_23 : px_cod 227 23 = some ((.iconst 1), 1, [], 1) := rfl
theorem k227_24 : px_cod 227 24 = some ((.istore_n 2), 1, [], 2) := rfl
theorem k227_25 : px_cod 227 25 = some ((.iload_n 2), 1, [], 2) := rfl
theorem k227_26 : px_cod 227 26 = some ((.iload_n 1), 1, [], 1) := rfl
theorem k227_27 : px_cod 227 27 = some ((.if_icmp .gt 118), 3, [145], 0) := rfl
theorem k227_30 : px_cod 227 30 = some ((.aload_n 0), 1, [], 0) := rfl
theorem k227_31 : px_cod 227 31 = some ((.getfield 122), 3, [238, 12, 4, 1], 54) := rfl
theorem k227_34 : px_cod 227 34 = some ((.iload_n 2), 1, [], 2) := rfl
theorem k227_35 : px_cod 227 35 = some ((.iconst (-1)), 1, [], (-1)) := rfl
theorem k227_36 : px_cod 227 36 = some (.iastore, 1, [], 0) := rfl
theorem k227_37 : px_cod 227 37 = some ((.iconst 1), 1, [], 1) := rfl
theorem k227_38 : px_cod 227 38 = some ((.istore_n 3), 1, [], 3) := rfl
theorem k227_39 : px_cod 227 39 = some ((.iload_n 3), 1, [], 3) := rfl
theorem k227_40 : px_cod 227 40 = some ((.iload_n 2), 1, [], 2) := rfl
theorem k227_41 : px_cod 227 41 = some ((.if_icmp .gt 98), 3, [139], 0) := rfl
theorem k227_44 : px_cod 227 44 = some ((.iload_n 2), 1, [], 2) := rfl
theorem k227_45 : px_cod 227 45 = some ((.iload_n 3), 1, [], 3) := rfl
theorem k227_46 : px_cod 227 46 = some ((.iconst (-1)), 1, [], (-1)) := rfl
theorem k227_47 : px_cod 227 47 = some (.ixor, 1, [], 0) := rfl
theorem k227_48 : px_cod 227 48 = some (.iand, 1, [], 0) := rfl
theorem k227_49 : px_cod 227 49 = some ((.istore 4), 2, [], 4) := rfl
theorem k227_51 : px_cod 227 51 = some ((.iload_n 3), 1, [], 3) := rfl
theorem k227_52 : px_cod 227 52 = some ((.iload_n 2), 1, [], 2) := rfl
theorem k227_53 : px_cod 227 53 = some ((.iconst (-1)), 1, [], (-1)) := rfl
theorem k227_54 : px_cod 227 54 = some (.ixor, 1, [], 0) := rfl
theorem k227_55 : px_cod 227 55 = some (.iand, 1, [], 0) := rfl
theorem k227_56 : px_cod 227 56 = some ((.ifCond .ne 77), 3, [133], 0) := rfl
theorem k227_59 : px_cod 227 59 = some ((.aload_n 0), 1, [], 0) := rfl
theorem k227_60 : px_cod 227 60 = some ((.getfield 119), 3, [237, 12, 4, 1], 53) := rfl
theorem k227_63 : px_cod 227 63 = some ((.iload_n 3), 1, [], 3) := rfl
theorem k227_64 : px_cod 227 64 = some (.iaload, 1, [], 0) := rfl
theorem k227_65 : px_cod 227 65 = some ((.ifCond .le 68), 3, [133], 0) := rfl
theorem k227_68 : px_cod 227 68 = some ((.aload_n 0), 1, [], 0) := rfl
theorem k227_69 : px_cod 227 69 = some ((.getfield 122), 3, [238, 12, 4, 1], 54) := rfl
theorem k227_72 : px_cod 227 72 = some ((.iload 4), 2, [], 4) := rfl
theorem k227_74 : px_cod 227 74 = some (.iaload, 1, [], 0) := rfl
theorem k227_75 : px_cod 227 75 = some ((.iconst (-1)), 1, [], (-1)) := rfl
theorem k227_76 : px_cod 227 76 = some ((.if_icmp .eq 57), 3, [133], 0) := rfl
theorem k227_79 : px_cod 227 79 = some ((.aload_n 0), 1, [], 0) := rfl
theorem k227_80 : px_cod 227 80 = some ((.getfield 119), 3, [237, 12, 4, 1], 53) := rfl
theorem k227_83 : px_cod 227 83 = some ((.iload_n 3), 1, [], 3) := rfl
theorem k227_84 : px_cod 227 84 = some (.iaload, 1, [], 0) := rfl
theorem k227_85 : px_cod 227 85 = some ((.aload_n 0), 1, [], 0) := rfl
theorem k227_86 : px_cod 227 86 = some ((.getfield 122), 3, [238, 12, 4, 1], 54) := rfl
theorem k227_89 : px_cod 227 89 = some ((.iload 4), 2, [], 4) := rfl
theorem k227_91 : px_cod 227 91 = some (.iaload, 1, [], 0) := rfl
theorem k227_92 : px_cod 227 92 = some (.iadd, 1, [], 0) := rfl
theorem k227_93 : px_cod 227 93 = some ((.istore 5), 2, [], 5) := rfl
theorem k227_95 : px_cod 227 95 = some ((.aload_n 0), 1, [], 0) := rfl
theorem k227_96 : px_cod 227 96 = some ((.getfield 122), 3, [238, 12, 4, 1], 54) := rfl
theorem k227_99 : px_cod 227 99 = some ((.iload_n 2), 1, [], 2) := rfl
theorem k227_100 : px_cod 227 100 = some ((.aload_n 0), 1, [], 0) := rfl
theorem k227_101 : px_cod 227 101 = some ((.getfield 122), 3, [238, 12, 4, 1], 54) := rfl
theorem k227_104 : px_cod 227 104 = some ((.iload_n 2), 1, [], 2) := rfl
theorem k227_105 : px_cod 227 105 = some (.iaload, 1, [], 0) := rfl
theorem k227_106 : px_cod 227 106 = some ((.iconst (-1)), 1, [], (-1)) := rfl
theorem k227_107 : px_cod 227 107 = some ((.if_icmp .eq 14), 3, [121], 0) := rfl
theorem k227_110 : px_cod 227 110 = some ((.iload 5), 2, [], 5) := rfl
theorem k227_112 : px_cod 227 112 = some ((.aload_n 0), 1, [], 0) := rfl
theorem k227_113 : px_cod 227 113 = some ((.getfield 122), 3, [238, 12, 4, 1], 54) := rfl
theorem k227_116 : px_cod 227 116 = some ((.iload_n 2), 1, [], 2) := rfl
theorem k227_117 : px_cod 227 117 = some (.iaload, 1, [], 0) := rfl
theorem k227_118 : px_cod 227 118 = some ((.if_icmp .ge 8), 3, [126], 0) := rfl
theorem k227_121 : px_cod 227 121 = some ((.iload 5), 2, [], 5) := rfl
theorem k227_123 : px_cod 227 123 = some ((.goto 9), 3, [132], 0) := rfl
theorem k227_126 : px_cod 227 126 = some ((.aload_n 0), 1, [], 0) := rfl
theorem k227_127 : px_cod 227 127 = some ((.getfield 122), 3, [238, 12, 4, 1], 54) := rfl
theorem k227_130 : px_cod 227 130 = some ((.iload_n 2), 1, [], 2) := rfl
theorem k227_131 : px_cod 227 131 = some (.iaload, 1, [], 0) := rfl
theorem k227_132 : px_cod 227 132 = some (.iastore, 1, [], 0) := rfl
theorem k227_133 : px_cod 227 133 = some ((.iinc 3 1), 3, [3], 1) := rfl
theorem k227_136 : px_cod 227 136 = some ((.goto (-97)), 3, [39], 0) := rfl
theorem k227_139 : px_cod 227 139 = some ((.iinc 2 1), 3, [2], 1) := rfl
theorem k227_142 : px_cod 227 142 = some ((.goto (-117)), 3, [25], 0) := rfl
theorem k227_145 : px_cod 227 145 = some ((.aload_n 0), 1, [], 0) := rfl
theorem k227_146 : px_cod 227 146 = some ((.getfield 122), 3, [238, 12, 4, 1], 54) := rfl
theorem k227_149 : px_cod 227 149 = some ((.iload_n 1), 1, [], 1) := rfl
theorem k227_150 : px_cod 227 150 = some (.iaload, 1, [], 0) := rfl
theorem k227_151 : px_cod 227 151 = some (.ireturn, 1, [], 0) := rfl
theorem k228_0 : px_cod 228 0 = some ((.iload_n 1), 1, [], 1) := rfl
theorem k228_1 : px_cod 228 1 = some ((.invokestatic 358), 3, [0, 248, 145], 0) := rfl
theorem k228_4 : px_cod 228 4 = some ((.ifCond .eq 39), 3, [43], 0) := rfl
theorem k228_7 : px_cod 228 7 = some ((.aload_n 0), 1, [], 0) := rfl
theorem k228_8 : px_cod 228 8 = some ((.iload_n 2), 1, [], 2) := rfl
theorem k228_9 : px_cod 228 9 = some ((.invokevirtual 146), 3, [0, 215, 144], 0) := rfl
theorem k228_12 : px_cod 228 12 = some ((.ifCond .eq 31), 3, [43], 0) := rfl
theorem k228_15 : px_cod 228 15 = some ((.iload_n 3), 1, [], 3) := rfl
theorem k228_16 : px_cod 228 16 = some ((.iconst (-1)), 1, [], (-1)) := rfl
theorem k228_17 : px_cod 228 17 = some ((.aload_n 0), 1, [], 0) := rfl
theorem k228_18 : px_cod 228 18 = some ((.getfield 7), 3, [187, 12, 4, 1], 3) := rfl
theorem k228_21 : px_cod 228 21 = some ((.iconst 3), 1, [], 3) := rfl
theorem k228_22 : px_cod 228 22 = some (.iaload, 1, [], 0) := rfl
theorem k228_23 : px_cod 228 23 = some ((.iconst 1), 1, [], 1) := rfl
theorem k228_24 : px_cod 228 24 = some (.isub, 1, [], 0) := rfl
theorem k228_25 : px_cod 228 25 = some ((.invokestatic 138), 3, [0, 209, 141], 0) := rfl
theorem k228_28 : px_cod 228 28 = some ((.ifCond .eq 15), 3, [43], 0) := rfl
theorem k228_31 : px_cod 228 31 = some ((.aload_n 0), 1, [], 0) := rfl
theorem k228_32 : px_cod 228 32 = some ((.getfield 7), 3, [187, 12, 4, 1], 3) := rfl
theorem k228_35 : px_cod 228 35 = some ((.bipush 8), 2, [], 8) := rfl
theorem k228_37 : px_cod 228 37 = some (.iaload, 1, [], 0) := rfl
theorem k228_38 : px_cod 228 38 = some ((.bipush 12), 2, [], 12) := rfl
theorem k228_40 : px_cod 228 40 = some ((.if_icmp .ne 5), 3, [45], 0) := rfl
theorem k228_43 : px_cod 228 43 = some ((.iconst (-1)), 1, [], (-1)) := rfl
theorem k228_44 : px_cod 228 44 = some (.ireturn, 1, [], 0) := rfl
theorem k228_45 : px_cod 228 45 = some ((.sipush 280), 3, [], 280) := rfl
theorem k228_48 : px_cod 228 48 = some ((.iconst 3), 1, [], 3) := rfl
theorem k228_49 : px_cod 228 49 = some ((.aload_n 0), 1, [], 0) := rfl
theorem k228_50 : px_cod 228 50 = some ((.getfield 7), 3, [187, 12, 4, 1], 3) := rfl
theorem k228_53 : px_cod 228 53 = some ((.bipush 8), 2, [], 8) := rfl
theorem k228_55 : px_cod 228 55 = some (.iaload, 1, [], 0) := rfl
theorem k228_56 : px_cod 228 56 = some (.imul, 1, [], 0) := rfl
theorem k228_57 : px_cod 228 57 = some (.iadd, 1, [], 0) := rfl
theorem k228_58 : px_cod 228 58 = some ((.istore 4), 2, [], 4) := rfl
theorem k228_60 : px_cod 228 60 = some ((.aload_n 0), 1, [], 0) := rfl
theorem k228_61 : px_cod 228 61 = some ((.getfield 7), 3, [187, 12, 4, 1], 3) := rfl
theorem k228_64 : px_cod 228 64 = some ((.iload 4), 2, [], 4) := rfl
theorem k228_66 : px_cod 228 66 = some ((.iload_n 1), 1, [], 1) := rfl
theorem k228_67 : px_cod 228 67 = some (.iastore, 1, [], 0) := rfl
theorem k228_68 : px_cod 228 68 = some ((.aload_n 0), 1, [], 0) := rfl
theorem k228_69 : px_cod 228 69 = some ((.getfield 7), 3, [187, 12, 4, 1], 3) := rfl
theorem k228_72 : px_cod 228 72 = some ((.iload 4), 2, [], 4) := rfl
theorem k228_74 : px_cod 228 74 = some ((.iconst 1), 1, [], 1) := rfl
theorem k228_75 : px_cod 228 75 = some (.iadd, 1, [], 0) := rfl
theorem k228_76 : px_cod 228 76 = some ((.iload_n 2), 1, [], 2) := rfl
theorem k228_77 : px_cod 228 77 = some (.iastore, 1, [], 0) := rfl
theorem k228_78 : px_cod 228 78 = some ((.aload_n 0), 1, [], 0) := rfl
theorem k228_79 : px_cod 228 79 = some ((.getfield 7), 3, [187, 12, 4, 1], 3) := rfl
theorem k228_82 : px_cod 228 82 = some ((.iload 4), 2, [], 4) := rfl
theorem k228_84 : px_cod 228 84 = some ((.iconst 2), 1, [], 2) := rfl
theorem k228_85 : px_cod 228 85 = some (.iadd, 1, [], 0) := rfl
theorem k228_86 : px_cod 228 86 = some ((.iload_n 3), 1, [], 3) := rfl
theorem k228_87 : px_cod 228 87 = some (.iastore, 1, [], 0) := rfl
theorem k228_88 : px_cod 228 88 = some ((.aload_n 0), 1, [], 0) := rfl
theorem k228_89 : px_cod 228 89 = some ((.getfield 7), 3, [187, 12, 4, 1], 3) := rfl
theorem k228_92 : px_cod 228 92 = some ((.bipush 8), 2, [], 8) := rfl
theorem k228_94 : px_cod 228 94 = some (.dup2, 1, [], 0) := rfl
theorem k228_95 : px_cod 228 95 = some (.iaload, 1, [], 0) := rfl
theorem k228_96 : px_cod 228 96 = some ((.iconst 1), 1, [], 1) := rfl
theorem k228_97 : px_cod 228 97 = some (.iadd, 1, [], 0) := rfl
theorem k228_98 : px_cod 228 98 = some (.iastore, 1, [], 0) := rfl
theorem k228_99 : px_cod 228 99 = some ((.aload_n 0), 1, [], 0) := rfl
theorem k228_100 : px_cod 228 100 = some ((.getfield 7), 3, [187, 12, 4, 1], 3) := rfl
theorem k228_103 : px_cod 228 103 = some ((.bipush 8), 2, [], 8) := rfl
theorem k228_105 : px_cod 228 105 = some (.iaload, 1, [], 0) := rfl
theorem k228_106 : px_cod 228 106 = some (.ireturn, 1, [], 0) := rfl
theorem k229_0 : px_cod 229 0 = some ((.iconst 0), 1, [], 0) := rfl
theorem k229_1 : px_cod 229 1 = some ((.istore_n 2), 1, [], 2) := rfl
theorem k229_2 : px_cod 229 2 = some ((.iload_n 2), 1, [], 2) := rfl
theorem k229_3 : px_cod 229 3 = some ((.aload_n 0), 1, [], 0) := rfl
theorem k229_4 : px_cod 229 4 = some ((.getfield 7), 3, [187, 12, 4, 1], 3) := rfl
theorem k229_7 : px_cod 229 7 = some ((.bipush 8), 2, [], 8) := rfl
theorem k229_9 : px_cod 229 9 = some (.iaload, 1, [], 0) := rfl
theorem k229_10 : px_cod 229 10 = some ((.if_icmp .ge 34), 3, [44], 0) := rfl
theorem k229_13 : px_cod 229 13 = some ((.aload_n 0), 1, [], 0) := rfl
theorem k229_14 : px_cod 229 14 = some ((.getfield 7), 3, [187, 12, 4, 1], 3) := rfl
theorem k229_17 : px_cod 229 17 = some ((.sipush 280), 3, [], 280) := rfl
theorem k229_20 : px_cod 229 20 = some ((.iconst 3), 1, [], 3) := rfl
theorem k229_21 : px_cod 229 21 = some ((.iload_n 2), 1, [], 2) := rfl
theorem k229_22 : px_cod 229 22 = some (.imul, 1, [], 0) := rfl
theorem k229_23 : px_cod 229 23 = some (.iadd, 1, [], 0) := rfl
theorem k229_24 : px_cod 229 24 = some ((.iconst 1), 1, [], 1) := rfl
theorem k229_25 : px_cod 229 25 = some (.iadd, 1, [], 0) := rfl
theorem k229_26 : px_cod 229 26 = some (.iaload, 1, [], 0) := rfl
theorem k229_27 : px_cod 229 27 = some ((.istore_n 3), 1, [], 3) := rfl
theorem k229_28 : px_cod 229 28 = some ((.iload_n 1), 1, [], 1) := rfl
theorem k229_29 : px_cod 229 29 = some ((.iload_n 3), 1, [], 3) := rfl
theorem k229_30 : px_cod 229 30 = some (.ishr, 1, [], 0) := rfl
theorem k229_31 : px_cod 229 31 = some ((.iconst 1), 1, [], 1) := rfl
theorem k229_32 : px_cod 229 32 = some (.iand, 1, [], 0) := rfl
theorem k229_33 : px_cod 229 33 = some ((.ifCond .ne 5), 3, [38], 0) := rfl
theorem k229_36 : px_cod 229 36 = some ((.iconst 0), 1, [], 0) := rfl
theorem k229_37 : px_cod 229 37 = some (.ireturn, 1, [], 0) := rfl
theorem k229_38 : px_cod 229 38 = some ((.iinc 2 1), 3, [2], 1) := rfl
theorem k229_41 : px_cod 229 41 = some ((.goto (-39)), 3, [2], 0) := rfl
theorem k229_44 : px_cod 229 44 = some ((.iconst 0), 1, [], 0) := rfl
theorem k229_45 : px_cod 229 45 = some ((.istore_n 2), 1, [], 2) := rfl
theorem k229_46 : px_cod 229 46 = some ((.iload_n 2), 1, [], 2) := rfl
theorem k229_47 : px_cod 229 47 = some ((.aload_n 0), 1, [], 0) := rfl
theorem k229_48 : px_cod 229 48 = some ((.getfield 7), 3, [187, 12, 4, 1], 3) := rfl
theorem k229_51 : px_cod 229 51 = some ((.bipush 8), 2, [], 8) := rfl
theorem k229_53 : px_cod 229 53 = some (.iaload, 1, [], 0) := rfl
theorem k229_54 : px_cod 229 54 = some ((.if_icmp .ge 64), 3, [118], 0) := rfl
theorem k229_57 : px_cod 229 57 = some ((.aload_n 0), 1, [], 0) := rfl
theorem k229_58 : px_cod 229 58 = some ((.iload_n 1), 1, [], 1) := rfl
theorem k229_59 : px_cod 229 59 = some ((.aload_n 0), 1, [], 0) := rfl
theorem k229_60 : px_cod 229 60 = some ((.getfield 7), 3, [187, 12, 4, 1], 3) := rfl
theorem k229_63 : px_cod 229 63 = some ((.sipush 280), 3, [], 280) := rfl
theorem k229_66 : px_cod 229 66 = some ((.iconst 3), 1, [], 3) := rfl
theorem k229_67 : px_cod 229 67 = some ((.iload_n 2), 1, [], 2) := rfl
theorem k229_68 : px_cod 229 68 = some (.imul, 1, [], 0) := rfl
theorem k229_69 : px_cod 229 69 = some (.iadd, 1, [], 0) := rfl
theorem k229_70 : px_cod 229 70 = some (.iaload, 1, [], 0) := rfl
theorem k229_71 : px_cod 229 71 = some ((.invokevirtual 384), 3, [0, 260, 197], 0) := rfl
theorem k229_74 : px_cod 229 74 = some ((.aload_n 0), 1, [], 0) := rfl
theorem k229_75 : px_cod 229 75 = some ((.getfield 73), 3, [222, 12, 4, 1], 38) := rfl
theorem k229_78 : px_cod 229 78 = some ((.aload_n 0), 1, [], 0) := rfl
theorem k229_79 : px_cod 229 79 = some ((.getfield 7), 3, [187, 12, 4, 1], 3) := rfl
theorem k229_82 : px_cod 229 82 = some ((.sipush 280), 3, [], 280) := rfl
theorem k229_85 : px_cod 229 85 = some ((.iconst 3), 1, [], 3) := rfl
theorem k229_86 : px_cod 229 86 = some ((.iload_n 2), 1, [], 2) := rfl
theorem k229_87 : px_cod 229 87 = some (.imul, 1, [], 0) := rfl
theorem k229_88 : px_cod 229 88 = some (.iadd, 1, [], 0) := rfl
theorem k229_89 : px_cod 229 89 = some ((.iconst 1), 1, [], 1) := rfl
theorem k229_90 : px_cod 229 90 = some (.iadd, 1, [], 0) := rfl
theorem k229_91 : px_cod 229 91 = some (.iaload, 1, [], 0) := rfl
theorem k229_92 : px_cod 229 92 = some (.iaload, 1, [], 0) := rfl
theorem k229_93 : px_cod 229 93 = some ((.aload_n 0), 1, [], 0) := rfl
theorem k229_94 : px_cod 229 94 = some ((.getfield 7), 3, [187, 12, 4, 1], 3) := rfl
theorem k229_97 : px_cod 229 97 = some ((.sipush 280), 3, [], 280) := rfl
theorem k229_100 : px_cod 229 100 = some ((.iconst 3), 1, [], 3) := rfl
theorem k229_101 : px_cod 229 101 = some ((.iload_n 2), 1, [], 2) := rfl
theorem k229_102 : px_cod 229 102 = some (.imul, 1, [], 0) := rfl
theorem k229_103 : px_cod 229 103 = some (.iadd, 1, [], 0) := rfl
theorem k229_104 : px_cod 229 104 = some ((.iconst 2), 1, [], 2) := rfl
theorem k229_105 : px_cod 229 105 = some (.iadd, 1, [], 0) := rfl
theorem k229_106 : px_cod 229 106 = some (.iaload, 1, [], 0) := rfl
theorem k229_107 : px_cod 229 107 = some ((.if_icmp .eq 5), 3, [112], 0) := rfl
theorem k229_110 : px_cod 229 110 = some ((.iconst 0), 1, [], 0) := rfl
theorem k229_111 : px_cod 229 111 = some (.ireturn, 1, [], 0) := rfl
theorem k229_112 : px_cod 229 112 = some ((.iinc 2 1), 3, [2], 1) := rfl
theorem k229_115 : px_cod 229 115 = some ((.goto (-69)), 3, [46], 0) := rfl
theorem k229_118 : px_cod 229 118 = some ((.iconst 1), 1, [], 1) := rfl
theorem k229_119 : px_cod 229 119 = some (.ireturn, 1, [], 0) := rfl
theorem k230_0 : px_cod 230 0 = some ((.iload_n 1), 1, [], 1) := rfl
theorem k230_1 : px_cod 230 1 = some ((.iconst 0), 1, [], 0) := rfl
theorem k230_2 : px_cod 230 2 = some ((.iconst 3), 1, [], 3) := rfl
theorem k230_3 : px_cod 230 3 = some ((.invokestatic 138), 3, [0, 209, 141], 0) := rfl
theorem k230_6 : px_cod 230 6 = some ((.ifCond .ne 5), 3, [11], 0) := rfl
theorem k230_9 : px_cod 230 9 = some ((.iconst (-1)), 1, [], (-1)) := rfl
theorem k230_10 : px_cod 230 10 = some (.ireturn, 1, [], 0) := rfl
theorem k230_11 : px_cod 230 11 = some ((.iconst 0), 1, [], 0) := rfl
theorem k230_12 : px_cod 230 12 = some ((.istore_n 2), 1, [], 2) := rfl
theorem k230_13 : px_cod 230 13 = some ((.iconst 0), 1, [], 0) := rfl
theorem k230_14 : px_cod 230 14 = some ((.istore_n 3), 1, [], 3) := rfl
theorem k230_15 : px_cod 230 15 = some ((.iconst 0), 1, [], 0) := rfl
theorem k230_16 : px_cod 230 16 = some ((.istore 4), 2, [], 4) := rfl
theorem k230_18 : px_cod 230 18 = some ((.iconst 0), 1, [], 0) := rfl
theorem k230_19 : px_cod 230 19 = some ((.istore 5), 2, [], 5) := rfl
theorem k230_21 : px_cod 230 21 = some ((.iconst 0), 1, [], 0) := rfl
theorem k230_22 : px_cod 230 22 = some ((.istore 6), 2, [], 6) := rfl
theorem k230_24 : px_cod 230 24 = some ((.iload 6), 2, [], 6) := rfl
theorem k230_26 : px_cod 230 26 = some ((.iconst 1), 1, [], 1) := rfl
theorem k230_27 : px_cod 230 27 = some ((.aload_n 0), 1, [], 0) := rfl
theorem k230_28 : px_cod 230 28 = some ((.getfield 7), 3, [187, 12, 4, 1], 3) := rfl
theorem k230_31 : px_cod 230 31 = some ((.iconst 4), 1, [], 4) := rfl
theorem k230_32 : px_cod 230 32 = some (.iaload, 1, [], 0) := rfl
theorem k230_33 : px_cod 230 33 = some (.ishl, 1, [], 0) := rfl
theorem k230_34 : px_cod 230 34 = some ((.if_icmp .ge 55), 3, [89], 0) := rfl
theorem k230_37 : px_cod 230 37 = some ((.aload_n 0), 1, [], 0) := rfl
theorem k230_38 : px_cod 230 38 = some ((.iload 6), 2, [], 6) := rfl
theorem k230_40 : px_cod 230 40 = some ((.invokevirtual 448), 3, [0, 295, 229], 0) := rfl
theorem k230_43 : px_cod 230 43 = some ((.ifCond .eq 40), 3, [83], 0) := rfl
theorem k230_46 : px_cod 230 46 = some ((.iload_n 2), 1, [], 2) := rfl
theorem k230_47 : px_cod 230 47 = some ((.ifCond .ne 8), 3, [55], 0) := rfl
theorem k230_50 : px_cod 230 50 = some ((.iload 6), 2, [], 6) := rfl
theorem k230_52 : px_cod 230 52 = some ((.goto 4), 3, [56], 0) := rfl
theorem k230_55 : px_cod 230 55 = some ((.iload_n 3), 1, [], 3) := rfl
theorem k230_56 : px_cod 230 56 = some ((.istore_n 3), 1, [], 3) := rfl
theorem k230_57 : px_cod 230 57 = some ((.iload_n 2), 1, [], 2) := rfl
theorem k230_58 : px_cod 230 58 = some ((.ifCond .ne 8), 3, [66], 0) := rfl
theorem k230_61 : px_cod 230 61 = some ((.iload 6), 2, [], 6) := rfl
theorem k230_63 : px_cod 230 63 = some ((.goto 8), 3, [71], 0) := rfl
theorem k230_66 : px_cod 230 66 = some ((.iload 4), 2, [], 4) := rfl
theorem k230_68 : px_cod 230 68 = some ((.iload 6), 2, [], 6) := rfl
theorem k230_70 : px_cod 230 70 = some (.iand, 1, [], 0) := rfl
theorem k230_71 : px_cod 230 71 = some ((.istore 4), 2, [], 4) := rfl
theorem k230_73 : px_cod 230 73 = some ((.iload 5), 2, [], 5) := rfl
theorem k230_75 : px_cod 230 75 = some ((.iload 6), 2, [], 6) := rfl
theorem k230_77 : px_cod 230 77 = some (.ior, 1, [], 0) := rfl
theorem k230_78 : px_cod 230 78 = some ((.istore 5), 2, [], 5) := rfl
theorem k230_80 : px_cod 230 80 = some ((.iinc 2 1), 3, [2], 1) := rfl
theorem k230_83 : px_cod 230 83 = some ((.iinc 6 1), 3, [6], 1) := rfl
theorem k230_86 : px_cod 230 86 = some ((.goto (-62)), 3, [24], 0) := rfl
theorem k230_89 : px_cod 230 89 = some ((.iload_n 1), 1, [], 1) := rfl
theorem k230_90 : px_cod 230 90 = some ((.ifCond .ne 7), 3, [97], 0) := rfl
theorem k230_93 : px_cod 230 93 = some ((.iload_n 2), 1, [], 2) := rfl
theorem k230_94 : px_cod 230 94 = some ((.goto 24), 3, [118], 0) := rfl
theorem k230_97 : px_cod 230 97 = some ((.iload_n 1), 1, [], 1) := rfl
theorem k230_98 : px_cod 230 98 = some ((.iconst 1), 1, [], 1) := rfl
theorem k230_99 : px_cod 230 99 = some ((.if_icmp .ne 7), 3, [106], 0) := rfl
theorem k230_102 : px_cod 230 102 = some ((.iload_n 3), 1, [], 3) := rfl
theorem k230_103 : px_cod 230 103 = some ((.goto 15), 3, [118], 0) := rfl
theorem k230_106 : px_cod 230 106 = some ((.iload_n 1), 1, [], 1) := rfl
theorem k230_107 : px_cod 230 107 = some ((.iconst 2), 1, [], 2) := rfl
theorem k230_108 : px_cod 230 108 = some ((.if_icmp .ne 8), 3, [116], 0) := rfl
theorem k230_111 : px_cod 230 111 = some ((.iload 4), 2, [], 4) := rfl
theorem k230_113 : px_cod 230 113 = some ((.goto 5), 3, [118], 0) := rfl
theorem k230_116 : px_cod 230 116 = some ((.iload 5), 2, [], 5) := rfl
theorem k230_118 : px_cod 230 118 = some (.ireturn, 1, [], 0) := rfl
theorem k231_0 : px_cod 231 0 = some ((.aload_n 0), 1, [], 0) := rfl
theorem k231_1 : px_cod 231 1 = some ((.getfield 451), 3, [239, 12, 0, 0], 55) := rfl
theorem k231_4 : px_cod 231 4 = some ((.iload_n 1), 1, [], 1) := rfl
theorem k231_5 : px_cod 231 5 = some (.irem, 1, [], 0) := rfl
theorem k231_6 : px_cod 231 6 = some ((.istore_n 2), 1, [], 2) := rfl
theorem k231_7 : px_cod 231 7 = some ((.aload_n 0), 1, [], 0) := rfl
theorem k231_8 : px_cod 231 8 = some ((.aload_n 0), 1, [], 0) := rfl
theorem k231_9 : px_cod 231 9 = some ((.getfield 451), 3, [239, 12, 0, 0], 55) := rfl
theorem k231_12 : px_cod 231 12 = some ((.sipush 143), 3, [], 143) := rfl
theorem k231_15 : px_cod 231 15 = some (.imul, 1, [], 0) := rfl
theorem k231_16 : px_cod 231 16 = some ((.bipush 41), 2, [], 41) := rfl
theorem k231_18 : px_cod 231 18 = some (.iadd, 1, [], 0) := rfl
theorem k231_19 : px_cod 231 19 = some ((.sipush 30103), 3, [], 30103) := rfl
theorem k231_22 : px_cod 231 22 = some (.irem, 1, [], 0) := rfl
theorem k231_23 : px_cod 231 23 = some ((.putfield 451), 3, [239, 12, 0, 0], 55) := rfl
theorem k231_26 : px_cod 231 26 = some ((.iload_n 2), 1, [], 2) := rfl
theorem k231_27 : px_cod 231 27 = some (.ireturn, 1, [], 0) := rfl
theorem k232_0 : px_cod 232 0 = some ((.iload_n 1), 1, [], 1) := rfl
theorem k232_1 : px_cod 232 1 = some ((.iconst 0), 1, [], 0) := rfl
theorem k232_2 : px_cod 232 2 = some ((.sipush 9999), 3, [], 9999) := rfl
theorem k232_5 : px_cod 232 5 = some ((.invokestatic 138), 3, [0, 209, 141], 0) := rfl
theorem k232_8 : px_cod 232 8 = some ((.ifCond .eq 13), 3, [21], 0) := rfl
theorem k232_11 : px_cod 232 11 = some ((.iload_n 2), 1, [], 2) := rfl
theorem k232_12 : px_cod 232 12 = some ((.iconst 1), 1, [], 1) := rfl
theorem k232_13 : px_cod 232 13 = some ((.bipush 60), 2, [], 60) := rfl
theorem k232_15 : px_cod 232 15 = some ((.invokestatic 138), 3, [0, 209, 141], 0) := rfl
theorem k232_18 : px_cod 232 18 = some ((.ifCond .ne 5), 3, [23], 0) := rfl
theorem k232_21 : px_cod 232 21 = some ((.iconst (-1)), 1, [], (-1)) := rfl
theorem k232_22 : px_cod 232 22 = some (.ireturn, 1, [], 0) := rfl
theorem k232_23 : px_cod 232 23 = some ((.aload_n 0), 1, [], 0) := rfl
theorem k232_24 : px_cod 232 24 = some ((.iload_n 1), 1, [], 1) := rfl
theorem k232_25 : px_cod 232 25 = some ((.bipush 7), 2, [], 7) := rfl
theorem k232_27 : px_cod 232 27 = some (.imul, 1, [], 0) := rfl
theorem k232_28 : px_cod 232 28 = some ((.iconst 3), 1, [], 3) := rfl
theorem k232_29 : px_cod 232 29 = some (.iadd, 1, [], 0) := rfl
theorem k232_30 : px_cod 232 30 = some ((.putfield 451), 3, [239, 12, 0, 0], 55) := rfl
theorem k232_33 : px_cod 232 33 = some ((.iconst 0), 1, [], 0) := rfl
theorem k232_34 : px_cod 232 34 = some ((.istore_n 3), 1, [], 3) := rfl
theorem k232_35 : px_cod 232 35 = some ((.iload_n 3), 1, [], 3) := rfl
theorem k232_36 : px_cod 232 36 = some ((.iload_n 2), 1, [], 2) := rfl
theorem k232_37 : px_cod 232 37 = some ((.if_icmp .ge 76), 3, [113], 0) := rfl
theorem k232_40 : px_cod 232 40 = some ((.aload_n 0), 1, [], 0) := rfl
theorem k232_41 : px_cod 232 41 = some ((.aload_n 0), 1, [], 0) := rfl
theorem k232_42 : px_cod 232 42 = some ((.getfield 131), 3, [186, 12, 0, 1], 2) := rfl
theorem k232_45 : px_cod 232 45 = some ((.invokevirtual 454), 3, [0, 297, 231], 0) := rfl
theorem k232_48 : px_cod 232 48 = some ((.istore 4), 2, [], 4) := rfl
theorem k232_50 : px_cod 232 50 = some ((.aload_n 0), 1, [], 0) := rfl
theorem k232_51 : px_cod 232 51 = some ((.getfield 7), 3, [187, 12, 4, 1], 3) := rfl
theorem k232_54 : px_cod 232 54 = some ((.bipush 20), 2, [], 20) := rfl
theorem k232_56 : px_cod 232 56 = some ((.iconst 2), 1, [], 2) := rfl
theorem k232_57 : px_cod 232 57 = some ((.iload 4), 2, [], 4) := rfl
theorem k232_59 : px_cod 232 59 = some (.imul, 1, [], 0) := rfl
theorem k232_60 : px_cod 232 60 = some (.iadd, 1, [], 0) := rfl
theorem k232_61 : px_cod 232 61 = some (.iaload, 1, [], 0) := rfl
theorem k232_62 : px_cod 232 62 = some ((.aload_n 0), 1, [], 0) := rfl
theorem k232_63 : px_cod 232 63 = some ((.iconst 3), 1, [], 3) := rfl
theorem k232_64 : px_cod 232 64 = some ((.invokevirtual 454), 3, [0, 297, 231], 0) := rfl
theorem k232_67 : px_cod 232 67 = some (.iadd, 1, [], 0) := rfl
theorem k232_68 : px_cod 232 68 = some ((.iconst 1), 1, [], 1) := rfl
theorem k232_69 : px_cod 232 69 = some (.isub, 1, [], 0) := rfl
theorem k232_70 : px_cod 232 70 = some ((.istore 5), 2, [], 5) := rfl
theorem k232_72 : px_cod 232 72 = some ((.aload_n 0), 1, [], 0) := rfl
theorem k232_73 : px_cod 232 73 = some ((.getfield 7), 3, [187, 12, 4, 1], 3) := rfl
theorem k232_76 : px_cod 232 76 = some ((.bipush 20), 2, [], 20) := rfl
theorem k232_78 : px_cod 232 78 = some ((.iconst 2), 1, [], 2) := rfl
theorem k232_79 : px_cod 232 79 = some ((.iload 4), 2, [], 4) := rfl
theorem k232_81 : px_cod 232 81 = some (.imul, 1, [], 0) := rfl
theorem k232_82 : px_cod 232 82 = some (.iadd, 1, [], 0) := rfl
theorem k232_83 : px_cod 232 83 = some ((.iload 5), 2, [], 5) := rfl
theorem k232_85 : px_cod 232 85 = some ((.ifCond .ge 7), 3, [92], 0) := rfl
theorem k232_88 : px_cod 232 88 = some ((.iconst 0), 1, [], 0) := rfl
theorem k232_89 : px_cod 232 89 = some ((.goto 17), 3, [106], 0) := rfl
theorem k232_92 : px_cod 232 92 = some ((.iload 5), 2, [], 5) := rfl
theorem k232_94 : px_cod 232 94 = some ((.bipush 99), 2, [], 99) := rfl
theorem k232_96 : px_cod 232 96 = some ((.if_icmp .le 8), 3, [104], 0) := rfl
theorem k232_99 : px_cod 232 99 = some ((.bipush 99), 2, [], 99) := rfl
theorem k232_101 : px_cod 232 101 = some ((.goto 5), 3, [106], 0) := rfl
theorem k232_104 : px_cod 232 104 = some ((.iload 5), 2, [], 5) := rfl
theorem k232_106 : px_cod 232 106 = some (.iastore, 1, [], 0) := rfl
theorem k232_107 : px_cod 232 107 = some ((.iinc 3 1), 3, [3], 1) := rfl
theorem k232_110 : px_cod 232 110 = some ((.goto (-75)), 3, [35], 0) := rfl
theorem k232_113 : px_cod 232 113 = some ((.iconst 0), 1, [], 0) := rfl
theorem k232_114 : px_cod 232 114 = some ((.istore_n 3), 1, [], 3) := rfl
theorem k232_115 : px_cod 232 115 = some ((.iconst 0), 1, [], 0) := rfl
theorem k232_116 : px_cod 232 116 = some ((.istore 4), 2, [], 4) := rfl
theorem k232_118 : px_cod 232 118 = some ((.iload 4), 2, [], 4) := rfl
theorem k232_120 : px_cod 232 120 = some ((.aload_n 0), 1, [], 0) := rfl
theorem k232_121 : px_cod 232 121 = some ((.getfield 131), 3, [186, 12, 0, 1], 2) := rfl
theorem k232_124 : px_cod 232 124 = some ((.if_icmp .ge 24), 3, [148], 0) := rfl
theorem k232_127 : px_cod 232 127 = some ((.iload_n 3), 1, [], 3) := rfl
theorem k232_128 : px_cod 232 128 = some ((.aload_n 0), 1, [], 0) := rfl
theorem k232_129 : px_cod 232 129 = some ((.getfield 7), 3, [187, 12, 4, 1], 3) := rfl
theorem k232_132 : px_cod 232 132 = some ((.bipush 20), 2, [], 20) := rfl
theorem k232_134 : px_cod 232 134 = some ((.iconst 2), 1, [], 2) := rfl
theorem k232_135 : px_cod 232 135 = some ((.iload 4), 2, [], 4) := rfl
theorem k232_137 : px_cod 232 137 = some (.imul, 1, [], 0) := rfl
theorem k232_138 : px_cod 232 138 = some (.iadd, 1, [], 0) := rfl
theorem k232_139 : px_cod 232 139 = some (.iaload, 1, [], 0) := rfl
theorem k232_140 : px_cod 232 140 = some (.iadd, 1, [], 0) := rfl
theorem k232_141 : px_cod 232 141 = some ((.istore_n 3), 1, [], 3) := rfl
theorem k232_142 : px_cod 232 142 = some ((.iinc 4 1), 3, [4], 1) := rfl
theorem k232_145 : px_cod 232 145 = some ((.goto (-27)), 3, [118], 0) := rfl
theorem k232_148 : px_cod 232 148 = some ((.iload_n 3), 1, [], 3) := rfl
theorem k232_149 : px_cod 232 149 = some (.ireturn, 1, [], 0) := rfl
theorem k233_0 : px_cod 233 0 = some ((.aload_n 0), 1, [], 0) := rfl
theorem k233_1 : px_cod 233 1 = some ((.iconst 1), 1, [], 1) := rfl
theorem k233_2 : px_cod 233 2 = some ((.invokevirtual 134), 3, [0, 206, 142], 0) := rfl
theorem k233_5 : px_cod 233 5 = some ((.aload_n 0), 1, [], 0) := rfl
theorem k233_6 : px_cod 233 6 = some ((.getfield 7), 3, [187, 12, 4, 1], 3) := rfl
theorem k233_9 : px_cod 233 9 = some ((.iconst 4), 1, [], 4) := rfl
theorem k233_10 : px_cod 233 10 = some (.iaload, 1, [], 0) := rfl
theorem k233_11 : px_cod 233 11 = some (.ireturn, 1, [], 0) := rfl
theorem k234_0 : px_cod 234 0 = some ((.aload_n 0), 1, [], 0) := rfl
theorem k234_1 : px_cod 234 1 = some ((.iconst 0), 1, [], 0) := rfl
theorem k234_2 : px_cod 234 2 = some ((.invokevirtual 134), 3, [0, 206, 142], 0) := rfl
theorem k234_5 : px_cod 234 5 = some ((.aload_n 0), 1, [], 0) := rfl
theorem k234_6 : px_cod 234 6 = some ((.getfield 7), 3, [187, 12, 4, 1], 3) := rfl
theorem k234_9 : px_cod 234 9 = some ((.iconst 4), 1, [], 4) := rfl
theorem k234_10 : px_cod 234 10 = some (.iaload, 1, [], 0) := rfl
theorem k234_11 : px_cod 234 11 = some (.ireturn, 1, [], 0) := rfl
theorem k235_0 : px_cod 235 0 = some ((.iload_n 1), 1, [], 1) := rfl
theorem k235_1 : px_cod 235 1 = some ((.tableswitch 144 0 11 #[63, 68, 73, 80, 87, 94, 101, 108, 115, 123, 131, 139]), 63, [145, 64, 69, 74, 81, 88, 95, 102, 109, 116, 124, 132, 140], 0) := rfl
theorem k235_64 : px_cod 235 64 = some ((.aload_n 0), 1, [], 0) := rfl
theorem k235_65 : px_cod 235 65 = some ((.getfield 125), 3, [184, 12, 0, 1], 0) := rfl
theorem k235_68 : px_cod 235 68 = some (.ireturn, 1, [], 0) := rfl
theorem k235_69 : px_cod 235 69 = some ((.aload_n 0), 1, [], 0) := rfl
theorem k235_70 : px_cod 235 70 = some ((.getfield 128), 3, [185, 12, 0, 1], 1) := rfl
theorem k235_73 : px_cod 235 73 = some (.ireturn, 1, [], 0) := rfl
theorem k235_74 : px_cod 235 74 = some ((.aload_n 0), 1, [], 0) := rfl
theorem k235_75 : px_cod 235 75 = some ((.getfield 7), 3, [187, 12, 4, 1], 3) := rfl
theorem k235_78 : px_cod 235 78 = some ((.iconst 0), 1, [], 0) := rfl
theorem k235_79 : px_cod 235 79 = some (.iaload, 1, [], 0) := rfl
theorem k235_80 : px_cod 235 80 = some (.ireturn, 1, [], 0) := rfl
theorem k235_81 : px_cod 235 81 = some ((.aload_n 0), 1, [], 0) := rfl
theorem k235_82 : px_cod 235 82 = some ((.getfield 7), 3, [187, 12, 4, 1], 3) := rfl
theorem k235_85 : px_cod 235 85 = some ((.iconst 1), 1, [], 1) := rfl
theorem k235_86 : px_cod 235 86 = some (.iaload, 1, [], 0) := rfl
theorem k235_87 : px_cod 235 87 = some (.ireturn, 1, [], 0) := rfl
theorem k235_88 : px_cod 235 88 = some ((.aload_n 0), 1, [], 0) := rfl
theorem k235_89 : px_cod 235 89 = some ((.getfield 7), 3, [187, 12, 4, 1], 3) := rfl
theorem k235_92 : px_cod 235 92 = some ((.iconst 2), 1, [], 2) := rfl
theorem k235_93 : px_cod 235 93 = some (.iaload, 1, [], 0) := rfl
theorem k235_94 : px_cod 235 94 = some (.ireturn, 1, [], 0) := rfl
theorem k235_95 : px_cod 235 95 = some ((.aload_n 0), 1, [], 0) := rfl
theorem k235_96 : px_cod 235 96 = some ((.getfield 7), 3, [187, 12, 4, 1], 3) := rfl
theorem k235_99 : px_cod 235 99 = some ((.iconst 3), 1, [], 3) := rfl
theorem k235_100 : px_cod 235 100 = some (.iaload, 1, [], 0) := rfl
theorem k235_101 : px_cod 235 101 = some (.ireturn, 1, [], 0) := rfl
theorem k235_102 : px_cod 235 102 = some ((.aload_n 0), 1, [], 0) := rfl
theorem k235_103 : px_cod 235 103 = some ((.getfield 7), 3, [187, 12, 4, 1], 3) := rfl
theorem k235_106 : px_cod 235 106 = some ((.iconst 4), 1, [], 4) := rfl
theorem k235_107 : px_cod 235 107 = some (.iaload, 1, [], 0) := rfl
theorem k235_108 : px_cod 235 108 = some (.ireturn, 1, [], 0) := rfl
theorem k235_109 : px_cod 235 109 = some ((.aload_n 0), 1, [], 0) := rfl
theorem k235_110 : px_cod 235 110 = some ((.getfield 7), 3, [187, 12, 4, 1], 3) := rfl
theorem k235_113 : px_cod 235 113 = some ((.iconst 5), 1, [], 5) := rfl
theorem k235_114 : px_cod 235 114 = some (.iaload, 1, [], 0) := rfl
theorem k235_115 : px_cod 235 115 = some (.ireturn, 1, [], 0) := rfl
theorem k235_116 : px_cod 235 116 = some ((.aload_n 0), 1, [], 0) := rfl
theorem k235_117 : px_cod 235 117 = some ((.getfield 7), 3, [187, 12, 4, 1], 3) := rfl
theorem k235_120 : px_cod 235 120 = some ((.bipush 6), 2, [], 6) := rfl
theorem k235_122 : px_cod 235 122 = some (.iaload, 1, [], 0) := rfl
theorem k235_123 : px_cod 235 123 = some (.ireturn, 1, [], 0) := rfl
theorem k235_124 : px_cod 235 124 = some ((.aload_n 0), 1, [], 0) := rfl
theorem k235_125 : px_cod 235 125 = some ((.getfield 7), 3, [187, 12, 4, 1], 3) := rfl
theorem k235_128 : px_cod 235 128 = some ((.bipush 7), 2, [], 7) := rfl
theorem k235_130 : px_cod 235 130 = some (.iaload, 1, [], 0) := rfl
theorem k235_131 : px_cod 235 131 = some (.ireturn, 1, [], 0) := rfl
theorem k235_132 : px_cod 235 132 = some ((.aload_n 0), 1, [], 0) := rfl
theorem k235_133 : px_cod 235 133 = some ((.getfield 7), 3, [187, 12, 4, 1], 3) := rfl
theorem k235_136 : px_cod 235 136 = some ((.bipush 8), 2, [], 8) := rfl
theorem k235_138 : px_cod 235 138 = some (.iaload, 1, [], 0) := rfl
theorem k235_139 : px_cod 235 139 = some (.ireturn, 1, [], 0) := rfl
theorem k235_140 : px_cod 235 140 = some ((.aload_n 0), 1, [], 0) := rfl
theorem k235_141 : px_cod 235 141 = some ((.getfield 149), 3, [190, 12, 0, 0], 6) := rfl
theorem k235_144 : px_cod 235 144 = some (.ireturn, 1, [], 0) := rfl
theorem k235_145 : px_cod 235 145 = some ((.iload_n 1), 1, [], 1) := rfl
theorem k235_146 : px_cod 235 146 = some ((.bipush 20), 2, [], 20) := rfl
theorem k235_148 : px_cod 235 148 = some ((.if_icmp .lt 55), 3, [203], 0) := rfl
theorem k235_151 : px_cod 235 151 = some ((.iload_n 1), 1, [], 1) := rfl
theorem k235_152 : px_cod 235 152 = some ((.bipush 40), 2, [], 40) := rfl
theorem k235_154 : px_cod 235 154 = some ((.if_icmp .ge 49), 3, [203], 0) := rfl
theorem k235_157 : px_cod 235 157 = some ((.iload_n 1), 1, [], 1) := rfl
theorem k235_158 : px_cod 235 158 = some ((.bipush 10), 2, [], 10) := rfl
theorem k235_160 : px_cod 235 160 = some (.irem, 1, [], 0) := rfl
theorem k235_161 : px_cod 235 161 = some ((.iconst 0), 1, [], 0) := rfl
theorem k235_162 : px_cod 235 162 = some ((.aload_n 0), 1, [], 0) := rfl
theorem k235_163 : px_cod 235 163 = some ((.getfield 7), 3, [187, 12, 4, 1], 3) := rfl
theorem k235_166 : px_cod 235 166 = some ((.iconst 3), 1, [], 3) := rfl
theorem k235_167 : px_cod 235 167 = some (.iaload, 1, [], 0) := rfl
theorem k235_168 : px_cod 235 168 = some ((.iconst 1), 1, [], 1) := rfl
theorem k235_169 : px_cod 235 169 = some (.isub, 1, [], 0) := rfl
theorem k235_170 : px_cod 235 170 = some ((.invokestatic 138), 3, [0, 209, 141], 0) := rfl
theorem k235_173 : px_cod 235 173 = some ((.ifCond .eq 30), 3, [203], 0) := rfl
theorem k235_176 : px_cod 235 176 = some ((.aload_n 0), 1, [], 0) := rfl
theorem k235_177 : px_cod 235 177 = some ((.getfield 7), 3, [187, 12, 4, 1], 3) := rfl
theorem k235_180 : px_cod 235 180 = some ((.bipush 100), 2, [], 100) := rfl
theorem k235_182 : px_cod 235 182 = some ((.iconst 2), 1, [], 2) := rfl
theorem k235_183 : px_cod 235 183 = some ((.iload_n 1), 1, [], 1) := rfl
theorem k235_184 : px_cod 235 184 = some ((.bipush 10), 2, [], 10) := rfl
theorem k235_186 : px_cod 235 186 = some (.irem, 1, [], 0) := rfl
theorem k235_187 : px_cod 235 187 = some (.imul, 1, [], 0) := rfl
theorem k235_188 : px_cod 235 188 = some (.iadd, 1, [], 0) := rfl
theorem k235_189 : px_cod 235 189 = some ((.iload_n 1), 1, [], 1) := rfl
theorem k235_190 : px_cod 235 190 = some ((.bipush 30), 2, [], 30) := rfl
theorem k235_192 : px_cod 235 192 = some ((.if_icmp .ge 7), 3, [199], 0) := rfl
theorem k235_195 : px_cod 235 195 = some ((.iconst 0), 1, [], 0) := rfl
theorem k235_196 : px_cod 235 196 = some ((.goto 4), 3, [200], 0) := rfl
theorem k235_199 : px_cod 235 199 = some ((.iconst 1), 1, [], 1) := rfl
theorem k235_200 : px_cod 235 200 = some (.iadd, 1, [], 0) := rfl
theorem k235_201 : px_cod 235 201 = some (.iaload, 1, [], 0) := rfl
theorem k235_202 : px_cod 235 202 = some (.ireturn, 1, [], 0) := rfl
theorem k235_203 : px_cod 235 203 = some ((.iload_n 1), 1, [], 1) := rfl
theorem k235_204 : px_cod 235 204 = some ((.bipush 40), 2, [], 40) := rfl
theorem k235_206 : px_cod 235 206 = some ((.if_icmp .lt 52), 3, [258], 0) := rfl
theorem k235_209 : px_cod 235 209 = some ((.iload_n 1), 1, [], 1) := rfl
theorem k235_210 : px_cod 235 210 = some ((.bipush 70), 2, [], 70) := rfl
theorem k235_212 : px_cod 235 212 = some ((.if_icmp .ge 46), 3, [258], 0) := rfl
theorem k235_215 : px_cod 235 215 = some ((.aload_n 0), 1, [], 0) := rfl
theorem k235_216 : px_cod 235 216 = some ((.iload_n 1), 1, [], 1) := rfl
theorem k235_217 : px_cod 235 217 = some ((.bipush 10), 2, [], 10) := rfl
theorem k235_219 : px_cod 235 219 = some (.irem, 1, [], 0) := rfl
theorem k235_220 : px_cod 235 220 = some ((.invokevirtual 146), 3, [0, 215, 144], 0) := rfl
theorem k235_223 : px_cod 235 223 = some ((.ifCond .eq 35), 3, [258], 0) := rfl
theorem k235_226 : px_cod 235 226 = some ((.aload_n 0), 1, [], 0) := rfl
theorem k235_227 : px_cod 235 227 = some ((.iload_n 1), 1, [], 1) := rfl
theorem k235_228 : px_cod 235 228 = some ((.bipush 10), 2, [], 10) := rfl
theorem k235_230 : px_cod 235 230 = some (.irem, 1, [], 0) := rfl
theorem k235_231 : px_cod 235 231 = some ((.iload_n 1), 1, [], 1) := rfl
theorem k235_232 : px_cod 235 232 = some ((.bipush 50), 2, [], 50) := rfl
theorem k235_234 : px_cod 235 234 = some ((.if_icmp .ge 7), 3, [241], 0) := rfl
theorem k235_237 : px_cod 235 237 = some ((.iconst 0), 1, [], 0) := rfl
theorem k235_238 : px_cod 235 238 = some ((.goto 16), 3, [254], 0) := rfl
theorem k235_241 : px_cod 235 241 = some ((.iload_n 1), 1, [], 1) := rfl
theorem k235_242 : px_cod 235 242 = some ((.bipush 60), 2, [], 60) := rfl
theorem k235_244 : px_cod 235 244 = some ((.if_icmp .ge 8), 3, [252], 0) := rfl
theorem k235_247 : px_cod 235 247 = some ((.bipush 7), 2, [], 7) := rfl
theorem k235_249 : px_cod 235 249 = some ((.goto 5), 3, [254], 0) := rfl
theorem k235_252 : px_cod 235 252 = some ((.bipush 8), 2, [], 8) := rfl
theorem k235_254 : px_cod 235 254 = some ((.invokevirtual 364), 3, [0, 258, 146], 0) := rfl
theorem k235_257 : px_cod 235 257 = some (.ireturn, 1, [], 0) := rfl
theorem k235_258 : px_cod 235 258 = some ((.iload_n 1), 1, [], 1) := rfl
theorem k235_259 : px_cod 235 259 = some ((.bipush 100), 2, [], 100) := rfl
theorem k235_261 : px_cod 235 261 = some ((.if_icmp .lt 29), 3, [290], 0) := rfl
theorem k235_264 : px_cod 235 264 = some ((.aload_n 0), 1, [], 0) := rfl
theorem k235_265 : px_cod 235 265 = some ((.iload_n 1), 1, [], 1) := rfl
theorem k235_266 : px_cod 235 266 = some ((.bipush 100), 2, [], 100) := rfl
theorem k235_268 : px_cod 235 268 = some (.isub, 1, [], 0) := rfl
theorem k235_269 : px_cod 235 269 = some ((.invokevirtual 142), 3, [0, 208, 143], 0) := rfl
theorem k235_272 : px_cod 235 272 = some ((.ifCond .eq 18), 3, [290], 0) := rfl
theorem k235_275 : px_cod 235 275 = some ((.aload_n 0), 1, [], 0) := rfl
theorem k235_276 : px_cod 235 276 = some ((.getfield 7), 3, [187, 12, 4, 1], 3) := rfl
theorem k235_279 : px_cod 235 279 = some ((.bipush 20), 2, [], 20) := rfl
theorem k235_281 : px_cod 235 281 = some ((.iconst 2), 1, [], 2) := rfl
theorem k235_282 : px_cod 235 282 = some ((.iload_n 1), 1, [], 1) := rfl
theorem k235_283 : px_cod 235 283 = some ((.bipush 100), 2, [], 100) := rfl
theorem k235_285 : px_cod 235 285 = some (.isub, 1, [], 0) := rfl
theorem k235_286 : px_cod 235 286 = some (.imul, 1, [], 0) := rfl
theorem k235_287 : px_cod 235 287 = some (.iadd, 1, [], 0) := rfl
theorem k235_288 : px_cod 235 288 = some (.iaload, 1, [], 0) := rfl
theorem k235_289 : px_cod 235 289 = some (.ireturn, 1, [], 0) := rfl
theorem k235_290 : px_cod 235 290 = some ((.iload_n 1), 1, [], 1) := rfl
theorem k235_291 : px_cod 235 291 = some ((.sipush 200), 3, [], 200) := rfl
theorem k235_294 : px_cod 235 294 = some ((.if_icmp .lt 35), 3, [329], 0) := rfl
theorem k235_297 : px_cod 235 297 = some ((.aload_n 0), 1, [], 0) := rfl
theorem k235_298 : px_cod 235 298 = some ((.iload_n 1), 1, [], 1) := rfl
theorem k235_299 : px_cod 235 299 = some ((.sipush 200), 3, [], 200) := rfl
theorem k235_302 : px_cod 235 302 = some (.isub, 1, [], 0) := rfl
theorem k235_303 : px_cod 235 303 = some ((.invokevirtual 142), 3, [0, 208, 143], 0) := rfl
theorem k235_306 : px_cod 235 306 = some ((.ifCond .eq 23), 3, [329], 0) := rfl
theorem k235_309 : px_cod 235 309 = some ((.aload_n 0), 1, [], 0) := rfl
theorem k235_310 : px_cod 235 310 = some ((.getfield 7), 3, [187, 12, 4, 1], 3) := rfl
theorem k235_313 : px_cod 235 313 = some ((.bipush 20), 2, [], 20) := rfl
theorem k235_315 : px_cod 235 315 = some ((.iconst 2), 1, [], 2) := rfl
theorem k235_316 : px_cod 235 316 = some ((.iload_n 1), 1, [], 1) := rfl
theorem k235_317 : px_cod 235 317 = some ((.sipush 200), 3, [], 200) := rfl
theorem k235_320 : px_cod 235 320 = some (.isub, 1, [], 0) := rfl
theorem k235_321 : px_cod 235 321 = some (.imul, 1, [], 0) := rfl
theorem k235_322 : px_cod 235 322 = some (.iadd, 1, [], 0) := rfl
theorem k235_323 : px_cod 235 323 = some ((.iconst 1), 1, [], 1) := rfl
theorem k235_324 : px_cod 235 324 = some (.iadd, 1, [], 0) := rfl
theorem k235_325 : px_cod 235 325 = some (.iaload, 1, [], 0) := rfl
theorem k235_326 : px_cod 235 326 = some ((.goto 6), 3, [332], 0) := rfl
theorem k235_329 : px_cod 235 329 = some ((.sipush (-1000)), 3, [], (-1000)) := rfl
theorem k235_332 : px_cod 235 332 = some (.ireturn, 1, [], 0) := rfl
theorem k236_0 : px_cod 236 0 = some ((.iload_n 1), 1, [], 1) := rfl
theorem k236_1 : px_cod 236 1 = some ((.aload_n 0), 1, [], 0) := rfl
theorem k236_2 : px_cod 236 2 = some (.arraylength, 1, [], 0) := rfl
theorem k236_3 : px_cod 236 3 = some ((.if_icmp .ge 9), 3, [12], 0) := rfl
theorem k236_6 : px_cod 236 6 = some ((.aload_n 0), 1, [], 0) := rfl
theorem k236_7 : px_cod 236 7 = some ((.iload_n 1), 1, [], 1) := rfl
theorem k236_8 : px_cod 236 8 = some (.iaload, 1, [], 0) := rfl
theorem k236_9 : px_cod 236 9 = some ((.goto 4), 3, [13], 0) := rfl
theorem k236_12 : px_cod 236 12 = some ((.iconst 0), 1, [], 0) := rfl
theorem k236_13 : px_cod 236 13 = some (.ireturn, 1, [], 0) := rfl
theorem k237_0 : px_cod 237 0 = some ((.iload_n 0), 1, [], 0) := rfl
theorem k237_1 : px_cod 237 1 = some ((.iload_n 0), 1, [], 0) := rfl
theorem k237_2 : px_cod 237 2 = some ((.iconst 1), 1, [], 1) := rfl
theorem k237_3 : px_cod 237 3 = some (.iushr, 1, [], 0) := rfl
theorem k237_4 : px_cod 237 4 = some ((.ldc_w 265), 3, [0, 11], 1431655765) := rfl
theorem k237_7 : px_cod 237 7 = some (.iand, 1, [], 0) := rfl
theorem k237_8 : px_cod 237 8 = some (.isub, 1, [], 0) := rfl
theorem k237_9 : px_cod 237 9 = some ((.istore_n 0), 1, [], 0) := rfl
theorem k237_10 : px_cod 237 10 = some ((.iload_n 0), 1, [], 0) := rfl
theorem k237_11 : px_cod 237 11 = some ((.ldc_w 266), 3, [0, 12], 858993459) := rfl
theorem k237_14 : px_cod 237 14 = some (.iand, 1, [], 0) := rfl
theorem k237_15 : px_cod 237 15 = some ((.iload_n 0), 1, [], 0) := rfl
theorem k237_16 : px_cod 237 16 = some ((.iconst 2), 1, [], 2) := rfl
theorem k237_17 : px_cod 237 17 = some (.iushr, 1, [], 0) := rfl
theorem k237_18 : px_cod 237 18 = some ((.ldc_w 266), 3, [0, 12], 858993459) := rfl
theorem k237_21 : px_cod 237 21 = some (.iand, 1, [], 0) := rfl
theorem k237_22 : px_cod 237 22 = some (.iadd, 1, [], 0) := rfl
theorem k237_23 : px_cod 237 23 = some ((.istore_n 0), 1, [], 0) := rfl
theorem k237_24 : px_cod 237 24 = some ((.iload_n 0), 1, [], 0) := rfl
theorem k237_25 : px_cod 237 25 = some ((.iload_n 0), 1, [], 0) := rfl
theorem k237_26 : px_cod 237 26 = some ((.iconst 4), 1, [], 4) := rfl
theorem k237_27 : px_cod 237 27 = some (.iushr, 1, [], 0) := rfl
theorem k237_28 : px_cod 237 28 = some (.iadd, 1, [], 0) := rfl
theorem k237_29 : px_cod 237 29 = some ((.ldc_w 267), 3, [0, 13], 252645135) := rfl
theorem k237_32 : px_cod 237 32 = some (.iand, 1, [], 0) := rfl
theorem k237_33 : px_cod 237 33 = some ((.istore_n 0), 1, [], 0) := rfl
theorem k237_34 : px_cod 237 34 = some ((.iload_n 0), 1, [], 0) := rfl
theorem k237_35 : px_cod 237 35 = some ((.iload_n 0), 1, [], 0) := rfl
theorem k237_36 : px_cod 237 36 = some ((.bipush 8), 2, [], 8) := rfl
theorem k237_38 : px_cod 237 38 = some (.iushr, 1, [], 0) := rfl
theorem k237_39 : px_cod 237 39 = some (.iadd, 1, [], 0) := rfl
theorem k237_40 : px_cod 237 40 = some ((.istore_n 0), 1, [], 0) := rfl
theorem k237_41 : px_cod 237 41 = some ((.iload_n 0), 1, [], 0) := rfl
theorem k237_42 : px_cod 237 42 = some ((.iload_n 0), 1, [], 0) := rfl
theorem k237_43 : px_cod 237 43 = some ((.bipush 16), 2, [], 16) := rfl
theorem k237_45 : px_cod 237 45 = some (.iushr, 1, [], 0) := rfl
theorem k237_46 : px_cod 237 46 = some (.iadd, 1, [], 0) := rfl
theorem k237_47 : px_cod 237 47 = some ((.istore_n 0), 1, [], 0) := rfl
theorem k237_48 : px_cod 237 48 = some ((.iload_n 0), 1, [], 0) := rfl
theorem k237_49 : px_cod 237 49 = some ((.bipush 63), 2, [], 63) := rfl
theorem k237_51 : px_cod 237 51 = some (.iand, 1, [], 0) := rfl
theorem k237_52 : px_cod 237 52 = some (.ireturn, 1, [], 0) := rfl
theorem k238_0 : px_cod 238 0 = some ((.iload_n 0), 1, [], 0) := rfl
theorem k238_1 : px_cod 238 1 = some ((.iconst (-1)), 1, [], (-1)) := rfl
theorem k238_2 : px_cod 238 2 = some (.ixor, 1, [], 0) := rfl
theorem k238_3 : px_cod 238 3 = some ((.iload_n 0), 1, [], 0) := rfl
theorem k238_4 : px_cod 238 4 = some ((.iconst 1), 1, [], 1) := rfl
theorem k238_5 : px_cod 238 5 = some (.isub, 1, [], 0) := rfl
theorem k238_6 : px_cod 238 6 = some (.iand, 1, [], 0) := rfl
theorem k238_7 : px_cod 238 7 = some ((.istore_n 0), 1, [], 0) := rfl
theorem k238_8 : px_cod 238 8 = some ((.iload_n 0), 1, [], 0) := rfl
theorem k238_9 : px_cod 238 9 = some ((.ifCond .gt 8), 3, [17], 0) := rfl
theorem k238_12 : px_cod 238 12 = some ((.iload_n 0), 1, [], 0) := rfl
theorem k238_13 : px_cod 238 13 = some ((.bipush 32), 2, [], 32) := rfl
theorem k238_15 : px_cod 238 15 = some (.iand, 1, [], 0) := rfl
theorem k238_16 : px_cod 238 16 = some (.ireturn, 1, [], 0) := rfl
theorem k238_17 : px_cod 238 17 = some ((.iconst 1), 1, [], 1) := rfl
theorem k238_18 : px_cod 238 18 = some ((.istore_n 1), 1, [], 1) := rfl
theorem k238_19 : px_cod 238 19 = some ((.iload_n 0), 1, [], 0) := rfl
theorem k238_20 : px_cod 238 20 = some ((.ldc_w 264), 3, [0, 6], 65536) := rfl
theorem k238_23 : px_cod 238 23 = some ((.if_icmp .le 11), 3, [34], 0) := rfl
theorem k238_26 : px_cod 238 26 = some ((.iinc 1 16), 3, [1], 16) := rfl
theorem k238_29 : px_cod 238 29 = some ((.iload_n 0), 1, [], 0) := rfl
theorem k238_30 : px_cod 238 30 = some ((.bipush 16), 2, [], 16) := rfl
theorem k238_32 : px_cod 238 32 = some (.iushr, 1, [], 0) := rfl
theorem k238_33 : px_cod 238 33 = some ((.istore_n 0), 1, [], 0) := rfl
theorem k238_34 : px_cod 238 34 = some ((.iload_n 0), 1, [], 0) := rfl
theorem k238_35 : px_cod 238 35 = some ((.sipush 256), 3, [], 256) := rfl
theorem k238_38 : px_cod 238 38 = some ((.if_icmp .le 11), 3, [49], 0) := rfl
theorem k238_41 : px_cod 238 41 = some ((.iinc 1 8), 3, [1], 8) := rfl
theorem k238_44 : px_cod 238 44 = some ((.iload_n 0), 1, [], 0) := rfl
theorem k238_45 : px_cod 238 45 = some ((.bipush 8), 2, [], 8) := rfl
theorem k238_47 : px_cod 238 47 = some (.iushr, 1, [], 0) := rfl
theorem k238_48 : px_cod 238 48 = some ((.istore_n 0), 1, [], 0) := rfl
theorem k238_49 : px_cod 238 49 = some ((.iload_n 0), 1, [], 0) := rfl
theorem k238_50 : px_cod 238 50 = some ((.bipush 16), 2, [], 16) := rfl
theorem k238_52 : px_cod 238 52 = some ((.if_icmp .le 10), 3, [62], 0) := rfl
theorem k238_55 : px_cod 238 55 = some ((.iinc 1 4), 3, [1], 4) := rfl
theorem k238_58 : px_cod 238 58 = some ((.iload_n 0), 1, [], 0) := rfl
theorem k238_59 : px_cod 238 59 = some ((.iconst 4), 1, [], 4) := rfl
theorem k238_60 : px_cod 238 60 = some (.iushr, 1, [], 0) := rfl
theorem k238_61 : px_cod 238 61 = some ((.istore_n 0), 1, [], 0) := rfl
theorem k238_62 : px_cod 238 62 = some ((.iload_n 0), 1, [], 0) := rfl
theorem k238_63 : px_cod 238 63 = some ((.iconst 4), 1, [], 4) := rfl
theorem k238_64 : px_cod 238 64 = some ((.if_icmp .le 10), 3, [74], 0) := rfl
theorem k238_67 : px_cod 238 67 = some ((.iinc 1 2), 3, [1], 2) := rfl
theorem k238_70 : px_cod 238 70 = some ((.iload_n 0), 1, [], 0) := rfl
theorem k238_71 : px_cod 238 71 = some ((.iconst 2), 1, [], 2) := rfl
theorem k238_72 : px_cod 238 72 = some (.iushr, 1, [], 0) := rfl
theorem k238_73 : px_cod 238 73 = some ((.istore_n 0), 1, [], 0) := rfl
theorem k238_74 : px_cod 238 74 = some ((.iload_n 1), 1, [], 1) := rfl
theorem k238_75 : px_cod 238 75 = some ((.iload_n 0), 1, [], 0) := rfl
theorem k238_76 : px_cod 238 76 = some ((.iconst 1), 1, [], 1) := rfl
theorem k238_77 : px_cod 238 77 = some (.iushr, 1, [], 0) := rfl
theorem k238_78 : px_cod 238 78 = some (.iadd, 1, [], 0) := rfl
theorem k238_79 : px_cod 238 79 = some (.ireturn, 1, [], 0) := rfl
theorem k239_0 : px_cod 239 0 = some ((.lload_n 0), 1, [], 0) := rfl
theorem k239_1 : px_cod 239 1 = some ((.lload_n 0), 1, [], 0) := rfl
theorem k239_2 : px_cod 239 2 = some (.lneg, 1, [], 0) := rfl
theorem k239_3 : px_cod 239 3 = some (.land, 1, [], 0) := rfl
theorem k239_4 : px_cod 239 4 = some (.lreturn, 1, [], 0) := rfl
theorem k240_0 : px_cod 240 0 = some ((.lload_n 0), 1, [], 0) := rfl
theorem k240_1 : px_cod 240 1 = some (.l2i, 1, [], 0) := rfl
theorem k240_2 : px_cod 240 2 = some ((.istore_n 2), 1, [], 2) := rfl
theorem k240_3 : px_cod 240 3 = some ((.iload_n 2), 1, [], 2) := rfl
theorem k240_4 : px_cod 240 4 = some ((.ifCond .ne 17), 3, [21], 0) := rfl
theorem k240_7 : px_cod 240 7 = some ((.bipush 32), 2, [], 32) := rfl
theorem k240_9 : px_cod 240 9 = some ((.lload_n 0), 1, [], 0) := rfl
theorem k240_10 : px_cod 240 10 = some ((.bipush 32), 2, [], 32) := rfl
theorem k240_12 : px_cod 240 12 = some (.lushr, 1, [], 0) := rfl
theorem k240_13 : px_cod 240 13 = some (.l2i, 1, [], 0) := rfl
theorem k240_14 : px_cod 240 14 = some ((.invokestatic 311), 3, [0, 131, 238], 0) := rfl
theorem k240_17 : px_cod 240 17 = some (.iadd, 1, [], 0) := rfl
theorem k240_18 : px_cod 240 18 = some ((.goto 7), 3, [25], 0) := rfl
theorem k240_21 : px_cod 240 21 = some ((.iload_n 2), 1, [], 2) := rfl
theorem k240_22 : px_cod 240 22 = some ((.invokestatic 311), 3, [0, 131, 238], 0) := rfl
theorem k240_25 : px_cod 240 25 = some (.ireturn, 1, [], 0) := rfl
theorem k241_0 : px_cod 241 0 = some ((.iconst 0), 1, [], 0) := rfl
theorem k241_1 : px_cod 241 1 = some ((.istore_n 2), 1, [], 2) := rfl
theorem k241_2 : px_cod 241 2 = some ((.aload_n 0), 1, [], 0) := rfl
theorem k241_3 : px_cod 241 3 = some (.arraylength, 1, [], 0) := rfl
theorem k241_4 : px_cod 241 4 = some ((.istore_n 3), 1, [], 3) := rfl
theorem k241_5 : px_cod 241 5 = some ((.iload_n 2), 1, [], 2) := rfl
theorem k241_6 : px_cod 241 6 = some ((.iload_n 3), 1, [], 3) := rfl
theorem k241_7 : px_cod 241 7 = some ((.if_icmp .ge 13), 3, [20], 0) := rfl
theorem k241_10 : px_cod 241 10 = some ((.aload_n 0), 1, [], 0) := rfl
theorem k241_11 : px_cod 241 11 = some ((.iload_n 2), 1, [], 2) := rfl
theorem k241_12 : px_cod 241 12 = some ((.iload_n 1), 1, [], 1) := rfl
theorem k241_13 : px_cod 241 13 = some (.iastore, 1, [], 0) := rfl
theorem k241_14 : px_cod 241 14 = some ((.iinc 2 1), 3, [2], 1) := rfl
theorem k241_17 : px_cod 241 17 = some ((.goto (-12)), 3, [5], 0) := rfl
theorem k241_20 : px_cod 241 20 = some (.return_, 1, [], 0) := rfl
theorem k242_0 : px_cod 242 0 = some ((.iconst 0), 1, [], 0) := rfl
theorem k242_1 : px_cod 242 1 = some ((.istore_n 3), 1, [], 3) := rfl
theorem k242_2 : px_cod 242 2 = some ((.aload_n 0), 1, [], 0) := rfl
theorem k242_3 : px_cod 242 3 = some (.arraylength, 1, [], 0) := rfl
theorem k242_4 : px_cod 242 4 = some ((.istore 4), 2, [], 4) := rfl
theorem k242_6 : px_cod 242 6 = some ((.iload_n 3), 1, [], 3) := rfl
theorem k242_7 : px_cod 242 7 = some ((.iload 4), 2, [], 4) := rfl
theorem k242_9 : px_cod 242 9 = some ((.if_icmp .ge 13), 3, [22], 0) := rfl
theorem k242_12 : px_cod 242 12 = some ((.aload_n 0), 1, [], 0) := rfl
theorem k242_13 : px_cod 242 13 = some ((.iload_n 3), 1, [], 3) := rfl
theorem k242_14 : px_cod 242 14 = some ((.lload_n 1), 1, [], 1) := rfl
theorem k242_15 : px_cod 242 15 = some (.lastore, 1, [], 0) := rfl
theorem k242_16 : px_cod 242 16 = some ((.iinc 3 1), 3, [3], 1) := rfl
theorem k242_19 : px_cod 242 19 = some ((.goto (-13)), 3, [6], 0) := rfl
theorem k242_22 : px_cod 242 22 = some (.return_, 1, [], 0) := rfl
section PXL
variable {L t : Nat} {r : MR}
-- TideGuestsModel.canBe ('R123', 'I', 'I', 'I')
theorem b208_0 (hr : px_hr r) (d : Nat) (i l : MI) (x1 : Int) (x2 : Int) (x3 : Int) (h1 : (¬ (1439 < x3)) → 0 ≤ x3 ∧ x3 < 1440) (h2 : (¬ (1439 < x3)) → 0 ≤ (px_w32 (20 + (px_w32 (2 * x2)))) ∧ (px_w32 (20 + (px_w32 (2 * x2)))) < 820) : px_X (d + 1) 208 (0, [vR 123, vI x1, vI x2, vI x3], []) (px_sh L, i, l, r, t) = if 1439 < x3 then some (some (vI 0), (px_sh L, i, l, r, t)) else (px_C d 146 [vR 123, vI x1, vI 6] (px_sh L, i, l, r, t)).bind (fun q => px_X (d + 1) 208 (px_psh (31, [vR 123, vI x1, vI x2, vI x3], [vI (i 124 (px_w32 (20 + (px_w32 (2 * x2))))), vI (i 146 x3)]) q.1) q.2) := ((xs_ildn k208_0 rfl).trans ((xs_si k208_1 (by omega)).trans ((xs_jgt k208_4).trans (px_ite (fun c1 => ((xs_ic k208_39 (by omega)).trans (xs_rz k208_40 rfl (by omega)))) (fun c1 => ((xs_aldn k208_7 rfl).trans ((xs_get4 k208_8 (px_s123 L) (Nat.le_of_ble_eq_true rfl) (px_r123_42 hr)).trans ((xs_ildn k208_11 rfl).trans ((xs_iald k208_12 (px_s146 L) (h1 c1)).trans ((xs_aldn k208_13 rfl).trans ((xs_get4 k208_14 (px_s123 L) (Nat.le_of_ble_eq_true rfl) (px_r123_3 hr)).trans ((xs_bi k208_17 (by omega)).trans ((xs_ic k208_19 (by omega)).trans ((xs_ildn k208_20 rfl).trans ((xs_imul k208_21).trans ((xs_iadd k208_22).trans ((xs_iald k208_23 (px_s124 L) (h2 c1)).trans ((xs_aldn k208_24 rfl).trans ((xs_ildn k208_25 rfl).trans ((xs_bi k208_26 (by omega)).trans (xs_callvB k208_28 (as := [vI x1, vI 6]) rfl rfl (Nat.le_of_ble_eq_true rfl) (Nat.le_of_ble_eq_true rfl) (Nat.le_of_ble_eq_true rfl) (px_s123 L) (Nat.le_of_ble_eq_true rfl))))))))))))))))))))))
theorem b208_31 (hr : px_hr r) (d : Nat) (i l : MI) (x1 : Int) (x2 : Int) (x3 : Int) (xs0 : Int) (xs1 : Int) (xs2 : Int) : px_X d 208 (31, [vR 123, vI x1, vI x2, vI x3], [vI xs0, vI xs1, vI xs2]) (px_sh L, i, l, r, t) = if (px_w32 (xs1 + xs0)) < xs2 then some (some (vI 0), (px_sh L, i, l, r, t)) else some (some (vI 1), (px_sh L, i, l, r, t)) := ((xs_iadd k208_31).trans ((xs_jgt k208_32).trans (px_ite (fun c1 => ((xs_ic k208_39 (by omega)).trans (xs_rz k208_40 rfl (by omega)))) (fun c1 => ((xs_ic k208_35 (by omega)).trans ((xs_goto k208_36).trans (xs_rz k208_40 rfl (by omega))))))))
-- TideGuestsModel.isShore ('R123', 'I')
theorem b209_0 (hr : px_hr r) (d : Nat) (i l : MI) (x1 : Int) (h1 : 0 ≤ (px_w32 ((px_w32 (20 + (px_w32 (2 * x1)))) + 1)) ∧ (px_w32 ((px_w32 (20 + (px_w32 (2 * x1)))) + 1)) < 820) : px_X d 209 (0, [vR 123, vI x1], []) (px_sh L, i, l, r, t) = if (i 124 (px_w32 ((px_w32 (20 + (px_w32 (2 * x1)))) + 1))) = 1 then some (some (vI 1), (px_sh L, i, l, r, t)) else some (some (vI 0), (px_sh L, i, l, r, t)) := ((xs_aldn k209_0 rfl).trans ((xs_get4 k209_1 (px_s123 L) (Nat.le_of_ble_eq_true rfl) (px_r123_3 hr)).trans ((xs_bi k209_4 (by omega)).trans ((xs_ic k209_6 (by omega)).trans ((xs_ildn k209_7 rfl).trans ((xs_imul k209_8).trans ((xs_iadd k209_9).trans ((xs_ic k209_10 (by omega)).trans ((xs_iadd k209_11).trans ((xs_iald k209_12 (px_s124 L) (h1)).trans ((xs_ic k209_13 (by omega)).trans ((xs_jne k209_14).trans (px_ite (fun c1 => ((xs_ic k209_17 (by omega)).trans ((xs_goto k209_18).trans (xs_rz k209_22 rfl (by omega))))) (fun c1 => ((xs_ic k209_21 (by omega)).trans (xs_rz k209_22 rfl (by omega)))))))))))))))))
-- TideGuestsModel.beside ('R123', 'I', 'I')
theorem b210_0 (hr : px_hr r) (d : Nat) (i l : MI) (x1 : Int) (x2 : Int) (h1 : ¬ (i 123 0) = 0) : px_X d 210 (0, [vR 123, vI x1, vI x2, vJ, vJ], []) (px_sh L, i, l, r, t) = if x2 = 1 then px_X d 210 (25, [vR 123, vI x1, vI x2, vJ, vJ], [vI 1, vI (Int.tmod x1 (i 123 0))]) (px_sh L, i, l, r, t) else if x2 = 3 then px_X d 210 (25, [vR 123, vI x1, vI x2, vJ, vJ], [vI (-1), vI (Int.tmod x1 (i 123 0))]) (px_sh L, i, l, r, t) else px_X d 210 (25, [vR 123, vI x1, vI x2, vJ, vJ], [vI 0, vI (Int.tmod x1 (i 123 0))]) (px_sh L, i, l, r, t) := ((xs_ildn k210_0 rfl).trans ((xs_aldn k210_1 rfl).trans ((xs_get0 k210_2 (px_s123 L) (Nat.le_of_ble_eq_true rfl)).trans ((xs_irem k210_5 (h1)).trans ((xs_ildn k210_6 rfl).trans ((xs_ic k210_7 (by omega)).trans ((xs_jne k210_8).trans (px_ite (fun c1 => ((xs_ic k210_11 (by omega)).trans (xs_goto k210_12))) (fun c1 => ((xs_ildn k210_15 rfl).trans ((xs_ic k210_16 (by omega)).trans ((xs_jne k210_17).trans (px_ite (fun c2 => ((xs_ic k210_20 (by omega)).trans (xs_goto k210_21))) (fun c2 => (xs_ic k210_24 (by omega))))))))))))))))
theorem b210_25 (hr : px_hr r) (d : Nat) (i l : MI) (x1 : Int) (x2 : Int) (xs0 : Int) (xs1 : Int) (h1 : ¬ (i 123 0) = 0) : px_X d 210 (25, [vR 123, vI x1, vI x2, vJ, vJ], [vI xs0, vI xs1]) (px_sh L, i, l, r, t) = if x2 = 2 then px_X d 210 (51, [vR 123, vI x1, vI x2, vI (px_w32 (xs1 + xs0)), vJ], [vI 1, vI (px_w32 (Int.tdiv x1 (i 123 0)))]) (px_sh L, i, l, r, t) else if x2 = 0 then px_X d 210 (51, [vR 123, vI x1, vI x2, vI (px_w32 (xs1 + xs0)), vJ], [vI (-1), vI (px_w32 (Int.tdiv x1 (i 123 0)))]) (px_sh L, i, l, r, t) else px_X d 210 (51, [vR 123, vI x1, vI x2, vI (px_w32 (xs1 + xs0)), vJ], [vI 0, vI (px_w32 (Int.tdiv x1 (i 123 0)))]) (px_sh L, i, l, r, t) := ((xs_iadd k210_25).trans ((xs_istn k210_26 (Nat.le_of_ble_eq_true rfl) (ls' := [vR 123, vI x1, vI x2, vI (px_w32 (xs1 + xs0)), vJ]) rfl).trans ((xs_ildn k210_27 rfl).trans ((xs_aldn k210_28 rfl).trans ((xs_get0 k210_29 (px_s123 L) (Nat.le_of_ble_eq_true rfl)).trans ((xs_idiv k210_32 (h1)).trans ((xs_ildn k210_33 rfl).trans ((xs_ic k210_34 (by omega)).trans ((xs_jne k210_35).trans (px_ite (fun c1 => ((xs_ic k210_38 (by omega)).trans (xs_goto k210_39))) (fun c1 => ((xs_ildn k210_42 rfl).trans ((xs_ine k210_43).trans (px_ite (fun c2 => ((xs_ic k210_46 (by omega)).trans (xs_goto k210_47))) (fun c2 => (xs_ic k210_50 (by omega)))))))))))))))))
theorem b210_51 (hr : px_hr r) (d : Nat) (i l : MI) (x1 : Int) (x2 : Int) (x3 : Int) (xs0 : Int) (xs1 : Int) : px_X (d + 1) 210 (51, [vR 123, vI x1, vI x2, vI x3, vJ], [vI xs0, vI xs1]) (px_sh L, i, l, r, t) = (px_C d 141 [vI x3, vI 0, vI (px_w32 ((i 123 0) - 1))] (px_sh L, i, l, r, t)).bind (fun q => px_X (d + 1) 210 (px_psh (65, [vR 123, vI x1, vI x2, vI x3, vI (px_w32 (xs1 + xs0))], []) q.1) q.2) := ((xs_iadd k210_51).trans ((xs_ist k210_52 (Nat.le_of_ble_eq_true rfl) (ls' := [vR 123, vI x1, vI x2, vI x3, vI (px_w32 (xs1 + xs0))]) rfl).trans ((xs_ildn k210_54 rfl).trans ((xs_ic k210_55 (by omega)).trans ((xs_aldn k210_56 rfl).trans ((xs_get0 k210_57 (px_s123 L) (Nat.le_of_ble_eq_true rfl)).trans ((xs_ic k210_60 (by omega)).trans ((xs_isub k210_61).trans (xs_callsB k210_62 (as := [vI x3, vI 0, vI (px_w32 ((i 123 0) - 1))]) rfl rfl (Nat.le_of_ble_eq_true rfl) (Nat.le_of_ble_eq_true rfl) (Nat.le_of_ble_eq_true rfl))))))))))
theorem b210_65 (hr : px_hr r) (d : Nat) (i l : MI) (x1 : Int) (x2 : Int) (x3 : Int) (x4 : Int) (xs0 : Int) : px_X (d + 1) 210 (65, [vR 123, vI x1, vI x2, vI x3, vI x4], [vI xs0]) (px_sh L, i, l, r, t) = if xs0 = 0 then some (some (vI (-1)), (px_sh L, i, l, r, t)) else (px_C d 141 [vI x4, vI 0, vI (px_w32 ((i 123 1) - 1))] (px_sh L, i, l, r, t)).bind (fun q => px_X (d + 1) 210 (px_psh (80, [vR 123, vI x1, vI x2, vI x3, vI x4], []) q.1) q.2) := ((xs_ieq k210_65).trans (px_ite (fun c1 => ((xs_ic k210_95 (by omega)).trans (xs_ri k210_96 rfl))) (fun c1 => ((xs_ild k210_68 rfl).trans ((xs_ic k210_70 (by omega)).trans ((xs_aldn k210_71 rfl).trans ((xs_get0 k210_72 (px_s123 L) (Nat.le_of_ble_eq_true rfl)).trans ((xs_ic k210_75 (by omega)).trans ((xs_isub k210_76).trans (xs_callsB k210_77 (as := [vI x4, vI 0, vI (px_w32 ((i 123 1) - 1))]) rfl rfl (Nat.le_of_ble_eq_true rfl) (Nat.le_of_ble_eq_true rfl) (Nat.le_of_ble_eq_true rfl)))))))))))
theorem b210_80 (hr : px_hr r) (d : Nat) (i l : MI) (x1 : Int) (x2 : Int) (x3 : Int) (x4 : Int) (xs0 : Int) : px_X d 210 (80, [vR 123, vI x1, vI x2, vI x3, vI x4], [vI xs0]) (px_sh L, i, l, r, t) = if xs0 = 0 then some (some (vI (-1)), (px_sh L, i, l, r, t)) else some (some (vI (px_w32 (x3 + (px_w32 ((i 123 0) * x4))))), (px_sh L, i, l, r, t)) := ((xs_ieq k210_80).trans (px_ite (fun c1 => ((xs_ic k210_95 (by omega)).trans (xs_ri k210_96 rfl))) (fun c1 => ((xs_ildn k210_83 rfl).trans ((xs_aldn k210_84 rfl).trans ((xs_get0 k210_85 (px_s123 L) (Nat.le_of_ble_eq_true rfl)).trans ((xs_ild k210_88 rfl).trans ((xs_imul k210_90).trans ((xs_iadd k210_91).trans ((xs_goto k210_92).trans (xs_ri k210_96 rfl)))))))))))
-- TideGuestsModel.steps ('R123', 'I', 'I')
theorem b211_0 (hr : px_hr r) (d : Nat) (i l : MI) (x1 : Int) (x2 : Int) : px_X (d + 1) 211 (0, [vR 123, vI x1, vI x2, vJ, vJ, vJ, vJ, vJ, vJ, vJ], []) (px_sh L, i, l, r, t) = (px_C d 209 [vR 123, vI (i 124 0)] (px_sh L, i, l, r, t)).bind (fun q => px_X (d + 1) 211 (px_psh (10, [vR 123, vI x1, vI x2, vJ, vJ, vJ, vJ, vJ, vJ, vJ], []) q.1) q.2) := ((xs_aldn k211_0 rfl).trans ((xs_aldn k211_1 rfl).trans ((xs_get4 k211_2 (px_s123 L) (Nat.le_of_ble_eq_true rfl) (px_r123_3 hr)).trans ((xs_ic k211_5 (by omega)).trans ((xs_iald k211_6 (px_s124 L) (by omega)).trans (xs_callvB k211_7 (as := [vI (i 124 0)]) rfl rfl (Nat.le_of_ble_eq_true rfl) (Nat.le_of_ble_eq_true rfl) (Nat.le_of_ble_eq_true rfl) (px_s123 L) (Nat.le_of_ble_eq_true rfl)))))))
theorem b211_10 (hr : px_hr r) (d : Nat) (i l : MI) (x1 : Int) (x2 : Int) (xs0 : Int) : px_X d 211 (10, [vR 123, vI x1, vI x2, vJ, vJ, vJ, vJ, vJ, vJ, vJ], [vI xs0]) (px_sh L, i, l, r, t) = if xs0 = 0 then px_X d 211 (17, [vR 123, vI x1, vI x2, vI 0, vJ, vJ, vJ, vJ, vJ, vJ], []) (px_sh L, i, l, r, t) else some (some (vI 0), (px_sh L, i, l, r, t)) := ((xs_ieq k211_10).trans (px_ite (fun c1 => ((xs_ic k211_15 (by omega)).trans (xs_istn k211_16 (Nat.le_of_ble_eq_true rfl) (ls' := [vR 123, vI x1, vI x2, vI 0, vJ, vJ, vJ, vJ, vJ, vJ]) rfl))) (fun c1 => ((xs_ic k211_13 (by omega)).trans (xs_ri k211_14 rfl)))))
theorem b211_17 (hr : px_hr r) (d : Nat) (i l : MI) (x1 : Int) (x2 : Int) (x3 : Int) (h1 : (¬ ((i 123 2) ≤ x3)) → (x3 = (i 124 0)) → 0 ≤ x3 ∧ x3 < 1332) (h2 : (¬ ((i 123 2) ≤ x3)) → (¬ (x3 = (i 124 0))) → 0 ≤ x3 ∧ x3 < 1332) : px_X d 211 (17, [vR 123, vI x1, vI x2, vI x3, vJ, vJ, vJ, vJ, vJ, vJ], []) (px_sh L, i, l, r, t) = if (i 123 2) ≤ x3 then px_X d 211 (54, [vR 123, vI x1, vI x2, vI 1, vJ, vJ, vJ, vJ, vJ, vJ], []) (px_sh L, i, l, r, t) else if x3 = (i 124 0) then px_X d 211 (17, [vR 123, vI x1, vI x2, vI (px_w32 (x3 + 1)), vJ, vJ, vJ, vJ, vJ, vJ], []) (px_sh L, (px_up i 147 x3 1), l, r, t) else px_X d 211 (17, [vR 123, vI x1, vI x2, vI (px_w32 (x3 + 1)), vJ, vJ, vJ, vJ, vJ, vJ], []) (px_sh L, (px_up i 147 x3 0), l, r, t) := ((xs_ildn k211_17 rfl).trans ((xs_aldn k211_18 rfl).trans ((xs_get0 k211_19 (px_s123 L) (Nat.le_of_ble_eq_true rfl)).trans ((xs_jge k211_22).trans (px_ite (fun c1 => ((xs_ic k211_52 (by omega)).trans (xs_istn k211_53 (Nat.le_of_ble_eq_true rfl) (ls' := [vR 123, vI x1, vI x2, vI 1, vJ, vJ, vJ, vJ, vJ, vJ]) rfl))) (fun c1 => ((xs_aldn k211_25 rfl).trans ((xs_get4 k211_26 (px_s123 L) (Nat.le_of_ble_eq_true rfl) (px_r123_43 hr)).trans ((xs_ildn k211_29 rfl).trans ((xs_ildn k211_30 rfl).trans ((xs_aldn k211_31 rfl).trans ((xs_get4 k211_32 (px_s123 L) (Nat.le_of_ble_eq_true rfl) (px_r123_3 hr)).trans ((xs_ic k211_35 (by omega)).trans ((xs_iald k211_36 (px_s124 L) (by omega)).trans ((xs_jne k211_37).trans (px_ite (fun c2 => ((xs_ic k211_40 (by omega)).trans ((xs_goto k211_41).trans ((xs_bast2 k211_45 (px_s147 L) (h1 c1 c2) (Nat.le_of_ble_eq_true rfl) (by omega)).trans ((xs_iinc k211_46 rfl (by omega) (ls' := [vR 123, vI x1, vI x2, vI (px_w32 (x3 + 1)), vJ, vJ, vJ, vJ, vJ, vJ]) rfl).trans (xs_goto k211_49)))))) (fun c2 => ((xs_ic k211_44 (by omega)).trans ((xs_bast2 k211_45 (px_s147 L) (h2 c1 c2) (Nat.le_of_ble_eq_true rfl) (by omega)).trans ((xs_iinc k211_46 rfl (by omega) (ls' := [vR 123, vI x1, vI x2, vI (px_w32 (x3 + 1)), vJ, vJ, vJ, vJ, vJ, vJ]) rfl).trans (xs_goto k211_49)))))))))))))))))))))
theorem b211_54 (hr : px_hr r) (d : Nat) (i l : MI) (x1 : Int) (x2 : Int) (x3 : Int) {v4 : PV} (hn4 : px_nl v4) {v5 : PV} (hn5 : px_nl v5) {v6 : PV} (hn6 : px_nl v6) {v7 : PV} (hn7 : px_nl v7) {v8 : PV} (hn8 : px_nl v8) {v9 : PV} (hn9 : px_nl v9) : px_X (d + 1) 211 (54, [vR 123, vI x1, vI x2, vI x3, v4, v5, v6, v7, v8, v9], []) (px_sh L, i, l, r, t) = if (i 123 2) < x3 then some (some (vI (-1)), (px_sh L, i, l, r, t)) else (px_C d 146 [vR 123, vI x1, vI 5] (px_sh L, i, l, r, t)).bind (fun q => px_X (d + 1) 211 (px_psh (73, [vR 123, vI x1, vI x2, vI x3, vI 0, v5, v6, v7, v8, v9], [vI x3, vI x2]) q.1) q.2) := ((xs_ildn k211_54 rfl).trans ((xs_aldn k211_55 rfl).trans ((xs_get0 k211_56 (px_s123 L) (Nat.le_of_ble_eq_true rfl)).trans ((xs_jgt k211_59).trans (px_ite (fun c1 => ((xs_ic k211_235 (by omega)).trans (xs_ri k211_236 rfl))) (fun c1 => ((xs_ic k211_62 (by omega)).trans ((xs_ist k211_63 (Nat.le_of_ble_eq_true rfl) (ls' := [vR 123, vI x1, vI x2, vI x3, vI 0, v5, v6, v7, v8, v9]) rfl).trans ((xs_ildn k211_65 rfl).trans ((xs_ildn k211_66 rfl).trans ((xs_aldn k211_67 rfl).trans ((xs_ildn k211_68 rfl).trans ((xs_ic k211_69 (by omega)).trans (xs_callvB k211_70 (as := [vI x1, vI 5]) rfl rfl (Nat.le_of_ble_eq_true rfl) (Nat.le_of_ble_eq_true rfl) (Nat.le_of_ble_eq_true rfl) (px_s123 L) (Nat.le_of_ble_eq_true rfl)))))))))))))))
theorem b211_73 (hr : px_hr r) (d : Nat) (i l : MI) (x1 : Int) (x2 : Int) (x3 : Int) (x4 : Int) {v5 : PV} (hn5 : px_nl v5) {v6 : PV} (hn6 : px_nl v6) {v7 : PV} (hn7 : px_nl v7) {v8 : PV} (hn8 : px_nl v8) {v9 : PV} (hn9 : px_nl v9) (xs0 : Int) (xs1 : Int) (xs2 : Int) : px_X d 211 (73, [vR 123, vI x1, vI x2, vI x3, vI x4, v5, v6, v7, v8, v9], [vI xs0, vI xs1, vI xs2]) (px_sh L, i, l, r, t) = px_X d 211 (80, [vR 123, vI x1, vI x2, vI x3, vI x4, vI (px_w32 (xs2 + (px_w32 (xs1 * xs0)))), vI 0, v7, v8, v9], []) (px_sh L, i, l, r, t) := ((xs_imul k211_73).trans ((xs_iadd k211_74).trans ((xs_ist k211_75 (Nat.le_of_ble_eq_true rfl) (ls' := [vR 123, vI x1, vI x2, vI x3, vI x4, vI (px_w32 (xs2 + (px_w32 (xs1 * xs0)))), v6, v7, v8, v9]) rfl).trans ((xs_ic k211_77 (by omega)).trans (xs_ist k211_78 (Nat.le_of_ble_eq_true rfl) (ls' := [vR 123, vI x1, vI x2, vI x3, vI x4, vI (px_w32 (xs2 + (px_w32 (xs1 * xs0)))), vI 0, v7, v8, v9]) rfl)))))
theorem b211_80 (hr : px_hr r) (d : Nat) (i l : MI) (x1 : Int) (x2 : Int) (x3 : Int) (x4 : Int) (x5 : Int) (x6 : Int) {v7 : PV} (hn7 : px_nl v7) {v8 : PV} (hn8 : px_nl v8) {v9 : PV} (hn9 : px_nl v9) : px_X d 211 (80, [vR 123, vI x1, vI x2, vI x3, vI x4, vI x5, vI x6, v7, v8, v9], []) (px_sh L, i, l, r, t) = if (i 123 2) ≤ x6 then if x4 = 0 then px_X d 211 (54, [vR 123, vI x1, vI x2, vI (px_w32 (x3 + 1)), vI x4, vI x5, vI x6, v7, v8, v9], []) (px_sh L, i, l, r, t) else some (some (vI x3), (px_sh L, i, l, r, t)) else px_X d 211 (95, [vR 123, vI x1, vI x2, vI x3, vI x4, vI x5, vI x6, vI 0, vI 0, v9], []) (px_sh L, i, l, r, t) := ((xs_ild k211_80 rfl).trans ((xs_aldn k211_82 rfl).trans ((xs_get0 k211_83 (px_s123 L) (Nat.le_of_ble_eq_true rfl)).trans ((xs_jge k211_86).trans (px_ite (fun c1 => ((xs_ild k211_222 rfl).trans ((xs_ieq k211_224).trans (px_ite (fun c2 => ((xs_iinc k211_229 rfl (by omega) (ls' := [vR 123, vI x1, vI x2, vI (px_w32 (x3 + 1)), vI x4, vI x5, vI x6, v7, v8, v9]) rfl).trans (xs_goto k211_232))) (fun c2 => ((xs_ildn k211_227 rfl).trans (xs_ri k211_228 rfl))))))) (fun c1 => ((xs_ic k211_89 (by omega)).trans ((xs_ist k211_90 (Nat.le_of_ble_eq_true rfl) (ls' := [vR 123, vI x1, vI x2, vI x3, vI x4, vI x5, vI x6, vI 0, v8, v9]) rfl).trans ((xs_ic k211_92 (by omega)).trans (xs_ist k211_93 (Nat.le_of_ble_eq_true rfl) (ls' := [vR 123, vI x1, vI x2, vI x3, vI x4, vI x5, vI x6, vI 0, vI 0, v9]) rfl))))))))))
theorem b211_95 (hr : px_hr r) (d : Nat) (i l : MI) (x1 : Int) (x2 : Int) (x3 : Int) (x4 : Int) (x5 : Int) (x6 : Int) (x7 : Int) (x8 : Int) {v9 : PV} (hn9 : px_nl v9) : px_X (d + 1) 211 (95, [vR 123, vI x1, vI x2, vI x3, vI x4, vI x5, vI x6, vI x7, vI x8, v9], []) (px_sh L, i, l, r, t) = if 4 ≤ x8 then if x7 = 0 then px_X (d + 1) 211 (173, [vR 123, vI x1, vI x2, vI x3, vI x4, vI x5, vI x6, vI x7, vI x8, v9], []) (px_sh L, i, l, r, t) else (px_C d 208 [vR 123, vI x1, vI x6, vI x5] (px_sh L, i, l, r, t)).bind (fun q => px_X (d + 1) 211 (px_psh (166, [vR 123, vI x1, vI x2, vI x3, vI x4, vI x5, vI x6, vI x7, vI x8, v9], []) q.1) q.2) else (px_C d 210 [vR 123, vI x6, vI x8] (px_sh L, i, l, r, t)).bind (fun q => px_X (d + 1) 211 (px_psh (109, [vR 123, vI x1, vI x2, vI x3, vI x4, vI x5, vI x6, vI x7, vI x8, v9], []) q.1) q.2) := ((xs_ild k211_95 rfl).trans ((xs_ic k211_97 (by omega)).trans ((xs_jge k211_98).trans (px_ite (fun c1 => ((xs_ild k211_152 rfl).trans ((xs_ieq k211_154).trans (px_ite (fun c2 => rfl) (fun c2 => ((xs_aldn k211_157 rfl).trans ((xs_ildn k211_158 rfl).trans ((xs_ild k211_159 rfl).trans ((xs_ild k211_161 rfl).trans (xs_callvB k211_163 (as := [vI x1, vI x6, vI x5]) rfl rfl (Nat.le_of_ble_eq_true rfl) (Nat.le_of_ble_eq_true rfl) (Nat.le_of_ble_eq_true rfl) (px_s123 L) (Nat.le_of_ble_eq_true rfl))))))))))) (fun c1 => ((xs_aldn k211_101 rfl).trans ((xs_ild k211_102 rfl).trans ((xs_ild k211_104 rfl).trans (xs_callvB k211_106 (as := [vI x6, vI x8]) rfl rfl (Nat.le_of_ble_eq_true rfl) (Nat.le_of_ble_eq_true rfl) (Nat.le_of_ble_eq_true rfl) (px_s123 L) (Nat.le_of_ble_eq_true rfl))))))))))
theorem b211_109 (hr : px_hr r) (d : Nat) (i l : MI) (x1 : Int) (x2 : Int) (x3 : Int) (x4 : Int) (x5 : Int) (x6 : Int) (x7 : Int) (x8 : Int) {v9 : PV} (hn9 : px_nl v9) (xs0 : Int) (h1 : (x7 = 0) → (¬ (xs0 = (-1))) → 0 ≤ (px_w32 ((px_w32 (36 * (px_w32 (x3 - 1)))) + xs0)) ∧ (px_w32 ((px_w32 (36 * (px_w32 (x3 - 1)))) + xs0)) < 1332) : px_X d 211 (109, [vR 123, vI x1, vI x2, vI x3, vI x4, vI x5, vI x6, vI x7, vI x8, v9], [vI xs0]) (px_sh L, i, l, r, t) = if x7 = 0 then if xs0 = (-1) then px_X d 211 (95, [vR 123, vI x1, vI x2, vI x3, vI x4, vI x5, vI x6, vI 0, vI (px_w32 (x8 + 1)), vI xs0], []) (px_sh L, i, l, r, t) else if (i 147 (px_w32 ((px_w32 (36 * (px_w32 (x3 - 1)))) + xs0))) = 0 then px_X d 211 (95, [vR 123, vI x1, vI x2, vI x3, vI x4, vI x5, vI x6, vI 0, vI (px_w32 (x8 + 1)), vI xs0], []) (px_sh L, i, l, r, t) else px_X d 211 (95, [vR 123, vI x1, vI x2, vI x3, vI x4, vI x5, vI x6, vI 1, vI (px_w32 (x8 + 1)), vI xs0], []) (px_sh L, i, l, r, t) else px_X d 211 (95, [vR 123, vI x1, vI x2, vI x3, vI x4, vI x5, vI x6, vI 1, vI (px_w32 (x8 + 1)), vI xs0], []) (px_sh L, i, l, r, t) := ((xs_ist k211_109 (Nat.le_of_ble_eq_true rfl) (ls' := [vR 123, vI x1, vI x2, vI x3, vI x4, vI x5, vI x6, vI x7, vI x8, vI xs0]) rfl).trans ((xs_ild k211_111 rfl).trans ((xs_ine k211_113).trans (px_ite (fun c1 => ((xs_ild k211_116 rfl).trans ((xs_ic k211_118 (by omega)).trans ((xs_jeq k211_119).trans (px_ite (fun c2 => ((xs_ic k211_143 (by omega)).trans ((xs_ist k211_144 (Nat.le_of_ble_eq_true rfl) (ls' := [vR 123, vI x1, vI x2, vI x3, vI x4, vI x5, vI x6, vI 0, vI x8, vI xs0]) rfl).trans ((xs_iinc k211_146 rfl (by omega) (ls' := [vR 123, vI x1, vI x2, vI x3, vI x4, vI x5, vI x6, vI 0, vI (px_w32 (x8 + 1)), vI xs0]) rfl).trans (xs_goto k211_149))))) (fun c2 => ((xs_aldn k211_122 rfl).trans ((xs_get4 k211_123 (px_s123 L) (Nat.le_of_ble_eq_true rfl) (px_r123_43 hr)).trans ((xs_bi k211_126 (by omega)).trans ((xs_ildn k211_128 rfl).trans ((xs_ic k211_129 (by omega)).trans ((xs_isub k211_130).trans ((xs_imul k211_131).trans ((xs_ild k211_132 rfl).trans ((xs_iadd k211_134).trans ((xs_bald2 k211_135 (px_s147 L) (h1 c1 c2)).trans ((xs_ieq k211_136).trans (px_ite (fun c3 => ((xs_ic k211_143 (by omega)).trans ((xs_ist k211_144 (Nat.le_of_ble_eq_true rfl) (ls' := [vR 123, vI x1, vI x2, vI x3, vI x4, vI x5, vI x6, vI 0, vI x8, vI xs0]) rfl).trans ((xs_iinc k211_146 rfl (by omega) (ls' := [vR 123, vI x1, vI x2, vI x3, vI x4, vI x5, vI x6, vI 0, vI (px_w32 (x8 + 1)), vI xs0]) rfl).trans (xs_goto k211_149))))) (fun c3 => ((xs_ic k211_139 (by omega)).trans ((xs_goto k211_140).trans ((xs_ist k211_144 (Nat.le_of_ble_eq_true rfl) (ls' := [vR 123, vI x1, vI x2, vI x3, vI x4, vI x5, vI x6, vI 1, vI x8, vI xs0]) rfl).trans ((xs_iinc k211_146 rfl (by omega) (ls' := [vR 123, vI x1, vI x2, vI x3, vI x4, vI x5, vI x6, vI 1, vI (px_w32 (x8 + 1)), vI xs0]) rfl).trans (xs_goto k211_149)))))))))))))))))))))))) (fun c1 => ((xs_ic k211_139 (by omega)).trans ((xs_goto k211_140).trans ((xs_ist k211_144 (Nat.le_of_ble_eq_true rfl) (ls' := [vR 123, vI x1, vI x2, vI x3, vI x4, vI x5, vI x6, vI 1, vI x8, vI xs0]) rfl).trans ((xs_iinc k211_146 rfl (by omega) (ls' := [vR 123, vI x1, vI x2, vI x3, vI x4, vI x5, vI x6, vI 1, vI (px_w32 (x8 + 1)), vI xs0]) rfl).trans (xs_goto k211_149))))))))))
theorem b211_166 (hr : px_hr r) (d : Nat) (i l : MI) (x1 : Int) (x2 : Int) (x3 : Int) (x4 : Int) (x5 : Int) (x6 : Int) (x7 : Int) (x8 : Int) {v9 : PV} (hn9 : px_nl v9) (xs0 : Int) : px_X d 211 (166, [vR 123, vI x1, vI x2, vI x3, vI x4, vI x5, vI x6, vI x7, vI x8, v9], [vI xs0]) (px_sh L, i, l, r, t) = if xs0 = 0 then px_X d 211 (173, [vR 123, vI x1, vI x2, vI x3, vI x4, vI x5, vI x6, vI x7, vI x8, v9], []) (px_sh L, i, l, r, t) else px_X d 211 (174, [vR 123, vI x1, vI x2, vI x3, vI x4, vI x5, vI x6, vI x7, vI x8, v9], [vI 1]) (px_sh L, i, l, r, t) := ((xs_ieq k211_166).trans (px_ite (fun c1 => rfl) (fun c1 => ((xs_ic k211_169 (by omega)).trans (xs_goto k211_170)))))
theorem b211_173 (hr : px_hr r) (d : Nat) (i l : MI) (x1 : Int) (x2 : Int) (x3 : Int) (x4 : Int) (x5 : Int) (x6 : Int) (x7 : Int) (x8 : Int) {v9 : PV} (hn9 : px_nl v9) : px_X d 211 (173, [vR 123, vI x1, vI x2, vI x3, vI x4, vI x5, vI x6, vI x7, vI x8, v9], []) (px_sh L, i, l, r, t) = px_X d 211 (174, [vR 123, vI x1, vI x2, vI x3, vI x4, vI x5, vI x6, vI x7, vI x8, v9], [vI 0]) (px_sh L, i, l, r, t) := (xs_ic k211_173 (by omega))
theorem b211_174 (hr : px_hr r) (d : Nat) (i l : MI) (x1 : Int) (x2 : Int) (x3 : Int) (x4 : Int) (x5 : Int) (x6 : Int) (x7 : Int) (x8 : Int) {v9 : PV} (hn9 : px_nl v9) (xs0 : Int) (h1 : 0 ≤ (px_w32 ((px_w32 (36 * x3)) + x6)) ∧ (px_w32 ((px_w32 (36 * x3)) + x6)) < 1332) (h2 : xs0 = 0 ∨ xs0 = 1) : px_X (d + 1) 211 (174, [vR 123, vI x1, vI x2, vI x3, vI x4, vI x5, vI x6, vI x7, vI x8, v9], [vI xs0]) (px_sh L, i, l, r, t) = if x4 = 0 then if xs0 = 0 then px_X (d + 1) 211 (80, [vR 123, vI x1, vI x2, vI x3, vI 0, vI x5, vI (px_w32 (x6 + 1)), vI xs0, vI x8, v9], []) (px_sh L, (px_up i 147 (px_w32 ((px_w32 (36 * x3)) + x6)) xs0), l, r, t) else (px_C d 209 [vR 123, vI x6] (px_sh L, (px_up i 147 (px_w32 ((px_w32 (36 * x3)) + x6)) xs0), l, r, t)).bind (fun q => px_X (d + 1) 211 (px_psh (206, [vR 123, vI x1, vI x2, vI x3, vI x4, vI x5, vI x6, vI xs0, vI x8, v9], []) q.1) q.2) else px_X (d + 1) 211 (80, [vR 123, vI x1, vI x2, vI x3, vI 1, vI x5, vI (px_w32 (x6 + 1)), vI xs0, vI x8, v9], []) (px_sh L, (px_up i 147 (px_w32 ((px_w32 (36 * x3)) + x6)) xs0), l, r, t) := ((xs_ist k211_174 (Nat.le_of_ble_eq_true rfl) (ls' := [vR 123, vI x1, vI x2, vI x3, vI x4, vI x5, vI x6, vI xs0, vI x8, v9]) rfl).trans ((xs_aldn k211_176 rfl).trans ((xs_get4 k211_177 (px_s123 L) (Nat.le_of_ble_eq_true rfl) (px_r123_43 hr)).trans ((xs_bi k211_180 (by omega)).trans ((xs_ildn k211_182 rfl).trans ((xs_imul k211_183).trans ((xs_ild k211_184 rfl).trans ((xs_iadd k211_186).trans ((xs_ild k211_187 rfl).trans ((xs_bast2 k211_189 (px_s147 L) (h1) (Nat.le_of_ble_eq_true rfl) (h2)).trans ((xs_ild k211_190 rfl).trans ((xs_ine k211_192).trans (px_ite (fun c1 => ((xs_ild k211_195 rfl).trans ((xs_ieq k211_197).trans (px_ite (fun c2 => ((xs_ic k211_213 (by omega)).trans ((xs_ist k211_214 (Nat.le_of_ble_eq_true rfl) (ls' := [vR 123, vI x1, vI x2, vI x3, vI 0, vI x5, vI x6, vI xs0, vI x8, v9]) rfl).trans ((xs_iinc k211_216 rfl (by omega) (ls' := [vR 123, vI x1, vI x2, vI x3, vI 0, vI x5, vI (px_w32 (x6 + 1)), vI xs0, vI x8, v9]) rfl).trans (xs_goto k211_219))))) (fun c2 => ((xs_aldn k211_200 rfl).trans ((xs_ild k211_201 rfl).trans (xs_callvB k211_203 (as := [vI x6]) rfl rfl (Nat.le_of_ble_eq_true rfl) (Nat.le_of_ble_eq_true rfl) (Nat.le_of_ble_eq_true rfl) (px_s123 L) (Nat.le_of_ble_eq_true rfl))))))))) (fun c1 => ((xs_ic k211_209 (by omega)).trans ((xs_goto k211_210).trans ((xs_ist k211_214 (Nat.le_of_ble_eq_true rfl) (ls' := [vR 123, vI x1, vI x2, vI x3, vI 1, vI x5, vI x6, vI xs0, vI x8, v9]) rfl).trans ((xs_iinc k211_216 rfl (by omega) (ls' := [vR 123, vI x1, vI x2, vI x3, vI 1, vI x5, vI (px_w32 (x6 + 1)), vI xs0, vI x8, v9]) rfl).trans (xs_goto k211_219)))))))))))))))))))
theorem b211_206 (hr : px_hr r) (d : Nat) (i l : MI) (x1 : Int) (x2 : Int) (x3 : Int) (x4 : Int) (x5 : Int) (x6 : Int) (x7 : Int) (x8 : Int) {v9 : PV} (hn9 : px_nl v9) (xs0 : Int) : px_X d 211 (206, [vR 123, vI x1, vI x2, vI x3, vI x4, vI x5, vI x6, vI x7, vI x8, v9], [vI xs0]) (px_sh L, i, l, r, t) = if xs0 = 0 then px_X d 211 (80, [vR 123, vI x1, vI x2, vI x3, vI 0, vI x5, vI (px_w32 (x6 + 1)), vI x7, vI x8, v9], []) (px_sh L, i, l, r, t) else px_X d 211 (80, [vR 123, vI x1, vI x2, vI x3, vI 1, vI x5, vI (px_w32 (x6 + 1)), vI x7, vI x8, v9], []) (px_sh L, i, l, r, t) := ((xs_ieq k211_206).trans (px_ite (fun c1 => ((xs_ic k211_213 (by omega)).trans ((xs_ist k211_214 (Nat.le_of_ble_eq_true rfl) (ls' := [vR 123, vI x1, vI x2, vI x3, vI 0, vI x5, vI x6, vI x7, vI x8, v9]) rfl).trans ((xs_iinc k211_216 rfl (by omega) (ls' := [vR 123, vI x1, vI x2, vI x3, vI 0, vI x5, vI (px_w32 (x6 + 1)), vI x7, vI x8, v9]) rfl).trans (xs_goto k211_219))))) (fun c1 => ((xs_ic k211_209 (by omega)).trans ((xs_goto k211_210).trans ((xs_ist k211_214 (Nat.le_of_ble_eq_true rfl) (ls' := [vR 123, vI x1, vI x2, vI x3, vI 1, vI x5, vI x6, vI x7, vI x8, v9]) rfl).trans ((xs_iinc k211_216 rfl (by omega) (ls' := [vR 123, vI x1, vI x2, vI x3, vI 1, vI x5, vI (px_w32 (x6 + 1)), vI x7, vI x8, v9]) rfl).trans (xs_goto k211_219))))))))
-- TideGuestsModel.laysPath ('R123', 'I')
theorem b212_0 (hr : px_hr r) (d : Nat) (i l : MI) (x1 : Int) : px_X d 212 (0, [vR 123, vI x1, vJ, vJ, vJ, vJ, vJ], []) (px_sh L, i, l, r, t) = px_X d 212 (2, [vR 123, vI x1, vI 0, vJ, vJ, vJ, vJ], []) (px_sh L, i, l, r, t) := ((xs_ic k212_0 (by omega)).trans (xs_istn k212_1 (Nat.le_of_ble_eq_true rfl) (ls' := [vR 123, vI x1, vI 0, vJ, vJ, vJ, vJ]) rfl))
theorem b212_2 (hr : px_hr r) (d : Nat) (i l : MI) (x1 : Int) (x2 : Int) (h1 : (¬ ((i 123 2) ≤ x2)) → 0 ≤ (px_w32 ((px_w32 (36 * x1)) + x2)) ∧ (px_w32 ((px_w32 (36 * x1)) + x2)) < 1332) (h2 : (¬ ((i 123 2) ≤ x2)) → ((i 147 (px_w32 ((px_w32 (36 * x1)) + x2))) = 0) → 0 ≤ (px_w32 ((px_w32 (36 * x1)) + x2)) ∧ (px_w32 ((px_w32 (36 * x1)) + x2)) < 1332) : px_X (d + 1) 212 (2, [vR 123, vI x1, vI x2, vJ, vJ, vJ, vJ], []) (px_sh L, i, l, r, t) = if (i 123 2) ≤ x2 then px_X (d + 1) 212 (58, [vR 123, vI x1, vI (px_w32 (x1 - 1)), vJ, vJ, vJ, vJ], []) (px_sh L, i, l, r, t) else if (i 147 (px_w32 ((px_w32 (36 * x1)) + x2))) = 0 then px_X (d + 1) 212 (2, [vR 123, vI x1, vI (px_w32 (x2 + 1)), vJ, vJ, vJ, vJ], []) (px_sh L, (px_up i 147 (px_w32 ((px_w32 (36 * x1)) + x2)) 0), l, r, t) else (px_C d 209 [vR 123, vI x2] (px_sh L, i, l, r, t)).bind (fun q => px_X (d + 1) 212 (px_psh (39, [vR 123, vI x1, vI x2, vJ, vJ, vJ, vJ], [vI (px_w32 ((px_w32 (36 * x1)) + x2)), vR 147]) q.1) q.2) := ((xs_ildn k212_2 rfl).trans ((xs_aldn k212_3 rfl).trans ((xs_get0 k212_4 (px_s123 L) (Nat.le_of_ble_eq_true rfl)).trans ((xs_jge k212_7).trans (px_ite (fun c1 => ((xs_ildn k212_54 rfl).trans ((xs_ic k212_55 (by omega)).trans ((xs_isub k212_56).trans (xs_istn k212_57 (Nat.le_of_ble_eq_true rfl) (ls' := [vR 123, vI x1, vI (px_w32 (x1 - 1)), vJ, vJ, vJ, vJ]) rfl))))) (fun c1 => ((xs_aldn k212_10 rfl).trans ((xs_get4 k212_11 (px_s123 L) (Nat.le_of_ble_eq_true rfl) (px_r123_43 hr)).trans ((xs_bi k212_14 (by omega)).trans ((xs_ildn k212_16 rfl).trans ((xs_imul k212_17).trans ((xs_ildn k212_18 rfl).trans ((xs_iadd k212_19).trans ((xs_aldn k212_20 rfl).trans ((xs_get4 k212_21 (px_s123 L) (Nat.le_of_ble_eq_true rfl) (px_r123_43 hr)).trans ((xs_bi k212_24 (by omega)).trans ((xs_ildn k212_26 rfl).trans ((xs_imul k212_27).trans ((xs_ildn k212_28 rfl).trans ((xs_iadd k212_29).trans ((xs_bald2 k212_30 (px_s147 L) (h1 c1)).trans ((xs_ieq k212_31).trans (px_ite (fun c2 => ((xs_ic k212_46 (by omega)).trans ((xs_bast2 k212_47 (px_s147 L) (h2 c1 c2) (Nat.le_of_ble_eq_true rfl) (by omega)).trans ((xs_iinc k212_48 rfl (by omega) (ls' := [vR 123, vI x1, vI (px_w32 (x2 + 1)), vJ, vJ, vJ, vJ]) rfl).trans (xs_goto k212_51))))) (fun c2 => ((xs_aldn k212_34 rfl).trans ((xs_ildn k212_35 rfl).trans (xs_callvB k212_36 (as := [vI x2]) rfl rfl (Nat.le_of_ble_eq_true rfl) (Nat.le_of_ble_eq_true rfl) (Nat.le_of_ble_eq_true rfl) (px_s123 L) (Nat.le_of_ble_eq_true rfl))))))))))))))))))))))))))))
theorem b212_39 (hr : px_hr r) (d : Nat) (i l : MI) (x1 : Int) (x2 : Int) (xs0 : Int) (xs1 : Int) (h1 : (xs0 = 0) → 0 ≤ xs1 ∧ xs1 < 1332) (h2 : (¬ (xs0 = 0)) → 0 ≤ xs1 ∧ xs1 < 1332) : px_X d 212 (39, [vR 123, vI x1, vI x2, vJ, vJ, vJ, vJ], [vI xs0, vI xs1, vR 147]) (px_sh L, i, l, r, t) = if xs0 = 0 then px_X d 212 (2, [vR 123, vI x1, vI (px_w32 (x2 + 1)), vJ, vJ, vJ, vJ], []) (px_sh L, (px_up i 147 xs1 0), l, r, t) else px_X d 212 (2, [vR 123, vI x1, vI (px_w32 (x2 + 1)), vJ, vJ, vJ, vJ], []) (px_sh L, (px_up i 147 xs1 1), l, r, t) := ((xs_ieq k212_39).trans (px_ite (fun c1 => ((xs_ic k212_46 (by omega)).trans ((xs_bast2 k212_47 (px_s147 L) (h1 c1) (Nat.le_of_ble_eq_true rfl) (by omega)).trans ((xs_iinc k212_48 rfl (by omega) (ls' := [vR 123, vI x1, vI (px_w32 (x2 + 1)), vJ, vJ, vJ, vJ]) rfl).trans (xs_goto k212_51))))) (fun c1 => ((xs_ic k212_42 (by omega)).trans ((xs_goto k212_43).trans ((xs_bast2 k212_47 (px_s147 L) (h2 c1) (Nat.le_of_ble_eq_true rfl) (by omega)).trans ((xs_iinc k212_48 rfl (by omega) (ls' := [vR 123, vI x1, vI (px_w32 (x2 + 1)), vJ, vJ, vJ, vJ]) rfl).trans (xs_goto k212_51))))))))
theorem b212_58 (hr : px_hr r) (d : Nat) (i l : MI) (x1 : Int) (x2 : Int) {v3 : PV} (hn3 : px_nl v3) {v4 : PV} (hn4 : px_nl v4) {v5 : PV} (hn5 : px_nl v5) {v6 : PV} (hn6 : px_nl v6) : px_X d 212 (58, [vR 123, vI x1, vI x2, v3, v4, v5, v6], []) (px_sh L, i, l, r, t) = if x2 < 0 then px_X d 212 (190, [vR 123, vI x1, vI (i 124 0), vI 1, v4, v5, v6], []) (px_sh L, i, l, r, t) else px_X d 212 (64, [vR 123, vI x1, vI x2, vI 0, v4, v5, v6], []) (px_sh L, i, l, r, t) := ((xs_ildn k212_58 rfl).trans ((xs_ilt k212_59).trans (px_ite (fun c1 => ((xs_aldn k212_181 rfl).trans ((xs_get4 k212_182 (px_s123 L) (Nat.le_of_ble_eq_true rfl) (px_r123_3 hr)).trans ((xs_ic k212_185 (by omega)).trans ((xs_iald k212_186 (px_s124 L) (by omega)).trans ((xs_istn k212_187 (Nat.le_of_ble_eq_true rfl) (ls' := [vR 123, vI x1, vI (i 124 0), v3, v4, v5, v6]) rfl).trans ((xs_ic k212_188 (by omega)).trans (xs_istn k212_189 (Nat.le_of_ble_eq_true rfl) (ls' := [vR 123, vI x1, vI (i 124 0), vI 1, v4, v5, v6]) rfl)))))))) (fun c1 => ((xs_ic k212_62 (by omega)).trans (xs_istn k212_63 (Nat.le_of_ble_eq_true rfl) (ls' := [vR 123, vI x1, vI x2, vI 0, v4, v5, v6]) rfl))))))
theorem b212_64 (hr : px_hr r) (d : Nat) (i l : MI) (x1 : Int) (x2 : Int) (x3 : Int) {v4 : PV} (hn4 : px_nl v4) {v5 : PV} (hn5 : px_nl v5) {v6 : PV} (hn6 : px_nl v6) : px_X d 212 (64, [vR 123, vI x1, vI x2, vI x3, v4, v5, v6], []) (px_sh L, i, l, r, t) = if (i 123 2) ≤ x3 then px_X d 212 (58, [vR 123, vI x1, vI (px_w32 (x2 + (-1))), vI x3, v4, v5, v6], []) (px_sh L, i, l, r, t) else px_X d 212 (78, [vR 123, vI x1, vI x2, vI x3, vI 0, vI 0, v6], []) (px_sh L, i, l, r, t) := ((xs_ildn k212_64 rfl).trans ((xs_aldn k212_65 rfl).trans ((xs_get0 k212_66 (px_s123 L) (Nat.le_of_ble_eq_true rfl)).trans ((xs_jge k212_69).trans (px_ite (fun c1 => ((xs_iinc k212_175 rfl (by omega) (ls' := [vR 123, vI x1, vI (px_w32 (x2 + (-1))), vI x3, v4, v5, v6]) rfl).trans (xs_goto k212_178))) (fun c1 => ((xs_ic k212_72 (by omega)).trans ((xs_ist k212_73 (Nat.le_of_ble_eq_true rfl) (ls' := [vR 123, vI x1, vI x2, vI x3, vI 0, v5, v6]) rfl).trans ((xs_ic k212_75 (by omega)).trans (xs_ist k212_76 (Nat.le_of_ble_eq_true rfl) (ls' := [vR 123, vI x1, vI x2, vI x3, vI 0, vI 0, v6]) rfl))))))))))
theorem b212_78 (hr : px_hr r) (d : Nat) (i l : MI) (x1 : Int) (x2 : Int) (x3 : Int) (x4 : Int) (x5 : Int) {v6 : PV} (hn6 : px_nl v6) (h1 : (4 ≤ x5) → 0 ≤ (px_w32 ((px_w32 (36 * x2)) + x3)) ∧ (px_w32 ((px_w32 (36 * x2)) + x3)) < 1332) (h2 : (4 ≤ x5) → ((i 147 (px_w32 ((px_w32 (36 * x2)) + x3))) = 0) → 0 ≤ (px_w32 ((px_w32 (36 * x2)) + x3)) ∧ (px_w32 ((px_w32 (36 * x2)) + x3)) < 1332) (h3 : (4 ≤ x5) → (¬ ((i 147 (px_w32 ((px_w32 (36 * x2)) + x3))) = 0)) → (x4 = 0) → 0 ≤ (px_w32 ((px_w32 (36 * x2)) + x3)) ∧ (px_w32 ((px_w32 (36 * x2)) + x3)) < 1332) (h4 : (4 ≤ x5) → (¬ ((i 147 (px_w32 ((px_w32 (36 * x2)) + x3))) = 0)) → (¬ (x4 = 0)) → 0 ≤ (px_w32 ((px_w32 (36 * x2)) + x3)) ∧ (px_w32 ((px_w32 (36 * x2)) + x3)) < 1332) : px_X (d + 1) 212 (78, [vR 123, vI x1, vI x2, vI x3, vI x4, vI x5, v6], []) (px_sh L, i, l, r, t) = if 4 ≤ x5 then if (i 147 (px_w32 ((px_w32 (36 * x2)) + x3))) = 0 then px_X (d + 1) 212 (64, [vR 123, vI x1, vI x2, vI (px_w32 (x3 + 1)), vI x4, vI x5, v6], []) (px_sh L, (px_up i 147 (px_w32 ((px_w32 (36 * x2)) + x3)) 0), l, r, t) else if x4 = 0 then px_X (d + 1) 212 (64, [vR 123, vI x1, vI x2, vI (px_w32 (x3 + 1)), vI x4, vI x5, v6], []) (px_sh L, (px_up i 147 (px_w32 ((px_w32 (36 * x2)) + x3)) 0), l, r, t) else px_X (d + 1) 212 (64, [vR 123, vI x1, vI x2, vI (px_w32 (x3 + 1)), vI x4, vI x5, v6], []) (px_sh L, (px_up i 147 (px_w32 ((px_w32 (36 * x2)) + x3)) 1), l, r, t) else (px_C d 210 [vR 123, vI x3, vI x5] (px_sh L, i, l, r, t)).bind (fun q => px_X (d + 1) 212 (px_psh (91, [vR 123, vI x1, vI x2, vI x3, vI x4, vI x5, v6], []) q.1) q.2) := ((xs_ild k212_78 rfl).trans ((xs_ic k212_80 (by omega)).trans ((xs_jge k212_81).trans (px_ite (fun c1 => ((xs_aldn k212_134 rfl).trans ((xs_get4 k212_135 (px_s123 L) (Nat.le_of_ble_eq_true rfl) (px_r123_43 hr)).trans ((xs_bi k212_138 (by omega)).trans ((xs_ildn k212_140 rfl).trans ((xs_imul k212_141).trans ((xs_ildn k212_142 rfl).trans ((xs_iadd k212_143).trans ((xs_aldn k212_144 rfl).trans ((xs_get4 k212_145 (px_s123 L) (Nat.le_of_ble_eq_true rfl) (px_r123_43 hr)).trans ((xs_bi k212_148 (by omega)).trans ((xs_ildn k212_150 rfl).trans ((xs_imul k212_151).trans ((xs_ildn k212_152 rfl).trans ((xs_iadd k212_153).trans ((xs_bald2 k212_154 (px_s147 L) (h1 c1)).trans ((xs_ieq k212_155).trans (px_ite (fun c2 => ((xs_ic k212_167 (by omega)).trans ((xs_bast2 k212_168 (px_s147 L) (h2 c1 c2) (Nat.le_of_ble_eq_true rfl) (by omega)).trans ((xs_iinc k212_169 rfl (by omega) (ls' := [vR 123, vI x1, vI x2, vI (px_w32 (x3 + 1)), vI x4, vI x5, v6]) rfl).trans (xs_goto k212_172))))) (fun c2 => ((xs_ild k212_158 rfl).trans ((xs_ieq k212_160).trans (px_ite (fun c3 => ((xs_ic k212_167 (by omega)).trans ((xs_bast2 k212_168 (px_s147 L) (h3 c1 c2 c3) (Nat.le_of_ble_eq_true rfl) (by omega)).trans ((xs_iinc k212_169 rfl (by omega) (ls' := [vR 123, vI x1, vI x2, vI (px_w32 (x3 + 1)), vI x4, vI x5, v6]) rfl).trans (xs_goto k212_172))))) (fun c3 => ((xs_ic k212_163 (by omega)).trans ((xs_goto k212_164).trans ((xs_bast2 k212_168 (px_s147 L) (h4 c1 c2 c3) (Nat.le_of_ble_eq_true rfl) (by omega)).trans ((xs_iinc k212_169 rfl (by omega) (ls' := [vR 123, vI x1, vI x2, vI (px_w32 (x3 + 1)), vI x4, vI x5, v6]) rfl).trans (xs_goto k212_172)))))))))))))))))))))))))))) (fun c1 => ((xs_aldn k212_84 rfl).trans ((xs_ildn k212_85 rfl).trans ((xs_ild k212_86 rfl).trans (xs_callvB k212_88 (as := [vI x3, vI x5]) rfl rfl (Nat.le_of_ble_eq_true rfl) (Nat.le_of_ble_eq_true rfl) (Nat.le_of_ble_eq_true rfl) (px_s123 L) (Nat.le_of_ble_eq_true rfl))))))))))
theorem b212_91 (hr : px_hr r) (d : Nat) (i l : MI) (x1 : Int) (x2 : Int) (x3 : Int) (x4 : Int) (x5 : Int) {v6 : PV} (hn6 : px_nl v6) (xs0 : Int) (h1 : (x4 = 0) → (¬ (xs0 = (-1))) → 0 ≤ (px_w32 ((px_w32 (36 * (px_w32 (x2 + 1)))) + xs0)) ∧ (px_w32 ((px_w32 (36 * (px_w32 (x2 + 1)))) + xs0)) < 1332) : px_X d 212 (91, [vR 123, vI x1, vI x2, vI x3, vI x4, vI x5, v6], [vI xs0]) (px_sh L, i, l, r, t) = if x4 = 0 then if xs0 = (-1) then px_X d 212 (78, [vR 123, vI x1, vI x2, vI x3, vI 0, vI (px_w32 (x5 + 1)), vI xs0], []) (px_sh L, i, l, r, t) else if (i 147 (px_w32 ((px_w32 (36 * (px_w32 (x2 + 1)))) + xs0))) = 0 then px_X d 212 (78, [vR 123, vI x1, vI x2, vI x3, vI 0, vI (px_w32 (x5 + 1)), vI xs0], []) (px_sh L, i, l, r, t) else px_X d 212 (78, [vR 123, vI x1, vI x2, vI x3, vI 1, vI (px_w32 (x5 + 1)), vI xs0], []) (px_sh L, i, l, r, t) else px_X d 212 (78, [vR 123, vI x1, vI x2, vI x3, vI 1, vI (px_w32 (x5 + 1)), vI xs0], []) (px_sh L, i, l, r, t) := ((xs_ist k212_91 (Nat.le_of_ble_eq_true rfl) (ls' := [vR 123, vI x1, vI x2, vI x3, vI x4, vI x5, vI xs0]) rfl).trans ((xs_ild k212_93 rfl).trans ((xs_ine k212_95).trans (px_ite (fun c1 => ((xs_ild k212_98 rfl).trans ((xs_ic k212_100 (by omega)).trans ((xs_jeq k212_101).trans (px_ite (fun c2 => ((xs_ic k212_125 (by omega)).trans ((xs_ist k212_126 (Nat.le_of_ble_eq_true rfl) (ls' := [vR 123, vI x1, vI x2, vI x3, vI 0, vI x5, vI xs0]) rfl).trans ((xs_iinc k212_128 rfl (by omega) (ls' := [vR 123, vI x1, vI x2, vI x3, vI 0, vI (px_w32 (x5 + 1)), vI xs0]) rfl).trans (xs_goto k212_131))))) (fun c2 => ((xs_aldn k212_104 rfl).trans ((xs_get4 k212_105 (px_s123 L) (Nat.le_of_ble_eq_true rfl) (px_r123_43 hr)).trans ((xs_bi k212_108 (by omega)).trans ((xs_ildn k212_110 rfl).trans ((xs_ic k212_111 (by omega)).trans ((xs_iadd k212_112).trans ((xs_imul k212_113).trans ((xs_ild k212_114 rfl).trans ((xs_iadd k212_116).trans ((xs_bald2 k212_117 (px_s147 L) (h1 c1 c2)).trans ((xs_ieq k212_118).trans (px_ite (fun c3 => ((xs_ic k212_125 (by omega)).trans ((xs_ist k212_126 (Nat.le_of_ble_eq_true rfl) (ls' := [vR 123, vI x1, vI x2, vI x3, vI 0, vI x5, vI xs0]) rfl).trans ((xs_iinc k212_128 rfl (by omega) (ls' := [vR 123, vI x1, vI x2, vI x3, vI 0, vI (px_w32 (x5 + 1)), vI xs0]) rfl).trans (xs_goto k212_131))))) (fun c3 => ((xs_ic k212_121 (by omega)).trans ((xs_goto k212_122).trans ((xs_ist k212_126 (Nat.le_of_ble_eq_true rfl) (ls' := [vR 123, vI x1, vI x2, vI x3, vI 1, vI x5, vI xs0]) rfl).trans ((xs_iinc k212_128 rfl (by omega) (ls' := [vR 123, vI x1, vI x2, vI x3, vI 1, vI (px_w32 (x5 + 1)), vI xs0]) rfl).trans (xs_goto k212_131)))))))))))))))))))))))) (fun c1 => ((xs_ic k212_121 (by omega)).trans ((xs_goto k212_122).trans ((xs_ist k212_126 (Nat.le_of_ble_eq_true rfl) (ls' := [vR 123, vI x1, vI x2, vI x3, vI 1, vI x5, vI xs0]) rfl).trans ((xs_iinc k212_128 rfl (by omega) (ls' := [vR 123, vI x1, vI x2, vI x3, vI 1, vI (px_w32 (x5 + 1)), vI xs0]) rfl).trans (xs_goto k212_131))))))))))
theorem b212_190 (hr : px_hr r) (d : Nat) (i l : MI) (x1 : Int) (x2 : Int) (x3 : Int) {v4 : PV} (hn4 : px_nl v4) {v5 : PV} (hn5 : px_nl v5) {v6 : PV} (hn6 : px_nl v6) : px_X d 212 (190, [vR 123, vI x1, vI x2, vI x3, v4, v5, v6], []) (px_sh L, i, l, r, t) = if x1 < x3 then some (none, (px_sh L, i, l, r, t)) else px_X d 212 (201, [vR 123, vI x1, vI x2, vI x3, vI (-1), vI 0, v6], []) (px_sh L, i, l, r, t) := ((xs_ildn k212_190 rfl).trans ((xs_ildn k212_191 rfl).trans ((xs_jgt k212_192).trans (px_ite (fun c1 => (xs_rv k212_284 rfl)) (fun c1 => ((xs_ic k212_195 (by omega)).trans ((xs_ist k212_196 (Nat.le_of_ble_eq_true rfl) (ls' := [vR 123, vI x1, vI x2, vI x3, vI (-1), v5, v6]) rfl).trans ((xs_ic k212_198 (by omega)).trans (xs_ist k212_199 (Nat.le_of_ble_eq_true rfl) (ls' := [vR 123, vI x1, vI x2, vI x3, vI (-1), vI 0, v6]) rfl)))))))))
theorem b212_201 (hr : px_hr r) (d : Nat) (i l : MI) (x1 : Int) (x2 : Int) (x3 : Int) (x4 : Int) (x5 : Int) {v6 : PV} (hn6 : px_nl v6) (h1 : (4 ≤ x5) → 0 ≤ (px_w32 (x3 - 1)) ∧ (px_w32 (x3 - 1)) < 36) : px_X (d + 1) 212 (201, [vR 123, vI x1, vI x2, vI x3, vI x4, vI x5, v6], []) (px_sh L, i, l, r, t) = if 4 ≤ x5 then px_X (d + 1) 212 (190, [vR 123, vI x1, vI x4, vI (px_w32 (x3 + 1)), vI x4, vI x5, v6], []) (px_sh L, (px_up i 148 (px_w32 (x3 - 1)) x4), l, r, t) else (px_C d 210 [vR 123, vI x2, vI x5] (px_sh L, i, l, r, t)).bind (fun q => px_X (d + 1) 212 (px_psh (214, [vR 123, vI x1, vI x2, vI x3, vI x4, vI x5, v6], []) q.1) q.2) := ((xs_ild k212_201 rfl).trans ((xs_ic k212_203 (by omega)).trans ((xs_jge k212_204).trans (px_ite (fun c1 => ((xs_aldn k212_265 rfl).trans ((xs_get4 k212_266 (px_s123 L) (Nat.le_of_ble_eq_true rfl) (px_r123_44 hr)).trans ((xs_ildn k212_269 rfl).trans ((xs_ic k212_270 (by omega)).trans ((xs_isub k212_271).trans ((xs_ild k212_272 rfl).trans ((xs_iast k212_274 (px_s148 L) (h1 c1) (Nat.le_of_ble_eq_true rfl)).trans ((xs_ild k212_275 rfl).trans ((xs_istn k212_277 (Nat.le_of_ble_eq_true rfl) (ls' := [vR 123, vI x1, vI x4, vI x3, vI x4, vI x5, v6]) rfl).trans ((xs_iinc k212_278 rfl (by omega) (ls' := [vR 123, vI x1, vI x4, vI (px_w32 (x3 + 1)), vI x4, vI x5, v6]) rfl).trans (xs_goto k212_281)))))))))))) (fun c1 => ((xs_aldn k212_207 rfl).trans ((xs_ildn k212_208 rfl).trans ((xs_ild k212_209 rfl).trans (xs_callvB k212_211 (as := [vI x2, vI x5]) rfl rfl (Nat.le_of_ble_eq_true rfl) (Nat.le_of_ble_eq_true rfl) (Nat.le_of_ble_eq_true rfl) (px_s123 L) (Nat.le_of_ble_eq_true rfl))))))))))
theorem b212_214 (hr : px_hr r) (d : Nat) (i l : MI) (x1 : Int) (x2 : Int) (x3 : Int) (x4 : Int) (x5 : Int) {v6 : PV} (hn6 : px_nl v6) (xs0 : Int) (h1 : (¬ (xs0 = (-1))) → 0 ≤ (px_w32 ((px_w32 (36 * x3)) + xs0)) ∧ (px_w32 ((px_w32 (36 * x3)) + xs0)) < 1332) : px_X d 212 (214, [vR 123, vI x1, vI x2, vI x3, vI x4, vI x5, v6], [vI xs0]) (px_sh L, i, l, r, t) = if xs0 = (-1) then px_X d 212 (201, [vR 123, vI x1, vI x2, vI x3, vI x4, vI (px_w32 (x5 + 1)), vI xs0], []) (px_sh L, i, l, r, t) else if (i 147 (px_w32 ((px_w32 (36 * x3)) + xs0))) = 0 then px_X d 212 (201, [vR 123, vI x1, vI x2, vI x3, vI x4, vI (px_w32 (x5 + 1)), vI xs0], []) (px_sh L, i, l, r, t) else if x4 = (-1) then px_X d 212 (201, [vR 123, vI x1, vI x2, vI x3, vI xs0, vI (px_w32 (x5 + 1)), vI xs0], []) (px_sh L, i, l, r, t) else if x4 ≤ xs0 then px_X d 212 (201, [vR 123, vI x1, vI x2, vI x3, vI x4, vI (px_w32 (x5 + 1)), vI xs0], []) (px_sh L, i, l, r, t) else px_X d 212 (201, [vR 123, vI x1, vI x2, vI x3, vI xs0, vI (px_w32 (x5 + 1)), vI xs0], []) (px_sh L, i, l, r, t) := ((xs_ist k212_214 (Nat.le_of_ble_eq_true rfl) (ls' := [vR 123, vI x1, vI x2, vI x3, vI x4, vI x5, vI xs0]) rfl).trans ((xs_ild k212_216 rfl).trans ((xs_ic k212_218 (by omega)).trans ((xs_jeq k212_219).trans (px_ite (fun c1 => ((xs_ild k212_255 rfl).trans ((xs_ist k212_257 (Nat.le_of_ble_eq_true rfl) (ls' := [vR 123, vI x1, vI x2, vI x3, vI x4, vI x5, vI xs0]) rfl).trans ((xs_iinc k212_259 rfl (by omega) (ls' := [vR 123, vI x1, vI x2, vI x3, vI x4, vI (px_w32 (x5 + 1)), vI xs0]) rfl).trans (xs_goto k212_262))))) (fun c1 => ((xs_aldn k212_222 rfl).trans ((xs_get4 k212_223 (px_s123 L) (Nat.le_of_ble_eq_true rfl) (px_r123_43 hr)).trans ((xs_bi k212_226 (by omega)).trans ((xs_ildn k212_228 rfl).trans ((xs_imul k212_229).trans ((xs_ild k212_230 rfl).trans ((xs_iadd k212_232).trans ((xs_bald2 k212_233 (px_s147 L) (h1 c1)).trans ((xs_ieq k212_234).trans (px_ite (fun c2 => ((xs_ild k212_255 rfl).trans ((xs_ist k212_257 (Nat.le_of_ble_eq_true rfl) (ls' := [vR 123, vI x1, vI x2, vI x3, vI x4, vI x5, vI xs0]) rfl).trans ((xs_iinc k212_259 rfl (by omega) (ls' := [vR 123, vI x1, vI x2, vI x3, vI x4, vI (px_w32 (x5 + 1)), vI xs0]) rfl).trans (xs_goto k212_262))))) (fun c2 => ((xs_ild k212_237 rfl).trans ((xs_ic k212_239 (by omega)).trans ((xs_jeq k212_240).trans (px_ite (fun c3 => ((xs_ild k212_250 rfl).trans ((xs_goto k212_252).trans ((xs_ist k212_257 (Nat.le_of_ble_eq_true rfl) (ls' := [vR 123, vI x1, vI x2, vI x3, vI xs0, vI x5, vI xs0]) rfl).trans ((xs_iinc k212_259 rfl (by omega) (ls' := [vR 123, vI x1, vI x2, vI x3, vI xs0, vI (px_w32 (x5 + 1)), vI xs0]) rfl).trans (xs_goto k212_262)))))) (fun c3 => ((xs_ild k212_243 rfl).trans ((xs_ild k212_245 rfl).trans ((xs_jge k212_247).trans (px_ite (fun c4 => ((xs_ild k212_255 rfl).trans ((xs_ist k212_257 (Nat.le_of_ble_eq_true rfl) (ls' := [vR 123, vI x1, vI x2, vI x3, vI x4, vI x5, vI xs0]) rfl).trans ((xs_iinc k212_259 rfl (by omega) (ls' := [vR 123, vI x1, vI x2, vI x3, vI x4, vI (px_w32 (x5 + 1)), vI xs0]) rfl).trans (xs_goto k212_262))))) (fun c4 => ((xs_ild k212_250 rfl).trans ((xs_goto k212_252).trans ((xs_ist k212_257 (Nat.le_of_ble_eq_true rfl) (ls' := [vR 123, vI x1, vI x2, vI x3, vI xs0, vI x5, vI xs0]) rfl).trans ((xs_iinc k212_259 rfl (by omega) (ls' := [vR 123, vI x1, vI x2, vI x3, vI xs0, vI (px_w32 (x5 + 1)), vI xs0]) rfl).trans (xs_goto k212_262))))))))))))))))))))))))))))))))
-- TideGuestsModel.way ('R123', 'I', 'I', 'I')
theorem b213_0 (hr : px_hr r) (d : Nat) (i l : MI) (x1 : Int) (x2 : Int) (x3 : Int) : px_X (d + 1) 213 (0, [vR 123, vI x1, vI x2, vI x3, vJ], []) (px_sh L, i, l, r, t) = (px_C d 144 [vR 123, vI x1] (px_sh L, i, l, r, t)).bind (fun q => px_X (d + 1) 213 (px_psh (5, [vR 123, vI x1, vI x2, vI x3, vJ], []) q.1) q.2) := ((xs_aldn k213_0 rfl).trans ((xs_ildn k213_1 rfl).trans (xs_callvB k213_2 (as := [vI x1]) rfl rfl (Nat.le_of_ble_eq_true rfl) (Nat.le_of_ble_eq_true rfl) (Nat.le_of_ble_eq_true rfl) (px_s123 L) (Nat.le_of_ble_eq_true rfl))))
theorem b213_5 (hr : px_hr r) (d : Nat) (i l : MI) (x1 : Int) (x2 : Int) (x3 : Int) (xs0 : Int) : px_X (d + 1) 213 (5, [vR 123, vI x1, vI x2, vI x3, vJ], [vI xs0]) (px_sh L, i, l, r, t) = if xs0 = 0 then some (some (vI (-1)), (px_sh L, i, l, r, t)) else (px_C d 145 [vI x2] (px_sh L, i, l, r, t)).bind (fun q => px_X (d + 1) 213 (px_psh (12, [vR 123, vI x1, vI x2, vI x3, vJ], []) q.1) q.2) := ((xs_ieq k213_5).trans (px_ite (fun c1 => ((xs_ic k213_20 (by omega)).trans (xs_ri k213_21 rfl))) (fun c1 => ((xs_ildn k213_8 rfl).trans (xs_callsB k213_9 (as := [vI x2]) rfl rfl (Nat.le_of_ble_eq_true rfl) (Nat.le_of_ble_eq_true rfl) (Nat.le_of_ble_eq_true rfl))))))
theorem b213_12 (hr : px_hr r) (d : Nat) (i l : MI) (x1 : Int) (x2 : Int) (x3 : Int) (xs0 : Int) : px_X (d + 1) 213 (12, [vR 123, vI x1, vI x2, vI x3, vJ], [vI xs0]) (px_sh L, i, l, r, t) = if xs0 = 0 then some (some (vI (-1)), (px_sh L, i, l, r, t)) else if (-1) ≤ x3 then (px_C d 207 [vR 123] (px_sh L, i, l, r, t)).bind (fun q => px_X (d + 1) 213 (px_psh (26, [vR 123, vI x1, vI x2, vI x3, vJ], []) q.1) q.2) else some (some (vI (-1)), (px_sh L, i, l, r, t)) := ((xs_ieq k213_12).trans (px_ite (fun c1 => ((xs_ic k213_20 (by omega)).trans (xs_ri k213_21 rfl))) (fun c1 => ((xs_ildn k213_15 rfl).trans ((xs_ic k213_16 (by omega)).trans ((xs_jge k213_17).trans (px_ite (fun c2 => ((xs_aldn k213_22 rfl).trans (xs_callvB k213_23 (as := []) rfl rfl (Nat.le_of_ble_eq_true rfl) (Nat.le_of_ble_eq_true rfl) (Nat.le_of_ble_eq_true rfl) (px_s123 L) (Nat.le_of_ble_eq_true rfl)))) (fun c2 => ((xs_ic k213_20 (by omega)).trans (xs_ri k213_21 rfl))))))))))
theorem b213_26 (hr : px_hr r) (d : Nat) (i l : MI) (x1 : Int) (x2 : Int) (x3 : Int) : px_X (d + 1) 213 (26, [vR 123, vI x1, vI x2, vI x3, vJ], []) (px_sh L, i, l, r, t) = (px_C d 211 [vR 123, vI x1, vI x2] (px_sh L, i, l, r, t)).bind (fun q => px_X (d + 1) 213 (px_psh (32, [vR 123, vI x1, vI x2, vI x3, vJ], []) q.1) q.2) := ((xs_aldn k213_26 rfl).trans ((xs_ildn k213_27 rfl).trans ((xs_ildn k213_28 rfl).trans (xs_callvB k213_29 (as := [vI x1, vI x2]) rfl rfl (Nat.le_of_ble_eq_true rfl) (Nat.le_of_ble_eq_true rfl) (Nat.le_of_ble_eq_true rfl) (px_s123 L) (Nat.le_of_ble_eq_true rfl)))))
theorem b213_32 (hr : px_hr r) (d : Nat) (i l : MI) (x1 : Int) (x2 : Int) (x3 : Int) (xs0 : Int) : px_X (d + 1) 213 (32, [vR 123, vI x1, vI x2, vI x3, vJ], [vI xs0]) (px_sh L, i, l, r, t) = if x3 = (-1) then px_X (d + 1) 213 (45, [vR 123, vI x1, vI x2, vI x3, vI xs0], []) (px_sh L, i, l, r, t) else if x3 < xs0 then (px_C d 212 [vR 123, vI xs0] (px_sh L, i, l, r, t)).bind (fun q => px_X (d + 1) 213 (px_psh (63, [vR 123, vI x1, vI x2, vI x3, vI xs0], []) q.1) q.2) else px_X (d + 1) 213 (45, [vR 123, vI x1, vI x2, vI x3, vI xs0], []) (px_sh L, i, l, r, t) := ((xs_ist k213_32 (Nat.le_of_ble_eq_true rfl) (ls' := [vR 123, vI x1, vI x2, vI x3, vI xs0]) rfl).trans ((xs_ildn k213_34 rfl).trans ((xs_ic k213_35 (by omega)).trans ((xs_jeq k213_36).trans (px_ite (fun c1 => rfl) (fun c1 => ((xs_ildn k213_39 rfl).trans ((xs_ild k213_40 rfl).trans ((xs_jlt k213_42).trans (px_ite (fun c2 => ((xs_aldn k213_57 rfl).trans ((xs_ild k213_58 rfl).trans (xs_callvB k213_60 (as := [vI xs0]) rfl rfl (Nat.le_of_ble_eq_true rfl) (Nat.le_of_ble_eq_true rfl) (Nat.le_of_ble_eq_true rfl) (px_s123 L) (Nat.le_of_ble_eq_true rfl))))) (fun c2 => rfl)))))))))))
theorem b213_45 (hr : px_hr r) (d : Nat) (i l : MI) (x1 : Int) (x2 : Int) (x3 : Int) (x4 : Int) : px_X d 213 (45, [vR 123, vI x1, vI x2, vI x3, vI x4], []) (px_sh L, i, l, r, t) = if x3 = (-1) then some (some (vI x4), (px_sh L, i, l, r, t)) else some (some (vI (-1)), (px_sh L, i, l, r, t)) := ((xs_ildn k213_45 rfl).trans ((xs_ic k213_46 (by omega)).trans ((xs_jne k213_47).trans (px_ite (fun c1 => ((xs_ild k213_50 rfl).trans ((xs_goto k213_52).trans (xs_ri k213_56 rfl)))) (fun c1 => ((xs_ic k213_55 (by omega)).trans (xs_ri k213_56 rfl)))))))
theorem b213_63 (hr : px_hr r) (d : Nat) (i l : MI) (x1 : Int) (x2 : Int) (x3 : Int) (x4 : Int) (h1 : 0 ≤ x3 ∧ x3 < 36) : px_X d 213 (63, [vR 123, vI x1, vI x2, vI x3, vI x4], []) (px_sh L, i, l, r, t) = some (some (vI (i 148 x3)), (px_sh L, i, l, r, t)) := ((xs_aldn k213_63 rfl).trans ((xs_get4 k213_64 (px_s123 L) (Nat.le_of_ble_eq_true rfl) (px_r123_44 hr)).trans ((xs_ildn k213_67 rfl).trans ((xs_iald k213_68 (px_s148 L) (h1)).trans (xs_ri k213_69 rfl)))))
-- TideGuestsModel.last ('R123', 'I')
theorem b214_0 (hr : px_hr r) (d : Nat) (i l : MI) (x1 : Int) : px_X (d + 1) 214 (0, [vR 123, vI x1, vJ], []) (px_sh L, i, l, r, t) = (px_C d 144 [vR 123, vI x1] (px_sh L, i, l, r, t)).bind (fun q => px_X (d + 1) 214 (px_psh (5, [vR 123, vI x1, vJ], []) q.1) q.2) := ((xs_aldn k214_0 rfl).trans ((xs_ildn k214_1 rfl).trans (xs_callvB k214_2 (as := [vI x1]) rfl rfl (Nat.le_of_ble_eq_true rfl) (Nat.le_of_ble_eq_true rfl) (Nat.le_of_ble_eq_true rfl) (px_s123 L) (Nat.le_of_ble_eq_true rfl))))
theorem b214_5 (hr : px_hr r) (d : Nat) (i l : MI) (x1 : Int) (xs0 : Int) : px_X (d + 1) 214 (5, [vR 123, vI x1, vJ], [vI xs0]) (px_sh L, i, l, r, t) = if xs0 = 0 then some (some (vI (-1)), (px_sh L, i, l, r, t)) else (px_C d 207 [vR 123] (px_sh L, i, l, r, t)).bind (fun q => px_X (d + 1) 214 (px_psh (14, [vR 123, vI x1, vJ], []) q.1) q.2) := ((xs_ine k214_5).trans (px_ite (fun c1 => ((xs_ic k214_8 (by omega)).trans (xs_ri k214_9 rfl))) (fun c1 => ((xs_aldn k214_10 rfl).trans (xs_callvB k214_11 (as := []) rfl rfl (Nat.le_of_ble_eq_true rfl) (Nat.le_of_ble_eq_true rfl) (Nat.le_of_ble_eq_true rfl) (px_s123 L) (Nat.le_of_ble_eq_true rfl))))))
theorem b214_14 (hr : px_hr r) (d : Nat) (i l : MI) (x1 : Int) : px_X d 214 (14, [vR 123, vI x1, vJ], []) (px_sh L, i, l, r, t) = px_X d 214 (18, [vR 123, vI x1, vI 1439], []) (px_sh L, i, l, r, t) := ((xs_si k214_14 (by omega)).trans (xs_istn k214_17 (Nat.le_of_ble_eq_true rfl) (ls' := [vR 123, vI x1, vI 1439]) rfl))
theorem b214_18 (hr : px_hr r) (d : Nat) (i l : MI) (x1 : Int) (x2 : Int) : px_X (d + 1) 214 (18, [vR 123, vI x1, vI x2], []) (px_sh L, i, l, r, t) = if x2 < 0 then some (some (vI (-1)), (px_sh L, i, l, r, t)) else (px_C d 211 [vR 123, vI x1, vI x2] (px_sh L, i, l, r, t)).bind (fun q => px_X (d + 1) 214 (px_psh (28, [vR 123, vI x1, vI x2], []) q.1) q.2) := ((xs_ildn k214_18 rfl).trans ((xs_ilt k214_19).trans (px_ite (fun c1 => ((xs_ic k214_40 (by omega)).trans (xs_ri k214_41 rfl))) (fun c1 => ((xs_aldn k214_22 rfl).trans ((xs_ildn k214_23 rfl).trans ((xs_ildn k214_24 rfl).trans (xs_callvB k214_25 (as := [vI x1, vI x2]) rfl rfl (Nat.le_of_ble_eq_true rfl) (Nat.le_of_ble_eq_true rfl) (Nat.le_of_ble_eq_true rfl) (px_s123 L) (Nat.le_of_ble_eq_true rfl)))))))))
theorem b214_28 (hr : px_hr r) (d : Nat) (i l : MI) (x1 : Int) (x2 : Int) (xs0 : Int) : px_X d 214 (28, [vR 123, vI x1, vI x2], [vI xs0]) (px_sh L, i, l, r, t) = if xs0 = (-1) then px_X d 214 (18, [vR 123, vI x1, vI (px_w32 (x2 + (-1)))], []) (px_sh L, i, l, r, t) else some (some (vI x2), (px_sh L, i, l, r, t)) := ((xs_ic k214_28 (by omega)).trans ((xs_jeq k214_29).trans (px_ite (fun c1 => ((xs_iinc k214_34 rfl (by omega) (ls' := [vR 123, vI x1, vI (px_w32 (x2 + (-1)))]) rfl).trans (xs_goto k214_37))) (fun c1 => ((xs_ildn k214_32 rfl).trans (xs_ri k214_33 rfl))))))
-- TideGuestsModel.laysFar ('R123',)
theorem b215_0 (hr : px_hr r) (d : Nat) (i l : MI)  : px_X d 215 (0, [vR 123, vJ, vJ, vJ, vJ], []) (px_sh L, i, l, r, t) = px_X d 215 (2, [vR 123, vI 0, vJ, vJ, vJ], []) (px_sh L, i, l, r, t) := ((xs_ic k215_0 (by omega)).trans (xs_istn k215_1 (Nat.le_of_ble_eq_true rfl) (ls' := [vR 123, vI 0, vJ, vJ, vJ]) rfl))
theorem b215_2 (hr : px_hr r) (d : Nat) (i l : MI) (x1 : Int) : px_X (d + 1) 215 (2, [vR 123, vI x1, vJ, vJ, vJ], []) (px_sh L, i, l, r, t) = if (i 123 2) ≤ x1 then px_X (d + 1) 215 (38, [vR 123, vI 0, vJ, vJ, vJ], []) (px_sh L, i, l, r, t) else (px_C d 209 [vR 123, vI x1] (px_sh L, i, l, r, t)).bind (fun q => px_X (d + 1) 215 (px_psh (20, [vR 123, vI x1, vJ, vJ, vJ], [vI x1, vR 149]) q.1) q.2) := ((xs_ildn k215_2 rfl).trans ((xs_aldn k215_3 rfl).trans ((xs_get0 k215_4 (px_s123 L) (Nat.le_of_ble_eq_true rfl)).trans ((xs_jge k215_7).trans (px_ite (fun c1 => ((xs_ic k215_36 (by omega)).trans (xs_istn k215_37 (Nat.le_of_ble_eq_true rfl) (ls' := [vR 123, vI 0, vJ, vJ, vJ]) rfl))) (fun c1 => ((xs_aldn k215_10 rfl).trans ((xs_get4 k215_11 (px_s123 L) (Nat.le_of_ble_eq_true rfl) (px_r123_45 hr)).trans ((xs_ildn k215_14 rfl).trans ((xs_aldn k215_15 rfl).trans ((xs_ildn k215_16 rfl).trans (xs_callvB k215_17 (as := [vI x1]) rfl rfl (Nat.le_of_ble_eq_true rfl) (Nat.le_of_ble_eq_true rfl) (Nat.le_of_ble_eq_true rfl) (px_s123 L) (Nat.le_of_ble_eq_true rfl)))))))))))))
theorem b215_20 (hr : px_hr r) (d : Nat) (i l : MI) (x1 : Int) (xs0 : Int) (xs1 : Int) (h1 : (xs0 = 0) → 0 ≤ xs1 ∧ xs1 < 36) (h2 : (¬ (xs0 = 0)) → 0 ≤ xs1 ∧ xs1 < 36) : px_X d 215 (20, [vR 123, vI x1, vJ, vJ, vJ], [vI xs0, vI xs1, vR 149]) (px_sh L, i, l, r, t) = if xs0 = 0 then px_X d 215 (2, [vR 123, vI (px_w32 (x1 + 1)), vJ, vJ, vJ], []) (px_sh L, (px_up i 149 xs1 99), l, r, t) else px_X d 215 (2, [vR 123, vI (px_w32 (x1 + 1)), vJ, vJ, vJ], []) (px_sh L, (px_up i 149 xs1 0), l, r, t) := ((xs_ieq k215_20).trans (px_ite (fun c1 => ((xs_bi k215_27 (by omega)).trans ((xs_iast k215_29 (px_s149 L) (h1 c1) (Nat.le_of_ble_eq_true rfl)).trans ((xs_iinc k215_30 rfl (by omega) (ls' := [vR 123, vI (px_w32 (x1 + 1)), vJ, vJ, vJ]) rfl).trans (xs_goto k215_33))))) (fun c1 => ((xs_ic k215_23 (by omega)).trans ((xs_goto k215_24).trans ((xs_iast k215_29 (px_s149 L) (h2 c1) (Nat.le_of_ble_eq_true rfl)).trans ((xs_iinc k215_30 rfl (by omega) (ls' := [vR 123, vI (px_w32 (x1 + 1)), vJ, vJ, vJ]) rfl).trans (xs_goto k215_33))))))))
theorem b215_38 (hr : px_hr r) (d : Nat) (i l : MI) (x1 : Int) {v2 : PV} (hn2 : px_nl v2) {v3 : PV} (hn3 : px_nl v3) {v4 : PV} (hn4 : px_nl v4) : px_X d 215 (38, [vR 123, vI x1, v2, v3, v4], []) (px_sh L, i, l, r, t) = if (i 123 2) ≤ x1 then some (none, (px_sh L, i, l, r, t)) else px_X d 215 (48, [vR 123, vI x1, vI 0, v3, v4], []) (px_sh L, i, l, r, t) := ((xs_ildn k215_38 rfl).trans ((xs_aldn k215_39 rfl).trans ((xs_get0 k215_40 (px_s123 L) (Nat.le_of_ble_eq_true rfl)).trans ((xs_jge k215_43).trans (px_ite (fun c1 => (xs_rv k215_137 rfl)) (fun c1 => ((xs_ic k215_46 (by omega)).trans (xs_istn k215_47 (Nat.le_of_ble_eq_true rfl) (ls' := [vR 123, vI x1, vI 0, v3, v4]) rfl))))))))
theorem b215_48 (hr : px_hr r) (d : Nat) (i l : MI) (x1 : Int) (x2 : Int) {v3 : PV} (hn3 : px_nl v3) {v4 : PV} (hn4 : px_nl v4) : px_X d 215 (48, [vR 123, vI x1, vI x2, v3, v4], []) (px_sh L, i, l, r, t) = if (i 123 2) ≤ x2 then px_X d 215 (38, [vR 123, vI (px_w32 (x1 + 1)), vI x2, v3, v4], []) (px_sh L, i, l, r, t) else px_X d 215 (58, [vR 123, vI x1, vI x2, vI 0, v4], []) (px_sh L, i, l, r, t) := ((xs_ildn k215_48 rfl).trans ((xs_aldn k215_49 rfl).trans ((xs_get0 k215_50 (px_s123 L) (Nat.le_of_ble_eq_true rfl)).trans ((xs_jge k215_53).trans (px_ite (fun c1 => ((xs_iinc k215_131 rfl (by omega) (ls' := [vR 123, vI (px_w32 (x1 + 1)), vI x2, v3, v4]) rfl).trans (xs_goto k215_134))) (fun c1 => ((xs_ic k215_56 (by omega)).trans (xs_istn k215_57 (Nat.le_of_ble_eq_true rfl) (ls' := [vR 123, vI x1, vI x2, vI 0, v4]) rfl))))))))
theorem b215_58 (hr : px_hr r) (d : Nat) (i l : MI) (x1 : Int) (x2 : Int) (x3 : Int) {v4 : PV} (hn4 : px_nl v4) : px_X (d + 1) 215 (58, [vR 123, vI x1, vI x2, vI x3, v4], []) (px_sh L, i, l, r, t) = if 4 ≤ x3 then px_X (d + 1) 215 (48, [vR 123, vI x1, vI (px_w32 (x2 + 1)), vI x3, v4], []) (px_sh L, i, l, r, t) else (px_C d 210 [vR 123, vI x2, vI x3] (px_sh L, i, l, r, t)).bind (fun q => px_X (d + 1) 215 (px_psh (69, [vR 123, vI x1, vI x2, vI x3, v4], []) q.1) q.2) := ((xs_ildn k215_58 rfl).trans ((xs_ic k215_59 (by omega)).trans ((xs_jge k215_60).trans (px_ite (fun c1 => ((xs_iinc k215_125 rfl (by omega) (ls' := [vR 123, vI x1, vI (px_w32 (x2 + 1)), vI x3, v4]) rfl).trans (xs_goto k215_128))) (fun c1 => ((xs_aldn k215_63 rfl).trans ((xs_ildn k215_64 rfl).trans ((xs_ildn k215_65 rfl).trans (xs_callvB k215_66 (as := [vI x2, vI x3]) rfl rfl (Nat.le_of_ble_eq_true rfl) (Nat.le_of_ble_eq_true rfl) (Nat.le_of_ble_eq_true rfl) (px_s123 L) (Nat.le_of_ble_eq_true rfl))))))))))
theorem b215_69 (hr : px_hr r) (d : Nat) (i l : MI) (x1 : Int) (x2 : Int) (x3 : Int) {v4 : PV} (hn4 : px_nl v4) (xs0 : Int) (h1 : (¬ (xs0 = (-1))) → 0 ≤ xs0 ∧ xs0 < 36) (h2 : (¬ (xs0 = (-1))) → 0 ≤ x2 ∧ x2 < 36) (h3 : (¬ (xs0 = (-1))) → (¬ ((i 149 x2) ≤ (px_w32 ((i 149 xs0) + 1)))) → 0 ≤ xs0 ∧ xs0 < 36) (h4 : (¬ (xs0 = (-1))) → (¬ ((i 149 x2) ≤ (px_w32 ((i 149 xs0) + 1)))) → 0 ≤ x2 ∧ x2 < 36) : px_X d 215 (69, [vR 123, vI x1, vI x2, vI x3, v4], [vI xs0]) (px_sh L, i, l, r, t) = if xs0 = (-1) then px_X d 215 (112, [vR 123, vI x1, vI x2, vI x3, vI xs0], [vI x2, vR 149]) (px_sh L, i, l, r, t) else if (i 149 x2) ≤ (px_w32 ((i 149 xs0) + 1)) then px_X d 215 (112, [vR 123, vI x1, vI x2, vI x3, vI xs0], [vI x2, vR 149]) (px_sh L, i, l, r, t) else px_X d 215 (58, [vR 123, vI x1, vI x2, vI (px_w32 (x3 + 1)), vI xs0], []) (px_sh L, (px_up i 149 x2 (px_w32 ((i 149 xs0) + 1))), l, r, t) := ((xs_ist k215_69 (Nat.le_of_ble_eq_true rfl) (ls' := [vR 123, vI x1, vI x2, vI x3, vI xs0]) rfl).trans ((xs_aldn k215_71 rfl).trans ((xs_get4 k215_72 (px_s123 L) (Nat.le_of_ble_eq_true rfl) (px_r123_45 hr)).trans ((xs_ildn k215_75 rfl).trans ((xs_ild k215_76 rfl).trans ((xs_ic k215_78 (by omega)).trans ((xs_jeq k215_79).trans (px_ite (fun c1 => rfl) (fun c1 => ((xs_aldn k215_82 rfl).trans ((xs_get4 k215_83 (px_s123 L) (Nat.le_of_ble_eq_true rfl) (px_r123_45 hr)).trans ((xs_ild k215_86 rfl).trans ((xs_iald k215_88 (px_s149 L) (h1 c1)).trans ((xs_ic k215_89 (by omega)).trans ((xs_iadd k215_90).trans ((xs_aldn k215_91 rfl).trans ((xs_get4 k215_92 (px_s123 L) (Nat.le_of_ble_eq_true rfl) (px_r123_45 hr)).trans ((xs_ildn k215_95 rfl).trans ((xs_iald k215_96 (px_s149 L) (h2 c1)).trans ((xs_jge k215_97).trans (px_ite (fun c2 => rfl) (fun c2 => ((xs_aldn k215_100 rfl).trans ((xs_get4 k215_101 (px_s123 L) (Nat.le_of_ble_eq_true rfl) (px_r123_45 hr)).trans ((xs_ild k215_104 rfl).trans ((xs_iald k215_106 (px_s149 L) (h3 c1 c2)).trans ((xs_ic k215_107 (by omega)).trans ((xs_iadd k215_108).trans ((xs_goto k215_109).trans ((xs_iast k215_118 (px_s149 L) (h4 c1 c2) (Nat.le_of_ble_eq_true rfl)).trans ((xs_iinc k215_119 rfl (by omega) (ls' := [vR 123, vI x1, vI x2, vI (px_w32 (x3 + 1)), vI xs0]) rfl).trans (xs_goto k215_122))))))))))))))))))))))))))))))))
theorem b215_112 (hr : px_hr r) (d : Nat) (i l : MI) (x1 : Int) (x2 : Int) (x3 : Int) (x4 : Int) (xs0 : Int) (h1 : 0 ≤ x2 ∧ x2 < 36) (h2 : 0 ≤ xs0 ∧ xs0 < 36) : px_X d 215 (112, [vR 123, vI x1, vI x2, vI x3, vI x4], [vI xs0, vR 149]) (px_sh L, i, l, r, t) = px_X d 215 (58, [vR 123, vI x1, vI x2, vI (px_w32 (x3 + 1)), vI x4], []) (px_sh L, (px_up i 149 xs0 (i 149 x2)), l, r, t) := ((xs_aldn k215_112 rfl).trans ((xs_get4 k215_113 (px_s123 L) (Nat.le_of_ble_eq_true rfl) (px_r123_45 hr)).trans ((xs_ildn k215_116 rfl).trans ((xs_iald k215_117 (px_s149 L) (h1)).trans ((xs_iast k215_118 (px_s149 L) (h2) (Nat.le_of_ble_eq_true rfl)).trans ((xs_iinc k215_119 rfl (by omega) (ls' := [vR 123, vI x1, vI x2, vI (px_w32 (x3 + 1)), vI x4]) rfl).trans (xs_goto k215_122)))))))
-- TideGuestsModel.nearer ('R123', 'I')
theorem b216_0 (hr : px_hr r) (d : Nat) (i l : MI) (x1 : Int) : px_X d 216 (0, [vR 123, vI x1, vJ, vJ, vJ], []) (px_sh L, i, l, r, t) = px_X d 216 (4, [vR 123, vI x1, vI (-1), vI 0, vJ], []) (px_sh L, i, l, r, t) := ((xs_ic k216_0 (by omega)).trans ((xs_istn k216_1 (Nat.le_of_ble_eq_true rfl) (ls' := [vR 123, vI x1, vI (-1), vJ, vJ]) rfl).trans ((xs_ic k216_2 (by omega)).trans (xs_istn k216_3 (Nat.le_of_ble_eq_true rfl) (ls' := [vR 123, vI x1, vI (-1), vI 0, vJ]) rfl))))
theorem b216_4 (hr : px_hr r) (d : Nat) (i l : MI) (x1 : Int) (x2 : Int) (x3 : Int) {v4 : PV} (hn4 : px_nl v4) : px_X (d + 1) 216 (4, [vR 123, vI x1, vI x2, vI x3, v4], []) (px_sh L, i, l, r, t) = if 4 ≤ x3 then some (some (vI x2), (px_sh L, i, l, r, t)) else (px_C d 210 [vR 123, vI x1, vI x3] (px_sh L, i, l, r, t)).bind (fun q => px_X (d + 1) 216 (px_psh (15, [vR 123, vI x1, vI x2, vI x3, v4], []) q.1) q.2) := ((xs_ildn k216_4 rfl).trans ((xs_ic k216_5 (by omega)).trans ((xs_jge k216_6).trans (px_ite (fun c1 => ((xs_ildn k216_63 rfl).trans (xs_ri k216_64 rfl))) (fun c1 => ((xs_aldn k216_9 rfl).trans ((xs_ildn k216_10 rfl).trans ((xs_ildn k216_11 rfl).trans (xs_callvB k216_12 (as := [vI x1, vI x3]) rfl rfl (Nat.le_of_ble_eq_true rfl) (Nat.le_of_ble_eq_true rfl) (Nat.le_of_ble_eq_true rfl) (px_s123 L) (Nat.le_of_ble_eq_true rfl))))))))))
theorem b216_15 (hr : px_hr r) (d : Nat) (i l : MI) (x1 : Int) (x2 : Int) (x3 : Int) {v4 : PV} (hn4 : px_nl v4) (xs0 : Int) (h1 : (¬ (xs0 = (-1))) → 0 ≤ xs0 ∧ xs0 < 36) (h2 : (¬ (xs0 = (-1))) → 0 ≤ x1 ∧ x1 < 36) : px_X d 216 (15, [vR 123, vI x1, vI x2, vI x3, v4], [vI xs0]) (px_sh L, i, l, r, t) = if xs0 = (-1) then px_X d 216 (4, [vR 123, vI x1, vI x2, vI (px_w32 (x3 + 1)), vI xs0], []) (px_sh L, i, l, r, t) else if (i 149 x1) ≤ (i 149 xs0) then px_X d 216 (4, [vR 123, vI x1, vI x2, vI (px_w32 (x3 + 1)), vI xs0], []) (px_sh L, i, l, r, t) else if x2 = (-1) then px_X d 216 (4, [vR 123, vI x1, vI xs0, vI (px_w32 (x3 + 1)), vI xs0], []) (px_sh L, i, l, r, t) else if x2 ≤ xs0 then px_X d 216 (4, [vR 123, vI x1, vI x2, vI (px_w32 (x3 + 1)), vI xs0], []) (px_sh L, i, l, r, t) else px_X d 216 (4, [vR 123, vI x1, vI xs0, vI (px_w32 (x3 + 1)), vI xs0], []) (px_sh L, i, l, r, t) := ((xs_ist k216_15 (Nat.le_of_ble_eq_true rfl) (ls' := [vR 123, vI x1, vI x2, vI x3, vI xs0]) rfl).trans ((xs_ild k216_17 rfl).trans ((xs_ic k216_19 (by omega)).trans ((xs_jeq k216_20).trans (px_ite (fun c1 => ((xs_ildn k216_55 rfl).trans ((xs_istn k216_56 (Nat.le_of_ble_eq_true rfl) (ls' := [vR 123, vI x1, vI x2, vI x3, vI xs0]) rfl).trans ((xs_iinc k216_57 rfl (by omega) (ls' := [vR 123, vI x1, vI x2, vI (px_w32 (x3 + 1)), vI xs0]) rfl).trans (xs_goto k216_60))))) (fun c1 => ((xs_aldn k216_23 rfl).trans ((xs_get4 k216_24 (px_s123 L) (Nat.le_of_ble_eq_true rfl) (px_r123_45 hr)).trans ((xs_ild k216_27 rfl).trans ((xs_iald k216_29 (px_s149 L) (h1 c1)).trans ((xs_aldn k216_30 rfl).trans ((xs_get4 k216_31 (px_s123 L) (Nat.le_of_ble_eq_true rfl) (px_r123_45 hr)).trans ((xs_ildn k216_34 rfl).trans ((xs_iald k216_35 (px_s149 L) (h2 c1)).trans ((xs_jge k216_36).trans (px_ite (fun c2 => ((xs_ildn k216_55 rfl).trans ((xs_istn k216_56 (Nat.le_of_ble_eq_true rfl) (ls' := [vR 123, vI x1, vI x2, vI x3, vI xs0]) rfl).trans ((xs_iinc k216_57 rfl (by omega) (ls' := [vR 123, vI x1, vI x2, vI (px_w32 (x3 + 1)), vI xs0]) rfl).trans (xs_goto k216_60))))) (fun c2 => ((xs_ildn k216_39 rfl).trans ((xs_ic k216_40 (by omega)).trans ((xs_jeq k216_41).trans (px_ite (fun c3 => ((xs_ild k216_50 rfl).trans ((xs_goto k216_52).trans ((xs_istn k216_56 (Nat.le_of_ble_eq_true rfl) (ls' := [vR 123, vI x1, vI xs0, vI x3, vI xs0]) rfl).trans ((xs_iinc k216_57 rfl (by omega) (ls' := [vR 123, vI x1, vI xs0, vI (px_w32 (x3 + 1)), vI xs0]) rfl).trans (xs_goto k216_60)))))) (fun c3 => ((xs_ild k216_44 rfl).trans ((xs_ildn k216_46 rfl).trans ((xs_jge k216_47).trans (px_ite (fun c4 => ((xs_ildn k216_55 rfl).trans ((xs_istn k216_56 (Nat.le_of_ble_eq_true rfl) (ls' := [vR 123, vI x1, vI x2, vI x3, vI xs0]) rfl).trans ((xs_iinc k216_57 rfl (by omega) (ls' := [vR 123, vI x1, vI x2, vI (px_w32 (x3 + 1)), vI xs0]) rfl).trans (xs_goto k216_60))))) (fun c4 => ((xs_ild k216_50 rfl).trans ((xs_goto k216_52).trans ((xs_istn k216_56 (Nat.le_of_ble_eq_true rfl) (ls' := [vR 123, vI x1, vI xs0, vI x3, vI xs0]) rfl).trans ((xs_iinc k216_57 rfl (by omega) (ls' := [vR 123, vI x1, vI xs0, vI (px_w32 (x3 + 1)), vI xs0]) rfl).trans (xs_goto k216_60))))))))))))))))))))))))))))))))
-- TideGuestsModel.leads ('R123', 'I', 'I', 'I', 'I')
theorem b217_0 (hr : px_hr r) (d : Nat) (i l : MI) (x1 : Int) (x2 : Int) (x3 : Int) (x4 : Int) : px_X (d + 1) 217 (0, [vR 123, vI x1, vI x2, vI x3, vI x4, vJ, vJ, vJ, vJ, vJ], []) (px_sh L, i, l, r, t) = (px_C d 216 [vR 123, vI x2] (px_sh L, i, l, r, t)).bind (fun q => px_X (d + 1) 217 (px_psh (5, [vR 123, vI x1, vI x2, vI x3, vI x4, vJ, vJ, vJ, vJ, vJ], []) q.1) q.2) := ((xs_aldn k217_0 rfl).trans ((xs_ildn k217_1 rfl).trans (xs_callvB k217_2 (as := [vI x2]) rfl rfl (Nat.le_of_ble_eq_true rfl) (Nat.le_of_ble_eq_true rfl) (Nat.le_of_ble_eq_true rfl) (px_s123 L) (Nat.le_of_ble_eq_true rfl))))
theorem b217_5 (hr : px_hr r) (d : Nat) (i l : MI) (x1 : Int) (x2 : Int) (x3 : Int) (x4 : Int) (xs0 : Int) : px_X d 217 (5, [vR 123, vI x1, vI x2, vI x3, vI x4, vJ, vJ, vJ, vJ, vJ], [vI xs0]) (px_sh L, i, l, r, t) = px_X d 217 (10, [vR 123, vI x1, vI x2, vI x3, vI x4, vI xs0, vI 0, vJ, vJ, vJ], []) (px_sh L, i, l, r, t) := ((xs_ist k217_5 (Nat.le_of_ble_eq_true rfl) (ls' := [vR 123, vI x1, vI x2, vI x3, vI x4, vI xs0, vJ, vJ, vJ, vJ]) rfl).trans ((xs_ic k217_7 (by omega)).trans (xs_ist k217_8 (Nat.le_of_ble_eq_true rfl) (ls' := [vR 123, vI x1, vI x2, vI x3, vI x4, vI xs0, vI 0, vJ, vJ, vJ]) rfl)))
theorem b217_10 (hr : px_hr r) (d : Nat) (i l : MI) (x1 : Int) (x2 : Int) (x3 : Int) (x4 : Int) (x5 : Int) (x6 : Int) {v7 : PV} (hn7 : px_nl v7) {v8 : PV} (hn8 : px_nl v8) {v9 : PV} (hn9 : px_nl v9) : px_X (d + 1) 217 (10, [vR 123, vI x1, vI x2, vI x3, vI x4, vI x5, vI x6, v7, v8, v9], []) (px_sh L, i, l, r, t) = if 4 ≤ x6 then some (none, (px_sh L, i, l, r, t)) else (px_C d 210 [vR 123, vI x2, vI x6] (px_sh L, i, l, r, t)).bind (fun q => px_X (d + 1) 217 (px_psh (23, [vR 123, vI x1, vI x2, vI x3, vI x4, vI x5, vI x6, v7, v8, v9], []) q.1) q.2) := ((xs_ild k217_10 rfl).trans ((xs_ic k217_12 (by omega)).trans ((xs_jge k217_13).trans (px_ite (fun c1 => (xs_rv k217_96 rfl)) (fun c1 => ((xs_aldn k217_16 rfl).trans ((xs_ildn k217_17 rfl).trans ((xs_ild k217_18 rfl).trans (xs_callvB k217_20 (as := [vI x2, vI x6]) rfl rfl (Nat.le_of_ble_eq_true rfl) (Nat.le_of_ble_eq_true rfl) (Nat.le_of_ble_eq_true rfl) (px_s123 L) (Nat.le_of_ble_eq_true rfl))))))))))
theorem b217_23 (hr : px_hr r) (d : Nat) (i l : MI) (x1 : Int) (x2 : Int) (x3 : Int) (x4 : Int) (x5 : Int) (x6 : Int) {v7 : PV} (hn7 : px_nl v7) {v8 : PV} (hn8 : px_nl v8) {v9 : PV} (hn9 : px_nl v9) (xs0 : Int) : px_X d 217 (23, [vR 123, vI x1, vI x2, vI x3, vI x4, vI x5, vI x6, v7, v8, v9], [vI xs0]) (px_sh L, i, l, r, t) = if xs0 = x5 then px_X d 217 (42, [vR 123, vI x1, vI x2, vI x3, vI x4, vI x5, vI x6, vI xs0, v8, v9], [vI (px_w32 (12 - (px_w32 (3 * x3))))]) (px_sh L, i, l, r, t) else px_X d 217 (42, [vR 123, vI x1, vI x2, vI x3, vI x4, vI x5, vI x6, vI xs0, v8, v9], [vI x3]) (px_sh L, i, l, r, t) := ((xs_ist k217_23 (Nat.le_of_ble_eq_true rfl) (ls' := [vR 123, vI x1, vI x2, vI x3, vI x4, vI x5, vI x6, vI xs0, v8, v9]) rfl).trans ((xs_ild k217_25 rfl).trans ((xs_ild k217_27 rfl).trans ((xs_jne k217_29).trans (px_ite (fun c1 => ((xs_bi k217_32 (by omega)).trans ((xs_ic k217_34 (by omega)).trans ((xs_ildn k217_35 rfl).trans ((xs_imul k217_36).trans ((xs_isub k217_37).trans (xs_goto k217_38))))))) (fun c1 => (xs_ildn k217_41 rfl)))))))
theorem b217_42 (hr : px_hr r) (d : Nat) (i l : MI) (x1 : Int) (x2 : Int) (x3 : Int) (x4 : Int) (x5 : Int) (x6 : Int) (x7 : Int) {v8 : PV} (hn8 : px_nl v8) {v9 : PV} (hn9 : px_nl v9) (xs0 : Int) : px_X d 217 (42, [vR 123, vI x1, vI x2, vI x3, vI x4, vI x5, vI x6, vI x7, v8, v9], [vI xs0]) (px_sh L, i, l, r, t) = if x7 = (-1) then px_X d 217 (56, [vR 123, vI x1, vI x2, vI x3, vI x4, vI x5, vI x6, vI x7, vI xs0, v9], [vI x2]) (px_sh L, i, l, r, t) else px_X d 217 (56, [vR 123, vI x1, vI x2, vI x3, vI x4, vI x5, vI x6, vI x7, vI xs0, v9], [vI x7]) (px_sh L, i, l, r, t) := ((xs_ist k217_42 (Nat.le_of_ble_eq_true rfl) (ls' := [vR 123, vI x1, vI x2, vI x3, vI x4, vI x5, vI x6, vI x7, vI xs0, v9]) rfl).trans ((xs_ild k217_44 rfl).trans ((xs_ic k217_46 (by omega)).trans ((xs_jne k217_47).trans (px_ite (fun c1 => ((xs_ildn k217_50 rfl).trans (xs_goto k217_51))) (fun c1 => (xs_ild k217_54 rfl)))))))
theorem b217_56 (hr : px_hr r) (d : Nat) (i l : MI) (x1 : Int) (x2 : Int) (x3 : Int) (x4 : Int) (x5 : Int) (x6 : Int) (x7 : Int) (x8 : Int) {v9 : PV} (hn9 : px_nl v9) (xs0 : Int) : px_X (d + 1) 217 (56, [vR 123, vI x1, vI x2, vI x3, vI x4, vI x5, vI x6, vI x7, vI x8, v9], [vI xs0]) (px_sh L, i, l, r, t) = (px_C d 208 [vR 123, vI x1, vI xs0, vI x4] (px_sh L, i, l, r, t)).bind (fun q => px_X (d + 1) 217 (px_psh (67, [vR 123, vI x1, vI x2, vI x3, vI x4, vI x5, vI x6, vI x7, vI x8, vI xs0], []) q.1) q.2) := ((xs_ist k217_56 (Nat.le_of_ble_eq_true rfl) (ls' := [vR 123, vI x1, vI x2, vI x3, vI x4, vI x5, vI x6, vI x7, vI x8, vI xs0]) rfl).trans ((xs_aldn k217_58 rfl).trans ((xs_ildn k217_59 rfl).trans ((xs_ild k217_60 rfl).trans ((xs_ild k217_62 rfl).trans (xs_callvB k217_64 (as := [vI x1, vI xs0, vI x4]) rfl rfl (Nat.le_of_ble_eq_true rfl) (Nat.le_of_ble_eq_true rfl) (Nat.le_of_ble_eq_true rfl) (px_s123 L) (Nat.le_of_ble_eq_true rfl)))))))
theorem b217_67 (hr : px_hr r) (d : Nat) (i l : MI) (x1 : Int) (x2 : Int) (x3 : Int) (x4 : Int) (x5 : Int) (x6 : Int) (x7 : Int) (x8 : Int) (x9 : Int) (xs0 : Int) (h1 : (¬ (xs0 = 0)) → 0 ≤ x9 ∧ x9 < 36) (h2 : (¬ (xs0 = 0)) → 0 ≤ x2 ∧ x2 < 36) : px_X d 217 (67, [vR 123, vI x1, vI x2, vI x3, vI x4, vI x5, vI x6, vI x7, vI x8, vI x9], [vI xs0]) (px_sh L, i, l, r, t) = if xs0 = 0 then px_X d 217 (10, [vR 123, vI x1, vI x2, vI x3, vI x4, vI x5, vI (px_w32 (x6 + 1)), vI x7, vI x8, vI x9], []) (px_sh L, i, l, r, t) else px_X d 217 (10, [vR 123, vI x1, vI x2, vI x3, vI x4, vI x5, vI (px_w32 (x6 + 1)), vI x7, vI x8, vI x9], []) (px_sh L, i, (px_up l 151 x9 (px_w64 ((l 151 x9) + (px_w64 ((l 150 x2) * x8))))), r, t) := ((xs_ieq k217_67).trans (px_ite (fun c1 => ((xs_iinc k217_90 rfl (by omega) (ls' := [vR 123, vI x1, vI x2, vI x3, vI x4, vI x5, vI (px_w32 (x6 + 1)), vI x7, vI x8, vI x9]) rfl).trans (xs_goto k217_93))) (fun c1 => ((xs_aldn k217_70 rfl).trans ((xs_get4 k217_71 (px_s123 L) (Nat.le_of_ble_eq_true rfl) (px_r123_47 hr)).trans ((xs_ild k217_74 rfl).trans ((xs_dup2 k217_76 ⟨rfl, rfl⟩).trans ((xs_lald k217_77 (px_s151 L) (h1 c1)).trans ((xs_aldn k217_78 rfl).trans ((xs_get4 k217_79 (px_s123 L) (Nat.le_of_ble_eq_true rfl) (px_r123_46 hr)).trans ((xs_ildn k217_82 rfl).trans ((xs_lald k217_83 (px_s150 L) (h2 c1)).trans ((xs_ild k217_84 rfl).trans ((xs_i2l k217_86).trans ((xs_lmul k217_87).trans ((xs_ladd k217_88).trans ((xs_last k217_89 (px_s151 L) (h1 c1) (Nat.le_of_ble_eq_true rfl)).trans ((xs_iinc k217_90 rfl (by omega) (ls' := [vR 123, vI x1, vI x2, vI x3, vI x4, vI x5, vI (px_w32 (x6 + 1)), vI x7, vI x8, vI x9]) rfl).trans (xs_goto k217_93)))))))))))))))))))
-- TideGuestsModel.pilot ('R123', 'I', 'I', 'I', 'I')
theorem b218_0 (hr : px_hr r) (d : Nat) (i l : MI) (x1 : Int) (x2 : Int) (x3 : Int) (x4 : Int) : px_X (d + 1) 218 (0, [vR 123, vI x1, vI x2, vI x3, vI x4, vJ, vJ, vJ, vJ, vJ], []) (px_sh L, i, l, r, t) = (px_C d 144 [vR 123, vI x1] (px_sh L, i, l, r, t)).bind (fun q => px_X (d + 1) 218 (px_psh (5, [vR 123, vI x1, vI x2, vI x3, vI x4, vJ, vJ, vJ, vJ, vJ], []) q.1) q.2) := ((xs_aldn k218_0 rfl).trans ((xs_ildn k218_1 rfl).trans (xs_callvB k218_2 (as := [vI x1]) rfl rfl (Nat.le_of_ble_eq_true rfl) (Nat.le_of_ble_eq_true rfl) (Nat.le_of_ble_eq_true rfl) (px_s123 L) (Nat.le_of_ble_eq_true rfl))))
theorem b218_5 (hr : px_hr r) (d : Nat) (i l : MI) (x1 : Int) (x2 : Int) (x3 : Int) (x4 : Int) (xs0 : Int) : px_X (d + 1) 218 (5, [vR 123, vI x1, vI x2, vI x3, vI x4, vJ, vJ, vJ, vJ, vJ], [vI xs0]) (px_sh L, i, l, r, t) = if xs0 = 0 then some (some (vI (-1)), (px_sh L, i, l, r, t)) else (px_C d 145 [vI x2] (px_sh L, i, l, r, t)).bind (fun q => px_X (d + 1) 218 (px_psh (12, [vR 123, vI x1, vI x2, vI x3, vI x4, vJ, vJ, vJ, vJ, vJ], []) q.1) q.2) := ((xs_ieq k218_5).trans (px_ite (fun c1 => ((xs_ic k218_35 (by omega)).trans (xs_ri k218_36 rfl))) (fun c1 => ((xs_ildn k218_8 rfl).trans (xs_callsB k218_9 (as := [vI x2]) rfl rfl (Nat.le_of_ble_eq_true rfl) (Nat.le_of_ble_eq_true rfl) (Nat.le_of_ble_eq_true rfl))))))
theorem b218_12 (hr : px_hr r) (d : Nat) (i l : MI) (x1 : Int) (x2 : Int) (x3 : Int) (x4 : Int) (xs0 : Int) : px_X (d + 1) 218 (12, [vR 123, vI x1, vI x2, vI x3, vI x4, vJ, vJ, vJ, vJ, vJ], [vI xs0]) (px_sh L, i, l, r, t) = if xs0 = 0 then some (some (vI (-1)), (px_sh L, i, l, r, t)) else (px_C d 141 [vI x3, vI 0, vI 3] (px_sh L, i, l, r, t)).bind (fun q => px_X (d + 1) 218 (px_psh (21, [vR 123, vI x1, vI x2, vI x3, vI x4, vJ, vJ, vJ, vJ, vJ], []) q.1) q.2) := ((xs_ieq k218_12).trans (px_ite (fun c1 => ((xs_ic k218_35 (by omega)).trans (xs_ri k218_36 rfl))) (fun c1 => ((xs_ildn k218_15 rfl).trans ((xs_ic k218_16 (by omega)).trans ((xs_ic k218_17 (by omega)).trans (xs_callsB k218_18 (as := [vI x3, vI 0, vI 3]) rfl rfl (Nat.le_of_ble_eq_true rfl) (Nat.le_of_ble_eq_true rfl) (Nat.le_of_ble_eq_true rfl))))))))
theorem b218_21 (hr : px_hr r) (d : Nat) (i l : MI) (x1 : Int) (x2 : Int) (x3 : Int) (x4 : Int) (xs0 : Int) : px_X (d + 1) 218 (21, [vR 123, vI x1, vI x2, vI x3, vI x4, vJ, vJ, vJ, vJ, vJ], [vI xs0]) (px_sh L, i, l, r, t) = if xs0 = 0 then some (some (vI (-1)), (px_sh L, i, l, r, t)) else (px_C d 141 [vI x4, vI 1, vI 10] (px_sh L, i, l, r, t)).bind (fun q => px_X (d + 1) 218 (px_psh (32, [vR 123, vI x1, vI x2, vI x3, vI x4, vJ, vJ, vJ, vJ, vJ], []) q.1) q.2) := ((xs_ieq k218_21).trans (px_ite (fun c1 => ((xs_ic k218_35 (by omega)).trans (xs_ri k218_36 rfl))) (fun c1 => ((xs_ild k218_24 rfl).trans ((xs_ic k218_26 (by omega)).trans ((xs_bi k218_27 (by omega)).trans (xs_callsB k218_29 (as := [vI x4, vI 1, vI 10]) rfl rfl (Nat.le_of_ble_eq_true rfl) (Nat.le_of_ble_eq_true rfl) (Nat.le_of_ble_eq_true rfl))))))))
theorem b218_32 (hr : px_hr r) (d : Nat) (i l : MI) (x1 : Int) (x2 : Int) (x3 : Int) (x4 : Int) (xs0 : Int) : px_X (d + 1) 218 (32, [vR 123, vI x1, vI x2, vI x3, vI x4, vJ, vJ, vJ, vJ, vJ], [vI xs0]) (px_sh L, i, l, r, t) = if xs0 = 0 then some (some (vI (-1)), (px_sh L, i, l, r, t)) else (px_C d 207 [vR 123] (px_sh L, i, l, r, t)).bind (fun q => px_X (d + 1) 218 (px_psh (41, [vR 123, vI x1, vI x2, vI x3, vI x4, vJ, vJ, vJ, vJ, vJ], []) q.1) q.2) := ((xs_ine k218_32).trans (px_ite (fun c1 => ((xs_ic k218_35 (by omega)).trans (xs_ri k218_36 rfl))) (fun c1 => ((xs_aldn k218_37 rfl).trans (xs_callvB k218_38 (as := []) rfl rfl (Nat.le_of_ble_eq_true rfl) (Nat.le_of_ble_eq_true rfl) (Nat.le_of_ble_eq_true rfl) (px_s123 L) (Nat.le_of_ble_eq_true rfl))))))
theorem b218_41 (hr : px_hr r) (d : Nat) (i l : MI) (x1 : Int) (x2 : Int) (x3 : Int) (x4 : Int) : px_X (d + 1) 218 (41, [vR 123, vI x1, vI x2, vI x3, vI x4, vJ, vJ, vJ, vJ, vJ], []) (px_sh L, i, l, r, t) = (px_C d 215 [vR 123] (px_sh L, i, l, r, t)).bind (fun q => px_X (d + 1) 218 (px_psh (45, [vR 123, vI x1, vI x2, vI x3, vI x4, vJ, vJ, vJ, vJ, vJ], []) q.1) q.2) := ((xs_aldn k218_41 rfl).trans (xs_callvB k218_42 (as := []) rfl rfl (Nat.le_of_ble_eq_true rfl) (Nat.le_of_ble_eq_true rfl) (Nat.le_of_ble_eq_true rfl) (px_s123 L) (Nat.le_of_ble_eq_true rfl)))
theorem b218_45 (hr : px_hr r) (d : Nat) (i l : MI) (x1 : Int) (x2 : Int) (x3 : Int) (x4 : Int) : px_X d 218 (45, [vR 123, vI x1, vI x2, vI x3, vI x4, vJ, vJ, vJ, vJ, vJ], []) (px_sh L, i, l, r, t) = if (i 149 0) = 99 then some (some (vI 0), (px_sh L, i, l, r, t)) else px_X d 218 (61, [vR 123, vI x1, vI x2, vI x3, vI x4, vI 0, vJ, vJ, vJ, vJ], []) (px_sh L, i, l, r, t) := ((xs_aldn k218_45 rfl).trans ((xs_get4 k218_46 (px_s123 L) (Nat.le_of_ble_eq_true rfl) (px_r123_45 hr)).trans ((xs_ic k218_49 (by omega)).trans ((xs_iald k218_50 (px_s149 L) (by omega)).trans ((xs_bi k218_51 (by omega)).trans ((xs_jne k218_53).trans (px_ite (fun c1 => ((xs_ic k218_56 (by omega)).trans (xs_ri k218_57 rfl))) (fun c1 => ((xs_ic k218_58 (by omega)).trans (xs_ist k218_59 (Nat.le_of_ble_eq_true rfl) (ls' := [vR 123, vI x1, vI x2, vI x3, vI x4, vI 0, vJ, vJ, vJ, vJ]) rfl))))))))))
theorem b218_61 (hr : px_hr r) (d : Nat) (i l : MI) (x1 : Int) (x2 : Int) (x3 : Int) (x4 : Int) (x5 : Int) (h1 : (¬ ((i 123 2) ≤ x5)) → (x5 = (i 124 0)) → 0 ≤ x5 ∧ x5 < 36) (h2 : (¬ ((i 123 2) ≤ x5)) → (¬ (x5 = (i 124 0))) → 0 ≤ x5 ∧ x5 < 36) : px_X d 218 (61, [vR 123, vI x1, vI x2, vI x3, vI x4, vI x5, vJ, vJ, vJ, vJ], []) (px_sh L, i, l, r, t) = if (i 123 2) ≤ x5 then px_X d 218 (105, [vR 123, vI x1, vI x2, vI x3, vI x4, vL 1, vJ, vI 1, vJ, vJ], []) (px_sh L, i, l, r, t) else if x5 = (i 124 0) then px_X d 218 (61, [vR 123, vI x1, vI x2, vI x3, vI x4, vI (px_w32 (x5 + 1)), vJ, vJ, vJ, vJ], []) (px_sh L, i, (px_up l 150 x5 1), r, t) else px_X d 218 (61, [vR 123, vI x1, vI x2, vI x3, vI x4, vI (px_w32 (x5 + 1)), vJ, vJ, vJ, vJ], []) (px_sh L, i, (px_up l 150 x5 0), r, t) := ((xs_ild k218_61 rfl).trans ((xs_aldn k218_63 rfl).trans ((xs_get0 k218_64 (px_s123 L) (Nat.le_of_ble_eq_true rfl)).trans ((xs_jge k218_67).trans (px_ite (fun c1 => ((xs_lc1 k218_99).trans ((xs_lst k218_100 (Nat.le_of_ble_eq_true rfl) (ls' := [vR 123, vI x1, vI x2, vI x3, vI x4, vL 1, vJ, vJ, vJ, vJ]) rfl).trans ((xs_ic k218_102 (by omega)).trans (xs_ist k218_103 (Nat.le_of_ble_eq_true rfl) (ls' := [vR 123, vI x1, vI x2, vI x3, vI x4, vL 1, vJ, vI 1, vJ, vJ]) rfl))))) (fun c1 => ((xs_aldn k218_70 rfl).trans ((xs_get4 k218_71 (px_s123 L) (Nat.le_of_ble_eq_true rfl) (px_r123_46 hr)).trans ((xs_ild k218_74 rfl).trans ((xs_ild k218_76 rfl).trans ((xs_aldn k218_78 rfl).trans ((xs_get4 k218_79 (px_s123 L) (Nat.le_of_ble_eq_true rfl) (px_r123_3 hr)).trans ((xs_ic k218_82 (by omega)).trans ((xs_iald k218_83 (px_s124 L) (by omega)).trans ((xs_jne k218_84).trans (px_ite (fun c2 => ((xs_lc1 k218_87).trans ((xs_goto k218_88).trans ((xs_last k218_92 (px_s150 L) (h1 c1 c2) (Nat.le_of_ble_eq_true rfl)).trans ((xs_iinc k218_93 rfl (by omega) (ls' := [vR 123, vI x1, vI x2, vI x3, vI x4, vI (px_w32 (x5 + 1)), vJ, vJ, vJ, vJ]) rfl).trans (xs_goto k218_96)))))) (fun c2 => ((xs_lc0 k218_91).trans ((xs_last k218_92 (px_s150 L) (h2 c1 c2) (Nat.le_of_ble_eq_true rfl)).trans ((xs_iinc k218_93 rfl (by omega) (ls' := [vR 123, vI x1, vI x2, vI x3, vI x4, vI (px_w32 (x5 + 1)), vJ, vJ, vJ, vJ]) rfl).trans (xs_goto k218_96)))))))))))))))))))))
theorem b218_105 (hr : px_hr r) (d : Nat) (i l : MI) (x1 : Int) (x2 : Int) (x3 : Int) (x4 : Int) (x5 : Int) (x7 : Int) {v8 : PV} (hn8 : px_nl v8) : px_X d 218 (105, [vR 123, vI x1, vI x2, vI x3, vI x4, vL x5, vJ, vI x7, v8, vJ], []) (px_sh L, i, l, r, t) = if x4 < x7 then px_X d 218 (271, [vR 123, vI x1, vI x2, vI x3, vI x4, vL x5, vJ, vL 0, vJ, vI 0], []) (px_sh L, i, l, r, t) else px_X d 218 (123, [vR 123, vI x1, vI x2, vI x3, vI x4, vL (px_w64 (x5 * 12)), vJ, vI x7, vI 0, vJ], []) (px_sh L, i, l, r, t) := ((xs_ild k218_105 rfl).trans ((xs_ild k218_107 rfl).trans ((xs_jgt k218_109).trans (px_ite (fun c1 => ((xs_lc0 k218_265).trans ((xs_lst k218_266 (Nat.le_of_ble_eq_true rfl) (ls' := [vR 123, vI x1, vI x2, vI x3, vI x4, vL x5, vJ, vL 0, vJ, vJ]) rfl).trans ((xs_ic k218_268 (by omega)).trans (xs_ist k218_269 (Nat.le_of_ble_eq_true rfl) (ls' := [vR 123, vI x1, vI x2, vI x3, vI x4, vL x5, vJ, vL 0, vJ, vI 0]) rfl))))) (fun c1 => ((xs_lld k218_112 rfl).trans ((xs_ldc2 k218_114).trans ((xs_lmul k218_117).trans ((xs_lst k218_118 (Nat.le_of_ble_eq_true rfl) (ls' := [vR 123, vI x1, vI x2, vI x3, vI x4, vL (px_w64 (x5 * 12)), vJ, vI x7, v8, vJ]) rfl).trans ((xs_ic k218_120 (by omega)).trans (xs_ist k218_121 (Nat.le_of_ble_eq_true rfl) (ls' := [vR 123, vI x1, vI x2, vI x3, vI x4, vL (px_w64 (x5 * 12)), vJ, vI x7, vI 0, vJ]) rfl)))))))))))
theorem b218_123 (hr : px_hr r) (d : Nat) (i l : MI) (x1 : Int) (x2 : Int) (x3 : Int) (x4 : Int) (x5 : Int) (x7 : Int) (x8 : Int) : px_X (d + 1) 218 (123, [vR 123, vI x1, vI x2, vI x3, vI x4, vL x5, vJ, vI x7, vI x8, vJ], []) (px_sh L, i, l, r, t) = if (i 123 2) ≤ x8 then px_X (d + 1) 218 (172, [vR 123, vI x1, vI x2, vI x3, vI x4, vL x5, vJ, vI x7, vI 0, vJ], []) (px_sh L, i, l, r, t) else (px_C d 209 [vR 123, vI x8] (px_sh L, i, l, r, t)).bind (fun q => px_X (d + 1) 218 (px_psh (144, [vR 123, vI x1, vI x2, vI x3, vI x4, vL x5, vJ, vI x7, vI x8, vJ], [vI x8, vR 151]) q.1) q.2) := ((xs_ild k218_123 rfl).trans ((xs_aldn k218_125 rfl).trans ((xs_get0 k218_126 (px_s123 L) (Nat.le_of_ble_eq_true rfl)).trans ((xs_jge k218_129).trans (px_ite (fun c1 => ((xs_ic k218_169 (by omega)).trans (xs_ist k218_170 (Nat.le_of_ble_eq_true rfl) (ls' := [vR 123, vI x1, vI x2, vI x3, vI x4, vL x5, vJ, vI x7, vI 0, vJ]) rfl))) (fun c1 => ((xs_aldn k218_132 rfl).trans ((xs_get4 k218_133 (px_s123 L) (Nat.le_of_ble_eq_true rfl) (px_r123_47 hr)).trans ((xs_ild k218_136 rfl).trans ((xs_aldn k218_138 rfl).trans ((xs_ild k218_139 rfl).trans (xs_callvB k218_141 (as := [vI x8]) rfl rfl (Nat.le_of_ble_eq_true rfl) (Nat.le_of_ble_eq_true rfl) (Nat.le_of_ble_eq_true rfl) (px_s123 L) (Nat.le_of_ble_eq_true rfl)))))))))))))
theorem b218_144 (hr : px_hr r) (d : Nat) (i l : MI) (x1 : Int) (x2 : Int) (x3 : Int) (x4 : Int) (x5 : Int) (x7 : Int) (x8 : Int) (xs0 : Int) (xs1 : Int) (h1 : (xs0 = 0) → 0 ≤ xs1 ∧ xs1 < 36) (h2 : (¬ (xs0 = 0)) → 0 ≤ x8 ∧ x8 < 36) (h3 : (¬ (xs0 = 0)) → 0 ≤ xs1 ∧ xs1 < 36) : px_X d 218 (144, [vR 123, vI x1, vI x2, vI x3, vI x4, vL x5, vJ, vI x7, vI x8, vJ], [vI xs0, vI xs1, vR 151]) (px_sh L, i, l, r, t) = if xs0 = 0 then px_X d 218 (123, [vR 123, vI x1, vI x2, vI x3, vI x4, vL x5, vJ, vI x7, vI (px_w32 (x8 + 1)), vJ], []) (px_sh L, i, (px_up l 151 xs1 0), r, t) else px_X d 218 (123, [vR 123, vI x1, vI x2, vI x3, vI x4, vL x5, vJ, vI x7, vI (px_w32 (x8 + 1)), vJ], []) (px_sh L, i, (px_up l 151 xs1 (px_w64 ((l 150 x8) * 12))), r, t) := ((xs_ieq k218_144).trans (px_ite (fun c1 => ((xs_lc0 k218_161).trans ((xs_last k218_162 (px_s151 L) (h1 c1) (Nat.le_of_ble_eq_true rfl)).trans ((xs_iinc k218_163 rfl (by omega) (ls' := [vR 123, vI x1, vI x2, vI x3, vI x4, vL x5, vJ, vI x7, vI (px_w32 (x8 + 1)), vJ]) rfl).trans (xs_goto k218_166))))) (fun c1 => ((xs_aldn k218_147 rfl).trans ((xs_get4 k218_148 (px_s123 L) (Nat.le_of_ble_eq_true rfl) (px_r123_46 hr)).trans ((xs_ild k218_151 rfl).trans ((xs_lald k218_153 (px_s150 L) (h2 c1)).trans ((xs_ldc2 k218_154).trans ((xs_lmul k218_157).trans ((xs_goto k218_158).trans ((xs_last k218_162 (px_s151 L) (h3 c1) (Nat.le_of_ble_eq_true rfl)).trans ((xs_iinc k218_163 rfl (by omega) (ls' := [vR 123, vI x1, vI x2, vI x3, vI x4, vL x5, vJ, vI x7, vI (px_w32 (x8 + 1)), vJ]) rfl).trans (xs_goto k218_166)))))))))))))
theorem b218_172 (hr : px_hr r) (d : Nat) (i l : MI) (x1 : Int) (x2 : Int) (x3 : Int) (x4 : Int) (x5 : Int) (x7 : Int) (x8 : Int) (h1 : (¬ ((i 123 2) ≤ x8)) → 0 ≤ x8 ∧ x8 < 36) : px_X (d + 1) 218 (172, [vR 123, vI x1, vI x2, vI x3, vI x4, vL x5, vJ, vI x7, vI x8, vJ], []) (px_sh L, i, l, r, t) = if (i 123 2) ≤ x8 then px_X (d + 1) 218 (230, [vR 123, vI x1, vI x2, vI x3, vI x4, vL x5, vJ, vI x7, vI 0, vJ], []) (px_sh L, i, l, r, t) else if (px_cmp (l 150 x8) 0) ≤ 0 then px_X (d + 1) 218 (172, [vR 123, vI x1, vI x2, vI x3, vI x4, vL x5, vJ, vI x7, vI (px_w32 (x8 + 1)), vJ], []) (px_sh L, i, l, r, t) else (px_C d 209 [vR 123, vI x8] (px_sh L, i, l, r, t)).bind (fun q => px_X (d + 1) 218 (px_psh (199, [vR 123, vI x1, vI x2, vI x3, vI x4, vL x5, vJ, vI x7, vI x8, vJ], []) q.1) q.2) := ((xs_ild k218_172 rfl).trans ((xs_aldn k218_174 rfl).trans ((xs_get0 k218_175 (px_s123 L) (Nat.le_of_ble_eq_true rfl)).trans ((xs_jge k218_178).trans (px_ite (fun c1 => ((xs_ic k218_227 (by omega)).trans (xs_ist k218_228 (Nat.le_of_ble_eq_true rfl) (ls' := [vR 123, vI x1, vI x2, vI x3, vI x4, vL x5, vJ, vI x7, vI 0, vJ]) rfl))) (fun c1 => ((xs_aldn k218_181 rfl).trans ((xs_get4 k218_182 (px_s123 L) (Nat.le_of_ble_eq_true rfl) (px_r123_46 hr)).trans ((xs_ild k218_185 rfl).trans ((xs_lald k218_187 (px_s150 L) (h1 c1)).trans ((xs_lc0 k218_188).trans ((xs_lcmp k218_189).trans ((xs_ile k218_190).trans (px_ite (fun c2 => ((xs_iinc k218_221 rfl (by omega) (ls' := [vR 123, vI x1, vI x2, vI x3, vI x4, vL x5, vJ, vI x7, vI (px_w32 (x8 + 1)), vJ]) rfl).trans (xs_goto k218_224))) (fun c2 => ((xs_aldn k218_193 rfl).trans ((xs_ild k218_194 rfl).trans (xs_callvB k218_196 (as := [vI x8]) rfl rfl (Nat.le_of_ble_eq_true rfl) (Nat.le_of_ble_eq_true rfl) (Nat.le_of_ble_eq_true rfl) (px_s123 L) (Nat.le_of_ble_eq_true rfl)))))))))))))))))))
theorem b218_199 (hr : px_hr r) (d : Nat) (i l : MI) (x1 : Int) (x2 : Int) (x3 : Int) (x4 : Int) (x5 : Int) (x7 : Int) (x8 : Int) (xs0 : Int) : px_X (d + 1) 218 (199, [vR 123, vI x1, vI x2, vI x3, vI x4, vL x5, vJ, vI x7, vI x8, vJ], [vI xs0]) (px_sh L, i, l, r, t) = if xs0 = 0 then (px_C d 146 [vR 123, vI x1, vI 5] (px_sh L, i, l, r, t)).bind (fun q => px_X (d + 1) 218 (px_psh (216, [vR 123, vI x1, vI x2, vI x3, vI x4, vL x5, vJ, vI x7, vI x8, vJ], [vI x7, vI x2, vI x3, vI x8, vI x1, vR 123]) q.1) q.2) else px_X (d + 1) 218 (172, [vR 123, vI x1, vI x2, vI x3, vI x4, vL x5, vJ, vI x7, vI (px_w32 (x8 + 1)), vJ], []) (px_sh L, i, l, r, t) := ((xs_ine k218_199).trans (px_ite (fun c1 => ((xs_aldn k218_202 rfl).trans ((xs_ildn k218_203 rfl).trans ((xs_ild k218_204 rfl).trans ((xs_ildn k218_206 rfl).trans ((xs_ildn k218_207 rfl).trans ((xs_ild k218_208 rfl).trans ((xs_aldn k218_210 rfl).trans ((xs_ildn k218_211 rfl).trans ((xs_ic k218_212 (by omega)).trans (xs_callvB k218_213 (as := [vI x1, vI 5]) rfl rfl (Nat.le_of_ble_eq_true rfl) (Nat.le_of_ble_eq_true rfl) (Nat.le_of_ble_eq_true rfl) (px_s123 L) (Nat.le_of_ble_eq_true rfl)))))))))))) (fun c1 => ((xs_iinc k218_221 rfl (by omega) (ls' := [vR 123, vI x1, vI x2, vI x3, vI x4, vL x5, vJ, vI x7, vI (px_w32 (x8 + 1)), vJ]) rfl).trans (xs_goto k218_224)))))
theorem b218_216 (hr : px_hr r) (d : Nat) (i l : MI) (x1 : Int) (x2 : Int) (x3 : Int) (x4 : Int) (x5 : Int) (x7 : Int) (x8 : Int) (xs0 : Int) (xs1 : Int) (xs2 : Int) (xs3 : Int) (xs4 : Int) (xs5 : Int) : px_X (d + 1) 218 (216, [vR 123, vI x1, vI x2, vI x3, vI x4, vL x5, vJ, vI x7, vI x8, vJ], [vI xs0, vI xs1, vI xs2, vI xs3, vI xs4, vI xs5, vR 123]) (px_sh L, i, l, r, t) = (px_C d 217 [vR 123, vI xs5, vI xs4, vI xs3, vI (px_w32 (xs2 + (px_w32 (xs1 * xs0))))] (px_sh L, i, l, r, t)).bind (fun q => px_X (d + 1) 218 (px_psh (221, [vR 123, vI x1, vI x2, vI x3, vI x4, vL x5, vJ, vI x7, vI x8, vJ], []) q.1) q.2) := ((xs_imul k218_216).trans ((xs_iadd k218_217).trans (xs_callvB k218_218 (as := [vI xs5, vI xs4, vI xs3, vI (px_w32 (xs2 + (px_w32 (xs1 * xs0))))]) rfl rfl (Nat.le_of_ble_eq_true rfl) (Nat.le_of_ble_eq_true rfl) (Nat.le_of_ble_eq_true rfl) (px_s123 L) (Nat.le_of_ble_eq_true rfl))))
theorem b218_221 (hr : px_hr r) (d : Nat) (i l : MI) (x1 : Int) (x2 : Int) (x3 : Int) (x4 : Int) (x5 : Int) (x7 : Int) (x8 : Int) : px_X d 218 (221, [vR 123, vI x1, vI x2, vI x3, vI x4, vL x5, vJ, vI x7, vI x8, vJ], []) (px_sh L, i, l, r, t) = px_X d 218 (172, [vR 123, vI x1, vI x2, vI x3, vI x4, vL x5, vJ, vI x7, vI (px_w32 (x8 + 1)), vJ], []) (px_sh L, i, l, r, t) := ((xs_iinc k218_221 rfl (by omega) (ls' := [vR 123, vI x1, vI x2, vI x3, vI x4, vL x5, vJ, vI x7, vI (px_w32 (x8 + 1)), vJ]) rfl).trans (xs_goto k218_224))
theorem b218_230 (hr : px_hr r) (d : Nat) (i l : MI) (x1 : Int) (x2 : Int) (x3 : Int) (x4 : Int) (x5 : Int) (x7 : Int) (x8 : Int) (h1 : (¬ ((i 123 2) ≤ x8)) → 0 ≤ x8 ∧ x8 < 36) : px_X d 218 (230, [vR 123, vI x1, vI x2, vI x3, vI x4, vL x5, vJ, vI x7, vI x8, vJ], []) (px_sh L, i, l, r, t) = if (i 123 2) ≤ x8 then px_X d 218 (105, [vR 123, vI x1, vI x2, vI x3, vI x4, vL x5, vJ, vI (px_w32 (x7 + 1)), vI x8, vJ], []) (px_sh L, i, l, r, t) else px_X d 218 (230, [vR 123, vI x1, vI x2, vI x3, vI x4, vL x5, vJ, vI x7, vI (px_w32 (x8 + 1)), vJ], []) (px_sh L, i, (px_up l 150 x8 (l 151 x8)), r, t) := ((xs_ild k218_230 rfl).trans ((xs_aldn k218_232 rfl).trans ((xs_get0 k218_233 (px_s123 L) (Nat.le_of_ble_eq_true rfl)).trans ((xs_jge k218_236).trans (px_ite (fun c1 => ((xs_iinc k218_259 rfl (by omega) (ls' := [vR 123, vI x1, vI x2, vI x3, vI x4, vL x5, vJ, vI (px_w32 (x7 + 1)), vI x8, vJ]) rfl).trans (xs_goto k218_262))) (fun c1 => ((xs_aldn k218_239 rfl).trans ((xs_get4 k218_240 (px_s123 L) (Nat.le_of_ble_eq_true rfl) (px_r123_46 hr)).trans ((xs_ild k218_243 rfl).trans ((xs_aldn k218_245 rfl).trans ((xs_get4 k218_246 (px_s123 L) (Nat.le_of_ble_eq_true rfl) (px_r123_47 hr)).trans ((xs_ild k218_249 rfl).trans ((xs_lald k218_251 (px_s151 L) (h1 c1)).trans ((xs_last k218_252 (px_s150 L) (h1 c1) (Nat.le_of_ble_eq_true rfl)).trans ((xs_iinc k218_253 rfl (by omega) (ls' := [vR 123, vI x1, vI x2, vI x3, vI x4, vL x5, vJ, vI x7, vI (px_w32 (x8 + 1)), vJ]) rfl).trans (xs_goto k218_256))))))))))))))))
theorem b218_271 (hr : px_hr r) (d : Nat) (i l : MI) (x1 : Int) (x2 : Int) (x3 : Int) (x4 : Int) (x5 : Int) (x7 : Int) (x9 : Int) (h1 : ((i 123 2) ≤ x9) → ¬ x5 = 0) : px_X (d + 1) 218 (271, [vR 123, vI x1, vI x2, vI x3, vI x4, vL x5, vJ, vL x7, vJ, vI x9], []) (px_sh L, i, l, r, t) = if (i 123 2) ≤ x9 then some (some (vI (px_w32 (px_w64 (Int.tdiv (px_w64 (1000 * x7)) x5)))), (px_sh L, i, l, r, t)) else (px_C d 209 [vR 123, vI x9] (px_sh L, i, l, r, t)).bind (fun q => px_X (d + 1) 218 (px_psh (288, [vR 123, vI x1, vI x2, vI x3, vI x4, vL x5, vJ, vL x7, vJ, vI x9], [vL x7]) q.1) q.2) := ((xs_ild k218_271 rfl).trans ((xs_aldn k218_273 rfl).trans ((xs_get0 k218_274 (px_s123 L) (Nat.le_of_ble_eq_true rfl)).trans ((xs_jge k218_277).trans (px_ite (fun c1 => ((xs_ldc2 k218_311).trans ((xs_lld k218_314 rfl).trans ((xs_lmul k218_316).trans ((xs_lld k218_317 rfl).trans ((xs_ldiv k218_319 (h1 c1)).trans ((xs_l2i k218_320).trans (xs_ri k218_321 rfl)))))))) (fun c1 => ((xs_lld k218_280 rfl).trans ((xs_aldn k218_282 rfl).trans ((xs_ild k218_283 rfl).trans (xs_callvB k218_285 (as := [vI x9]) rfl rfl (Nat.le_of_ble_eq_true rfl) (Nat.le_of_ble_eq_true rfl) (Nat.le_of_ble_eq_true rfl) (px_s123 L) (Nat.le_of_ble_eq_true rfl)))))))))))
theorem b218_288 (hr : px_hr r) (d : Nat) (i l : MI) (x1 : Int) (x2 : Int) (x3 : Int) (x4 : Int) (x5 : Int) (x7 : Int) (x9 : Int) (xs0 : Int) (xs1 : Int) (h1 : (¬ (xs0 = 0)) → 0 ≤ x9 ∧ x9 < 36) : px_X d 218 (288, [vR 123, vI x1, vI x2, vI x3, vI x4, vL x5, vJ, vL x7, vJ, vI x9], [vI xs0, vL xs1]) (px_sh L, i, l, r, t) = if xs0 = 0 then px_X d 218 (271, [vR 123, vI x1, vI x2, vI x3, vI x4, vL x5, vJ, vL (px_w64 (xs1 + 0)), vJ, vI (px_w32 (x9 + 1))], []) (px_sh L, i, l, r, t) else px_X d 218 (271, [vR 123, vI x1, vI x2, vI x3, vI x4, vL x5, vJ, vL (px_w64 (xs1 + (l 150 x9))), vJ, vI (px_w32 (x9 + 1))], []) (px_sh L, i, l, r, t) := ((xs_ieq k218_288).trans (px_ite (fun c1 => ((xs_lc0 k218_301).trans ((xs_ladd k218_302).trans ((xs_lst k218_303 (Nat.le_of_ble_eq_true rfl) (ls' := [vR 123, vI x1, vI x2, vI x3, vI x4, vL x5, vJ, vL (px_w64 (xs1 + 0)), vJ, vI x9]) rfl).trans ((xs_iinc k218_305 rfl (by omega) (ls' := [vR 123, vI x1, vI x2, vI x3, vI x4, vL x5, vJ, vL (px_w64 (xs1 + 0)), vJ, vI (px_w32 (x9 + 1))]) rfl).trans (xs_goto k218_308)))))) (fun c1 => ((xs_aldn k218_291 rfl).trans ((xs_get4 k218_292 (px_s123 L) (Nat.le_of_ble_eq_true rfl) (px_r123_46 hr)).trans ((xs_ild k218_295 rfl).trans ((xs_lald k218_297 (px_s150 L) (h1 c1)).trans ((xs_goto k218_298).trans ((xs_ladd k218_302).trans ((xs_lst k218_303 (Nat.le_of_ble_eq_true rfl) (ls' := [vR 123, vI x1, vI x2, vI x3, vI x4, vL x5, vJ, vL (px_w64 (xs1 + (l 150 x9))), vJ, vI x9]) rfl).trans ((xs_iinc k218_305 rfl (by omega) (ls' := [vR 123, vI x1, vI x2, vI x3, vI x4, vL x5, vJ, vL (px_w64 (xs1 + (l 150 x9))), vJ, vI (px_w32 (x9 + 1))]) rfl).trans (xs_goto k218_308))))))))))))
-- TideGuestsModel.hereMany ('R123',)
theorem b219_0 (hr : px_hr r) (d : Nat) (i l : MI)  : px_X d 219 (0, [vR 123, vJ, vJ], []) (px_sh L, i, l, r, t) = px_X d 219 (4, [vR 123, vI 0, vI 0], []) (px_sh L, i, l, r, t) := ((xs_ic k219_0 (by omega)).trans ((xs_istn k219_1 (Nat.le_of_ble_eq_true rfl) (ls' := [vR 123, vI 0, vJ]) rfl).trans ((xs_ic k219_2 (by omega)).trans (xs_istn k219_3 (Nat.le_of_ble_eq_true rfl) (ls' := [vR 123, vI 0, vI 0]) rfl))))
theorem b219_4 (hr : px_hr r) (d : Nat) (i l : MI) (x1 : Int) (x2 : Int) : px_X (d + 1) 219 (4, [vR 123, vI x1, vI x2], []) (px_sh L, i, l, r, t) = if (i 124 4) ≤ x2 then some (some (vI x1), (px_sh L, i, l, r, t)) else (px_C d 146 [vR 123, vI x2, vI 8] (px_sh L, i, l, r, t)).bind (fun q => px_X (d + 1) 219 (px_psh (22, [vR 123, vI x1, vI x2], [vI x1]) q.1) q.2) := ((xs_ildn k219_4 rfl).trans ((xs_aldn k219_5 rfl).trans ((xs_get4 k219_6 (px_s123 L) (Nat.le_of_ble_eq_true rfl) (px_r123_3 hr)).trans ((xs_ic k219_9 (by omega)).trans ((xs_iald k219_10 (px_s124 L) (by omega)).trans ((xs_jge k219_11).trans (px_ite (fun c1 => ((xs_ildn k219_30 rfl).trans (xs_ri k219_31 rfl))) (fun c1 => ((xs_ildn k219_14 rfl).trans ((xs_aldn k219_15 rfl).trans ((xs_ildn k219_16 rfl).trans ((xs_bi k219_17 (by omega)).trans (xs_callvB k219_19 (as := [vI x2, vI 8]) rfl rfl (Nat.le_of_ble_eq_true rfl) (Nat.le_of_ble_eq_true rfl) (Nat.le_of_ble_eq_true rfl) (px_s123 L) (Nat.le_of_ble_eq_true rfl))))))))))))))
theorem b219_22 (hr : px_hr r) (d : Nat) (i l : MI) (x1 : Int) (x2 : Int) (xs0 : Int) (xs1 : Int) : px_X d 219 (22, [vR 123, vI x1, vI x2], [vI xs0, vI xs1]) (px_sh L, i, l, r, t) = px_X d 219 (4, [vR 123, vI (px_w32 (xs1 + xs0)), vI (px_w32 (x2 + 1))], []) (px_sh L, i, l, r, t) := ((xs_iadd k219_22).trans ((xs_istn k219_23 (Nat.le_of_ble_eq_true rfl) (ls' := [vR 123, vI (px_w32 (xs1 + xs0)), vI x2]) rfl).trans ((xs_iinc k219_24 rfl (by omega) (ls' := [vR 123, vI (px_w32 (xs1 + xs0)), vI (px_w32 (x2 + 1))]) rfl).trans (xs_goto k219_27))))
-- TideGuestsModel.wetRank ('R123', 'I', 'I')
theorem b220_0 (hr : px_hr r) (d : Nat) (i l : MI) (x1 : Int) (x2 : Int) : px_X d 220 (0, [vR 123, vI x1, vI x2, vJ, vJ, vJ], []) (px_sh L, i, l, r, t) = px_X d 220 (2, [vR 123, vI x1, vI x2, vI 0, vJ, vJ], []) (px_sh L, i, l, r, t) := ((xs_ic k220_0 (by omega)).trans (xs_istn k220_1 (Nat.le_of_ble_eq_true rfl) (ls' := [vR 123, vI x1, vI x2, vI 0, vJ, vJ]) rfl))
theorem b220_2 (hr : px_hr r) (d : Nat) (i l : MI) (x1 : Int) (x2 : Int) (x3 : Int) (h1 : (¬ (8 ≤ x3)) → ((i 124 3) ≤ x3) → 0 ≤ x3 ∧ x3 < 8) (h2 : (¬ (8 ≤ x3)) → (¬ ((i 124 3) ≤ x3)) → 0 ≤ (px_w32 ((px_w32 (100 + (px_w32 (2 * x3)))) + 1)) ∧ (px_w32 ((px_w32 (100 + (px_w32 (2 * x3)))) + 1)) < 820) (h3 : (¬ (8 ≤ x3)) → (¬ ((i 124 3) ≤ x3)) → 0 ≤ x3 ∧ x3 < 8) : px_X d 220 (2, [vR 123, vI x1, vI x2, vI x3, vJ, vJ], []) (px_sh L, i, l, r, t) = if 8 ≤ x3 then px_X d 220 (52, [vR 123, vI x1, vI x2, vI 0, vI 0, vJ], []) (px_sh L, i, l, r, t) else if (i 124 3) ≤ x3 then px_X d 220 (2, [vR 123, vI x1, vI x2, vI (px_w32 (x3 + 1)), vJ, vJ], []) (px_sh L, (px_up i 143 x3 0), l, r, t) else px_X d 220 (2, [vR 123, vI x1, vI x2, vI (px_w32 (x3 + 1)), vJ, vJ], []) (px_sh L, (px_up i 143 x3 (i 124 (px_w32 ((px_w32 (100 + (px_w32 (2 * x3)))) + 1)))), l, r, t) := ((xs_ildn k220_2 rfl).trans ((xs_bi k220_3 (by omega)).trans ((xs_jge k220_5).trans (px_ite (fun c1 => ((xs_ic k220_47 (by omega)).trans ((xs_istn k220_48 (Nat.le_of_ble_eq_true rfl) (ls' := [vR 123, vI x1, vI x2, vI 0, vJ, vJ]) rfl).trans ((xs_ic k220_49 (by omega)).trans (xs_ist k220_50 (Nat.le_of_ble_eq_true rfl) (ls' := [vR 123, vI x1, vI x2, vI 0, vI 0, vJ]) rfl))))) (fun c1 => ((xs_aldn k220_8 rfl).trans ((xs_get4 k220_9 (px_s123 L) (Nat.le_of_ble_eq_true rfl) (px_r123_39 hr)).trans ((xs_ildn k220_12 rfl).trans ((xs_ildn k220_13 rfl).trans ((xs_aldn k220_14 rfl).trans ((xs_get4 k220_15 (px_s123 L) (Nat.le_of_ble_eq_true rfl) (px_r123_3 hr)).trans ((xs_ic k220_18 (by omega)).trans ((xs_iald k220_19 (px_s124 L) (by omega)).trans ((xs_jge k220_20).trans (px_ite (fun c2 => ((xs_ic k220_39 (by omega)).trans ((xs_iast k220_40 (px_s143 L) (h1 c1 c2) (Nat.le_of_ble_eq_true rfl)).trans ((xs_iinc k220_41 rfl (by omega) (ls' := [vR 123, vI x1, vI x2, vI (px_w32 (x3 + 1)), vJ, vJ]) rfl).trans (xs_goto k220_44))))) (fun c2 => ((xs_aldn k220_23 rfl).trans ((xs_get4 k220_24 (px_s123 L) (Nat.le_of_ble_eq_true rfl) (px_r123_3 hr)).trans ((xs_bi k220_27 (by omega)).trans ((xs_ic k220_29 (by omega)).trans ((xs_ildn k220_30 rfl).trans ((xs_imul k220_31).trans ((xs_iadd k220_32).trans ((xs_ic k220_33 (by omega)).trans ((xs_iadd k220_34).trans ((xs_iald k220_35 (px_s124 L) (h2 c1 c2)).trans ((xs_goto k220_36).trans ((xs_iast k220_40 (px_s143 L) (h3 c1 c2) (Nat.le_of_ble_eq_true rfl)).trans ((xs_iinc k220_41 rfl (by omega) (ls' := [vR 123, vI x1, vI x2, vI (px_w32 (x3 + 1)), vJ, vJ]) rfl).trans (xs_goto k220_44))))))))))))))))))))))))))))))
theorem b220_52 (hr : px_hr r) (d : Nat) (i l : MI) (x1 : Int) (x2 : Int) (x3 : Int) (x4 : Int) {v5 : PV} (hn5 : px_nl v5) (h1 : (¬ (x1 ≤ x4)) → 0 ≤ x4 ∧ x4 < 5) (h2 : (¬ (x1 ≤ x4)) → (¬ ((i 153 x4) = 8)) → 0 ≤ (i 153 x4) ∧ (i 153 x4) < 8) : px_X d 220 (52, [vR 123, vI x1, vI x2, vI x3, vI x4, v5], []) (px_sh L, i, l, r, t) = if x1 ≤ x4 then some (some (vI x3), (px_sh L, i, l, r, t)) else if (i 153 x4) = 8 then px_X d 220 (97, [vR 123, vI x1, vI x2, vI x3, vI x4, vI (i 153 x4)], []) (px_sh L, i, l, r, t) else if 0 ≤ ((px_up i 143 (i 153 x4) (px_w32 ((i 143 (i 153 x4)) - 1))) 143 (i 153 x4)) then px_X d 220 (97, [vR 123, vI x1, vI x2, vI x3, vI x4, vI (i 153 x4)], []) (px_sh L, (px_up i 143 (i 153 x4) (px_w32 ((i 143 (i 153 x4)) - 1))), l, r, t) else some (some (vI (-1)), (px_sh L, (px_up i 143 (i 153 x4) (px_w32 ((i 143 (i 153 x4)) - 1))), l, r, t)) := ((xs_ild k220_52 rfl).trans ((xs_ildn k220_54 rfl).trans ((xs_jge k220_55).trans (px_ite (fun c1 => ((xs_ildn k220_145 rfl).trans (xs_ri k220_146 rfl))) (fun c1 => ((xs_aldn k220_58 rfl).trans ((xs_get4 k220_59 (px_s123 L) (Nat.le_of_ble_eq_true rfl) (px_r123_49 hr)).trans ((xs_ild k220_62 rfl).trans ((xs_iald k220_64 (px_s153 L) (h1 c1)).trans ((xs_ist k220_65 (Nat.le_of_ble_eq_true rfl) (ls' := [vR 123, vI x1, vI x2, vI x3, vI x4, vI (i 153 x4)]) rfl).trans ((xs_ild k220_67 rfl).trans ((xs_bi k220_69 (by omega)).trans ((xs_jeq k220_71).trans (px_ite (fun c2 => rfl) (fun c2 => ((xs_aldn k220_74 rfl).trans ((xs_get4 k220_75 (px_s123 L) (Nat.le_of_ble_eq_true rfl) (px_r123_39 hr)).trans ((xs_ild k220_78 rfl).trans ((xs_dup2 k220_80 ⟨rfl, rfl⟩).trans ((xs_iald k220_81 (px_s143 L) (h2 c1 c2)).trans ((xs_ic k220_82 (by omega)).trans ((xs_isub k220_83).trans ((xs_iast k220_84 (px_s143 L) (h2 c1 c2) (Nat.le_of_ble_eq_true rfl)).trans ((xs_aldn k220_85 rfl).trans ((xs_get4 k220_86 (px_s123 L) (Nat.le_of_ble_eq_true rfl) (px_r123_39 hr)).trans ((xs_ild k220_89 rfl).trans ((xs_iald k220_91 (px_s143 L) (h2 c1 c2)).trans ((xs_ige k220_92).trans (px_ite (fun c3 => rfl) (fun c3 => ((xs_ic k220_95 (by omega)).trans (xs_ri k220_96 rfl))))))))))))))))))))))))))))))))
theorem b220_97 (hr : px_hr r) (d : Nat) (i l : MI) (x1 : Int) (x2 : Int) (x3 : Int) (x4 : Int) (x5 : Int) : px_X (d + 1) 220 (97, [vR 123, vI x1, vI x2, vI x3, vI x4, vI x5], []) (px_sh L, i, l, r, t) = if x5 = 8 then px_X (d + 1) 220 (116, [vR 123, vI x1, vI x2, vI x3, vI x4, vI x5], [vI 0, vI x2, vI x3]) (px_sh L, i, l, r, t) else (px_C d 194 [vR 123, vI x5] (px_sh L, i, l, r, t)).bind (fun q => px_X (d + 1) 220 (px_psh (116, [vR 123, vI x1, vI x2, vI x3, vI x4, vI x5], [vI x2, vI x3]) q.1) q.2) := ((xs_ildn k220_97 rfl).trans ((xs_ildn k220_98 rfl).trans ((xs_ild k220_99 rfl).trans ((xs_bi k220_101 (by omega)).trans ((xs_jne k220_103).trans (px_ite (fun c1 => ((xs_ic k220_106 (by omega)).trans (xs_goto k220_107))) (fun c1 => ((xs_aldn k220_110 rfl).trans ((xs_ild k220_111 rfl).trans (xs_callvB k220_113 (as := [vI x5]) rfl rfl (Nat.le_of_ble_eq_true rfl) (Nat.le_of_ble_eq_true rfl) (Nat.le_of_ble_eq_true rfl) (px_s123 L) (Nat.le_of_ble_eq_true rfl)))))))))))
theorem b220_116 (hr : px_hr r) (d : Nat) (i l : MI) (x1 : Int) (x2 : Int) (x3 : Int) (x4 : Int) (x5 : Int) (xs0 : Int) (xs1 : Int) (xs2 : Int) (h1 : (¬ (xs1 ≤ xs0)) → 0 ≤ x4 ∧ x4 < 5) : px_X (d + 1) 220 (116, [vR 123, vI x1, vI x2, vI x3, vI x4, vI x5], [vI xs0, vI xs1, vI xs2]) (px_sh L, i, l, r, t) = if xs1 ≤ xs0 then px_X (d + 1) 220 (52, [vR 123, vI x1, vI x2, vI (px_w32 (xs2 + 0)), vI (px_w32 (x4 + 1)), vI x5], []) (px_sh L, i, l, r, t) else (px_C d 146 [vR 123, vI (i 152 x4), vI 0] (px_sh L, i, l, r, t)).bind (fun q => px_X (d + 1) 220 (px_psh (131, [vR 123, vI x1, vI x2, vI x3, vI x4, vI x5], [vI xs2]) q.1) q.2) := ((xs_jle k220_116).trans (px_ite (fun c1 => ((xs_ic k220_136 (by omega)).trans ((xs_iadd k220_137).trans ((xs_istn k220_138 (Nat.le_of_ble_eq_true rfl) (ls' := [vR 123, vI x1, vI x2, vI (px_w32 (xs2 + 0)), vI x4, vI x5]) rfl).trans ((xs_iinc k220_139 rfl (by omega) (ls' := [vR 123, vI x1, vI x2, vI (px_w32 (xs2 + 0)), vI (px_w32 (x4 + 1)), vI x5]) rfl).trans (xs_goto k220_142)))))) (fun c1 => ((xs_aldn k220_119 rfl).trans ((xs_aldn k220_120 rfl).trans ((xs_get4 k220_121 (px_s123 L) (Nat.le_of_ble_eq_true rfl) (px_r123_48 hr)).trans ((xs_ild k220_124 rfl).trans ((xs_iald k220_126 (px_s152 L) (h1 c1)).trans ((xs_ic k220_127 (by omega)).trans (xs_callvB k220_128 (as := [vI (i 152 x4), vI 0]) rfl rfl (Nat.le_of_ble_eq_true rfl) (Nat.le_of_ble_eq_true rfl) (Nat.le_of_ble_eq_true rfl) (px_s123 L) (Nat.le_of_ble_eq_true rfl)))))))))))
theorem b220_131 (hr : px_hr r) (d : Nat) (i l : MI) (x1 : Int) (x2 : Int) (x3 : Int) (x4 : Int) (x5 : Int) (xs0 : Int) (xs1 : Int) : px_X d 220 (131, [vR 123, vI x1, vI x2, vI x3, vI x4, vI x5], [vI xs0, vI xs1]) (px_sh L, i, l, r, t) = px_X d 220 (52, [vR 123, vI x1, vI x2, vI (px_w32 (xs1 + (px_w32 (xs0 + 1)))), vI (px_w32 (x4 + 1)), vI x5], []) (px_sh L, i, l, r, t) := ((xs_ic k220_131 (by omega)).trans ((xs_iadd k220_132).trans ((xs_goto k220_133).trans ((xs_iadd k220_137).trans ((xs_istn k220_138 (Nat.le_of_ble_eq_true rfl) (ls' := [vR 123, vI x1, vI x2, vI (px_w32 (xs1 + (px_w32 (xs0 + 1)))), vI x4, vI x5]) rfl).trans ((xs_iinc k220_139 rfl (by omega) (ls' := [vR 123, vI x1, vI x2, vI (px_w32 (xs1 + (px_w32 (xs0 + 1)))), vI (px_w32 (x4 + 1)), vI x5]) rfl).trans (xs_goto k220_142)))))))
-- TideGuestsModel.given ('R123', 'I', 'I')
theorem b221_0 (hr : px_hr r) (d : Nat) (i l : MI) (x1 : Int) (x2 : Int) : px_X (d + 1) 221 (0, [vR 123, vI x1, vI x2, vJ, vJ, vJ, vJ, vJ, vJ, vJ, vJ, vJ], []) (px_sh L, i, l, r, t) = (px_C d 219 [vR 123] (px_sh L, i, l, r, t)).bind (fun q => px_X (d + 1) 221 (px_psh (4, [vR 123, vI x1, vI x2, vJ, vJ, vJ, vJ, vJ, vJ, vJ, vJ, vJ], []) q.1) q.2) := ((xs_aldn k221_0 rfl).trans (xs_callvB k221_1 (as := []) rfl rfl (Nat.le_of_ble_eq_true rfl) (Nat.le_of_ble_eq_true rfl) (Nat.le_of_ble_eq_true rfl) (px_s123 L) (Nat.le_of_ble_eq_true rfl)))
theorem b221_4 (hr : px_hr r) (d : Nat) (i l : MI) (x1 : Int) (x2 : Int) (xs0 : Int) : px_X (d + 1) 221 (4, [vR 123, vI x1, vI x2, vJ, vJ, vJ, vJ, vJ, vJ, vJ, vJ, vJ], [vI xs0]) (px_sh L, i, l, r, t) = (px_C d 145 [vI x1] (px_sh L, i, l, r, t)).bind (fun q => px_X (d + 1) 221 (px_psh (9, [vR 123, vI x1, vI x2, vI xs0, vJ, vJ, vJ, vJ, vJ, vJ, vJ, vJ], []) q.1) q.2) := ((xs_istn k221_4 (Nat.le_of_ble_eq_true rfl) (ls' := [vR 123, vI x1, vI x2, vI xs0, vJ, vJ, vJ, vJ, vJ, vJ, vJ, vJ]) rfl).trans ((xs_ildn k221_5 rfl).trans (xs_callsB k221_6 (as := [vI x1]) rfl rfl (Nat.le_of_ble_eq_true rfl) (Nat.le_of_ble_eq_true rfl) (Nat.le_of_ble_eq_true rfl))))
theorem b221_9 (hr : px_hr r) (d : Nat) (i l : MI) (x1 : Int) (x2 : Int) (x3 : Int) (xs0 : Int) : px_X (d + 1) 221 (9, [vR 123, vI x1, vI x2, vI x3, vJ, vJ, vJ, vJ, vJ, vJ, vJ, vJ], [vI xs0]) (px_sh L, i, l, r, t) = if xs0 = 0 then some (some (vI (-1)), (px_sh L, i, l, r, t)) else if 5 < x3 then some (some (vI (-1)), (px_sh L, i, l, r, t)) else if x2 = (-1) then px_X (d + 1) 221 (51, [vR 123, vI x1, vI x2, vI x3, vI 1, vI 0, vI 0, vJ, vJ, vJ, vJ, vJ], []) (px_sh L, i, l, r, t) else (px_C d 144 [vR 123, vI x2] (px_sh L, i, l, r, t)).bind (fun q => px_X (d + 1) 221 (px_psh (27, [vR 123, vI x1, vI x2, vI x3, vJ, vJ, vJ, vJ, vJ, vJ, vJ, vJ], []) q.1) q.2) := ((xs_ieq k221_9).trans (px_ite (fun c1 => ((xs_ic k221_40 (by omega)).trans (xs_ri k221_41 rfl))) (fun c1 => ((xs_ildn k221_12 rfl).trans ((xs_ic k221_13 (by omega)).trans ((xs_jgt k221_14).trans (px_ite (fun c2 => ((xs_ic k221_40 (by omega)).trans (xs_ri k221_41 rfl))) (fun c2 => ((xs_ildn k221_17 rfl).trans ((xs_ic k221_18 (by omega)).trans ((xs_jeq k221_19).trans (px_ite (fun c3 => ((xs_ic k221_42 (by omega)).trans ((xs_ist k221_43 (Nat.le_of_ble_eq_true rfl) (ls' := [vR 123, vI x1, vI x2, vI x3, vI 1, vJ, vJ, vJ, vJ, vJ, vJ, vJ]) rfl).trans ((xs_ic k221_45 (by omega)).trans ((xs_ist k221_46 (Nat.le_of_ble_eq_true rfl) (ls' := [vR 123, vI x1, vI x2, vI x3, vI 1, vI 0, vJ, vJ, vJ, vJ, vJ, vJ]) rfl).trans ((xs_ic k221_48 (by omega)).trans (xs_ist k221_49 (Nat.le_of_ble_eq_true rfl) (ls' := [vR 123, vI x1, vI x2, vI x3, vI 1, vI 0, vI 0, vJ, vJ, vJ, vJ, vJ]) rfl))))))) (fun c3 => ((xs_aldn k221_22 rfl).trans ((xs_ildn k221_23 rfl).trans (xs_callvB k221_24 (as := [vI x2]) rfl rfl (Nat.le_of_ble_eq_true rfl) (Nat.le_of_ble_eq_true rfl) (Nat.le_of_ble_eq_true rfl) (px_s123 L) (Nat.le_of_ble_eq_true rfl)))))))))))))))))
theorem b221_27 (hr : px_hr r) (d : Nat) (i l : MI) (x1 : Int) (x2 : Int) (x3 : Int) (xs0 : Int) : px_X (d + 1) 221 (27, [vR 123, vI x1, vI x2, vI x3, vJ, vJ, vJ, vJ, vJ, vJ, vJ, vJ], [vI xs0]) (px_sh L, i, l, r, t) = if xs0 = 0 then some (some (vI (-1)), (px_sh L, i, l, r, t)) else (px_C d 146 [vR 123, vI x2, vI 8] (px_sh L, i, l, r, t)).bind (fun q => px_X (d + 1) 221 (px_psh (37, [vR 123, vI x1, vI x2, vI x3, vJ, vJ, vJ, vJ, vJ, vJ, vJ, vJ], []) q.1) q.2) := ((xs_ieq k221_27).trans (px_ite (fun c1 => ((xs_ic k221_40 (by omega)).trans (xs_ri k221_41 rfl))) (fun c1 => ((xs_aldn k221_30 rfl).trans ((xs_ildn k221_31 rfl).trans ((xs_bi k221_32 (by omega)).trans (xs_callvB k221_34 (as := [vI x2, vI 8]) rfl rfl (Nat.le_of_ble_eq_true rfl) (Nat.le_of_ble_eq_true rfl) (Nat.le_of_ble_eq_true rfl) (px_s123 L) (Nat.le_of_ble_eq_true rfl))))))))
theorem b221_37 (hr : px_hr r) (d : Nat) (i l : MI) (x1 : Int) (x2 : Int) (x3 : Int) (xs0 : Int) : px_X d 221 (37, [vR 123, vI x1, vI x2, vI x3, vJ, vJ, vJ, vJ, vJ, vJ, vJ, vJ], [vI xs0]) (px_sh L, i, l, r, t) = if xs0 = 0 then some (some (vI (-1)), (px_sh L, i, l, r, t)) else px_X d 221 (51, [vR 123, vI x1, vI x2, vI x3, vI 1, vI 0, vI 0, vJ, vJ, vJ, vJ, vJ], []) (px_sh L, i, l, r, t) := ((xs_ine k221_37).trans (px_ite (fun c1 => ((xs_ic k221_40 (by omega)).trans (xs_ri k221_41 rfl))) (fun c1 => ((xs_ic k221_42 (by omega)).trans ((xs_ist k221_43 (Nat.le_of_ble_eq_true rfl) (ls' := [vR 123, vI x1, vI x2, vI x3, vI 1, vJ, vJ, vJ, vJ, vJ, vJ, vJ]) rfl).trans ((xs_ic k221_45 (by omega)).trans ((xs_ist k221_46 (Nat.le_of_ble_eq_true rfl) (ls' := [vR 123, vI x1, vI x2, vI x3, vI 1, vI 0, vJ, vJ, vJ, vJ, vJ, vJ]) rfl).trans ((xs_ic k221_48 (by omega)).trans (xs_ist k221_49 (Nat.le_of_ble_eq_true rfl) (ls' := [vR 123, vI x1, vI x2, vI x3, vI 1, vI 0, vI 0, vJ, vJ, vJ, vJ, vJ]) rfl)))))))))
theorem b221_51 (hr : px_hr r) (d : Nat) (i l : MI) (x1 : Int) (x2 : Int) (x3 : Int) (x4 : Int) (x5 : Int) (x6 : Int) : px_X (d + 1) 221 (51, [vR 123, vI x1, vI x2, vI x3, vI x4, vI x5, vI x6, vJ, vJ, vJ, vJ, vJ], []) (px_sh L, i, l, r, t) = if (i 124 4) ≤ x6 then (px_C d 192 [vR 123, vI x1] (px_sh L, i, l, r, t)).bind (fun q => px_X (d + 1) 221 (px_psh (104, [vR 123, vI x1, vI x2, vI x3, vI x4, vI x5, vI x6, vJ, vJ, vJ, vJ, vJ], []) q.1) q.2) else (px_C d 146 [vR 123, vI x6, vI 8] (px_sh L, i, l, r, t)).bind (fun q => px_X (d + 1) 221 (px_psh (70, [vR 123, vI x1, vI x2, vI x3, vI x4, vI x5, vI x6, vJ, vJ, vJ, vJ, vJ], []) q.1) q.2) := ((xs_ild k221_51 rfl).trans ((xs_aldn k221_53 rfl).trans ((xs_get4 k221_54 (px_s123 L) (Nat.le_of_ble_eq_true rfl) (px_r123_3 hr)).trans ((xs_ic k221_57 (by omega)).trans ((xs_iald k221_58 (px_s124 L) (by omega)).trans ((xs_jge k221_59).trans (px_ite (fun c1 => ((xs_aldn k221_99 rfl).trans ((xs_ildn k221_100 rfl).trans (xs_callvB k221_101 (as := [vI x1]) rfl rfl (Nat.le_of_ble_eq_true rfl) (Nat.le_of_ble_eq_true rfl) (Nat.le_of_ble_eq_true rfl) (px_s123 L) (Nat.le_of_ble_eq_true rfl))))) (fun c1 => ((xs_aldn k221_62 rfl).trans ((xs_ild k221_63 rfl).trans ((xs_bi k221_65 (by omega)).trans (xs_callvB k221_67 (as := [vI x6, vI 8]) rfl rfl (Nat.le_of_ble_eq_true rfl) (Nat.le_of_ble_eq_true rfl) (Nat.le_of_ble_eq_true rfl) (px_s123 L) (Nat.le_of_ble_eq_true rfl)))))))))))))
theorem b221_70 (hr : px_hr r) (d : Nat) (i l : MI) (x1 : Int) (x2 : Int) (x3 : Int) (x4 : Int) (x5 : Int) (x6 : Int) (xs0 : Int) (h1 : (xs0 = 1) → 0 ≤ x5 ∧ x5 < 5) : px_X d 221 (70, [vR 123, vI x1, vI x2, vI x3, vI x4, vI x5, vI x6, vJ, vJ, vJ, vJ, vJ], [vI xs0]) (px_sh L, i, l, r, t) = if xs0 = 1 then px_X d 221 (51, [vR 123, vI x1, vI x2, vI x3, vI (px_w32 (x4 * 9)), vI (px_w32 (x5 + 1)), vI (px_w32 (x6 + 1)), vJ, vJ, vJ, vJ, vJ], []) (px_sh L, (px_up i 152 x5 x6), l, r, t) else px_X d 221 (51, [vR 123, vI x1, vI x2, vI x3, vI x4, vI x5, vI (px_w32 (x6 + 1)), vJ, vJ, vJ, vJ, vJ], []) (px_sh L, i, l, r, t) := ((xs_ic k221_70 (by omega)).trans ((xs_jne k221_71).trans (px_ite (fun c1 => ((xs_aldn k221_74 rfl).trans ((xs_get4 k221_75 (px_s123 L) (Nat.le_of_ble_eq_true rfl) (px_r123_48 hr)).trans ((xs_ild k221_78 rfl).trans ((xs_ild k221_80 rfl).trans ((xs_iast k221_82 (px_s152 L) (h1 c1) (Nat.le_of_ble_eq_true rfl)).trans ((xs_iinc k221_83 rfl (by omega) (ls' := [vR 123, vI x1, vI x2, vI x3, vI x4, vI (px_w32 (x5 + 1)), vI x6, vJ, vJ, vJ, vJ, vJ]) rfl).trans ((xs_ild k221_86 rfl).trans ((xs_bi k221_88 (by omega)).trans ((xs_imul k221_90).trans ((xs_ist k221_91 (Nat.le_of_ble_eq_true rfl) (ls' := [vR 123, vI x1, vI x2, vI x3, vI (px_w32 (x4 * 9)), vI (px_w32 (x5 + 1)), vI x6, vJ, vJ, vJ, vJ, vJ]) rfl).trans ((xs_iinc k221_93 rfl (by omega) (ls' := [vR 123, vI x1, vI x2, vI x3, vI (px_w32 (x4 * 9)), vI (px_w32 (x5 + 1)), vI (px_w32 (x6 + 1)), vJ, vJ, vJ, vJ, vJ]) rfl).trans (xs_goto k221_96))))))))))))) (fun c1 => ((xs_iinc k221_93 rfl (by omega) (ls' := [vR 123, vI x1, vI x2, vI x3, vI x4, vI x5, vI (px_w32 (x6 + 1)), vJ, vJ, vJ, vJ, vJ]) rfl).trans (xs_goto k221_96))))))
theorem b221_104 (hr : px_hr r) (d : Nat) (i l : MI) (x1 : Int) (x2 : Int) (x3 : Int) (x4 : Int) (x5 : Int) (x6 : Int) (xs0 : Int) : px_X d 221 (104, [vR 123, vI x1, vI x2, vI x3, vI x4, vI x5, vI x6, vJ, vJ, vJ, vJ, vJ], [vI xs0]) (px_sh L, i, l, r, t) = px_X d 221 (112, [vR 123, vI x1, vI x2, vI x3, vI x4, vI x5, vI xs0, vI (-1), vI 0, vJ, vJ, vJ], []) (px_sh L, i, l, r, t) := ((xs_ist k221_104 (Nat.le_of_ble_eq_true rfl) (ls' := [vR 123, vI x1, vI x2, vI x3, vI x4, vI x5, vI xs0, vJ, vJ, vJ, vJ, vJ]) rfl).trans ((xs_ic k221_106 (by omega)).trans ((xs_ist k221_107 (Nat.le_of_ble_eq_true rfl) (ls' := [vR 123, vI x1, vI x2, vI x3, vI x4, vI x5, vI xs0, vI (-1), vJ, vJ, vJ, vJ]) rfl).trans ((xs_ic k221_109 (by omega)).trans (xs_ist k221_110 (Nat.le_of_ble_eq_true rfl) (ls' := [vR 123, vI x1, vI x2, vI x3, vI x4, vI x5, vI xs0, vI (-1), vI 0, vJ, vJ, vJ]) rfl)))))
theorem b221_112 (hr : px_hr r) (d : Nat) (i l : MI) (x1 : Int) (x2 : Int) (x3 : Int) (x4 : Int) (x5 : Int) (x6 : Int) (x7 : Int) (x8 : Int) {v9 : PV} (hn9 : px_nl v9) {v10 : PV} (hn10 : px_nl v10) {v11 : PV} (hn11 : px_nl v11) : px_X d 221 (112, [vR 123, vI x1, vI x2, vI x3, vI x4, vI x5, vI x6, vI x7, vI x8, v9, v10, v11], []) (px_sh L, i, l, r, t) = if x4 ≤ x8 then if x2 = (-1) then some (some (vI x7), (px_sh L, i, l, r, t)) else px_X d 221 (236, [vR 123, vI x1, vI x2, vI x3, vI x4, vI x5, vI x6, vI x7, vI 0, v9, v10, v11], []) (px_sh L, i, l, r, t) else px_X d 221 (128, [vR 123, vI x1, vI x2, vI x3, vI x4, vI x5, vI x6, vI x7, vI x8, vI x8, vI (px_w32 (x3 - 1)), v11], []) (px_sh L, i, l, r, t) := ((xs_ild k221_112 rfl).trans ((xs_ild k221_114 rfl).trans ((xs_jge k221_116).trans (px_ite (fun c1 => ((xs_ildn k221_225 rfl).trans ((xs_ic k221_226 (by omega)).trans ((xs_jne k221_227).trans (px_ite (fun c2 => ((xs_ild k221_230 rfl).trans (xs_ri k221_232 rfl))) (fun c2 => ((xs_ic k221_233 (by omega)).trans (xs_ist k221_234 (Nat.le_of_ble_eq_true rfl) (ls' := [vR 123, vI x1, vI x2, vI x3, vI x4, vI x5, vI x6, vI x7, vI 0, v9, v10, v11]) rfl)))))))) (fun c1 => ((xs_ild k221_119 rfl).trans ((xs_ist k221_121 (Nat.le_of_ble_eq_true rfl) (ls' := [vR 123, vI x1, vI x2, vI x3, vI x4, vI x5, vI x6, vI x7, vI x8, vI x8, v10, v11]) rfl).trans ((xs_ildn k221_123 rfl).trans ((xs_ic k221_124 (by omega)).trans ((xs_isub k221_125).trans (xs_ist k221_126 (Nat.le_of_ble_eq_true rfl) (ls' := [vR 123, vI x1, vI x2, vI x3, vI x4, vI x5, vI x6, vI x7, vI x8, vI x8, vI (px_w32 (x3 - 1)), v11]) rfl)))))))))))
theorem b221_128 (hr : px_hr r) (d : Nat) (i l : MI) (x1 : Int) (x2 : Int) (x3 : Int) (x4 : Int) (x5 : Int) (x6 : Int) (x7 : Int) (x8 : Int) (x9 : Int) (x10 : Int) {v11 : PV} (hn11 : px_nl v11) (h1 : (¬ (x10 < 0)) → 0 ≤ x10 ∧ x10 < 5) : px_X (d + 1) 221 (128, [vR 123, vI x1, vI x2, vI x3, vI x4, vI x5, vI x6, vI x7, vI x8, vI x9, vI x10, v11], []) (px_sh L, i, l, r, t) = if x10 < 0 then (px_C d 220 [vR 123, vI x3, vI x6] (px_sh L, i, l, r, t)).bind (fun q => px_X (d + 1) 221 (px_psh (165, [vR 123, vI x1, vI x2, vI x3, vI x4, vI x5, vI x6, vI x7, vI x8, vI x9, vI x10, v11], []) q.1) q.2) else px_X (d + 1) 221 (128, [vR 123, vI x1, vI x2, vI x3, vI x4, vI x5, vI x6, vI x7, vI x8, vI (px_w32 (Int.tdiv x9 9)), vI (px_w32 (x10 + (-1))), v11], []) (px_sh L, (px_up i 153 x10 (Int.tmod x9 9)), l, r, t) := ((xs_ild k221_128 rfl).trans ((xs_ilt k221_130).trans (px_ite (fun c1 => ((xs_aldn k221_158 rfl).trans ((xs_ildn k221_159 rfl).trans ((xs_ild k221_160 rfl).trans (xs_callvB k221_162 (as := [vI x3, vI x6]) rfl rfl (Nat.le_of_ble_eq_true rfl) (Nat.le_of_ble_eq_true rfl) (Nat.le_of_ble_eq_true rfl) (px_s123 L) (Nat.le_of_ble_eq_true rfl)))))) (fun c1 => ((xs_aldn k221_133 rfl).trans ((xs_get4 k221_134 (px_s123 L) (Nat.le_of_ble_eq_true rfl) (px_r123_49 hr)).trans ((xs_ild k221_137 rfl).trans ((xs_ild k221_139 rfl).trans ((xs_bi k221_141 (by omega)).trans ((xs_irem k221_143 (by omega)).trans ((xs_iast k221_144 (px_s153 L) (h1 c1) (Nat.le_of_ble_eq_true rfl)).trans ((xs_ild k221_145 rfl).trans ((xs_bi k221_147 (by omega)).trans ((xs_idiv k221_149 (by omega)).trans ((xs_ist k221_150 (Nat.le_of_ble_eq_true rfl) (ls' := [vR 123, vI x1, vI x2, vI x3, vI x4, vI x5, vI x6, vI x7, vI x8, vI (px_w32 (Int.tdiv x9 9)), vI x10, v11]) rfl).trans ((xs_iinc k221_152 rfl (by omega) (ls' := [vR 123, vI x1, vI x2, vI x3, vI x4, vI x5, vI x6, vI x7, vI x8, vI (px_w32 (Int.tdiv x9 9)), vI (px_w32 (x10 + (-1))), v11]) rfl).trans (xs_goto k221_155)))))))))))))))))
theorem b221_165 (hr : px_hr r) (d : Nat) (i l : MI) (x1 : Int) (x2 : Int) (x3 : Int) (x4 : Int) (x5 : Int) (x6 : Int) (x7 : Int) (x8 : Int) (x9 : Int) (x10 : Int) {v11 : PV} (hn11 : px_nl v11) (xs0 : Int) : px_X d 221 (165, [vR 123, vI x1, vI x2, vI x3, vI x4, vI x5, vI x6, vI x7, vI x8, vI x9, vI x10, v11], [vI xs0]) (px_sh L, i, l, r, t) = if xs0 = (-1) then px_X d 221 (112, [vR 123, vI x1, vI x2, vI x3, vI x4, vI x5, vI x6, vI x7, vI (px_w32 (x8 + 1)), vI x9, vI xs0, v11], []) (px_sh L, i, l, r, t) else if x7 = (-1) then px_X d 221 (193, [vR 123, vI x1, vI x2, vI x3, vI x4, vI x5, vI x6, vI xs0, vI x8, vI x9, vI xs0, vI 0], []) (px_sh L, i, l, r, t) else if x7 ≤ xs0 then px_X d 221 (112, [vR 123, vI x1, vI x2, vI x3, vI x4, vI x5, vI x6, vI x7, vI (px_w32 (x8 + 1)), vI x9, vI xs0, v11], []) (px_sh L, i, l, r, t) else px_X d 221 (193, [vR 123, vI x1, vI x2, vI x3, vI x4, vI x5, vI x6, vI xs0, vI x8, vI x9, vI xs0, vI 0], []) (px_sh L, i, l, r, t) := ((xs_ist k221_165 (Nat.le_of_ble_eq_true rfl) (ls' := [vR 123, vI x1, vI x2, vI x3, vI x4, vI x5, vI x6, vI x7, vI x8, vI x9, vI xs0, v11]) rfl).trans ((xs_ild k221_167 rfl).trans ((xs_ic k221_169 (by omega)).trans ((xs_jeq k221_170).trans (px_ite (fun c1 => ((xs_iinc k221_219 rfl (by omega) (ls' := [vR 123, vI x1, vI x2, vI x3, vI x4, vI x5, vI x6, vI x7, vI (px_w32 (x8 + 1)), vI x9, vI xs0, v11]) rfl).trans (xs_goto k221_222))) (fun c1 => ((xs_ild k221_173 rfl).trans ((xs_ic k221_175 (by omega)).trans ((xs_jeq k221_176).trans (px_ite (fun c2 => ((xs_ild k221_186 rfl).trans ((xs_ist k221_188 (Nat.le_of_ble_eq_true rfl) (ls' := [vR 123, vI x1, vI x2, vI x3, vI x4, vI x5, vI x6, vI xs0, vI x8, vI x9, vI xs0, v11]) rfl).trans ((xs_ic k221_190 (by omega)).trans (xs_ist k221_191 (Nat.le_of_ble_eq_true rfl) (ls' := [vR 123, vI x1, vI x2, vI x3, vI x4, vI x5, vI x6, vI xs0, vI x8, vI x9, vI xs0, vI 0]) rfl))))) (fun c2 => ((xs_ild k221_179 rfl).trans ((xs_ild k221_181 rfl).trans ((xs_jge k221_183).trans (px_ite (fun c3 => ((xs_iinc k221_219 rfl (by omega) (ls' := [vR 123, vI x1, vI x2, vI x3, vI x4, vI x5, vI x6, vI x7, vI (px_w32 (x8 + 1)), vI x9, vI xs0, v11]) rfl).trans (xs_goto k221_222))) (fun c3 => ((xs_ild k221_186 rfl).trans ((xs_ist k221_188 (Nat.le_of_ble_eq_true rfl) (ls' := [vR 123, vI x1, vI x2, vI x3, vI x4, vI x5, vI x6, vI xs0, vI x8, vI x9, vI xs0, v11]) rfl).trans ((xs_ic k221_190 (by omega)).trans (xs_ist k221_191 (Nat.le_of_ble_eq_true rfl) (ls' := [vR 123, vI x1, vI x2, vI x3, vI x4, vI x5, vI x6, vI xs0, vI x8, vI x9, vI xs0, vI 0]) rfl))))))))))))))))))))
theorem b221_193 (hr : px_hr r) (d : Nat) (i l : MI) (x1 : Int) (x2 : Int) (x3 : Int) (x4 : Int) (x5 : Int) (x6 : Int) (x7 : Int) (x8 : Int) (x9 : Int) (x10 : Int) (x11 : Int) (h1 : (¬ (x3 ≤ x11)) → 0 ≤ x11 ∧ x11 < 5) : px_X d 221 (193, [vR 123, vI x1, vI x2, vI x3, vI x4, vI x5, vI x6, vI x7, vI x8, vI x9, vI x10, vI x11], []) (px_sh L, i, l, r, t) = if x3 ≤ x11 then px_X d 221 (112, [vR 123, vI x1, vI x2, vI x3, vI x4, vI x5, vI x6, vI x7, vI (px_w32 (x8 + 1)), vI x9, vI x10, vI x11], []) (px_sh L, i, l, r, t) else px_X d 221 (193, [vR 123, vI x1, vI x2, vI x3, vI x4, vI x5, vI x6, vI x7, vI x8, vI x9, vI x10, vI (px_w32 (x11 + 1))], []) (px_sh L, (px_up i 154 x11 (i 153 x11)), l, r, t) := ((xs_ild k221_193 rfl).trans ((xs_ildn k221_195 rfl).trans ((xs_jge k221_196).trans (px_ite (fun c1 => ((xs_iinc k221_219 rfl (by omega) (ls' := [vR 123, vI x1, vI x2, vI x3, vI x4, vI x5, vI x6, vI x7, vI (px_w32 (x8 + 1)), vI x9, vI x10, vI x11]) rfl).trans (xs_goto k221_222))) (fun c1 => ((xs_aldn k221_199 rfl).trans ((xs_get4 k221_200 (px_s123 L) (Nat.le_of_ble_eq_true rfl) (px_r123_50 hr)).trans ((xs_ild k221_203 rfl).trans ((xs_aldn k221_205 rfl).trans ((xs_get4 k221_206 (px_s123 L) (Nat.le_of_ble_eq_true rfl) (px_r123_49 hr)).trans ((xs_ild k221_209 rfl).trans ((xs_iald k221_211 (px_s153 L) (h1 c1)).trans ((xs_iast k221_212 (px_s154 L) (h1 c1) (Nat.le_of_ble_eq_true rfl)).trans ((xs_iinc k221_213 rfl (by omega) (ls' := [vR 123, vI x1, vI x2, vI x3, vI x4, vI x5, vI x6, vI x7, vI x8, vI x9, vI x10, vI (px_w32 (x11 + 1))]) rfl).trans (xs_goto k221_216)))))))))))))))
theorem b221_236 (hr : px_hr r) (d : Nat) (i l : MI) (x1 : Int) (x2 : Int) (x3 : Int) (x4 : Int) (x5 : Int) (x6 : Int) (x7 : Int) (x8 : Int) {v9 : PV} (hn9 : px_nl v9) {v10 : PV} (hn10 : px_nl v10) {v11 : PV} (hn11 : px_nl v11) (h1 : 0 ≤ x8 ∧ x8 < 5) (h2 : ((i 152 x8) = x2) → 0 ≤ x8 ∧ x8 < 5) : px_X d 221 (236, [vR 123, vI x1, vI x2, vI x3, vI x4, vI x5, vI x6, vI x7, vI x8, v9, v10, v11], []) (px_sh L, i, l, r, t) = if (i 152 x8) = x2 then some (some (vI (i 154 x8)), (px_sh L, i, l, r, t)) else px_X d 221 (236, [vR 123, vI x1, vI x2, vI x3, vI x4, vI x5, vI x6, vI x7, vI (px_w32 (x8 + 1)), v9, v10, v11], []) (px_sh L, i, l, r, t) := ((xs_aldn k221_236 rfl).trans ((xs_get4 k221_237 (px_s123 L) (Nat.le_of_ble_eq_true rfl) (px_r123_48 hr)).trans ((xs_ild k221_240 rfl).trans ((xs_iald k221_242 (px_s152 L) (h1)).trans ((xs_ildn k221_243 rfl).trans ((xs_jeq k221_244).trans (px_ite (fun c1 => ((xs_aldn k221_253 rfl).trans ((xs_get4 k221_254 (px_s123 L) (Nat.le_of_ble_eq_true rfl) (px_r123_50 hr)).trans ((xs_ild k221_257 rfl).trans ((xs_iald k221_259 (px_s154 L) (h2 c1)).trans (xs_ri k221_260 rfl)))))) (fun c1 => ((xs_iinc k221_247 rfl (by omega) (ls' := [vR 123, vI x1, vI x2, vI x3, vI x4, vI x5, vI x6, vI x7, vI (px_w32 (x8 + 1)), v9, v10, v11]) rfl).trans (xs_goto k221_250))))))))))
-- TideGuestsModel.laysEnds ('R123', 'I')
theorem b222_0 (hr : px_hr r) (d : Nat) (i l : MI) (x1 : Int) : px_X (d + 1) 222 (0, [vR 123, vI x1, vJ, vJ], []) (px_sh L, i, l, r, t) = (px_C d 198 [vR 123] (px_sh L, i, l, r, t)).bind (fun q => px_X (d + 1) 222 (px_psh (5, [vR 123, vI x1, vJ, vJ], [vR 123]) q.1) q.2) := ((xs_aldn k222_0 rfl).trans ((xs_aldn k222_1 rfl).trans (xs_callvB k222_2 (as := []) rfl rfl (Nat.le_of_ble_eq_true rfl) (Nat.le_of_ble_eq_true rfl) (Nat.le_of_ble_eq_true rfl) (px_s123 L) (Nat.le_of_ble_eq_true rfl))))
theorem b222_5 (hr : px_hr r) (d : Nat) (i l : MI) (x1 : Int) (xs0 : Int) : px_X (d + 1) 222 (5, [vR 123, vI x1, vJ, vJ], [vI xs0, vR 123]) (px_sh L, i, l, r, t) = (px_C d 197 [vR 123, vI xs0, vI x1] (px_sh L, i, l, r, t)).bind (fun q => px_X (d + 1) 222 (px_psh (9, [vR 123, vI x1, vJ, vJ], []) q.1) q.2) := ((xs_ildn k222_5 rfl).trans (xs_callvB k222_6 (as := [vI xs0, vI x1]) rfl rfl (Nat.le_of_ble_eq_true rfl) (Nat.le_of_ble_eq_true rfl) (Nat.le_of_ble_eq_true rfl) (px_s123 L) (Nat.le_of_ble_eq_true rfl)))
theorem b222_9 (hr : px_hr r) (d : Nat) (i l : MI) (x1 : Int) : px_X d 222 (9, [vR 123, vI x1, vJ, vJ], []) (px_sh L, i, l, r, t) = px_X d 222 (11, [vR 123, vI x1, vI 0, vJ], []) (px_sh L, i, l, r, t) := ((xs_ic k222_9 (by omega)).trans (xs_istn k222_10 (Nat.le_of_ble_eq_true rfl) (ls' := [vR 123, vI x1, vI 0, vJ]) rfl))
theorem b222_11 (hr : px_hr r) (d : Nat) (i l : MI) (x1 : Int) (x2 : Int) {v3 : PV} (hn3 : px_nl v3) (h1 : (¬ ((i 124 4) ≤ x2)) → 0 ≤ x2 ∧ x2 < 10) : px_X d 222 (11, [vR 123, vI x1, vI x2, v3], []) (px_sh L, i, l, r, t) = if (i 124 4) ≤ x2 then some (none, (px_sh L, i, l, r, t)) else px_X d 222 (34, [vR 123, vI x1, vI x2, vI 1439], []) (px_sh L, (px_up i 155 x2 1440), l, r, t) := ((xs_ildn k222_11 rfl).trans ((xs_aldn k222_12 rfl).trans ((xs_get4 k222_13 (px_s123 L) (Nat.le_of_ble_eq_true rfl) (px_r123_3 hr)).trans ((xs_ic k222_16 (by omega)).trans ((xs_iald k222_17 (px_s124 L) (by omega)).trans ((xs_jge k222_18).trans (px_ite (fun c1 => (xs_rv k222_104 rfl)) (fun c1 => ((xs_aldn k222_21 rfl).trans ((xs_get4 k222_22 (px_s123 L) (Nat.le_of_ble_eq_true rfl) (px_r123_51 hr)).trans ((xs_ildn k222_25 rfl).trans ((xs_si k222_26 (by omega)).trans ((xs_iast k222_29 (px_s155 L) (h1 c1) (Nat.le_of_ble_eq_true rfl)).trans ((xs_si k222_30 (by omega)).trans (xs_istn k222_33 (Nat.le_of_ble_eq_true rfl) (ls' := [vR 123, vI x1, vI x2, vI 1439]) rfl)))))))))))))))
theorem b222_34 (hr : px_hr r) (d : Nat) (i l : MI) (x1 : Int) (x2 : Int) (x3 : Int) (h1 : (¬ (x3 < x1)) → 0 ≤ x2 ∧ x2 < 10) (h2 : (¬ (x3 < x1)) → (¬ ((i 142 x2) = (-2))) → 0 ≤ x3 ∧ x3 < 1440) (h3 : (¬ (x3 < x1)) → (¬ ((i 142 x2) = (-2))) → 0 ≤ x2 ∧ x2 < 10) : px_X (d + 1) 222 (34, [vR 123, vI x1, vI x2, vI x3], []) (px_sh L, i, l, r, t) = if x3 < x1 then px_X (d + 1) 222 (11, [vR 123, vI x1, vI (px_w32 (x2 + 1)), vI x3], []) (px_sh L, i, l, r, t) else if (i 142 x2) = (-2) then px_X (d + 1) 222 (11, [vR 123, vI x1, vI (px_w32 (x2 + 1)), vI x3], []) (px_sh L, i, l, r, t) else (px_C d 194 [vR 123, vI (i 142 x2)] (px_sh L, i, l, r, t)).bind (fun q => px_X (d + 1) 222 (px_psh (71, [vR 123, vI x1, vI x2, vI x3], [vI (i 146 x3), vI x2, vR 155]) q.1) q.2) := ((xs_ildn k222_34 rfl).trans ((xs_ildn k222_35 rfl).trans ((xs_jlt k222_36).trans (px_ite (fun c1 => ((xs_iinc k222_98 rfl (by omega) (ls' := [vR 123, vI x1, vI (px_w32 (x2 + 1)), vI x3]) rfl).trans (xs_goto k222_101))) (fun c1 => ((xs_aldn k222_39 rfl).trans ((xs_get4 k222_40 (px_s123 L) (Nat.le_of_ble_eq_true rfl) (px_r123_38 hr)).trans ((xs_ildn k222_43 rfl).trans ((xs_iald k222_44 (px_s142 L) (h1 c1)).trans ((xs_bi k222_45 (by omega)).trans ((xs_jeq k222_47).trans (px_ite (fun c2 => ((xs_iinc k222_98 rfl (by omega) (ls' := [vR 123, vI x1, vI (px_w32 (x2 + 1)), vI x3]) rfl).trans (xs_goto k222_101))) (fun c2 => ((xs_aldn k222_50 rfl).trans ((xs_get4 k222_51 (px_s123 L) (Nat.le_of_ble_eq_true rfl) (px_r123_51 hr)).trans ((xs_ildn k222_54 rfl).trans ((xs_aldn k222_55 rfl).trans ((xs_get4 k222_56 (px_s123 L) (Nat.le_of_ble_eq_true rfl) (px_r123_42 hr)).trans ((xs_ildn k222_59 rfl).trans ((xs_iald k222_60 (px_s146 L) (h2 c1 c2)).trans ((xs_aldn k222_61 rfl).trans ((xs_aldn k222_62 rfl).trans ((xs_get4 k222_63 (px_s123 L) (Nat.le_of_ble_eq_true rfl) (px_r123_38 hr)).trans ((xs_ildn k222_66 rfl).trans ((xs_iald k222_67 (px_s142 L) (h3 c1 c2)).trans (xs_callvB k222_68 (as := [vI (i 142 x2)]) rfl rfl (Nat.le_of_ble_eq_true rfl) (Nat.le_of_ble_eq_true rfl) (Nat.le_of_ble_eq_true rfl) (px_s123 L) (Nat.le_of_ble_eq_true rfl)))))))))))))))))))))))))))
theorem b222_71 (hr : px_hr r) (d : Nat) (i l : MI) (x1 : Int) (x2 : Int) (x3 : Int) (xs0 : Int) (xs1 : Int) (xs2 : Int) : px_X (d + 1) 222 (71, [vR 123, vI x1, vI x2, vI x3], [vI xs0, vI xs1, vI xs2, vR 155]) (px_sh L, i, l, r, t) = (px_C d 146 [vR 123, vI x2, vI 1] (px_sh L, i, l, r, t)).bind (fun q => px_X (d + 1) 222 (px_psh (77, [vR 123, vI x1, vI x2, vI x3], [vI xs0, vI xs1, vI xs2, vR 155]) q.1) q.2) := ((xs_aldn k222_71 rfl).trans ((xs_ildn k222_72 rfl).trans ((xs_ic k222_73 (by omega)).trans (xs_callvB k222_74 (as := [vI x2, vI 1]) rfl rfl (Nat.le_of_ble_eq_true rfl) (Nat.le_of_ble_eq_true rfl) (Nat.le_of_ble_eq_true rfl) (px_s123 L) (Nat.le_of_ble_eq_true rfl)))))
theorem b222_77 (hr : px_hr r) (d : Nat) (i l : MI) (x1 : Int) (x2 : Int) (x3 : Int) (xs0 : Int) (xs1 : Int) (xs2 : Int) (xs3 : Int) (h1 : (xs2 ≤ (px_w32 (xs1 + xs0))) → 0 ≤ x2 ∧ x2 < 10) (h2 : (xs2 ≤ (px_w32 (xs1 + xs0))) → 0 ≤ xs3 ∧ xs3 < 10) (h3 : (¬ (xs2 ≤ (px_w32 (xs1 + xs0)))) → 0 ≤ xs3 ∧ xs3 < 10) : px_X d 222 (77, [vR 123, vI x1, vI x2, vI x3], [vI xs0, vI xs1, vI xs2, vI xs3, vR 155]) (px_sh L, i, l, r, t) = if xs2 ≤ (px_w32 (xs1 + xs0)) then px_X d 222 (34, [vR 123, vI x1, vI x2, vI (px_w32 (x3 + (-1)))], []) (px_sh L, (px_up i 155 xs3 (i 155 x2)), l, r, t) else px_X d 222 (34, [vR 123, vI x1, vI x2, vI (px_w32 (x3 + (-1)))], []) (px_sh L, (px_up i 155 xs3 x3), l, r, t) := ((xs_iadd k222_77).trans ((xs_jle k222_78).trans (px_ite (fun c1 => ((xs_aldn k222_85 rfl).trans ((xs_get4 k222_86 (px_s123 L) (Nat.le_of_ble_eq_true rfl) (px_r123_51 hr)).trans ((xs_ildn k222_89 rfl).trans ((xs_iald k222_90 (px_s155 L) (h1 c1)).trans ((xs_iast k222_91 (px_s155 L) (h2 c1) (Nat.le_of_ble_eq_true rfl)).trans ((xs_iinc k222_92 rfl (by omega) (ls' := [vR 123, vI x1, vI x2, vI (px_w32 (x3 + (-1)))]) rfl).trans (xs_goto k222_95)))))))) (fun c1 => ((xs_ildn k222_81 rfl).trans ((xs_goto k222_82).trans ((xs_iast k222_91 (px_s155 L) (h3 c1) (Nat.le_of_ble_eq_true rfl)).trans ((xs_iinc k222_92 rfl (by omega) (ls' := [vR 123, vI x1, vI x2, vI (px_w32 (x3 + (-1)))]) rfl).trans (xs_goto k222_95)))))))))
-- TideGuestsModel.canAll ('R123', 'I', 'I')
theorem b223_0 (hr : px_hr r) (d : Nat) (i l : MI) (x1 : Int) (x2 : Int) : px_X d 223 (0, [vR 123, vI x1, vI x2, vJ, vJ, vJ, vJ], []) (px_sh L, i, l, r, t) = px_X d 223 (5, [vR 123, vI x1, vI x2, vI x2, vI x1, vJ, vJ], []) (px_sh L, i, l, r, t) := ((xs_ildn k223_0 rfl).trans ((xs_istn k223_1 (Nat.le_of_ble_eq_true rfl) (ls' := [vR 123, vI x1, vI x2, vI x2, vJ, vJ, vJ]) rfl).trans ((xs_ildn k223_2 rfl).trans (xs_ist k223_3 (Nat.le_of_ble_eq_true rfl) (ls' := [vR 123, vI x1, vI x2, vI x2, vI x1, vJ, vJ]) rfl))))
theorem b223_5 (hr : px_hr r) (d : Nat) (i l : MI) (x1 : Int) (x2 : Int) (x3 : Int) (x4 : Int) {v5 : PV} (hn5 : px_nl v5) {v6 : PV} (hn6 : px_nl v6) : px_X d 223 (5, [vR 123, vI x1, vI x2, vI x3, vI x4, v5, v6], []) (px_sh L, i, l, r, t) = if x4 = 0 then some (some (vI 1), (px_sh L, i, l, r, t)) else px_X d 223 (16, [vR 123, vI x1, vI x2, vI x3, vI x4, vI (-1), vI 0], []) (px_sh L, i, l, r, t) := ((xs_ild k223_5 rfl).trans ((xs_ieq k223_7).trans (px_ite (fun c1 => ((xs_ic k223_110 (by omega)).trans (xs_rz k223_111 rfl (by omega)))) (fun c1 => ((xs_ic k223_10 (by omega)).trans ((xs_ist k223_11 (Nat.le_of_ble_eq_true rfl) (ls' := [vR 123, vI x1, vI x2, vI x3, vI x4, vI (-1), v6]) rfl).trans ((xs_ic k223_13 (by omega)).trans (xs_ist k223_14 (Nat.le_of_ble_eq_true rfl) (ls' := [vR 123, vI x1, vI x2, vI x3, vI x4, vI (-1), vI 0]) rfl))))))))
theorem b223_16 (hr : px_hr r) (d : Nat) (i l : MI) (x1 : Int) (x2 : Int) (x3 : Int) (x4 : Int) (x5 : Int) (x6 : Int) (h1 : (¬ ((i 124 4) ≤ x6)) → ((px_and (px_shr x4 x6) 1) = 1) → (¬ (x5 = (-1))) → 0 ≤ x6 ∧ x6 < 10) (h2 : (¬ ((i 124 4) ≤ x6)) → ((px_and (px_shr x4 x6) 1) = 1) → (¬ (x5 = (-1))) → 0 ≤ x5 ∧ x5 < 10) : px_X (d + 1) 223 (16, [vR 123, vI x1, vI x2, vI x3, vI x4, vI x5, vI x6], []) (px_sh L, i, l, r, t) = if (i 124 4) ≤ x6 then (px_C d 146 [vR 123, vI x5, vI 4] (px_sh L, i, l, r, t)).bind (fun q => px_X (d + 1) 223 (px_psh (80, [vR 123, vI x1, vI x2, vI x3, vI x4, vI x5, vI x6], [vI 1, vI x3]) q.1) q.2) else if (px_and (px_shr x4 x6) 1) = 1 then if x5 = (-1) then px_X (d + 1) 223 (16, [vR 123, vI x1, vI x2, vI x3, vI x4, vI x6, vI (px_w32 (x6 + 1))], []) (px_sh L, i, l, r, t) else if (i 155 x5) ≤ (i 155 x6) then px_X (d + 1) 223 (16, [vR 123, vI x1, vI x2, vI x3, vI x4, vI x5, vI (px_w32 (x6 + 1))], []) (px_sh L, i, l, r, t) else px_X (d + 1) 223 (16, [vR 123, vI x1, vI x2, vI x3, vI x4, vI x6, vI (px_w32 (x6 + 1))], []) (px_sh L, i, l, r, t) else px_X (d + 1) 223 (16, [vR 123, vI x1, vI x2, vI x3, vI x4, vI x5, vI (px_w32 (x6 + 1))], []) (px_sh L, i, l, r, t) := ((xs_ild k223_16 rfl).trans ((xs_aldn k223_18 rfl).trans ((xs_get4 k223_19 (px_s123 L) (Nat.le_of_ble_eq_true rfl) (px_r123_3 hr)).trans ((xs_ic k223_22 (by omega)).trans ((xs_iald k223_23 (px_s124 L) (by omega)).trans ((xs_jge k223_24).trans (px_ite (fun c1 => ((xs_ildn k223_71 rfl).trans ((xs_ic k223_72 (by omega)).trans ((xs_aldn k223_73 rfl).trans ((xs_ild k223_74 rfl).trans ((xs_ic k223_76 (by omega)).trans (xs_callvB k223_77 (as := [vI x5, vI 4]) rfl rfl (Nat.le_of_ble_eq_true rfl) (Nat.le_of_ble_eq_true rfl) (Nat.le_of_ble_eq_true rfl) (px_s123 L) (Nat.le_of_ble_eq_true rfl)))))))) (fun c1 => ((xs_ild k223_27 rfl).trans ((xs_ild k223_29 rfl).trans ((xs_ishr k223_31).trans ((xs_ic k223_32 (by omega)).trans ((xs_iand k223_33).trans ((xs_ic k223_34 (by omega)).trans ((xs_jne k223_35).trans (px_ite (fun c2 => ((xs_ild k223_38 rfl).trans ((xs_ic k223_40 (by omega)).trans ((xs_jeq k223_41).trans (px_ite (fun c3 => ((xs_ild k223_61 rfl).trans ((xs_ist k223_63 (Nat.le_of_ble_eq_true rfl) (ls' := [vR 123, vI x1, vI x2, vI x3, vI x4, vI x6, vI x6]) rfl).trans ((xs_iinc k223_65 rfl (by omega) (ls' := [vR 123, vI x1, vI x2, vI x3, vI x4, vI x6, vI (px_w32 (x6 + 1))]) rfl).trans (xs_goto k223_68))))) (fun c3 => ((xs_aldn k223_44 rfl).trans ((xs_get4 k223_45 (px_s123 L) (Nat.le_of_ble_eq_true rfl) (px_r123_51 hr)).trans ((xs_ild k223_48 rfl).trans ((xs_iald k223_50 (px_s155 L) (h1 c1 c2 c3)).trans ((xs_aldn k223_51 rfl).trans ((xs_get4 k223_52 (px_s123 L) (Nat.le_of_ble_eq_true rfl) (px_r123_51 hr)).trans ((xs_ild k223_55 rfl).trans ((xs_iald k223_57 (px_s155 L) (h2 c1 c2 c3)).trans ((xs_jge k223_58).trans (px_ite (fun c4 => ((xs_iinc k223_65 rfl (by omega) (ls' := [vR 123, vI x1, vI x2, vI x3, vI x4, vI x5, vI (px_w32 (x6 + 1))]) rfl).trans (xs_goto k223_68))) (fun c4 => ((xs_ild k223_61 rfl).trans ((xs_ist k223_63 (Nat.le_of_ble_eq_true rfl) (ls' := [vR 123, vI x1, vI x2, vI x3, vI x4, vI x6, vI x6]) rfl).trans ((xs_iinc k223_65 rfl (by omega) (ls' := [vR 123, vI x1, vI x2, vI x3, vI x4, vI x6, vI (px_w32 (x6 + 1))]) rfl).trans (xs_goto k223_68))))))))))))))))))))) (fun c2 => ((xs_iinc k223_65 rfl (by omega) (ls' := [vR 123, vI x1, vI x2, vI x3, vI x4, vI x5, vI (px_w32 (x6 + 1))]) rfl).trans (xs_goto k223_68)))))))))))))))))))
theorem b223_80 (hr : px_hr r) (d : Nat) (i l : MI) (x1 : Int) (x2 : Int) (x3 : Int) (x4 : Int) (x5 : Int) (x6 : Int) (xs0 : Int) (xs1 : Int) (xs2 : Int) (h1 : 0 ≤ x5 ∧ x5 < 10) : px_X d 223 (80, [vR 123, vI x1, vI x2, vI x3, vI x4, vI x5, vI x6], [vI xs0, vI xs1, vI xs2]) (px_sh L, i, l, r, t) = if (px_w32 (xs2 + (px_w32 (xs1 + xs0)))) ≤ (i 155 x5) then px_X d 223 (5, [vR 123, vI x1, vI x2, vI (px_w32 (xs2 + (px_w32 (xs1 + xs0)))), vI (px_and x4 (px_xor (px_shl 1 x5) (-1))), vI x5, vI x6], []) (px_sh L, i, l, r, t) else some (some (vI 0), (px_sh L, i, l, r, t)) := ((xs_iadd k223_80).trans ((xs_iadd k223_81).trans ((xs_istn k223_82 (Nat.le_of_ble_eq_true rfl) (ls' := [vR 123, vI x1, vI x2, vI (px_w32 (xs2 + (px_w32 (xs1 + xs0)))), vI x4, vI x5, vI x6]) rfl).trans ((xs_ildn k223_83 rfl).trans ((xs_aldn k223_84 rfl).trans ((xs_get4 k223_85 (px_s123 L) (Nat.le_of_ble_eq_true rfl) (px_r123_51 hr)).trans ((xs_ild k223_88 rfl).trans ((xs_iald k223_90 (px_s155 L) (h1)).trans ((xs_jle k223_91).trans (px_ite (fun c1 => ((xs_ild k223_96 rfl).trans ((xs_ic k223_98 (by omega)).trans ((xs_ild k223_99 rfl).trans ((xs_ishl k223_101).trans ((xs_ic k223_102 (by omega)).trans ((xs_ixor k223_103).trans ((xs_iand k223_104).trans ((xs_ist k223_105 (Nat.le_of_ble_eq_true rfl) (ls' := [vR 123, vI x1, vI x2, vI (px_w32 (xs2 + (px_w32 (xs1 + xs0)))), vI (px_and x4 (px_xor (px_shl 1 x5) (-1))), vI x5, vI x6]) rfl).trans (xs_goto k223_107)))))))))) (fun c1 => ((xs_ic k223_94 (by omega)).trans (xs_rz k223_95 rfl (by omega))))))))))))))
-- TideGuestsModel.hatch ('R123', 'I', 'I')
theorem b224_0 (hr : px_hr r) (d : Nat) (i l : MI) (x1 : Int) (x2 : Int) : px_X (d + 1) 224 (0, [vR 123, vI x1, vI x2, vJ, vJ, vJ, vJ, vJ, vJ], []) (px_sh L, i, l, r, t) = (px_C d 145 [vI x1] (px_sh L, i, l, r, t)).bind (fun q => px_X (d + 1) 224 (px_psh (4, [vR 123, vI x1, vI x2, vJ, vJ, vJ, vJ, vJ, vJ], []) q.1) q.2) := ((xs_ildn k224_0 rfl).trans (xs_callsB k224_1 (as := [vI x1]) rfl rfl (Nat.le_of_ble_eq_true rfl) (Nat.le_of_ble_eq_true rfl) (Nat.le_of_ble_eq_true rfl)))
theorem b224_4 (hr : px_hr r) (d : Nat) (i l : MI) (x1 : Int) (x2 : Int) (xs0 : Int) : px_X (d + 1) 224 (4, [vR 123, vI x1, vI x2, vJ, vJ, vJ, vJ, vJ, vJ], [vI xs0]) (px_sh L, i, l, r, t) = if xs0 = 0 then some (some (vI (-1)), (px_sh L, i, l, r, t)) else (px_C d 141 [vI x2, vI 0, vI 2] (px_sh L, i, l, r, t)).bind (fun q => px_X (d + 1) 224 (px_psh (13, [vR 123, vI x1, vI x2, vJ, vJ, vJ, vJ, vJ, vJ], []) q.1) q.2) := ((xs_ieq k224_4).trans (px_ite (fun c1 => ((xs_ic k224_16 (by omega)).trans (xs_ri k224_17 rfl))) (fun c1 => ((xs_ildn k224_7 rfl).trans ((xs_ic k224_8 (by omega)).trans ((xs_ic k224_9 (by omega)).trans (xs_callsB k224_10 (as := [vI x2, vI 0, vI 2]) rfl rfl (Nat.le_of_ble_eq_true rfl) (Nat.le_of_ble_eq_true rfl) (Nat.le_of_ble_eq_true rfl))))))))
theorem b224_13 (hr : px_hr r) (d : Nat) (i l : MI) (x1 : Int) (x2 : Int) (xs0 : Int) : px_X (d + 1) 224 (13, [vR 123, vI x1, vI x2, vJ, vJ, vJ, vJ, vJ, vJ], [vI xs0]) (px_sh L, i, l, r, t) = if xs0 = 0 then some (some (vI (-1)), (px_sh L, i, l, r, t)) else (px_C d 207 [vR 123] (px_sh L, i, l, r, t)).bind (fun q => px_X (d + 1) 224 (px_psh (22, [vR 123, vI x1, vI x2, vJ, vJ, vJ, vJ, vJ, vJ], []) q.1) q.2) := ((xs_ine k224_13).trans (px_ite (fun c1 => ((xs_ic k224_16 (by omega)).trans (xs_ri k224_17 rfl))) (fun c1 => ((xs_aldn k224_18 rfl).trans (xs_callvB k224_19 (as := []) rfl rfl (Nat.le_of_ble_eq_true rfl) (Nat.le_of_ble_eq_true rfl) (Nat.le_of_ble_eq_true rfl) (px_s123 L) (Nat.le_of_ble_eq_true rfl))))))
theorem b224_22 (hr : px_hr r) (d : Nat) (i l : MI) (x1 : Int) (x2 : Int) : px_X (d + 1) 224 (22, [vR 123, vI x1, vI x2, vJ, vJ, vJ, vJ, vJ, vJ], []) (px_sh L, i, l, r, t) = (px_C d 222 [vR 123, vI x1] (px_sh L, i, l, r, t)).bind (fun q => px_X (d + 1) 224 (px_psh (27, [vR 123, vI x1, vI x2, vJ, vJ, vJ, vJ, vJ, vJ], []) q.1) q.2) := ((xs_aldn k224_22 rfl).trans ((xs_ildn k224_23 rfl).trans (xs_callvB k224_24 (as := [vI x1]) rfl rfl (Nat.le_of_ble_eq_true rfl) (Nat.le_of_ble_eq_true rfl) (Nat.le_of_ble_eq_true rfl) (px_s123 L) (Nat.le_of_ble_eq_true rfl))))
theorem b224_27 (hr : px_hr r) (d : Nat) (i l : MI) (x1 : Int) (x2 : Int) : px_X (d + 1) 224 (27, [vR 123, vI x1, vI x2, vJ, vJ, vJ, vJ, vJ, vJ], []) (px_sh L, i, l, r, t) = (px_C d 198 [vR 123] (px_sh L, i, l, r, t)).bind (fun q => px_X (d + 1) 224 (px_psh (31, [vR 123, vI x1, vI x2, vJ, vJ, vJ, vJ, vJ, vJ], []) q.1) q.2) := ((xs_aldn k224_27 rfl).trans (xs_callvB k224_28 (as := []) rfl rfl (Nat.le_of_ble_eq_true rfl) (Nat.le_of_ble_eq_true rfl) (Nat.le_of_ble_eq_true rfl) (px_s123 L) (Nat.le_of_ble_eq_true rfl)))
theorem b224_31 (hr : px_hr r) (d : Nat) (i l : MI) (x1 : Int) (x2 : Int) (xs0 : Int) : px_X d 224 (31, [vR 123, vI x1, vI x2, vJ, vJ, vJ, vJ, vJ, vJ], [vI xs0]) (px_sh L, i, l, r, t) = px_X d 224 (41, [vR 123, vI x1, vI x2, vI xs0, vI 0, vI 0, vI 1, vJ, vJ], []) (px_sh L, i, l, r, t) := ((xs_istn k224_31 (Nat.le_of_ble_eq_true rfl) (ls' := [vR 123, vI x1, vI x2, vI xs0, vJ, vJ, vJ, vJ, vJ]) rfl).trans ((xs_ic k224_32 (by omega)).trans ((xs_ist k224_33 (Nat.le_of_ble_eq_true rfl) (ls' := [vR 123, vI x1, vI x2, vI xs0, vI 0, vJ, vJ, vJ, vJ]) rfl).trans ((xs_ic k224_35 (by omega)).trans ((xs_ist k224_36 (Nat.le_of_ble_eq_true rfl) (ls' := [vR 123, vI x1, vI x2, vI xs0, vI 0, vI 0, vJ, vJ, vJ]) rfl).trans ((xs_ic k224_38 (by omega)).trans (xs_ist k224_39 (Nat.le_of_ble_eq_true rfl) (ls' := [vR 123, vI x1, vI x2, vI xs0, vI 0, vI 0, vI 1, vJ, vJ]) rfl)))))))
theorem b224_41 (hr : px_hr r) (d : Nat) (i l : MI) (x1 : Int) (x2 : Int) (x3 : Int) (x4 : Int) (x5 : Int) (x6 : Int) {v7 : PV} (hn7 : px_nl v7) {v8 : PV} (hn8 : px_nl v8) : px_X d 224 (41, [vR 123, vI x1, vI x2, vI x3, vI x4, vI x5, vI x6, v7, v8], []) (px_sh L, i, l, r, t) = if x3 < x6 then px_X d 224 (145, [vR 123, vI x1, vI x2, vI x3, vI x4, vI x5, vI 0, vI 0, v8], []) (px_sh L, i, l, r, t) else if (px_and x6 (px_xor x3 (-1))) = 0 then px_X d 224 (62, [vR 123, vI x1, vI x2, vI x3, vI x4, vI x5, vI x6, vI 0, vI 0], []) (px_sh L, i, l, r, t) else px_X d 224 (41, [vR 123, vI x1, vI x2, vI x3, vI x4, vI x5, vI (px_w32 (x6 + 1)), v7, v8], []) (px_sh L, i, l, r, t) := ((xs_ild k224_41 rfl).trans ((xs_ildn k224_43 rfl).trans ((xs_jgt k224_44).trans (px_ite (fun c1 => ((xs_ic k224_139 (by omega)).trans ((xs_ist k224_140 (Nat.le_of_ble_eq_true rfl) (ls' := [vR 123, vI x1, vI x2, vI x3, vI x4, vI x5, vI 0, v7, v8]) rfl).trans ((xs_ic k224_142 (by omega)).trans (xs_ist k224_143 (Nat.le_of_ble_eq_true rfl) (ls' := [vR 123, vI x1, vI x2, vI x3, vI x4, vI x5, vI 0, vI 0, v8]) rfl))))) (fun c1 => ((xs_ild k224_47 rfl).trans ((xs_ildn k224_49 rfl).trans ((xs_ic k224_50 (by omega)).trans ((xs_ixor k224_51).trans ((xs_iand k224_52).trans ((xs_ine k224_53).trans (px_ite (fun c2 => ((xs_ic k224_56 (by omega)).trans ((xs_ist k224_57 (Nat.le_of_ble_eq_true rfl) (ls' := [vR 123, vI x1, vI x2, vI x3, vI x4, vI x5, vI x6, vI 0, v8]) rfl).trans ((xs_ic k224_59 (by omega)).trans (xs_ist k224_60 (Nat.le_of_ble_eq_true rfl) (ls' := [vR 123, vI x1, vI x2, vI x3, vI x4, vI x5, vI x6, vI 0, vI 0]) rfl))))) (fun c2 => ((xs_iinc k224_133 rfl (by omega) (ls' := [vR 123, vI x1, vI x2, vI x3, vI x4, vI x5, vI (px_w32 (x6 + 1)), v7, v8]) rfl).trans (xs_goto k224_136)))))))))))))))
theorem b224_62 (hr : px_hr r) (d : Nat) (i l : MI) (x1 : Int) (x2 : Int) (x3 : Int) (x4 : Int) (x5 : Int) (x6 : Int) (x7 : Int) (x8 : Int) : px_X (d + 1) 224 (62, [vR 123, vI x1, vI x2, vI x3, vI x4, vI x5, vI x6, vI x7, vI x8], []) (px_sh L, i, l, r, t) = if (i 124 4) ≤ x8 then if x7 ≤ x5 then px_X (d + 1) 224 (41, [vR 123, vI x1, vI x2, vI x3, vI x4, vI x5, vI (px_w32 (x6 + 1)), vI x7, vI x8], []) (px_sh L, i, l, r, t) else (px_C d 223 [vR 123, vI x6, vI x1] (px_sh L, i, l, r, t)).bind (fun q => px_X (d + 1) 224 (px_psh (122, [vR 123, vI x1, vI x2, vI x3, vI x4, vI x5, vI x6, vI x7, vI x8], []) q.1) q.2) else if (px_and (px_shr x6 x8) 1) = 1 then (px_C d 146 [vR 123, vI x8, vI 0] (px_sh L, i, l, r, t)).bind (fun q => px_X (d + 1) 224 (px_psh (93, [vR 123, vI x1, vI x2, vI x3, vI x4, vI x5, vI x6, vI x7, vI x8], [vI x7]) q.1) q.2) else px_X (d + 1) 224 (62, [vR 123, vI x1, vI x2, vI x3, vI x4, vI x5, vI x6, vI (px_w32 (x7 + 0)), vI (px_w32 (x8 + 1))], []) (px_sh L, i, l, r, t) := ((xs_ild k224_62 rfl).trans ((xs_aldn k224_64 rfl).trans ((xs_get4 k224_65 (px_s123 L) (Nat.le_of_ble_eq_true rfl) (px_r123_3 hr)).trans ((xs_ic k224_68 (by omega)).trans ((xs_iald k224_69 (px_s124 L) (by omega)).trans ((xs_jge k224_70).trans (px_ite (fun c1 => ((xs_ild k224_108 rfl).trans ((xs_ild k224_110 rfl).trans ((xs_jle k224_112).trans (px_ite (fun c2 => ((xs_iinc k224_133 rfl (by omega) (ls' := [vR 123, vI x1, vI x2, vI x3, vI x4, vI x5, vI (px_w32 (x6 + 1)), vI x7, vI x8]) rfl).trans (xs_goto k224_136))) (fun c2 => ((xs_aldn k224_115 rfl).trans ((xs_ild k224_116 rfl).trans ((xs_ildn k224_118 rfl).trans (xs_callvB k224_119 (as := [vI x6, vI x1]) rfl rfl (Nat.le_of_ble_eq_true rfl) (Nat.le_of_ble_eq_true rfl) (Nat.le_of_ble_eq_true rfl) (px_s123 L) (Nat.le_of_ble_eq_true rfl))))))))))) (fun c1 => ((xs_ild k224_73 rfl).trans ((xs_ild k224_75 rfl).trans ((xs_ild k224_77 rfl).trans ((xs_ishr k224_79).trans ((xs_ic k224_80 (by omega)).trans ((xs_iand k224_81).trans ((xs_ic k224_82 (by omega)).trans ((xs_jne k224_83).trans (px_ite (fun c2 => ((xs_aldn k224_86 rfl).trans ((xs_ild k224_87 rfl).trans ((xs_ic k224_89 (by omega)).trans (xs_callvB k224_90 (as := [vI x8, vI 0]) rfl rfl (Nat.le_of_ble_eq_true rfl) (Nat.le_of_ble_eq_true rfl) (Nat.le_of_ble_eq_true rfl) (px_s123 L) (Nat.le_of_ble_eq_true rfl)))))) (fun c2 => ((xs_ic k224_98 (by omega)).trans ((xs_iadd k224_99).trans ((xs_ist k224_100 (Nat.le_of_ble_eq_true rfl) (ls' := [vR 123, vI x1, vI x2, vI x3, vI x4, vI x5, vI x6, vI (px_w32 (x7 + 0)), vI x8]) rfl).trans ((xs_iinc k224_102 rfl (by omega) (ls' := [vR 123, vI x1, vI x2, vI x3, vI x4, vI x5, vI x6, vI (px_w32 (x7 + 0)), vI (px_w32 (x8 + 1))]) rfl).trans (xs_goto k224_105)))))))))))))))))))))))
theorem b224_93 (hr : px_hr r) (d : Nat) (i l : MI) (x1 : Int) (x2 : Int) (x3 : Int) (x4 : Int) (x5 : Int) (x6 : Int) (x7 : Int) (x8 : Int) (xs0 : Int) (xs1 : Int) : px_X d 224 (93, [vR 123, vI x1, vI x2, vI x3, vI x4, vI x5, vI x6, vI x7, vI x8], [vI xs0, vI xs1]) (px_sh L, i, l, r, t) = px_X d 224 (62, [vR 123, vI x1, vI x2, vI x3, vI x4, vI x5, vI x6, vI (px_w32 (xs1 + (px_w32 (xs0 + 1)))), vI (px_w32 (x8 + 1))], []) (px_sh L, i, l, r, t) := ((xs_ic k224_93 (by omega)).trans ((xs_iadd k224_94).trans ((xs_goto k224_95).trans ((xs_iadd k224_99).trans ((xs_ist k224_100 (Nat.le_of_ble_eq_true rfl) (ls' := [vR 123, vI x1, vI x2, vI x3, vI x4, vI x5, vI x6, vI (px_w32 (xs1 + (px_w32 (xs0 + 1)))), vI x8]) rfl).trans ((xs_iinc k224_102 rfl (by omega) (ls' := [vR 123, vI x1, vI x2, vI x3, vI x4, vI x5, vI x6, vI (px_w32 (xs1 + (px_w32 (xs0 + 1)))), vI (px_w32 (x8 + 1))]) rfl).trans (xs_goto k224_105)))))))
theorem b224_122 (hr : px_hr r) (d : Nat) (i l : MI) (x1 : Int) (x2 : Int) (x3 : Int) (x4 : Int) (x5 : Int) (x6 : Int) (x7 : Int) (x8 : Int) (xs0 : Int) : px_X d 224 (122, [vR 123, vI x1, vI x2, vI x3, vI x4, vI x5, vI x6, vI x7, vI x8], [vI xs0]) (px_sh L, i, l, r, t) = if xs0 = 0 then px_X d 224 (41, [vR 123, vI x1, vI x2, vI x3, vI x4, vI x5, vI (px_w32 (x6 + 1)), vI x7, vI x8], []) (px_sh L, i, l, r, t) else px_X d 224 (41, [vR 123, vI x1, vI x2, vI x3, vI x6, vI x7, vI (px_w32 (x6 + 1)), vI x7, vI x8], []) (px_sh L, i, l, r, t) := ((xs_ieq k224_122).trans (px_ite (fun c1 => ((xs_iinc k224_133 rfl (by omega) (ls' := [vR 123, vI x1, vI x2, vI x3, vI x4, vI x5, vI (px_w32 (x6 + 1)), vI x7, vI x8]) rfl).trans (xs_goto k224_136))) (fun c1 => ((xs_ild k224_125 rfl).trans ((xs_ist k224_127 (Nat.le_of_ble_eq_true rfl) (ls' := [vR 123, vI x1, vI x2, vI x3, vI x4, vI x7, vI x6, vI x7, vI x8]) rfl).trans ((xs_ild k224_129 rfl).trans ((xs_ist k224_131 (Nat.le_of_ble_eq_true rfl) (ls' := [vR 123, vI x1, vI x2, vI x3, vI x6, vI x7, vI x6, vI x7, vI x8]) rfl).trans ((xs_iinc k224_133 rfl (by omega) (ls' := [vR 123, vI x1, vI x2, vI x3, vI x6, vI x7, vI (px_w32 (x6 + 1)), vI x7, vI x8]) rfl).trans (xs_goto k224_136)))))))))
theorem b224_145 (hr : px_hr r) (d : Nat) (i l : MI) (x1 : Int) (x2 : Int) (x3 : Int) (x4 : Int) (x5 : Int) (x6 : Int) (x7 : Int) {v8 : PV} (hn8 : px_nl v8) : px_X (d + 1) 224 (145, [vR 123, vI x1, vI x2, vI x3, vI x4, vI x5, vI x6, vI x7, v8], []) (px_sh L, i, l, r, t) = if (i 124 4) ≤ x7 then if x2 = 0 then some (some (vI x4), (px_sh L, i, l, r, t)) else if x2 = 1 then some (some (vI x5), (px_sh L, i, l, r, t)) else (px_C d 219 [vR 123] (px_sh L, i, l, r, t)).bind (fun q => px_X (d + 1) 224 (px_psh (197, [vR 123, vI x1, vI x2, vI x3, vI x4, vI x5, vI x6, vI x7, v8], []) q.1) q.2) else px_X (d + 1) 224 (145, [vR 123, vI x1, vI x2, vI x3, vI x4, vI x5, vI (px_w32 (x6 + (px_and (px_shr x4 x7) 1))), vI (px_w32 (x7 + 1)), v8], []) (px_sh L, i, l, r, t) := ((xs_ild k224_145 rfl).trans ((xs_aldn k224_147 rfl).trans ((xs_get4 k224_148 (px_s123 L) (Nat.le_of_ble_eq_true rfl) (px_r123_3 hr)).trans ((xs_ic k224_151 (by omega)).trans ((xs_iald k224_152 (px_s124 L) (by omega)).trans ((xs_jge k224_153).trans (px_ite (fun c1 => ((xs_ildn k224_174 rfl).trans ((xs_ine k224_175).trans (px_ite (fun c2 => ((xs_ild k224_178 rfl).trans ((xs_goto k224_180).trans (xs_ri k224_200 rfl)))) (fun c2 => ((xs_ildn k224_183 rfl).trans ((xs_ic k224_184 (by omega)).trans ((xs_jne k224_185).trans (px_ite (fun c3 => ((xs_ild k224_188 rfl).trans ((xs_goto k224_190).trans (xs_ri k224_200 rfl)))) (fun c3 => ((xs_aldn k224_193 rfl).trans (xs_callvB k224_194 (as := []) rfl rfl (Nat.le_of_ble_eq_true rfl) (Nat.le_of_ble_eq_true rfl) (Nat.le_of_ble_eq_true rfl) (px_s123 L) (Nat.le_of_ble_eq_true rfl))))))))))))) (fun c1 => ((xs_ild k224_156 rfl).trans ((xs_ild k224_158 rfl).trans ((xs_ild k224_160 rfl).trans ((xs_ishr k224_162).trans ((xs_ic k224_163 (by omega)).trans ((xs_iand k224_164).trans ((xs_iadd k224_165).trans ((xs_ist k224_166 (Nat.le_of_ble_eq_true rfl) (ls' := [vR 123, vI x1, vI x2, vI x3, vI x4, vI x5, vI (px_w32 (x6 + (px_and (px_shr x4 x7) 1))), vI x7, v8]) rfl).trans ((xs_iinc k224_168 rfl (by omega) (ls' := [vR 123, vI x1, vI x2, vI x3, vI x4, vI x5, vI (px_w32 (x6 + (px_and (px_shr x4 x7) 1))), vI (px_w32 (x7 + 1)), v8]) rfl).trans (xs_goto k224_171))))))))))))))))))
theorem b224_197 (hr : px_hr r) (d : Nat) (i l : MI) (x1 : Int) (x2 : Int) (x3 : Int) (x4 : Int) (x5 : Int) (x6 : Int) (x7 : Int) {v8 : PV} (hn8 : px_nl v8) (xs0 : Int) : px_X d 224 (197, [vR 123, vI x1, vI x2, vI x3, vI x4, vI x5, vI x6, vI x7, v8], [vI xs0]) (px_sh L, i, l, r, t) = some (some (vI (px_w32 (xs0 - x6))), (px_sh L, i, l, r, t)) := ((xs_ild k224_197 rfl).trans ((xs_isub k224_199).trans (xs_ri k224_200 rfl)))
-- TideGuestsModel.horse ('R123', 'I')
theorem b225_0 (hr : px_hr r) (d : Nat) (i l : MI) (x1 : Int) : px_X (d + 1) 225 (0, [vR 123, vI x1], []) (px_sh L, i, l, r, t) = (px_C d 141 [vI x1, vI 1, vI 999] (px_sh L, i, l, r, t)).bind (fun q => px_X (d + 1) 225 (px_psh (8, [vR 123, vI x1], []) q.1) q.2) := ((xs_ildn k225_0 rfl).trans ((xs_ic k225_1 (by omega)).trans ((xs_si k225_2 (by omega)).trans (xs_callsB k225_5 (as := [vI x1, vI 1, vI 999]) rfl rfl (Nat.le_of_ble_eq_true rfl) (Nat.le_of_ble_eq_true rfl) (Nat.le_of_ble_eq_true rfl)))))
theorem b225_8 (hr : px_hr r) (d : Nat) (i l : MI) (x1 : Int) (xs0 : Int) (h1 : (¬ (xs0 = 0)) → (¬ ((i 124 7) = 7)) → 0 ≤ (px_w32 (270 + (i 124 7))) ∧ (px_w32 (270 + (i 124 7))) < 820) : px_X d 225 (8, [vR 123, vI x1], [vI xs0]) (px_sh L, i, l, r, t) = if xs0 = 0 then some (some (vI (-1)), (px_sh L, i, l, r, t)) else if (i 124 7) = 7 then some (some (vI (-1)), (px_sh L, i, l, r, t)) else some (some (vI (px_w32 (((px_up i 124 (px_w32 (270 + (i 124 7))) x1) 124 7) + 1))), (px_sh L, (px_up (px_up i 124 (px_w32 (270 + (i 124 7))) x1) 124 7 (px_w32 (((px_up i 124 (px_w32 (270 + (i 124 7))) x1) 124 7) + 1))), l, r, t)) := ((xs_ieq k225_8).trans (px_ite (fun c1 => ((xs_ic k225_23 (by omega)).trans (xs_ri k225_24 rfl))) (fun c1 => ((xs_aldn k225_11 rfl).trans ((xs_get4 k225_12 (px_s123 L) (Nat.le_of_ble_eq_true rfl) (px_r123_3 hr)).trans ((xs_bi k225_15 (by omega)).trans ((xs_iald k225_17 (px_s124 L) (by omega)).trans ((xs_bi k225_18 (by omega)).trans ((xs_jne k225_20).trans (px_ite (fun c2 => ((xs_ic k225_23 (by omega)).trans (xs_ri k225_24 rfl))) (fun c2 => ((xs_aldn k225_25 rfl).trans ((xs_get4 k225_26 (px_s123 L) (Nat.le_of_ble_eq_true rfl) (px_r123_3 hr)).trans ((xs_si k225_29 (by omega)).trans ((xs_aldn k225_32 rfl).trans ((xs_get4 k225_33 (px_s123 L) (Nat.le_of_ble_eq_true rfl) (px_r123_3 hr)).trans ((xs_bi k225_36 (by omega)).trans ((xs_iald k225_38 (px_s124 L) (by omega)).trans ((xs_iadd k225_39).trans ((xs_ildn k225_40 rfl).trans ((xs_iast k225_41 (px_s124 L) (h1 c1 c2) (Nat.le_of_ble_eq_true rfl)).trans ((xs_aldn k225_42 rfl).trans ((xs_get4 k225_43 (px_s123 L) (Nat.le_of_ble_eq_true rfl) (px_r123_3 hr)).trans ((xs_bi k225_46 (by omega)).trans ((xs_dup2 k225_48 ⟨rfl, rfl⟩).trans ((xs_iald k225_49 (px_s124 L) (by omega)).trans ((xs_ic k225_50 (by omega)).trans ((xs_iadd k225_51).trans ((xs_iast k225_52 (px_s124 L) (by omega) (Nat.le_of_ble_eq_true rfl)).trans ((xs_aldn k225_53 rfl).trans ((xs_get4 k225_54 (px_s123 L) (Nat.le_of_ble_eq_true rfl) (px_r123_3 hr)).trans ((xs_bi k225_57 (by omega)).trans ((xs_iald k225_59 (px_s124 L) (by omega)).trans (xs_ri k225_60 rfl))))))))))))))))))))))))))))))))))
-- TideGuestsModel.laysRafts ('R123',)
theorem b226_0 (hr : px_hr r) (d : Nat) (i l : MI)  : px_X d 226 (0, [vR 123, vJ, vJ, vJ], []) (px_sh L, i, l, r, t) = px_X d 226 (2, [vR 123, vI 1, vJ, vJ], []) (px_sh L, i, l, r, t) := ((xs_ic k226_0 (by omega)).trans (xs_istn k226_1 (Nat.le_of_ble_eq_true rfl) (ls' := [vR 123, vI 1, vJ, vJ]) rfl))
theorem b226_2 (hr : px_hr r) (d : Nat) (i l : MI) (x1 : Int) : px_X (d + 1) 226 (2, [vR 123, vI x1, vJ, vJ], []) (px_sh L, i, l, r, t) = if 21 ≤ x1 then px_X (d + 1) 226 (56, [vR 123, vI 1, vJ, vJ], []) (px_sh L, i, l, r, t) else (px_C d 187 [vR 123, vI 3] (px_sh L, (px_up i 140 14 x1), l, r, t)).bind (fun q => px_X (d + 1) 226 (px_psh (26, [vR 123, vI x1, vJ, vJ], [vI x1, vR 156]) q.1) q.2) := ((xs_ildn k226_2 rfl).trans ((xs_bi k226_3 (by omega)).trans ((xs_jge k226_5).trans (px_ite (fun c1 => ((xs_ic k226_54 (by omega)).trans (xs_istn k226_55 (Nat.le_of_ble_eq_true rfl) (ls' := [vR 123, vI 1, vJ, vJ]) rfl))) (fun c1 => ((xs_aldn k226_8 rfl).trans ((xs_get4 k226_9 (px_s123 L) (Nat.le_of_ble_eq_true rfl) (px_r123_36 hr)).trans ((xs_bi k226_12 (by omega)).trans ((xs_ildn k226_14 rfl).trans ((xs_iast k226_15 (px_s140 L) (by omega) (Nat.le_of_ble_eq_true rfl)).trans ((xs_aldn k226_16 rfl).trans ((xs_get4 k226_17 (px_s123 L) (Nat.le_of_ble_eq_true rfl) (px_r123_52 hr)).trans ((xs_ildn k226_20 rfl).trans ((xs_aldn k226_21 rfl).trans ((xs_ic k226_22 (by omega)).trans (xs_callvB k226_23 (as := [vI 3]) rfl rfl (Nat.le_of_ble_eq_true rfl) (Nat.le_of_ble_eq_true rfl) (Nat.le_of_ble_eq_true rfl) (px_s123 L) (Nat.le_of_ble_eq_true rfl)))))))))))))))))
theorem b226_26 (hr : px_hr r) (d : Nat) (i l : MI) (x1 : Int) (xs0 : Int) (xs1 : Int) (h1 : (xs0 = 0) → 0 ≤ xs1 ∧ xs1 < 21) : px_X (d + 1) 226 (26, [vR 123, vI x1, vJ, vJ], [vI xs0, vI xs1, vR 156]) (px_sh L, i, l, r, t) = if xs0 = 0 then px_X (d + 1) 226 (2, [vR 123, vI (px_w32 (x1 + 1)), vJ, vJ], []) (px_sh L, (px_up i 156 xs1 (px_w32 (100 * x1))), l, r, t) else (px_C d 188 [vR 123, vI 3, vL 0] (px_sh L, i, l, r, t)).bind (fun q => px_X (d + 1) 226 (px_psh (35, [vR 123, vI x1, vJ, vJ], [vI xs1, vR 156]) q.1) q.2) := ((xs_ieq k226_26).trans (px_ite (fun c1 => ((xs_bi k226_43 (by omega)).trans ((xs_ildn k226_45 rfl).trans ((xs_imul k226_46).trans ((xs_iast k226_47 (px_s156 L) (h1 c1) (Nat.le_of_ble_eq_true rfl)).trans ((xs_iinc k226_48 rfl (by omega) (ls' := [vR 123, vI (px_w32 (x1 + 1)), vJ, vJ]) rfl).trans (xs_goto k226_51))))))) (fun c1 => ((xs_aldn k226_29 rfl).trans ((xs_ic k226_30 (by omega)).trans ((xs_lc0 k226_31).trans (xs_callvB k226_32 (as := [vI 3, vL 0]) rfl rfl (Nat.le_of_ble_eq_true rfl) (Nat.le_of_ble_eq_true rfl) (Nat.le_of_ble_eq_true rfl) (px_s123 L) (Nat.le_of_ble_eq_true rfl))))))))
theorem b226_35 (hr : px_hr r) (d : Nat) (i l : MI) (x1 : Int) (xs0 : Int) (xs1 : Int) : px_X (d + 1) 226 (35, [vR 123, vI x1, vJ, vJ], [vL xs0, vI xs1, vR 156]) (px_sh L, i, l, r, t) = (px_C d 190 [vL xs0, vI 99999] (px_sh L, i, l, r, t)).bind (fun q => px_X (d + 1) 226 (px_psh (40, [vR 123, vI x1, vJ, vJ], [vI xs1, vR 156]) q.1) q.2) := ((xs_ldc k226_35).trans (xs_callsB k226_37 (as := [vL xs0, vI 99999]) rfl rfl (Nat.le_of_ble_eq_true rfl) (Nat.le_of_ble_eq_true rfl) (Nat.le_of_ble_eq_true rfl)))
theorem b226_40 (hr : px_hr r) (d : Nat) (i l : MI) (x1 : Int) (xs0 : Int) (xs1 : Int) (h1 : 0 ≤ xs1 ∧ xs1 < 21) : px_X d 226 (40, [vR 123, vI x1, vJ, vJ], [vI xs0, vI xs1, vR 156]) (px_sh L, i, l, r, t) = px_X d 226 (2, [vR 123, vI (px_w32 (x1 + 1)), vJ, vJ], []) (px_sh L, (px_up i 156 xs1 xs0), l, r, t) := ((xs_goto k226_40).trans ((xs_iast k226_47 (px_s156 L) (h1) (Nat.le_of_ble_eq_true rfl)).trans ((xs_iinc k226_48 rfl (by omega) (ls' := [vR 123, vI (px_w32 (x1 + 1)), vJ, vJ]) rfl).trans (xs_goto k226_51))))
theorem b226_56 (hr : px_hr r) (d : Nat) (i l : MI) (x1 : Int) {v2 : PV} (hn2 : px_nl v2) {v3 : PV} (hn3 : px_nl v3) : px_X d 226 (56, [vR 123, vI x1, v2, v3], []) (px_sh L, i, l, r, t) = if (px_shl 1 (i 124 7)) ≤ x1 then some (none, (px_sh L, i, l, r, t)) else px_X d 226 (73, [vR 123, vI x1, vI 0, vI 0], []) (px_sh L, i, l, r, t) := ((xs_ildn k226_56 rfl).trans ((xs_ic k226_57 (by omega)).trans ((xs_aldn k226_58 rfl).trans ((xs_get4 k226_59 (px_s123 L) (Nat.le_of_ble_eq_true rfl) (px_r123_3 hr)).trans ((xs_bi k226_62 (by omega)).trans ((xs_iald k226_64 (px_s124 L) (by omega)).trans ((xs_ishl k226_65).trans ((xs_jge k226_66).trans (px_ite (fun c1 => (xs_rv k226_168 rfl)) (fun c1 => ((xs_ic k226_69 (by omega)).trans ((xs_istn k226_70 (Nat.le_of_ble_eq_true rfl) (ls' := [vR 123, vI x1, vI 0, v3]) rfl).trans ((xs_ic k226_71 (by omega)).trans (xs_istn k226_72 (Nat.le_of_ble_eq_true rfl) (ls' := [vR 123, vI x1, vI 0, vI 0]) rfl))))))))))))))
theorem b226_73 (hr : px_hr r) (d : Nat) (i l : MI) (x1 : Int) (x2 : Int) (x3 : Int) (h1 : ((i 124 7) ≤ x3) → 0 ≤ x1 ∧ x1 < 128) (h2 : (¬ ((i 124 7) ≤ x3)) → ((px_and (px_shr x1 x3) 1) = 1) → 0 ≤ (px_w32 (270 + x3)) ∧ (px_w32 (270 + x3)) < 820) : px_X d 226 (73, [vR 123, vI x1, vI x2, vI x3], []) (px_sh L, i, l, r, t) = if (i 124 7) ≤ x3 then px_X d 226 (126, [vR 123, vI x1, vI x2, vI 20], []) (px_sh L, (px_up i 157 x1 0), l, r, t) else if (px_and (px_shr x1 x3) 1) = 1 then px_X d 226 (73, [vR 123, vI x1, vI (px_w32 (x2 + (i 124 (px_w32 (270 + x3))))), vI (px_w32 (x3 + 1))], []) (px_sh L, i, l, r, t) else px_X d 226 (73, [vR 123, vI x1, vI (px_w32 (x2 + 0)), vI (px_w32 (x3 + 1))], []) (px_sh L, i, l, r, t) := ((xs_ildn k226_73 rfl).trans ((xs_aldn k226_74 rfl).trans ((xs_get4 k226_75 (px_s123 L) (Nat.le_of_ble_eq_true rfl) (px_r123_3 hr)).trans ((xs_bi k226_78 (by omega)).trans ((xs_iald k226_80 (px_s124 L) (by omega)).trans ((xs_jge k226_81).trans (px_ite (fun c1 => ((xs_aldn k226_116 rfl).trans ((xs_get4 k226_117 (px_s123 L) (Nat.le_of_ble_eq_true rfl) (px_r123_53 hr)).trans ((xs_ildn k226_120 rfl).trans ((xs_ic k226_121 (by omega)).trans ((xs_iast k226_122 (px_s157 L) (h1 c1) (Nat.le_of_ble_eq_true rfl)).trans ((xs_bi k226_123 (by omega)).trans (xs_istn k226_125 (Nat.le_of_ble_eq_true rfl) (ls' := [vR 123, vI x1, vI x2, vI 20]) rfl)))))))) (fun c1 => ((xs_ildn k226_84 rfl).trans ((xs_ildn k226_85 rfl).trans ((xs_ildn k226_86 rfl).trans ((xs_ishr k226_87).trans ((xs_ic k226_88 (by omega)).trans ((xs_iand k226_89).trans ((xs_ic k226_90 (by omega)).trans ((xs_jne k226_91).trans (px_ite (fun c2 => ((xs_aldn k226_94 rfl).trans ((xs_get4 k226_95 (px_s123 L) (Nat.le_of_ble_eq_true rfl) (px_r123_3 hr)).trans ((xs_si k226_98 (by omega)).trans ((xs_ildn k226_101 rfl).trans ((xs_iadd k226_102).trans ((xs_iald k226_103 (px_s124 L) (h2 c1 c2)).trans ((xs_goto k226_104).trans ((xs_iadd k226_108).trans ((xs_istn k226_109 (Nat.le_of_ble_eq_true rfl) (ls' := [vR 123, vI x1, vI (px_w32 (x2 + (i 124 (px_w32 (270 + x3))))), vI x3]) rfl).trans ((xs_iinc k226_110 rfl (by omega) (ls' := [vR 123, vI x1, vI (px_w32 (x2 + (i 124 (px_w32 (270 + x3))))), vI (px_w32 (x3 + 1))]) rfl).trans (xs_goto k226_113)))))))))))) (fun c2 => ((xs_ic k226_107 (by omega)).trans ((xs_iadd k226_108).trans ((xs_istn k226_109 (Nat.le_of_ble_eq_true rfl) (ls' := [vR 123, vI x1, vI (px_w32 (x2 + 0)), vI x3]) rfl).trans ((xs_iinc k226_110 rfl (by omega) (ls' := [vR 123, vI x1, vI (px_w32 (x2 + 0)), vI (px_w32 (x3 + 1))]) rfl).trans (xs_goto k226_113)))))))))))))))))))))))
theorem b226_126 (hr : px_hr r) (d : Nat) (i l : MI) (x1 : Int) (x2 : Int) (x3 : Int) (h1 : (¬ (x3 ≤ 0)) → 0 ≤ x3 ∧ x3 < 21) (h2 : (¬ (x3 ≤ 0)) → ((i 156 x3) < x2) → 0 ≤ x1 ∧ x1 < 128) (h3 : (¬ (x3 ≤ 0)) → (¬ ((i 156 x3) < x2)) → 0 ≤ x1 ∧ x1 < 128) : px_X d 226 (126, [vR 123, vI x1, vI x2, vI x3], []) (px_sh L, i, l, r, t) = if x3 ≤ 0 then px_X d 226 (56, [vR 123, vI (px_w32 (x1 + 1)), vI x2, vI x3], []) (px_sh L, i, l, r, t) else if (i 156 x3) < x2 then px_X d 226 (126, [vR 123, vI x1, vI x2, vI (px_w32 (x3 + (-1)))], []) (px_sh L, (px_up i 157 x1 (i 157 x1)), l, r, t) else px_X d 226 (126, [vR 123, vI x1, vI x2, vI (px_w32 (x3 + (-1)))], []) (px_sh L, (px_up i 157 x1 x3), l, r, t) := ((xs_ildn k226_126 rfl).trans ((xs_ile k226_127).trans (px_ite (fun c1 => ((xs_iinc k226_162 rfl (by omega) (ls' := [vR 123, vI (px_w32 (x1 + 1)), vI x2, vI x3]) rfl).trans (xs_goto k226_165))) (fun c1 => ((xs_aldn k226_130 rfl).trans ((xs_get4 k226_131 (px_s123 L) (Nat.le_of_ble_eq_true rfl) (px_r123_53 hr)).trans ((xs_ildn k226_134 rfl).trans ((xs_aldn k226_135 rfl).trans ((xs_get4 k226_136 (px_s123 L) (Nat.le_of_ble_eq_true rfl) (px_r123_52 hr)).trans ((xs_ildn k226_139 rfl).trans ((xs_iald k226_140 (px_s156 L) (h1 c1)).trans ((xs_ildn k226_141 rfl).trans ((xs_jlt k226_142).trans (px_ite (fun c2 => ((xs_aldn k226_149 rfl).trans ((xs_get4 k226_150 (px_s123 L) (Nat.le_of_ble_eq_true rfl) (px_r123_53 hr)).trans ((xs_ildn k226_153 rfl).trans ((xs_iald k226_154 (px_s157 L) (h2 c1 c2)).trans ((xs_iast k226_155 (px_s157 L) (h2 c1 c2) (Nat.le_of_ble_eq_true rfl)).trans ((xs_iinc k226_156 rfl (by omega) (ls' := [vR 123, vI x1, vI x2, vI (px_w32 (x3 + (-1)))]) rfl).trans (xs_goto k226_159)))))))) (fun c2 => ((xs_ildn k226_145 rfl).trans ((xs_goto k226_146).trans ((xs_iast k226_155 (px_s157 L) (h3 c1 c2) (Nat.le_of_ble_eq_true rfl)).trans ((xs_iinc k226_156 rfl (by omega) (ls' := [vR 123, vI x1, vI x2, vI (px_w32 (x3 + (-1)))]) rfl).trans (xs_goto k226_159))))))))))))))))))))
-- TideGuestsModel.rafts ('R123',)
theorem b227_0 (hr : px_hr r) (d : Nat) (i l : MI)  : px_X (d + 1) 227 (0, [vR 123, vJ, vJ, vJ, vJ, vJ], []) (px_sh L, i, l, r, t) = (px_C d 226 [vR 123] (px_sh L, i, l, r, t)).bind (fun q => px_X (d + 1) 227 (px_psh (4, [vR 123, vJ, vJ, vJ, vJ, vJ], []) q.1) q.2) := ((xs_aldn k227_0 rfl).trans (xs_callvB k227_1 (as := []) rfl rfl (Nat.le_of_ble_eq_true rfl) (Nat.le_of_ble_eq_true rfl) (Nat.le_of_ble_eq_true rfl) (px_s123 L) (Nat.le_of_ble_eq_true rfl)))
theorem b227_4 (hr : px_hr r) (d : Nat) (i l : MI)  : px_X d 227 (4, [vR 123, vJ, vJ, vJ, vJ, vJ], []) (px_sh L, i, l, r, t) = px_X d 227 (25, [vR 123, vI (px_w32 ((px_shl 1 (i 124 7)) - 1)), vI 1, vJ, vJ, vJ], []) (px_sh L, (px_up i 158 0 0), l, r, t) := ((xs_aldn k227_4 rfl).trans ((xs_get4 k227_5 (px_s123 L) (Nat.le_of_ble_eq_true rfl) (px_r123_54 hr)).trans ((xs_ic k227_8 (by omega)).trans ((xs_ic k227_9 (by omega)).trans ((xs_iast k227_10 (px_s158 L) (by omega) (Nat.le_of_ble_eq_true rfl)).trans ((xs_ic k227_11 (by omega)).trans ((xs_aldn k227_12 rfl).trans ((xs_get4 k227_13 (px_s123 L) (Nat.le_of_ble_eq_true rfl) (px_r123_3 hr)).trans ((xs_bi k227_16 (by omega)).trans ((xs_iald k227_18 (px_s124 L) (by omega)).trans ((xs_ishl k227_19).trans ((xs_ic k227_20 (by omega)).trans ((xs_isub k227_21).trans ((xs_istn k227_22 (Nat.le_of_ble_eq_true rfl) (ls' := [vR 123, vI (px_w32 ((px_shl 1 (i 124 7)) - 1)), vJ, vJ, vJ, vJ]) rfl).trans ((xs_ic k227_23 (by omega)).trans (xs_istn k227_24 (Nat.le_of_ble_eq_true rfl) (ls' := [vR 123, vI (px_w32 ((px_shl 1 (i 124 7)) - 1)), vI 1, vJ, vJ, vJ]) rfl))))))))))))))))
theorem b227_25 (hr : px_hr r) (d : Nat) (i l : MI) (x1 : Int) (x2 : Int) {v3 : PV} (hn3 : px_nl v3) {v4 : PV} (hn4 : px_nl v4) {v5 : PV} (hn5 : px_nl v5) (h1 : (x1 < x2) → 0 ≤ x1 ∧ x1 < 128) (h2 : (¬ (x1 < x2)) → 0 ≤ x2 ∧ x2 < 128) : px_X d 227 (25, [vR 123, vI x1, vI x2, v3, v4, v5], []) (px_sh L, i, l, r, t) = if x1 < x2 then some (some (vI (i 158 x1)), (px_sh L, i, l, r, t)) else px_X d 227 (39, [vR 123, vI x1, vI x2, vI 1, v4, v5], []) (px_sh L, (px_up i 158 x2 (-1)), l, r, t) := ((xs_ildn k227_25 rfl).trans ((xs_ildn k227_26 rfl).trans ((xs_jgt k227_27).trans (px_ite (fun c1 => ((xs_aldn k227_145 rfl).trans ((xs_get4 k227_146 (px_s123 L) (Nat.le_of_ble_eq_true rfl) (px_r123_54 hr)).trans ((xs_ildn k227_149 rfl).trans ((xs_iald k227_150 (px_s158 L) (h1 c1)).trans (xs_ri k227_151 rfl)))))) (fun c1 => ((xs_aldn k227_30 rfl).trans ((xs_get4 k227_31 (px_s123 L) (Nat.le_of_ble_eq_true rfl) (px_r123_54 hr)).trans ((xs_ildn k227_34 rfl).trans ((xs_ic k227_35 (by omega)).trans ((xs_iast k227_36 (px_s158 L) (h2 c1) (Nat.le_of_ble_eq_true rfl)).trans ((xs_ic k227_37 (by omega)).trans (xs_istn k227_38 (Nat.le_of_ble_eq_true rfl) (ls' := [vR 123, vI x1, vI x2, vI 1, v4, v5]) rfl))))))))))))
theorem b227_39 (hr : px_hr r) (d : Nat) (i l : MI) (x1 : Int) (x2 : Int) (x3 : Int) {v4 : PV} (hn4 : px_nl v4) {v5 : PV} (hn5 : px_nl v5) (h1 : (¬ (x2 < x3)) → ((px_and x3 (px_xor x2 (-1))) = 0) → 0 ≤ x3 ∧ x3 < 128) (h2 : (¬ (x2 < x3)) → ((px_and x3 (px_xor x2 (-1))) = 0) → (¬ ((i 157 x3) ≤ 0)) → 0 ≤ (px_and x2 (px_xor x3 (-1))) ∧ (px_and x2 (px_xor x3 (-1))) < 128) (h3 : (¬ (x2 < x3)) → ((px_and x3 (px_xor x2 (-1))) = 0) → (¬ ((i 157 x3) ≤ 0)) → (¬ ((i 158 (px_and x2 (px_xor x3 (-1)))) = (-1))) → 0 ≤ x3 ∧ x3 < 128) (h4 : (¬ (x2 < x3)) → ((px_and x3 (px_xor x2 (-1))) = 0) → (¬ ((i 157 x3) ≤ 0)) → (¬ ((i 158 (px_and x2 (px_xor x3 (-1)))) = (-1))) → 0 ≤ (px_and x2 (px_xor x3 (-1))) ∧ (px_and x2 (px_xor x3 (-1))) < 128) (h5 : (¬ (x2 < x3)) → ((px_and x3 (px_xor x2 (-1))) = 0) → (¬ ((i 157 x3) ≤ 0)) → (¬ ((i 158 (px_and x2 (px_xor x3 (-1)))) = (-1))) → 0 ≤ x2 ∧ x2 < 128) (h6 : (¬ (x2 < x3)) → ((px_and x3 (px_xor x2 (-1))) = 0) → (¬ ((i 157 x3) ≤ 0)) → (¬ ((i 158 (px_and x2 (px_xor x3 (-1)))) = (-1))) → ((i 158 x2) = (-1)) → 0 ≤ x2 ∧ x2 < 128) (h7 : (¬ (x2 < x3)) → ((px_and x3 (px_xor x2 (-1))) = 0) → (¬ ((i 157 x3) ≤ 0)) → (¬ ((i 158 (px_and x2 (px_xor x3 (-1)))) = (-1))) → (¬ ((i 158 x2) = (-1))) → 0 ≤ x2 ∧ x2 < 128) (h8 : (¬ (x2 < x3)) → ((px_and x3 (px_xor x2 (-1))) = 0) → (¬ ((i 157 x3) ≤ 0)) → (¬ ((i 158 (px_and x2 (px_xor x3 (-1)))) = (-1))) → (¬ ((i 158 x2) = (-1))) → ((i 158 x2) ≤ (px_w32 ((i 157 x3) + (i 158 (px_and x2 (px_xor x3 (-1))))))) → 0 ≤ x2 ∧ x2 < 128) (h9 : (¬ (x2 < x3)) → ((px_and x3 (px_xor x2 (-1))) = 0) → (¬ ((i 157 x3) ≤ 0)) → (¬ ((i 158 (px_and x2 (px_xor x3 (-1)))) = (-1))) → (¬ ((i 158 x2) = (-1))) → (¬ ((i 158 x2) ≤ (px_w32 ((i 157 x3) + (i 158 (px_and x2 (px_xor x3 (-1)))))))) → 0 ≤ x2 ∧ x2 < 128) : px_X d 227 (39, [vR 123, vI x1, vI x2, vI x3, v4, v5], []) (px_sh L, i, l, r, t) = if x2 < x3 then px_X d 227 (25, [vR 123, vI x1, vI (px_w32 (x2 + 1)), vI x3, v4, v5], []) (px_sh L, i, l, r, t) else if (px_and x3 (px_xor x2 (-1))) = 0 then if (i 157 x3) ≤ 0 then px_X d 227 (39, [vR 123, vI x1, vI x2, vI (px_w32 (x3 + 1)), vI (px_and x2 (px_xor x3 (-1))), v5], []) (px_sh L, i, l, r, t) else if (i 158 (px_and x2 (px_xor x3 (-1)))) = (-1) then px_X d 227 (39, [vR 123, vI x1, vI x2, vI (px_w32 (x3 + 1)), vI (px_and x2 (px_xor x3 (-1))), v5], []) (px_sh L, i, l, r, t) else if (i 158 x2) = (-1) then px_X d 227 (39, [vR 123, vI x1, vI x2, vI (px_w32 (x3 + 1)), vI (px_and x2 (px_xor x3 (-1))), vI (px_w32 ((i 157 x3) + (i 158 (px_and x2 (px_xor x3 (-1))))))], []) (px_sh L, (px_up i 158 x2 (px_w32 ((i 157 x3) + (i 158 (px_and x2 (px_xor x3 (-1))))))), l, r, t) else if (i 158 x2) ≤ (px_w32 ((i 157 x3) + (i 158 (px_and x2 (px_xor x3 (-1)))))) then px_X d 227 (39, [vR 123, vI x1, vI x2, vI (px_w32 (x3 + 1)), vI (px_and x2 (px_xor x3 (-1))), vI (px_w32 ((i 157 x3) + (i 158 (px_and x2 (px_xor x3 (-1))))))], []) (px_sh L, (px_up i 158 x2 (i 158 x2)), l, r, t) else px_X d 227 (39, [vR 123, vI x1, vI x2, vI (px_w32 (x3 + 1)), vI (px_and x2 (px_xor x3 (-1))), vI (px_w32 ((i 157 x3) + (i 158 (px_and x2 (px_xor x3 (-1))))))], []) (px_sh L, (px_up i 158 x2 (px_w32 ((i 157 x3) + (i 158 (px_and x2 (px_xor x3 (-1))))))), l, r, t) else px_X d 227 (39, [vR 123, vI x1, vI x2, vI (px_w32 (x3 + 1)), vI (px_and x2 (px_xor x3 (-1))), v5], []) (px_sh L, i, l, r, t) := ((xs_ildn k227_39 rfl).trans ((xs_ildn k227_40 rfl).trans ((xs_jgt k227_41).trans (px_ite (fun c1 => ((xs_iinc k227_139 rfl (by omega) (ls' := [vR 123, vI x1, vI (px_w32 (x2 + 1)), vI x3, v4, v5]) rfl).trans (xs_goto k227_142))) (fun c1 => ((xs_ildn k227_44 rfl).trans ((xs_ildn k227_45 rfl).trans ((xs_ic k227_46 (by omega)).trans ((xs_ixor k227_47).trans ((xs_iand k227_48).trans ((xs_ist k227_49 (Nat.le_of_ble_eq_true rfl) (ls' := [vR 123, vI x1, vI x2, vI x3, vI (px_and x2 (px_xor x3 (-1))), v5]) rfl).trans ((xs_ildn k227_51 rfl).trans ((xs_ildn k227_52 rfl).trans ((xs_ic k227_53 (by omega)).trans ((xs_ixor k227_54).trans ((xs_iand k227_55).trans ((xs_ine k227_56).trans (px_ite (fun c2 => ((xs_aldn k227_59 rfl).trans ((xs_get4 k227_60 (px_s123 L) (Nat.le_of_ble_eq_true rfl) (px_r123_53 hr)).trans ((xs_ildn k227_63 rfl).trans ((xs_iald k227_64 (px_s157 L) (h1 c1 c2)).trans ((xs_ile k227_65).trans (px_ite (fun c3 => ((xs_iinc k227_133 rfl (by omega) (ls' := [vR 123, vI x1, vI x2, vI (px_w32 (x3 + 1)), vI (px_and x2 (px_xor x3 (-1))), v5]) rfl).trans (xs_goto k227_136))) (fun c3 => ((xs_aldn k227_68 rfl).trans ((xs_get4 k227_69 (px_s123 L) (Nat.le_of_ble_eq_true rfl) (px_r123_54 hr)).trans ((xs_ild k227_72 rfl).trans ((xs_iald k227_74 (px_s158 L) (h2 c1 c2 c3)).trans ((xs_ic k227_75 (by omega)).trans ((xs_jeq k227_76).trans (px_ite (fun c4 => ((xs_iinc k227_133 rfl (by omega) (ls' := [vR 123, vI x1, vI x2, vI (px_w32 (x3 + 1)), vI (px_and x2 (px_xor x3 (-1))), v5]) rfl).trans (xs_goto k227_136))) (fun c4 => ((xs_aldn k227_79 rfl).trans ((xs_get4 k227_80 (px_s123 L) (Nat.le_of_ble_eq_true rfl) (px_r123_53 hr)).trans ((xs_ildn k227_83 rfl).trans ((xs_iald k227_84 (px_s157 L) (h3 c1 c2 c3 c4)).trans ((xs_aldn k227_85 rfl).trans ((xs_get4 k227_86 (px_s123 L) (Nat.le_of_ble_eq_true rfl) (px_r123_54 hr)).trans ((xs_ild k227_89 rfl).trans ((xs_iald k227_91 (px_s158 L) (h4 c1 c2 c3 c4)).trans ((xs_iadd k227_92).trans ((xs_ist k227_93 (Nat.le_of_ble_eq_true rfl) (ls' := [vR 123, vI x1, vI x2, vI x3, vI (px_and x2 (px_xor x3 (-1))), vI (px_w32 ((i 157 x3) + (i 158 (px_and x2 (px_xor x3 (-1))))))]) rfl).trans ((xs_aldn k227_95 rfl).trans ((xs_get4 k227_96 (px_s123 L) (Nat.le_of_ble_eq_true rfl) (px_r123_54 hr)).trans ((xs_ildn k227_99 rfl).trans ((xs_aldn k227_100 rfl).trans ((xs_get4 k227_101 (px_s123 L) (Nat.le_of_ble_eq_true rfl) (px_r123_54 hr)).trans ((xs_ildn k227_104 rfl).trans ((xs_iald k227_105 (px_s158 L) (h5 c1 c2 c3 c4)).trans ((xs_ic k227_106 (by omega)).trans ((xs_jeq k227_107).trans (px_ite (fun c5 => ((xs_ild k227_121 rfl).trans ((xs_goto k227_123).trans ((xs_iast k227_132 (px_s158 L) (h6 c1 c2 c3 c4 c5) (Nat.le_of_ble_eq_true rfl)).trans ((xs_iinc k227_133 rfl (by omega) (ls' := [vR 123, vI x1, vI x2, vI (px_w32 (x3 + 1)), vI (px_and x2 (px_xor x3 (-1))), vI (px_w32 ((i 157 x3) + (i 158 (px_and x2 (px_xor x3 (-1))))))]) rfl).trans (xs_goto k227_136)))))) (fun c5 => ((xs_ild k227_110 rfl).trans ((xs_aldn k227_112 rfl).trans ((xs_get4 k227_113 (px_s123 L) (Nat.le_of_ble_eq_true rfl) (px_r123_54 hr)).trans ((xs_ildn k227_116 rfl).trans ((xs_iald k227_117 (px_s158 L) (h7 c1 c2 c3 c4 c5)).trans ((xs_jge k227_118).trans (px_ite (fun c6 => ((xs_aldn k227_126 rfl).trans ((xs_get4 k227_127 (px_s123 L) (Nat.le_of_ble_eq_true rfl) (px_r123_54 hr)).trans ((xs_ildn k227_130 rfl).trans ((xs_iald k227_131 (px_s158 L) (h8 c1 c2 c3 c4 c5 c6)).trans ((xs_iast k227_132 (px_s158 L) (h8 c1 c2 c3 c4 c5 c6) (Nat.le_of_ble_eq_true rfl)).trans ((xs_iinc k227_133 rfl (by omega) (ls' := [vR 123, vI x1, vI x2, vI (px_w32 (x3 + 1)), vI (px_and x2 (px_xor x3 (-1))), vI (px_w32 ((i 157 x3) + (i 158 (px_and x2 (px_xor x3 (-1))))))]) rfl).trans (xs_goto k227_136)))))))) (fun c6 => ((xs_ild k227_121 rfl).trans ((xs_goto k227_123).trans ((xs_iast k227_132 (px_s158 L) (h9 c1 c2 c3 c4 c5 c6) (Nat.le_of_ble_eq_true rfl)).trans ((xs_iinc k227_133 rfl (by omega) (ls' := [vR 123, vI x1, vI x2, vI (px_w32 (x3 + 1)), vI (px_and x2 (px_xor x3 (-1))), vI (px_w32 ((i 157 x3) + (i 158 (px_and x2 (px_xor x3 (-1))))))]) rfl).trans (xs_goto k227_136)))))))))))))))))))))))))))))))))))))))))))))))))) (fun c2 => ((xs_iinc k227_133 rfl (by omega) (ls' := [vR 123, vI x1, vI x2, vI (px_w32 (x3 + 1)), vI (px_and x2 (px_xor x3 (-1))), v5]) rfl).trans (xs_goto k227_136)))))))))))))))))))))
-- TideGuestsModel.line ('R123', 'I', 'I', 'I')
theorem b228_0 (hr : px_hr r) (d : Nat) (i l : MI) (x1 : Int) (x2 : Int) (x3 : Int) : px_X (d + 1) 228 (0, [vR 123, vI x1, vI x2, vI x3, vJ], []) (px_sh L, i, l, r, t) = (px_C d 145 [vI x1] (px_sh L, i, l, r, t)).bind (fun q => px_X (d + 1) 228 (px_psh (4, [vR 123, vI x1, vI x2, vI x3, vJ], []) q.1) q.2) := ((xs_ildn k228_0 rfl).trans (xs_callsB k228_1 (as := [vI x1]) rfl rfl (Nat.le_of_ble_eq_true rfl) (Nat.le_of_ble_eq_true rfl) (Nat.le_of_ble_eq_true rfl)))
theorem b228_4 (hr : px_hr r) (d : Nat) (i l : MI) (x1 : Int) (x2 : Int) (x3 : Int) (xs0 : Int) : px_X (d + 1) 228 (4, [vR 123, vI x1, vI x2, vI x3, vJ], [vI xs0]) (px_sh L, i, l, r, t) = if xs0 = 0 then some (some (vI (-1)), (px_sh L, i, l, r, t)) else (px_C d 144 [vR 123, vI x2] (px_sh L, i, l, r, t)).bind (fun q => px_X (d + 1) 228 (px_psh (12, [vR 123, vI x1, vI x2, vI x3, vJ], []) q.1) q.2) := ((xs_ieq k228_4).trans (px_ite (fun c1 => ((xs_ic k228_43 (by omega)).trans (xs_ri k228_44 rfl))) (fun c1 => ((xs_aldn k228_7 rfl).trans ((xs_ildn k228_8 rfl).trans (xs_callvB k228_9 (as := [vI x2]) rfl rfl (Nat.le_of_ble_eq_true rfl) (Nat.le_of_ble_eq_true rfl) (Nat.le_of_ble_eq_true rfl) (px_s123 L) (Nat.le_of_ble_eq_true rfl)))))))
theorem b228_12 (hr : px_hr r) (d : Nat) (i l : MI) (x1 : Int) (x2 : Int) (x3 : Int) (xs0 : Int) : px_X (d + 1) 228 (12, [vR 123, vI x1, vI x2, vI x3, vJ], [vI xs0]) (px_sh L, i, l, r, t) = if xs0 = 0 then some (some (vI (-1)), (px_sh L, i, l, r, t)) else (px_C d 141 [vI x3, vI (-1), vI (px_w32 ((i 124 3) - 1))] (px_sh L, i, l, r, t)).bind (fun q => px_X (d + 1) 228 (px_psh (28, [vR 123, vI x1, vI x2, vI x3, vJ], []) q.1) q.2) := ((xs_ieq k228_12).trans (px_ite (fun c1 => ((xs_ic k228_43 (by omega)).trans (xs_ri k228_44 rfl))) (fun c1 => ((xs_ildn k228_15 rfl).trans ((xs_ic k228_16 (by omega)).trans ((xs_aldn k228_17 rfl).trans ((xs_get4 k228_18 (px_s123 L) (Nat.le_of_ble_eq_true rfl) (px_r123_3 hr)).trans ((xs_ic k228_21 (by omega)).trans ((xs_iald k228_22 (px_s124 L) (by omega)).trans ((xs_ic k228_23 (by omega)).trans ((xs_isub k228_24).trans (xs_callsB k228_25 (as := [vI x3, vI (-1), vI (px_w32 ((i 124 3) - 1))]) rfl rfl (Nat.le_of_ble_eq_true rfl) (Nat.le_of_ble_eq_true rfl) (Nat.le_of_ble_eq_true rfl)))))))))))))
theorem b228_28 (hr : px_hr r) (d : Nat) (i l : MI) (x1 : Int) (x2 : Int) (x3 : Int) (xs0 : Int) (h1 : (¬ (xs0 = 0)) → (¬ ((i 124 8) = 12)) → 0 ≤ (px_w32 (280 + (px_w32 (3 * (i 124 8))))) ∧ (px_w32 (280 + (px_w32 (3 * (i 124 8))))) < 820) (h2 : (¬ (xs0 = 0)) → (¬ ((i 124 8) = 12)) → 0 ≤ (px_w32 ((px_w32 (280 + (px_w32 (3 * (i 124 8))))) + 1)) ∧ (px_w32 ((px_w32 (280 + (px_w32 (3 * (i 124 8))))) + 1)) < 820) (h3 : (¬ (xs0 = 0)) → (¬ ((i 124 8) = 12)) → 0 ≤ (px_w32 ((px_w32 (280 + (px_w32 (3 * (i 124 8))))) + 2)) ∧ (px_w32 ((px_w32 (280 + (px_w32 (3 * (i 124 8))))) + 2)) < 820) : px_X d 228 (28, [vR 123, vI x1, vI x2, vI x3, vJ], [vI xs0]) (px_sh L, i, l, r, t) = if xs0 = 0 then some (some (vI (-1)), (px_sh L, i, l, r, t)) else if (i 124 8) = 12 then some (some (vI (-1)), (px_sh L, i, l, r, t)) else some (some (vI (px_w32 (((px_up (px_up (px_up i 124 (px_w32 (280 + (px_w32 (3 * (i 124 8))))) x1) 124 (px_w32 ((px_w32 (280 + (px_w32 (3 * (i 124 8))))) + 1)) x2) 124 (px_w32 ((px_w32 (280 + (px_w32 (3 * (i 124 8))))) + 2)) x3) 124 8) + 1))), (px_sh L, (px_up (px_up (px_up (px_up i 124 (px_w32 (280 + (px_w32 (3 * (i 124 8))))) x1) 124 (px_w32 ((px_w32 (280 + (px_w32 (3 * (i 124 8))))) + 1)) x2) 124 (px_w32 ((px_w32 (280 + (px_w32 (3 * (i 124 8))))) + 2)) x3) 124 8 (px_w32 (((px_up (px_up (px_up i 124 (px_w32 (280 + (px_w32 (3 * (i 124 8))))) x1) 124 (px_w32 ((px_w32 (280 + (px_w32 (3 * (i 124 8))))) + 1)) x2) 124 (px_w32 ((px_w32 (280 + (px_w32 (3 * (i 124 8))))) + 2)) x3) 124 8) + 1))), l, r, t)) := ((xs_ieq k228_28).trans (px_ite (fun c1 => ((xs_ic k228_43 (by omega)).trans (xs_ri k228_44 rfl))) (fun c1 => ((xs_aldn k228_31 rfl).trans ((xs_get4 k228_32 (px_s123 L) (Nat.le_of_ble_eq_true rfl) (px_r123_3 hr)).trans ((xs_bi k228_35 (by omega)).trans ((xs_iald k228_37 (px_s124 L) (by omega)).trans ((xs_bi k228_38 (by omega)).trans ((xs_jne k228_40).trans (px_ite (fun c2 => ((xs_ic k228_43 (by omega)).trans (xs_ri k228_44 rfl))) (fun c2 => ((xs_si k228_45 (by omega)).trans ((xs_ic k228_48 (by omega)).trans ((xs_aldn k228_49 rfl).trans ((xs_get4 k228_50 (px_s123 L) (Nat.le_of_ble_eq_true rfl) (px_r123_3 hr)).trans ((xs_bi k228_53 (by omega)).trans ((xs_iald k228_55 (px_s124 L) (by omega)).trans ((xs_imul k228_56).trans ((xs_iadd k228_57).trans ((xs_ist k228_58 (Nat.le_of_ble_eq_true rfl) (ls' := [vR 123, vI x1, vI x2, vI x3, vI (px_w32 (280 + (px_w32 (3 * (i 124 8)))))]) rfl).trans ((xs_aldn k228_60 rfl).trans ((xs_get4 k228_61 (px_s123 L) (Nat.le_of_ble_eq_true rfl) (px_r123_3 hr)).trans ((xs_ild k228_64 rfl).trans ((xs_ildn k228_66 rfl).trans ((xs_iast k228_67 (px_s124 L) (h1 c1 c2) (Nat.le_of_ble_eq_true rfl)).trans ((xs_aldn k228_68 rfl).trans ((xs_get4 k228_69 (px_s123 L) (Nat.le_of_ble_eq_true rfl) (px_r123_3 hr)).trans ((xs_ild k228_72 rfl).trans ((xs_ic k228_74 (by omega)).trans ((xs_iadd k228_75).trans ((xs_ildn k228_76 rfl).trans ((xs_iast k228_77 (px_s124 L) (h2 c1 c2) (Nat.le_of_ble_eq_true rfl)).trans ((xs_aldn k228_78 rfl).trans ((xs_get4 k228_79 (px_s123 L) (Nat.le_of_ble_eq_true rfl) (px_r123_3 hr)).trans ((xs_ild k228_82 rfl).trans ((xs_ic k228_84 (by omega)).trans ((xs_iadd k228_85).trans ((xs_ildn k228_86 rfl).trans ((xs_iast k228_87 (px_s124 L) (h3 c1 c2) (Nat.le_of_ble_eq_true rfl)).trans ((xs_aldn k228_88 rfl).trans ((xs_get4 k228_89 (px_s123 L) (Nat.le_of_ble_eq_true rfl) (px_r123_3 hr)).trans ((xs_bi k228_92 (by omega)).trans ((xs_dup2 k228_94 ⟨rfl, rfl⟩).trans ((xs_iald k228_95 (px_s124 L) (by omega)).trans ((xs_ic k228_96 (by omega)).trans ((xs_iadd k228_97).trans ((xs_iast k228_98 (px_s124 L) (by omega) (Nat.le_of_ble_eq_true rfl)).trans ((xs_aldn k228_99 rfl).trans ((xs_get4 k228_100 (px_s123 L) (Nat.le_of_ble_eq_true rfl) (px_r123_3 hr)).trans ((xs_bi k228_103 (by omega)).trans ((xs_iald k228_105 (px_s124 L) (by omega)).trans (xs_ri k228_106 rfl))))))))))))))))))))))))))))))))))))))))))))))))))))
-- TideGuestsModel.isBook ('R123', 'I')
theorem b229_0 (hr : px_hr r) (d : Nat) (i l : MI) (x1 : Int) : px_X d 229 (0, [vR 123, vI x1, vJ, vJ], []) (px_sh L, i, l, r, t) = px_X d 229 (2, [vR 123, vI x1, vI 0, vJ], []) (px_sh L, i, l, r, t) := ((xs_ic k229_0 (by omega)).trans (xs_istn k229_1 (Nat.le_of_ble_eq_true rfl) (ls' := [vR 123, vI x1, vI 0, vJ]) rfl))
theorem b229_2 (hr : px_hr r) (d : Nat) (i l : MI) (x1 : Int) (x2 : Int) {v3 : PV} (hn3 : px_nl v3) (h1 : (¬ ((i 124 8) ≤ x2)) → 0 ≤ (px_w32 ((px_w32 (280 + (px_w32 (3 * x2)))) + 1)) ∧ (px_w32 ((px_w32 (280 + (px_w32 (3 * x2)))) + 1)) < 820) : px_X d 229 (2, [vR 123, vI x1, vI x2, v3], []) (px_sh L, i, l, r, t) = if (i 124 8) ≤ x2 then px_X d 229 (46, [vR 123, vI x1, vI 0, v3], []) (px_sh L, i, l, r, t) else if (px_and (px_shr x1 (i 124 (px_w32 ((px_w32 (280 + (px_w32 (3 * x2)))) + 1)))) 1) = 0 then some (some (vI 0), (px_sh L, i, l, r, t)) else px_X d 229 (2, [vR 123, vI x1, vI (px_w32 (x2 + 1)), vI (i 124 (px_w32 ((px_w32 (280 + (px_w32 (3 * x2)))) + 1)))], []) (px_sh L, i, l, r, t) := ((xs_ildn k229_2 rfl).trans ((xs_aldn k229_3 rfl).trans ((xs_get4 k229_4 (px_s123 L) (Nat.le_of_ble_eq_true rfl) (px_r123_3 hr)).trans ((xs_bi k229_7 (by omega)).trans ((xs_iald k229_9 (px_s124 L) (by omega)).trans ((xs_jge k229_10).trans (px_ite (fun c1 => ((xs_ic k229_44 (by omega)).trans (xs_istn k229_45 (Nat.le_of_ble_eq_true rfl) (ls' := [vR 123, vI x1, vI 0, v3]) rfl))) (fun c1 => ((xs_aldn k229_13 rfl).trans ((xs_get4 k229_14 (px_s123 L) (Nat.le_of_ble_eq_true rfl) (px_r123_3 hr)).trans ((xs_si k229_17 (by omega)).trans ((xs_ic k229_20 (by omega)).trans ((xs_ildn k229_21 rfl).trans ((xs_imul k229_22).trans ((xs_iadd k229_23).trans ((xs_ic k229_24 (by omega)).trans ((xs_iadd k229_25).trans ((xs_iald k229_26 (px_s124 L) (h1 c1)).trans ((xs_istn k229_27 (Nat.le_of_ble_eq_true rfl) (ls' := [vR 123, vI x1, vI x2, vI (i 124 (px_w32 ((px_w32 (280 + (px_w32 (3 * x2)))) + 1)))]) rfl).trans ((xs_ildn k229_28 rfl).trans ((xs_ildn k229_29 rfl).trans ((xs_ishr k229_30).trans ((xs_ic k229_31 (by omega)).trans ((xs_iand k229_32).trans ((xs_ine k229_33).trans (px_ite (fun c2 => ((xs_ic k229_36 (by omega)).trans (xs_rz k229_37 rfl (by omega)))) (fun c2 => ((xs_iinc k229_38 rfl (by omega) (ls' := [vR 123, vI x1, vI (px_w32 (x2 + 1)), vI (i 124 (px_w32 ((px_w32 (280 + (px_w32 (3 * x2)))) + 1)))]) rfl).trans (xs_goto k229_41)))))))))))))))))))))))))))))
theorem b229_46 (hr : px_hr r) (d : Nat) (i l : MI) (x1 : Int) (x2 : Int) {v3 : PV} (hn3 : px_nl v3) (h1 : (¬ ((i 124 8) ≤ x2)) → 0 ≤ (px_w32 (280 + (px_w32 (3 * x2)))) ∧ (px_w32 (280 + (px_w32 (3 * x2)))) < 820) : px_X (d + 1) 229 (46, [vR 123, vI x1, vI x2, v3], []) (px_sh L, i, l, r, t) = if (i 124 8) ≤ x2 then some (some (vI 1), (px_sh L, i, l, r, t)) else (px_C d 197 [vR 123, vI x1, vI (i 124 (px_w32 (280 + (px_w32 (3 * x2)))))] (px_sh L, i, l, r, t)).bind (fun q => px_X (d + 1) 229 (px_psh (74, [vR 123, vI x1, vI x2, v3], []) q.1) q.2) := ((xs_ildn k229_46 rfl).trans ((xs_aldn k229_47 rfl).trans ((xs_get4 k229_48 (px_s123 L) (Nat.le_of_ble_eq_true rfl) (px_r123_3 hr)).trans ((xs_bi k229_51 (by omega)).trans ((xs_iald k229_53 (px_s124 L) (by omega)).trans ((xs_jge k229_54).trans (px_ite (fun c1 => ((xs_ic k229_118 (by omega)).trans (xs_rz k229_119 rfl (by omega)))) (fun c1 => ((xs_aldn k229_57 rfl).trans ((xs_ildn k229_58 rfl).trans ((xs_aldn k229_59 rfl).trans ((xs_get4 k229_60 (px_s123 L) (Nat.le_of_ble_eq_true rfl) (px_r123_3 hr)).trans ((xs_si k229_63 (by omega)).trans ((xs_ic k229_66 (by omega)).trans ((xs_ildn k229_67 rfl).trans ((xs_imul k229_68).trans ((xs_iadd k229_69).trans ((xs_iald k229_70 (px_s124 L) (h1 c1)).trans (xs_callvB k229_71 (as := [vI x1, vI (i 124 (px_w32 (280 + (px_w32 (3 * x2)))))]) rfl rfl (Nat.le_of_ble_eq_true rfl) (Nat.le_of_ble_eq_true rfl) (Nat.le_of_ble_eq_true rfl) (px_s123 L) (Nat.le_of_ble_eq_true rfl))))))))))))))))))))
theorem b229_74 (hr : px_hr r) (d : Nat) (i l : MI) (x1 : Int) (x2 : Int) {v3 : PV} (hn3 : px_nl v3) (h1 : 0 ≤ (px_w32 ((px_w32 (280 + (px_w32 (3 * x2)))) + 1)) ∧ (px_w32 ((px_w32 (280 + (px_w32 (3 * x2)))) + 1)) < 820) (h2 : 0 ≤ (i 124 (px_w32 ((px_w32 (280 + (px_w32 (3 * x2)))) + 1))) ∧ (i 124 (px_w32 ((px_w32 (280 + (px_w32 (3 * x2)))) + 1))) < 10) (h3 : 0 ≤ (px_w32 ((px_w32 (280 + (px_w32 (3 * x2)))) + 2)) ∧ (px_w32 ((px_w32 (280 + (px_w32 (3 * x2)))) + 2)) < 820) : px_X d 229 (74, [vR 123, vI x1, vI x2, v3], []) (px_sh L, i, l, r, t) = if (i 142 (i 124 (px_w32 ((px_w32 (280 + (px_w32 (3 * x2)))) + 1)))) = (i 124 (px_w32 ((px_w32 (280 + (px_w32 (3 * x2)))) + 2))) then px_X d 229 (46, [vR 123, vI x1, vI (px_w32 (x2 + 1)), v3], []) (px_sh L, i, l, r, t) else some (some (vI 0), (px_sh L, i, l, r, t)) := ((xs_aldn k229_74 rfl).trans ((xs_get4 k229_75 (px_s123 L) (Nat.le_of_ble_eq_true rfl) (px_r123_38 hr)).trans ((xs_aldn k229_78 rfl).trans ((xs_get4 k229_79 (px_s123 L) (Nat.le_of_ble_eq_true rfl) (px_r123_3 hr)).trans ((xs_si k229_82 (by omega)).trans ((xs_ic k229_85 (by omega)).trans ((xs_ildn k229_86 rfl).trans ((xs_imul k229_87).trans ((xs_iadd k229_88).trans ((xs_ic k229_89 (by omega)).trans ((xs_iadd k229_90).trans ((xs_iald k229_91 (px_s124 L) (h1)).trans ((xs_iald k229_92 (px_s142 L) (h2)).trans ((xs_aldn k229_93 rfl).trans ((xs_get4 k229_94 (px_s123 L) (Nat.le_of_ble_eq_true rfl) (px_r123_3 hr)).trans ((xs_si k229_97 (by omega)).trans ((xs_ic k229_100 (by omega)).trans ((xs_ildn k229_101 rfl).trans ((xs_imul k229_102).trans ((xs_iadd k229_103).trans ((xs_ic k229_104 (by omega)).trans ((xs_iadd k229_105).trans ((xs_iald k229_106 (px_s124 L) (h3)).trans ((xs_jeq k229_107).trans (px_ite (fun c1 => ((xs_iinc k229_112 rfl (by omega) (ls' := [vR 123, vI x1, vI (px_w32 (x2 + 1)), v3]) rfl).trans (xs_goto k229_115))) (fun c1 => ((xs_ic k229_110 (by omega)).trans (xs_rz k229_111 rfl (by omega)))))))))))))))))))))))))))))
-- TideGuestsModel.there ('R123', 'I')
theorem b230_0 (hr : px_hr r) (d : Nat) (i l : MI) (x1 : Int) : px_X (d + 1) 230 (0, [vR 123, vI x1, vJ, vJ, vJ, vJ, vJ], []) (px_sh L, i, l, r, t) = (px_C d 141 [vI x1, vI 0, vI 3] (px_sh L, i, l, r, t)).bind (fun q => px_X (d + 1) 230 (px_psh (6, [vR 123, vI x1, vJ, vJ, vJ, vJ, vJ], []) q.1) q.2) := ((xs_ildn k230_0 rfl).trans ((xs_ic k230_1 (by omega)).trans ((xs_ic k230_2 (by omega)).trans (xs_callsB k230_3 (as := [vI x1, vI 0, vI 3]) rfl rfl (Nat.le_of_ble_eq_true rfl) (Nat.le_of_ble_eq_true rfl) (Nat.le_of_ble_eq_true rfl)))))
theorem b230_6 (hr : px_hr r) (d : Nat) (i l : MI) (x1 : Int) (xs0 : Int) : px_X d 230 (6, [vR 123, vI x1, vJ, vJ, vJ, vJ, vJ], [vI xs0]) (px_sh L, i, l, r, t) = if xs0 = 0 then some (some (vI (-1)), (px_sh L, i, l, r, t)) else px_X d 230 (24, [vR 123, vI x1, vI 0, vI 0, vI 0, vI 0, vI 0], []) (px_sh L, i, l, r, t) := ((xs_ine k230_6).trans (px_ite (fun c1 => ((xs_ic k230_9 (by omega)).trans (xs_ri k230_10 rfl))) (fun c1 => ((xs_ic k230_11 (by omega)).trans ((xs_istn k230_12 (Nat.le_of_ble_eq_true rfl) (ls' := [vR 123, vI x1, vI 0, vJ, vJ, vJ, vJ]) rfl).trans ((xs_ic k230_13 (by omega)).trans ((xs_istn k230_14 (Nat.le_of_ble_eq_true rfl) (ls' := [vR 123, vI x1, vI 0, vI 0, vJ, vJ, vJ]) rfl).trans ((xs_ic k230_15 (by omega)).trans ((xs_ist k230_16 (Nat.le_of_ble_eq_true rfl) (ls' := [vR 123, vI x1, vI 0, vI 0, vI 0, vJ, vJ]) rfl).trans ((xs_ic k230_18 (by omega)).trans ((xs_ist k230_19 (Nat.le_of_ble_eq_true rfl) (ls' := [vR 123, vI x1, vI 0, vI 0, vI 0, vI 0, vJ]) rfl).trans ((xs_ic k230_21 (by omega)).trans (xs_ist k230_22 (Nat.le_of_ble_eq_true rfl) (ls' := [vR 123, vI x1, vI 0, vI 0, vI 0, vI 0, vI 0]) rfl)))))))))))))
theorem b230_24 (hr : px_hr r) (d : Nat) (i l : MI) (x1 : Int) (x2 : Int) (x3 : Int) (x4 : Int) (x5 : Int) (x6 : Int) : px_X (d + 1) 230 (24, [vR 123, vI x1, vI x2, vI x3, vI x4, vI x5, vI x6], []) (px_sh L, i, l, r, t) = if (px_shl 1 (i 124 4)) ≤ x6 then if x1 = 0 then some (some (vI x2), (px_sh L, i, l, r, t)) else if x1 = 1 then some (some (vI x3), (px_sh L, i, l, r, t)) else if x1 = 2 then some (some (vI x4), (px_sh L, i, l, r, t)) else some (some (vI x5), (px_sh L, i, l, r, t)) else (px_C d 229 [vR 123, vI x6] (px_sh L, i, l, r, t)).bind (fun q => px_X (d + 1) 230 (px_psh (43, [vR 123, vI x1, vI x2, vI x3, vI x4, vI x5, vI x6], []) q.1) q.2) := ((xs_ild k230_24 rfl).trans ((xs_ic k230_26 (by omega)).trans ((xs_aldn k230_27 rfl).trans ((xs_get4 k230_28 (px_s123 L) (Nat.le_of_ble_eq_true rfl) (px_r123_3 hr)).trans ((xs_ic k230_31 (by omega)).trans ((xs_iald k230_32 (px_s124 L) (by omega)).trans ((xs_ishl k230_33).trans ((xs_jge k230_34).trans (px_ite (fun c1 => ((xs_ildn k230_89 rfl).trans ((xs_ine k230_90).trans (px_ite (fun c2 => ((xs_ildn k230_93 rfl).trans ((xs_goto k230_94).trans (xs_ri k230_118 rfl)))) (fun c2 => ((xs_ildn k230_97 rfl).trans ((xs_ic k230_98 (by omega)).trans ((xs_jne k230_99).trans (px_ite (fun c3 => ((xs_ildn k230_102 rfl).trans ((xs_goto k230_103).trans (xs_ri k230_118 rfl)))) (fun c3 => ((xs_ildn k230_106 rfl).trans ((xs_ic k230_107 (by omega)).trans ((xs_jne k230_108).trans (px_ite (fun c4 => ((xs_ild k230_111 rfl).trans ((xs_goto k230_113).trans (xs_ri k230_118 rfl)))) (fun c4 => ((xs_ild k230_116 rfl).trans (xs_ri k230_118 rfl))))))))))))))))) (fun c1 => ((xs_aldn k230_37 rfl).trans ((xs_ild k230_38 rfl).trans (xs_callvB k230_40 (as := [vI x6]) rfl rfl (Nat.le_of_ble_eq_true rfl) (Nat.le_of_ble_eq_true rfl) (Nat.le_of_ble_eq_true rfl) (px_s123 L) (Nat.le_of_ble_eq_true rfl))))))))))))))
theorem b230_43 (hr : px_hr r) (d : Nat) (i l : MI) (x1 : Int) (x2 : Int) (x3 : Int) (x4 : Int) (x5 : Int) (x6 : Int) (xs0 : Int) : px_X d 230 (43, [vR 123, vI x1, vI x2, vI x3, vI x4, vI x5, vI x6], [vI xs0]) (px_sh L, i, l, r, t) = if xs0 = 0 then px_X d 230 (24, [vR 123, vI x1, vI x2, vI x3, vI x4, vI x5, vI (px_w32 (x6 + 1))], []) (px_sh L, i, l, r, t) else if x2 = 0 then px_X d 230 (56, [vR 123, vI x1, vI x2, vI x3, vI x4, vI x5, vI x6], [vI x6]) (px_sh L, i, l, r, t) else px_X d 230 (56, [vR 123, vI x1, vI x2, vI x3, vI x4, vI x5, vI x6], [vI x3]) (px_sh L, i, l, r, t) := ((xs_ieq k230_43).trans (px_ite (fun c1 => ((xs_iinc k230_83 rfl (by omega) (ls' := [vR 123, vI x1, vI x2, vI x3, vI x4, vI x5, vI (px_w32 (x6 + 1))]) rfl).trans (xs_goto k230_86))) (fun c1 => ((xs_ildn k230_46 rfl).trans ((xs_ine k230_47).trans (px_ite (fun c2 => ((xs_ild k230_50 rfl).trans (xs_goto k230_52))) (fun c2 => (xs_ildn k230_55 rfl))))))))
theorem b230_56 (hr : px_hr r) (d : Nat) (i l : MI) (x1 : Int) (x2 : Int) (x3 : Int) (x4 : Int) (x5 : Int) (x6 : Int) (xs0 : Int) : px_X d 230 (56, [vR 123, vI x1, vI x2, vI x3, vI x4, vI x5, vI x6], [vI xs0]) (px_sh L, i, l, r, t) = if x2 = 0 then px_X d 230 (71, [vR 123, vI x1, vI x2, vI xs0, vI x4, vI x5, vI x6], [vI x6]) (px_sh L, i, l, r, t) else px_X d 230 (71, [vR 123, vI x1, vI x2, vI xs0, vI x4, vI x5, vI x6], [vI (px_and x4 x6)]) (px_sh L, i, l, r, t) := ((xs_istn k230_56 (Nat.le_of_ble_eq_true rfl) (ls' := [vR 123, vI x1, vI x2, vI xs0, vI x4, vI x5, vI x6]) rfl).trans ((xs_ildn k230_57 rfl).trans ((xs_ine k230_58).trans (px_ite (fun c1 => ((xs_ild k230_61 rfl).trans (xs_goto k230_63))) (fun c1 => ((xs_ild k230_66 rfl).trans ((xs_ild k230_68 rfl).trans (xs_iand k230_70))))))))
theorem b230_71 (hr : px_hr r) (d : Nat) (i l : MI) (x1 : Int) (x2 : Int) (x3 : Int) (x4 : Int) (x5 : Int) (x6 : Int) (xs0 : Int) : px_X d 230 (71, [vR 123, vI x1, vI x2, vI x3, vI x4, vI x5, vI x6], [vI xs0]) (px_sh L, i, l, r, t) = px_X d 230 (24, [vR 123, vI x1, vI (px_w32 (x2 + 1)), vI x3, vI xs0, vI (px_or x5 x6), vI (px_w32 (x6 + 1))], []) (px_sh L, i, l, r, t) := ((xs_ist k230_71 (Nat.le_of_ble_eq_true rfl) (ls' := [vR 123, vI x1, vI x2, vI x3, vI xs0, vI x5, vI x6]) rfl).trans ((xs_ild k230_73 rfl).trans ((xs_ild k230_75 rfl).trans ((xs_ior k230_77).trans ((xs_ist k230_78 (Nat.le_of_ble_eq_true rfl) (ls' := [vR 123, vI x1, vI x2, vI x3, vI xs0, vI (px_or x5 x6), vI x6]) rfl).trans ((xs_iinc k230_80 rfl (by omega) (ls' := [vR 123, vI x1, vI (px_w32 (x2 + 1)), vI x3, vI xs0, vI (px_or x5 x6), vI x6]) rfl).trans ((xs_iinc k230_83 rfl (by omega) (ls' := [vR 123, vI x1, vI (px_w32 (x2 + 1)), vI x3, vI xs0, vI (px_or x5 x6), vI (px_w32 (x6 + 1))]) rfl).trans (xs_goto k230_86))))))))
-- TideGuestsModel.draw ('R123', 'I')
theorem b231_0 (hr : px_hr r) (d : Nat) (i l : MI) (x1 : Int) (h1 : ¬ x1 = 0) : px_X d 231 (0, [vR 123, vI x1, vJ], []) (px_sh L, i, l, r, t) = some (some (vI (Int.tmod (i 123 55) x1)), (px_sh L, (px_up i 123 55 (Int.tmod (px_w32 ((px_w32 ((i 123 55) * 143)) + 41)) 30103)), l, r, t)) := ((xs_aldn k231_0 rfl).trans ((xs_get0 k231_1 (px_s123 L) (Nat.le_of_ble_eq_true rfl)).trans ((xs_ildn k231_4 rfl).trans ((xs_irem k231_5 (h1)).trans ((xs_istn k231_6 (Nat.le_of_ble_eq_true rfl) (ls' := [vR 123, vI x1, vI (Int.tmod (i 123 55) x1)]) rfl).trans ((xs_aldn k231_7 rfl).trans ((xs_aldn k231_8 rfl).trans ((xs_get0 k231_9 (px_s123 L) (Nat.le_of_ble_eq_true rfl)).trans ((xs_si k231_12 (by omega)).trans ((xs_imul k231_15).trans ((xs_bi k231_16 (by omega)).trans ((xs_iadd k231_18).trans ((xs_si k231_19 (by omega)).trans ((xs_irem k231_22 (by omega)).trans ((xs_put0 k231_23 (Or.inl rfl) (px_s123 L) (Nat.le_of_ble_eq_true rfl)).trans ((xs_ildn k231_26 rfl).trans (xs_ri k231_27 rfl)))))))))))))))))
-- TideGuestsModel.shift ('R123', 'I', 'I')
theorem b232_0 (hr : px_hr r) (d : Nat) (i l : MI) (x1 : Int) (x2 : Int) : px_X (d + 1) 232 (0, [vR 123, vI x1, vI x2, vJ, vJ, vJ], []) (px_sh L, i, l, r, t) = (px_C d 141 [vI x1, vI 0, vI 9999] (px_sh L, i, l, r, t)).bind (fun q => px_X (d + 1) 232 (px_psh (8, [vR 123, vI x1, vI x2, vJ, vJ, vJ], []) q.1) q.2) := ((xs_ildn k232_0 rfl).trans ((xs_ic k232_1 (by omega)).trans ((xs_si k232_2 (by omega)).trans (xs_callsB k232_5 (as := [vI x1, vI 0, vI 9999]) rfl rfl (Nat.le_of_ble_eq_true rfl) (Nat.le_of_ble_eq_true rfl) (Nat.le_of_ble_eq_true rfl)))))
theorem b232_8 (hr : px_hr r) (d : Nat) (i l : MI) (x1 : Int) (x2 : Int) (xs0 : Int) : px_X (d + 1) 232 (8, [vR 123, vI x1, vI x2, vJ, vJ, vJ], [vI xs0]) (px_sh L, i, l, r, t) = if xs0 = 0 then some (some (vI (-1)), (px_sh L, i, l, r, t)) else (px_C d 141 [vI x2, vI 1, vI 60] (px_sh L, i, l, r, t)).bind (fun q => px_X (d + 1) 232 (px_psh (18, [vR 123, vI x1, vI x2, vJ, vJ, vJ], []) q.1) q.2) := ((xs_ieq k232_8).trans (px_ite (fun c1 => ((xs_ic k232_21 (by omega)).trans (xs_ri k232_22 rfl))) (fun c1 => ((xs_ildn k232_11 rfl).trans ((xs_ic k232_12 (by omega)).trans ((xs_bi k232_13 (by omega)).trans (xs_callsB k232_15 (as := [vI x2, vI 1, vI 60]) rfl rfl (Nat.le_of_ble_eq_true rfl) (Nat.le_of_ble_eq_true rfl) (Nat.le_of_ble_eq_true rfl))))))))
theorem b232_18 (hr : px_hr r) (d : Nat) (i l : MI) (x1 : Int) (x2 : Int) (xs0 : Int) : px_X d 232 (18, [vR 123, vI x1, vI x2, vJ, vJ, vJ], [vI xs0]) (px_sh L, i, l, r, t) = if xs0 = 0 then some (some (vI (-1)), (px_sh L, i, l, r, t)) else px_X d 232 (35, [vR 123, vI x1, vI x2, vI 0, vJ, vJ], []) (px_sh L, (px_up i 123 55 (px_w32 ((px_w32 (x1 * 7)) + 3))), l, r, t) := ((xs_ine k232_18).trans (px_ite (fun c1 => ((xs_ic k232_21 (by omega)).trans (xs_ri k232_22 rfl))) (fun c1 => ((xs_aldn k232_23 rfl).trans ((xs_ildn k232_24 rfl).trans ((xs_bi k232_25 (by omega)).trans ((xs_imul k232_27).trans ((xs_ic k232_28 (by omega)).trans ((xs_iadd k232_29).trans ((xs_put0 k232_30 (Or.inl rfl) (px_s123 L) (Nat.le_of_ble_eq_true rfl)).trans ((xs_ic k232_33 (by omega)).trans (xs_istn k232_34 (Nat.le_of_ble_eq_true rfl) (ls' := [vR 123, vI x1, vI x2, vI 0, vJ, vJ]) rfl))))))))))))
theorem b232_35 (hr : px_hr r) (d : Nat) (i l : MI) (x1 : Int) (x2 : Int) (x3 : Int) {v4 : PV} (hn4 : px_nl v4) {v5 : PV} (hn5 : px_nl v5) : px_X (d + 1) 232 (35, [vR 123, vI x1, vI x2, vI x3, v4, v5], []) (px_sh L, i, l, r, t) = if x2 ≤ x3 then px_X (d + 1) 232 (118, [vR 123, vI x1, vI x2, vI 0, vI 0, v5], []) (px_sh L, i, l, r, t) else (px_C d 231 [vR 123, vI (i 123 2)] (px_sh L, i, l, r, t)).bind (fun q => px_X (d + 1) 232 (px_psh (48, [vR 123, vI x1, vI x2, vI x3, v4, v5], []) q.1) q.2) := ((xs_ildn k232_35 rfl).trans ((xs_ildn k232_36 rfl).trans ((xs_jge k232_37).trans (px_ite (fun c1 => ((xs_ic k232_113 (by omega)).trans ((xs_istn k232_114 (Nat.le_of_ble_eq_true rfl) (ls' := [vR 123, vI x1, vI x2, vI 0, v4, v5]) rfl).trans ((xs_ic k232_115 (by omega)).trans (xs_ist k232_116 (Nat.le_of_ble_eq_true rfl) (ls' := [vR 123, vI x1, vI x2, vI 0, vI 0, v5]) rfl))))) (fun c1 => ((xs_aldn k232_40 rfl).trans ((xs_aldn k232_41 rfl).trans ((xs_get0 k232_42 (px_s123 L) (Nat.le_of_ble_eq_true rfl)).trans (xs_callvB k232_45 (as := [vI (i 123 2)]) rfl rfl (Nat.le_of_ble_eq_true rfl) (Nat.le_of_ble_eq_true rfl) (Nat.le_of_ble_eq_true rfl) (px_s123 L) (Nat.le_of_ble_eq_true rfl))))))))))
theorem b232_48 (hr : px_hr r) (d : Nat) (i l : MI) (x1 : Int) (x2 : Int) (x3 : Int) {v4 : PV} (hn4 : px_nl v4) {v5 : PV} (hn5 : px_nl v5) (xs0 : Int) (h1 : 0 ≤ (px_w32 (20 + (px_w32 (2 * xs0)))) ∧ (px_w32 (20 + (px_w32 (2 * xs0)))) < 820) : px_X (d + 1) 232 (48, [vR 123, vI x1, vI x2, vI x3, v4, v5], [vI xs0]) (px_sh L, i, l, r, t) = (px_C d 231 [vR 123, vI 3] (px_sh L, i, l, r, t)).bind (fun q => px_X (d + 1) 232 (px_psh (67, [vR 123, vI x1, vI x2, vI x3, vI xs0, v5], [vI (i 124 (px_w32 (20 + (px_w32 (2 * xs0)))))]) q.1) q.2) := ((xs_ist k232_48 (Nat.le_of_ble_eq_true rfl) (ls' := [vR 123, vI x1, vI x2, vI x3, vI xs0, v5]) rfl).trans ((xs_aldn k232_50 rfl).trans ((xs_get4 k232_51 (px_s123 L) (Nat.le_of_ble_eq_true rfl) (px_r123_3 hr)).trans ((xs_bi k232_54 (by omega)).trans ((xs_ic k232_56 (by omega)).trans ((xs_ild k232_57 rfl).trans ((xs_imul k232_59).trans ((xs_iadd k232_60).trans ((xs_iald k232_61 (px_s124 L) (h1)).trans ((xs_aldn k232_62 rfl).trans ((xs_ic k232_63 (by omega)).trans (xs_callvB k232_64 (as := [vI 3]) rfl rfl (Nat.le_of_ble_eq_true rfl) (Nat.le_of_ble_eq_true rfl) (Nat.le_of_ble_eq_true rfl) (px_s123 L) (Nat.le_of_ble_eq_true rfl)))))))))))))
theorem b232_67 (hr : px_hr r) (d : Nat) (i l : MI) (x1 : Int) (x2 : Int) (x3 : Int) (x4 : Int) {v5 : PV} (hn5 : px_nl v5) (xs0 : Int) (xs1 : Int) (h1 : (0 ≤ (px_w32 ((px_w32 (xs1 + xs0)) - 1))) → ((px_w32 ((px_w32 (xs1 + xs0)) - 1)) ≤ 99) → 0 ≤ (px_w32 (20 + (px_w32 (2 * x4)))) ∧ (px_w32 (20 + (px_w32 (2 * x4)))) < 820) (h2 : (0 ≤ (px_w32 ((px_w32 (xs1 + xs0)) - 1))) → (¬ ((px_w32 ((px_w32 (xs1 + xs0)) - 1)) ≤ 99)) → 0 ≤ (px_w32 (20 + (px_w32 (2 * x4)))) ∧ (px_w32 (20 + (px_w32 (2 * x4)))) < 820) (h3 : (¬ (0 ≤ (px_w32 ((px_w32 (xs1 + xs0)) - 1)))) → 0 ≤ (px_w32 (20 + (px_w32 (2 * x4)))) ∧ (px_w32 (20 + (px_w32 (2 * x4)))) < 820) : px_X d 232 (67, [vR 123, vI x1, vI x2, vI x3, vI x4, v5], [vI xs0, vI xs1]) (px_sh L, i, l, r, t) = if 0 ≤ (px_w32 ((px_w32 (xs1 + xs0)) - 1)) then if (px_w32 ((px_w32 (xs1 + xs0)) - 1)) ≤ 99 then px_X d 232 (35, [vR 123, vI x1, vI x2, vI (px_w32 (x3 + 1)), vI x4, vI (px_w32 ((px_w32 (xs1 + xs0)) - 1))], []) (px_sh L, (px_up i 124 (px_w32 (20 + (px_w32 (2 * x4)))) (px_w32 ((px_w32 (xs1 + xs0)) - 1))), l, r, t) else px_X d 232 (35, [vR 123, vI x1, vI x2, vI (px_w32 (x3 + 1)), vI x4, vI (px_w32 ((px_w32 (xs1 + xs0)) - 1))], []) (px_sh L, (px_up i 124 (px_w32 (20 + (px_w32 (2 * x4)))) 99), l, r, t) else px_X d 232 (35, [vR 123, vI x1, vI x2, vI (px_w32 (x3 + 1)), vI x4, vI (px_w32 ((px_w32 (xs1 + xs0)) - 1))], []) (px_sh L, (px_up i 124 (px_w32 (20 + (px_w32 (2 * x4)))) 0), l, r, t) := ((xs_iadd k232_67).trans ((xs_ic k232_68 (by omega)).trans ((xs_isub k232_69).trans ((xs_ist k232_70 (Nat.le_of_ble_eq_true rfl) (ls' := [vR 123, vI x1, vI x2, vI x3, vI x4, vI (px_w32 ((px_w32 (xs1 + xs0)) - 1))]) rfl).trans ((xs_aldn k232_72 rfl).trans ((xs_get4 k232_73 (px_s123 L) (Nat.le_of_ble_eq_true rfl) (px_r123_3 hr)).trans ((xs_bi k232_76 (by omega)).trans ((xs_ic k232_78 (by omega)).trans ((xs_ild k232_79 rfl).trans ((xs_imul k232_81).trans ((xs_iadd k232_82).trans ((xs_ild k232_83 rfl).trans ((xs_ige k232_85).trans (px_ite (fun c1 => ((xs_ild k232_92 rfl).trans ((xs_bi k232_94 (by omega)).trans ((xs_jle k232_96).trans (px_ite (fun c2 => ((xs_ild k232_104 rfl).trans ((xs_iast k232_106 (px_s124 L) (h1 c1 c2) (Nat.le_of_ble_eq_true rfl)).trans ((xs_iinc k232_107 rfl (by omega) (ls' := [vR 123, vI x1, vI x2, vI (px_w32 (x3 + 1)), vI x4, vI (px_w32 ((px_w32 (xs1 + xs0)) - 1))]) rfl).trans (xs_goto k232_110))))) (fun c2 => ((xs_bi k232_99 (by omega)).trans ((xs_goto k232_101).trans ((xs_iast k232_106 (px_s124 L) (h2 c1 c2) (Nat.le_of_ble_eq_true rfl)).trans ((xs_iinc k232_107 rfl (by omega) (ls' := [vR 123, vI x1, vI x2, vI (px_w32 (x3 + 1)), vI x4, vI (px_w32 ((px_w32 (xs1 + xs0)) - 1))]) rfl).trans (xs_goto k232_110))))))))))) (fun c1 => ((xs_ic k232_88 (by omega)).trans ((xs_goto k232_89).trans ((xs_iast k232_106 (px_s124 L) (h3 c1) (Nat.le_of_ble_eq_true rfl)).trans ((xs_iinc k232_107 rfl (by omega) (ls' := [vR 123, vI x1, vI x2, vI (px_w32 (x3 + 1)), vI x4, vI (px_w32 ((px_w32 (xs1 + xs0)) - 1))]) rfl).trans (xs_goto k232_110))))))))))))))))))))
theorem b232_118 (hr : px_hr r) (d : Nat) (i l : MI) (x1 : Int) (x2 : Int) (x3 : Int) (x4 : Int) {v5 : PV} (hn5 : px_nl v5) (h1 : (¬ ((i 123 2) ≤ x4)) → 0 ≤ (px_w32 (20 + (px_w32 (2 * x4)))) ∧ (px_w32 (20 + (px_w32 (2 * x4)))) < 820) : px_X d 232 (118, [vR 123, vI x1, vI x2, vI x3, vI x4, v5], []) (px_sh L, i, l, r, t) = if (i 123 2) ≤ x4 then some (some (vI x3), (px_sh L, i, l, r, t)) else px_X d 232 (118, [vR 123, vI x1, vI x2, vI (px_w32 (x3 + (i 124 (px_w32 (20 + (px_w32 (2 * x4))))))), vI (px_w32 (x4 + 1)), v5], []) (px_sh L, i, l, r, t) := ((xs_ild k232_118 rfl).trans ((xs_aldn k232_120 rfl).trans ((xs_get0 k232_121 (px_s123 L) (Nat.le_of_ble_eq_true rfl)).trans ((xs_jge k232_124).trans (px_ite (fun c1 => ((xs_ildn k232_148 rfl).trans (xs_ri k232_149 rfl))) (fun c1 => ((xs_ildn k232_127 rfl).trans ((xs_aldn k232_128 rfl).trans ((xs_get4 k232_129 (px_s123 L) (Nat.le_of_ble_eq_true rfl) (px_r123_3 hr)).trans ((xs_bi k232_132 (by omega)).trans ((xs_ic k232_134 (by omega)).trans ((xs_ild k232_135 rfl).trans ((xs_imul k232_137).trans ((xs_iadd k232_138).trans ((xs_iald k232_139 (px_s124 L) (h1 c1)).trans ((xs_iadd k232_140).trans ((xs_istn k232_141 (Nat.le_of_ble_eq_true rfl) (ls' := [vR 123, vI x1, vI x2, vI (px_w32 (x3 + (i 124 (px_w32 (20 + (px_w32 (2 * x4))))))), vI x4, v5]) rfl).trans ((xs_iinc k232_142 rfl (by omega) (ls' := [vR 123, vI x1, vI x2, vI (px_w32 (x3 + (i 124 (px_w32 (20 + (px_w32 (2 * x4))))))), vI (px_w32 (x4 + 1)), v5]) rfl).trans (xs_goto k232_145)))))))))))))))))))
-- TideGuestsModel.image ('R123',)
theorem b233_0 (hr : px_hr r) (d : Nat) (i l : MI)  : px_X (d + 1) 233 (0, [vR 123], []) (px_sh L, i, l, r, t) = (px_C d 142 [vR 123, vI 1] (px_sh L, i, l, r, t)).bind (fun q => px_X (d + 1) 233 (px_psh (5, [vR 123], []) q.1) q.2) := ((xs_aldn k233_0 rfl).trans ((xs_ic k233_1 (by omega)).trans (xs_callvB k233_2 (as := [vI 1]) rfl rfl (Nat.le_of_ble_eq_true rfl) (Nat.le_of_ble_eq_true rfl) (Nat.le_of_ble_eq_true rfl) (px_s123 L) (Nat.le_of_ble_eq_true rfl))))
theorem b233_5 (hr : px_hr r) (d : Nat) (i l : MI)  : px_X d 233 (5, [vR 123], []) (px_sh L, i, l, r, t) = some (some (vI (i 124 4)), (px_sh L, i, l, r, t)) := ((xs_aldn k233_5 rfl).trans ((xs_get4 k233_6 (px_s123 L) (Nat.le_of_ble_eq_true rfl) (px_r123_3 hr)).trans ((xs_ic k233_9 (by omega)).trans ((xs_iald k233_10 (px_s124 L) (by omega)).trans (xs_ri k233_11 rfl)))))
-- TideGuestsModel.back ('R123',)
theorem b234_0 (hr : px_hr r) (d : Nat) (i l : MI)  : px_X (d + 1) 234 (0, [vR 123], []) (px_sh L, i, l, r, t) = (px_C d 142 [vR 123, vI 0] (px_sh L, i, l, r, t)).bind (fun q => px_X (d + 1) 234 (px_psh (5, [vR 123], []) q.1) q.2) := ((xs_aldn k234_0 rfl).trans ((xs_ic k234_1 (by omega)).trans (xs_callvB k234_2 (as := [vI 0]) rfl rfl (Nat.le_of_ble_eq_true rfl) (Nat.le_of_ble_eq_true rfl) (Nat.le_of_ble_eq_true rfl) (px_s123 L) (Nat.le_of_ble_eq_true rfl))))
theorem b234_5 (hr : px_hr r) (d : Nat) (i l : MI)  : px_X d 234 (5, [vR 123], []) (px_sh L, i, l, r, t) = some (some (vI (i 124 4)), (px_sh L, i, l, r, t)) := ((xs_aldn k234_5 rfl).trans ((xs_get4 k234_6 (px_s123 L) (Nat.le_of_ble_eq_true rfl) (px_r123_3 hr)).trans ((xs_ic k234_9 (by omega)).trans ((xs_iald k234_10 (px_s124 L) (by omega)).trans (xs_ri k234_11 rfl)))))
-- TideGuestsModel.about ('R123', 'I')
theorem b235_0 (hr : px_hr r) (d : Nat) (i l : MI) (x1 : Int) : px_X (d + 1) 235 (0, [vR 123, vI x1], []) (px_sh L, i, l, r, t) = if x1 = 0 then some (some (vI (i 123 0)), (px_sh L, i, l, r, t)) else if x1 = 1 then some (some (vI (i 123 1)), (px_sh L, i, l, r, t)) else if x1 = 2 then some (some (vI (i 124 0)), (px_sh L, i, l, r, t)) else if x1 = 3 then some (some (vI (i 124 1)), (px_sh L, i, l, r, t)) else if x1 = 4 then some (some (vI (i 124 2)), (px_sh L, i, l, r, t)) else if x1 = 5 then some (some (vI (i 124 3)), (px_sh L, i, l, r, t)) else if x1 = 6 then some (some (vI (i 124 4)), (px_sh L, i, l, r, t)) else if x1 = 7 then some (some (vI (i 124 5)), (px_sh L, i, l, r, t)) else if x1 = 8 then some (some (vI (i 124 6)), (px_sh L, i, l, r, t)) else if x1 = 9 then some (some (vI (i 124 7)), (px_sh L, i, l, r, t)) else if x1 = 10 then some (some (vI (i 124 8)), (px_sh L, i, l, r, t)) else if x1 = 11 then some (some (vI (i 123 6)), (px_sh L, i, l, r, t)) else if x1 < 20 then px_X (d + 1) 235 (203, [vR 123, vI x1], []) (px_sh L, i, l, r, t) else if 40 ≤ x1 then px_X (d + 1) 235 (203, [vR 123, vI x1], []) (px_sh L, i, l, r, t) else (px_C d 141 [vI (Int.tmod x1 10), vI 0, vI (px_w32 ((i 124 3) - 1))] (px_sh L, i, l, r, t)).bind (fun q => px_X (d + 1) 235 (px_psh (173, [vR 123, vI x1], []) q.1) q.2) := ((xs_ildn k235_0 rfl).trans (px_swi (fun c1 => ((xs_tsw k235_1 (tg := 64) (by rw [c1]; omega) (by rw [c1]; rfl)).trans ((xs_aldn k235_64 rfl).trans ((xs_get0 k235_65 (px_s123 L) (Nat.le_of_ble_eq_true rfl)).trans (xs_ri k235_68 rfl))))) (fun c1 => (px_swi (fun c2 => ((xs_tsw k235_1 (tg := 69) (by rw [c2]; omega) (by rw [c2]; rfl)).trans ((xs_aldn k235_69 rfl).trans ((xs_get0 k235_70 (px_s123 L) (Nat.le_of_ble_eq_true rfl)).trans (xs_ri k235_73 rfl))))) (fun c2 => (px_swi (fun c3 => ((xs_tsw k235_1 (tg := 74) (by rw [c3]; omega) (by rw [c3]; rfl)).trans ((xs_aldn k235_74 rfl).trans ((xs_get4 k235_75 (px_s123 L) (Nat.le_of_ble_eq_true rfl) (px_r123_3 hr)).trans ((xs_ic k235_78 (by omega)).trans ((xs_iald k235_79 (px_s124 L) (by omega)).trans (xs_ri k235_80 rfl))))))) (fun c3 => (px_swi (fun c4 => ((xs_tsw k235_1 (tg := 81) (by rw [c4]; omega) (by rw [c4]; rfl)).trans ((xs_aldn k235_81 rfl).trans ((xs_get4 k235_82 (px_s123 L) (Nat.le_of_ble_eq_true rfl) (px_r123_3 hr)).trans ((xs_ic k235_85 (by omega)).trans ((xs_iald k235_86 (px_s124 L) (by omega)).trans (xs_ri k235_87 rfl))))))) (fun c4 => (px_swi (fun c5 => ((xs_tsw k235_1 (tg := 88) (by rw [c5]; omega) (by rw [c5]; rfl)).trans ((xs_aldn k235_88 rfl).trans ((xs_get4 k235_89 (px_s123 L) (Nat.le_of_ble_eq_true rfl) (px_r123_3 hr)).trans ((xs_ic k235_92 (by omega)).trans ((xs_iald k235_93 (px_s124 L) (by omega)).trans (xs_ri k235_94 rfl))))))) (fun c5 => (px_swi (fun c6 => ((xs_tsw k235_1 (tg := 95) (by rw [c6]; omega) (by rw [c6]; rfl)).trans ((xs_aldn k235_95 rfl).trans ((xs_get4 k235_96 (px_s123 L) (Nat.le_of_ble_eq_true rfl) (px_r123_3 hr)).trans ((xs_ic k235_99 (by omega)).trans ((xs_iald k235_100 (px_s124 L) (by omega)).trans (xs_ri k235_101 rfl))))))) (fun c6 => (px_swi (fun c7 => ((xs_tsw k235_1 (tg := 102) (by rw [c7]; omega) (by rw [c7]; rfl)).trans ((xs_aldn k235_102 rfl).trans ((xs_get4 k235_103 (px_s123 L) (Nat.le_of_ble_eq_true rfl) (px_r123_3 hr)).trans ((xs_ic k235_106 (by omega)).trans ((xs_iald k235_107 (px_s124 L) (by omega)).trans (xs_ri k235_108 rfl))))))) (fun c7 => (px_swi (fun c8 => ((xs_tsw k235_1 (tg := 109) (by rw [c8]; omega) (by rw [c8]; rfl)).trans ((xs_aldn k235_109 rfl).trans ((xs_get4 k235_110 (px_s123 L) (Nat.le_of_ble_eq_true rfl) (px_r123_3 hr)).trans ((xs_ic k235_113 (by omega)).trans ((xs_iald k235_114 (px_s124 L) (by omega)).trans (xs_ri k235_115 rfl))))))) (fun c8 => (px_swi (fun c9 => ((xs_tsw k235_1 (tg := 116) (by rw [c9]; omega) (by rw [c9]; rfl)).trans ((xs_aldn k235_116 rfl).trans ((xs_get4 k235_117 (px_s123 L) (Nat.le_of_ble_eq_true rfl) (px_r123_3 hr)).trans ((xs_bi k235_120 (by omega)).trans ((xs_iald k235_122 (px_s124 L) (by omega)).trans (xs_ri k235_123 rfl))))))) (fun c9 => (px_swi (fun c10 => ((xs_tsw k235_1 (tg := 124) (by rw [c10]; omega) (by rw [c10]; rfl)).trans ((xs_aldn k235_124 rfl).trans ((xs_get4 k235_125 (px_s123 L) (Nat.le_of_ble_eq_true rfl) (px_r123_3 hr)).trans ((xs_bi k235_128 (by omega)).trans ((xs_iald k235_130 (px_s124 L) (by omega)).trans (xs_ri k235_131 rfl))))))) (fun c10 => (px_swi (fun c11 => ((xs_tsw k235_1 (tg := 132) (by rw [c11]; omega) (by rw [c11]; rfl)).trans ((xs_aldn k235_132 rfl).trans ((xs_get4 k235_133 (px_s123 L) (Nat.le_of_ble_eq_true rfl) (px_r123_3 hr)).trans ((xs_bi k235_136 (by omega)).trans ((xs_iald k235_138 (px_s124 L) (by omega)).trans (xs_ri k235_139 rfl))))))) (fun c11 => (px_swi (fun c12 => ((xs_tsw k235_1 (tg := 140) (by rw [c12]; omega) (by rw [c12]; rfl)).trans ((xs_aldn k235_140 rfl).trans ((xs_get0 k235_141 (px_s123 L) (Nat.le_of_ble_eq_true rfl)).trans (xs_ri k235_144 rfl))))) (fun c12 => ((xs_tswd k235_1 (by omega)).trans ((xs_ildn k235_145 rfl).trans ((xs_bi k235_146 (by omega)).trans ((xs_jlt k235_148).trans (px_ite (fun c13 => rfl) (fun c13 => ((xs_ildn k235_151 rfl).trans ((xs_bi k235_152 (by omega)).trans ((xs_jge k235_154).trans (px_ite (fun c14 => rfl) (fun c14 => ((xs_ildn k235_157 rfl).trans ((xs_bi k235_158 (by omega)).trans ((xs_irem k235_160 (by omega)).trans ((xs_ic k235_161 (by omega)).trans ((xs_aldn k235_162 rfl).trans ((xs_get4 k235_163 (px_s123 L) (Nat.le_of_ble_eq_true rfl) (px_r123_3 hr)).trans ((xs_ic k235_166 (by omega)).trans ((xs_iald k235_167 (px_s124 L) (by omega)).trans ((xs_ic k235_168 (by omega)).trans ((xs_isub k235_169).trans (xs_callsB k235_170 (as := [vI (Int.tmod x1 10), vI 0, vI (px_w32 ((i 124 3) - 1))]) rfl rfl (Nat.le_of_ble_eq_true rfl) (Nat.le_of_ble_eq_true rfl) (Nat.le_of_ble_eq_true rfl))))))))))))))))))))))))))))))))))))))))))))))))
theorem b235_173 (hr : px_hr r) (d : Nat) (i l : MI) (x1 : Int) (xs0 : Int) (h1 : (¬ (xs0 = 0)) → (30 ≤ x1) → 0 ≤ (px_w32 ((px_w32 (100 + (px_w32 (2 * (Int.tmod x1 10))))) + 1)) ∧ (px_w32 ((px_w32 (100 + (px_w32 (2 * (Int.tmod x1 10))))) + 1)) < 820) (h2 : (¬ (xs0 = 0)) → (¬ (30 ≤ x1)) → 0 ≤ (px_w32 ((px_w32 (100 + (px_w32 (2 * (Int.tmod x1 10))))) + 0)) ∧ (px_w32 ((px_w32 (100 + (px_w32 (2 * (Int.tmod x1 10))))) + 0)) < 820) : px_X d 235 (173, [vR 123, vI x1], [vI xs0]) (px_sh L, i, l, r, t) = if xs0 = 0 then px_X d 235 (203, [vR 123, vI x1], []) (px_sh L, i, l, r, t) else if 30 ≤ x1 then some (some (vI (i 124 (px_w32 ((px_w32 (100 + (px_w32 (2 * (Int.tmod x1 10))))) + 1)))), (px_sh L, i, l, r, t)) else some (some (vI (i 124 (px_w32 ((px_w32 (100 + (px_w32 (2 * (Int.tmod x1 10))))) + 0)))), (px_sh L, i, l, r, t)) := ((xs_ieq k235_173).trans (px_ite (fun c1 => rfl) (fun c1 => ((xs_aldn k235_176 rfl).trans ((xs_get4 k235_177 (px_s123 L) (Nat.le_of_ble_eq_true rfl) (px_r123_3 hr)).trans ((xs_bi k235_180 (by omega)).trans ((xs_ic k235_182 (by omega)).trans ((xs_ildn k235_183 rfl).trans ((xs_bi k235_184 (by omega)).trans ((xs_irem k235_186 (by omega)).trans ((xs_imul k235_187).trans ((xs_iadd k235_188).trans ((xs_ildn k235_189 rfl).trans ((xs_bi k235_190 (by omega)).trans ((xs_jge k235_192).trans (px_ite (fun c2 => ((xs_ic k235_199 (by omega)).trans ((xs_iadd k235_200).trans ((xs_iald k235_201 (px_s124 L) (h1 c1 c2)).trans (xs_ri k235_202 rfl))))) (fun c2 => ((xs_ic k235_195 (by omega)).trans ((xs_goto k235_196).trans ((xs_iadd k235_200).trans ((xs_iald k235_201 (px_s124 L) (h2 c1 c2)).trans (xs_ri k235_202 rfl))))))))))))))))))))))
theorem b235_203 (hr : px_hr r) (d : Nat) (i l : MI) (x1 : Int) : px_X (d + 1) 235 (203, [vR 123, vI x1], []) (px_sh L, i, l, r, t) = if x1 < 40 then px_X (d + 1) 235 (258, [vR 123, vI x1], []) (px_sh L, i, l, r, t) else if 70 ≤ x1 then px_X (d + 1) 235 (258, [vR 123, vI x1], []) (px_sh L, i, l, r, t) else (px_C d 144 [vR 123, vI (Int.tmod x1 10)] (px_sh L, i, l, r, t)).bind (fun q => px_X (d + 1) 235 (px_psh (223, [vR 123, vI x1], []) q.1) q.2) := ((xs_ildn k235_203 rfl).trans ((xs_bi k235_204 (by omega)).trans ((xs_jlt k235_206).trans (px_ite (fun c1 => rfl) (fun c1 => ((xs_ildn k235_209 rfl).trans ((xs_bi k235_210 (by omega)).trans ((xs_jge k235_212).trans (px_ite (fun c2 => rfl) (fun c2 => ((xs_aldn k235_215 rfl).trans ((xs_ildn k235_216 rfl).trans ((xs_bi k235_217 (by omega)).trans ((xs_irem k235_219 (by omega)).trans (xs_callvB k235_220 (as := [vI (Int.tmod x1 10)]) rfl rfl (Nat.le_of_ble_eq_true rfl) (Nat.le_of_ble_eq_true rfl) (Nat.le_of_ble_eq_true rfl) (px_s123 L) (Nat.le_of_ble_eq_true rfl))))))))))))))))
theorem b235_223 (hr : px_hr r) (d : Nat) (i l : MI) (x1 : Int) (xs0 : Int) : px_X d 235 (223, [vR 123, vI x1], [vI xs0]) (px_sh L, i, l, r, t) = if xs0 = 0 then px_X d 235 (258, [vR 123, vI x1], []) (px_sh L, i, l, r, t) else if 50 ≤ x1 then if 60 ≤ x1 then px_X d 235 (254, [vR 123, vI x1], [vI 8, vI (Int.tmod x1 10), vR 123]) (px_sh L, i, l, r, t) else px_X d 235 (254, [vR 123, vI x1], [vI 7, vI (Int.tmod x1 10), vR 123]) (px_sh L, i, l, r, t) else px_X d 235 (254, [vR 123, vI x1], [vI 0, vI (Int.tmod x1 10), vR 123]) (px_sh L, i, l, r, t) := ((xs_ieq k235_223).trans (px_ite (fun c1 => rfl) (fun c1 => ((xs_aldn k235_226 rfl).trans ((xs_ildn k235_227 rfl).trans ((xs_bi k235_228 (by omega)).trans ((xs_irem k235_230 (by omega)).trans ((xs_ildn k235_231 rfl).trans ((xs_bi k235_232 (by omega)).trans ((xs_jge k235_234).trans (px_ite (fun c2 => ((xs_ildn k235_241 rfl).trans ((xs_bi k235_242 (by omega)).trans ((xs_jge k235_244).trans (px_ite (fun c3 => (xs_bi k235_252 (by omega))) (fun c3 => ((xs_bi k235_247 (by omega)).trans (xs_goto k235_249)))))))) (fun c2 => ((xs_ic k235_237 (by omega)).trans (xs_goto k235_238))))))))))))))
theorem b235_254 (hr : px_hr r) (d : Nat) (i l : MI) (x1 : Int) (xs0 : Int) (xs1 : Int) : px_X (d + 1) 235 (254, [vR 123, vI x1], [vI xs0, vI xs1, vR 123]) (px_sh L, i, l, r, t) = (px_C d 146 [vR 123, vI xs1, vI xs0] (px_sh L, i, l, r, t)).bind (fun q => px_X (d + 1) 235 (px_psh (257, [vR 123, vI x1], []) q.1) q.2) := (xs_callvB k235_254 (as := [vI xs1, vI xs0]) rfl rfl (Nat.le_of_ble_eq_true rfl) (Nat.le_of_ble_eq_true rfl) (Nat.le_of_ble_eq_true rfl) (px_s123 L) (Nat.le_of_ble_eq_true rfl))
theorem b235_257 (hr : px_hr r) (d : Nat) (i l : MI) (x1 : Int) (xs0 : Int) : px_X d 235 (257, [vR 123, vI x1], [vI xs0]) (px_sh L, i, l, r, t) = some (some (vI xs0), (px_sh L, i, l, r, t)) := (xs_ri k235_257 rfl)
theorem b235_258 (hr : px_hr r) (d : Nat) (i l : MI) (x1 : Int) : px_X (d + 1) 235 (258, [vR 123, vI x1], []) (px_sh L, i, l, r, t) = if x1 < 100 then px_X (d + 1) 235 (290, [vR 123, vI x1], []) (px_sh L, i, l, r, t) else (px_C d 143 [vR 123, vI (px_w32 (x1 - 100))] (px_sh L, i, l, r, t)).bind (fun q => px_X (d + 1) 235 (px_psh (272, [vR 123, vI x1], []) q.1) q.2) := ((xs_ildn k235_258 rfl).trans ((xs_bi k235_259 (by omega)).trans ((xs_jlt k235_261).trans (px_ite (fun c1 => rfl) (fun c1 => ((xs_aldn k235_264 rfl).trans ((xs_ildn k235_265 rfl).trans ((xs_bi k235_266 (by omega)).trans ((xs_isub k235_268).trans (xs_callvB k235_269 (as := [vI (px_w32 (x1 - 100))]) rfl rfl (Nat.le_of_ble_eq_true rfl) (Nat.le_of_ble_eq_true rfl) (Nat.le_of_ble_eq_true rfl) (px_s123 L) (Nat.le_of_ble_eq_true rfl)))))))))))
theorem b235_272 (hr : px_hr r) (d : Nat) (i l : MI) (x1 : Int) (xs0 : Int) (h1 : (¬ (xs0 = 0)) → 0 ≤ (px_w32 (20 + (px_w32 (2 * (px_w32 (x1 - 100)))))) ∧ (px_w32 (20 + (px_w32 (2 * (px_w32 (x1 - 100)))))) < 820) : px_X d 235 (272, [vR 123, vI x1], [vI xs0]) (px_sh L, i, l, r, t) = if xs0 = 0 then px_X d 235 (290, [vR 123, vI x1], []) (px_sh L, i, l, r, t) else some (some (vI (i 124 (px_w32 (20 + (px_w32 (2 * (px_w32 (x1 - 100)))))))), (px_sh L, i, l, r, t)) := ((xs_ieq k235_272).trans (px_ite (fun c1 => rfl) (fun c1 => ((xs_aldn k235_275 rfl).trans ((xs_get4 k235_276 (px_s123 L) (Nat.le_of_ble_eq_true rfl) (px_r123_3 hr)).trans ((xs_bi k235_279 (by omega)).trans ((xs_ic k235_281 (by omega)).trans ((xs_ildn k235_282 rfl).trans ((xs_bi k235_283 (by omega)).trans ((xs_isub k235_285).trans ((xs_imul k235_286).trans ((xs_iadd k235_287).trans ((xs_iald k235_288 (px_s124 L) (h1 c1)).trans (xs_ri k235_289 rfl))))))))))))))
theorem b235_290 (hr : px_hr r) (d : Nat) (i l : MI) (x1 : Int) : px_X (d + 1) 235 (290, [vR 123, vI x1], []) (px_sh L, i, l, r, t) = if x1 < 200 then some (some (vI (-1000)), (px_sh L, i, l, r, t)) else (px_C d 143 [vR 123, vI (px_w32 (x1 - 200))] (px_sh L, i, l, r, t)).bind (fun q => px_X (d + 1) 235 (px_psh (306, [vR 123, vI x1], []) q.1) q.2) := ((xs_ildn k235_290 rfl).trans ((xs_si k235_291 (by omega)).trans ((xs_jlt k235_294).trans (px_ite (fun c1 => ((xs_si k235_329 (by omega)).trans (xs_ri k235_332 rfl))) (fun c1 => ((xs_aldn k235_297 rfl).trans ((xs_ildn k235_298 rfl).trans ((xs_si k235_299 (by omega)).trans ((xs_isub k235_302).trans (xs_callvB k235_303 (as := [vI (px_w32 (x1 - 200))]) rfl rfl (Nat.le_of_ble_eq_true rfl) (Nat.le_of_ble_eq_true rfl) (Nat.le_of_ble_eq_true rfl) (px_s123 L) (Nat.le_of_ble_eq_true rfl)))))))))))
theorem b235_306 (hr : px_hr r) (d : Nat) (i l : MI) (x1 : Int) (xs0 : Int) (h1 : (¬ (xs0 = 0)) → 0 ≤ (px_w32 ((px_w32 (20 + (px_w32 (2 * (px_w32 (x1 - 200)))))) + 1)) ∧ (px_w32 ((px_w32 (20 + (px_w32 (2 * (px_w32 (x1 - 200)))))) + 1)) < 820) : px_X d 235 (306, [vR 123, vI x1], [vI xs0]) (px_sh L, i, l, r, t) = if xs0 = 0 then some (some (vI (-1000)), (px_sh L, i, l, r, t)) else some (some (vI (i 124 (px_w32 ((px_w32 (20 + (px_w32 (2 * (px_w32 (x1 - 200)))))) + 1)))), (px_sh L, i, l, r, t)) := ((xs_ieq k235_306).trans (px_ite (fun c1 => ((xs_si k235_329 (by omega)).trans (xs_ri k235_332 rfl))) (fun c1 => ((xs_aldn k235_309 rfl).trans ((xs_get4 k235_310 (px_s123 L) (Nat.le_of_ble_eq_true rfl) (px_r123_3 hr)).trans ((xs_bi k235_313 (by omega)).trans ((xs_ic k235_315 (by omega)).trans ((xs_ildn k235_316 rfl).trans ((xs_si k235_317 (by omega)).trans ((xs_isub k235_320).trans ((xs_imul k235_321).trans ((xs_iadd k235_322).trans ((xs_ic k235_323 (by omega)).trans ((xs_iadd k235_324).trans ((xs_iald k235_325 (px_s124 L) (h1 c1)).trans ((xs_goto k235_326).trans (xs_ri k235_332 rfl)))))))))))))))))
-- TideGuestsLaw.cell ('R0', 'I')
theorem b236_0 (hr : px_hr r) (d : Nat) (i l : MI) (x1 : Int) (h1 : (¬ ((L : Int) ≤ x1)) → 0 ≤ x1 ∧ x1 < (L : Int)) : px_X d 236 (0, [vR 0, vI x1], []) (px_sh L, i, l, r, t) = if (L : Int) ≤ x1 then some (some (vI 0), (px_sh L, i, l, r, t)) else some (some (vI (i 0 x1)), (px_sh L, i, l, r, t)) := ((xs_ildn k236_0 rfl).trans ((xs_aldn k236_1 rfl).trans ((xs_aln k236_2 (px_s0 L)).trans ((xs_jge k236_3).trans (px_ite (fun c1 => ((xs_ic k236_12 (by omega)).trans (xs_ri k236_13 rfl))) (fun c1 => ((xs_aldn k236_6 rfl).trans ((xs_ildn k236_7 rfl).trans ((xs_iald k236_8 (px_s0 L) (h1 c1)).trans ((xs_goto k236_9).trans (xs_ri k236_13 rfl)))))))))))
-- java/lang/Integer.bitCount ('I',)
theorem b237_0 (hr : px_hr r) (d : Nat) (i l : MI) (x0 : Int) : px_X d 237 (0, [vI x0], []) (px_sh L, i, l, r, t) = some (some (vI (px_and (px_w32 ((px_w32 ((px_and (px_w32 ((px_w32 ((px_and (px_w32 (x0 - (px_and (px_ushr x0 1) 1431655765))) 858993459) + (px_and (px_ushr (px_w32 (x0 - (px_and (px_ushr x0 1) 1431655765))) 2) 858993459))) + (px_ushr (px_w32 ((px_and (px_w32 (x0 - (px_and (px_ushr x0 1) 1431655765))) 858993459) + (px_and (px_ushr (px_w32 (x0 - (px_and (px_ushr x0 1) 1431655765))) 2) 858993459))) 4))) 252645135) + (px_ushr (px_and (px_w32 ((px_w32 ((px_and (px_w32 (x0 - (px_and (px_ushr x0 1) 1431655765))) 858993459) + (px_and (px_ushr (px_w32 (x0 - (px_and (px_ushr x0 1) 1431655765))) 2) 858993459))) + (px_ushr (px_w32 ((px_and (px_w32 (x0 - (px_and (px_ushr x0 1) 1431655765))) 858993459) + (px_and (px_ushr (px_w32 (x0 - (px_and (px_ushr x0 1) 1431655765))) 2) 858993459))) 4))) 252645135) 8))) + (px_ushr (px_w32 ((px_and (px_w32 ((px_w32 ((px_and (px_w32 (x0 - (px_and (px_ushr x0 1) 1431655765))) 858993459) + (px_and (px_ushr (px_w32 (x0 - (px_and (px_ushr x0 1) 1431655765))) 2) 858993459))) + (px_ushr (px_w32 ((px_and (px_w32 (x0 - (px_and (px_ushr x0 1) 1431655765))) 858993459) + (px_and (px_ushr (px_w32 (x0 - (px_and (px_ushr x0 1) 1431655765))) 2) 858993459))) 4))) 252645135) + (px_ushr (px_and (px_w32 ((px_w32 ((px_and (px_w32 (x0 - (px_and (px_ushr x0 1) 1431655765))) 858993459) + (px_and (px_ushr (px_w32 (x0 - (px_and (px_ushr x0 1) 1431655765))) 2) 858993459))) + (px_ushr (px_w32 ((px_and (px_w32 (x0 - (px_and (px_ushr x0 1) 1431655765))) 858993459) + (px_and (px_ushr (px_w32 (x0 - (px_and (px_ushr x0 1) 1431655765))) 2) 858993459))) 4))) 252645135) 8))) 16))) 63)), (px_sh L, i, l, r, t)) := ((xs_ildn k237_0 rfl).trans ((xs_ildn k237_1 rfl).trans ((xs_ic k237_2 (by omega)).trans ((xs_iushr k237_3).trans ((xs_ldcw k237_4).trans ((xs_iand k237_7).trans ((xs_isub k237_8).trans ((xs_istn k237_9 (Nat.le_of_ble_eq_true rfl) (ls' := [vI (px_w32 (x0 - (px_and (px_ushr x0 1) 1431655765)))]) rfl).trans ((xs_ildn k237_10 rfl).trans ((xs_ldcw k237_11).trans ((xs_iand k237_14).trans ((xs_ildn k237_15 rfl).trans ((xs_ic k237_16 (by omega)).trans ((xs_iushr k237_17).trans ((xs_ldcw k237_18).trans ((xs_iand k237_21).trans ((xs_iadd k237_22).trans ((xs_istn k237_23 (Nat.le_of_ble_eq_true rfl) (ls' := [vI (px_w32 ((px_and (px_w32 (x0 - (px_and (px_ushr x0 1) 1431655765))) 858993459) + (px_and (px_ushr (px_w32 (x0 - (px_and (px_ushr x0 1) 1431655765))) 2) 858993459)))]) rfl).trans ((xs_ildn k237_24 rfl).trans ((xs_ildn k237_25 rfl).trans ((xs_ic k237_26 (by omega)).trans ((xs_iushr k237_27).trans ((xs_iadd k237_28).trans ((xs_ldcw k237_29).trans ((xs_iand k237_32).trans ((xs_istn k237_33 (Nat.le_of_ble_eq_true rfl) (ls' := [vI (px_and (px_w32 ((px_w32 ((px_and (px_w32 (x0 - (px_and (px_ushr x0 1) 1431655765))) 858993459) + (px_and (px_ushr (px_w32 (x0 - (px_and (px_ushr x0 1) 1431655765))) 2) 858993459))) + (px_ushr (px_w32 ((px_and (px_w32 (x0 - (px_and (px_ushr x0 1) 1431655765))) 858993459) + (px_and (px_ushr (px_w32 (x0 - (px_and (px_ushr x0 1) 1431655765))) 2) 858993459))) 4))) 252645135)]) rfl).trans ((xs_ildn k237_34 rfl).trans ((xs_ildn k237_35 rfl).trans ((xs_bi k237_36 (by omega)).trans ((xs_iushr k237_38).trans ((xs_iadd k237_39).trans ((xs_istn k237_40 (Nat.le_of_ble_eq_true rfl) (ls' := [vI (px_w32 ((px_and (px_w32 ((px_w32 ((px_and (px_w32 (x0 - (px_and (px_ushr x0 1) 1431655765))) 858993459) + (px_and (px_ushr (px_w32 (x0 - (px_and (px_ushr x0 1) 1431655765))) 2) 858993459))) + (px_ushr (px_w32 ((px_and (px_w32 (x0 - (px_and (px_ushr x0 1) 1431655765))) 858993459) + (px_and (px_ushr (px_w32 (x0 - (px_and (px_ushr x0 1) 1431655765))) 2) 858993459))) 4))) 252645135) + (px_ushr (px_and (px_w32 ((px_w32 ((px_and (px_w32 (x0 - (px_and (px_ushr x0 1) 1431655765))) 858993459) + (px_and (px_ushr (px_w32 (x0 - (px_and (px_ushr x0 1) 1431655765))) 2) 858993459))) + (px_ushr (px_w32 ((px_and (px_w32 (x0 - (px_and (px_ushr x0 1) 1431655765))) 858993459) + (px_and (px_ushr (px_w32 (x0 - (px_and (px_ushr x0 1) 1431655765))) 2) 858993459))) 4))) 252645135) 8)))]) rfl).trans ((xs_ildn k237_41 rfl).trans ((xs_ildn k237_42 rfl).trans ((xs_bi k237_43 (by omega)).trans ((xs_iushr k237_45).trans ((xs_iadd k237_46).trans ((xs_istn k237_47 (Nat.le_of_ble_eq_true rfl) (ls' := [vI (px_w32 ((px_w32 ((px_and (px_w32 ((px_w32 ((px_and (px_w32 (x0 - (px_and (px_ushr x0 1) 1431655765))) 858993459) + (px_and (px_ushr (px_w32 (x0 - (px_and (px_ushr x0 1) 1431655765))) 2) 858993459))) + (px_ushr (px_w32 ((px_and (px_w32 (x0 - (px_and (px_ushr x0 1) 1431655765))) 858993459) + (px_and (px_ushr (px_w32 (x0 - (px_and (px_ushr x0 1) 1431655765))) 2) 858993459))) 4))) 252645135) + (px_ushr (px_and (px_w32 ((px_w32 ((px_and (px_w32 (x0 - (px_and (px_ushr x0 1) 1431655765))) 858993459) + (px_and (px_ushr (px_w32 (x0 - (px_and (px_ushr x0 1) 1431655765))) 2) 858993459))) + (px_ushr (px_w32 ((px_and (px_w32 (x0 - (px_and (px_ushr x0 1) 1431655765))) 858993459) + (px_and (px_ushr (px_w32 (x0 - (px_and (px_ushr x0 1) 1431655765))) 2) 858993459))) 4))) 252645135) 8))) + (px_ushr (px_w32 ((px_and (px_w32 ((px_w32 ((px_and (px_w32 (x0 - (px_and (px_ushr x0 1) 1431655765))) 858993459) + (px_and (px_ushr (px_w32 (x0 - (px_and (px_ushr x0 1) 1431655765))) 2) 858993459))) + (px_ushr (px_w32 ((px_and (px_w32 (x0 - (px_and (px_ushr x0 1) 1431655765))) 858993459) + (px_and (px_ushr (px_w32 (x0 - (px_and (px_ushr x0 1) 1431655765))) 2) 858993459))) 4))) 252645135) + (px_ushr (px_and (px_w32 ((px_w32 ((px_and (px_w32 (x0 - (px_and (px_ushr x0 1) 1431655765))) 858993459) + (px_and (px_ushr (px_w32 (x0 - (px_and (px_ushr x0 1) 1431655765))) 2) 858993459))) + (px_ushr (px_w32 ((px_and (px_w32 (x0 - (px_and (px_ushr x0 1) 1431655765))) 858993459) + (px_and (px_ushr (px_w32 (x0 - (px_and (px_ushr x0 1) 1431655765))) 2) 858993459))) 4))) 252645135) 8))) 16)))]) rfl).trans ((xs_ildn k237_48 rfl).trans ((xs_bi k237_49 (by omega)).trans ((xs_iand k237_51).trans (xs_ri k237_52 rfl))))))))))))))))))))))))))))))))))))))))))
-- java/lang/Integer.numberOfTrailingZeros ('I',)
theorem b238_0 (hr : px_hr r) (d : Nat) (i l : MI) (x0 : Int) : px_X d 238 (0, [vI x0, vJ], []) (px_sh L, i, l, r, t) = if 0 < (px_and (px_xor x0 (-1)) (px_w32 (x0 - 1))) then if (px_and (px_xor x0 (-1)) (px_w32 (x0 - 1))) ≤ 65536 then px_X d 238 (34, [vI (px_and (px_xor x0 (-1)) (px_w32 (x0 - 1))), vI 1], []) (px_sh L, i, l, r, t) else px_X d 238 (34, [vI (px_ushr (px_and (px_xor x0 (-1)) (px_w32 (x0 - 1))) 16), vI (px_w32 (1 + 16))], []) (px_sh L, i, l, r, t) else some (some (vI (px_and (px_and (px_xor x0 (-1)) (px_w32 (x0 - 1))) 32)), (px_sh L, i, l, r, t)) := ((xs_ildn k238_0 rfl).trans ((xs_ic k238_1 (by omega)).trans ((xs_ixor k238_2).trans ((xs_ildn k238_3 rfl).trans ((xs_ic k238_4 (by omega)).trans ((xs_isub k238_5).trans ((xs_iand k238_6).trans ((xs_istn k238_7 (Nat.le_of_ble_eq_true rfl) (ls' := [vI (px_and (px_xor x0 (-1)) (px_w32 (x0 - 1))), vJ]) rfl).trans ((xs_ildn k238_8 rfl).trans ((xs_igt k238_9).trans (px_ite (fun c1 => ((xs_ic k238_17 (by omega)).trans ((xs_istn k238_18 (Nat.le_of_ble_eq_true rfl) (ls' := [vI (px_and (px_xor x0 (-1)) (px_w32 (x0 - 1))), vI 1]) rfl).trans ((xs_ildn k238_19 rfl).trans ((xs_ldcw k238_20).trans ((xs_jle k238_23).trans (px_ite (fun c2 => rfl) (fun c2 => ((xs_iinc k238_26 rfl (by omega) (ls' := [vI (px_and (px_xor x0 (-1)) (px_w32 (x0 - 1))), vI (px_w32 (1 + 16))]) rfl).trans ((xs_ildn k238_29 rfl).trans ((xs_bi k238_30 (by omega)).trans ((xs_iushr k238_32).trans (xs_istn k238_33 (Nat.le_of_ble_eq_true rfl) (ls' := [vI (px_ushr (px_and (px_xor x0 (-1)) (px_w32 (x0 - 1))) 16), vI (px_w32 (1 + 16))]) rfl))))))))))))) (fun c1 => ((xs_ildn k238_12 rfl).trans ((xs_bi k238_13 (by omega)).trans ((xs_iand k238_15).trans (xs_ri k238_16 rfl))))))))))))))))
theorem b238_34 (hr : px_hr r) (d : Nat) (i l : MI) (x0 : Int) (x1 : Int) : px_X d 238 (34, [vI x0, vI x1], []) (px_sh L, i, l, r, t) = if x0 ≤ 256 then px_X d 238 (49, [vI x0, vI x1], []) (px_sh L, i, l, r, t) else px_X d 238 (49, [vI (px_ushr x0 8), vI (px_w32 (x1 + 8))], []) (px_sh L, i, l, r, t) := ((xs_ildn k238_34 rfl).trans ((xs_si k238_35 (by omega)).trans ((xs_jle k238_38).trans (px_ite (fun c1 => rfl) (fun c1 => ((xs_iinc k238_41 rfl (by omega) (ls' := [vI x0, vI (px_w32 (x1 + 8))]) rfl).trans ((xs_ildn k238_44 rfl).trans ((xs_bi k238_45 (by omega)).trans ((xs_iushr k238_47).trans (xs_istn k238_48 (Nat.le_of_ble_eq_true rfl) (ls' := [vI (px_ushr x0 8), vI (px_w32 (x1 + 8))]) rfl))))))))))
theorem b238_49 (hr : px_hr r) (d : Nat) (i l : MI) (x0 : Int) (x1 : Int) : px_X d 238 (49, [vI x0, vI x1], []) (px_sh L, i, l, r, t) = if x0 ≤ 16 then px_X d 238 (62, [vI x0, vI x1], []) (px_sh L, i, l, r, t) else px_X d 238 (62, [vI (px_ushr x0 4), vI (px_w32 (x1 + 4))], []) (px_sh L, i, l, r, t) := ((xs_ildn k238_49 rfl).trans ((xs_bi k238_50 (by omega)).trans ((xs_jle k238_52).trans (px_ite (fun c1 => rfl) (fun c1 => ((xs_iinc k238_55 rfl (by omega) (ls' := [vI x0, vI (px_w32 (x1 + 4))]) rfl).trans ((xs_ildn k238_58 rfl).trans ((xs_ic k238_59 (by omega)).trans ((xs_iushr k238_60).trans (xs_istn k238_61 (Nat.le_of_ble_eq_true rfl) (ls' := [vI (px_ushr x0 4), vI (px_w32 (x1 + 4))]) rfl))))))))))
theorem b238_62 (hr : px_hr r) (d : Nat) (i l : MI) (x0 : Int) (x1 : Int) : px_X d 238 (62, [vI x0, vI x1], []) (px_sh L, i, l, r, t) = if x0 ≤ 4 then some (some (vI (px_w32 (x1 + (px_ushr x0 1)))), (px_sh L, i, l, r, t)) else some (some (vI (px_w32 ((px_w32 (x1 + 2)) + (px_ushr (px_ushr x0 2) 1)))), (px_sh L, i, l, r, t)) := ((xs_ildn k238_62 rfl).trans ((xs_ic k238_63 (by omega)).trans ((xs_jle k238_64).trans (px_ite (fun c1 => ((xs_ildn k238_74 rfl).trans ((xs_ildn k238_75 rfl).trans ((xs_ic k238_76 (by omega)).trans ((xs_iushr k238_77).trans ((xs_iadd k238_78).trans (xs_ri k238_79 rfl))))))) (fun c1 => ((xs_iinc k238_67 rfl (by omega) (ls' := [vI x0, vI (px_w32 (x1 + 2))]) rfl).trans ((xs_ildn k238_70 rfl).trans ((xs_ic k238_71 (by omega)).trans ((xs_iushr k238_72).trans ((xs_istn k238_73 (Nat.le_of_ble_eq_true rfl) (ls' := [vI (px_ushr x0 2), vI (px_w32 (x1 + 2))]) rfl).trans ((xs_ildn k238_74 rfl).trans ((xs_ildn k238_75 rfl).trans ((xs_ic k238_76 (by omega)).trans ((xs_iushr k238_77).trans ((xs_iadd k238_78).trans (xs_ri k238_79 rfl))))))))))))))))
-- java/lang/Long.lowestOneBit ('L',)
theorem b239_0 (hr : px_hr r) (d : Nat) (i l : MI) (x0 : Int) : px_X d 239 (0, [vL x0, vJ], []) (px_sh L, i, l, r, t) = some (some (vL (px_land x0 (px_w64 (-x0)))), (px_sh L, i, l, r, t)) := ((xs_lldn k239_0 rfl).trans ((xs_lldn k239_1 rfl).trans ((xs_lneg k239_2).trans ((xs_land k239_3).trans (xs_rl k239_4 rfl)))))
-- java/lang/Long.numberOfTrailingZeros ('L',)
theorem b240_0 (hr : px_hr r) (d : Nat) (i l : MI) (x0 : Int) : px_X (d + 1) 240 (0, [vL x0, vJ, vJ], []) (px_sh L, i, l, r, t) = if (px_w32 x0) = 0 then (px_C d 238 [vI (px_w32 (px_lushr x0 32))] (px_sh L, i, l, r, t)).bind (fun q => px_X (d + 1) 240 (px_psh (17, [vL x0, vJ, vI (px_w32 x0)], [vI 32]) q.1) q.2) else (px_C d 238 [vI (px_w32 x0)] (px_sh L, i, l, r, t)).bind (fun q => px_X (d + 1) 240 (px_psh (25, [vL x0, vJ, vI (px_w32 x0)], []) q.1) q.2) := ((xs_lldn k240_0 rfl).trans ((xs_l2i k240_1).trans ((xs_istn k240_2 (Nat.le_of_ble_eq_true rfl) (ls' := [vL x0, vJ, vI (px_w32 x0)]) rfl).trans ((xs_ildn k240_3 rfl).trans ((xs_ine k240_4).trans (px_ite (fun c1 => ((xs_bi k240_7 (by omega)).trans ((xs_lldn k240_9 rfl).trans ((xs_bi k240_10 (by omega)).trans ((xs_lushr k240_12).trans ((xs_l2i k240_13).trans (xs_callsB k240_14 (as := [vI (px_w32 (px_lushr x0 32))]) rfl rfl (Nat.le_of_ble_eq_true rfl) (Nat.le_of_ble_eq_true rfl) (Nat.le_of_ble_eq_true rfl)))))))) (fun c1 => ((xs_ildn k240_21 rfl).trans (xs_callsB k240_22 (as := [vI (px_w32 x0)]) rfl rfl (Nat.le_of_ble_eq_true rfl) (Nat.le_of_ble_eq_true rfl) (Nat.le_of_ble_eq_true rfl))))))))))
theorem b240_17 (hr : px_hr r) (d : Nat) (i l : MI) (x0 : Int) (x2 : Int) (xs0 : Int) (xs1 : Int) : px_X d 240 (17, [vL x0, vJ, vI x2], [vI xs0, vI xs1]) (px_sh L, i, l, r, t) = some (some (vI (px_w32 (xs1 + xs0))), (px_sh L, i, l, r, t)) := ((xs_iadd k240_17).trans ((xs_goto k240_18).trans (xs_ri k240_25 rfl)))
theorem b240_25 (hr : px_hr r) (d : Nat) (i l : MI) (x0 : Int) (x2 : Int) (xs0 : Int) : px_X d 240 (25, [vL x0, vJ, vI x2], [vI xs0]) (px_sh L, i, l, r, t) = some (some (vI xs0), (px_sh L, i, l, r, t)) := (xs_ri k240_25 rfl)
-- java/util/Arrays.fill ('a', 'I')
theorem b241_0 (hr : px_hr r) (d : Nat) (i l : MI) {k0 n0 : Nat} (hk0 : (px_sh L)[k0]? = some (.inr (0, n0))) (g0 : 3 ≤ k0) (x1 : Int) : px_X d 241 (0, [vR k0, vI x1, vJ, vJ], []) (px_sh L, i, l, r, t) = px_X d 241 (5, [vR k0, vI x1, vI 0, vI (n0 : Int)], []) (px_sh L, i, l, r, t) := ((xs_ic k241_0 (by omega)).trans ((xs_istn k241_1 (Nat.le_of_ble_eq_true rfl) (ls' := [vR k0, vI x1, vI 0, vJ]) rfl).trans ((xs_aldn k241_2 rfl).trans ((xs_aln k241_3 hk0).trans (xs_istn k241_4 (Nat.le_of_ble_eq_true rfl) (ls' := [vR k0, vI x1, vI 0, vI (n0 : Int)]) rfl)))))
theorem b241_5 (hr : px_hr r) (d : Nat) (i l : MI) {k0 n0 : Nat} (hk0 : (px_sh L)[k0]? = some (.inr (0, n0))) (g0 : 3 ≤ k0) (x1 : Int) (x2 : Int) (x3 : Int) (h1 : (¬ (x3 ≤ x2)) → 0 ≤ x2 ∧ x2 < (n0 : Int)) : px_X d 241 (5, [vR k0, vI x1, vI x2, vI x3], []) (px_sh L, i, l, r, t) = if x3 ≤ x2 then some (none, (px_sh L, i, l, r, t)) else px_X d 241 (5, [vR k0, vI x1, vI (px_w32 (x2 + 1)), vI x3], []) (px_sh L, (px_up i k0 x2 x1), l, r, t) := ((xs_ildn k241_5 rfl).trans ((xs_ildn k241_6 rfl).trans ((xs_jge k241_7).trans (px_ite (fun c1 => (xs_rv k241_20 rfl)) (fun c1 => ((xs_aldn k241_10 rfl).trans ((xs_ildn k241_11 rfl).trans ((xs_ildn k241_12 rfl).trans ((xs_iast k241_13 hk0 (h1 c1) g0).trans ((xs_iinc k241_14 rfl (by omega) (ls' := [vR k0, vI x1, vI (px_w32 (x2 + 1)), vI x3]) rfl).trans (xs_goto k241_17)))))))))))
-- java/util/Arrays.fill ('l', 'L')
theorem b242_0 (hr : px_hr r) (d : Nat) (i l : MI) {k0 n0 : Nat} (hk0 : (px_sh L)[k0]? = some (.inr (3, n0))) (g0 : 3 ≤ k0) (x1 : Int) : px_X d 242 (0, [vR k0, vL x1, vJ, vJ, vJ], []) (px_sh L, i, l, r, t) = px_X d 242 (6, [vR k0, vL x1, vJ, vI 0, vI (n0 : Int)], []) (px_sh L, i, l, r, t) := ((xs_ic k242_0 (by omega)).trans ((xs_istn k242_1 (Nat.le_of_ble_eq_true rfl) (ls' := [vR k0, vL x1, vJ, vI 0, vJ]) rfl).trans ((xs_aldn k242_2 rfl).trans ((xs_aln k242_3 hk0).trans (xs_ist k242_4 (Nat.le_of_ble_eq_true rfl) (ls' := [vR k0, vL x1, vJ, vI 0, vI (n0 : Int)]) rfl)))))
theorem b242_6 (hr : px_hr r) (d : Nat) (i l : MI) {k0 n0 : Nat} (hk0 : (px_sh L)[k0]? = some (.inr (3, n0))) (g0 : 3 ≤ k0) (x1 : Int) (x3 : Int) (x4 : Int) (h1 : (¬ (x4 ≤ x3)) → 0 ≤ x3 ∧ x3 < (n0 : Int)) : px_X d 242 (6, [vR k0, vL x1, vJ, vI x3, vI x4], []) (px_sh L, i, l, r, t) = if x4 ≤ x3 then some (none, (px_sh L, i, l, r, t)) else px_X d 242 (6, [vR k0, vL x1, vJ, vI (px_w32 (x3 + 1)), vI x4], []) (px_sh L, i, (px_up l k0 x3 x1), r, t) := ((xs_ildn k242_6 rfl).trans ((xs_ild k242_7 rfl).trans ((xs_jge k242_9).trans (px_ite (fun c1 => (xs_rv k242_22 rfl)) (fun c1 => ((xs_aldn k242_12 rfl).trans ((xs_ildn k242_13 rfl).trans ((xs_lldn k242_14 rfl).trans ((xs_last k242_15 hk0 (h1 c1) g0).trans ((xs_iinc k242_16 rfl (by omega) (ls' := [vR k0, vL x1, vJ, vI (px_w32 (x3 + 1)), vI x4]) rfl).trans (xs_goto k242_19)))))))))))
end PXL
