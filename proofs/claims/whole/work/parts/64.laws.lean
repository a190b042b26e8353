/-! Block lemmas, by program (wip/whole/gen_blk.py). -/
theorem k63_0 : px_cod 63 0 = some ((.aload_n 0), 1, [], 0) := rfl
theorem k63_1 : px_cod 63 1 = some ((.getfield 17), 3, [146, 5, 4, 1], 2) := rfl
theorem k63_4 : px_cod 63 4 = some ((.iconst (-1)), 1, [], (-1)) := rfl
theorem k63_5 : px_cod 63 5 = some ((.invokestatic 32), 3, [0, 10, 241], 0) := rfl
theorem k63_8 : px_cod 63 8 = some (.return_, 1, [], 0) := rfl
theorem k64_0 : px_cod 64 0 = some ((.iload_n 1), 1, [], 1) := rfl
theorem k64_1 : px_cod 64 1 = some ((.ifCond .lt 21), 3, [22], 0) := rfl
theorem k64_4 : px_cod 64 4 = some ((.iload_n 1), 1, [], 1) := rfl
theorem k64_5 : px_cod 64 5 = some ((.aload_n 0), 1, [], 0) := rfl
theorem k64_6 : px_cod 64 6 = some ((.getfield 11), 3, [145, 5, 4, 1], 1) := rfl
theorem k64_9 : px_cod 64 9 = some (.arraylength, 1, [], 0) := rfl
theorem k64_10 : px_cod 64 10 = some ((.if_icmp .ge 12), 3, [22], 0) := rfl
theorem k64_13 : px_cod 64 13 = some ((.aload_n 0), 1, [], 0) := rfl
theorem k64_14 : px_cod 64 14 = some ((.getfield 11), 3, [145, 5, 4, 1], 1) := rfl
theorem k64_17 : px_cod 64 17 = some ((.iload_n 1), 1, [], 1) := rfl
theorem k64_18 : px_cod 64 18 = some (.aaload, 1, [], 0) := rfl
theorem k64_19 : px_cod 64 19 = some ((.goto 4), 3, [23], 0) := rfl
theorem k64_22 : px_cod 64 22 = some (.aconst_null, 1, [], 0) := rfl
theorem k64_23 : px_cod 64 23 = some (.areturn, 1, [], 0) := rfl
theorem k65_0 : px_cod 65 0 = some ((.iload_n 1), 1, [], 1) := rfl
theorem k65_1 : px_cod 65 1 = some ((.ifCond .lt 12), 3, [13], 0) := rfl
theorem k65_4 : px_cod 65 4 = some ((.iload_n 1), 1, [], 1) := rfl
theorem k65_5 : px_cod 65 5 = some ((.aload_n 0), 1, [], 0) := rfl
theorem k65_6 : px_cod 65 6 = some ((.getfield 17), 3, [146, 5, 4, 1], 2) := rfl
theorem k65_9 : px_cod 65 9 = some (.arraylength, 1, [], 0) := rfl
theorem k65_10 : px_cod 65 10 = some ((.if_icmp .lt 5), 3, [15], 0) := rfl
theorem k65_13 : px_cod 65 13 = some ((.iconst 0), 1, [], 0) := rfl
theorem k65_14 : px_cod 65 14 = some (.ireturn, 1, [], 0) := rfl
theorem k65_15 : px_cod 65 15 = some ((.aload_n 0), 1, [], 0) := rfl
theorem k65_16 : px_cod 65 16 = some ((.getfield 17), 3, [146, 5, 4, 1], 2) := rfl
theorem k65_19 : px_cod 65 19 = some ((.iload_n 1), 1, [], 1) := rfl
theorem k65_20 : px_cod 65 20 = some (.iaload, 1, [], 0) := rfl
theorem k65_21 : px_cod 65 21 = some ((.iconst (-1)), 1, [], (-1)) := rfl
theorem k65_22 : px_cod 65 22 = some ((.if_icmp .ne 93), 3, [115], 0) := rfl
theorem k65_25 : px_cod 65 25 = some ((.aload_n 0), 1, [], 0) := rfl
theorem k65_26 : px_cod 65 26 = some ((.getfield 21), 3, [147, 5, 4, 1], 3) := rfl
theorem k65_29 : px_cod 65 29 = some ((.iconst 0), 1, [], 0) := rfl
theorem k65_30 : px_cod 65 30 = some ((.invokestatic 38), 3, [0, 70, 33], 0) := rfl
theorem k65_33 : px_cod 65 33 = some ((.istore_n 2), 1, [], 2) := rfl
theorem k65_34 : px_cod 65 34 = some ((.aload_n 0), 1, [], 0) := rfl
theorem k65_35 : px_cod 65 35 = some ((.getfield 21), 3, [147, 5, 4, 1], 3) := rfl
theorem k65_38 : px_cod 65 38 = some ((.iconst 0), 1, [], 0) := rfl
theorem k65_39 : px_cod 65 39 = some ((.iload_n 1), 1, [], 1) := rfl
theorem k65_40 : px_cod 65 40 = some ((.invokestatic 42), 3, [0, 71, 34], 0) := rfl
theorem k65_43 : px_cod 65 43 = some ((.aload_n 0), 1, [], 0) := rfl
theorem k65_44 : px_cod 65 44 = some ((.getfield 21), 3, [147, 5, 4, 1], 3) := rfl
theorem k65_47 : px_cod 65 47 = some ((.iconst 1), 1, [], 1) := rfl
theorem k65_48 : px_cod 65 48 = some ((.aload_n 0), 1, [], 0) := rfl
theorem k65_49 : px_cod 65 49 = some ((.getfield 27), 3, [144, 5, 4, 1], 0) := rfl
theorem k65_52 : px_cod 65 52 = some ((.getfield 46), 3, [83, 4, 0, 0], 3) := rfl
theorem k65_55 : px_cod 65 55 = some ((.invokestatic 42), 3, [0, 71, 34], 0) := rfl
theorem k65_58 : px_cod 65 58 = some ((.aload_n 0), 1, [], 0) := rfl
theorem k65_59 : px_cod 65 59 = some ((.getfield 21), 3, [147, 5, 4, 1], 3) := rfl
theorem k65_62 : px_cod 65 62 = some ((.iconst 2), 1, [], 2) := rfl
theorem k65_63 : px_cod 65 63 = some ((.aload_n 0), 1, [], 0) := rfl
theorem k65_64 : px_cod 65 64 = some ((.getfield 27), 3, [144, 5, 4, 1], 0) := rfl
theorem k65_67 : px_cod 65 67 = some ((.getfield 52), 3, [86, 4, 0, 0], 4) := rfl
theorem k65_70 : px_cod 65 70 = some ((.invokestatic 42), 3, [0, 71, 34], 0) := rfl
theorem k65_73 : px_cod 65 73 = some ((.bipush 90), 2, [], 90) := rfl
theorem k65_75 : px_cod 65 75 = some ((.iload_n 1), 1, [], 1) := rfl
theorem k65_76 : px_cod 65 76 = some ((.sipush 720), 3, [], 720) := rfl
theorem k65_79 : px_cod 65 79 = some (.irem, 1, [], 0) := rfl
theorem k65_80 : px_cod 65 80 = some ((.sipush 360), 3, [], 360) := rfl
theorem k65_83 : px_cod 65 83 = some (.isub, 1, [], 0) := rfl
theorem k65_84 : px_cod 65 84 = some ((.invokestatic 55), 3, [7, 11], 0) := rfl
theorem k65_87 : px_cod 65 87 = some ((.iconst 4), 1, [], 4) := rfl
theorem k65_88 : px_cod 65 88 = some (.idiv, 1, [], 0) := rfl
theorem k65_89 : px_cod 65 89 = some (.isub, 1, [], 0) := rfl
theorem k65_90 : px_cod 65 90 = some ((.istore_n 3), 1, [], 3) := rfl
theorem k65_91 : px_cod 65 91 = some ((.aload_n 0), 1, [], 0) := rfl
theorem k65_92 : px_cod 65 92 = some ((.getfield 17), 3, [146, 5, 4, 1], 2) := rfl
theorem k65_95 : px_cod 65 95 = some ((.iload_n 1), 1, [], 1) := rfl
theorem k65_96 : px_cod 65 96 = some ((.aload_n 0), 1, [], 0) := rfl
theorem k65_97 : px_cod 65 97 = some ((.iconst 0), 1, [], 0) := rfl
theorem k65_98 : px_cod 65 98 = some ((.sipush 999), 3, [], 999) := rfl
theorem k65_101 : px_cod 65 101 = some ((.iload_n 3), 1, [], 3) := rfl
theorem k65_102 : px_cod 65 102 = some ((.invokevirtual 61), 3, [0, 72, 71], 0) := rfl
theorem k65_105 : px_cod 65 105 = some (.iastore, 1, [], 0) := rfl
theorem k65_106 : px_cod 65 106 = some ((.aload_n 0), 1, [], 0) := rfl
theorem k65_107 : px_cod 65 107 = some ((.getfield 21), 3, [147, 5, 4, 1], 3) := rfl
theorem k65_110 : px_cod 65 110 = some ((.iconst 0), 1, [], 0) := rfl
theorem k65_111 : px_cod 65 111 = some ((.iload_n 2), 1, [], 2) := rfl
theorem k65_112 : px_cod 65 112 = some ((.invokestatic 42), 3, [0, 71, 34], 0) := rfl
theorem k65_115 : px_cod 65 115 = some ((.aload_n 0), 1, [], 0) := rfl
theorem k65_116 : px_cod 65 116 = some ((.getfield 17), 3, [146, 5, 4, 1], 2) := rfl
theorem k65_119 : px_cod 65 119 = some ((.iload_n 1), 1, [], 1) := rfl
theorem k65_120 : px_cod 65 120 = some (.iaload, 1, [], 0) := rfl
theorem k65_121 : px_cod 65 121 = some (.ireturn, 1, [], 0) := rfl
theorem k66_0 : px_cod 66 0 = some ((.aload_n 0), 1, [], 0) := rfl
theorem k66_1 : px_cod 66 1 = some ((.iload_n 1), 1, [], 1) := rfl
theorem k66_2 : px_cod 66 2 = some ((.invokevirtual 65), 3, [0, 81, 65], 0) := rfl
theorem k66_5 : px_cod 66 5 = some ((.istore_n 2), 1, [], 2) := rfl
theorem k66_6 : px_cod 66 6 = some ((.aload_n 0), 1, [], 0) := rfl
theorem k66_7 : px_cod 66 7 = some ((.getfield 21), 3, [147, 5, 4, 1], 3) := rfl
theorem k66_10 : px_cod 66 10 = some ((.iconst 0), 1, [], 0) := rfl
theorem k66_11 : px_cod 66 11 = some ((.iload_n 1), 1, [], 1) := rfl
theorem k66_12 : px_cod 66 12 = some ((.invokestatic 42), 3, [0, 71, 34], 0) := rfl
theorem k66_15 : px_cod 66 15 = some ((.aload_n 0), 1, [], 0) := rfl
theorem k66_16 : px_cod 66 16 = some ((.getfield 21), 3, [147, 5, 4, 1], 3) := rfl
theorem k66_19 : px_cod 66 19 = some ((.bipush 8), 2, [], 8) := rfl
theorem k66_21 : px_cod 66 21 = some ((.iload_n 2), 1, [], 2) := rfl
theorem k66_22 : px_cod 66 22 = some ((.invokestatic 42), 3, [0, 71, 34], 0) := rfl
theorem k66_25 : px_cod 66 25 = some (.return_, 1, [], 0) := rfl
theorem k67_0 : px_cod 67 0 = some ((.aload_n 0), 1, [], 0) := rfl
theorem k67_1 : px_cod 67 1 = some ((.getfield 27), 3, [144, 5, 4, 1], 0) := rfl
theorem k67_4 : px_cod 67 4 = some ((.iload_n 1), 1, [], 1) := rfl
theorem k67_5 : px_cod 67 5 = some ((.invokevirtual 68), 3, [0, 90, 52], 0) := rfl
theorem k67_8 : px_cod 67 8 = some ((.astore 4), 2, [], 4) := rfl
theorem k67_10 : px_cod 67 10 = some ((.aload_n 0), 1, [], 0) := rfl
theorem k67_11 : px_cod 67 11 = some ((.getfield 27), 3, [144, 5, 4, 1], 0) := rfl
theorem k67_14 : px_cod 67 14 = some ((.iload_n 2), 1, [], 2) := rfl
theorem k67_15 : px_cod 67 15 = some ((.invokevirtual 72), 3, [0, 91, 56], 0) := rfl
theorem k67_18 : px_cod 67 18 = some ((.istore 5), 2, [], 5) := rfl
theorem k67_20 : px_cod 67 20 = some ((.aload_n 0), 1, [], 0) := rfl
theorem k67_21 : px_cod 67 21 = some ((.aload_n 0), 1, [], 0) := rfl
theorem k67_22 : px_cod 67 22 = some ((.getfield 27), 3, [144, 5, 4, 1], 0) := rfl
theorem k67_25 : px_cod 67 25 = some ((.getfield 75), 3, [98, 4, 0, 0], 8) := rfl
theorem k67_28 : px_cod 67 28 = some ((.invokevirtual 78), 3, [0, 73, 64], 0) := rfl
theorem k67_31 : px_cod 67 31 = some ((.astore 6), 2, [], 6) := rfl
theorem k67_33 : px_cod 67 33 = some ((.aload 4), 2, [], 4) := rfl
theorem k67_35 : px_cod 67 35 = some ((.ifnull 8), 3, [43], 0) := rfl
theorem k67_38 : px_cod 67 38 = some ((.aload 6), 2, [], 6) := rfl
theorem k67_40 : px_cod 67 40 = some ((.ifnonnull 6), 3, [46], 0) := rfl
theorem k67_43 : px_cod 67 43 = some ((.iload 5), 2, [], 5) := rfl
theorem k67_45 : px_cod 67 45 = some (.ireturn, 1, [], 0) := rfl
theorem k67_46 : px_cod 67 46 = some ((.aload_n 0), 1, [], 0) := rfl
theorem k67_47 : px_cod 67 47 = some ((.getfield 21), 3, [147, 5, 4, 1], 3) := rfl
theorem k67_50 : px_cod 67 50 = some ((.iconst 3), 1, [], 3) := rfl
theorem k67_51 : px_cod 67 51 = some ((.aload 4), 2, [], 4) := rfl
theorem k67_53 : px_cod 67 53 = some ((.getfield 82), 3, [50, 3, 0, 0], 0) := rfl
theorem k67_56 : px_cod 67 56 = some ((.invokestatic 42), 3, [0, 71, 34], 0) := rfl
theorem k67_59 : px_cod 67 59 = some ((.aload_n 0), 1, [], 0) := rfl
theorem k67_60 : px_cod 67 60 = some ((.getfield 21), 3, [147, 5, 4, 1], 3) := rfl
theorem k67_63 : px_cod 67 63 = some ((.iconst 4), 1, [], 4) := rfl
theorem k67_64 : px_cod 67 64 = some ((.aload 4), 2, [], 4) := rfl
theorem k67_66 : px_cod 67 66 = some ((.getfield 87), 3, [55, 3, 1, 0], 2) := rfl
theorem k67_69 : px_cod 67 69 = some ((.ifCond .eq 7), 3, [76], 0) := rfl
theorem k67_72 : px_cod 67 72 = some ((.iconst 1), 1, [], 1) := rfl
theorem k67_73 : px_cod 67 73 = some ((.goto 4), 3, [77], 0) := rfl
theorem k67_76 : px_cod 67 76 = some ((.iconst 0), 1, [], 0) := rfl
theorem k67_77 : px_cod 67 77 = some ((.invokestatic 42), 3, [0, 71, 34], 0) := rfl
theorem k67_80 : px_cod 67 80 = some ((.aload_n 0), 1, [], 0) := rfl
theorem k67_81 : px_cod 67 81 = some ((.getfield 21), 3, [147, 5, 4, 1], 3) := rfl
theorem k67_84 : px_cod 67 84 = some ((.iconst 5), 1, [], 5) := rfl
theorem k67_85 : px_cod 67 85 = some ((.aload 4), 2, [], 4) := rfl
theorem k67_87 : px_cod 67 87 = some ((.getfield 91), 3, [57, 3, 0, 0], 3) := rfl
theorem k67_90 : px_cod 67 90 = some ((.invokestatic 42), 3, [0, 71, 34], 0) := rfl
theorem k67_93 : px_cod 67 93 = some ((.aload_n 0), 1, [], 0) := rfl
theorem k67_94 : px_cod 67 94 = some ((.getfield 21), 3, [147, 5, 4, 1], 3) := rfl
theorem k67_97 : px_cod 67 97 = some ((.bipush 6), 2, [], 6) := rfl
theorem k67_99 : px_cod 67 99 = some ((.aload 4), 2, [], 4) := rfl
theorem k67_101 : px_cod 67 101 = some ((.getfield 94), 3, [59, 3, 0, 0], 4) := rfl
theorem k67_104 : px_cod 67 104 = some ((.invokestatic 42), 3, [0, 71, 34], 0) := rfl
theorem k67_107 : px_cod 67 107 = some ((.aload_n 0), 1, [], 0) := rfl
theorem k67_108 : px_cod 67 108 = some ((.getfield 21), 3, [147, 5, 4, 1], 3) := rfl
theorem k67_111 : px_cod 67 111 = some ((.bipush 7), 2, [], 7) := rfl
theorem k67_113 : px_cod 67 113 = some ((.aload_n 0), 1, [], 0) := rfl
theorem k67_114 : px_cod 67 114 = some ((.getfield 27), 3, [144, 5, 4, 1], 0) := rfl
theorem k67_117 : px_cod 67 117 = some ((.iload_n 2), 1, [], 2) := rfl
theorem k67_118 : px_cod 67 118 = some ((.invokevirtual 72), 3, [0, 91, 56], 0) := rfl
theorem k67_121 : px_cod 67 121 = some ((.invokestatic 42), 3, [0, 71, 34], 0) := rfl
theorem k67_124 : px_cod 67 124 = some ((.aload_n 0), 1, [], 0) := rfl
theorem k67_125 : px_cod 67 125 = some ((.getfield 21), 3, [147, 5, 4, 1], 3) := rfl
theorem k67_128 : px_cod 67 128 = some ((.bipush 9), 2, [], 9) := rfl
theorem k67_130 : px_cod 67 130 = some ((.iload_n 3), 1, [], 3) := rfl
theorem k67_131 : px_cod 67 131 = some ((.invokestatic 42), 3, [0, 71, 34], 0) := rfl
theorem k67_134 : px_cod 67 134 = some ((.iconst 0), 1, [], 0) := rfl
theorem k67_135 : px_cod 67 135 = some ((.istore 7), 2, [], 7) := rfl
theorem k67_137 : px_cod 67 137 = some ((.iload 7), 2, [], 7) := rfl
theorem k67_139 : px_cod 67 139 = some ((.aload 6), 2, [], 6) := rfl
theorem k67_141 : px_cod 67 141 = some ((.getfield 97), 3, [116, 11, 0, 0], 1) := rfl
theorem k67_144 : px_cod 67 144 = some ((.if_icmp .ge 64), 3, [208], 0) := rfl
theorem k67_147 : px_cod 67 147 = some ((.iload 7), 2, [], 7) := rfl
theorem k67_149 : px_cod 67 149 = some ((.bipush 10), 2, [], 10) := rfl
theorem k67_151 : px_cod 67 151 = some ((.if_icmp .ge 57), 3, [208], 0) := rfl
theorem k67_154 : px_cod 67 154 = some ((.aload 6), 2, [], 6) := rfl
theorem k67_156 : px_cod 67 156 = some ((.getfield 100), 3, [121, 11, 4, 1], 3) := rfl
theorem k67_159 : px_cod 67 159 = some ((.iload 7), 2, [], 7) := rfl
theorem k67_161 : px_cod 67 161 = some ((.invokestatic 38), 3, [0, 70, 33], 0) := rfl
theorem k67_164 : px_cod 67 164 = some ((.istore 8), 2, [], 8) := rfl
theorem k67_166 : px_cod 67 166 = some ((.iload 8), 2, [], 8) := rfl
theorem k67_168 : px_cod 67 168 = some ((.iconst 4), 1, [], 4) := rfl
theorem k67_169 : px_cod 67 169 = some ((.if_icmp .ne 17), 3, [186], 0) := rfl
theorem k67_172 : px_cod 67 172 = some ((.aload_n 0), 1, [], 0) := rfl
theorem k67_173 : px_cod 67 173 = some ((.aload 6), 2, [], 6) := rfl
theorem k67_175 : px_cod 67 175 = some ((.iload 7), 2, [], 7) := rfl
theorem k67_177 : px_cod 67 177 = some ((.invokevirtual 103), 3, [0, 76, 72], 0) := rfl
theorem k67_180 : px_cod 67 180 = some ((.ifCond .eq 6), 3, [186], 0) := rfl
theorem k67_183 : px_cod 67 183 = some ((.ldc 107), 2, [0, 3], (-2000000)) := rfl
theorem k67_185 : px_cod 67 185 = some (.ireturn, 1, [], 0) := rfl
theorem k67_186 : px_cod 67 186 = some ((.iload 8), 2, [], 8) := rfl
theorem k67_188 : px_cod 67 188 = some ((.iconst 1), 1, [], 1) := rfl
theorem k67_189 : px_cod 67 189 = some ((.if_icmp .ne 13), 3, [202], 0) := rfl
theorem k67_192 : px_cod 67 192 = some ((.aload_n 0), 1, [], 0) := rfl
theorem k67_193 : px_cod 67 193 = some ((.aload 6), 2, [], 6) := rfl
theorem k67_195 : px_cod 67 195 = some ((.iload 7), 2, [], 7) := rfl
theorem k67_197 : px_cod 67 197 = some ((.invokevirtual 103), 3, [0, 76, 72], 0) := rfl
theorem k67_200 : px_cod 67 200 = some ((.istore 5), 2, [], 5) := rfl
theorem k67_202 : px_cod 67 202 = some ((.iinc 7 1), 3, [7], 1) := rfl
theorem k67_205 : px_cod 67 205 = some ((.goto (-68)), 3, [137], 0) := rfl
theorem k67_208 : px_cod 67 208 = some ((.iload 5), 2, [], 5) := rfl
theorem k67_210 : px_cod 67 210 = some (.ireturn, 1, [], 0) := rfl
theorem k68_0 : px_cod 68 0 = some ((.aload_n 0), 1, [], 0) := rfl
theorem k68_1 : px_cod 68 1 = some ((.getfield 27), 3, [144, 5, 4, 1], 0) := rfl
theorem k68_4 : px_cod 68 4 = some ((.iload_n 1), 1, [], 1) := rfl
theorem k68_5 : px_cod 68 5 = some ((.invokevirtual 68), 3, [0, 90, 52], 0) := rfl
theorem k68_8 : px_cod 68 8 = some ((.astore_n 3), 1, [], 3) := rfl
theorem k68_9 : px_cod 68 9 = some ((.aload_n 0), 1, [], 0) := rfl
theorem k68_10 : px_cod 68 10 = some ((.getfield 27), 3, [144, 5, 4, 1], 0) := rfl
theorem k68_13 : px_cod 68 13 = some ((.iload_n 2), 1, [], 2) := rfl
theorem k68_14 : px_cod 68 14 = some ((.invokevirtual 68), 3, [0, 90, 52], 0) := rfl
theorem k68_17 : px_cod 68 17 = some ((.astore 4), 2, [], 4) := rfl
theorem k68_19 : px_cod 68 19 = some ((.aload_n 0), 1, [], 0) := rfl
theorem k68_20 : px_cod 68 20 = some ((.aload_n 0), 1, [], 0) := rfl
theorem k68_21 : px_cod 68 21 = some ((.getfield 27), 3, [144, 5, 4, 1], 0) := rfl
theorem k68_24 : px_cod 68 24 = some ((.getfield 75), 3, [98, 4, 0, 0], 8) := rfl
theorem k68_27 : px_cod 68 27 = some ((.invokevirtual 78), 3, [0, 73, 64], 0) := rfl
theorem k68_30 : px_cod 68 30 = some ((.astore 5), 2, [], 5) := rfl
theorem k68_32 : px_cod 68 32 = some ((.aload_n 3), 1, [], 3) := rfl
theorem k68_33 : px_cod 68 33 = some ((.ifnull 13), 3, [46], 0) := rfl
theorem k68_36 : px_cod 68 36 = some ((.aload 4), 2, [], 4) := rfl
theorem k68_38 : px_cod 68 38 = some ((.ifnull 8), 3, [46], 0) := rfl
theorem k68_41 : px_cod 68 41 = some ((.aload 5), 2, [], 5) := rfl
theorem k68_43 : px_cod 68 43 = some ((.ifnonnull 5), 3, [48], 0) := rfl
theorem k68_46 : px_cod 68 46 = some ((.iconst 0), 1, [], 0) := rfl
theorem k68_47 : px_cod 68 47 = some (.ireturn, 1, [], 0) := rfl
theorem k68_48 : px_cod 68 48 = some ((.aload_n 0), 1, [], 0) := rfl
theorem k68_49 : px_cod 68 49 = some ((.getfield 21), 3, [147, 5, 4, 1], 3) := rfl
theorem k68_52 : px_cod 68 52 = some ((.iconst 3), 1, [], 3) := rfl
theorem k68_53 : px_cod 68 53 = some ((.aload_n 3), 1, [], 3) := rfl
theorem k68_54 : px_cod 68 54 = some ((.getfield 82), 3, [50, 3, 0, 0], 0) := rfl
theorem k68_57 : px_cod 68 57 = some ((.invokestatic 42), 3, [0, 71, 34], 0) := rfl
theorem k68_60 : px_cod 68 60 = some ((.aload_n 0), 1, [], 0) := rfl
theorem k68_61 : px_cod 68 61 = some ((.getfield 21), 3, [147, 5, 4, 1], 3) := rfl
theorem k68_64 : px_cod 68 64 = some ((.iconst 5), 1, [], 5) := rfl
theorem k68_65 : px_cod 68 65 = some ((.aload_n 3), 1, [], 3) := rfl
theorem k68_66 : px_cod 68 66 = some ((.getfield 91), 3, [57, 3, 0, 0], 3) := rfl
theorem k68_69 : px_cod 68 69 = some ((.invokestatic 42), 3, [0, 71, 34], 0) := rfl
theorem k68_72 : px_cod 68 72 = some ((.aload_n 0), 1, [], 0) := rfl
theorem k68_73 : px_cod 68 73 = some ((.getfield 21), 3, [147, 5, 4, 1], 3) := rfl
theorem k68_76 : px_cod 68 76 = some ((.bipush 10), 2, [], 10) := rfl
theorem k68_78 : px_cod 68 78 = some ((.aload 4), 2, [], 4) := rfl
theorem k68_80 : px_cod 68 80 = some ((.getfield 82), 3, [50, 3, 0, 0], 0) := rfl
theorem k68_83 : px_cod 68 83 = some ((.invokestatic 42), 3, [0, 71, 34], 0) := rfl
theorem k68_86 : px_cod 68 86 = some ((.iconst 0), 1, [], 0) := rfl
theorem k68_87 : px_cod 68 87 = some ((.istore 6), 2, [], 6) := rfl
theorem k68_89 : px_cod 68 89 = some ((.iload 6), 2, [], 6) := rfl
theorem k68_91 : px_cod 68 91 = some ((.aload 5), 2, [], 5) := rfl
theorem k68_93 : px_cod 68 93 = some ((.getfield 97), 3, [116, 11, 0, 0], 1) := rfl
theorem k68_96 : px_cod 68 96 = some ((.if_icmp .ge 43), 3, [139], 0) := rfl
theorem k68_99 : px_cod 68 99 = some ((.iload 6), 2, [], 6) := rfl
theorem k68_101 : px_cod 68 101 = some ((.bipush 10), 2, [], 10) := rfl
theorem k68_103 : px_cod 68 103 = some ((.if_icmp .ge 36), 3, [139], 0) := rfl
theorem k68_106 : px_cod 68 106 = some ((.aload 5), 2, [], 5) := rfl
theorem k68_108 : px_cod 68 108 = some ((.getfield 100), 3, [121, 11, 4, 1], 3) := rfl
theorem k68_111 : px_cod 68 111 = some ((.iload 6), 2, [], 6) := rfl
theorem k68_113 : px_cod 68 113 = some ((.invokestatic 38), 3, [0, 70, 33], 0) := rfl
theorem k68_116 : px_cod 68 116 = some ((.iconst 5), 1, [], 5) := rfl
theorem k68_117 : px_cod 68 117 = some ((.if_icmp .ne 16), 3, [133], 0) := rfl
theorem k68_120 : px_cod 68 120 = some ((.aload_n 0), 1, [], 0) := rfl
theorem k68_121 : px_cod 68 121 = some ((.aload 5), 2, [], 5) := rfl
theorem k68_123 : px_cod 68 123 = some ((.iload 6), 2, [], 6) := rfl
theorem k68_125 : px_cod 68 125 = some ((.invokevirtual 103), 3, [0, 76, 72], 0) := rfl
theorem k68_128 : px_cod 68 128 = some ((.ifCond .eq 5), 3, [133], 0) := rfl
theorem k68_131 : px_cod 68 131 = some ((.iconst 1), 1, [], 1) := rfl
theorem k68_132 : px_cod 68 132 = some (.ireturn, 1, [], 0) := rfl
theorem k68_133 : px_cod 68 133 = some ((.iinc 6 1), 3, [6], 1) := rfl
theorem k68_136 : px_cod 68 136 = some ((.goto (-47)), 3, [89], 0) := rfl
theorem k68_139 : px_cod 68 139 = some ((.iconst 0), 1, [], 0) := rfl
theorem k68_140 : px_cod 68 140 = some (.ireturn, 1, [], 0) := rfl
theorem k69_0 : px_cod 69 0 = some ((.aload_n 0), 1, [], 0) := rfl
theorem k69_1 : px_cod 69 1 = some ((.getfield 27), 3, [144, 5, 4, 1], 0) := rfl
theorem k69_4 : px_cod 69 4 = some ((.iload_n 1), 1, [], 1) := rfl
theorem k69_5 : px_cod 69 5 = some ((.invokevirtual 68), 3, [0, 90, 52], 0) := rfl
theorem k69_8 : px_cod 69 8 = some ((.astore_n 2), 1, [], 2) := rfl
theorem k69_9 : px_cod 69 9 = some ((.aload_n 0), 1, [], 0) := rfl
theorem k69_10 : px_cod 69 10 = some ((.getfield 27), 3, [144, 5, 4, 1], 0) := rfl
theorem k69_13 : px_cod 69 13 = some ((.getfield 108), 3, [79, 4, 4, 1], 2) := rfl
theorem k69_16 : px_cod 69 16 = some ((.astore_n 3), 1, [], 3) := rfl
theorem k69_17 : px_cod 69 17 = some ((.aload_n 2), 1, [], 2) := rfl
theorem k69_18 : px_cod 69 18 = some ((.ifnull 14), 3, [32], 0) := rfl
theorem k69_21 : px_cod 69 21 = some ((.aload_n 3), 1, [], 3) := rfl
theorem k69_22 : px_cod 69 22 = some ((.getfield 112), 3, [18, 7, 0, 0], 2) := rfl
theorem k69_25 : px_cod 69 25 = some ((.iload_n 1), 1, [], 1) := rfl
theorem k69_26 : px_cod 69 26 = some ((.invokestatic 117), 3, [0, 113, 32], 0) := rfl
theorem k69_29 : px_cod 69 29 = some ((.ifCond .ne 5), 3, [34], 0) := rfl
theorem k69_32 : px_cod 69 32 = some ((.iconst 0), 1, [], 0) := rfl
theorem k69_33 : px_cod 69 33 = some (.ireturn, 1, [], 0) := rfl
theorem k69_34 : px_cod 69 34 = some ((.aload_n 3), 1, [], 3) := rfl
theorem k69_35 : px_cod 69 35 = some ((.getfield 121), 3, [20, 7, 4, 1], 3) := rfl
theorem k69_38 : px_cod 69 38 = some ((.iload_n 1), 1, [], 1) := rfl
theorem k69_39 : px_cod 69 39 = some ((.invokestatic 38), 3, [0, 70, 33], 0) := rfl
theorem k69_42 : px_cod 69 42 = some ((.istore 4), 2, [], 4) := rfl
theorem k69_44 : px_cod 69 44 = some ((.aload_n 0), 1, [], 0) := rfl
theorem k69_45 : px_cod 69 45 = some ((.getfield 21), 3, [147, 5, 4, 1], 3) := rfl
theorem k69_48 : px_cod 69 48 = some ((.iconst 3), 1, [], 3) := rfl
theorem k69_49 : px_cod 69 49 = some ((.aload_n 2), 1, [], 2) := rfl
theorem k69_50 : px_cod 69 50 = some ((.getfield 82), 3, [50, 3, 0, 0], 0) := rfl
theorem k69_53 : px_cod 69 53 = some ((.invokestatic 42), 3, [0, 71, 34], 0) := rfl
theorem k69_56 : px_cod 69 56 = some ((.aload_n 0), 1, [], 0) := rfl
theorem k69_57 : px_cod 69 57 = some ((.getfield 21), 3, [147, 5, 4, 1], 3) := rfl
theorem k69_60 : px_cod 69 60 = some ((.bipush 6), 2, [], 6) := rfl
theorem k69_62 : px_cod 69 62 = some ((.aload_n 2), 1, [], 2) := rfl
theorem k69_63 : px_cod 69 63 = some ((.getfield 94), 3, [59, 3, 0, 0], 4) := rfl
theorem k69_66 : px_cod 69 66 = some ((.invokestatic 42), 3, [0, 71, 34], 0) := rfl
theorem k69_69 : px_cod 69 69 = some ((.aload_n 0), 1, [], 0) := rfl
theorem k69_70 : px_cod 69 70 = some ((.getfield 21), 3, [147, 5, 4, 1], 3) := rfl
theorem k69_73 : px_cod 69 73 = some ((.bipush 11), 2, [], 11) := rfl
theorem k69_75 : px_cod 69 75 = some ((.iload 4), 2, [], 4) := rfl
theorem k69_77 : px_cod 69 77 = some ((.invokestatic 42), 3, [0, 71, 34], 0) := rfl
theorem k69_80 : px_cod 69 80 = some ((.aload_n 0), 1, [], 0) := rfl
theorem k69_81 : px_cod 69 81 = some ((.getfield 21), 3, [147, 5, 4, 1], 3) := rfl
theorem k69_84 : px_cod 69 84 = some ((.bipush 12), 2, [], 12) := rfl
theorem k69_86 : px_cod 69 86 = some ((.aload_n 3), 1, [], 3) := rfl
theorem k69_87 : px_cod 69 87 = some ((.getfield 124), 3, [28, 7, 4, 1], 5) := rfl
theorem k69_90 : px_cod 69 90 = some ((.iload_n 1), 1, [], 1) := rfl
theorem k69_91 : px_cod 69 91 = some ((.invokestatic 38), 3, [0, 70, 33], 0) := rfl
theorem k69_94 : px_cod 69 94 = some ((.invokestatic 42), 3, [0, 71, 34], 0) := rfl
theorem k69_97 : px_cod 69 97 = some ((.aload_n 0), 1, [], 0) := rfl
theorem k69_98 : px_cod 69 98 = some ((.getfield 21), 3, [147, 5, 4, 1], 3) := rfl
theorem k69_101 : px_cod 69 101 = some ((.bipush 13), 2, [], 13) := rfl
theorem k69_103 : px_cod 69 103 = some ((.aload_n 2), 1, [], 2) := rfl
theorem k69_104 : px_cod 69 104 = some ((.getfield 127), 3, [67, 3, 0, 0], 7) := rfl
theorem k69_107 : px_cod 69 107 = some ((.invokestatic 42), 3, [0, 71, 34], 0) := rfl
theorem k69_110 : px_cod 69 110 = some ((.aload_n 0), 1, [], 0) := rfl
theorem k69_111 : px_cod 69 111 = some ((.iconst 2), 1, [], 2) := rfl
theorem k69_112 : px_cod 69 112 = some ((.ldc 130), 2, [0, 5], 999999) := rfl
theorem k69_114 : px_cod 69 114 = some ((.iload 4), 2, [], 4) := rfl
theorem k69_116 : px_cod 69 116 = some ((.bipush 59), 2, [], 59) := rfl
theorem k69_118 : px_cod 69 118 = some (.iadd, 1, [], 0) := rfl
theorem k69_119 : px_cod 69 119 = some ((.bipush 60), 2, [], 60) := rfl
theorem k69_121 : px_cod 69 121 = some (.idiv, 1, [], 0) := rfl
theorem k69_122 : px_cod 69 122 = some ((.bipush 10), 2, [], 10) := rfl
theorem k69_124 : px_cod 69 124 = some (.imul, 1, [], 0) := rfl
theorem k69_125 : px_cod 69 125 = some ((.aload_n 2), 1, [], 2) := rfl
theorem k69_126 : px_cod 69 126 = some ((.getfield 127), 3, [67, 3, 0, 0], 7) := rfl
theorem k69_129 : px_cod 69 129 = some (.iadd, 1, [], 0) := rfl
theorem k69_130 : px_cod 69 130 = some ((.invokevirtual 61), 3, [0, 72, 71], 0) := rfl
theorem k69_133 : px_cod 69 133 = some (.ireturn, 1, [], 0) := rfl
theorem k70_0 : px_cod 70 0 = some ((.aload_n 0), 1, [], 0) := rfl
theorem k70_1 : px_cod 70 1 = some ((.getfield 21), 3, [147, 5, 4, 1], 3) := rfl
theorem k70_4 : px_cod 70 4 = some ((.bipush 14), 2, [], 14) := rfl
theorem k70_6 : px_cod 70 6 = some ((.iload_n 1), 1, [], 1) := rfl
theorem k70_7 : px_cod 70 7 = some ((.invokestatic 42), 3, [0, 71, 34], 0) := rfl
theorem k70_10 : px_cod 70 10 = some ((.aload_n 0), 1, [], 0) := rfl
theorem k70_11 : px_cod 70 11 = some ((.iconst 3), 1, [], 3) := rfl
theorem k70_12 : px_cod 70 12 = some ((.ldc 131), 2, [0, 14], 99999) := rfl
theorem k70_14 : px_cod 70 14 = some ((.bipush 100), 2, [], 100) := rfl
theorem k70_16 : px_cod 70 16 = some ((.iload_n 1), 1, [], 1) := rfl
theorem k70_17 : px_cod 70 17 = some (.imul, 1, [], 0) := rfl
theorem k70_18 : px_cod 70 18 = some ((.invokevirtual 61), 3, [0, 72, 71], 0) := rfl
theorem k70_21 : px_cod 70 21 = some (.ireturn, 1, [], 0) := rfl
theorem k71_0 : px_cod 71 0 = some ((.aload_n 0), 1, [], 0) := rfl
theorem k71_1 : px_cod 71 1 = some ((.aload_n 0), 1, [], 0) := rfl
theorem k71_2 : px_cod 71 2 = some ((.getfield 27), 3, [144, 5, 4, 1], 0) := rfl
theorem k71_5 : px_cod 71 5 = some ((.getfield 75), 3, [98, 4, 0, 0], 8) := rfl
theorem k71_8 : px_cod 71 8 = some ((.invokevirtual 78), 3, [0, 73, 64], 0) := rfl
theorem k71_11 : px_cod 71 11 = some ((.astore 4), 2, [], 4) := rfl
theorem k71_13 : px_cod 71 13 = some ((.aload 4), 2, [], 4) := rfl
theorem k71_15 : px_cod 71 15 = some ((.ifnonnull 7), 3, [22], 0) := rfl
theorem k71_18 : px_cod 71 18 = some ((.iconst (-1)), 1, [], (-1)) := rfl
theorem k71_19 : px_cod 71 19 = some ((.goto 9), 3, [28], 0) := rfl
theorem k71_22 : px_cod 71 22 = some ((.aload 4), 2, [], 4) := rfl
theorem k71_24 : px_cod 71 24 = some ((.iload_n 1), 1, [], 1) := rfl
theorem k71_25 : px_cod 71 25 = some ((.invokevirtual 132), 3, [0, 74, 138], 0) := rfl
theorem k71_28 : px_cod 71 28 = some ((.istore 5), 2, [], 5) := rfl
theorem k71_30 : px_cod 71 30 = some ((.iload 5), 2, [], 5) := rfl
theorem k71_32 : px_cod 71 32 = some ((.iconst (-1)), 1, [], (-1)) := rfl
theorem k71_33 : px_cod 71 33 = some ((.if_icmp .ne 5), 3, [38], 0) := rfl
theorem k71_36 : px_cod 71 36 = some ((.iload_n 3), 1, [], 3) := rfl
theorem k71_37 : px_cod 71 37 = some (.ireturn, 1, [], 0) := rfl
theorem k71_38 : px_cod 71 38 = some ((.iconst 0), 1, [], 0) := rfl
theorem k71_39 : px_cod 71 39 = some ((.iload_n 2), 1, [], 2) := rfl
theorem k71_40 : px_cod 71 40 = some ((.aload_n 0), 1, [], 0) := rfl
theorem k71_41 : px_cod 71 41 = some ((.aload 4), 2, [], 4) := rfl
theorem k71_43 : px_cod 71 43 = some ((.iload 5), 2, [], 5) := rfl
theorem k71_45 : px_cod 71 45 = some ((.invokevirtual 103), 3, [0, 76, 72], 0) := rfl
theorem k71_48 : px_cod 71 48 = some ((.invokestatic 135), 3, [6, 12], 0) := rfl
theorem k71_51 : px_cod 71 51 = some ((.invokestatic 139), 3, [5, 13], 0) := rfl
theorem k71_54 : px_cod 71 54 = some (.ireturn, 1, [], 0) := rfl
theorem k72_0 : px_cod 72 0 = some ((.iconst 0), 1, [], 0) := rfl
theorem k72_1 : px_cod 72 1 = some ((.istore_n 3), 1, [], 3) := rfl
theorem k72_2 : px_cod 72 2 = some ((.aload_n 1), 1, [], 1) := rfl
theorem k72_3 : px_cod 72 3 = some ((.getfield 142), 3, [125, 11, 4, 1], 5) := rfl
theorem k72_6 : px_cod 72 6 = some ((.iload_n 2), 1, [], 2) := rfl
theorem k72_7 : px_cod 72 7 = some ((.invokestatic 38), 3, [0, 70, 33], 0) := rfl
theorem k72_10 : px_cod 72 10 = some ((.aload_n 1), 1, [], 1) := rfl
theorem k72_11 : px_cod 72 11 = some ((.getfield 145), 3, [119, 11, 4, 1], 2) := rfl
theorem k72_14 : px_cod 72 14 = some (.arraylength, 1, [], 0) := rfl
theorem k72_15 : px_cod 72 15 = some ((.invokestatic 135), 3, [6, 12], 0) := rfl
theorem k72_18 : px_cod 72 18 = some ((.istore 4), 2, [], 4) := rfl
theorem k72_20 : px_cod 72 20 = some ((.iconst 0), 1, [], 0) := rfl
theorem k72_21 : px_cod 72 21 = some ((.aload_n 1), 1, [], 1) := rfl
theorem k72_22 : px_cod 72 22 = some ((.getfield 148), 3, [123, 11, 4, 1], 4) := rfl
theorem k72_25 : px_cod 72 25 = some ((.iload_n 2), 1, [], 2) := rfl
theorem k72_26 : px_cod 72 26 = some ((.invokestatic 38), 3, [0, 70, 33], 0) := rfl
theorem k72_29 : px_cod 72 29 = some ((.invokestatic 139), 3, [5, 13], 0) := rfl
theorem k72_32 : px_cod 72 32 = some ((.istore 5), 2, [], 5) := rfl
theorem k72_34 : px_cod 72 34 = some ((.iload 5), 2, [], 5) := rfl
theorem k72_36 : px_cod 72 36 = some ((.iload 4), 2, [], 4) := rfl
theorem k72_38 : px_cod 72 38 = some ((.if_icmp .ge 179), 3, [217], 0) := rfl
theorem k72_41 : px_cod 72 41 = some ((.aload_n 1), 1, [], 1) := rfl
theorem k72_42 : px_cod 72 42 = some ((.getfield 145), 3, [119, 11, 4, 1], 2) := rfl
theorem k72_45 : px_cod 72 45 = some ((.iload 5), 2, [], 5) := rfl
theorem k72_47 : px_cod 72 47 = some (.iaload, 1, [], 0) := rfl
theorem k72_48 : px_cod 72 48 = some ((.istore 6), 2, [], 6) := rfl
theorem k72_50 : px_cod 72 50 = some ((.iload 6), 2, [], 6) := rfl
theorem k72_52 : px_cod 72 52 = some ((.sipush 10000), 3, [], 10000) := rfl
theorem k72_55 : px_cod 72 55 = some (.isub, 1, [], 0) := rfl
theorem k72_56 : px_cod 72 56 = some ((.istore 7), 2, [], 7) := rfl
theorem k72_58 : px_cod 72 58 = some ((.iload 7), 2, [], 7) := rfl
theorem k72_60 : px_cod 72 60 = some ((.ifCond .ge 19), 3, [79], 0) := rfl
theorem k72_63 : px_cod 72 63 = some ((.aload_n 0), 1, [], 0) := rfl
theorem k72_64 : px_cod 72 64 = some ((.getfield 24), 3, [148, 5, 4, 1], 4) := rfl
theorem k72_67 : px_cod 72 67 = some ((.iload_n 3), 1, [], 3) := rfl
theorem k72_68 : px_cod 72 68 = some ((.iload 6), 2, [], 6) := rfl
theorem k72_70 : px_cod 72 70 = some ((.invokestatic 42), 3, [0, 71, 34], 0) := rfl
theorem k72_73 : px_cod 72 73 = some ((.iinc 3 1), 3, [3], 1) := rfl
theorem k72_76 : px_cod 72 76 = some ((.goto 135), 3, [211], 0) := rfl
theorem k72_79 : px_cod 72 79 = some ((.iload 7), 2, [], 7) := rfl
theorem k72_81 : px_cod 72 81 = some ((.bipush 33), 2, [], 33) := rfl
theorem k72_83 : px_cod 72 83 = some ((.if_icmp .lt 29), 3, [112], 0) := rfl
theorem k72_86 : px_cod 72 86 = some ((.aload_n 0), 1, [], 0) := rfl
theorem k72_87 : px_cod 72 87 = some ((.getfield 24), 3, [148, 5, 4, 1], 4) := rfl
theorem k72_90 : px_cod 72 90 = some ((.iload_n 3), 1, [], 3) := rfl
theorem k72_91 : px_cod 72 91 = some ((.aload_n 0), 1, [], 0) := rfl
theorem k72_92 : px_cod 72 92 = some ((.getfield 21), 3, [147, 5, 4, 1], 3) := rfl
theorem k72_95 : px_cod 72 95 = some ((.iload 7), 2, [], 7) := rfl
theorem k72_97 : px_cod 72 97 = some ((.bipush 33), 2, [], 33) := rfl
theorem k72_99 : px_cod 72 99 = some (.isub, 1, [], 0) := rfl
theorem k72_100 : px_cod 72 100 = some ((.invokestatic 38), 3, [0, 70, 33], 0) := rfl
theorem k72_103 : px_cod 72 103 = some ((.invokestatic 42), 3, [0, 71, 34], 0) := rfl
theorem k72_106 : px_cod 72 106 = some ((.iinc 3 1), 3, [3], 1) := rfl
theorem k72_109 : px_cod 72 109 = some ((.goto 102), 3, [211], 0) := rfl
theorem k72_112 : px_cod 72 112 = some ((.iload 7), 2, [], 7) := rfl
theorem k72_114 : px_cod 72 114 = some ((.bipush 20), 2, [], 20) := rfl
theorem k72_116 : px_cod 72 116 = some ((.if_icmp .ne 27), 3, [143], 0) := rfl
theorem k72_119 : px_cod 72 119 = some ((.aload_n 0), 1, [], 0) := rfl
theorem k72_120 : px_cod 72 120 = some ((.getfield 24), 3, [148, 5, 4, 1], 4) := rfl
theorem k72_123 : px_cod 72 123 = some ((.iload_n 3), 1, [], 3) := rfl
theorem k72_124 : px_cod 72 124 = some ((.iconst 1), 1, [], 1) := rfl
theorem k72_125 : px_cod 72 125 = some (.isub, 1, [], 0) := rfl
theorem k72_126 : px_cod 72 126 = some ((.aload_n 0), 1, [], 0) := rfl
theorem k72_127 : px_cod 72 127 = some ((.getfield 24), 3, [148, 5, 4, 1], 4) := rfl
theorem k72_130 : px_cod 72 130 = some ((.iload_n 3), 1, [], 3) := rfl
theorem k72_131 : px_cod 72 131 = some ((.iconst 1), 1, [], 1) := rfl
theorem k72_132 : px_cod 72 132 = some (.isub, 1, [], 0) := rfl
theorem k72_133 : px_cod 72 133 = some ((.invokestatic 38), 3, [0, 70, 33], 0) := rfl
theorem k72_136 : px_cod 72 136 = some (.ineg, 1, [], 0) := rfl
theorem k72_137 : px_cod 72 137 = some ((.invokestatic 42), 3, [0, 71, 34], 0) := rfl
theorem k72_140 : px_cod 72 140 = some ((.goto 71), 3, [211], 0) := rfl
theorem k72_143 : px_cod 72 143 = some ((.iload 7), 2, [], 7) := rfl
theorem k72_145 : px_cod 72 145 = some ((.bipush 32), 2, [], 32) := rfl
theorem k72_147 : px_cod 72 147 = some ((.if_icmp .ne 28), 3, [175], 0) := rfl
theorem k72_150 : px_cod 72 150 = some ((.aload_n 0), 1, [], 0) := rfl
theorem k72_151 : px_cod 72 151 = some ((.getfield 24), 3, [148, 5, 4, 1], 4) := rfl
theorem k72_154 : px_cod 72 154 = some ((.iload_n 3), 1, [], 3) := rfl
theorem k72_155 : px_cod 72 155 = some ((.iconst 1), 1, [], 1) := rfl
theorem k72_156 : px_cod 72 156 = some (.isub, 1, [], 0) := rfl
theorem k72_157 : px_cod 72 157 = some ((.iconst 1), 1, [], 1) := rfl
theorem k72_158 : px_cod 72 158 = some ((.aload_n 0), 1, [], 0) := rfl
theorem k72_159 : px_cod 72 159 = some ((.getfield 24), 3, [148, 5, 4, 1], 4) := rfl
theorem k72_162 : px_cod 72 162 = some ((.iload_n 3), 1, [], 3) := rfl
theorem k72_163 : px_cod 72 163 = some ((.iconst 1), 1, [], 1) := rfl
theorem k72_164 : px_cod 72 164 = some (.isub, 1, [], 0) := rfl
theorem k72_165 : px_cod 72 165 = some ((.invokestatic 38), 3, [0, 70, 33], 0) := rfl
theorem k72_168 : px_cod 72 168 = some (.isub, 1, [], 0) := rfl
theorem k72_169 : px_cod 72 169 = some ((.invokestatic 42), 3, [0, 71, 34], 0) := rfl
theorem k72_172 : px_cod 72 172 = some ((.goto 39), 3, [211], 0) := rfl
theorem k72_175 : px_cod 72 175 = some ((.iinc 3 (-1)), 3, [3], (-1)) := rfl
theorem k72_178 : px_cod 72 178 = some ((.aload_n 0), 1, [], 0) := rfl
theorem k72_179 : px_cod 72 179 = some ((.getfield 24), 3, [148, 5, 4, 1], 4) := rfl
theorem k72_182 : px_cod 72 182 = some ((.iload_n 3), 1, [], 3) := rfl
theorem k72_183 : px_cod 72 183 = some ((.iconst 1), 1, [], 1) := rfl
theorem k72_184 : px_cod 72 184 = some (.isub, 1, [], 0) := rfl
theorem k72_185 : px_cod 72 185 = some ((.iload 7), 2, [], 7) := rfl
theorem k72_187 : px_cod 72 187 = some ((.aload_n 0), 1, [], 0) := rfl
theorem k72_188 : px_cod 72 188 = some ((.getfield 24), 3, [148, 5, 4, 1], 4) := rfl
theorem k72_191 : px_cod 72 191 = some ((.iload_n 3), 1, [], 3) := rfl
theorem k72_192 : px_cod 72 192 = some ((.iconst 1), 1, [], 1) := rfl
theorem k72_193 : px_cod 72 193 = some (.isub, 1, [], 0) := rfl
theorem k72_194 : px_cod 72 194 = some ((.invokestatic 38), 3, [0, 70, 33], 0) := rfl
theorem k72_197 : px_cod 72 197 = some ((.aload_n 0), 1, [], 0) := rfl
theorem k72_198 : px_cod 72 198 = some ((.getfield 24), 3, [148, 5, 4, 1], 4) := rfl
theorem k72_201 : px_cod 72 201 = some ((.iload_n 3), 1, [], 3) := rfl
theorem k72_202 : px_cod 72 202 = some ((.invokestatic 38), 3, [0, 70, 33], 0) := rfl
theorem k72_205 : px_cod 72 205 = some ((.invokestatic 151), 3, [0, 77, 73], 0) := rfl
theorem k72_208 : px_cod 72 208 = some ((.invokestatic 42), 3, [0, 71, 34], 0) := rfl
theorem k72_211 : px_cod 72 211 = some ((.iinc 5 1), 3, [5], 1) := rfl
theorem k72_214 : px_cod 72 214 = some ((.goto (-180)), 3, [34], 0) := rfl
theorem k72_217 : px_cod 72 217 = some ((.aload_n 0), 1, [], 0) := rfl
theorem k72_218 : px_cod 72 218 = some ((.getfield 24), 3, [148, 5, 4, 1], 4) := rfl
theorem k72_221 : px_cod 72 221 = some ((.iconst 0), 1, [], 0) := rfl
theorem k72_222 : px_cod 72 222 = some ((.invokestatic 38), 3, [0, 70, 33], 0) := rfl
theorem k72_225 : px_cod 72 225 = some (.ireturn, 1, [], 0) := rfl
theorem k73_0 : px_cod 73 0 = some ((.lconst 0), 1, [], 0) := rfl
theorem k73_1 : px_cod 73 1 = some ((.lstore_n 3), 1, [], 3) := rfl
theorem k73_2 : px_cod 73 2 = some ((.iload_n 0), 1, [], 0) := rfl
theorem k73_3 : px_cod 73 3 = some ((.tableswitch 219 10 31 #[101, 110, 119, 128, 145, 156, 167, 178, 189, 200, 219, 219, 219, 219, 219, 219, 219, 219, 219, 219, 211, 215]), 101, [222, 104, 113, 122, 131, 148, 159, 170, 181, 192, 203, 222, 222, 222, 222, 222, 222, 222, 222, 222, 222, 214, 218], 10) := rfl
theorem k73_104 : px_cod 73 104 = some ((.iload_n 1), 1, [], 1) := rfl
theorem k73_105 : px_cod 73 105 = some (.i2l, 1, [], 0) := rfl
theorem k73_106 : px_cod 73 106 = some ((.iload_n 2), 1, [], 2) := rfl
theorem k73_107 : px_cod 73 107 = some (.i2l, 1, [], 0) := rfl
theorem k73_108 : px_cod 73 108 = some (.ladd, 1, [], 0) := rfl
theorem k73_109 : px_cod 73 109 = some ((.lstore_n 3), 1, [], 3) := rfl
theorem k73_110 : px_cod 73 110 = some ((.goto 114), 3, [224], 0) := rfl
theorem k73_113 : px_cod 73 113 = some ((.iload_n 1), 1, [], 1) := rfl
theorem k73_114 : px_cod 73 114 = some (.i2l, 1, [], 0) := rfl
theorem k73_115 : px_cod 73 115 = some ((.iload_n 2), 1, [], 2) := rfl
theorem k73_116 : px_cod 73 116 = some (.i2l, 1, [], 0) := rfl
theorem k73_117 : px_cod 73 117 = some (.lsub, 1, [], 0) := rfl
theorem k73_118 : px_cod 73 118 = some ((.lstore_n 3), 1, [], 3) := rfl
theorem k73_119 : px_cod 73 119 = some ((.goto 105), 3, [224], 0) := rfl
theorem k73_122 : px_cod 73 122 = some ((.iload_n 1), 1, [], 1) := rfl
theorem k73_123 : px_cod 73 123 = some (.i2l, 1, [], 0) := rfl
theorem k73_124 : px_cod 73 124 = some ((.iload_n 2), 1, [], 2) := rfl
theorem k73_125 : px_cod 73 125 = some (.i2l, 1, [], 0) := rfl
theorem k73_126 : px_cod 73 126 = some (.lmul, 1, [], 0) := rfl
theorem k73_127 : px_cod 73 127 = some ((.lstore_n 3), 1, [], 3) := rfl
theorem k73_128 : px_cod 73 128 = some ((.goto 96), 3, [224], 0) := rfl
theorem k73_131 : px_cod 73 131 = some ((.iload_n 2), 1, [], 2) := rfl
theorem k73_132 : px_cod 73 132 = some ((.ifCond .ne 7), 3, [139], 0) := rfl
theorem k73_135 : px_cod 73 135 = some ((.lconst 0), 1, [], 0) := rfl
theorem k73_136 : px_cod 73 136 = some ((.goto 8), 3, [144], 0) := rfl
theorem k73_139 : px_cod 73 139 = some ((.iload_n 1), 1, [], 1) := rfl
theorem k73_140 : px_cod 73 140 = some (.i2l, 1, [], 0) := rfl
theorem k73_141 : px_cod 73 141 = some ((.iload_n 2), 1, [], 2) := rfl
theorem k73_142 : px_cod 73 142 = some (.i2l, 1, [], 0) := rfl
theorem k73_143 : px_cod 73 143 = some (.ldiv, 1, [], 0) := rfl
theorem k73_144 : px_cod 73 144 = some ((.lstore_n 3), 1, [], 3) := rfl
theorem k73_145 : px_cod 73 145 = some ((.goto 79), 3, [224], 0) := rfl
theorem k73_148 : px_cod 73 148 = some ((.iload_n 1), 1, [], 1) := rfl
theorem k73_149 : px_cod 73 149 = some ((.iload_n 2), 1, [], 2) := rfl
theorem k73_150 : px_cod 73 150 = some ((.if_icmp .ge 7), 3, [157], 0) := rfl
theorem k73_153 : px_cod 73 153 = some ((.iconst 1), 1, [], 1) := rfl
theorem k73_154 : px_cod 73 154 = some ((.goto 4), 3, [158], 0) := rfl
theorem k73_157 : px_cod 73 157 = some ((.iconst 0), 1, [], 0) := rfl
theorem k73_158 : px_cod 73 158 = some (.ireturn, 1, [], 0) := rfl
theorem k73_159 : px_cod 73 159 = some ((.iload_n 1), 1, [], 1) := rfl
theorem k73_160 : px_cod 73 160 = some ((.iload_n 2), 1, [], 2) := rfl
theorem k73_161 : px_cod 73 161 = some ((.if_icmp .gt 7), 3, [168], 0) := rfl
theorem k73_164 : px_cod 73 164 = some ((.iconst 1), 1, [], 1) := rfl
theorem k73_165 : px_cod 73 165 = some ((.goto 4), 3, [169], 0) := rfl
theorem k73_168 : px_cod 73 168 = some ((.iconst 0), 1, [], 0) := rfl
theorem k73_169 : px_cod 73 169 = some (.ireturn, 1, [], 0) := rfl
theorem k73_170 : px_cod 73 170 = some ((.iload_n 1), 1, [], 1) := rfl
theorem k73_171 : px_cod 73 171 = some ((.iload_n 2), 1, [], 2) := rfl
theorem k73_172 : px_cod 73 172 = some ((.if_icmp .le 7), 3, [179], 0) := rfl
theorem k73_175 : px_cod 73 175 = some ((.iconst 1), 1, [], 1) := rfl
theorem k73_176 : px_cod 73 176 = some ((.goto 4), 3, [180], 0) := rfl
theorem k73_179 : px_cod 73 179 = some ((.iconst 0), 1, [], 0) := rfl
theorem k73_180 : px_cod 73 180 = some (.ireturn, 1, [], 0) := rfl
theorem k73_181 : px_cod 73 181 = some ((.iload_n 1), 1, [], 1) := rfl
theorem k73_182 : px_cod 73 182 = some ((.iload_n 2), 1, [], 2) := rfl
theorem k73_183 : px_cod 73 183 = some ((.if_icmp .lt 7), 3, [190], 0) := rfl
theorem k73_186 : px_cod 73 186 = some ((.iconst 1), 1, [], 1) := rfl
theorem k73_187 : px_cod 73 187 = some ((.goto 4), 3, [191], 0) := rfl
theorem k73_190 : px_cod 73 190 = some ((.iconst 0), 1, [], 0) := rfl
theorem k73_191 : px_cod 73 191 = some (.ireturn, 1, [], 0) := rfl
theorem k73_192 : px_cod 73 192 = some ((.iload_n 1), 1, [], 1) := rfl
theorem k73_193 : px_cod 73 193 = some ((.iload_n 2), 1, [], 2) := rfl
theorem k73_194 : px_cod 73 194 = some ((.if_icmp .ne 7), 3, [201], 0) := rfl
theorem k73_197 : px_cod 73 197 = some ((.iconst 1), 1, [], 1) := rfl
theorem k73_198 : px_cod 73 198 = some ((.goto 4), 3, [202], 0) := rfl
theorem k73_201 : px_cod 73 201 = some ((.iconst 0), 1, [], 0) := rfl
theorem k73_202 : px_cod 73 202 = some (.ireturn, 1, [], 0) := rfl
theorem k73_203 : px_cod 73 203 = some ((.iload_n 1), 1, [], 1) := rfl
theorem k73_204 : px_cod 73 204 = some ((.iload_n 2), 1, [], 2) := rfl
theorem k73_205 : px_cod 73 205 = some ((.if_icmp .eq 7), 3, [212], 0) := rfl
theorem k73_208 : px_cod 73 208 = some ((.iconst 1), 1, [], 1) := rfl
theorem k73_209 : px_cod 73 209 = some ((.goto 4), 3, [213], 0) := rfl
theorem k73_212 : px_cod 73 212 = some ((.iconst 0), 1, [], 0) := rfl
theorem k73_213 : px_cod 73 213 = some (.ireturn, 1, [], 0) := rfl
theorem k73_214 : px_cod 73 214 = some ((.iload_n 1), 1, [], 1) := rfl
theorem k73_215 : px_cod 73 215 = some ((.iload_n 2), 1, [], 2) := rfl
theorem k73_216 : px_cod 73 216 = some (.ior, 1, [], 0) := rfl
theorem k73_217 : px_cod 73 217 = some (.ireturn, 1, [], 0) := rfl
theorem k73_218 : px_cod 73 218 = some ((.iload_n 1), 1, [], 1) := rfl
theorem k73_219 : px_cod 73 219 = some ((.iload_n 2), 1, [], 2) := rfl
theorem k73_220 : px_cod 73 220 = some (.iand, 1, [], 0) := rfl
theorem k73_221 : px_cod 73 221 = some (.ireturn, 1, [], 0) := rfl
theorem k73_222 : px_cod 73 222 = some ((.iconst 0), 1, [], 0) := rfl
theorem k73_223 : px_cod 73 223 = some (.ireturn, 1, [], 0) := rfl
theorem k73_224 : px_cod 73 224 = some ((.ldc2_w 154), 3, [0, 1], (-1000000)) := rfl
theorem k73_227 : px_cod 73 227 = some ((.ldc2_w 156), 3, [0, 2], 1000000) := rfl
theorem k73_230 : px_cod 73 230 = some ((.lload_n 3), 1, [], 3) := rfl
theorem k73_231 : px_cod 73 231 = some ((.invokestatic 158), 3, [9, 14], 0) := rfl
theorem k73_234 : px_cod 73 234 = some ((.invokestatic 161), 3, [8, 15], 0) := rfl
theorem k73_237 : px_cod 73 237 = some (.l2i, 1, [], 0) := rfl
theorem k73_238 : px_cod 73 238 = some (.ireturn, 1, [], 0) := rfl
theorem k75_0 : px_cod 75 0 = some ((.aload_n 0), 1, [], 0) := rfl
theorem k75_1 : px_cod 75 1 = some ((.aload_n 1), 1, [], 1) := rfl
theorem k75_2 : px_cod 75 2 = some ((.getfield 40), 3, [62, 3, 0, 0], 5) := rfl
theorem k75_5 : px_cod 75 5 = some ((.putfield 28), 3, [165, 6, 0, 0], 7) := rfl
theorem k75_8 : px_cod 75 8 = some ((.iconst 0), 1, [], 0) := rfl
theorem k75_9 : px_cod 75 9 = some ((.istore_n 2), 1, [], 2) := rfl
theorem k75_10 : px_cod 75 10 = some ((.iload_n 2), 1, [], 2) := rfl
theorem k75_11 : px_cod 75 11 = some ((.aload_n 0), 1, [], 0) := rfl
theorem k75_12 : px_cod 75 12 = some ((.getfield 11), 3, [160, 6, 4, 1], 2) := rfl
theorem k75_15 : px_cod 75 15 = some (.arraylength, 1, [], 0) := rfl
theorem k75_16 : px_cod 75 16 = some ((.if_icmp .ge 64), 3, [80], 0) := rfl
theorem k75_19 : px_cod 75 19 = some ((.lconst 0), 1, [], 0) := rfl
theorem k75_20 : px_cod 75 20 = some ((.lstore_n 3), 1, [], 3) := rfl
theorem k75_21 : px_cod 75 21 = some ((.iconst 0), 1, [], 0) := rfl
theorem k75_22 : px_cod 75 22 = some ((.istore 5), 2, [], 5) := rfl
theorem k75_24 : px_cod 75 24 = some ((.iload 5), 2, [], 5) := rfl
theorem k75_26 : px_cod 75 26 = some ((.aload_n 0), 1, [], 0) := rfl
theorem k75_27 : px_cod 75 27 = some ((.getfield 32), 3, [158, 6, 4, 1], 0) := rfl
theorem k75_30 : px_cod 75 30 = some ((.getfield 43), 3, [36, 1, 0, 1], 2) := rfl
theorem k75_33 : px_cod 75 33 = some ((.if_icmp .ge 34), 3, [67], 0) := rfl
theorem k75_36 : px_cod 75 36 = some ((.iload_n 2), 1, [], 2) := rfl
theorem k75_37 : px_cod 75 37 = some ((.aload_n 0), 1, [], 0) := rfl
theorem k75_38 : px_cod 75 38 = some ((.getfield 32), 3, [158, 6, 4, 1], 0) := rfl
theorem k75_41 : px_cod 75 41 = some ((.iload 5), 2, [], 5) := rfl
theorem k75_43 : px_cod 75 43 = some ((.invokevirtual 48), 3, [0, 121, 38], 0) := rfl
theorem k75_46 : px_cod 75 46 = some ((.aload_n 1), 1, [], 1) := rfl
theorem k75_47 : px_cod 75 47 = some ((.getfield 52), 3, [64, 3, 0, 0], 6) := rfl
theorem k75_50 : px_cod 75 50 = some (.iadd, 1, [], 0) := rfl
theorem k75_51 : px_cod 75 51 = some ((.if_icmp .gt 10), 3, [61], 0) := rfl
theorem k75_54 : px_cod 75 54 = some ((.lload_n 3), 1, [], 3) := rfl
theorem k75_55 : px_cod 75 55 = some ((.lconst 1), 1, [], 1) := rfl
theorem k75_56 : px_cod 75 56 = some ((.iload 5), 2, [], 5) := rfl
theorem k75_58 : px_cod 75 58 = some (.lshl, 1, [], 0) := rfl
theorem k75_59 : px_cod 75 59 = some (.lor, 1, [], 0) := rfl
theorem k75_60 : px_cod 75 60 = some ((.lstore_n 3), 1, [], 3) := rfl
theorem k75_61 : px_cod 75 61 = some ((.iinc 5 1), 3, [5], 1) := rfl
theorem k75_64 : px_cod 75 64 = some ((.goto (-40)), 3, [24], 0) := rfl
theorem k75_67 : px_cod 75 67 = some ((.aload_n 0), 1, [], 0) := rfl
theorem k75_68 : px_cod 75 68 = some ((.getfield 11), 3, [160, 6, 4, 1], 2) := rfl
theorem k75_71 : px_cod 75 71 = some ((.iload_n 2), 1, [], 2) := rfl
theorem k75_72 : px_cod 75 72 = some ((.lload_n 3), 1, [], 3) := rfl
theorem k75_73 : px_cod 75 73 = some (.lastore, 1, [], 0) := rfl
theorem k75_74 : px_cod 75 74 = some ((.iinc 2 1), 3, [2], 1) := rfl
theorem k75_77 : px_cod 75 77 = some ((.goto (-67)), 3, [10], 0) := rfl
theorem k75_80 : px_cod 75 80 = some (.return_, 1, [], 0) := rfl
theorem k76_0 : px_cod 76 0 = some ((.iload_n 1), 1, [], 1) := rfl
theorem k76_1 : px_cod 76 1 = some ((.invokestatic 55), 3, [0, 126, 31], 0) := rfl
theorem k76_4 : px_cod 76 4 = some ((.ifCond .ne 5), 3, [9], 0) := rfl
theorem k76_7 : px_cod 76 7 = some ((.lconst 0), 1, [], 0) := rfl
theorem k76_8 : px_cod 76 8 = some (.lreturn, 1, [], 0) := rfl
theorem k76_9 : px_cod 76 9 = some ((.aload_n 0), 1, [], 0) := rfl
theorem k76_10 : px_cod 76 10 = some ((.getfield 36), 3, [159, 6, 4, 1], 1) := rfl
theorem k76_13 : px_cod 76 13 = some ((.iload_n 1), 1, [], 1) := rfl
theorem k76_14 : px_cod 76 14 = some ((.invokevirtual 59), 3, [0, 127, 65], 0) := rfl
theorem k76_17 : px_cod 76 17 = some ((.istore_n 2), 1, [], 2) := rfl
theorem k76_18 : px_cod 76 18 = some ((.iload_n 2), 1, [], 2) := rfl
theorem k76_19 : px_cod 76 19 = some ((.ifCond .lt 21), 3, [40], 0) := rfl
theorem k76_22 : px_cod 76 22 = some ((.iload_n 2), 1, [], 2) := rfl
theorem k76_23 : px_cod 76 23 = some ((.aload_n 0), 1, [], 0) := rfl
theorem k76_24 : px_cod 76 24 = some ((.getfield 11), 3, [160, 6, 4, 1], 2) := rfl
theorem k76_27 : px_cod 76 27 = some (.arraylength, 1, [], 0) := rfl
theorem k76_28 : px_cod 76 28 = some ((.if_icmp .ge 12), 3, [40], 0) := rfl
theorem k76_31 : px_cod 76 31 = some ((.aload_n 0), 1, [], 0) := rfl
theorem k76_32 : px_cod 76 32 = some ((.getfield 11), 3, [160, 6, 4, 1], 2) := rfl
theorem k76_35 : px_cod 76 35 = some ((.iload_n 2), 1, [], 2) := rfl
theorem k76_36 : px_cod 76 36 = some (.laload, 1, [], 0) := rfl
theorem k76_37 : px_cod 76 37 = some ((.goto 4), 3, [41], 0) := rfl
theorem k76_40 : px_cod 76 40 = some ((.lconst 0), 1, [], 0) := rfl
theorem k76_41 : px_cod 76 41 = some (.lreturn, 1, [], 0) := rfl
theorem k77_0 : px_cod 77 0 = some ((.lconst 1), 1, [], 1) := rfl
theorem k77_1 : px_cod 77 1 = some ((.aload_n 0), 1, [], 0) := rfl
theorem k77_2 : px_cod 77 2 = some ((.getfield 32), 3, [158, 6, 4, 1], 0) := rfl
theorem k77_5 : px_cod 77 5 = some ((.getfield 64), 3, [45, 1, 0, 0], 8) := rfl
theorem k77_8 : px_cod 77 8 = some (.lshl, 1, [], 0) := rfl
theorem k77_9 : px_cod 77 9 = some ((.lstore_n 2), 1, [], 2) := rfl
theorem k77_10 : px_cod 77 10 = some ((.aload_n 0), 1, [], 0) := rfl
theorem k77_11 : px_cod 77 11 = some ((.getfield 15), 3, [161, 6, 4, 1], 3) := rfl
theorem k77_14 : px_cod 77 14 = some ((.iconst 0), 1, [], 0) := rfl
theorem k77_15 : px_cod 77 15 = some ((.lload_n 2), 1, [], 2) := rfl
theorem k77_16 : px_cod 77 16 = some (.lastore, 1, [], 0) := rfl
theorem k77_17 : px_cod 77 17 = some ((.iconst 0), 1, [], 0) := rfl
theorem k77_18 : px_cod 77 18 = some ((.istore 4), 2, [], 4) := rfl
theorem k77_20 : px_cod 77 20 = some ((.iload 4), 2, [], 4) := rfl
theorem k77_22 : px_cod 77 22 = some ((.aload_n 0), 1, [], 0) := rfl
theorem k77_23 : px_cod 77 23 = some ((.getfield 15), 3, [161, 6, 4, 1], 3) := rfl
theorem k77_26 : px_cod 77 26 = some (.arraylength, 1, [], 0) := rfl
theorem k77_27 : px_cod 77 27 = some ((.if_icmp .ge 80), 3, [107], 0) := rfl
theorem k77_30 : px_cod 77 30 = some ((.iload 4), 2, [], 4) := rfl
theorem k77_32 : px_cod 77 32 = some ((.aload_n 0), 1, [], 0) := rfl
theorem k77_33 : px_cod 77 33 = some ((.getfield 32), 3, [158, 6, 4, 1], 0) := rfl
theorem k77_36 : px_cod 77 36 = some ((.getfield 43), 3, [36, 1, 0, 1], 2) := rfl
theorem k77_39 : px_cod 77 39 = some ((.if_icmp .gt 68), 3, [107], 0) := rfl
theorem k77_42 : px_cod 77 42 = some ((.lload_n 2), 1, [], 2) := rfl
theorem k77_43 : px_cod 77 43 = some ((.lconst 0), 1, [], 0) := rfl
theorem k77_44 : px_cod 77 44 = some (.lcmp, 1, [], 0) := rfl
theorem k77_45 : px_cod 77 45 = some ((.ifCond .eq 62), 3, [107], 0) := rfl
theorem k77_48 : px_cod 77 48 = some ((.iload 4), 2, [], 4) := rfl
theorem k77_50 : px_cod 77 50 = some ((.ifCond .le 34), 3, [84], 0) := rfl
theorem k77_53 : px_cod 77 53 = some ((.aload_n 0), 1, [], 0) := rfl
theorem k77_54 : px_cod 77 54 = some ((.getfield 32), 3, [158, 6, 4, 1], 0) := rfl
theorem k77_57 : px_cod 77 57 = some ((.lload_n 2), 1, [], 2) := rfl
theorem k77_58 : px_cod 77 58 = some ((.invokevirtual 67), 3, [0, 124, 42], 0) := rfl
theorem k77_61 : px_cod 77 61 = some ((.aload_n 0), 1, [], 0) := rfl
theorem k77_62 : px_cod 77 62 = some ((.iload_n 1), 1, [], 1) := rfl
theorem k77_63 : px_cod 77 63 = some ((.iload 4), 2, [], 4) := rfl
theorem k77_65 : px_cod 77 65 = some ((.aload_n 0), 1, [], 0) := rfl
theorem k77_66 : px_cod 77 66 = some ((.getfield 28), 3, [165, 6, 0, 0], 7) := rfl
theorem k77_69 : px_cod 77 69 = some (.imul, 1, [], 0) := rfl
theorem k77_70 : px_cod 77 70 = some (.iadd, 1, [], 0) := rfl
theorem k77_71 : px_cod 77 71 = some ((.invokevirtual 71), 3, [0, 125, 76], 0) := rfl
theorem k77_74 : px_cod 77 74 = some (.land, 1, [], 0) := rfl
theorem k77_75 : px_cod 77 75 = some ((.lstore_n 2), 1, [], 2) := rfl
theorem k77_76 : px_cod 77 76 = some ((.aload_n 0), 1, [], 0) := rfl
theorem k77_77 : px_cod 77 77 = some ((.getfield 15), 3, [161, 6, 4, 1], 3) := rfl
theorem k77_80 : px_cod 77 80 = some ((.iload 4), 2, [], 4) := rfl
theorem k77_82 : px_cod 77 82 = some ((.lload_n 2), 1, [], 2) := rfl
theorem k77_83 : px_cod 77 83 = some (.lastore, 1, [], 0) := rfl
theorem k77_84 : px_cod 77 84 = some ((.lload_n 2), 1, [], 2) := rfl
theorem k77_85 : px_cod 77 85 = some ((.aload_n 0), 1, [], 0) := rfl
theorem k77_86 : px_cod 77 86 = some ((.getfield 32), 3, [158, 6, 4, 1], 0) := rfl
theorem k77_89 : px_cod 77 89 = some ((.getfield 75), 3, [42, 1, 3, 0], 7) := rfl
theorem k77_92 : px_cod 77 92 = some (.land, 1, [], 0) := rfl
theorem k77_93 : px_cod 77 93 = some ((.lconst 0), 1, [], 0) := rfl
theorem k77_94 : px_cod 77 94 = some (.lcmp, 1, [], 0) := rfl
theorem k77_95 : px_cod 77 95 = some ((.ifCond .eq 6), 3, [101], 0) := rfl
theorem k77_98 : px_cod 77 98 = some ((.iload 4), 2, [], 4) := rfl
theorem k77_100 : px_cod 77 100 = some (.ireturn, 1, [], 0) := rfl
theorem k77_101 : px_cod 77 101 = some ((.iinc 4 1), 3, [4], 1) := rfl
theorem k77_104 : px_cod 77 104 = some ((.goto (-84)), 3, [20], 0) := rfl
theorem k77_107 : px_cod 77 107 = some ((.iconst (-1)), 1, [], (-1)) := rfl
theorem k77_108 : px_cod 77 108 = some (.ireturn, 1, [], 0) := rfl
theorem k78_0 : px_cod 78 0 = some ((.iload_n 2), 1, [], 2) := rfl
theorem k78_1 : px_cod 78 1 = some ((.ifCond .lt 17), 3, [18], 0) := rfl
theorem k78_4 : px_cod 78 4 = some ((.iload_n 2), 1, [], 2) := rfl
theorem k78_5 : px_cod 78 5 = some ((.iload_n 1), 1, [], 1) := rfl
theorem k78_6 : px_cod 78 6 = some ((.if_icmp .ge 12), 3, [18], 0) := rfl
theorem k78_9 : px_cod 78 9 = some ((.iload_n 1), 1, [], 1) := rfl
theorem k78_10 : px_cod 78 10 = some ((.aload_n 0), 1, [], 0) := rfl
theorem k78_11 : px_cod 78 11 = some ((.getfield 15), 3, [161, 6, 4, 1], 3) := rfl
theorem k78_14 : px_cod 78 14 = some (.arraylength, 1, [], 0) := rfl
theorem k78_15 : px_cod 78 15 = some ((.if_icmp .lt 5), 3, [20], 0) := rfl
theorem k78_18 : px_cod 78 18 = some ((.iconst (-1)), 1, [], (-1)) := rfl
theorem k78_19 : px_cod 78 19 = some (.ireturn, 1, [], 0) := rfl
theorem k78_20 : px_cod 78 20 = some ((.aload_n 0), 1, [], 0) := rfl
theorem k78_21 : px_cod 78 21 = some ((.getfield 15), 3, [161, 6, 4, 1], 3) := rfl
theorem k78_24 : px_cod 78 24 = some ((.iload_n 1), 1, [], 1) := rfl
theorem k78_25 : px_cod 78 25 = some ((.aload_n 0), 1, [], 0) := rfl
theorem k78_26 : px_cod 78 26 = some ((.getfield 15), 3, [161, 6, 4, 1], 3) := rfl
theorem k78_29 : px_cod 78 29 = some ((.iload_n 1), 1, [], 1) := rfl
theorem k78_30 : px_cod 78 30 = some (.laload, 1, [], 0) := rfl
theorem k78_31 : px_cod 78 31 = some ((.aload_n 0), 1, [], 0) := rfl
theorem k78_32 : px_cod 78 32 = some ((.getfield 32), 3, [158, 6, 4, 1], 0) := rfl
theorem k78_35 : px_cod 78 35 = some ((.getfield 75), 3, [42, 1, 3, 0], 7) := rfl
theorem k78_38 : px_cod 78 38 = some (.land, 1, [], 0) := rfl
theorem k78_39 : px_cod 78 39 = some (.lastore, 1, [], 0) := rfl
theorem k78_40 : px_cod 78 40 = some ((.iload_n 1), 1, [], 1) := rfl
theorem k78_41 : px_cod 78 41 = some ((.iconst 1), 1, [], 1) := rfl
theorem k78_42 : px_cod 78 42 = some (.isub, 1, [], 0) := rfl
theorem k78_43 : px_cod 78 43 = some ((.istore_n 3), 1, [], 3) := rfl
theorem k78_44 : px_cod 78 44 = some ((.iload_n 3), 1, [], 3) := rfl
theorem k78_45 : px_cod 78 45 = some ((.ifCond .lt 37), 3, [82], 0) := rfl
theorem k78_48 : px_cod 78 48 = some ((.aload_n 0), 1, [], 0) := rfl
theorem k78_49 : px_cod 78 49 = some ((.getfield 15), 3, [161, 6, 4, 1], 3) := rfl
theorem k78_52 : px_cod 78 52 = some ((.iload_n 3), 1, [], 3) := rfl
theorem k78_53 : px_cod 78 53 = some ((.aload_n 0), 1, [], 0) := rfl
theorem k78_54 : px_cod 78 54 = some ((.getfield 15), 3, [161, 6, 4, 1], 3) := rfl
theorem k78_57 : px_cod 78 57 = some ((.iload_n 3), 1, [], 3) := rfl
theorem k78_58 : px_cod 78 58 = some (.laload, 1, [], 0) := rfl
theorem k78_59 : px_cod 78 59 = some ((.aload_n 0), 1, [], 0) := rfl
theorem k78_60 : px_cod 78 60 = some ((.getfield 32), 3, [158, 6, 4, 1], 0) := rfl
theorem k78_63 : px_cod 78 63 = some ((.aload_n 0), 1, [], 0) := rfl
theorem k78_64 : px_cod 78 64 = some ((.getfield 15), 3, [161, 6, 4, 1], 3) := rfl
theorem k78_67 : px_cod 78 67 = some ((.iload_n 3), 1, [], 3) := rfl
theorem k78_68 : px_cod 78 68 = some ((.iconst 1), 1, [], 1) := rfl
theorem k78_69 : px_cod 78 69 = some (.iadd, 1, [], 0) := rfl
theorem k78_70 : px_cod 78 70 = some (.laload, 1, [], 0) := rfl
theorem k78_71 : px_cod 78 71 = some ((.invokevirtual 67), 3, [0, 124, 42], 0) := rfl
theorem k78_74 : px_cod 78 74 = some (.land, 1, [], 0) := rfl
theorem k78_75 : px_cod 78 75 = some (.lastore, 1, [], 0) := rfl
theorem k78_76 : px_cod 78 76 = some ((.iinc 3 (-1)), 3, [3], (-1)) := rfl
theorem k78_79 : px_cod 78 79 = some ((.goto (-35)), 3, [44], 0) := rfl
theorem k78_82 : px_cod 78 82 = some ((.aload_n 0), 1, [], 0) := rfl
theorem k78_83 : px_cod 78 83 = some ((.getfield 15), 3, [161, 6, 4, 1], 3) := rfl
theorem k78_86 : px_cod 78 86 = some ((.iconst 0), 1, [], 0) := rfl
theorem k78_87 : px_cod 78 87 = some (.laload, 1, [], 0) := rfl
theorem k78_88 : px_cod 78 88 = some ((.lstore_n 3), 1, [], 3) := rfl
theorem k78_89 : px_cod 78 89 = some ((.iconst 1), 1, [], 1) := rfl
theorem k78_90 : px_cod 78 90 = some ((.istore 5), 2, [], 5) := rfl
theorem k78_92 : px_cod 78 92 = some ((.iload 5), 2, [], 5) := rfl
theorem k78_94 : px_cod 78 94 = some ((.iload_n 2), 1, [], 2) := rfl
theorem k78_95 : px_cod 78 95 = some ((.iconst 1), 1, [], 1) := rfl
theorem k78_96 : px_cod 78 96 = some (.iadd, 1, [], 0) := rfl
theorem k78_97 : px_cod 78 97 = some ((.if_icmp .gt 29), 3, [126], 0) := rfl
theorem k78_100 : px_cod 78 100 = some ((.aload_n 0), 1, [], 0) := rfl
theorem k78_101 : px_cod 78 101 = some ((.getfield 32), 3, [158, 6, 4, 1], 0) := rfl
theorem k78_104 : px_cod 78 104 = some ((.lload_n 3), 1, [], 3) := rfl
theorem k78_105 : px_cod 78 105 = some ((.invokevirtual 67), 3, [0, 124, 42], 0) := rfl
theorem k78_108 : px_cod 78 108 = some ((.aload_n 0), 1, [], 0) := rfl
theorem k78_109 : px_cod 78 109 = some ((.getfield 15), 3, [161, 6, 4, 1], 3) := rfl
theorem k78_112 : px_cod 78 112 = some ((.iload 5), 2, [], 5) := rfl
theorem k78_114 : px_cod 78 114 = some (.laload, 1, [], 0) := rfl
theorem k78_115 : px_cod 78 115 = some (.land, 1, [], 0) := rfl
theorem k78_116 : px_cod 78 116 = some ((.invokestatic 79), 3, [0, 129, 239], 0) := rfl
theorem k78_119 : px_cod 78 119 = some ((.lstore_n 3), 1, [], 3) := rfl
theorem k78_120 : px_cod 78 120 = some ((.iinc 5 1), 3, [5], 1) := rfl
theorem k78_123 : px_cod 78 123 = some ((.goto (-31)), 3, [92], 0) := rfl
theorem k78_126 : px_cod 78 126 = some ((.lload_n 3), 1, [], 3) := rfl
theorem k78_127 : px_cod 78 127 = some ((.invokestatic 84), 3, [0, 130, 240], 0) := rfl
theorem k78_130 : px_cod 78 130 = some (.ireturn, 1, [], 0) := rfl
theorem k79_0 : px_cod 79 0 = some ((.sipush 1439), 3, [], 1439) := rfl
theorem k79_3 : px_cod 79 3 = some ((.istore_n 1), 1, [], 1) := rfl
theorem k79_4 : px_cod 79 4 = some ((.iload_n 1), 1, [], 1) := rfl
theorem k79_5 : px_cod 79 5 = some ((.ifCond .lt 20), 3, [25], 0) := rfl
theorem k79_8 : px_cod 79 8 = some ((.aload_n 0), 1, [], 0) := rfl
theorem k79_9 : px_cod 79 9 = some ((.iload_n 1), 1, [], 1) := rfl
theorem k79_10 : px_cod 79 10 = some ((.invokevirtual 88), 3, [0, 134, 77], 0) := rfl
theorem k79_13 : px_cod 79 13 = some ((.iconst (-1)), 1, [], (-1)) := rfl
theorem k79_14 : px_cod 79 14 = some ((.if_icmp .eq 5), 3, [19], 0) := rfl
theorem k79_17 : px_cod 79 17 = some ((.iload_n 1), 1, [], 1) := rfl
theorem k79_18 : px_cod 79 18 = some (.ireturn, 1, [], 0) := rfl
theorem k79_19 : px_cod 79 19 = some ((.iinc 1 (-1)), 3, [1], (-1)) := rfl
theorem k79_22 : px_cod 79 22 = some ((.goto (-18)), 3, [4], 0) := rfl
theorem k79_25 : px_cod 79 25 = some ((.iconst (-1)), 1, [], (-1)) := rfl
theorem k79_26 : px_cod 79 26 = some (.ireturn, 1, [], 0) := rfl
theorem k80_0 : px_cod 80 0 = some ((.aload_n 0), 1, [], 0) := rfl
theorem k80_1 : px_cod 80 1 = some ((.getfield 32), 3, [158, 6, 4, 1], 0) := rfl
theorem k80_4 : px_cod 80 4 = some ((.getfield 64), 3, [45, 1, 0, 0], 8) := rfl
theorem k80_7 : px_cod 80 7 = some ((.istore 4), 2, [], 4) := rfl
theorem k80_9 : px_cod 80 9 = some ((.aload_n 0), 1, [], 0) := rfl
theorem k80_10 : px_cod 80 10 = some ((.getfield 32), 3, [158, 6, 4, 1], 0) := rfl
theorem k80_13 : px_cod 80 13 = some ((.getfield 75), 3, [42, 1, 3, 0], 7) := rfl
theorem k80_16 : px_cod 80 16 = some ((.lconst 0), 1, [], 0) := rfl
theorem k80_17 : px_cod 80 17 = some (.lcmp, 1, [], 0) := rfl
theorem k80_18 : px_cod 80 18 = some ((.ifCond .eq 18), 3, [36], 0) := rfl
theorem k80_21 : px_cod 80 21 = some ((.iload 4), 2, [], 4) := rfl
theorem k80_23 : px_cod 80 23 = some ((.ifCond .lt 13), 3, [36], 0) := rfl
theorem k80_26 : px_cod 80 26 = some ((.iload 4), 2, [], 4) := rfl
theorem k80_28 : px_cod 80 28 = some ((.aload_n 0), 1, [], 0) := rfl
theorem k80_29 : px_cod 80 29 = some ((.getfield 22), 3, [163, 6, 4, 1], 5) := rfl
theorem k80_32 : px_cod 80 32 = some (.arraylength, 1, [], 0) := rfl
theorem k80_33 : px_cod 80 33 = some ((.if_icmp .lt 5), 3, [38], 0) := rfl
theorem k80_36 : px_cod 80 36 = some ((.iconst 0), 1, [], 0) := rfl
theorem k80_37 : px_cod 80 37 = some (.ireturn, 1, [], 0) := rfl
theorem k80_38 : px_cod 80 38 = some ((.aload_n 0), 1, [], 0) := rfl
theorem k80_39 : px_cod 80 39 = some ((.invokevirtual 91), 3, [0, 137, 81], 0) := rfl
theorem k80_42 : px_cod 80 42 = some ((.aload_n 0), 1, [], 0) := rfl
theorem k80_43 : px_cod 80 43 = some ((.getfield 22), 3, [163, 6, 4, 1], 5) := rfl
theorem k80_46 : px_cod 80 46 = some ((.lconst 0), 1, [], 0) := rfl
theorem k80_47 : px_cod 80 47 = some ((.invokestatic 94), 3, [0, 140, 242], 0) := rfl
theorem k80_50 : px_cod 80 50 = some ((.aload_n 0), 1, [], 0) := rfl
theorem k80_51 : px_cod 80 51 = some ((.getfield 22), 3, [163, 6, 4, 1], 5) := rfl
theorem k80_54 : px_cod 80 54 = some ((.iload 4), 2, [], 4) := rfl
theorem k80_56 : px_cod 80 56 = some ((.lconst 1), 1, [], 1) := rfl
theorem k80_57 : px_cod 80 57 = some (.lastore, 1, [], 0) := rfl
theorem k80_58 : px_cod 80 58 = some ((.lconst 1), 1, [], 1) := rfl
theorem k80_59 : px_cod 80 59 = some ((.lstore 5), 2, [], 5) := rfl
theorem k80_61 : px_cod 80 61 = some ((.iconst 1), 1, [], 1) := rfl
theorem k80_62 : px_cod 80 62 = some ((.istore 7), 2, [], 7) := rfl
theorem k80_64 : px_cod 80 64 = some ((.iload 7), 2, [], 7) := rfl
theorem k80_66 : px_cod 80 66 = some ((.iload_n 3), 1, [], 3) := rfl
theorem k80_67 : px_cod 80 67 = some ((.if_icmp .gt 98), 3, [165], 0) := rfl
theorem k80_70 : px_cod 80 70 = some ((.aload_n 0), 1, [], 0) := rfl
theorem k80_71 : px_cod 80 71 = some ((.getfield 25), 3, [164, 6, 4, 1], 6) := rfl
theorem k80_74 : px_cod 80 74 = some ((.lconst 0), 1, [], 0) := rfl
theorem k80_75 : px_cod 80 75 = some ((.invokestatic 94), 3, [0, 140, 242], 0) := rfl
theorem k80_78 : px_cod 80 78 = some ((.aload_n 0), 1, [], 0) := rfl
theorem k80_79 : px_cod 80 79 = some ((.iload_n 1), 1, [], 1) := rfl
theorem k80_80 : px_cod 80 80 = some ((.iload 7), 2, [], 7) := rfl
theorem k80_82 : px_cod 80 82 = some ((.aload_n 0), 1, [], 0) := rfl
theorem k80_83 : px_cod 80 83 = some ((.getfield 28), 3, [165, 6, 0, 0], 7) := rfl
theorem k80_86 : px_cod 80 86 = some (.imul, 1, [], 0) := rfl
theorem k80_87 : px_cod 80 87 = some (.iadd, 1, [], 0) := rfl
theorem k80_88 : px_cod 80 88 = some ((.invokevirtual 71), 3, [0, 125, 76], 0) := rfl
theorem k80_91 : px_cod 80 91 = some ((.lstore 8), 2, [], 8) := rfl
theorem k80_93 : px_cod 80 93 = some ((.iconst 0), 1, [], 0) := rfl
theorem k80_94 : px_cod 80 94 = some ((.istore 10), 2, [], 10) := rfl
theorem k80_96 : px_cod 80 96 = some ((.iload 10), 2, [], 10) := rfl
theorem k80_98 : px_cod 80 98 = some ((.aload_n 0), 1, [], 0) := rfl
theorem k80_99 : px_cod 80 99 = some ((.getfield 32), 3, [158, 6, 4, 1], 0) := rfl
theorem k80_102 : px_cod 80 102 = some ((.getfield 43), 3, [36, 1, 0, 1], 2) := rfl
theorem k80_105 : px_cod 80 105 = some ((.if_icmp .ge 28), 3, [133], 0) := rfl
theorem k80_108 : px_cod 80 108 = some ((.iload 10), 2, [], 10) := rfl
theorem k80_110 : px_cod 80 110 = some ((.aload_n 0), 1, [], 0) := rfl
theorem k80_111 : px_cod 80 111 = some ((.getfield 22), 3, [163, 6, 4, 1], 5) := rfl
theorem k80_114 : px_cod 80 114 = some (.arraylength, 1, [], 0) := rfl
theorem k80_115 : px_cod 80 115 = some ((.if_icmp .ge 18), 3, [133], 0) := rfl
theorem k80_118 : px_cod 80 118 = some ((.aload_n 0), 1, [], 0) := rfl
theorem k80_119 : px_cod 80 119 = some ((.iload 10), 2, [], 10) := rfl
theorem k80_121 : px_cod 80 121 = some ((.iload_n 2), 1, [], 2) := rfl
theorem k80_122 : px_cod 80 122 = some ((.lload 8), 2, [], 8) := rfl
theorem k80_124 : px_cod 80 124 = some ((.invokevirtual 100), 3, [0, 141, 82], 0) := rfl
theorem k80_127 : px_cod 80 127 = some ((.iinc 10 1), 3, [10], 1) := rfl
theorem k80_130 : px_cod 80 130 = some ((.goto (-34)), 3, [96], 0) := rfl
theorem k80_133 : px_cod 80 133 = some ((.aload_n 0), 1, [], 0) := rfl
theorem k80_134 : px_cod 80 134 = some ((.getfield 25), 3, [164, 6, 4, 1], 6) := rfl
theorem k80_137 : px_cod 80 137 = some ((.iconst 0), 1, [], 0) := rfl
theorem k80_138 : px_cod 80 138 = some ((.aload_n 0), 1, [], 0) := rfl
theorem k80_139 : px_cod 80 139 = some ((.getfield 22), 3, [163, 6, 4, 1], 5) := rfl
theorem k80_142 : px_cod 80 142 = some ((.iconst 0), 1, [], 0) := rfl
theorem k80_143 : px_cod 80 143 = some ((.aload_n 0), 1, [], 0) := rfl
theorem k80_144 : px_cod 80 144 = some ((.getfield 22), 3, [163, 6, 4, 1], 5) := rfl
theorem k80_147 : px_cod 80 147 = some (.arraylength, 1, [], 0) := rfl
theorem k80_148 : px_cod 80 148 = some ((.invokestatic 104), 3, [2, 17], 0) := rfl
theorem k80_151 : px_cod 80 151 = some ((.lload 5), 2, [], 5) := rfl
theorem k80_153 : px_cod 80 153 = some ((.ldc2_w 110), 3, [0, 8], 12) := rfl
theorem k80_156 : px_cod 80 156 = some (.lmul, 1, [], 0) := rfl
theorem k80_157 : px_cod 80 157 = some ((.lstore 5), 2, [], 5) := rfl
theorem k80_159 : px_cod 80 159 = some ((.iinc 7 1), 3, [7], 1) := rfl
theorem k80_162 : px_cod 80 162 = some ((.goto (-98)), 3, [64], 0) := rfl
theorem k80_165 : px_cod 80 165 = some ((.lconst 0), 1, [], 0) := rfl
theorem k80_166 : px_cod 80 166 = some ((.lstore 7), 2, [], 7) := rfl
theorem k80_168 : px_cod 80 168 = some ((.iconst 0), 1, [], 0) := rfl
theorem k80_169 : px_cod 80 169 = some ((.istore 9), 2, [], 9) := rfl
theorem k80_171 : px_cod 80 171 = some ((.iload 9), 2, [], 9) := rfl
theorem k80_173 : px_cod 80 173 = some ((.aload_n 0), 1, [], 0) := rfl
theorem k80_174 : px_cod 80 174 = some ((.getfield 32), 3, [158, 6, 4, 1], 0) := rfl
theorem k80_177 : px_cod 80 177 = some ((.getfield 43), 3, [36, 1, 0, 1], 2) := rfl
theorem k80_180 : px_cod 80 180 = some ((.if_icmp .ge 47), 3, [227], 0) := rfl
theorem k80_183 : px_cod 80 183 = some ((.iload 9), 2, [], 9) := rfl
theorem k80_185 : px_cod 80 185 = some ((.aload_n 0), 1, [], 0) := rfl
theorem k80_186 : px_cod 80 186 = some ((.getfield 22), 3, [163, 6, 4, 1], 5) := rfl
theorem k80_189 : px_cod 80 189 = some (.arraylength, 1, [], 0) := rfl
theorem k80_190 : px_cod 80 190 = some ((.if_icmp .ge 37), 3, [227], 0) := rfl
theorem k80_193 : px_cod 80 193 = some ((.lload 7), 2, [], 7) := rfl
theorem k80_195 : px_cod 80 195 = some ((.aload_n 0), 1, [], 0) := rfl
theorem k80_196 : px_cod 80 196 = some ((.getfield 32), 3, [158, 6, 4, 1], 0) := rfl
theorem k80_199 : px_cod 80 199 = some ((.iload 9), 2, [], 9) := rfl
theorem k80_201 : px_cod 80 201 = some ((.invokevirtual 112), 3, [0, 142, 39], 0) := rfl
theorem k80_204 : px_cod 80 204 = some ((.ifCond .eq 13), 3, [217], 0) := rfl
theorem k80_207 : px_cod 80 207 = some ((.aload_n 0), 1, [], 0) := rfl
theorem k80_208 : px_cod 80 208 = some ((.getfield 22), 3, [163, 6, 4, 1], 5) := rfl
theorem k80_211 : px_cod 80 211 = some ((.iload 9), 2, [], 9) := rfl
theorem k80_213 : px_cod 80 213 = some (.laload, 1, [], 0) := rfl
theorem k80_214 : px_cod 80 214 = some ((.goto 4), 3, [218], 0) := rfl
theorem k80_217 : px_cod 80 217 = some ((.lconst 0), 1, [], 0) := rfl
theorem k80_218 : px_cod 80 218 = some (.ladd, 1, [], 0) := rfl
theorem k80_219 : px_cod 80 219 = some ((.lstore 7), 2, [], 7) := rfl
theorem k80_221 : px_cod 80 221 = some ((.iinc 9 1), 3, [9], 1) := rfl
theorem k80_224 : px_cod 80 224 = some ((.goto (-53)), 3, [171], 0) := rfl
theorem k80_227 : px_cod 80 227 = some ((.lload 5), 2, [], 5) := rfl
theorem k80_229 : px_cod 80 229 = some ((.lconst 0), 1, [], 0) := rfl
theorem k80_230 : px_cod 80 230 = some (.lcmp, 1, [], 0) := rfl
theorem k80_231 : px_cod 80 231 = some ((.ifCond .le 16), 3, [247], 0) := rfl
theorem k80_234 : px_cod 80 234 = some ((.lload 7), 2, [], 7) := rfl
theorem k80_236 : px_cod 80 236 = some ((.ldc2_w 115), 3, [0, 10], 1000) := rfl
theorem k80_239 : px_cod 80 239 = some (.lmul, 1, [], 0) := rfl
theorem k80_240 : px_cod 80 240 = some ((.lload 5), 2, [], 5) := rfl
theorem k80_242 : px_cod 80 242 = some (.ldiv, 1, [], 0) := rfl
theorem k80_243 : px_cod 80 243 = some (.l2i, 1, [], 0) := rfl
theorem k80_244 : px_cod 80 244 = some ((.goto 4), 3, [248], 0) := rfl
theorem k80_247 : px_cod 80 247 = some ((.iconst 0), 1, [], 0) := rfl
theorem k80_248 : px_cod 80 248 = some (.ireturn, 1, [], 0) := rfl
theorem k81_0 : px_cod 81 0 = some ((.aload_n 0), 1, [], 0) := rfl
theorem k81_1 : px_cod 81 1 = some ((.getfield 32), 3, [158, 6, 4, 1], 0) := rfl
theorem k81_4 : px_cod 81 4 = some ((.getfield 75), 3, [42, 1, 3, 0], 7) := rfl
theorem k81_7 : px_cod 81 7 = some ((.lstore_n 1), 1, [], 1) := rfl
theorem k81_8 : px_cod 81 8 = some ((.lload_n 1), 1, [], 1) := rfl
theorem k81_9 : px_cod 81 9 = some ((.lstore_n 3), 1, [], 3) := rfl
theorem k81_10 : px_cod 81 10 = some ((.aload_n 0), 1, [], 0) := rfl
theorem k81_11 : px_cod 81 11 = some ((.getfield 18), 3, [162, 6, 4, 1], 4) := rfl
theorem k81_14 : px_cod 81 14 = some ((.iconst 0), 1, [], 0) := rfl
theorem k81_15 : px_cod 81 15 = some ((.invokestatic 117), 3, [0, 138, 241], 0) := rfl
theorem k81_18 : px_cod 81 18 = some ((.iconst 1), 1, [], 1) := rfl
theorem k81_19 : px_cod 81 19 = some ((.istore 5), 2, [], 5) := rfl
theorem k81_21 : px_cod 81 21 = some ((.iload 5), 2, [], 5) := rfl
theorem k81_23 : px_cod 81 23 = some ((.aload_n 0), 1, [], 0) := rfl
theorem k81_24 : px_cod 81 24 = some ((.getfield 32), 3, [158, 6, 4, 1], 0) := rfl
theorem k81_27 : px_cod 81 27 = some ((.getfield 43), 3, [36, 1, 0, 1], 2) := rfl
theorem k81_30 : px_cod 81 30 = some ((.if_icmp .gt 77), 3, [107], 0) := rfl
theorem k81_33 : px_cod 81 33 = some ((.lload_n 3), 1, [], 3) := rfl
theorem k81_34 : px_cod 81 34 = some ((.lconst 0), 1, [], 0) := rfl
theorem k81_35 : px_cod 81 35 = some (.lcmp, 1, [], 0) := rfl
theorem k81_36 : px_cod 81 36 = some ((.ifCond .eq 71), 3, [107], 0) := rfl
theorem k81_39 : px_cod 81 39 = some ((.aload_n 0), 1, [], 0) := rfl
theorem k81_40 : px_cod 81 40 = some ((.getfield 32), 3, [158, 6, 4, 1], 0) := rfl
theorem k81_43 : px_cod 81 43 = some ((.lload_n 3), 1, [], 3) := rfl
theorem k81_44 : px_cod 81 44 = some ((.invokevirtual 67), 3, [0, 124, 42], 0) := rfl
theorem k81_47 : px_cod 81 47 = some ((.lload_n 1), 1, [], 1) := rfl
theorem k81_48 : px_cod 81 48 = some ((.ldc2_w 120), 3, [0, 7], (-1)) := rfl
theorem k81_51 : px_cod 81 51 = some (.lxor, 1, [], 0) := rfl
theorem k81_52 : px_cod 81 52 = some (.land, 1, [], 0) := rfl
theorem k81_53 : px_cod 81 53 = some ((.lstore_n 3), 1, [], 3) := rfl
theorem k81_54 : px_cod 81 54 = some ((.lload_n 1), 1, [], 1) := rfl
theorem k81_55 : px_cod 81 55 = some ((.lload_n 3), 1, [], 3) := rfl
theorem k81_56 : px_cod 81 56 = some (.lor, 1, [], 0) := rfl
theorem k81_57 : px_cod 81 57 = some ((.lstore_n 1), 1, [], 1) := rfl
theorem k81_58 : px_cod 81 58 = some ((.iconst 0), 1, [], 0) := rfl
theorem k81_59 : px_cod 81 59 = some ((.istore 6), 2, [], 6) := rfl
theorem k81_61 : px_cod 81 61 = some ((.iload 6), 2, [], 6) := rfl
theorem k81_63 : px_cod 81 63 = some ((.aload_n 0), 1, [], 0) := rfl
theorem k81_64 : px_cod 81 64 = some ((.getfield 32), 3, [158, 6, 4, 1], 0) := rfl
theorem k81_67 : px_cod 81 67 = some ((.getfield 43), 3, [36, 1, 0, 1], 2) := rfl
theorem k81_70 : px_cod 81 70 = some ((.if_icmp .ge 31), 3, [101], 0) := rfl
theorem k81_73 : px_cod 81 73 = some ((.lload_n 3), 1, [], 3) := rfl
theorem k81_74 : px_cod 81 74 = some ((.iload 6), 2, [], 6) := rfl
theorem k81_76 : px_cod 81 76 = some (.lshr, 1, [], 0) := rfl
theorem k81_77 : px_cod 81 77 = some ((.lconst 1), 1, [], 1) := rfl
theorem k81_78 : px_cod 81 78 = some (.land, 1, [], 0) := rfl
theorem k81_79 : px_cod 81 79 = some ((.lconst 1), 1, [], 1) := rfl
theorem k81_80 : px_cod 81 80 = some (.lcmp, 1, [], 0) := rfl
theorem k81_81 : px_cod 81 81 = some ((.ifCond .ne 14), 3, [95], 0) := rfl
theorem k81_84 : px_cod 81 84 = some ((.aload_n 0), 1, [], 0) := rfl
theorem k81_85 : px_cod 81 85 = some ((.getfield 18), 3, [162, 6, 4, 1], 4) := rfl
theorem k81_88 : px_cod 81 88 = some ((.iload 6), 2, [], 6) := rfl
theorem k81_90 : px_cod 81 90 = some ((.iload 5), 2, [], 5) := rfl
theorem k81_92 : px_cod 81 92 = some ((.invokestatic 122), 3, [0, 139, 34], 0) := rfl
theorem k81_95 : px_cod 81 95 = some ((.iinc 6 1), 3, [6], 1) := rfl
theorem k81_98 : px_cod 81 98 = some ((.goto (-37)), 3, [61], 0) := rfl
theorem k81_101 : px_cod 81 101 = some ((.iinc 5 1), 3, [5], 1) := rfl
theorem k81_104 : px_cod 81 104 = some ((.goto (-83)), 3, [21], 0) := rfl
theorem k81_107 : px_cod 81 107 = some (.return_, 1, [], 0) := rfl
theorem k82_0 : px_cod 82 0 = some ((.iload_n 1), 1, [], 1) := rfl
theorem k82_1 : px_cod 82 1 = some ((.ifCond .lt 32), 3, [33], 0) := rfl
theorem k82_4 : px_cod 82 4 = some ((.iload_n 1), 1, [], 1) := rfl
theorem k82_5 : px_cod 82 5 = some ((.aload_n 0), 1, [], 0) := rfl
theorem k82_6 : px_cod 82 6 = some ((.getfield 22), 3, [163, 6, 4, 1], 5) := rfl
theorem k82_9 : px_cod 82 9 = some (.arraylength, 1, [], 0) := rfl
theorem k82_10 : px_cod 82 10 = some ((.if_icmp .ge 23), 3, [33], 0) := rfl
theorem k82_13 : px_cod 82 13 = some ((.iload_n 1), 1, [], 1) := rfl
theorem k82_14 : px_cod 82 14 = some ((.aload_n 0), 1, [], 0) := rfl
theorem k82_15 : px_cod 82 15 = some ((.getfield 25), 3, [164, 6, 4, 1], 6) := rfl
theorem k82_18 : px_cod 82 18 = some (.arraylength, 1, [], 0) := rfl
theorem k82_19 : px_cod 82 19 = some ((.if_icmp .ge 14), 3, [33], 0) := rfl
theorem k82_22 : px_cod 82 22 = some ((.aload_n 0), 1, [], 0) := rfl
theorem k82_23 : px_cod 82 23 = some ((.getfield 22), 3, [163, 6, 4, 1], 5) := rfl
theorem k82_26 : px_cod 82 26 = some ((.iload_n 1), 1, [], 1) := rfl
theorem k82_27 : px_cod 82 27 = some (.laload, 1, [], 0) := rfl
theorem k82_28 : px_cod 82 28 = some ((.lconst 0), 1, [], 0) := rfl
theorem k82_29 : px_cod 82 29 = some (.lcmp, 1, [], 0) := rfl
theorem k82_30 : px_cod 82 30 = some ((.ifCond .ne 4), 3, [34], 0) := rfl
theorem k82_33 : px_cod 82 33 = some (.return_, 1, [], 0) := rfl
theorem k82_34 : px_cod 82 34 = some ((.aload_n 0), 1, [], 0) := rfl
theorem k82_35 : px_cod 82 35 = some ((.getfield 32), 3, [158, 6, 4, 1], 0) := rfl
theorem k82_38 : px_cod 82 38 = some ((.iload_n 1), 1, [], 1) := rfl
theorem k82_39 : px_cod 82 39 = some ((.invokevirtual 112), 3, [0, 142, 39], 0) := rfl
theorem k82_42 : px_cod 82 42 = some ((.ifCond .eq 23), 3, [65], 0) := rfl
theorem k82_45 : px_cod 82 45 = some ((.aload_n 0), 1, [], 0) := rfl
theorem k82_46 : px_cod 82 46 = some ((.getfield 25), 3, [164, 6, 4, 1], 6) := rfl
theorem k82_49 : px_cod 82 49 = some ((.iload_n 1), 1, [], 1) := rfl
theorem k82_50 : px_cod 82 50 = some (.dup2, 1, [], 0) := rfl
theorem k82_51 : px_cod 82 51 = some (.laload, 1, [], 0) := rfl
theorem k82_52 : px_cod 82 52 = some ((.ldc2_w 110), 3, [0, 8], 12) := rfl
theorem k82_55 : px_cod 82 55 = some ((.aload_n 0), 1, [], 0) := rfl
theorem k82_56 : px_cod 82 56 = some ((.getfield 22), 3, [163, 6, 4, 1], 5) := rfl
theorem k82_59 : px_cod 82 59 = some ((.iload_n 1), 1, [], 1) := rfl
theorem k82_60 : px_cod 82 60 = some (.laload, 1, [], 0) := rfl
theorem k82_61 : px_cod 82 61 = some (.lmul, 1, [], 0) := rfl
theorem k82_62 : px_cod 82 62 = some (.ladd, 1, [], 0) := rfl
theorem k82_63 : px_cod 82 63 = some (.lastore, 1, [], 0) := rfl
theorem k82_64 : px_cod 82 64 = some (.return_, 1, [], 0) := rfl
theorem k82_65 : px_cod 82 65 = some ((.aload_n 0), 1, [], 0) := rfl
theorem k82_66 : px_cod 82 66 = some ((.iload_n 1), 1, [], 1) := rfl
theorem k82_67 : px_cod 82 67 = some ((.invokevirtual 126), 3, [0, 144, 83], 0) := rfl
theorem k82_70 : px_cod 82 70 = some ((.istore 5), 2, [], 5) := rfl
theorem k82_72 : px_cod 82 72 = some ((.iconst 0), 1, [], 0) := rfl
theorem k82_73 : px_cod 82 73 = some ((.istore 6), 2, [], 6) := rfl
theorem k82_75 : px_cod 82 75 = some ((.iload 6), 2, [], 6) := rfl
theorem k82_77 : px_cod 82 77 = some ((.iconst 4), 1, [], 4) := rfl
theorem k82_78 : px_cod 82 78 = some ((.if_icmp .ge 110), 3, [188], 0) := rfl
theorem k82_81 : px_cod 82 81 = some ((.aload_n 0), 1, [], 0) := rfl
theorem k82_82 : px_cod 82 82 = some ((.getfield 32), 3, [158, 6, 4, 1], 0) := rfl
theorem k82_85 : px_cod 82 85 = some ((.iload_n 1), 1, [], 1) := rfl
theorem k82_86 : px_cod 82 86 = some ((.iload 6), 2, [], 6) := rfl
theorem k82_88 : px_cod 82 88 = some ((.invokevirtual 129), 3, [0, 145, 41], 0) := rfl
theorem k82_91 : px_cod 82 91 = some ((.istore 7), 2, [], 7) := rfl
theorem k82_93 : px_cod 82 93 = some ((.iload 7), 2, [], 7) := rfl
theorem k82_95 : px_cod 82 95 = some ((.iconst (-1)), 1, [], (-1)) := rfl
theorem k82_96 : px_cod 82 96 = some ((.if_icmp .eq 23), 3, [119], 0) := rfl
theorem k82_99 : px_cod 82 99 = some ((.iload 7), 2, [], 7) := rfl
theorem k82_101 : px_cod 82 101 = some ((.iload 5), 2, [], 5) := rfl
theorem k82_103 : px_cod 82 103 = some ((.if_icmp .ne 16), 3, [119], 0) := rfl
theorem k82_106 : px_cod 82 106 = some ((.ldc2_w 110), 3, [0, 8], 12) := rfl
theorem k82_109 : px_cod 82 109 = some ((.ldc2_w 133), 3, [0, 9], 3) := rfl
theorem k82_112 : px_cod 82 112 = some ((.iload_n 2), 1, [], 2) := rfl
theorem k82_113 : px_cod 82 113 = some (.i2l, 1, [], 0) := rfl
theorem k82_114 : px_cod 82 114 = some (.lmul, 1, [], 0) := rfl
theorem k82_115 : px_cod 82 115 = some (.lsub, 1, [], 0) := rfl
theorem k82_116 : px_cod 82 116 = some ((.goto 5), 3, [121], 0) := rfl
theorem k82_119 : px_cod 82 119 = some ((.iload_n 2), 1, [], 2) := rfl
theorem k82_120 : px_cod 82 120 = some (.i2l, 1, [], 0) := rfl
theorem k82_121 : px_cod 82 121 = some ((.lstore 8), 2, [], 8) := rfl
theorem k82_123 : px_cod 82 123 = some ((.iload 7), 2, [], 7) := rfl
theorem k82_125 : px_cod 82 125 = some ((.iconst (-1)), 1, [], (-1)) := rfl
theorem k82_126 : px_cod 82 126 = some ((.if_icmp .ne 7), 3, [133], 0) := rfl
theorem k82_129 : px_cod 82 129 = some ((.iload_n 1), 1, [], 1) := rfl
theorem k82_130 : px_cod 82 130 = some ((.goto 5), 3, [135], 0) := rfl
theorem k82_133 : px_cod 82 133 = some ((.iload 7), 2, [], 7) := rfl
theorem k82_135 : px_cod 82 135 = some ((.istore 10), 2, [], 10) := rfl
theorem k82_137 : px_cod 82 137 = some ((.iload 10), 2, [], 10) := rfl
theorem k82_139 : px_cod 82 139 = some ((.ifCond .lt 43), 3, [182], 0) := rfl
theorem k82_142 : px_cod 82 142 = some ((.iload 10), 2, [], 10) := rfl
theorem k82_144 : px_cod 82 144 = some ((.aload_n 0), 1, [], 0) := rfl
theorem k82_145 : px_cod 82 145 = some ((.getfield 25), 3, [164, 6, 4, 1], 6) := rfl
theorem k82_148 : px_cod 82 148 = some (.arraylength, 1, [], 0) := rfl
theorem k82_149 : px_cod 82 149 = some ((.if_icmp .ge 33), 3, [182], 0) := rfl
theorem k82_152 : px_cod 82 152 = some ((.lload_n 3), 1, [], 3) := rfl
theorem k82_153 : px_cod 82 153 = some ((.iload 10), 2, [], 10) := rfl
theorem k82_155 : px_cod 82 155 = some (.lshr, 1, [], 0) := rfl
theorem k82_156 : px_cod 82 156 = some ((.lconst 1), 1, [], 1) := rfl
theorem k82_157 : px_cod 82 157 = some (.land, 1, [], 0) := rfl
theorem k82_158 : px_cod 82 158 = some ((.lconst 1), 1, [], 1) := rfl
theorem k82_159 : px_cod 82 159 = some (.lcmp, 1, [], 0) := rfl
theorem k82_160 : px_cod 82 160 = some ((.ifCond .ne 22), 3, [182], 0) := rfl
theorem k82_163 : px_cod 82 163 = some ((.aload_n 0), 1, [], 0) := rfl
theorem k82_164 : px_cod 82 164 = some ((.getfield 25), 3, [164, 6, 4, 1], 6) := rfl
theorem k82_167 : px_cod 82 167 = some ((.iload 10), 2, [], 10) := rfl
theorem k82_169 : px_cod 82 169 = some (.dup2, 1, [], 0) := rfl
theorem k82_170 : px_cod 82 170 = some (.laload, 1, [], 0) := rfl
theorem k82_171 : px_cod 82 171 = some ((.lload 8), 2, [], 8) := rfl
theorem k82_173 : px_cod 82 173 = some ((.aload_n 0), 1, [], 0) := rfl
theorem k82_174 : px_cod 82 174 = some ((.getfield 22), 3, [163, 6, 4, 1], 5) := rfl
theorem k82_177 : px_cod 82 177 = some ((.iload_n 1), 1, [], 1) := rfl
theorem k82_178 : px_cod 82 178 = some (.laload, 1, [], 0) := rfl
theorem k82_179 : px_cod 82 179 = some (.lmul, 1, [], 0) := rfl
theorem k82_180 : px_cod 82 180 = some (.ladd, 1, [], 0) := rfl
theorem k82_181 : px_cod 82 181 = some (.lastore, 1, [], 0) := rfl
theorem k82_182 : px_cod 82 182 = some ((.iinc 6 1), 3, [6], 1) := rfl
theorem k82_185 : px_cod 82 185 = some ((.goto (-110)), 3, [75], 0) := rfl
theorem k82_188 : px_cod 82 188 = some (.return_, 1, [], 0) := rfl
theorem k83_0 : px_cod 83 0 = some ((.iconst 0), 1, [], 0) := rfl
theorem k83_1 : px_cod 83 1 = some ((.istore_n 2), 1, [], 2) := rfl
theorem k83_2 : px_cod 83 2 = some ((.iload_n 2), 1, [], 2) := rfl
theorem k83_3 : px_cod 83 3 = some ((.iconst 4), 1, [], 4) := rfl
theorem k83_4 : px_cod 83 4 = some ((.if_icmp .ge 45), 3, [49], 0) := rfl
theorem k83_7 : px_cod 83 7 = some ((.aload_n 0), 1, [], 0) := rfl
theorem k83_8 : px_cod 83 8 = some ((.getfield 32), 3, [158, 6, 4, 1], 0) := rfl
theorem k83_11 : px_cod 83 11 = some ((.iload_n 1), 1, [], 1) := rfl
theorem k83_12 : px_cod 83 12 = some ((.iload_n 2), 1, [], 2) := rfl
theorem k83_13 : px_cod 83 13 = some ((.invokevirtual 129), 3, [0, 145, 41], 0) := rfl
theorem k83_16 : px_cod 83 16 = some ((.istore_n 3), 1, [], 3) := rfl
theorem k83_17 : px_cod 83 17 = some ((.iload_n 3), 1, [], 3) := rfl
theorem k83_18 : px_cod 83 18 = some ((.iconst (-1)), 1, [], (-1)) := rfl
theorem k83_19 : px_cod 83 19 = some ((.if_icmp .eq 24), 3, [43], 0) := rfl
theorem k83_22 : px_cod 83 22 = some ((.aload_n 0), 1, [], 0) := rfl
theorem k83_23 : px_cod 83 23 = some ((.getfield 18), 3, [162, 6, 4, 1], 4) := rfl
theorem k83_26 : px_cod 83 26 = some ((.iload_n 3), 1, [], 3) := rfl
theorem k83_27 : px_cod 83 27 = some ((.invokestatic 135), 3, [0, 146, 33], 0) := rfl
theorem k83_30 : px_cod 83 30 = some ((.aload_n 0), 1, [], 0) := rfl
theorem k83_31 : px_cod 83 31 = some ((.getfield 18), 3, [162, 6, 4, 1], 4) := rfl
theorem k83_34 : px_cod 83 34 = some ((.iload_n 1), 1, [], 1) := rfl
theorem k83_35 : px_cod 83 35 = some ((.invokestatic 135), 3, [0, 146, 33], 0) := rfl
theorem k83_38 : px_cod 83 38 = some ((.if_icmp .ge 5), 3, [43], 0) := rfl
theorem k83_41 : px_cod 83 41 = some ((.iload_n 3), 1, [], 3) := rfl
theorem k83_42 : px_cod 83 42 = some (.ireturn, 1, [], 0) := rfl
theorem k83_43 : px_cod 83 43 = some ((.iinc 2 1), 3, [2], 1) := rfl
theorem k83_46 : px_cod 83 46 = some ((.goto (-44)), 3, [2], 0) := rfl
theorem k83_49 : px_cod 83 49 = some ((.iconst (-1)), 1, [], (-1)) := rfl
theorem k83_50 : px_cod 83 50 = some (.ireturn, 1, [], 0) := rfl
theorem k85_0 : px_cod 85 0 = some ((.aload_n 0), 1, [], 0) := rfl
theorem k85_1 : px_cod 85 1 = some ((.iconst 0), 1, [], 0) := rfl
theorem k85_2 : px_cod 85 2 = some ((.putfield 9), 3, [10, 7, 0, 0], 0) := rfl
theorem k85_5 : px_cod 85 5 = some ((.aload_n 0), 1, [], 0) := rfl
theorem k85_6 : px_cod 85 6 = some ((.iconst 0), 1, [], 0) := rfl
theorem k85_7 : px_cod 85 7 = some ((.putfield 15), 3, [13, 7, 0, 0], 1) := rfl
theorem k85_10 : px_cod 85 10 = some ((.aload_n 0), 1, [], 0) := rfl
theorem k85_11 : px_cod 85 11 = some ((.iload_n 1), 1, [], 1) := rfl
theorem k85_12 : px_cod 85 12 = some ((.putfield 18), 3, [16, 7, 0, 0], 2) := rfl
theorem k85_15 : px_cod 85 15 = some ((.aload_n 0), 1, [], 0) := rfl
theorem k85_16 : px_cod 85 16 = some ((.getfield 21), 3, [19, 7, 4, 1], 3) := rfl
theorem k85_19 : px_cod 85 19 = some ((.iconst 0), 1, [], 0) := rfl
theorem k85_20 : px_cod 85 20 = some ((.invokestatic 34), 3, [0, 98, 241], 0) := rfl
theorem k85_23 : px_cod 85 23 = some ((.aload_n 0), 1, [], 0) := rfl
theorem k85_24 : px_cod 85 24 = some ((.getfield 25), 3, [23, 7, 4, 1], 4) := rfl
theorem k85_27 : px_cod 85 27 = some ((.iconst 0), 1, [], 0) := rfl
theorem k85_28 : px_cod 85 28 = some ((.invokestatic 34), 3, [0, 98, 241], 0) := rfl
theorem k85_31 : px_cod 85 31 = some ((.aload_n 0), 1, [], 0) := rfl
theorem k85_32 : px_cod 85 32 = some ((.getfield 28), 3, [26, 7, 4, 1], 5) := rfl
theorem k85_35 : px_cod 85 35 = some ((.iconst 0), 1, [], 0) := rfl
theorem k85_36 : px_cod 85 36 = some ((.invokestatic 34), 3, [0, 98, 241], 0) := rfl
theorem k85_39 : px_cod 85 39 = some (.return_, 1, [], 0) := rfl
theorem k86_0 : px_cod 86 0 = some ((.aload_n 0), 1, [], 0) := rfl
theorem k86_1 : px_cod 86 1 = some ((.getfield 9), 3, [10, 7, 0, 0], 0) := rfl
theorem k86_4 : px_cod 86 4 = some ((.bipush 50), 2, [], 50) := rfl
theorem k86_6 : px_cod 86 6 = some ((.if_icmp .ge 20), 3, [26], 0) := rfl
theorem k86_9 : px_cod 86 9 = some ((.aload_n 0), 1, [], 0) := rfl
theorem k86_10 : px_cod 86 10 = some ((.getfield 31), 3, [30, 7, 4, 1], 6) := rfl
theorem k86_13 : px_cod 86 13 = some ((.aload_n 0), 1, [], 0) := rfl
theorem k86_14 : px_cod 86 14 = some ((.getfield 9), 3, [10, 7, 0, 0], 0) := rfl
theorem k86_17 : px_cod 86 17 = some ((.bipush 10), 2, [], 10) := rfl
theorem k86_19 : px_cod 86 19 = some (.imul, 1, [], 0) := rfl
theorem k86_20 : px_cod 86 20 = some ((.iload_n 1), 1, [], 1) := rfl
theorem k86_21 : px_cod 86 21 = some (.iadd, 1, [], 0) := rfl
theorem k86_22 : px_cod 86 22 = some ((.iload_n 2), 1, [], 2) := rfl
theorem k86_23 : px_cod 86 23 = some ((.invokestatic 40), 3, [0, 103, 34], 0) := rfl
theorem k86_26 : px_cod 86 26 = some (.return_, 1, [], 0) := rfl
theorem k87_0 : px_cod 87 0 = some ((.iload_n 2), 1, [], 2) := rfl
theorem k87_1 : px_cod 87 1 = some ((.iconst 0), 1, [], 0) := rfl
theorem k87_2 : px_cod 87 2 = some ((.aload_n 0), 1, [], 0) := rfl
theorem k87_3 : px_cod 87 3 = some ((.getfield 9), 3, [10, 7, 0, 0], 0) := rfl
theorem k87_6 : px_cod 87 6 = some ((.bipush 50), 2, [], 50) := rfl
theorem k87_8 : px_cod 87 8 = some ((.invokestatic 44), 3, [6, 19], 0) := rfl
theorem k87_11 : px_cod 87 11 = some ((.iconst 1), 1, [], 1) := rfl
theorem k87_12 : px_cod 87 12 = some (.isub, 1, [], 0) := rfl
theorem k87_13 : px_cod 87 13 = some ((.invokestatic 50), 3, [0, 116, 30], 0) := rfl
theorem k87_16 : px_cod 87 16 = some ((.ifCond .eq 14), 3, [30], 0) := rfl
theorem k87_19 : px_cod 87 19 = some ((.aload_n 0), 1, [], 0) := rfl
theorem k87_20 : px_cod 87 20 = some ((.getfield 18), 3, [16, 7, 0, 0], 2) := rfl
theorem k87_23 : px_cod 87 23 = some ((.iload_n 1), 1, [], 1) := rfl
theorem k87_24 : px_cod 87 24 = some ((.invokestatic 54), 3, [0, 117, 32], 0) := rfl
theorem k87_27 : px_cod 87 27 = some ((.ifCond .ne 6), 3, [33], 0) := rfl
theorem k87_30 : px_cod 87 30 = some ((.bipush (-2)), 2, [], (-2)) := rfl
theorem k87_32 : px_cod 87 32 = some (.ireturn, 1, [], 0) := rfl
theorem k87_33 : px_cod 87 33 = some ((.aload_n 0), 1, [], 0) := rfl
theorem k87_34 : px_cod 87 34 = some ((.getfield 31), 3, [30, 7, 4, 1], 6) := rfl
theorem k87_37 : px_cod 87 37 = some ((.iload_n 2), 1, [], 2) := rfl
theorem k87_38 : px_cod 87 38 = some ((.bipush 10), 2, [], 10) := rfl
theorem k87_40 : px_cod 87 40 = some (.imul, 1, [], 0) := rfl
theorem k87_41 : px_cod 87 41 = some ((.iload_n 1), 1, [], 1) := rfl
theorem k87_42 : px_cod 87 42 = some (.iadd, 1, [], 0) := rfl
theorem k87_43 : px_cod 87 43 = some ((.invokestatic 58), 3, [0, 118, 33], 0) := rfl
theorem k87_46 : px_cod 87 46 = some (.ireturn, 1, [], 0) := rfl
theorem k88_0 : px_cod 88 0 = some ((.aload_n 0), 1, [], 0) := rfl
theorem k88_1 : px_cod 88 1 = some ((.aload_n 1), 1, [], 1) := rfl
theorem k88_2 : px_cod 88 2 = some ((.getfield 9), 3, [10, 7, 0, 0], 0) := rfl
theorem k88_5 : px_cod 88 5 = some ((.putfield 9), 3, [10, 7, 0, 0], 0) := rfl
theorem k88_8 : px_cod 88 8 = some ((.aload_n 0), 1, [], 0) := rfl
theorem k88_9 : px_cod 88 9 = some ((.aload_n 1), 1, [], 1) := rfl
theorem k88_10 : px_cod 88 10 = some ((.getfield 15), 3, [13, 7, 0, 0], 1) := rfl
theorem k88_13 : px_cod 88 13 = some ((.putfield 15), 3, [13, 7, 0, 0], 1) := rfl
theorem k88_16 : px_cod 88 16 = some ((.aload_n 0), 1, [], 0) := rfl
theorem k88_17 : px_cod 88 17 = some ((.aload_n 1), 1, [], 1) := rfl
theorem k88_18 : px_cod 88 18 = some ((.getfield 18), 3, [16, 7, 0, 0], 2) := rfl
theorem k88_21 : px_cod 88 21 = some ((.putfield 18), 3, [16, 7, 0, 0], 2) := rfl
theorem k88_24 : px_cod 88 24 = some ((.aload_n 1), 1, [], 1) := rfl
theorem k88_25 : px_cod 88 25 = some ((.getfield 21), 3, [19, 7, 4, 1], 3) := rfl
theorem k88_28 : px_cod 88 28 = some ((.aload_n 0), 1, [], 0) := rfl
theorem k88_29 : px_cod 88 29 = some ((.getfield 21), 3, [19, 7, 4, 1], 3) := rfl
theorem k88_32 : px_cod 88 32 = some ((.invokestatic 62), 3, [0, 193, 35], 0) := rfl
theorem k88_35 : px_cod 88 35 = some ((.aload_n 1), 1, [], 1) := rfl
theorem k88_36 : px_cod 88 36 = some ((.getfield 25), 3, [23, 7, 4, 1], 4) := rfl
theorem k88_39 : px_cod 88 39 = some ((.aload_n 0), 1, [], 0) := rfl
theorem k88_40 : px_cod 88 40 = some ((.getfield 25), 3, [23, 7, 4, 1], 4) := rfl
theorem k88_43 : px_cod 88 43 = some ((.invokestatic 62), 3, [0, 193, 35], 0) := rfl
theorem k88_46 : px_cod 88 46 = some ((.aload_n 1), 1, [], 1) := rfl
theorem k88_47 : px_cod 88 47 = some ((.getfield 28), 3, [26, 7, 4, 1], 5) := rfl
theorem k88_50 : px_cod 88 50 = some ((.aload_n 0), 1, [], 0) := rfl
theorem k88_51 : px_cod 88 51 = some ((.getfield 28), 3, [26, 7, 4, 1], 5) := rfl
theorem k88_54 : px_cod 88 54 = some ((.invokestatic 62), 3, [0, 193, 35], 0) := rfl
theorem k88_57 : px_cod 88 57 = some ((.aload_n 1), 1, [], 1) := rfl
theorem k88_58 : px_cod 88 58 = some ((.getfield 31), 3, [30, 7, 4, 1], 6) := rfl
theorem k88_61 : px_cod 88 61 = some ((.aload_n 0), 1, [], 0) := rfl
theorem k88_62 : px_cod 88 62 = some ((.getfield 31), 3, [30, 7, 4, 1], 6) := rfl
theorem k88_65 : px_cod 88 65 = some ((.invokestatic 62), 3, [0, 193, 35], 0) := rfl
theorem k88_68 : px_cod 88 68 = some (.return_, 1, [], 0) := rfl
section PXL
variable {L t : Nat} {r : MR}
-- Laws.forgetLevels ('R68',)
theorem b63_0 (hr : px_hr r) (d : Nat) (i l : MI)  : px_X (d + 1) 63 (0, [vR 68], []) (px_sh L, i, l, r, t) = (px_C d 241 [vR 70, vI (-1)] (px_sh L, i, l, r, t)).bind (fun q => px_X (d + 1) 63 (px_psh (8, [vR 68], []) q.1) q.2) := ((xs_aldn k63_0 rfl).trans ((xs_get4 k63_1 (px_s68 L) (Nat.le_of_ble_eq_true rfl) (px_r68_2 hr)).trans ((xs_ic k63_4 (by omega)).trans (xs_callsB k63_5 (as := [vR 70, vI (-1)]) rfl rfl (Nat.le_of_ble_eq_true rfl) (Nat.le_of_ble_eq_true rfl) (Nat.le_of_ble_eq_true rfl)))))
theorem b63_8 (hr : px_hr r) (d : Nat) (i l : MI)  : px_X d 63 (8, [vR 68], []) (px_sh L, i, l, r, t) = some (none, (px_sh L, i, l, r, t)) := (xs_rv k63_8 rfl)
-- Laws.textAt ('R68', 'I')
theorem b64_0 (hr : px_hr r) (d : Nat) (i l : MI) (x1 : Int) (h1 : (¬ (x1 < 0)) → (¬ (6 ≤ x1)) → 0 ≤ x1 ∧ x1 < 6) : px_X d 64 (0, [vR 68, vI x1], []) (px_sh L, i, l, r, t) = if x1 < 0 then some (some (vN), (px_sh L, i, l, r, t)) else if 6 ≤ x1 then some (some (vN), (px_sh L, i, l, r, t)) else some (some (vR (73 + 5 * x1.toNat)), (px_sh L, i, l, r, t)) := ((xs_ildn k64_0 rfl).trans ((xs_ilt k64_1).trans (px_ite (fun c1 => ((xs_null k64_22).trans (xs_ra k64_23 rfl))) (fun c1 => ((xs_ildn k64_4 rfl).trans ((xs_aldn k64_5 rfl).trans ((xs_get4 k64_6 (px_s68 L) (Nat.le_of_ble_eq_true rfl) (px_r68_1 hr)).trans ((xs_aln k64_9 (px_s69 L)).trans ((xs_jge k64_10).trans (px_ite (fun c2 => ((xs_null k64_22).trans (xs_ra k64_23 rfl))) (fun c2 => ((xs_aldn k64_13 rfl).trans ((xs_get4 k64_14 (px_s68 L) (Nat.le_of_ble_eq_true rfl) (px_r68_1 hr)).trans ((xs_ildn k64_17 rfl).trans ((xs_aald k64_18 (px_s69 L) (by omega) (h1 c1 c2) (px_tx_r hr (h1 c1 c2))).trans ((xs_goto k64_19).trans (xs_ra k64_23 rfl)))))))))))))))))
-- Laws.levelAt ('R68', 'I')
theorem b65_0 (hr : px_hr r) (d : Nat) (i l : MI) (x1 : Int) (h1 : (¬ (x1 < 0)) → (x1 < 1440) → 0 ≤ x1 ∧ x1 < 1440) (h2 : (¬ (x1 < 0)) → (x1 < 1440) → (¬ ((i 70 x1) = (-1))) → 0 ≤ x1 ∧ x1 < 1440) : px_X (d + 1) 65 (0, [vR 68, vI x1, vJ, vJ], []) (px_sh L, i, l, r, t) = if x1 < 0 then some (some (vI 0), (px_sh L, i, l, r, t)) else if x1 < 1440 then if (i 70 x1) = (-1) then (px_C d 33 [vR 71, vI 0] (px_sh L, i, l, r, t)).bind (fun q => px_X (d + 1) 65 (px_psh (33, [vR 68, vI x1, vJ, vJ], []) q.1) q.2) else some (some (vI (i 70 x1)), (px_sh L, i, l, r, t)) else some (some (vI 0), (px_sh L, i, l, r, t)) := ((xs_ildn k65_0 rfl).trans ((xs_ilt k65_1).trans (px_ite (fun c1 => ((xs_ic k65_13 (by omega)).trans (xs_ri k65_14 rfl))) (fun c1 => ((xs_ildn k65_4 rfl).trans ((xs_aldn k65_5 rfl).trans ((xs_get4 k65_6 (px_s68 L) (Nat.le_of_ble_eq_true rfl) (px_r68_2 hr)).trans ((xs_aln k65_9 (px_s70 L)).trans ((xs_jlt k65_10).trans (px_ite (fun c2 => ((xs_aldn k65_15 rfl).trans ((xs_get4 k65_16 (px_s68 L) (Nat.le_of_ble_eq_true rfl) (px_r68_2 hr)).trans ((xs_ildn k65_19 rfl).trans ((xs_iald k65_20 (px_s70 L) (h1 c1 c2)).trans ((xs_ic k65_21 (by omega)).trans ((xs_jne k65_22).trans (px_ite (fun c3 => ((xs_aldn k65_25 rfl).trans ((xs_get4 k65_26 (px_s68 L) (Nat.le_of_ble_eq_true rfl) (px_r68_3 hr)).trans ((xs_ic k65_29 (by omega)).trans (xs_callsB k65_30 (as := [vR 71, vI 0]) rfl rfl (Nat.le_of_ble_eq_true rfl) (Nat.le_of_ble_eq_true rfl) (Nat.le_of_ble_eq_true rfl)))))) (fun c3 => ((xs_aldn k65_115 rfl).trans ((xs_get4 k65_116 (px_s68 L) (Nat.le_of_ble_eq_true rfl) (px_r68_2 hr)).trans ((xs_ildn k65_119 rfl).trans ((xs_iald k65_120 (px_s70 L) (h2 c1 c2 c3)).trans (xs_ri k65_121 rfl)))))))))))))) (fun c2 => ((xs_ic k65_13 (by omega)).trans (xs_ri k65_14 rfl)))))))))))))
theorem b65_33 (hr : px_hr r) (d : Nat) (i l : MI) (x1 : Int) (xs0 : Int) : px_X (d + 1) 65 (33, [vR 68, vI x1, vJ, vJ], [vI xs0]) (px_sh L, i, l, r, t) = (px_C d 34 [vR 71, vI 0, vI x1] (px_sh L, i, l, r, t)).bind (fun q => px_X (d + 1) 65 (px_psh (43, [vR 68, vI x1, vI xs0, vJ], []) q.1) q.2) := ((xs_istn k65_33 (Nat.le_of_ble_eq_true rfl) (ls' := [vR 68, vI x1, vI xs0, vJ]) rfl).trans ((xs_aldn k65_34 rfl).trans ((xs_get4 k65_35 (px_s68 L) (Nat.le_of_ble_eq_true rfl) (px_r68_3 hr)).trans ((xs_ic k65_38 (by omega)).trans ((xs_ildn k65_39 rfl).trans (xs_callsB k65_40 (as := [vR 71, vI 0, vI x1]) rfl rfl (Nat.le_of_ble_eq_true rfl) (Nat.le_of_ble_eq_true rfl) (Nat.le_of_ble_eq_true rfl)))))))
theorem b65_43 (hr : px_hr r) (d : Nat) (i l : MI) (x1 : Int) (x2 : Int) : px_X (d + 1) 65 (43, [vR 68, vI x1, vI x2, vJ], []) (px_sh L, i, l, r, t) = (px_C d 34 [vR 71, vI 1, vI (i 4 3)] (px_sh L, i, l, r, t)).bind (fun q => px_X (d + 1) 65 (px_psh (58, [vR 68, vI x1, vI x2, vJ], []) q.1) q.2) := ((xs_aldn k65_43 rfl).trans ((xs_get4 k65_44 (px_s68 L) (Nat.le_of_ble_eq_true rfl) (px_r68_3 hr)).trans ((xs_ic k65_47 (by omega)).trans ((xs_aldn k65_48 rfl).trans ((xs_get4 k65_49 (px_s68 L) (Nat.le_of_ble_eq_true rfl) (px_r68_0 hr)).trans ((xs_get0 k65_52 (px_s4 L) (Nat.le_of_ble_eq_true rfl)).trans (xs_callsB k65_55 (as := [vR 71, vI 1, vI (i 4 3)]) rfl rfl (Nat.le_of_ble_eq_true rfl) (Nat.le_of_ble_eq_true rfl) (Nat.le_of_ble_eq_true rfl))))))))
theorem b65_58 (hr : px_hr r) (d : Nat) (i l : MI) (x1 : Int) (x2 : Int) : px_X (d + 1) 65 (58, [vR 68, vI x1, vI x2, vJ], []) (px_sh L, i, l, r, t) = (px_C d 34 [vR 71, vI 2, vI (i 4 4)] (px_sh L, i, l, r, t)).bind (fun q => px_X (d + 1) 65 (px_psh (73, [vR 68, vI x1, vI x2, vJ], []) q.1) q.2) := ((xs_aldn k65_58 rfl).trans ((xs_get4 k65_59 (px_s68 L) (Nat.le_of_ble_eq_true rfl) (px_r68_3 hr)).trans ((xs_ic k65_62 (by omega)).trans ((xs_aldn k65_63 rfl).trans ((xs_get4 k65_64 (px_s68 L) (Nat.le_of_ble_eq_true rfl) (px_r68_0 hr)).trans ((xs_get0 k65_67 (px_s4 L) (Nat.le_of_ble_eq_true rfl)).trans (xs_callsB k65_70 (as := [vR 71, vI 2, vI (i 4 4)]) rfl rfl (Nat.le_of_ble_eq_true rfl) (Nat.le_of_ble_eq_true rfl) (Nat.le_of_ble_eq_true rfl))))))))
theorem b65_73 (hr : px_hr r) (d : Nat) (i l : MI) (x1 : Int) (x2 : Int) : px_X (d + 1) 65 (73, [vR 68, vI x1, vI x2, vJ], []) (px_sh L, i, l, r, t) = (px_C d 71 [vR 68, vI 0, vI 999, vI (px_w32 (90 - (px_w32 (Int.tdiv (if 0 ≤ (px_w32 ((Int.tmod x1 720) - 360)) then (px_w32 ((Int.tmod x1 720) - 360)) else px_w32 (0 - (px_w32 ((Int.tmod x1 720) - 360)))) 4))))] (px_sh L, i, l, r, t)).bind (fun q => px_X (d + 1) 65 (px_psh (105, [vR 68, vI x1, vI x2, vI (px_w32 (90 - (px_w32 (Int.tdiv (if 0 ≤ (px_w32 ((Int.tmod x1 720) - 360)) then (px_w32 ((Int.tmod x1 720) - 360)) else px_w32 (0 - (px_w32 ((Int.tmod x1 720) - 360)))) 4))))], [vI x1, vR 70]) q.1) q.2) := ((xs_bi k65_73 (by omega)).trans ((xs_ildn k65_75 rfl).trans ((xs_si k65_76 (by omega)).trans ((xs_irem k65_79 (by omega)).trans ((xs_si k65_80 (by omega)).trans ((xs_isub k65_83).trans ((xs_iabs k65_84 (Nat.le_of_ble_eq_true rfl)).trans ((xs_ic k65_87 (by omega)).trans ((xs_idiv k65_88 (by omega)).trans ((xs_isub k65_89).trans ((xs_istn k65_90 (Nat.le_of_ble_eq_true rfl) (ls' := [vR 68, vI x1, vI x2, vI (px_w32 (90 - (px_w32 (Int.tdiv (if 0 ≤ (px_w32 ((Int.tmod x1 720) - 360)) then (px_w32 ((Int.tmod x1 720) - 360)) else px_w32 (0 - (px_w32 ((Int.tmod x1 720) - 360)))) 4))))]) rfl).trans ((xs_aldn k65_91 rfl).trans ((xs_get4 k65_92 (px_s68 L) (Nat.le_of_ble_eq_true rfl) (px_r68_2 hr)).trans ((xs_ildn k65_95 rfl).trans ((xs_aldn k65_96 rfl).trans ((xs_ic k65_97 (by omega)).trans ((xs_si k65_98 (by omega)).trans ((xs_ildn k65_101 rfl).trans (xs_callvB k65_102 (as := [vI 0, vI 999, vI (px_w32 (90 - (px_w32 (Int.tdiv (if 0 ≤ (px_w32 ((Int.tmod x1 720) - 360)) then (px_w32 ((Int.tmod x1 720) - 360)) else px_w32 (0 - (px_w32 ((Int.tmod x1 720) - 360)))) 4))))]) rfl rfl (Nat.le_of_ble_eq_true rfl) (Nat.le_of_ble_eq_true rfl) (Nat.le_of_ble_eq_true rfl) (px_s68 L) (Nat.le_of_ble_eq_true rfl))))))))))))))))))))
theorem b65_105 (hr : px_hr r) (d : Nat) (i l : MI) (x1 : Int) (x2 : Int) (x3 : Int) (xs0 : Int) (xs1 : Int) (h1 : 0 ≤ xs1 ∧ xs1 < 1440) : px_X (d + 1) 65 (105, [vR 68, vI x1, vI x2, vI x3], [vI xs0, vI xs1, vR 70]) (px_sh L, i, l, r, t) = (px_C d 34 [vR 71, vI 0, vI x2] (px_sh L, (px_up i 70 xs1 xs0), l, r, t)).bind (fun q => px_X (d + 1) 65 (px_psh (115, [vR 68, vI x1, vI x2, vI x3], []) q.1) q.2) := ((xs_iast k65_105 (px_s70 L) (h1) (Nat.le_of_ble_eq_true rfl)).trans ((xs_aldn k65_106 rfl).trans ((xs_get4 k65_107 (px_s68 L) (Nat.le_of_ble_eq_true rfl) (px_r68_3 hr)).trans ((xs_ic k65_110 (by omega)).trans ((xs_ildn k65_111 rfl).trans (xs_callsB k65_112 (as := [vR 71, vI 0, vI x2]) rfl rfl (Nat.le_of_ble_eq_true rfl) (Nat.le_of_ble_eq_true rfl) (Nat.le_of_ble_eq_true rfl)))))))
theorem b65_115 (hr : px_hr r) (d : Nat) (i l : MI) (x1 : Int) (x2 : Int) (x3 : Int) (h1 : 0 ≤ x1 ∧ x1 < 1440) : px_X d 65 (115, [vR 68, vI x1, vI x2, vI x3], []) (px_sh L, i, l, r, t) = some (some (vI (i 70 x1)), (px_sh L, i, l, r, t)) := ((xs_aldn k65_115 rfl).trans ((xs_get4 k65_116 (px_s68 L) (Nat.le_of_ble_eq_true rfl) (px_r68_2 hr)).trans ((xs_ildn k65_119 rfl).trans ((xs_iald k65_120 (px_s70 L) (h1)).trans (xs_ri k65_121 rfl)))))
-- Laws.standAt ('R68', 'I')
theorem b66_0 (hr : px_hr r) (d : Nat) (i l : MI) (x1 : Int) : px_X (d + 1) 66 (0, [vR 68, vI x1, vJ], []) (px_sh L, i, l, r, t) = (px_C d 65 [vR 68, vI x1] (px_sh L, i, l, r, t)).bind (fun q => px_X (d + 1) 66 (px_psh (5, [vR 68, vI x1, vJ], []) q.1) q.2) := ((xs_aldn k66_0 rfl).trans ((xs_ildn k66_1 rfl).trans (xs_callvB k66_2 (as := [vI x1]) rfl rfl (Nat.le_of_ble_eq_true rfl) (Nat.le_of_ble_eq_true rfl) (Nat.le_of_ble_eq_true rfl) (px_s68 L) (Nat.le_of_ble_eq_true rfl))))
theorem b66_5 (hr : px_hr r) (d : Nat) (i l : MI) (x1 : Int) (xs0 : Int) : px_X (d + 1) 66 (5, [vR 68, vI x1, vJ], [vI xs0]) (px_sh L, i, l, r, t) = (px_C d 34 [vR 71, vI 0, vI x1] (px_sh L, i, l, r, t)).bind (fun q => px_X (d + 1) 66 (px_psh (15, [vR 68, vI x1, vI xs0], []) q.1) q.2) := ((xs_istn k66_5 (Nat.le_of_ble_eq_true rfl) (ls' := [vR 68, vI x1, vI xs0]) rfl).trans ((xs_aldn k66_6 rfl).trans ((xs_get4 k66_7 (px_s68 L) (Nat.le_of_ble_eq_true rfl) (px_r68_3 hr)).trans ((xs_ic k66_10 (by omega)).trans ((xs_ildn k66_11 rfl).trans (xs_callsB k66_12 (as := [vR 71, vI 0, vI x1]) rfl rfl (Nat.le_of_ble_eq_true rfl) (Nat.le_of_ble_eq_true rfl) (Nat.le_of_ble_eq_true rfl)))))))
theorem b66_15 (hr : px_hr r) (d : Nat) (i l : MI) (x1 : Int) (x2 : Int) : px_X (d + 1) 66 (15, [vR 68, vI x1, vI x2], []) (px_sh L, i, l, r, t) = (px_C d 34 [vR 71, vI 8, vI x2] (px_sh L, i, l, r, t)).bind (fun q => px_X (d + 1) 66 (px_psh (25, [vR 68, vI x1, vI x2], []) q.1) q.2) := ((xs_aldn k66_15 rfl).trans ((xs_get4 k66_16 (px_s68 L) (Nat.le_of_ble_eq_true rfl) (px_r68_3 hr)).trans ((xs_bi k66_19 (by omega)).trans ((xs_ildn k66_21 rfl).trans (xs_callsB k66_22 (as := [vR 71, vI 8, vI x2]) rfl rfl (Nat.le_of_ble_eq_true rfl) (Nat.le_of_ble_eq_true rfl) (Nat.le_of_ble_eq_true rfl))))))
theorem b66_25 (hr : px_hr r) (d : Nat) (i l : MI) (x1 : Int) (x2 : Int) : px_X d 66 (25, [vR 68, vI x1, vI x2], []) (px_sh L, i, l, r, t) = some (none, (px_sh L, i, l, r, t)) := (xs_rv k66_25 rfl)
-- Laws.wishOf ('R68', 'I', 'I', 'I')
theorem b67_0 (hr : px_hr r) (d : Nat) (i l : MI) (x1 : Int) (x2 : Int) (x3 : Int) : px_X (d + 1) 67 (0, [vR 68, vI x1, vI x2, vI x3, vJ, vJ, vJ, vJ, vJ], []) (px_sh L, i, l, r, t) = (px_C d 52 [vR 4, vI x1] (px_sh L, i, l, r, t)).bind (fun q => px_X (d + 1) 67 (px_psh (8, [vR 68, vI x1, vI x2, vI x3, vJ, vJ, vJ, vJ, vJ], []) q.1) q.2) := ((xs_aldn k67_0 rfl).trans ((xs_get4 k67_1 (px_s68 L) (Nat.le_of_ble_eq_true rfl) (px_r68_0 hr)).trans ((xs_ildn k67_4 rfl).trans (xs_callvB k67_5 (as := [vI x1]) rfl rfl (Nat.le_of_ble_eq_true rfl) (Nat.le_of_ble_eq_true rfl) (Nat.le_of_ble_eq_true rfl) (px_s4 L) (Nat.le_of_ble_eq_true rfl)))))
theorem b67_8_N (hr : px_hr r) (d : Nat) (i l : MI) (x1 : Int) (x2 : Int) (x3 : Int) : px_X (d + 1) 67 (8, [vR 68, vI x1, vI x2, vI x3, vJ, vJ, vJ, vJ, vJ], [vN]) (px_sh L, i, l, r, t) = (px_C d 56 [vR 4, vI x2] (px_sh L, i, l, r, t)).bind (fun q => px_X (d + 1) 67 (px_psh (18, [vR 68, vI x1, vI x2, vI x3, vN, vJ, vJ, vJ, vJ], []) q.1) q.2) := ((xs_ast k67_8 (Nat.le_of_ble_eq_true rfl) (ls' := [vR 68, vI x1, vI x2, vI x3, vN, vJ, vJ, vJ, vJ]) rfl).trans ((xs_aldn k67_10 rfl).trans ((xs_get4 k67_11 (px_s68 L) (Nat.le_of_ble_eq_true rfl) (px_r68_0 hr)).trans ((xs_ildn k67_14 rfl).trans (xs_callvB k67_15 (as := [vI x2]) rfl rfl (Nat.le_of_ble_eq_true rfl) (Nat.le_of_ble_eq_true rfl) (Nat.le_of_ble_eq_true rfl) (px_s4 L) (Nat.le_of_ble_eq_true rfl))))))
theorem b67_8_g (hr : px_hr r) (d : Nat) (i l : MI) (x1 : Int) (x2 : Int) (x3 : Int) {ks0 : Nat} (hgs0 : px_gs ks0) : px_X (d + 1) 67 (8, [vR 68, vI x1, vI x2, vI x3, vJ, vJ, vJ, vJ, vJ], [vR ks0]) (px_sh L, i, l, r, t) = (px_C d 56 [vR 4, vI x2] (px_sh L, i, l, r, t)).bind (fun q => px_X (d + 1) 67 (px_psh (18, [vR 68, vI x1, vI x2, vI x3, vR ks0, vJ, vJ, vJ, vJ], []) q.1) q.2) := ((xs_ast k67_8 (Nat.le_of_ble_eq_true rfl) (ls' := [vR 68, vI x1, vI x2, vI x3, vR ks0, vJ, vJ, vJ, vJ]) rfl).trans ((xs_aldn k67_10 rfl).trans ((xs_get4 k67_11 (px_s68 L) (Nat.le_of_ble_eq_true rfl) (px_r68_0 hr)).trans ((xs_ildn k67_14 rfl).trans (xs_callvB k67_15 (as := [vI x2]) rfl rfl (Nat.le_of_ble_eq_true rfl) (Nat.le_of_ble_eq_true rfl) (Nat.le_of_ble_eq_true rfl) (px_s4 L) (Nat.le_of_ble_eq_true rfl))))))
theorem b67_18_i4N (hr : px_hr r) (d : Nat) (i l : MI) (x1 : Int) (x2 : Int) (x3 : Int) (xs0 : Int) : px_X (d + 1) 67 (18, [vR 68, vI x1, vI x2, vI x3, vN, vJ, vJ, vJ, vJ], [vI xs0]) (px_sh L, i, l, r, t) = (px_C d 64 [vR 68, vI (i 4 8)] (px_sh L, i, l, r, t)).bind (fun q => px_X (d + 1) 67 (px_psh (31, [vR 68, vI x1, vI x2, vI x3, vN, vI xs0, vJ, vJ, vJ], []) q.1) q.2) := ((xs_ist k67_18 (Nat.le_of_ble_eq_true rfl) (ls' := [vR 68, vI x1, vI x2, vI x3, vN, vI xs0, vJ, vJ, vJ]) rfl).trans ((xs_aldn k67_20 rfl).trans ((xs_aldn k67_21 rfl).trans ((xs_get4 k67_22 (px_s68 L) (Nat.le_of_ble_eq_true rfl) (px_r68_0 hr)).trans ((xs_get0 k67_25 (px_s4 L) (Nat.le_of_ble_eq_true rfl)).trans (xs_callvB k67_28 (as := [vI (i 4 8)]) rfl rfl (Nat.le_of_ble_eq_true rfl) (Nat.le_of_ble_eq_true rfl) (Nat.le_of_ble_eq_true rfl) (px_s68 L) (Nat.le_of_ble_eq_true rfl)))))))
theorem b67_18_i4g (hr : px_hr r) (d : Nat) (i l : MI) (x1 : Int) (x2 : Int) (x3 : Int) {k4 : Nat} (hg4 : px_gs k4) (xs0 : Int) : px_X (d + 1) 67 (18, [vR 68, vI x1, vI x2, vI x3, vR k4, vJ, vJ, vJ, vJ], [vI xs0]) (px_sh L, i, l, r, t) = (px_C d 64 [vR 68, vI (i 4 8)] (px_sh L, i, l, r, t)).bind (fun q => px_X (d + 1) 67 (px_psh (31, [vR 68, vI x1, vI x2, vI x3, vR k4, vI xs0, vJ, vJ, vJ], []) q.1) q.2) := ((xs_ist k67_18 (Nat.le_of_ble_eq_true rfl) (ls' := [vR 68, vI x1, vI x2, vI x3, vR k4, vI xs0, vJ, vJ, vJ]) rfl).trans ((xs_aldn k67_20 rfl).trans ((xs_aldn k67_21 rfl).trans ((xs_get4 k67_22 (px_s68 L) (Nat.le_of_ble_eq_true rfl) (px_r68_0 hr)).trans ((xs_get0 k67_25 (px_s4 L) (Nat.le_of_ble_eq_true rfl)).trans (xs_callvB k67_28 (as := [vI (i 4 8)]) rfl rfl (Nat.le_of_ble_eq_true rfl) (Nat.le_of_ble_eq_true rfl) (Nat.le_of_ble_eq_true rfl) (px_s68 L) (Nat.le_of_ble_eq_true rfl)))))))
theorem b67_31_N4N (hr : px_hr r) (d : Nat) (i l : MI) (x1 : Int) (x2 : Int) (x3 : Int) (x5 : Int) : px_X d 67 (31, [vR 68, vI x1, vI x2, vI x3, vN, vI x5, vJ, vJ, vJ], [vN]) (px_sh L, i, l, r, t) = some (some (vI x5), (px_sh L, i, l, r, t)) := ((xs_ast k67_31 (Nat.le_of_ble_eq_true rfl) (ls' := [vR 68, vI x1, vI x2, vI x3, vN, vI x5, vN, vJ, vJ]) rfl).trans ((xs_ald k67_33 rfl).trans ((xs_nullN k67_35).trans ((xs_ild k67_43 rfl).trans (xs_ri k67_45 rfl)))))
theorem b67_31_t4N (hr : px_hr r) (d : Nat) (i l : MI) (x1 : Int) (x2 : Int) (x3 : Int) (x5 : Int) {ks0 : Nat} (hts0 : px_tx ks0) : px_X d 67 (31, [vR 68, vI x1, vI x2, vI x3, vN, vI x5, vJ, vJ, vJ], [vR ks0]) (px_sh L, i, l, r, t) = some (some (vI x5), (px_sh L, i, l, r, t)) := ((xs_ast k67_31 (Nat.le_of_ble_eq_true rfl) (ls' := [vR 68, vI x1, vI x2, vI x3, vN, vI x5, vR ks0, vJ, vJ]) rfl).trans ((xs_ald k67_33 rfl).trans ((xs_nullN k67_35).trans ((xs_ild k67_43 rfl).trans (xs_ri k67_45 rfl)))))
theorem b67_31_N4g (hr : px_hr r) (d : Nat) (i l : MI) (x1 : Int) (x2 : Int) (x3 : Int) {k4 : Nat} (hg4 : px_gs k4) (x5 : Int) : px_X d 67 (31, [vR 68, vI x1, vI x2, vI x3, vR k4, vI x5, vJ, vJ, vJ], [vN]) (px_sh L, i, l, r, t) = some (some (vI x5), (px_sh L, i, l, r, t)) := ((xs_ast k67_31 (Nat.le_of_ble_eq_true rfl) (ls' := [vR 68, vI x1, vI x2, vI x3, vR k4, vI x5, vN, vJ, vJ]) rfl).trans ((xs_ald k67_33 rfl).trans ((xs_nullR k67_35).trans ((xs_ald k67_38 rfl).trans ((xs_nnulN k67_40).trans ((xs_ild k67_43 rfl).trans (xs_ri k67_45 rfl)))))))
theorem b67_31_t4g (hr : px_hr r) (d : Nat) (i l : MI) (x1 : Int) (x2 : Int) (x3 : Int) {k4 : Nat} (hg4 : px_gs k4) (x5 : Int) {ks0 : Nat} (hts0 : px_tx ks0) : px_X (d + 1) 67 (31, [vR 68, vI x1, vI x2, vI x3, vR k4, vI x5, vJ, vJ, vJ], [vR ks0]) (px_sh L, i, l, r, t) = (px_C d 34 [vR 71, vI 3, vI (i k4 0)] (px_sh L, i, l, r, t)).bind (fun q => px_X (d + 1) 67 (px_psh (59, [vR 68, vI x1, vI x2, vI x3, vR k4, vI x5, vR ks0, vJ, vJ], []) q.1) q.2) := ((xs_ast k67_31 (Nat.le_of_ble_eq_true rfl) (ls' := [vR 68, vI x1, vI x2, vI x3, vR k4, vI x5, vR ks0, vJ, vJ]) rfl).trans ((xs_ald k67_33 rfl).trans ((xs_nullR k67_35).trans ((xs_ald k67_38 rfl).trans ((xs_nnulR k67_40).trans ((xs_aldn k67_46 rfl).trans ((xs_get4 k67_47 (px_s68 L) (Nat.le_of_ble_eq_true rfl) (px_r68_3 hr)).trans ((xs_ic k67_50 (by omega)).trans ((xs_ald k67_51 rfl).trans ((xs_get0 k67_53 (px_gs_sh hg4) (px_gs_3 hg4)).trans (xs_callsB k67_56 (as := [vR 71, vI 3, vI (i k4 0)]) rfl rfl (Nat.le_of_ble_eq_true rfl) (Nat.le_of_ble_eq_true rfl) (Nat.le_of_ble_eq_true rfl))))))))))))
theorem b67_59 (hr : px_hr r) (d : Nat) (i l : MI) (x1 : Int) (x2 : Int) (x3 : Int) {k4 : Nat} (hg4 : px_gs k4) (x5 : Int) {k6 : Nat} (ht6 : px_tx k6) : px_X d 67 (59, [vR 68, vI x1, vI x2, vI x3, vR k4, vI x5, vR k6, vJ, vJ], []) (px_sh L, i, l, r, t) = if (i k4 2) = 0 then px_X d 67 (77, [vR 68, vI x1, vI x2, vI x3, vR k4, vI x5, vR k6, vJ, vJ], [vI 0, vI 4, vR 71]) (px_sh L, i, l, r, t) else px_X d 67 (77, [vR 68, vI x1, vI x2, vI x3, vR k4, vI x5, vR k6, vJ, vJ], [vI 1, vI 4, vR 71]) (px_sh L, i, l, r, t) := ((xs_aldn k67_59 rfl).trans ((xs_get4 k67_60 (px_s68 L) (Nat.le_of_ble_eq_true rfl) (px_r68_3 hr)).trans ((xs_ic k67_63 (by omega)).trans ((xs_ald k67_64 rfl).trans ((xs_get1 k67_66 (px_gs_sh hg4) (px_gs_3 hg4)).trans ((xs_ieq k67_69).trans (px_ite (fun c1 => (xs_ic k67_76 (by omega))) (fun c1 => ((xs_ic k67_72 (by omega)).trans (xs_goto k67_73))))))))))
theorem b67_77 (hr : px_hr r) (d : Nat) (i l : MI) (x1 : Int) (x2 : Int) (x3 : Int) {k4 : Nat} (hg4 : px_gs k4) (x5 : Int) {k6 : Nat} (ht6 : px_tx k6) (xs0 : Int) (xs1 : Int) : px_X (d + 1) 67 (77, [vR 68, vI x1, vI x2, vI x3, vR k4, vI x5, vR k6, vJ, vJ], [vI xs0, vI xs1, vR 71]) (px_sh L, i, l, r, t) = (px_C d 34 [vR 71, vI xs1, vI xs0] (px_sh L, i, l, r, t)).bind (fun q => px_X (d + 1) 67 (px_psh (80, [vR 68, vI x1, vI x2, vI x3, vR k4, vI x5, vR k6, vJ, vJ], []) q.1) q.2) := (xs_callsB k67_77 (as := [vR 71, vI xs1, vI xs0]) rfl rfl (Nat.le_of_ble_eq_true rfl) (Nat.le_of_ble_eq_true rfl) (Nat.le_of_ble_eq_true rfl))
theorem b67_80 (hr : px_hr r) (d : Nat) (i l : MI) (x1 : Int) (x2 : Int) (x3 : Int) {k4 : Nat} (hg4 : px_gs k4) (x5 : Int) {k6 : Nat} (ht6 : px_tx k6) : px_X (d + 1) 67 (80, [vR 68, vI x1, vI x2, vI x3, vR k4, vI x5, vR k6, vJ, vJ], []) (px_sh L, i, l, r, t) = (px_C d 34 [vR 71, vI 5, vI (i k4 3)] (px_sh L, i, l, r, t)).bind (fun q => px_X (d + 1) 67 (px_psh (93, [vR 68, vI x1, vI x2, vI x3, vR k4, vI x5, vR k6, vJ, vJ], []) q.1) q.2) := ((xs_aldn k67_80 rfl).trans ((xs_get4 k67_81 (px_s68 L) (Nat.le_of_ble_eq_true rfl) (px_r68_3 hr)).trans ((xs_ic k67_84 (by omega)).trans ((xs_ald k67_85 rfl).trans ((xs_get0 k67_87 (px_gs_sh hg4) (px_gs_3 hg4)).trans (xs_callsB k67_90 (as := [vR 71, vI 5, vI (i k4 3)]) rfl rfl (Nat.le_of_ble_eq_true rfl) (Nat.le_of_ble_eq_true rfl) (Nat.le_of_ble_eq_true rfl)))))))
theorem b67_93 (hr : px_hr r) (d : Nat) (i l : MI) (x1 : Int) (x2 : Int) (x3 : Int) {k4 : Nat} (hg4 : px_gs k4) (x5 : Int) {k6 : Nat} (ht6 : px_tx k6) : px_X (d + 1) 67 (93, [vR 68, vI x1, vI x2, vI x3, vR k4, vI x5, vR k6, vJ, vJ], []) (px_sh L, i, l, r, t) = (px_C d 34 [vR 71, vI 6, vI (i k4 4)] (px_sh L, i, l, r, t)).bind (fun q => px_X (d + 1) 67 (px_psh (107, [vR 68, vI x1, vI x2, vI x3, vR k4, vI x5, vR k6, vJ, vJ], []) q.1) q.2) := ((xs_aldn k67_93 rfl).trans ((xs_get4 k67_94 (px_s68 L) (Nat.le_of_ble_eq_true rfl) (px_r68_3 hr)).trans ((xs_bi k67_97 (by omega)).trans ((xs_ald k67_99 rfl).trans ((xs_get0 k67_101 (px_gs_sh hg4) (px_gs_3 hg4)).trans (xs_callsB k67_104 (as := [vR 71, vI 6, vI (i k4 4)]) rfl rfl (Nat.le_of_ble_eq_true rfl) (Nat.le_of_ble_eq_true rfl) (Nat.le_of_ble_eq_true rfl)))))))
theorem b67_107 (hr : px_hr r) (d : Nat) (i l : MI) (x1 : Int) (x2 : Int) (x3 : Int) {v4 : PV} (hn4 : px_nl v4) (x5 : Int) {k6 : Nat} (ht6 : px_tx k6) : px_X (d + 1) 67 (107, [vR 68, vI x1, vI x2, vI x3, v4, vI x5, vR k6, vJ, vJ], []) (px_sh L, i, l, r, t) = (px_C d 56 [vR 4, vI x2] (px_sh L, i, l, r, t)).bind (fun q => px_X (d + 1) 67 (px_psh (121, [vR 68, vI x1, vI x2, vI x3, v4, vI x5, vR k6, vJ, vJ], [vI 7, vR 71]) q.1) q.2) := ((xs_aldn k67_107 rfl).trans ((xs_get4 k67_108 (px_s68 L) (Nat.le_of_ble_eq_true rfl) (px_r68_3 hr)).trans ((xs_bi k67_111 (by omega)).trans ((xs_aldn k67_113 rfl).trans ((xs_get4 k67_114 (px_s68 L) (Nat.le_of_ble_eq_true rfl) (px_r68_0 hr)).trans ((xs_ildn k67_117 rfl).trans (xs_callvB k67_118 (as := [vI x2]) rfl rfl (Nat.le_of_ble_eq_true rfl) (Nat.le_of_ble_eq_true rfl) (Nat.le_of_ble_eq_true rfl) (px_s4 L) (Nat.le_of_ble_eq_true rfl))))))))
theorem b67_121 (hr : px_hr r) (d : Nat) (i l : MI) (x1 : Int) (x2 : Int) (x3 : Int) {v4 : PV} (hn4 : px_nl v4) (x5 : Int) {k6 : Nat} (ht6 : px_tx k6) (xs0 : Int) (xs1 : Int) : px_X (d + 1) 67 (121, [vR 68, vI x1, vI x2, vI x3, v4, vI x5, vR k6, vJ, vJ], [vI xs0, vI xs1, vR 71]) (px_sh L, i, l, r, t) = (px_C d 34 [vR 71, vI xs1, vI xs0] (px_sh L, i, l, r, t)).bind (fun q => px_X (d + 1) 67 (px_psh (124, [vR 68, vI x1, vI x2, vI x3, v4, vI x5, vR k6, vJ, vJ], []) q.1) q.2) := (xs_callsB k67_121 (as := [vR 71, vI xs1, vI xs0]) rfl rfl (Nat.le_of_ble_eq_true rfl) (Nat.le_of_ble_eq_true rfl) (Nat.le_of_ble_eq_true rfl))
theorem b67_124 (hr : px_hr r) (d : Nat) (i l : MI) (x1 : Int) (x2 : Int) (x3 : Int) {v4 : PV} (hn4 : px_nl v4) (x5 : Int) {k6 : Nat} (ht6 : px_tx k6) : px_X (d + 1) 67 (124, [vR 68, vI x1, vI x2, vI x3, v4, vI x5, vR k6, vJ, vJ], []) (px_sh L, i, l, r, t) = (px_C d 34 [vR 71, vI 9, vI x3] (px_sh L, i, l, r, t)).bind (fun q => px_X (d + 1) 67 (px_psh (134, [vR 68, vI x1, vI x2, vI x3, v4, vI x5, vR k6, vJ, vJ], []) q.1) q.2) := ((xs_aldn k67_124 rfl).trans ((xs_get4 k67_125 (px_s68 L) (Nat.le_of_ble_eq_true rfl) (px_r68_3 hr)).trans ((xs_bi k67_128 (by omega)).trans ((xs_ildn k67_130 rfl).trans (xs_callsB k67_131 (as := [vR 71, vI 9, vI x3]) rfl rfl (Nat.le_of_ble_eq_true rfl) (Nat.le_of_ble_eq_true rfl) (Nat.le_of_ble_eq_true rfl))))))
theorem b67_134 (hr : px_hr r) (d : Nat) (i l : MI) (x1 : Int) (x2 : Int) (x3 : Int) {v4 : PV} (hn4 : px_nl v4) (x5 : Int) {k6 : Nat} (ht6 : px_tx k6) : px_X d 67 (134, [vR 68, vI x1, vI x2, vI x3, v4, vI x5, vR k6, vJ, vJ], []) (px_sh L, i, l, r, t) = px_X d 67 (137, [vR 68, vI x1, vI x2, vI x3, v4, vI x5, vR k6, vI 0, vJ], []) (px_sh L, i, l, r, t) := ((xs_ic k67_134 (by omega)).trans (xs_ist k67_135 (Nat.le_of_ble_eq_true rfl) (ls' := [vR 68, vI x1, vI x2, vI x3, v4, vI x5, vR k6, vI 0, vJ]) rfl))
theorem b67_137 (hr : px_hr r) (d : Nat) (i l : MI) (x1 : Int) (x2 : Int) (x3 : Int) {v4 : PV} (hn4 : px_nl v4) (x5 : Int) {k6 : Nat} (ht6 : px_tx k6) (x7 : Int) {v8 : PV} (hn8 : px_nl v8) : px_X (d + 1) 67 (137, [vR 68, vI x1, vI x2, vI x3, v4, vI x5, vR k6, vI x7, v8], []) (px_sh L, i, l, r, t) = if (i k6 1) ≤ x7 then some (some (vI x5), (px_sh L, i, l, r, t)) else if 10 ≤ x7 then some (some (vI x5), (px_sh L, i, l, r, t)) else (px_C d 33 [vR (k6 + 2), vI x7] (px_sh L, i, l, r, t)).bind (fun q => px_X (d + 1) 67 (px_psh (164, [vR 68, vI x1, vI x2, vI x3, v4, vI x5, vR k6, vI x7, v8], []) q.1) q.2) := ((xs_ild k67_137 rfl).trans ((xs_ald k67_139 rfl).trans ((xs_get0 k67_141 (px_tx_sh ht6) (px_tx_3 ht6)).trans ((xs_jge k67_144).trans (px_ite (fun c1 => ((xs_ild k67_208 rfl).trans (xs_ri k67_210 rfl))) (fun c1 => ((xs_ild k67_147 rfl).trans ((xs_bi k67_149 (by omega)).trans ((xs_jge k67_151).trans (px_ite (fun c2 => ((xs_ild k67_208 rfl).trans (xs_ri k67_210 rfl))) (fun c2 => ((xs_ald k67_154 rfl).trans ((xs_get4 k67_156 (px_tx_sh ht6) (px_tx_3 ht6) (px_tx_r2 hr ht6)).trans ((xs_ild k67_159 rfl).trans (xs_callsB k67_161 (as := [vR (k6 + 2), vI x7]) rfl rfl (Nat.le_of_ble_eq_true rfl) (Nat.le_of_ble_eq_true rfl) (Nat.le_of_ble_eq_true rfl))))))))))))))))
theorem b67_164 (hr : px_hr r) (d : Nat) (i l : MI) (x1 : Int) (x2 : Int) (x3 : Int) {v4 : PV} (hn4 : px_nl v4) (x5 : Int) {k6 : Nat} (ht6 : px_tx k6) (x7 : Int) {v8 : PV} (hn8 : px_nl v8) (xs0 : Int) : px_X (d + 1) 67 (164, [vR 68, vI x1, vI x2, vI x3, v4, vI x5, vR k6, vI x7, v8], [vI xs0]) (px_sh L, i, l, r, t) = if xs0 = 4 then (px_C d 72 [vR 68, vR k6, vI x7] (px_sh L, i, l, r, t)).bind (fun q => px_X (d + 1) 67 (px_psh (180, [vR 68, vI x1, vI x2, vI x3, v4, vI x5, vR k6, vI x7, vI xs0], []) q.1) q.2) else px_X (d + 1) 67 (186, [vR 68, vI x1, vI x2, vI x3, v4, vI x5, vR k6, vI x7, vI xs0], []) (px_sh L, i, l, r, t) := ((xs_ist k67_164 (Nat.le_of_ble_eq_true rfl) (ls' := [vR 68, vI x1, vI x2, vI x3, v4, vI x5, vR k6, vI x7, vI xs0]) rfl).trans ((xs_ild k67_166 rfl).trans ((xs_ic k67_168 (by omega)).trans ((xs_jne k67_169).trans (px_ite (fun c1 => ((xs_aldn k67_172 rfl).trans ((xs_ald k67_173 rfl).trans ((xs_ild k67_175 rfl).trans (xs_callvB k67_177 (as := [vR k6, vI x7]) rfl rfl (Nat.le_of_ble_eq_true rfl) (Nat.le_of_ble_eq_true rfl) (Nat.le_of_ble_eq_true rfl) (px_s68 L) (Nat.le_of_ble_eq_true rfl)))))) (fun c1 => rfl))))))
theorem b67_180 (hr : px_hr r) (d : Nat) (i l : MI) (x1 : Int) (x2 : Int) (x3 : Int) {v4 : PV} (hn4 : px_nl v4) (x5 : Int) {k6 : Nat} (ht6 : px_tx k6) (x7 : Int) (x8 : Int) (xs0 : Int) : px_X d 67 (180, [vR 68, vI x1, vI x2, vI x3, v4, vI x5, vR k6, vI x7, vI x8], [vI xs0]) (px_sh L, i, l, r, t) = if xs0 = 0 then px_X d 67 (186, [vR 68, vI x1, vI x2, vI x3, v4, vI x5, vR k6, vI x7, vI x8], []) (px_sh L, i, l, r, t) else some (some (vI (-2000000)), (px_sh L, i, l, r, t)) := ((xs_ieq k67_180).trans (px_ite (fun c1 => rfl) (fun c1 => ((xs_ldc k67_183).trans (xs_ri k67_185 rfl)))))
theorem b67_186 (hr : px_hr r) (d : Nat) (i l : MI) (x1 : Int) (x2 : Int) (x3 : Int) {v4 : PV} (hn4 : px_nl v4) (x5 : Int) {k6 : Nat} (ht6 : px_tx k6) (x7 : Int) (x8 : Int) : px_X (d + 1) 67 (186, [vR 68, vI x1, vI x2, vI x3, v4, vI x5, vR k6, vI x7, vI x8], []) (px_sh L, i, l, r, t) = if x8 = 1 then (px_C d 72 [vR 68, vR k6, vI x7] (px_sh L, i, l, r, t)).bind (fun q => px_X (d + 1) 67 (px_psh (200, [vR 68, vI x1, vI x2, vI x3, v4, vI x5, vR k6, vI x7, vI x8], []) q.1) q.2) else px_X (d + 1) 67 (137, [vR 68, vI x1, vI x2, vI x3, v4, vI x5, vR k6, vI (px_w32 (x7 + 1)), vI x8], []) (px_sh L, i, l, r, t) := ((xs_ild k67_186 rfl).trans ((xs_ic k67_188 (by omega)).trans ((xs_jne k67_189).trans (px_ite (fun c1 => ((xs_aldn k67_192 rfl).trans ((xs_ald k67_193 rfl).trans ((xs_ild k67_195 rfl).trans (xs_callvB k67_197 (as := [vR k6, vI x7]) rfl rfl (Nat.le_of_ble_eq_true rfl) (Nat.le_of_ble_eq_true rfl) (Nat.le_of_ble_eq_true rfl) (px_s68 L) (Nat.le_of_ble_eq_true rfl)))))) (fun c1 => ((xs_iinc k67_202 rfl (by omega) (ls' := [vR 68, vI x1, vI x2, vI x3, v4, vI x5, vR k6, vI (px_w32 (x7 + 1)), vI x8]) rfl).trans (xs_goto k67_205)))))))
theorem b67_200 (hr : px_hr r) (d : Nat) (i l : MI) (x1 : Int) (x2 : Int) (x3 : Int) {v4 : PV} (hn4 : px_nl v4) (x5 : Int) {k6 : Nat} (ht6 : px_tx k6) (x7 : Int) (x8 : Int) (xs0 : Int) : px_X d 67 (200, [vR 68, vI x1, vI x2, vI x3, v4, vI x5, vR k6, vI x7, vI x8], [vI xs0]) (px_sh L, i, l, r, t) = px_X d 67 (137, [vR 68, vI x1, vI x2, vI x3, v4, vI xs0, vR k6, vI (px_w32 (x7 + 1)), vI x8], []) (px_sh L, i, l, r, t) := ((xs_ist k67_200 (Nat.le_of_ble_eq_true rfl) (ls' := [vR 68, vI x1, vI x2, vI x3, v4, vI xs0, vR k6, vI x7, vI x8]) (px_st1_nl hn4 rfl rfl)).trans ((xs_iinc k67_202 rfl (by omega) (ls' := [vR 68, vI x1, vI x2, vI x3, v4, vI xs0, vR k6, vI (px_w32 (x7 + 1)), vI x8]) rfl).trans (xs_goto k67_205)))
-- Laws.quarrels ('R68', 'I', 'I')
theorem b68_0 (hr : px_hr r) (d : Nat) (i l : MI) (x1 : Int) (x2 : Int) : px_X (d + 1) 68 (0, [vR 68, vI x1, vI x2, vJ, vJ, vJ, vJ], []) (px_sh L, i, l, r, t) = (px_C d 52 [vR 4, vI x1] (px_sh L, i, l, r, t)).bind (fun q => px_X (d + 1) 68 (px_psh (8, [vR 68, vI x1, vI x2, vJ, vJ, vJ, vJ], []) q.1) q.2) := ((xs_aldn k68_0 rfl).trans ((xs_get4 k68_1 (px_s68 L) (Nat.le_of_ble_eq_true rfl) (px_r68_0 hr)).trans ((xs_ildn k68_4 rfl).trans (xs_callvB k68_5 (as := [vI x1]) rfl rfl (Nat.le_of_ble_eq_true rfl) (Nat.le_of_ble_eq_true rfl) (Nat.le_of_ble_eq_true rfl) (px_s4 L) (Nat.le_of_ble_eq_true rfl)))))
theorem b68_8_N (hr : px_hr r) (d : Nat) (i l : MI) (x1 : Int) (x2 : Int) : px_X (d + 1) 68 (8, [vR 68, vI x1, vI x2, vJ, vJ, vJ, vJ], [vN]) (px_sh L, i, l, r, t) = (px_C d 52 [vR 4, vI x2] (px_sh L, i, l, r, t)).bind (fun q => px_X (d + 1) 68 (px_psh (17, [vR 68, vI x1, vI x2, vN, vJ, vJ, vJ], []) q.1) q.2) := ((xs_astn k68_8 (Nat.le_of_ble_eq_true rfl) (ls' := [vR 68, vI x1, vI x2, vN, vJ, vJ, vJ]) rfl).trans ((xs_aldn k68_9 rfl).trans ((xs_get4 k68_10 (px_s68 L) (Nat.le_of_ble_eq_true rfl) (px_r68_0 hr)).trans ((xs_ildn k68_13 rfl).trans (xs_callvB k68_14 (as := [vI x2]) rfl rfl (Nat.le_of_ble_eq_true rfl) (Nat.le_of_ble_eq_true rfl) (Nat.le_of_ble_eq_true rfl) (px_s4 L) (Nat.le_of_ble_eq_true rfl))))))
theorem b68_8_g (hr : px_hr r) (d : Nat) (i l : MI) (x1 : Int) (x2 : Int) {ks0 : Nat} (hgs0 : px_gs ks0) : px_X (d + 1) 68 (8, [vR 68, vI x1, vI x2, vJ, vJ, vJ, vJ], [vR ks0]) (px_sh L, i, l, r, t) = (px_C d 52 [vR 4, vI x2] (px_sh L, i, l, r, t)).bind (fun q => px_X (d + 1) 68 (px_psh (17, [vR 68, vI x1, vI x2, vR ks0, vJ, vJ, vJ], []) q.1) q.2) := ((xs_astn k68_8 (Nat.le_of_ble_eq_true rfl) (ls' := [vR 68, vI x1, vI x2, vR ks0, vJ, vJ, vJ]) rfl).trans ((xs_aldn k68_9 rfl).trans ((xs_get4 k68_10 (px_s68 L) (Nat.le_of_ble_eq_true rfl) (px_r68_0 hr)).trans ((xs_ildn k68_13 rfl).trans (xs_callvB k68_14 (as := [vI x2]) rfl rfl (Nat.le_of_ble_eq_true rfl) (Nat.le_of_ble_eq_true rfl) (Nat.le_of_ble_eq_true rfl) (px_s4 L) (Nat.le_of_ble_eq_true rfl))))))
theorem b68_17_N3N (hr : px_hr r) (d : Nat) (i l : MI) (x1 : Int) (x2 : Int) : px_X (d + 1) 68 (17, [vR 68, vI x1, vI x2, vN, vJ, vJ, vJ], [vN]) (px_sh L, i, l, r, t) = (px_C d 64 [vR 68, vI (i 4 8)] (px_sh L, i, l, r, t)).bind (fun q => px_X (d + 1) 68 (px_psh (30, [vR 68, vI x1, vI x2, vN, vN, vJ, vJ], []) q.1) q.2) := ((xs_ast k68_17 (Nat.le_of_ble_eq_true rfl) (ls' := [vR 68, vI x1, vI x2, vN, vN, vJ, vJ]) rfl).trans ((xs_aldn k68_19 rfl).trans ((xs_aldn k68_20 rfl).trans ((xs_get4 k68_21 (px_s68 L) (Nat.le_of_ble_eq_true rfl) (px_r68_0 hr)).trans ((xs_get0 k68_24 (px_s4 L) (Nat.le_of_ble_eq_true rfl)).trans (xs_callvB k68_27 (as := [vI (i 4 8)]) rfl rfl (Nat.le_of_ble_eq_true rfl) (Nat.le_of_ble_eq_true rfl) (Nat.le_of_ble_eq_true rfl) (px_s68 L) (Nat.le_of_ble_eq_true rfl)))))))
theorem b68_17_g3N (hr : px_hr r) (d : Nat) (i l : MI) (x1 : Int) (x2 : Int) {ks0 : Nat} (hgs0 : px_gs ks0) : px_X (d + 1) 68 (17, [vR 68, vI x1, vI x2, vN, vJ, vJ, vJ], [vR ks0]) (px_sh L, i, l, r, t) = (px_C d 64 [vR 68, vI (i 4 8)] (px_sh L, i, l, r, t)).bind (fun q => px_X (d + 1) 68 (px_psh (30, [vR 68, vI x1, vI x2, vN, vR ks0, vJ, vJ], []) q.1) q.2) := ((xs_ast k68_17 (Nat.le_of_ble_eq_true rfl) (ls' := [vR 68, vI x1, vI x2, vN, vR ks0, vJ, vJ]) rfl).trans ((xs_aldn k68_19 rfl).trans ((xs_aldn k68_20 rfl).trans ((xs_get4 k68_21 (px_s68 L) (Nat.le_of_ble_eq_true rfl) (px_r68_0 hr)).trans ((xs_get0 k68_24 (px_s4 L) (Nat.le_of_ble_eq_true rfl)).trans (xs_callvB k68_27 (as := [vI (i 4 8)]) rfl rfl (Nat.le_of_ble_eq_true rfl) (Nat.le_of_ble_eq_true rfl) (Nat.le_of_ble_eq_true rfl) (px_s68 L) (Nat.le_of_ble_eq_true rfl)))))))
theorem b68_17_N3g (hr : px_hr r) (d : Nat) (i l : MI) (x1 : Int) (x2 : Int) {k3 : Nat} (hg3 : px_gs k3) : px_X (d + 1) 68 (17, [vR 68, vI x1, vI x2, vR k3, vJ, vJ, vJ], [vN]) (px_sh L, i, l, r, t) = (px_C d 64 [vR 68, vI (i 4 8)] (px_sh L, i, l, r, t)).bind (fun q => px_X (d + 1) 68 (px_psh (30, [vR 68, vI x1, vI x2, vR k3, vN, vJ, vJ], []) q.1) q.2) := ((xs_ast k68_17 (Nat.le_of_ble_eq_true rfl) (ls' := [vR 68, vI x1, vI x2, vR k3, vN, vJ, vJ]) rfl).trans ((xs_aldn k68_19 rfl).trans ((xs_aldn k68_20 rfl).trans ((xs_get4 k68_21 (px_s68 L) (Nat.le_of_ble_eq_true rfl) (px_r68_0 hr)).trans ((xs_get0 k68_24 (px_s4 L) (Nat.le_of_ble_eq_true rfl)).trans (xs_callvB k68_27 (as := [vI (i 4 8)]) rfl rfl (Nat.le_of_ble_eq_true rfl) (Nat.le_of_ble_eq_true rfl) (Nat.le_of_ble_eq_true rfl) (px_s68 L) (Nat.le_of_ble_eq_true rfl)))))))
theorem b68_17_g3g (hr : px_hr r) (d : Nat) (i l : MI) (x1 : Int) (x2 : Int) {k3 : Nat} (hg3 : px_gs k3) {ks0 : Nat} (hgs0 : px_gs ks0) : px_X (d + 1) 68 (17, [vR 68, vI x1, vI x2, vR k3, vJ, vJ, vJ], [vR ks0]) (px_sh L, i, l, r, t) = (px_C d 64 [vR 68, vI (i 4 8)] (px_sh L, i, l, r, t)).bind (fun q => px_X (d + 1) 68 (px_psh (30, [vR 68, vI x1, vI x2, vR k3, vR ks0, vJ, vJ], []) q.1) q.2) := ((xs_ast k68_17 (Nat.le_of_ble_eq_true rfl) (ls' := [vR 68, vI x1, vI x2, vR k3, vR ks0, vJ, vJ]) rfl).trans ((xs_aldn k68_19 rfl).trans ((xs_aldn k68_20 rfl).trans ((xs_get4 k68_21 (px_s68 L) (Nat.le_of_ble_eq_true rfl) (px_r68_0 hr)).trans ((xs_get0 k68_24 (px_s4 L) (Nat.le_of_ble_eq_true rfl)).trans (xs_callvB k68_27 (as := [vI (i 4 8)]) rfl rfl (Nat.le_of_ble_eq_true rfl) (Nat.le_of_ble_eq_true rfl) (Nat.le_of_ble_eq_true rfl) (px_s68 L) (Nat.le_of_ble_eq_true rfl)))))))
theorem b68_30_N3N4N (hr : px_hr r) (d : Nat) (i l : MI) (x1 : Int) (x2 : Int) : px_X d 68 (30, [vR 68, vI x1, vI x2, vN, vN, vJ, vJ], [vN]) (px_sh L, i, l, r, t) = some (some (vI 0), (px_sh L, i, l, r, t)) := ((xs_ast k68_30 (Nat.le_of_ble_eq_true rfl) (ls' := [vR 68, vI x1, vI x2, vN, vN, vN, vJ]) rfl).trans ((xs_aldn k68_32 rfl).trans ((xs_nullN k68_33).trans ((xs_ic k68_46 (by omega)).trans (xs_rz k68_47 rfl (by omega))))))
theorem b68_30_t3N4N (hr : px_hr r) (d : Nat) (i l : MI) (x1 : Int) (x2 : Int) {ks0 : Nat} (hts0 : px_tx ks0) : px_X d 68 (30, [vR 68, vI x1, vI x2, vN, vN, vJ, vJ], [vR ks0]) (px_sh L, i, l, r, t) = some (some (vI 0), (px_sh L, i, l, r, t)) := ((xs_ast k68_30 (Nat.le_of_ble_eq_true rfl) (ls' := [vR 68, vI x1, vI x2, vN, vN, vR ks0, vJ]) rfl).trans ((xs_aldn k68_32 rfl).trans ((xs_nullN k68_33).trans ((xs_ic k68_46 (by omega)).trans (xs_rz k68_47 rfl (by omega))))))
theorem b68_30_N3N4g (hr : px_hr r) (d : Nat) (i l : MI) (x1 : Int) (x2 : Int) {k4 : Nat} (hg4 : px_gs k4) : px_X d 68 (30, [vR 68, vI x1, vI x2, vN, vR k4, vJ, vJ], [vN]) (px_sh L, i, l, r, t) = some (some (vI 0), (px_sh L, i, l, r, t)) := ((xs_ast k68_30 (Nat.le_of_ble_eq_true rfl) (ls' := [vR 68, vI x1, vI x2, vN, vR k4, vN, vJ]) rfl).trans ((xs_aldn k68_32 rfl).trans ((xs_nullN k68_33).trans ((xs_ic k68_46 (by omega)).trans (xs_rz k68_47 rfl (by omega))))))
theorem b68_30_t3N4g (hr : px_hr r) (d : Nat) (i l : MI) (x1 : Int) (x2 : Int) {k4 : Nat} (hg4 : px_gs k4) {ks0 : Nat} (hts0 : px_tx ks0) : px_X d 68 (30, [vR 68, vI x1, vI x2, vN, vR k4, vJ, vJ], [vR ks0]) (px_sh L, i, l, r, t) = some (some (vI 0), (px_sh L, i, l, r, t)) := ((xs_ast k68_30 (Nat.le_of_ble_eq_true rfl) (ls' := [vR 68, vI x1, vI x2, vN, vR k4, vR ks0, vJ]) rfl).trans ((xs_aldn k68_32 rfl).trans ((xs_nullN k68_33).trans ((xs_ic k68_46 (by omega)).trans (xs_rz k68_47 rfl (by omega))))))
theorem b68_30_N3g4N (hr : px_hr r) (d : Nat) (i l : MI) (x1 : Int) (x2 : Int) {k3 : Nat} (hg3 : px_gs k3) : px_X d 68 (30, [vR 68, vI x1, vI x2, vR k3, vN, vJ, vJ], [vN]) (px_sh L, i, l, r, t) = some (some (vI 0), (px_sh L, i, l, r, t)) := ((xs_ast k68_30 (Nat.le_of_ble_eq_true rfl) (ls' := [vR 68, vI x1, vI x2, vR k3, vN, vN, vJ]) rfl).trans ((xs_aldn k68_32 rfl).trans ((xs_nullR k68_33).trans ((xs_ald k68_36 rfl).trans ((xs_nullN k68_38).trans ((xs_ic k68_46 (by omega)).trans (xs_rz k68_47 rfl (by omega))))))))
theorem b68_30_t3g4N (hr : px_hr r) (d : Nat) (i l : MI) (x1 : Int) (x2 : Int) {k3 : Nat} (hg3 : px_gs k3) {ks0 : Nat} (hts0 : px_tx ks0) : px_X d 68 (30, [vR 68, vI x1, vI x2, vR k3, vN, vJ, vJ], [vR ks0]) (px_sh L, i, l, r, t) = some (some (vI 0), (px_sh L, i, l, r, t)) := ((xs_ast k68_30 (Nat.le_of_ble_eq_true rfl) (ls' := [vR 68, vI x1, vI x2, vR k3, vN, vR ks0, vJ]) rfl).trans ((xs_aldn k68_32 rfl).trans ((xs_nullR k68_33).trans ((xs_ald k68_36 rfl).trans ((xs_nullN k68_38).trans ((xs_ic k68_46 (by omega)).trans (xs_rz k68_47 rfl (by omega))))))))
theorem b68_30_N3g4g (hr : px_hr r) (d : Nat) (i l : MI) (x1 : Int) (x2 : Int) {k3 : Nat} (hg3 : px_gs k3) {k4 : Nat} (hg4 : px_gs k4) : px_X d 68 (30, [vR 68, vI x1, vI x2, vR k3, vR k4, vJ, vJ], [vN]) (px_sh L, i, l, r, t) = some (some (vI 0), (px_sh L, i, l, r, t)) := ((xs_ast k68_30 (Nat.le_of_ble_eq_true rfl) (ls' := [vR 68, vI x1, vI x2, vR k3, vR k4, vN, vJ]) rfl).trans ((xs_aldn k68_32 rfl).trans ((xs_nullR k68_33).trans ((xs_ald k68_36 rfl).trans ((xs_nullR k68_38).trans ((xs_ald k68_41 rfl).trans ((xs_nnulN k68_43).trans ((xs_ic k68_46 (by omega)).trans (xs_rz k68_47 rfl (by omega))))))))))
theorem b68_30_t3g4g (hr : px_hr r) (d : Nat) (i l : MI) (x1 : Int) (x2 : Int) {k3 : Nat} (hg3 : px_gs k3) {k4 : Nat} (hg4 : px_gs k4) {ks0 : Nat} (hts0 : px_tx ks0) : px_X (d + 1) 68 (30, [vR 68, vI x1, vI x2, vR k3, vR k4, vJ, vJ], [vR ks0]) (px_sh L, i, l, r, t) = (px_C d 34 [vR 71, vI 3, vI (i k3 0)] (px_sh L, i, l, r, t)).bind (fun q => px_X (d + 1) 68 (px_psh (60, [vR 68, vI x1, vI x2, vR k3, vR k4, vR ks0, vJ], []) q.1) q.2) := ((xs_ast k68_30 (Nat.le_of_ble_eq_true rfl) (ls' := [vR 68, vI x1, vI x2, vR k3, vR k4, vR ks0, vJ]) rfl).trans ((xs_aldn k68_32 rfl).trans ((xs_nullR k68_33).trans ((xs_ald k68_36 rfl).trans ((xs_nullR k68_38).trans ((xs_ald k68_41 rfl).trans ((xs_nnulR k68_43).trans ((xs_aldn k68_48 rfl).trans ((xs_get4 k68_49 (px_s68 L) (Nat.le_of_ble_eq_true rfl) (px_r68_3 hr)).trans ((xs_ic k68_52 (by omega)).trans ((xs_aldn k68_53 rfl).trans ((xs_get0 k68_54 (px_gs_sh hg3) (px_gs_3 hg3)).trans (xs_callsB k68_57 (as := [vR 71, vI 3, vI (i k3 0)]) rfl rfl (Nat.le_of_ble_eq_true rfl) (Nat.le_of_ble_eq_true rfl) (Nat.le_of_ble_eq_true rfl))))))))))))))
theorem b68_60 (hr : px_hr r) (d : Nat) (i l : MI) (x1 : Int) (x2 : Int) {k3 : Nat} (hg3 : px_gs k3) {k4 : Nat} (hg4 : px_gs k4) {k5 : Nat} (ht5 : px_tx k5) : px_X (d + 1) 68 (60, [vR 68, vI x1, vI x2, vR k3, vR k4, vR k5, vJ], []) (px_sh L, i, l, r, t) = (px_C d 34 [vR 71, vI 5, vI (i k3 3)] (px_sh L, i, l, r, t)).bind (fun q => px_X (d + 1) 68 (px_psh (72, [vR 68, vI x1, vI x2, vR k3, vR k4, vR k5, vJ], []) q.1) q.2) := ((xs_aldn k68_60 rfl).trans ((xs_get4 k68_61 (px_s68 L) (Nat.le_of_ble_eq_true rfl) (px_r68_3 hr)).trans ((xs_ic k68_64 (by omega)).trans ((xs_aldn k68_65 rfl).trans ((xs_get0 k68_66 (px_gs_sh hg3) (px_gs_3 hg3)).trans (xs_callsB k68_69 (as := [vR 71, vI 5, vI (i k3 3)]) rfl rfl (Nat.le_of_ble_eq_true rfl) (Nat.le_of_ble_eq_true rfl) (Nat.le_of_ble_eq_true rfl)))))))
theorem b68_72 (hr : px_hr r) (d : Nat) (i l : MI) (x1 : Int) (x2 : Int) {v3 : PV} (hn3 : px_nl v3) {k4 : Nat} (hg4 : px_gs k4) {k5 : Nat} (ht5 : px_tx k5) : px_X (d + 1) 68 (72, [vR 68, vI x1, vI x2, v3, vR k4, vR k5, vJ], []) (px_sh L, i, l, r, t) = (px_C d 34 [vR 71, vI 10, vI (i k4 0)] (px_sh L, i, l, r, t)).bind (fun q => px_X (d + 1) 68 (px_psh (86, [vR 68, vI x1, vI x2, v3, vR k4, vR k5, vJ], []) q.1) q.2) := ((xs_aldn k68_72 rfl).trans ((xs_get4 k68_73 (px_s68 L) (Nat.le_of_ble_eq_true rfl) (px_r68_3 hr)).trans ((xs_bi k68_76 (by omega)).trans ((xs_ald k68_78 rfl).trans ((xs_get0 k68_80 (px_gs_sh hg4) (px_gs_3 hg4)).trans (xs_callsB k68_83 (as := [vR 71, vI 10, vI (i k4 0)]) rfl rfl (Nat.le_of_ble_eq_true rfl) (Nat.le_of_ble_eq_true rfl) (Nat.le_of_ble_eq_true rfl)))))))
theorem b68_86 (hr : px_hr r) (d : Nat) (i l : MI) (x1 : Int) (x2 : Int) {v3 : PV} (hn3 : px_nl v3) {v4 : PV} (hn4 : px_nl v4) {k5 : Nat} (ht5 : px_tx k5) : px_X d 68 (86, [vR 68, vI x1, vI x2, v3, v4, vR k5, vJ], []) (px_sh L, i, l, r, t) = px_X d 68 (89, [vR 68, vI x1, vI x2, v3, v4, vR k5, vI 0], []) (px_sh L, i, l, r, t) := ((xs_ic k68_86 (by omega)).trans (xs_ist k68_87 (Nat.le_of_ble_eq_true rfl) (ls' := [vR 68, vI x1, vI x2, v3, v4, vR k5, vI 0]) rfl))
theorem b68_89 (hr : px_hr r) (d : Nat) (i l : MI) (x1 : Int) (x2 : Int) {v3 : PV} (hn3 : px_nl v3) {v4 : PV} (hn4 : px_nl v4) {k5 : Nat} (ht5 : px_tx k5) (x6 : Int) : px_X (d + 1) 68 (89, [vR 68, vI x1, vI x2, v3, v4, vR k5, vI x6], []) (px_sh L, i, l, r, t) = if (i k5 1) ≤ x6 then some (some (vI 0), (px_sh L, i, l, r, t)) else if 10 ≤ x6 then some (some (vI 0), (px_sh L, i, l, r, t)) else (px_C d 33 [vR (k5 + 2), vI x6] (px_sh L, i, l, r, t)).bind (fun q => px_X (d + 1) 68 (px_psh (116, [vR 68, vI x1, vI x2, v3, v4, vR k5, vI x6], []) q.1) q.2) := ((xs_ild k68_89 rfl).trans ((xs_ald k68_91 rfl).trans ((xs_get0 k68_93 (px_tx_sh ht5) (px_tx_3 ht5)).trans ((xs_jge k68_96).trans (px_ite (fun c1 => ((xs_ic k68_139 (by omega)).trans (xs_rz k68_140 rfl (by omega)))) (fun c1 => ((xs_ild k68_99 rfl).trans ((xs_bi k68_101 (by omega)).trans ((xs_jge k68_103).trans (px_ite (fun c2 => ((xs_ic k68_139 (by omega)).trans (xs_rz k68_140 rfl (by omega)))) (fun c2 => ((xs_ald k68_106 rfl).trans ((xs_get4 k68_108 (px_tx_sh ht5) (px_tx_3 ht5) (px_tx_r2 hr ht5)).trans ((xs_ild k68_111 rfl).trans (xs_callsB k68_113 (as := [vR (k5 + 2), vI x6]) rfl rfl (Nat.le_of_ble_eq_true rfl) (Nat.le_of_ble_eq_true rfl) (Nat.le_of_ble_eq_true rfl))))))))))))))))
theorem b68_116 (hr : px_hr r) (d : Nat) (i l : MI) (x1 : Int) (x2 : Int) {v3 : PV} (hn3 : px_nl v3) {v4 : PV} (hn4 : px_nl v4) {k5 : Nat} (ht5 : px_tx k5) (x6 : Int) (xs0 : Int) : px_X (d + 1) 68 (116, [vR 68, vI x1, vI x2, v3, v4, vR k5, vI x6], [vI xs0]) (px_sh L, i, l, r, t) = if xs0 = 5 then (px_C d 72 [vR 68, vR k5, vI x6] (px_sh L, i, l, r, t)).bind (fun q => px_X (d + 1) 68 (px_psh (128, [vR 68, vI x1, vI x2, v3, v4, vR k5, vI x6], []) q.1) q.2) else px_X (d + 1) 68 (89, [vR 68, vI x1, vI x2, v3, v4, vR k5, vI (px_w32 (x6 + 1))], []) (px_sh L, i, l, r, t) := ((xs_ic k68_116 (by omega)).trans ((xs_jne k68_117).trans (px_ite (fun c1 => ((xs_aldn k68_120 rfl).trans ((xs_ald k68_121 rfl).trans ((xs_ild k68_123 rfl).trans (xs_callvB k68_125 (as := [vR k5, vI x6]) rfl rfl (Nat.le_of_ble_eq_true rfl) (Nat.le_of_ble_eq_true rfl) (Nat.le_of_ble_eq_true rfl) (px_s68 L) (Nat.le_of_ble_eq_true rfl)))))) (fun c1 => ((xs_iinc k68_133 rfl (by omega) (ls' := [vR 68, vI x1, vI x2, v3, v4, vR k5, vI (px_w32 (x6 + 1))]) rfl).trans (xs_goto k68_136))))))
theorem b68_128 (hr : px_hr r) (d : Nat) (i l : MI) (x1 : Int) (x2 : Int) {v3 : PV} (hn3 : px_nl v3) {v4 : PV} (hn4 : px_nl v4) {k5 : Nat} (ht5 : px_tx k5) (x6 : Int) (xs0 : Int) : px_X d 68 (128, [vR 68, vI x1, vI x2, v3, v4, vR k5, vI x6], [vI xs0]) (px_sh L, i, l, r, t) = if xs0 = 0 then px_X d 68 (89, [vR 68, vI x1, vI x2, v3, v4, vR k5, vI (px_w32 (x6 + 1))], []) (px_sh L, i, l, r, t) else some (some (vI 1), (px_sh L, i, l, r, t)) := ((xs_ieq k68_128).trans (px_ite (fun c1 => ((xs_iinc k68_133 rfl (by omega) (ls' := [vR 68, vI x1, vI x2, v3, v4, vR k5, vI (px_w32 (x6 + 1))]) rfl).trans (xs_goto k68_136))) (fun c1 => ((xs_ic k68_131 (by omega)).trans (xs_rz k68_132 rfl (by omega))))))
-- Laws.billOf ('R68', 'I')
theorem b69_0 (hr : px_hr r) (d : Nat) (i l : MI) (x1 : Int) : px_X (d + 1) 69 (0, [vR 68, vI x1, vJ, vJ, vJ], []) (px_sh L, i, l, r, t) = (px_C d 52 [vR 4, vI x1] (px_sh L, i, l, r, t)).bind (fun q => px_X (d + 1) 69 (px_psh (8, [vR 68, vI x1, vJ, vJ, vJ], []) q.1) q.2) := ((xs_aldn k69_0 rfl).trans ((xs_get4 k69_1 (px_s68 L) (Nat.le_of_ble_eq_true rfl) (px_r68_0 hr)).trans ((xs_ildn k69_4 rfl).trans (xs_callvB k69_5 (as := [vI x1]) rfl rfl (Nat.le_of_ble_eq_true rfl) (Nat.le_of_ble_eq_true rfl) (Nat.le_of_ble_eq_true rfl) (px_s4 L) (Nat.le_of_ble_eq_true rfl)))))
theorem b69_8_N (hr : px_hr r) (d : Nat) (i l : MI) (x1 : Int) : px_X d 69 (8, [vR 68, vI x1, vJ, vJ, vJ], [vN]) (px_sh L, i, l, r, t) = some (some (vI 0), (px_sh L, i, l, r, t)) := ((xs_astn k69_8 (Nat.le_of_ble_eq_true rfl) (ls' := [vR 68, vI x1, vN, vJ, vJ]) rfl).trans ((xs_aldn k69_9 rfl).trans ((xs_get4 k69_10 (px_s68 L) (Nat.le_of_ble_eq_true rfl) (px_r68_0 hr)).trans ((xs_get4 k69_13 (px_s4 L) (Nat.le_of_ble_eq_true rfl) (px_r4_2 hr)).trans ((xs_astn k69_16 (Nat.le_of_ble_eq_true rfl) (ls' := [vR 68, vI x1, vN, vR 9, vJ]) rfl).trans ((xs_aldn k69_17 rfl).trans ((xs_nullN k69_18).trans ((xs_ic k69_32 (by omega)).trans (xs_ri k69_33 rfl)))))))))
theorem b69_8_g (hr : px_hr r) (d : Nat) (i l : MI) (x1 : Int) {ks0 : Nat} (hgs0 : px_gs ks0) : px_X (d + 1) 69 (8, [vR 68, vI x1, vJ, vJ, vJ], [vR ks0]) (px_sh L, i, l, r, t) = (px_C d 32 [vI (i 9 2), vI x1] (px_sh L, i, l, r, t)).bind (fun q => px_X (d + 1) 69 (px_psh (29, [vR 68, vI x1, vR ks0, vR 9, vJ], []) q.1) q.2) := ((xs_astn k69_8 (Nat.le_of_ble_eq_true rfl) (ls' := [vR 68, vI x1, vR ks0, vJ, vJ]) rfl).trans ((xs_aldn k69_9 rfl).trans ((xs_get4 k69_10 (px_s68 L) (Nat.le_of_ble_eq_true rfl) (px_r68_0 hr)).trans ((xs_get4 k69_13 (px_s4 L) (Nat.le_of_ble_eq_true rfl) (px_r4_2 hr)).trans ((xs_astn k69_16 (Nat.le_of_ble_eq_true rfl) (ls' := [vR 68, vI x1, vR ks0, vR 9, vJ]) rfl).trans ((xs_aldn k69_17 rfl).trans ((xs_nullR k69_18).trans ((xs_aldn k69_21 rfl).trans ((xs_get0 k69_22 (px_s9 L) (Nat.le_of_ble_eq_true rfl)).trans ((xs_ildn k69_25 rfl).trans (xs_callsB k69_26 (as := [vI (i 9 2), vI x1]) rfl rfl (Nat.le_of_ble_eq_true rfl) (Nat.le_of_ble_eq_true rfl) (Nat.le_of_ble_eq_true rfl))))))))))))
theorem b69_29 (hr : px_hr r) (d : Nat) (i l : MI) (x1 : Int) {k2 : Nat} (hg2 : px_gs k2) (xs0 : Int) : px_X (d + 1) 69 (29, [vR 68, vI x1, vR k2, vR 9, vJ], [vI xs0]) (px_sh L, i, l, r, t) = if xs0 = 0 then some (some (vI 0), (px_sh L, i, l, r, t)) else (px_C d 33 [vR 10, vI x1] (px_sh L, i, l, r, t)).bind (fun q => px_X (d + 1) 69 (px_psh (42, [vR 68, vI x1, vR k2, vR 9, vJ], []) q.1) q.2) := ((xs_ine k69_29).trans (px_ite (fun c1 => ((xs_ic k69_32 (by omega)).trans (xs_ri k69_33 rfl))) (fun c1 => ((xs_aldn k69_34 rfl).trans ((xs_get4 k69_35 (px_s9 L) (Nat.le_of_ble_eq_true rfl) (px_r9_3 hr)).trans ((xs_ildn k69_38 rfl).trans (xs_callsB k69_39 (as := [vR 10, vI x1]) rfl rfl (Nat.le_of_ble_eq_true rfl) (Nat.le_of_ble_eq_true rfl) (Nat.le_of_ble_eq_true rfl))))))))
theorem b69_42 (hr : px_hr r) (d : Nat) (i l : MI) (x1 : Int) {k2 : Nat} (hg2 : px_gs k2) (xs0 : Int) : px_X (d + 1) 69 (42, [vR 68, vI x1, vR k2, vR 9, vJ], [vI xs0]) (px_sh L, i, l, r, t) = (px_C d 34 [vR 71, vI 3, vI (i k2 0)] (px_sh L, i, l, r, t)).bind (fun q => px_X (d + 1) 69 (px_psh (56, [vR 68, vI x1, vR k2, vR 9, vI xs0], []) q.1) q.2) := ((xs_ist k69_42 (Nat.le_of_ble_eq_true rfl) (ls' := [vR 68, vI x1, vR k2, vR 9, vI xs0]) rfl).trans ((xs_aldn k69_44 rfl).trans ((xs_get4 k69_45 (px_s68 L) (Nat.le_of_ble_eq_true rfl) (px_r68_3 hr)).trans ((xs_ic k69_48 (by omega)).trans ((xs_aldn k69_49 rfl).trans ((xs_get0 k69_50 (px_gs_sh hg2) (px_gs_3 hg2)).trans (xs_callsB k69_53 (as := [vR 71, vI 3, vI (i k2 0)]) rfl rfl (Nat.le_of_ble_eq_true rfl) (Nat.le_of_ble_eq_true rfl) (Nat.le_of_ble_eq_true rfl))))))))
theorem b69_56 (hr : px_hr r) (d : Nat) (i l : MI) (x1 : Int) {k2 : Nat} (hg2 : px_gs k2) (x4 : Int) : px_X (d + 1) 69 (56, [vR 68, vI x1, vR k2, vR 9, vI x4], []) (px_sh L, i, l, r, t) = (px_C d 34 [vR 71, vI 6, vI (i k2 4)] (px_sh L, i, l, r, t)).bind (fun q => px_X (d + 1) 69 (px_psh (69, [vR 68, vI x1, vR k2, vR 9, vI x4], []) q.1) q.2) := ((xs_aldn k69_56 rfl).trans ((xs_get4 k69_57 (px_s68 L) (Nat.le_of_ble_eq_true rfl) (px_r68_3 hr)).trans ((xs_bi k69_60 (by omega)).trans ((xs_aldn k69_62 rfl).trans ((xs_get0 k69_63 (px_gs_sh hg2) (px_gs_3 hg2)).trans (xs_callsB k69_66 (as := [vR 71, vI 6, vI (i k2 4)]) rfl rfl (Nat.le_of_ble_eq_true rfl) (Nat.le_of_ble_eq_true rfl) (Nat.le_of_ble_eq_true rfl)))))))
theorem b69_69 (hr : px_hr r) (d : Nat) (i l : MI) (x1 : Int) {k2 : Nat} (hg2 : px_gs k2) (x4 : Int) : px_X (d + 1) 69 (69, [vR 68, vI x1, vR k2, vR 9, vI x4], []) (px_sh L, i, l, r, t) = (px_C d 34 [vR 71, vI 11, vI x4] (px_sh L, i, l, r, t)).bind (fun q => px_X (d + 1) 69 (px_psh (80, [vR 68, vI x1, vR k2, vR 9, vI x4], []) q.1) q.2) := ((xs_aldn k69_69 rfl).trans ((xs_get4 k69_70 (px_s68 L) (Nat.le_of_ble_eq_true rfl) (px_r68_3 hr)).trans ((xs_bi k69_73 (by omega)).trans ((xs_ild k69_75 rfl).trans (xs_callsB k69_77 (as := [vR 71, vI 11, vI x4]) rfl rfl (Nat.le_of_ble_eq_true rfl) (Nat.le_of_ble_eq_true rfl) (Nat.le_of_ble_eq_true rfl))))))
theorem b69_80 (hr : px_hr r) (d : Nat) (i l : MI) (x1 : Int) {k2 : Nat} (hg2 : px_gs k2) (x4 : Int) : px_X (d + 1) 69 (80, [vR 68, vI x1, vR k2, vR 9, vI x4], []) (px_sh L, i, l, r, t) = (px_C d 33 [vR 12, vI x1] (px_sh L, i, l, r, t)).bind (fun q => px_X (d + 1) 69 (px_psh (94, [vR 68, vI x1, vR k2, vR 9, vI x4], [vI 12, vR 71]) q.1) q.2) := ((xs_aldn k69_80 rfl).trans ((xs_get4 k69_81 (px_s68 L) (Nat.le_of_ble_eq_true rfl) (px_r68_3 hr)).trans ((xs_bi k69_84 (by omega)).trans ((xs_aldn k69_86 rfl).trans ((xs_get4 k69_87 (px_s9 L) (Nat.le_of_ble_eq_true rfl) (px_r9_5 hr)).trans ((xs_ildn k69_90 rfl).trans (xs_callsB k69_91 (as := [vR 12, vI x1]) rfl rfl (Nat.le_of_ble_eq_true rfl) (Nat.le_of_ble_eq_true rfl) (Nat.le_of_ble_eq_true rfl))))))))
theorem b69_94 (hr : px_hr r) (d : Nat) (i l : MI) (x1 : Int) {k2 : Nat} (hg2 : px_gs k2) (x4 : Int) (xs0 : Int) (xs1 : Int) : px_X (d + 1) 69 (94, [vR 68, vI x1, vR k2, vR 9, vI x4], [vI xs0, vI xs1, vR 71]) (px_sh L, i, l, r, t) = (px_C d 34 [vR 71, vI xs1, vI xs0] (px_sh L, i, l, r, t)).bind (fun q => px_X (d + 1) 69 (px_psh (97, [vR 68, vI x1, vR k2, vR 9, vI x4], []) q.1) q.2) := (xs_callsB k69_94 (as := [vR 71, vI xs1, vI xs0]) rfl rfl (Nat.le_of_ble_eq_true rfl) (Nat.le_of_ble_eq_true rfl) (Nat.le_of_ble_eq_true rfl))
theorem b69_97 (hr : px_hr r) (d : Nat) (i l : MI) (x1 : Int) {k2 : Nat} (hg2 : px_gs k2) (x4 : Int) : px_X (d + 1) 69 (97, [vR 68, vI x1, vR k2, vR 9, vI x4], []) (px_sh L, i, l, r, t) = (px_C d 34 [vR 71, vI 13, vI (i k2 7)] (px_sh L, i, l, r, t)).bind (fun q => px_X (d + 1) 69 (px_psh (110, [vR 68, vI x1, vR k2, vR 9, vI x4], []) q.1) q.2) := ((xs_aldn k69_97 rfl).trans ((xs_get4 k69_98 (px_s68 L) (Nat.le_of_ble_eq_true rfl) (px_r68_3 hr)).trans ((xs_bi k69_101 (by omega)).trans ((xs_aldn k69_103 rfl).trans ((xs_get0 k69_104 (px_gs_sh hg2) (px_gs_3 hg2)).trans (xs_callsB k69_107 (as := [vR 71, vI 13, vI (i k2 7)]) rfl rfl (Nat.le_of_ble_eq_true rfl) (Nat.le_of_ble_eq_true rfl) (Nat.le_of_ble_eq_true rfl)))))))
theorem b69_110 (hr : px_hr r) (d : Nat) (i l : MI) (x1 : Int) {k2 : Nat} (hg2 : px_gs k2) (x4 : Int) : px_X (d + 1) 69 (110, [vR 68, vI x1, vR k2, vR 9, vI x4], []) (px_sh L, i, l, r, t) = (px_C d 71 [vR 68, vI 2, vI 999999, vI (px_w32 ((px_w32 ((px_w32 (Int.tdiv (px_w32 (x4 + 59)) 60)) * 10)) + (i k2 7)))] (px_sh L, i, l, r, t)).bind (fun q => px_X (d + 1) 69 (px_psh (133, [vR 68, vI x1, vR k2, vR 9, vI x4], []) q.1) q.2) := ((xs_aldn k69_110 rfl).trans ((xs_ic k69_111 (by omega)).trans ((xs_ldc k69_112).trans ((xs_ild k69_114 rfl).trans ((xs_bi k69_116 (by omega)).trans ((xs_iadd k69_118).trans ((xs_bi k69_119 (by omega)).trans ((xs_idiv k69_121 (by omega)).trans ((xs_bi k69_122 (by omega)).trans ((xs_imul k69_124).trans ((xs_aldn k69_125 rfl).trans ((xs_get0 k69_126 (px_gs_sh hg2) (px_gs_3 hg2)).trans ((xs_iadd k69_129).trans (xs_callvB k69_130 (as := [vI 2, vI 999999, vI (px_w32 ((px_w32 ((px_w32 (Int.tdiv (px_w32 (x4 + 59)) 60)) * 10)) + (i k2 7)))]) rfl rfl (Nat.le_of_ble_eq_true rfl) (Nat.le_of_ble_eq_true rfl) (Nat.le_of_ble_eq_true rfl) (px_s68 L) (Nat.le_of_ble_eq_true rfl)))))))))))))))
theorem b69_133 (hr : px_hr r) (d : Nat) (i l : MI) (x1 : Int) {v2 : PV} (hn2 : px_nl v2) (x4 : Int) (xs0 : Int) : px_X d 69 (133, [vR 68, vI x1, v2, vR 9, vI x4], [vI xs0]) (px_sh L, i, l, r, t) = some (some (vI xs0), (px_sh L, i, l, r, t)) := (xs_ri k69_133 rfl)
-- Laws.bears ('R68', 'I')
theorem b70_0 (hr : px_hr r) (d : Nat) (i l : MI) (x1 : Int) : px_X (d + 1) 70 (0, [vR 68, vI x1], []) (px_sh L, i, l, r, t) = (px_C d 34 [vR 71, vI 14, vI x1] (px_sh L, i, l, r, t)).bind (fun q => px_X (d + 1) 70 (px_psh (10, [vR 68, vI x1], []) q.1) q.2) := ((xs_aldn k70_0 rfl).trans ((xs_get4 k70_1 (px_s68 L) (Nat.le_of_ble_eq_true rfl) (px_r68_3 hr)).trans ((xs_bi k70_4 (by omega)).trans ((xs_ildn k70_6 rfl).trans (xs_callsB k70_7 (as := [vR 71, vI 14, vI x1]) rfl rfl (Nat.le_of_ble_eq_true rfl) (Nat.le_of_ble_eq_true rfl) (Nat.le_of_ble_eq_true rfl))))))
theorem b70_10 (hr : px_hr r) (d : Nat) (i l : MI) (x1 : Int) : px_X (d + 1) 70 (10, [vR 68, vI x1], []) (px_sh L, i, l, r, t) = (px_C d 71 [vR 68, vI 3, vI 99999, vI (px_w32 (100 * x1))] (px_sh L, i, l, r, t)).bind (fun q => px_X (d + 1) 70 (px_psh (21, [vR 68, vI x1], []) q.1) q.2) := ((xs_aldn k70_10 rfl).trans ((xs_ic k70_11 (by omega)).trans ((xs_ldc k70_12).trans ((xs_bi k70_14 (by omega)).trans ((xs_ildn k70_16 rfl).trans ((xs_imul k70_17).trans (xs_callvB k70_18 (as := [vI 3, vI 99999, vI (px_w32 (100 * x1))]) rfl rfl (Nat.le_of_ble_eq_true rfl) (Nat.le_of_ble_eq_true rfl) (Nat.le_of_ble_eq_true rfl) (px_s68 L) (Nat.le_of_ble_eq_true rfl))))))))
theorem b70_21 (hr : px_hr r) (d : Nat) (i l : MI) (x1 : Int) (xs0 : Int) : px_X d 70 (21, [vR 68, vI x1], [vI xs0]) (px_sh L, i, l, r, t) = some (some (vI xs0), (px_sh L, i, l, r, t)) := (xs_ri k70_21 rfl)
-- Laws.reckon ('R68', 'I', 'I', 'I')
theorem b71_0 (hr : px_hr r) (d : Nat) (i l : MI) (x1 : Int) (x2 : Int) (x3 : Int) : px_X (d + 1) 71 (0, [vR 68, vI x1, vI x2, vI x3, vJ, vJ], []) (px_sh L, i, l, r, t) = (px_C d 64 [vR 68, vI (i 4 8)] (px_sh L, i, l, r, t)).bind (fun q => px_X (d + 1) 71 (px_psh (11, [vR 68, vI x1, vI x2, vI x3, vJ, vJ], []) q.1) q.2) := ((xs_aldn k71_0 rfl).trans ((xs_aldn k71_1 rfl).trans ((xs_get4 k71_2 (px_s68 L) (Nat.le_of_ble_eq_true rfl) (px_r68_0 hr)).trans ((xs_get0 k71_5 (px_s4 L) (Nat.le_of_ble_eq_true rfl)).trans (xs_callvB k71_8 (as := [vI (i 4 8)]) rfl rfl (Nat.le_of_ble_eq_true rfl) (Nat.le_of_ble_eq_true rfl) (Nat.le_of_ble_eq_true rfl) (px_s68 L) (Nat.le_of_ble_eq_true rfl))))))
theorem b71_11_N (hr : px_hr r) (d : Nat) (i l : MI) (x1 : Int) (x2 : Int) (x3 : Int) : px_X d 71 (11, [vR 68, vI x1, vI x2, vI x3, vJ, vJ], [vN]) (px_sh L, i, l, r, t) = px_X d 71 (28, [vR 68, vI x1, vI x2, vI x3, vN, vJ], [vI (-1)]) (px_sh L, i, l, r, t) := ((xs_ast k71_11 (Nat.le_of_ble_eq_true rfl) (ls' := [vR 68, vI x1, vI x2, vI x3, vN, vJ]) rfl).trans ((xs_ald k71_13 rfl).trans ((xs_nnulN k71_15).trans ((xs_ic k71_18 (by omega)).trans (xs_goto k71_19)))))
theorem b71_11_t (hr : px_hr r) (d : Nat) (i l : MI) (x1 : Int) (x2 : Int) (x3 : Int) {ks0 : Nat} (hts0 : px_tx ks0) : px_X (d + 1) 71 (11, [vR 68, vI x1, vI x2, vI x3, vJ, vJ], [vR ks0]) (px_sh L, i, l, r, t) = (px_C d 138 [vR ks0, vI x1] (px_sh L, i, l, r, t)).bind (fun q => px_X (d + 1) 71 (px_psh (28, [vR 68, vI x1, vI x2, vI x3, vR ks0, vJ], []) q.1) q.2) := ((xs_ast k71_11 (Nat.le_of_ble_eq_true rfl) (ls' := [vR 68, vI x1, vI x2, vI x3, vR ks0, vJ]) rfl).trans ((xs_ald k71_13 rfl).trans ((xs_nnulR k71_15).trans ((xs_ald k71_22 rfl).trans ((xs_ildn k71_24 rfl).trans (xs_callvB k71_25 (as := [vI x1]) rfl rfl (Nat.le_of_ble_eq_true rfl) (Nat.le_of_ble_eq_true rfl) (Nat.le_of_ble_eq_true rfl) (px_tx_sh hts0) (px_tx_3 hts0)))))))
theorem b71_28_i4N (hr : px_hr r) (d : Nat) (i l : MI) (x1 : Int) (x2 : Int) (x3 : Int) (xs0 : Int) : px_X (d + 1) 71 (28, [vR 68, vI x1, vI x2, vI x3, vN, vJ], [vI xs0]) (px_sh L, i, l, r, t) = if xs0 = (-1) then some (some (vI x3), (px_sh L, i, l, r, t)) else (px_C d 72 [vR 68, vN, vI xs0] (px_sh L, i, l, r, t)).bind (fun q => px_X (d + 1) 71 (px_psh (48, [vR 68, vI x1, vI x2, vI x3, vN, vI xs0], [vI x2, vI 0]) q.1) q.2) := ((xs_ist k71_28 (Nat.le_of_ble_eq_true rfl) (ls' := [vR 68, vI x1, vI x2, vI x3, vN, vI xs0]) rfl).trans ((xs_ild k71_30 rfl).trans ((xs_ic k71_32 (by omega)).trans ((xs_jne k71_33).trans (px_ite (fun c1 => ((xs_ildn k71_36 rfl).trans (xs_ri k71_37 rfl))) (fun c1 => ((xs_ic k71_38 (by omega)).trans ((xs_ildn k71_39 rfl).trans ((xs_aldn k71_40 rfl).trans ((xs_ald k71_41 rfl).trans ((xs_ild k71_43 rfl).trans (xs_callvB k71_45 (as := [vN, vI xs0]) rfl rfl (Nat.le_of_ble_eq_true rfl) (Nat.le_of_ble_eq_true rfl) (Nat.le_of_ble_eq_true rfl) (px_s68 L) (Nat.le_of_ble_eq_true rfl)))))))))))))
theorem b71_28_i4t (hr : px_hr r) (d : Nat) (i l : MI) (x1 : Int) (x2 : Int) (x3 : Int) {k4 : Nat} (ht4 : px_tx k4) (xs0 : Int) : px_X (d + 1) 71 (28, [vR 68, vI x1, vI x2, vI x3, vR k4, vJ], [vI xs0]) (px_sh L, i, l, r, t) = if xs0 = (-1) then some (some (vI x3), (px_sh L, i, l, r, t)) else (px_C d 72 [vR 68, vR k4, vI xs0] (px_sh L, i, l, r, t)).bind (fun q => px_X (d + 1) 71 (px_psh (48, [vR 68, vI x1, vI x2, vI x3, vR k4, vI xs0], [vI x2, vI 0]) q.1) q.2) := ((xs_ist k71_28 (Nat.le_of_ble_eq_true rfl) (ls' := [vR 68, vI x1, vI x2, vI x3, vR k4, vI xs0]) rfl).trans ((xs_ild k71_30 rfl).trans ((xs_ic k71_32 (by omega)).trans ((xs_jne k71_33).trans (px_ite (fun c1 => ((xs_ildn k71_36 rfl).trans (xs_ri k71_37 rfl))) (fun c1 => ((xs_ic k71_38 (by omega)).trans ((xs_ildn k71_39 rfl).trans ((xs_aldn k71_40 rfl).trans ((xs_ald k71_41 rfl).trans ((xs_ild k71_43 rfl).trans (xs_callvB k71_45 (as := [vR k4, vI xs0]) rfl rfl (Nat.le_of_ble_eq_true rfl) (Nat.le_of_ble_eq_true rfl) (Nat.le_of_ble_eq_true rfl) (px_s68 L) (Nat.le_of_ble_eq_true rfl)))))))))))))
theorem b71_48 (hr : px_hr r) (d : Nat) (i l : MI) (x1 : Int) (x2 : Int) (x3 : Int) {v4 : PV} (hn4 : px_nl v4) (x5 : Int) (xs0 : Int) (xs1 : Int) (xs2 : Int) : px_X d 71 (48, [vR 68, vI x1, vI x2, vI x3, v4, vI x5], [vI xs0, vI xs1, vI xs2]) (px_sh L, i, l, r, t) = some (some (vI (if xs2 < (if xs0 < xs1 then xs0 else xs1) then (if xs0 < xs1 then xs0 else xs1) else xs2)), (px_sh L, i, l, r, t)) := ((xs_imin k71_48 (Nat.le_of_ble_eq_true rfl)).trans ((xs_imax k71_51 (Nat.le_of_ble_eq_true rfl)).trans (xs_ri k71_54 rfl)))
-- Laws.run ('R68', 'N', 'I')
theorem b72_R68N_0 (hr : px_hr r) (d : Nat) (i l : MI) (x2 : Int) : px_X d 72 (0, [vR 68, vN, vI x2, vJ, vJ, vJ, vJ, vJ], []) (px_sh L, i, l, r, t) = px_X d 72 (3, [vR 68, vN, vI x2, vI 0, vJ, vJ, vJ, vJ], [vN]) (px_sh L, i, l, r, t) := ((xs_ic k72_0 (by omega)).trans ((xs_istn k72_1 (Nat.le_of_ble_eq_true rfl) (ls' := [vR 68, vN, vI x2, vI 0, vJ, vJ, vJ, vJ]) rfl).trans (xs_aldn k72_2 rfl)))
-- Laws.run ('R68', 't', 'I')
theorem b72_R68t_0 (hr : px_hr r) (d : Nat) (i l : MI) {k1 : Nat} (ht1 : px_tx k1) (x2 : Int) : px_X (d + 1) 72 (0, [vR 68, vR k1, vI x2, vJ, vJ, vJ, vJ, vJ], []) (px_sh L, i, l, r, t) = (px_C d 33 [vR (k1 + 4), vI x2] (px_sh L, i, l, r, t)).bind (fun q => px_X (d + 1) 72 (px_psh (10, [vR 68, vR k1, vI x2, vI 0, vJ, vJ, vJ, vJ], []) q.1) q.2) := ((xs_ic k72_0 (by omega)).trans ((xs_istn k72_1 (Nat.le_of_ble_eq_true rfl) (ls' := [vR 68, vR k1, vI x2, vI 0, vJ, vJ, vJ, vJ]) rfl).trans ((xs_aldn k72_2 rfl).trans ((xs_get4 k72_3 (px_tx_sh ht1) (px_tx_3 ht1) (px_tx_r4 hr ht1)).trans ((xs_ildn k72_6 rfl).trans (xs_callsB k72_7 (as := [vR (k1 + 4), vI x2]) rfl rfl (Nat.le_of_ble_eq_true rfl) (Nat.le_of_ble_eq_true rfl) (Nat.le_of_ble_eq_true rfl)))))))
theorem b72_R68t_10 (hr : px_hr r) (d : Nat) (i l : MI) {k1 : Nat} (ht1 : px_tx k1) (x2 : Int) (x3 : Int) (xs0 : Int) : px_X (d + 1) 72 (10, [vR 68, vR k1, vI x2, vI x3, vJ, vJ, vJ, vJ], [vI xs0]) (px_sh L, i, l, r, t) = (px_C d 33 [vR (k1 + 3), vI x2] (px_sh L, i, l, r, t)).bind (fun q => px_X (d + 1) 72 (px_psh (29, [vR 68, vR k1, vI x2, vI x3, vI (if 300 < xs0 then 300 else xs0), vJ, vJ, vJ], [vI 0]) q.1) q.2) := ((xs_aldn k72_10 rfl).trans ((xs_get4 k72_11 (px_tx_sh ht1) (px_tx_3 ht1) (px_tx_r1 hr ht1)).trans ((xs_aln k72_14 (px_tx_s1 ht1)).trans ((xs_imin k72_15 (Nat.le_of_ble_eq_true rfl)).trans ((xs_ist k72_18 (Nat.le_of_ble_eq_true rfl) (ls' := [vR 68, vR k1, vI x2, vI x3, vI (if 300 < xs0 then 300 else xs0), vJ, vJ, vJ]) rfl).trans ((xs_ic k72_20 (by omega)).trans ((xs_aldn k72_21 rfl).trans ((xs_get4 k72_22 (px_tx_sh ht1) (px_tx_3 ht1) (px_tx_r3 hr ht1)).trans ((xs_ildn k72_25 rfl).trans (xs_callsB k72_26 (as := [vR (k1 + 3), vI x2]) rfl rfl (Nat.le_of_ble_eq_true rfl) (Nat.le_of_ble_eq_true rfl) (Nat.le_of_ble_eq_true rfl)))))))))))
theorem b72_R68t_29 (hr : px_hr r) (d : Nat) (i l : MI) {k1 : Nat} (ht1 : px_tx k1) (x2 : Int) (x3 : Int) (x4 : Int) (xs0 : Int) (xs1 : Int) : px_X d 72 (29, [vR 68, vR k1, vI x2, vI x3, vI x4, vJ, vJ, vJ], [vI xs0, vI xs1]) (px_sh L, i, l, r, t) = px_X d 72 (34, [vR 68, vR k1, vI x2, vI x3, vI x4, vI (if xs1 < xs0 then xs0 else xs1), vJ, vJ], []) (px_sh L, i, l, r, t) := ((xs_imax k72_29 (Nat.le_of_ble_eq_true rfl)).trans (xs_ist k72_32 (Nat.le_of_ble_eq_true rfl) (ls' := [vR 68, vR k1, vI x2, vI x3, vI x4, vI (if xs1 < xs0 then xs0 else xs1), vJ, vJ]) rfl))
theorem b72_R68t_34 (hr : px_hr r) (d : Nat) (i l : MI) {k1 : Nat} (ht1 : px_tx k1) (x2 : Int) (x3 : Int) (x4 : Int) (x5 : Int) {v6 : PV} (hn6 : px_nl v6) {v7 : PV} (hn7 : px_nl v7) (h1 : (¬ (x4 ≤ x5)) → 0 ≤ x5 ∧ x5 < 300) : px_X (d + 1) 72 (34, [vR 68, vR k1, vI x2, vI x3, vI x4, vI x5, v6, v7], []) (px_sh L, i, l, r, t) = if x4 ≤ x5 then (px_C d 33 [vR 72, vI 0] (px_sh L, i, l, r, t)).bind (fun q => px_X (d + 1) 72 (px_psh (225, [vR 68, vR k1, vI x2, vI x3, vI x4, vI x5, v6, v7], []) q.1) q.2) else if 0 ≤ (px_w32 ((i (k1 + 1) x5) - 10000)) then if (px_w32 ((i (k1 + 1) x5) - 10000)) < 33 then if (px_w32 ((i (k1 + 1) x5) - 10000)) = 20 then (px_C d 33 [vR 72, vI (px_w32 (x3 - 1))] (px_sh L, i, l, r, t)).bind (fun q => px_X (d + 1) 72 (px_psh (136, [vR 68, vR k1, vI x2, vI x3, vI x4, vI x5, vI (i (k1 + 1) x5), vI (px_w32 ((i (k1 + 1) x5) - 10000))], [vI (px_w32 (x3 - 1)), vR 72]) q.1) q.2) else if (px_w32 ((i (k1 + 1) x5) - 10000)) = 32 then (px_C d 33 [vR 72, vI (px_w32 (x3 - 1))] (px_sh L, i, l, r, t)).bind (fun q => px_X (d + 1) 72 (px_psh (168, [vR 68, vR k1, vI x2, vI x3, vI x4, vI x5, vI (i (k1 + 1) x5), vI (px_w32 ((i (k1 + 1) x5) - 10000))], [vI 1, vI (px_w32 (x3 - 1)), vR 72]) q.1) q.2) else (px_C d 33 [vR 72, vI (px_w32 ((px_w32 (x3 + (-1))) - 1))] (px_sh L, i, l, r, t)).bind (fun q => px_X (d + 1) 72 (px_psh (197, [vR 68, vR k1, vI x2, vI (px_w32 (x3 + (-1))), vI x4, vI x5, vI (i (k1 + 1) x5), vI (px_w32 ((i (k1 + 1) x5) - 10000))], [vI (px_w32 ((i (k1 + 1) x5) - 10000)), vI (px_w32 ((px_w32 (x3 + (-1))) - 1)), vR 72]) q.1) q.2) else (px_C d 33 [vR 71, vI (px_w32 ((px_w32 ((i (k1 + 1) x5) - 10000)) - 33))] (px_sh L, i, l, r, t)).bind (fun q => px_X (d + 1) 72 (px_psh (103, [vR 68, vR k1, vI x2, vI x3, vI x4, vI x5, vI (i (k1 + 1) x5), vI (px_w32 ((i (k1 + 1) x5) - 10000))], [vI x3, vR 72]) q.1) q.2) else (px_C d 34 [vR 72, vI x3, vI (i (k1 + 1) x5)] (px_sh L, i, l, r, t)).bind (fun q => px_X (d + 1) 72 (px_psh (73, [vR 68, vR k1, vI x2, vI x3, vI x4, vI x5, vI (i (k1 + 1) x5), vI (px_w32 ((i (k1 + 1) x5) - 10000))], []) q.1) q.2) := ((xs_ild k72_34 rfl).trans ((xs_ild k72_36 rfl).trans ((xs_jge k72_38).trans (px_ite (fun c1 => ((xs_aldn k72_217 rfl).trans ((xs_get4 k72_218 (px_s68 L) (Nat.le_of_ble_eq_true rfl) (px_r68_4 hr)).trans ((xs_ic k72_221 (by omega)).trans (xs_callsB k72_222 (as := [vR 72, vI 0]) rfl rfl (Nat.le_of_ble_eq_true rfl) (Nat.le_of_ble_eq_true rfl) (Nat.le_of_ble_eq_true rfl)))))) (fun c1 => ((xs_aldn k72_41 rfl).trans ((xs_get4 k72_42 (px_tx_sh ht1) (px_tx_3 ht1) (px_tx_r1 hr ht1)).trans ((xs_ild k72_45 rfl).trans ((xs_iald k72_47 (px_tx_s1 ht1) (h1 c1)).trans ((xs_ist k72_48 (Nat.le_of_ble_eq_true rfl) (ls' := [vR 68, vR k1, vI x2, vI x3, vI x4, vI x5, vI (i (k1 + 1) x5), v7]) rfl).trans ((xs_ild k72_50 rfl).trans ((xs_si k72_52 (by omega)).trans ((xs_isub k72_55).trans ((xs_ist k72_56 (Nat.le_of_ble_eq_true rfl) (ls' := [vR 68, vR k1, vI x2, vI x3, vI x4, vI x5, vI (i (k1 + 1) x5), vI (px_w32 ((i (k1 + 1) x5) - 10000))]) rfl).trans ((xs_ild k72_58 rfl).trans ((xs_ige k72_60).trans (px_ite (fun c2 => ((xs_ild k72_79 rfl).trans ((xs_bi k72_81 (by omega)).trans ((xs_jlt k72_83).trans (px_ite (fun c3 => ((xs_ild k72_112 rfl).trans ((xs_bi k72_114 (by omega)).trans ((xs_jne k72_116).trans (px_ite (fun c4 => ((xs_aldn k72_119 rfl).trans ((xs_get4 k72_120 (px_s68 L) (Nat.le_of_ble_eq_true rfl) (px_r68_4 hr)).trans ((xs_ildn k72_123 rfl).trans ((xs_ic k72_124 (by omega)).trans ((xs_isub k72_125).trans ((xs_aldn k72_126 rfl).trans ((xs_get4 k72_127 (px_s68 L) (Nat.le_of_ble_eq_true rfl) (px_r68_4 hr)).trans ((xs_ildn k72_130 rfl).trans ((xs_ic k72_131 (by omega)).trans ((xs_isub k72_132).trans (xs_callsB k72_133 (as := [vR 72, vI (px_w32 (x3 - 1))]) rfl rfl (Nat.le_of_ble_eq_true rfl) (Nat.le_of_ble_eq_true rfl) (Nat.le_of_ble_eq_true rfl))))))))))))) (fun c4 => ((xs_ild k72_143 rfl).trans ((xs_bi k72_145 (by omega)).trans ((xs_jne k72_147).trans (px_ite (fun c5 => ((xs_aldn k72_150 rfl).trans ((xs_get4 k72_151 (px_s68 L) (Nat.le_of_ble_eq_true rfl) (px_r68_4 hr)).trans ((xs_ildn k72_154 rfl).trans ((xs_ic k72_155 (by omega)).trans ((xs_isub k72_156).trans ((xs_ic k72_157 (by omega)).trans ((xs_aldn k72_158 rfl).trans ((xs_get4 k72_159 (px_s68 L) (Nat.le_of_ble_eq_true rfl) (px_r68_4 hr)).trans ((xs_ildn k72_162 rfl).trans ((xs_ic k72_163 (by omega)).trans ((xs_isub k72_164).trans (xs_callsB k72_165 (as := [vR 72, vI (px_w32 (x3 - 1))]) rfl rfl (Nat.le_of_ble_eq_true rfl) (Nat.le_of_ble_eq_true rfl) (Nat.le_of_ble_eq_true rfl)))))))))))))) (fun c5 => ((xs_iinc k72_175 rfl (by omega) (ls' := [vR 68, vR k1, vI x2, vI (px_w32 (x3 + (-1))), vI x4, vI x5, vI (i (k1 + 1) x5), vI (px_w32 ((i (k1 + 1) x5) - 10000))]) rfl).trans ((xs_aldn k72_178 rfl).trans ((xs_get4 k72_179 (px_s68 L) (Nat.le_of_ble_eq_true rfl) (px_r68_4 hr)).trans ((xs_ildn k72_182 rfl).trans ((xs_ic k72_183 (by omega)).trans ((xs_isub k72_184).trans ((xs_ild k72_185 rfl).trans ((xs_aldn k72_187 rfl).trans ((xs_get4 k72_188 (px_s68 L) (Nat.le_of_ble_eq_true rfl) (px_r68_4 hr)).trans ((xs_ildn k72_191 rfl).trans ((xs_ic k72_192 (by omega)).trans ((xs_isub k72_193).trans (xs_callsB k72_194 (as := [vR 72, vI (px_w32 ((px_w32 (x3 + (-1))) - 1))]) rfl rfl (Nat.le_of_ble_eq_true rfl) (Nat.le_of_ble_eq_true rfl) (Nat.le_of_ble_eq_true rfl))))))))))))))))))))))))) (fun c3 => ((xs_aldn k72_86 rfl).trans ((xs_get4 k72_87 (px_s68 L) (Nat.le_of_ble_eq_true rfl) (px_r68_4 hr)).trans ((xs_ildn k72_90 rfl).trans ((xs_aldn k72_91 rfl).trans ((xs_get4 k72_92 (px_s68 L) (Nat.le_of_ble_eq_true rfl) (px_r68_3 hr)).trans ((xs_ild k72_95 rfl).trans ((xs_bi k72_97 (by omega)).trans ((xs_isub k72_99).trans (xs_callsB k72_100 (as := [vR 71, vI (px_w32 ((px_w32 ((i (k1 + 1) x5) - 10000)) - 33))]) rfl rfl (Nat.le_of_ble_eq_true rfl) (Nat.le_of_ble_eq_true rfl) (Nat.le_of_ble_eq_true rfl)))))))))))))))) (fun c2 => ((xs_aldn k72_63 rfl).trans ((xs_get4 k72_64 (px_s68 L) (Nat.le_of_ble_eq_true rfl) (px_r68_4 hr)).trans ((xs_ildn k72_67 rfl).trans ((xs_ild k72_68 rfl).trans (xs_callsB k72_70 (as := [vR 72, vI x3, vI (i (k1 + 1) x5)]) rfl rfl (Nat.le_of_ble_eq_true rfl) (Nat.le_of_ble_eq_true rfl) (Nat.le_of_ble_eq_true rfl))))))))))))))))))))))))
theorem b72_R68t_73 (hr : px_hr r) (d : Nat) (i l : MI) {k1 : Nat} (ht1 : px_tx k1) (x2 : Int) (x3 : Int) (x4 : Int) (x5 : Int) (x6 : Int) (x7 : Int) : px_X d 72 (73, [vR 68, vR k1, vI x2, vI x3, vI x4, vI x5, vI x6, vI x7], []) (px_sh L, i, l, r, t) = px_X d 72 (34, [vR 68, vR k1, vI x2, vI (px_w32 (x3 + 1)), vI x4, vI (px_w32 (x5 + 1)), vI x6, vI x7], []) (px_sh L, i, l, r, t) := ((xs_iinc k72_73 rfl (by omega) (ls' := [vR 68, vR k1, vI x2, vI (px_w32 (x3 + 1)), vI x4, vI x5, vI x6, vI x7]) rfl).trans ((xs_goto k72_76).trans ((xs_iinc k72_211 rfl (by omega) (ls' := [vR 68, vR k1, vI x2, vI (px_w32 (x3 + 1)), vI x4, vI (px_w32 (x5 + 1)), vI x6, vI x7]) rfl).trans (xs_goto k72_214))))
theorem b72_R68t_103 (hr : px_hr r) (d : Nat) (i l : MI) {k1 : Nat} (ht1 : px_tx k1) (x2 : Int) (x3 : Int) (x4 : Int) (x5 : Int) (x6 : Int) (x7 : Int) (xs0 : Int) (xs1 : Int) : px_X (d + 1) 72 (103, [vR 68, vR k1, vI x2, vI x3, vI x4, vI x5, vI x6, vI x7], [vI xs0, vI xs1, vR 72]) (px_sh L, i, l, r, t) = (px_C d 34 [vR 72, vI xs1, vI xs0] (px_sh L, i, l, r, t)).bind (fun q => px_X (d + 1) 72 (px_psh (106, [vR 68, vR k1, vI x2, vI x3, vI x4, vI x5, vI x6, vI x7], []) q.1) q.2) := (xs_callsB k72_103 (as := [vR 72, vI xs1, vI xs0]) rfl rfl (Nat.le_of_ble_eq_true rfl) (Nat.le_of_ble_eq_true rfl) (Nat.le_of_ble_eq_true rfl))
theorem b72_R68t_106 (hr : px_hr r) (d : Nat) (i l : MI) {k1 : Nat} (ht1 : px_tx k1) (x2 : Int) (x3 : Int) (x4 : Int) (x5 : Int) (x6 : Int) (x7 : Int) : px_X d 72 (106, [vR 68, vR k1, vI x2, vI x3, vI x4, vI x5, vI x6, vI x7], []) (px_sh L, i, l, r, t) = px_X d 72 (34, [vR 68, vR k1, vI x2, vI (px_w32 (x3 + 1)), vI x4, vI (px_w32 (x5 + 1)), vI x6, vI x7], []) (px_sh L, i, l, r, t) := ((xs_iinc k72_106 rfl (by omega) (ls' := [vR 68, vR k1, vI x2, vI (px_w32 (x3 + 1)), vI x4, vI x5, vI x6, vI x7]) rfl).trans ((xs_goto k72_109).trans ((xs_iinc k72_211 rfl (by omega) (ls' := [vR 68, vR k1, vI x2, vI (px_w32 (x3 + 1)), vI x4, vI (px_w32 (x5 + 1)), vI x6, vI x7]) rfl).trans (xs_goto k72_214))))
theorem b72_R68t_136 (hr : px_hr r) (d : Nat) (i l : MI) {k1 : Nat} (ht1 : px_tx k1) (x2 : Int) (x3 : Int) (x4 : Int) (x5 : Int) (x6 : Int) (x7 : Int) (xs0 : Int) (xs1 : Int) : px_X (d + 1) 72 (136, [vR 68, vR k1, vI x2, vI x3, vI x4, vI x5, vI x6, vI x7], [vI xs0, vI xs1, vR 72]) (px_sh L, i, l, r, t) = (px_C d 34 [vR 72, vI xs1, vI (px_w32 (-xs0))] (px_sh L, i, l, r, t)).bind (fun q => px_X (d + 1) 72 (px_psh (140, [vR 68, vR k1, vI x2, vI x3, vI x4, vI x5, vI x6, vI x7], []) q.1) q.2) := ((xs_ineg k72_136).trans (xs_callsB k72_137 (as := [vR 72, vI xs1, vI (px_w32 (-xs0))]) rfl rfl (Nat.le_of_ble_eq_true rfl) (Nat.le_of_ble_eq_true rfl) (Nat.le_of_ble_eq_true rfl)))
theorem b72_R68t_140 (hr : px_hr r) (d : Nat) (i l : MI) {k1 : Nat} (ht1 : px_tx k1) (x2 : Int) (x3 : Int) (x4 : Int) (x5 : Int) (x6 : Int) (x7 : Int) : px_X d 72 (140, [vR 68, vR k1, vI x2, vI x3, vI x4, vI x5, vI x6, vI x7], []) (px_sh L, i, l, r, t) = px_X d 72 (34, [vR 68, vR k1, vI x2, vI x3, vI x4, vI (px_w32 (x5 + 1)), vI x6, vI x7], []) (px_sh L, i, l, r, t) := ((xs_goto k72_140).trans ((xs_iinc k72_211 rfl (by omega) (ls' := [vR 68, vR k1, vI x2, vI x3, vI x4, vI (px_w32 (x5 + 1)), vI x6, vI x7]) rfl).trans (xs_goto k72_214)))
theorem b72_R68t_168 (hr : px_hr r) (d : Nat) (i l : MI) {k1 : Nat} (ht1 : px_tx k1) (x2 : Int) (x3 : Int) (x4 : Int) (x5 : Int) (x6 : Int) (x7 : Int) (xs0 : Int) (xs1 : Int) (xs2 : Int) : px_X (d + 1) 72 (168, [vR 68, vR k1, vI x2, vI x3, vI x4, vI x5, vI x6, vI x7], [vI xs0, vI xs1, vI xs2, vR 72]) (px_sh L, i, l, r, t) = (px_C d 34 [vR 72, vI xs2, vI (px_w32 (xs1 - xs0))] (px_sh L, i, l, r, t)).bind (fun q => px_X (d + 1) 72 (px_psh (172, [vR 68, vR k1, vI x2, vI x3, vI x4, vI x5, vI x6, vI x7], []) q.1) q.2) := ((xs_isub k72_168).trans (xs_callsB k72_169 (as := [vR 72, vI xs2, vI (px_w32 (xs1 - xs0))]) rfl rfl (Nat.le_of_ble_eq_true rfl) (Nat.le_of_ble_eq_true rfl) (Nat.le_of_ble_eq_true rfl)))
theorem b72_R68t_172 (hr : px_hr r) (d : Nat) (i l : MI) {k1 : Nat} (ht1 : px_tx k1) (x2 : Int) (x3 : Int) (x4 : Int) (x5 : Int) (x6 : Int) (x7 : Int) : px_X d 72 (172, [vR 68, vR k1, vI x2, vI x3, vI x4, vI x5, vI x6, vI x7], []) (px_sh L, i, l, r, t) = px_X d 72 (34, [vR 68, vR k1, vI x2, vI x3, vI x4, vI (px_w32 (x5 + 1)), vI x6, vI x7], []) (px_sh L, i, l, r, t) := ((xs_goto k72_172).trans ((xs_iinc k72_211 rfl (by omega) (ls' := [vR 68, vR k1, vI x2, vI x3, vI x4, vI (px_w32 (x5 + 1)), vI x6, vI x7]) rfl).trans (xs_goto k72_214)))
theorem b72_R68t_197 (hr : px_hr r) (d : Nat) (i l : MI) {k1 : Nat} (ht1 : px_tx k1) (x2 : Int) (x3 : Int) (x4 : Int) (x5 : Int) (x6 : Int) (x7 : Int) (xs0 : Int) (xs1 : Int) (xs2 : Int) : px_X (d + 1) 72 (197, [vR 68, vR k1, vI x2, vI x3, vI x4, vI x5, vI x6, vI x7], [vI xs0, vI xs1, vI xs2, vR 72]) (px_sh L, i, l, r, t) = (px_C d 33 [vR 72, vI x3] (px_sh L, i, l, r, t)).bind (fun q => px_X (d + 1) 72 (px_psh (205, [vR 68, vR k1, vI x2, vI x3, vI x4, vI x5, vI x6, vI x7], [vI xs0, vI xs1, vI xs2, vR 72]) q.1) q.2) := ((xs_aldn k72_197 rfl).trans ((xs_get4 k72_198 (px_s68 L) (Nat.le_of_ble_eq_true rfl) (px_r68_4 hr)).trans ((xs_ildn k72_201 rfl).trans (xs_callsB k72_202 (as := [vR 72, vI x3]) rfl rfl (Nat.le_of_ble_eq_true rfl) (Nat.le_of_ble_eq_true rfl) (Nat.le_of_ble_eq_true rfl)))))
theorem b72_R68t_205 (hr : px_hr r) (d : Nat) (i l : MI) {k1 : Nat} (ht1 : px_tx k1) (x2 : Int) (x3 : Int) (x4 : Int) (x5 : Int) (x6 : Int) (x7 : Int) (xs0 : Int) (xs1 : Int) (xs2 : Int) (xs3 : Int) : px_X (d + 1) 72 (205, [vR 68, vR k1, vI x2, vI x3, vI x4, vI x5, vI x6, vI x7], [vI xs0, vI xs1, vI xs2, vI xs3, vR 72]) (px_sh L, i, l, r, t) = (px_C d 73 [vI xs2, vI xs1, vI xs0] (px_sh L, i, l, r, t)).bind (fun q => px_X (d + 1) 72 (px_psh (208, [vR 68, vR k1, vI x2, vI x3, vI x4, vI x5, vI x6, vI x7], [vI xs3, vR 72]) q.1) q.2) := (xs_callsB k72_205 (as := [vI xs2, vI xs1, vI xs0]) rfl rfl (Nat.le_of_ble_eq_true rfl) (Nat.le_of_ble_eq_true rfl) (Nat.le_of_ble_eq_true rfl))
theorem b72_R68t_208 (hr : px_hr r) (d : Nat) (i l : MI) {k1 : Nat} (ht1 : px_tx k1) (x2 : Int) (x3 : Int) (x4 : Int) (x5 : Int) (x6 : Int) (x7 : Int) (xs0 : Int) (xs1 : Int) : px_X (d + 1) 72 (208, [vR 68, vR k1, vI x2, vI x3, vI x4, vI x5, vI x6, vI x7], [vI xs0, vI xs1, vR 72]) (px_sh L, i, l, r, t) = (px_C d 34 [vR 72, vI xs1, vI xs0] (px_sh L, i, l, r, t)).bind (fun q => px_X (d + 1) 72 (px_psh (211, [vR 68, vR k1, vI x2, vI x3, vI x4, vI x5, vI x6, vI x7], []) q.1) q.2) := (xs_callsB k72_208 (as := [vR 72, vI xs1, vI xs0]) rfl rfl (Nat.le_of_ble_eq_true rfl) (Nat.le_of_ble_eq_true rfl) (Nat.le_of_ble_eq_true rfl))
theorem b72_R68t_211 (hr : px_hr r) (d : Nat) (i l : MI) {k1 : Nat} (ht1 : px_tx k1) (x2 : Int) (x3 : Int) (x4 : Int) (x5 : Int) (x6 : Int) (x7 : Int) : px_X d 72 (211, [vR 68, vR k1, vI x2, vI x3, vI x4, vI x5, vI x6, vI x7], []) (px_sh L, i, l, r, t) = px_X d 72 (34, [vR 68, vR k1, vI x2, vI x3, vI x4, vI (px_w32 (x5 + 1)), vI x6, vI x7], []) (px_sh L, i, l, r, t) := ((xs_iinc k72_211 rfl (by omega) (ls' := [vR 68, vR k1, vI x2, vI x3, vI x4, vI (px_w32 (x5 + 1)), vI x6, vI x7]) rfl).trans (xs_goto k72_214))
theorem b72_R68t_225 (hr : px_hr r) (d : Nat) (i l : MI) {v1 : PV} (hn1 : px_nl v1) (x2 : Int) (x3 : Int) (x4 : Int) (x5 : Int) {v6 : PV} (hn6 : px_nl v6) {v7 : PV} (hn7 : px_nl v7) (xs0 : Int) : px_X d 72 (225, [vR 68, v1, vI x2, vI x3, vI x4, vI x5, v6, v7], [vI xs0]) (px_sh L, i, l, r, t) = some (some (vI xs0), (px_sh L, i, l, r, t)) := (xs_ri k72_225 rfl)
-- Laws.joined ('I', 'I', 'I')
theorem b73_0 (hr : px_hr r) (d : Nat) (i l : MI) (x0 : Int) (x1 : Int) (x2 : Int) (h1 : (¬ (x0 = 10)) → (¬ (x0 = 11)) → (¬ (x0 = 12)) → (x0 = 13) → (¬ (x2 = 0)) → ¬ x2 = 0) : px_X d 73 (0, [vI x0, vI x1, vI x2, vJ, vJ], []) (px_sh L, i, l, r, t) = if x0 = 10 then px_X d 73 (224, [vI x0, vI x1, vI x2, vL (px_w64 (x1 + x2)), vJ], []) (px_sh L, i, l, r, t) else if x0 = 11 then px_X d 73 (224, [vI x0, vI x1, vI x2, vL (px_w64 (x1 - x2)), vJ], []) (px_sh L, i, l, r, t) else if x0 = 12 then px_X d 73 (224, [vI x0, vI x1, vI x2, vL (px_w64 (x1 * x2)), vJ], []) (px_sh L, i, l, r, t) else if x0 = 13 then if x2 = 0 then px_X d 73 (144, [vI x0, vI x1, vI x2, vL 0, vJ], [vL 0]) (px_sh L, i, l, r, t) else px_X d 73 (144, [vI x0, vI x1, vI x2, vL 0, vJ], [vL (px_w64 (Int.tdiv x1 x2))]) (px_sh L, i, l, r, t) else if x0 = 14 then if x2 ≤ x1 then some (some (vI 0), (px_sh L, i, l, r, t)) else some (some (vI 1), (px_sh L, i, l, r, t)) else if x0 = 15 then if x2 < x1 then some (some (vI 0), (px_sh L, i, l, r, t)) else some (some (vI 1), (px_sh L, i, l, r, t)) else if x0 = 16 then if x1 ≤ x2 then some (some (vI 0), (px_sh L, i, l, r, t)) else some (some (vI 1), (px_sh L, i, l, r, t)) else if x0 = 17 then if x1 < x2 then some (some (vI 0), (px_sh L, i, l, r, t)) else some (some (vI 1), (px_sh L, i, l, r, t)) else if x0 = 18 then if x1 = x2 then some (some (vI 1), (px_sh L, i, l, r, t)) else some (some (vI 0), (px_sh L, i, l, r, t)) else if x0 = 19 then if x1 = x2 then some (some (vI 0), (px_sh L, i, l, r, t)) else some (some (vI 1), (px_sh L, i, l, r, t)) else if x0 = 20 then some (some (vI 0), (px_sh L, i, l, r, t)) else if x0 = 21 then some (some (vI 0), (px_sh L, i, l, r, t)) else if x0 = 22 then some (some (vI 0), (px_sh L, i, l, r, t)) else if x0 = 23 then some (some (vI 0), (px_sh L, i, l, r, t)) else if x0 = 24 then some (some (vI 0), (px_sh L, i, l, r, t)) else if x0 = 25 then some (some (vI 0), (px_sh L, i, l, r, t)) else if x0 = 26 then some (some (vI 0), (px_sh L, i, l, r, t)) else if x0 = 27 then some (some (vI 0), (px_sh L, i, l, r, t)) else if x0 = 28 then some (some (vI 0), (px_sh L, i, l, r, t)) else if x0 = 29 then some (some (vI 0), (px_sh L, i, l, r, t)) else if x0 = 30 then some (some (vI (px_or x1 x2)), (px_sh L, i, l, r, t)) else if x0 = 31 then some (some (vI (px_and x1 x2)), (px_sh L, i, l, r, t)) else some (some (vI 0), (px_sh L, i, l, r, t)) := ((xs_lc0 k73_0).trans ((xs_lstn k73_1 (Nat.le_of_ble_eq_true rfl) (ls' := [vI x0, vI x1, vI x2, vL 0, vJ]) rfl).trans ((xs_ildn k73_2 rfl).trans (px_swi (fun c1 => ((xs_tsw k73_3 (tg := 104) (by rw [c1]; omega) (by rw [c1]; rfl)).trans ((xs_ildn k73_104 rfl).trans ((xs_i2l k73_105).trans ((xs_ildn k73_106 rfl).trans ((xs_i2l k73_107).trans ((xs_ladd k73_108).trans ((xs_lstn k73_109 (Nat.le_of_ble_eq_true rfl) (ls' := [vI x0, vI x1, vI x2, vL (px_w64 (x1 + x2)), vJ]) rfl).trans (xs_goto k73_110))))))))) (fun c1 => (px_swi (fun c2 => ((xs_tsw k73_3 (tg := 113) (by rw [c2]; omega) (by rw [c2]; rfl)).trans ((xs_ildn k73_113 rfl).trans ((xs_i2l k73_114).trans ((xs_ildn k73_115 rfl).trans ((xs_i2l k73_116).trans ((xs_lsub k73_117).trans ((xs_lstn k73_118 (Nat.le_of_ble_eq_true rfl) (ls' := [vI x0, vI x1, vI x2, vL (px_w64 (x1 - x2)), vJ]) rfl).trans (xs_goto k73_119))))))))) (fun c2 => (px_swi (fun c3 => ((xs_tsw k73_3 (tg := 122) (by rw [c3]; omega) (by rw [c3]; rfl)).trans ((xs_ildn k73_122 rfl).trans ((xs_i2l k73_123).trans ((xs_ildn k73_124 rfl).trans ((xs_i2l k73_125).trans ((xs_lmul k73_126).trans ((xs_lstn k73_127 (Nat.le_of_ble_eq_true rfl) (ls' := [vI x0, vI x1, vI x2, vL (px_w64 (x1 * x2)), vJ]) rfl).trans (xs_goto k73_128))))))))) (fun c3 => (px_swi (fun c4 => ((xs_tsw k73_3 (tg := 131) (by rw [c4]; omega) (by rw [c4]; rfl)).trans ((xs_ildn k73_131 rfl).trans ((xs_ine k73_132).trans (px_ite (fun c5 => ((xs_lc0 k73_135).trans (xs_goto k73_136))) (fun c5 => ((xs_ildn k73_139 rfl).trans ((xs_i2l k73_140).trans ((xs_ildn k73_141 rfl).trans ((xs_i2l k73_142).trans (xs_ldiv k73_143 (h1 c1 c2 c3 c4 c5)))))))))))) (fun c4 => (px_swi (fun c5 => ((xs_tsw k73_3 (tg := 148) (by rw [c5]; omega) (by rw [c5]; rfl)).trans ((xs_ildn k73_148 rfl).trans ((xs_ildn k73_149 rfl).trans ((xs_jge k73_150).trans (px_ite (fun c6 => ((xs_ic k73_157 (by omega)).trans (xs_ri k73_158 rfl))) (fun c6 => ((xs_ic k73_153 (by omega)).trans ((xs_goto k73_154).trans (xs_ri k73_158 rfl)))))))))) (fun c5 => (px_swi (fun c6 => ((xs_tsw k73_3 (tg := 159) (by rw [c6]; omega) (by rw [c6]; rfl)).trans ((xs_ildn k73_159 rfl).trans ((xs_ildn k73_160 rfl).trans ((xs_jgt k73_161).trans (px_ite (fun c7 => ((xs_ic k73_168 (by omega)).trans (xs_ri k73_169 rfl))) (fun c7 => ((xs_ic k73_164 (by omega)).trans ((xs_goto k73_165).trans (xs_ri k73_169 rfl)))))))))) (fun c6 => (px_swi (fun c7 => ((xs_tsw k73_3 (tg := 170) (by rw [c7]; omega) (by rw [c7]; rfl)).trans ((xs_ildn k73_170 rfl).trans ((xs_ildn k73_171 rfl).trans ((xs_jle k73_172).trans (px_ite (fun c8 => ((xs_ic k73_179 (by omega)).trans (xs_ri k73_180 rfl))) (fun c8 => ((xs_ic k73_175 (by omega)).trans ((xs_goto k73_176).trans (xs_ri k73_180 rfl)))))))))) (fun c7 => (px_swi (fun c8 => ((xs_tsw k73_3 (tg := 181) (by rw [c8]; omega) (by rw [c8]; rfl)).trans ((xs_ildn k73_181 rfl).trans ((xs_ildn k73_182 rfl).trans ((xs_jlt k73_183).trans (px_ite (fun c9 => ((xs_ic k73_190 (by omega)).trans (xs_ri k73_191 rfl))) (fun c9 => ((xs_ic k73_186 (by omega)).trans ((xs_goto k73_187).trans (xs_ri k73_191 rfl)))))))))) (fun c8 => (px_swi (fun c9 => ((xs_tsw k73_3 (tg := 192) (by rw [c9]; omega) (by rw [c9]; rfl)).trans ((xs_ildn k73_192 rfl).trans ((xs_ildn k73_193 rfl).trans ((xs_jne k73_194).trans (px_ite (fun c10 => ((xs_ic k73_197 (by omega)).trans ((xs_goto k73_198).trans (xs_ri k73_202 rfl)))) (fun c10 => ((xs_ic k73_201 (by omega)).trans (xs_ri k73_202 rfl))))))))) (fun c9 => (px_swi (fun c10 => ((xs_tsw k73_3 (tg := 203) (by rw [c10]; omega) (by rw [c10]; rfl)).trans ((xs_ildn k73_203 rfl).trans ((xs_ildn k73_204 rfl).trans ((xs_jeq k73_205).trans (px_ite (fun c11 => ((xs_ic k73_212 (by omega)).trans (xs_ri k73_213 rfl))) (fun c11 => ((xs_ic k73_208 (by omega)).trans ((xs_goto k73_209).trans (xs_ri k73_213 rfl)))))))))) (fun c10 => (px_swi (fun c11 => ((xs_tsw k73_3 (tg := 222) (by rw [c11]; omega) (by rw [c11]; rfl)).trans ((xs_ic k73_222 (by omega)).trans (xs_ri k73_223 rfl)))) (fun c11 => (px_swi (fun c12 => ((xs_tsw k73_3 (tg := 222) (by rw [c12]; omega) (by rw [c12]; rfl)).trans ((xs_ic k73_222 (by omega)).trans (xs_ri k73_223 rfl)))) (fun c12 => (px_swi (fun c13 => ((xs_tsw k73_3 (tg := 222) (by rw [c13]; omega) (by rw [c13]; rfl)).trans ((xs_ic k73_222 (by omega)).trans (xs_ri k73_223 rfl)))) (fun c13 => (px_swi (fun c14 => ((xs_tsw k73_3 (tg := 222) (by rw [c14]; omega) (by rw [c14]; rfl)).trans ((xs_ic k73_222 (by omega)).trans (xs_ri k73_223 rfl)))) (fun c14 => (px_swi (fun c15 => ((xs_tsw k73_3 (tg := 222) (by rw [c15]; omega) (by rw [c15]; rfl)).trans ((xs_ic k73_222 (by omega)).trans (xs_ri k73_223 rfl)))) (fun c15 => (px_swi (fun c16 => ((xs_tsw k73_3 (tg := 222) (by rw [c16]; omega) (by rw [c16]; rfl)).trans ((xs_ic k73_222 (by omega)).trans (xs_ri k73_223 rfl)))) (fun c16 => (px_swi (fun c17 => ((xs_tsw k73_3 (tg := 222) (by rw [c17]; omega) (by rw [c17]; rfl)).trans ((xs_ic k73_222 (by omega)).trans (xs_ri k73_223 rfl)))) (fun c17 => (px_swi (fun c18 => ((xs_tsw k73_3 (tg := 222) (by rw [c18]; omega) (by rw [c18]; rfl)).trans ((xs_ic k73_222 (by omega)).trans (xs_ri k73_223 rfl)))) (fun c18 => (px_swi (fun c19 => ((xs_tsw k73_3 (tg := 222) (by rw [c19]; omega) (by rw [c19]; rfl)).trans ((xs_ic k73_222 (by omega)).trans (xs_ri k73_223 rfl)))) (fun c19 => (px_swi (fun c20 => ((xs_tsw k73_3 (tg := 222) (by rw [c20]; omega) (by rw [c20]; rfl)).trans ((xs_ic k73_222 (by omega)).trans (xs_ri k73_223 rfl)))) (fun c20 => (px_swi (fun c21 => ((xs_tsw k73_3 (tg := 214) (by rw [c21]; omega) (by rw [c21]; rfl)).trans ((xs_ildn k73_214 rfl).trans ((xs_ildn k73_215 rfl).trans ((xs_ior k73_216).trans (xs_ri k73_217 rfl)))))) (fun c21 => (px_swi (fun c22 => ((xs_tsw k73_3 (tg := 218) (by rw [c22]; omega) (by rw [c22]; rfl)).trans ((xs_ildn k73_218 rfl).trans ((xs_ildn k73_219 rfl).trans ((xs_iand k73_220).trans (xs_ri k73_221 rfl)))))) (fun c22 => ((xs_tswd k73_3 (by omega)).trans ((xs_ic k73_222 (by omega)).trans (xs_ri k73_223 rfl))))))))))))))))))))))))))))))))))))))))))))))))))
theorem b73_144 (hr : px_hr r) (d : Nat) (i l : MI) (x0 : Int) (x1 : Int) (x2 : Int) (x3 : Int) (xs0 : Int) : px_X d 73 (144, [vI x0, vI x1, vI x2, vL x3, vJ], [vL xs0]) (px_sh L, i, l, r, t) = px_X d 73 (224, [vI x0, vI x1, vI x2, vL xs0, vJ], []) (px_sh L, i, l, r, t) := ((xs_lstn k73_144 (Nat.le_of_ble_eq_true rfl) (ls' := [vI x0, vI x1, vI x2, vL xs0, vJ]) rfl).trans (xs_goto k73_145))
theorem b73_224 (hr : px_hr r) (d : Nat) (i l : MI) (x0 : Int) (x1 : Int) (x2 : Int) (x3 : Int) : px_X d 73 (224, [vI x0, vI x1, vI x2, vL x3, vJ], []) (px_sh L, i, l, r, t) = some (some (vI (px_w32 (if (if 1000000 < x3 then 1000000 else x3) < (-1000000) then (-1000000) else (if 1000000 < x3 then 1000000 else x3)))), (px_sh L, i, l, r, t)) := ((xs_ldc2 k73_224).trans ((xs_ldc2 k73_227).trans ((xs_lldn k73_230 rfl).trans ((xs_lmin k73_231 (Nat.le_of_ble_eq_true rfl)).trans ((xs_lmax k73_234 (Nat.le_of_ble_eq_true rfl)).trans ((xs_l2i k73_237).trans (xs_ri k73_238 rfl)))))))
-- Leaving.begin ('R110', 'g')
theorem b75_0 (hr : px_hr r) (d : Nat) (i l : MI) {k1 : Nat} (hg1 : px_gs k1) : px_X d 75 (0, [vR 110, vR k1, vJ, vJ, vJ, vJ], []) (px_sh L, i, l, r, t) = px_X d 75 (10, [vR 110, vR k1, vI 0, vJ, vJ, vJ], []) (px_sh L, (px_up i 110 7 (i k1 5)), l, r, t) := ((xs_aldn k75_0 rfl).trans ((xs_aldn k75_1 rfl).trans ((xs_get0 k75_2 (px_gs_sh hg1) (px_gs_3 hg1)).trans ((xs_put0 k75_5 (Or.inl rfl) (px_s110 L) (Nat.le_of_ble_eq_true rfl)).trans ((xs_ic k75_8 (by omega)).trans (xs_istn k75_9 (Nat.le_of_ble_eq_true rfl) (ls' := [vR 110, vR k1, vI 0, vJ, vJ, vJ]) rfl))))))
theorem b75_10 (hr : px_hr r) (d : Nat) (i l : MI) {k1 : Nat} (hg1 : px_gs k1) (x2 : Int) {v3 : PV} (hn3 : px_nl v3) {v5 : PV} (hn5 : px_nl v5) : px_X d 75 (10, [vR 110, vR k1, vI x2, v3, vJ, v5], []) (px_sh L, i, l, r, t) = if 130 ≤ x2 then some (none, (px_sh L, i, l, r, t)) else px_X d 75 (24, [vR 110, vR k1, vI x2, vL 0, vJ, vI 0], []) (px_sh L, i, l, r, t) := ((xs_ildn k75_10 rfl).trans ((xs_aldn k75_11 rfl).trans ((xs_get4 k75_12 (px_s110 L) (Nat.le_of_ble_eq_true rfl) (px_r110_2 hr)).trans ((xs_aln k75_15 (px_s111 L)).trans ((xs_jge k75_16).trans (px_ite (fun c1 => (xs_rv k75_80 rfl)) (fun c1 => ((xs_lc0 k75_19).trans ((xs_lstn k75_20 (Nat.le_of_ble_eq_true rfl) (ls' := [vR 110, vR k1, vI x2, vL 0, vJ, v5]) rfl).trans ((xs_ic k75_21 (by omega)).trans (xs_ist k75_22 (Nat.le_of_ble_eq_true rfl) (ls' := [vR 110, vR k1, vI x2, vL 0, vJ, vI 0]) rfl)))))))))))
theorem b75_24 (hr : px_hr r) (d : Nat) (i l : MI) {k1 : Nat} (hg1 : px_gs k1) (x2 : Int) (x3 : Int) (x5 : Int) (h1 : ((i 19 2) ≤ x5) → 0 ≤ x2 ∧ x2 < 130) : px_X (d + 1) 75 (24, [vR 110, vR k1, vI x2, vL x3, vJ, vI x5], []) (px_sh L, i, l, r, t) = if (i 19 2) ≤ x5 then px_X (d + 1) 75 (10, [vR 110, vR k1, vI (px_w32 (x2 + 1)), vL x3, vJ, vI x5], []) (px_sh L, i, (px_up l 111 x2 x3), r, t) else (px_C d 38 [vR 19, vI x5] (px_sh L, i, l, r, t)).bind (fun q => px_X (d + 1) 75 (px_psh (46, [vR 110, vR k1, vI x2, vL x3, vJ, vI x5], [vI x2]) q.1) q.2) := ((xs_ild k75_24 rfl).trans ((xs_aldn k75_26 rfl).trans ((xs_get4 k75_27 (px_s110 L) (Nat.le_of_ble_eq_true rfl) (px_r110_0 hr)).trans ((xs_get0 k75_30 (px_s19 L) (Nat.le_of_ble_eq_true rfl)).trans ((xs_jge k75_33).trans (px_ite (fun c1 => ((xs_aldn k75_67 rfl).trans ((xs_get4 k75_68 (px_s110 L) (Nat.le_of_ble_eq_true rfl) (px_r110_2 hr)).trans ((xs_ildn k75_71 rfl).trans ((xs_lldn k75_72 rfl).trans ((xs_last k75_73 (px_s111 L) (h1 c1) (Nat.le_of_ble_eq_true rfl)).trans ((xs_iinc k75_74 rfl (by omega) (ls' := [vR 110, vR k1, vI (px_w32 (x2 + 1)), vL x3, vJ, vI x5]) rfl).trans (xs_goto k75_77)))))))) (fun c1 => ((xs_ildn k75_36 rfl).trans ((xs_aldn k75_37 rfl).trans ((xs_get4 k75_38 (px_s110 L) (Nat.le_of_ble_eq_true rfl) (px_r110_0 hr)).trans ((xs_ild k75_41 rfl).trans (xs_callvB k75_43 (as := [vI x5]) rfl rfl (Nat.le_of_ble_eq_true rfl) (Nat.le_of_ble_eq_true rfl) (Nat.le_of_ble_eq_true rfl) (px_s19 L) (Nat.le_of_ble_eq_true rfl)))))))))))))
theorem b75_46 (hr : px_hr r) (d : Nat) (i l : MI) {k1 : Nat} (hg1 : px_gs k1) (x2 : Int) (x3 : Int) (x5 : Int) (xs0 : Int) (xs1 : Int) : px_X d 75 (46, [vR 110, vR k1, vI x2, vL x3, vJ, vI x5], [vI xs0, vI xs1]) (px_sh L, i, l, r, t) = if (px_w32 (xs0 + (i k1 6))) < xs1 then px_X d 75 (24, [vR 110, vR k1, vI x2, vL x3, vJ, vI (px_w32 (x5 + 1))], []) (px_sh L, i, l, r, t) else px_X d 75 (24, [vR 110, vR k1, vI x2, vL (px_lor x3 (px_lshl 1 x5)), vJ, vI (px_w32 (x5 + 1))], []) (px_sh L, i, l, r, t) := ((xs_aldn k75_46 rfl).trans ((xs_get0 k75_47 (px_gs_sh hg1) (px_gs_3 hg1)).trans ((xs_iadd k75_50).trans ((xs_jgt k75_51).trans (px_ite (fun c1 => ((xs_iinc k75_61 rfl (by omega) (ls' := [vR 110, vR k1, vI x2, vL x3, vJ, vI (px_w32 (x5 + 1))]) rfl).trans (xs_goto k75_64))) (fun c1 => ((xs_lldn k75_54 rfl).trans ((xs_lc1 k75_55).trans ((xs_ild k75_56 rfl).trans ((xs_lshl k75_58).trans ((xs_lor k75_59).trans ((xs_lstn k75_60 (Nat.le_of_ble_eq_true rfl) (ls' := [vR 110, vR k1, vI x2, vL (px_lor x3 (px_lshl 1 x5)), vJ, vI x5]) rfl).trans ((xs_iinc k75_61 rfl (by omega) (ls' := [vR 110, vR k1, vI x2, vL (px_lor x3 (px_lshl 1 x5)), vJ, vI (px_w32 (x5 + 1))]) rfl).trans (xs_goto k75_64))))))))))))))
-- Leaving.footingAt ('R110', 'I')
theorem b76_0 (hr : px_hr r) (d : Nat) (i l : MI) (x1 : Int) : px_X (d + 1) 76 (0, [vR 110, vI x1, vJ], []) (px_sh L, i, l, r, t) = (px_C d 31 [vI x1] (px_sh L, i, l, r, t)).bind (fun q => px_X (d + 1) 76 (px_psh (4, [vR 110, vI x1, vJ], []) q.1) q.2) := ((xs_ildn k76_0 rfl).trans (xs_callsB k76_1 (as := [vI x1]) rfl rfl (Nat.le_of_ble_eq_true rfl) (Nat.le_of_ble_eq_true rfl) (Nat.le_of_ble_eq_true rfl)))
theorem b76_4 (hr : px_hr r) (d : Nat) (i l : MI) (x1 : Int) (xs0 : Int) : px_X (d + 1) 76 (4, [vR 110, vI x1, vJ], [vI xs0]) (px_sh L, i, l, r, t) = if xs0 = 0 then some (some (vL 0), (px_sh L, i, l, r, t)) else (px_C d 65 [vR 68, vI x1] (px_sh L, i, l, r, t)).bind (fun q => px_X (d + 1) 76 (px_psh (17, [vR 110, vI x1, vJ], []) q.1) q.2) := ((xs_ine k76_4).trans (px_ite (fun c1 => ((xs_lc0 k76_7).trans (xs_rl k76_8 rfl))) (fun c1 => ((xs_aldn k76_9 rfl).trans ((xs_get4 k76_10 (px_s110 L) (Nat.le_of_ble_eq_true rfl) (px_r110_1 hr)).trans ((xs_ildn k76_13 rfl).trans (xs_callvB k76_14 (as := [vI x1]) rfl rfl (Nat.le_of_ble_eq_true rfl) (Nat.le_of_ble_eq_true rfl) (Nat.le_of_ble_eq_true rfl) (px_s68 L) (Nat.le_of_ble_eq_true rfl))))))))
theorem b76_17 (hr : px_hr r) (d : Nat) (i l : MI) (x1 : Int) (xs0 : Int) (h1 : (¬ (xs0 < 0)) → (¬ (130 ≤ xs0)) → 0 ≤ xs0 ∧ xs0 < 130) : px_X d 76 (17, [vR 110, vI x1, vJ], [vI xs0]) (px_sh L, i, l, r, t) = if xs0 < 0 then some (some (vL 0), (px_sh L, i, l, r, t)) else if 130 ≤ xs0 then some (some (vL 0), (px_sh L, i, l, r, t)) else some (some (vL (l 111 xs0)), (px_sh L, i, l, r, t)) := ((xs_istn k76_17 (Nat.le_of_ble_eq_true rfl) (ls' := [vR 110, vI x1, vI xs0]) rfl).trans ((xs_ildn k76_18 rfl).trans ((xs_ilt k76_19).trans (px_ite (fun c1 => ((xs_lc0 k76_40).trans (xs_rl k76_41 rfl))) (fun c1 => ((xs_ildn k76_22 rfl).trans ((xs_aldn k76_23 rfl).trans ((xs_get4 k76_24 (px_s110 L) (Nat.le_of_ble_eq_true rfl) (px_r110_2 hr)).trans ((xs_aln k76_27 (px_s111 L)).trans ((xs_jge k76_28).trans (px_ite (fun c2 => ((xs_lc0 k76_40).trans (xs_rl k76_41 rfl))) (fun c2 => ((xs_aldn k76_31 rfl).trans ((xs_get4 k76_32 (px_s110 L) (Nat.le_of_ble_eq_true rfl) (px_r110_2 hr)).trans ((xs_ildn k76_35 rfl).trans ((xs_lald k76_36 (px_s111 L) (h1 c1 c2)).trans ((xs_goto k76_37).trans (xs_rl k76_41 rfl))))))))))))))))))
-- Leaving.stepsFrom ('R110', 'I')
theorem b77_0 (hr : px_hr r) (d : Nat) (i l : MI) (x1 : Int) : px_X d 77 (0, [vR 110, vI x1, vJ, vJ, vJ], []) (px_sh L, i, l, r, t) = px_X d 77 (20, [vR 110, vI x1, vL (px_lshl 1 (i 19 8)), vJ, vI 0], []) (px_sh L, i, (px_up l 112 0 (px_lshl 1 (i 19 8))), r, t) := ((xs_lc1 k77_0).trans ((xs_aldn k77_1 rfl).trans ((xs_get4 k77_2 (px_s110 L) (Nat.le_of_ble_eq_true rfl) (px_r110_0 hr)).trans ((xs_get0 k77_5 (px_s19 L) (Nat.le_of_ble_eq_true rfl)).trans ((xs_lshl k77_8).trans ((xs_lstn k77_9 (Nat.le_of_ble_eq_true rfl) (ls' := [vR 110, vI x1, vL (px_lshl 1 (i 19 8)), vJ, vJ]) rfl).trans ((xs_aldn k77_10 rfl).trans ((xs_get4 k77_11 (px_s110 L) (Nat.le_of_ble_eq_true rfl) (px_r110_3 hr)).trans ((xs_ic k77_14 (by omega)).trans ((xs_lldn k77_15 rfl).trans ((xs_last k77_16 (px_s112 L) (by omega) (Nat.le_of_ble_eq_true rfl)).trans ((xs_ic k77_17 (by omega)).trans (xs_ist k77_18 (Nat.le_of_ble_eq_true rfl) (ls' := [vR 110, vI x1, vL (px_lshl 1 (i 19 8)), vJ, vI 0]) rfl)))))))))))))
theorem b77_20 (hr : px_hr r) (d : Nat) (i l : MI) (x1 : Int) (x2 : Int) (x4 : Int) : px_X (d + 1) 77 (20, [vR 110, vI x1, vL x2, vJ, vI x4], []) (px_sh L, i, l, r, t) = if 37 ≤ x4 then some (some (vI (-1)), (px_sh L, i, l, r, t)) else if (i 19 2) < x4 then some (some (vI (-1)), (px_sh L, i, l, r, t)) else if (px_cmp x2 0) = 0 then some (some (vI (-1)), (px_sh L, i, l, r, t)) else if x4 ≤ 0 then px_X (d + 1) 77 (84, [vR 110, vI x1, vL x2, vJ, vI x4], []) (px_sh L, i, l, r, t) else (px_C d 42 [vR 19, vL x2] (px_sh L, i, l, r, t)).bind (fun q => px_X (d + 1) 77 (px_psh (61, [vR 110, vI x1, vL x2, vJ, vI x4], []) q.1) q.2) := ((xs_ild k77_20 rfl).trans ((xs_aldn k77_22 rfl).trans ((xs_get4 k77_23 (px_s110 L) (Nat.le_of_ble_eq_true rfl) (px_r110_3 hr)).trans ((xs_aln k77_26 (px_s112 L)).trans ((xs_jge k77_27).trans (px_ite (fun c1 => ((xs_ic k77_107 (by omega)).trans (xs_ri k77_108 rfl))) (fun c1 => ((xs_ild k77_30 rfl).trans ((xs_aldn k77_32 rfl).trans ((xs_get4 k77_33 (px_s110 L) (Nat.le_of_ble_eq_true rfl) (px_r110_0 hr)).trans ((xs_get0 k77_36 (px_s19 L) (Nat.le_of_ble_eq_true rfl)).trans ((xs_jgt k77_39).trans (px_ite (fun c2 => ((xs_ic k77_107 (by omega)).trans (xs_ri k77_108 rfl))) (fun c2 => ((xs_lldn k77_42 rfl).trans ((xs_lc0 k77_43).trans ((xs_lcmp k77_44).trans ((xs_ieq k77_45).trans (px_ite (fun c3 => ((xs_ic k77_107 (by omega)).trans (xs_ri k77_108 rfl))) (fun c3 => ((xs_ild k77_48 rfl).trans ((xs_ile k77_50).trans (px_ite (fun c4 => rfl) (fun c4 => ((xs_aldn k77_53 rfl).trans ((xs_get4 k77_54 (px_s110 L) (Nat.le_of_ble_eq_true rfl) (px_r110_0 hr)).trans ((xs_lldn k77_57 rfl).trans (xs_callvB k77_58 (as := [vL x2]) rfl rfl (Nat.le_of_ble_eq_true rfl) (Nat.le_of_ble_eq_true rfl) (Nat.le_of_ble_eq_true rfl) (px_s19 L) (Nat.le_of_ble_eq_true rfl)))))))))))))))))))))))))))))
theorem b77_61 (hr : px_hr r) (d : Nat) (i l : MI) (x1 : Int) (x2 : Int) (x4 : Int) (xs0 : Int) : px_X (d + 1) 77 (61, [vR 110, vI x1, vL x2, vJ, vI x4], [vL xs0]) (px_sh L, i, l, r, t) = (px_C d 76 [vR 110, vI (px_w32 (x1 + (px_w32 (x4 * (i 110 7)))))] (px_sh L, i, l, r, t)).bind (fun q => px_X (d + 1) 77 (px_psh (74, [vR 110, vI x1, vL x2, vJ, vI x4], [vL xs0]) q.1) q.2) := ((xs_aldn k77_61 rfl).trans ((xs_ildn k77_62 rfl).trans ((xs_ild k77_63 rfl).trans ((xs_aldn k77_65 rfl).trans ((xs_get0 k77_66 (px_s110 L) (Nat.le_of_ble_eq_true rfl)).trans ((xs_imul k77_69).trans ((xs_iadd k77_70).trans (xs_callvB k77_71 (as := [vI (px_w32 (x1 + (px_w32 (x4 * (i 110 7)))))]) rfl rfl (Nat.le_of_ble_eq_true rfl) (Nat.le_of_ble_eq_true rfl) (Nat.le_of_ble_eq_true rfl) (px_s110 L) (Nat.le_of_ble_eq_true rfl)))))))))
theorem b77_74 (hr : px_hr r) (d : Nat) (i l : MI) (x1 : Int) (x2 : Int) (x4 : Int) (xs0 : Int) (xs1 : Int) (h1 : 0 ≤ x4 ∧ x4 < 37) : px_X d 77 (74, [vR 110, vI x1, vL x2, vJ, vI x4], [vL xs0, vL xs1]) (px_sh L, i, l, r, t) = px_X d 77 (84, [vR 110, vI x1, vL (px_land xs1 xs0), vJ, vI x4], []) (px_sh L, i, (px_up l 112 x4 (px_land xs1 xs0)), r, t) := ((xs_land k77_74).trans ((xs_lstn k77_75 (Nat.le_of_ble_eq_true rfl) (ls' := [vR 110, vI x1, vL (px_land xs1 xs0), vJ, vI x4]) rfl).trans ((xs_aldn k77_76 rfl).trans ((xs_get4 k77_77 (px_s110 L) (Nat.le_of_ble_eq_true rfl) (px_r110_3 hr)).trans ((xs_ild k77_80 rfl).trans ((xs_lldn k77_82 rfl).trans (xs_last k77_83 (px_s112 L) (h1) (Nat.le_of_ble_eq_true rfl))))))))
theorem b77_84 (hr : px_hr r) (d : Nat) (i l : MI) (x1 : Int) (x2 : Int) (x4 : Int) : px_X d 77 (84, [vR 110, vI x1, vL x2, vJ, vI x4], []) (px_sh L, i, l, r, t) = if (px_cmp (px_land x2 (l 19 7)) 0) = 0 then px_X d 77 (20, [vR 110, vI x1, vL x2, vJ, vI (px_w32 (x4 + 1))], []) (px_sh L, i, l, r, t) else some (some (vI x4), (px_sh L, i, l, r, t)) := ((xs_lldn k77_84 rfl).trans ((xs_aldn k77_85 rfl).trans ((xs_get4 k77_86 (px_s110 L) (Nat.le_of_ble_eq_true rfl) (px_r110_0 hr)).trans ((xs_get3 k77_89 (px_s19 L) (Nat.le_of_ble_eq_true rfl)).trans ((xs_land k77_92).trans ((xs_lc0 k77_93).trans ((xs_lcmp k77_94).trans ((xs_ieq k77_95).trans (px_ite (fun c1 => ((xs_iinc k77_101 rfl (by omega) (ls' := [vR 110, vI x1, vL x2, vJ, vI (px_w32 (x4 + 1))]) rfl).trans (xs_goto k77_104))) (fun c1 => ((xs_ild k77_98 rfl).trans (xs_ri k77_100 rfl))))))))))))
-- Leaving.stepOf ('R110', 'I', 'I')
theorem b78_0 (hr : px_hr r) (d : Nat) (i l : MI) (x1 : Int) (x2 : Int) (h1 : (¬ (x2 < 0)) → (¬ (x1 ≤ x2)) → (x1 < 37) → 0 ≤ x1 ∧ x1 < 37) : px_X d 78 (0, [vR 110, vI x1, vI x2, vJ, vJ, vJ], []) (px_sh L, i, l, r, t) = if x2 < 0 then some (some (vI (-1)), (px_sh L, i, l, r, t)) else if x1 ≤ x2 then some (some (vI (-1)), (px_sh L, i, l, r, t)) else if x1 < 37 then px_X d 78 (44, [vR 110, vI x1, vI x2, vI (px_w32 (x1 - 1)), vJ, vJ], []) (px_sh L, i, (px_up l 112 x1 (px_land (l 112 x1) (l 19 7))), r, t) else some (some (vI (-1)), (px_sh L, i, l, r, t)) := ((xs_ildn k78_0 rfl).trans ((xs_ilt k78_1).trans (px_ite (fun c1 => ((xs_ic k78_18 (by omega)).trans (xs_ri k78_19 rfl))) (fun c1 => ((xs_ildn k78_4 rfl).trans ((xs_ildn k78_5 rfl).trans ((xs_jge k78_6).trans (px_ite (fun c2 => ((xs_ic k78_18 (by omega)).trans (xs_ri k78_19 rfl))) (fun c2 => ((xs_ildn k78_9 rfl).trans ((xs_aldn k78_10 rfl).trans ((xs_get4 k78_11 (px_s110 L) (Nat.le_of_ble_eq_true rfl) (px_r110_3 hr)).trans ((xs_aln k78_14 (px_s112 L)).trans ((xs_jlt k78_15).trans (px_ite (fun c3 => ((xs_aldn k78_20 rfl).trans ((xs_get4 k78_21 (px_s110 L) (Nat.le_of_ble_eq_true rfl) (px_r110_3 hr)).trans ((xs_ildn k78_24 rfl).trans ((xs_aldn k78_25 rfl).trans ((xs_get4 k78_26 (px_s110 L) (Nat.le_of_ble_eq_true rfl) (px_r110_3 hr)).trans ((xs_ildn k78_29 rfl).trans ((xs_lald k78_30 (px_s112 L) (h1 c1 c2 c3)).trans ((xs_aldn k78_31 rfl).trans ((xs_get4 k78_32 (px_s110 L) (Nat.le_of_ble_eq_true rfl) (px_r110_0 hr)).trans ((xs_get3 k78_35 (px_s19 L) (Nat.le_of_ble_eq_true rfl)).trans ((xs_land k78_38).trans ((xs_last k78_39 (px_s112 L) (h1 c1 c2 c3) (Nat.le_of_ble_eq_true rfl)).trans ((xs_ildn k78_40 rfl).trans ((xs_ic k78_41 (by omega)).trans ((xs_isub k78_42).trans (xs_istn k78_43 (Nat.le_of_ble_eq_true rfl) (ls' := [vR 110, vI x1, vI x2, vI (px_w32 (x1 - 1)), vJ, vJ]) rfl))))))))))))))))) (fun c3 => ((xs_ic k78_18 (by omega)).trans (xs_ri k78_19 rfl))))))))))))))))))
theorem b78_44 (hr : px_hr r) (d : Nat) (i l : MI) (x1 : Int) (x2 : Int) (x3 : Int) (h1 : (¬ (x3 < 0)) → 0 ≤ x3 ∧ x3 < 37) (h2 : (¬ (x3 < 0)) → 0 ≤ (px_w32 (x3 + 1)) ∧ (px_w32 (x3 + 1)) < 37) : px_X (d + 1) 78 (44, [vR 110, vI x1, vI x2, vI x3, vJ, vJ], []) (px_sh L, i, l, r, t) = if x3 < 0 then px_X (d + 1) 78 (92, [vR 110, vI x1, vI x2, vL (l 112 0), vJ, vI 1], []) (px_sh L, i, l, r, t) else (px_C d 42 [vR 19, vL (l 112 (px_w32 (x3 + 1)))] (px_sh L, i, l, r, t)).bind (fun q => px_X (d + 1) 78 (px_psh (74, [vR 110, vI x1, vI x2, vI x3, vJ, vJ], [vL (l 112 x3), vI x3, vR 112]) q.1) q.2) := ((xs_ildn k78_44 rfl).trans ((xs_ilt k78_45).trans (px_ite (fun c1 => ((xs_aldn k78_82 rfl).trans ((xs_get4 k78_83 (px_s110 L) (Nat.le_of_ble_eq_true rfl) (px_r110_3 hr)).trans ((xs_ic k78_86 (by omega)).trans ((xs_lald k78_87 (px_s112 L) (by omega)).trans ((xs_lstn k78_88 (Nat.le_of_ble_eq_true rfl) (ls' := [vR 110, vI x1, vI x2, vL (l 112 0), vJ, vJ]) rfl).trans ((xs_ic k78_89 (by omega)).trans (xs_ist k78_90 (Nat.le_of_ble_eq_true rfl) (ls' := [vR 110, vI x1, vI x2, vL (l 112 0), vJ, vI 1]) rfl)))))))) (fun c1 => ((xs_aldn k78_48 rfl).trans ((xs_get4 k78_49 (px_s110 L) (Nat.le_of_ble_eq_true rfl) (px_r110_3 hr)).trans ((xs_ildn k78_52 rfl).trans ((xs_aldn k78_53 rfl).trans ((xs_get4 k78_54 (px_s110 L) (Nat.le_of_ble_eq_true rfl) (px_r110_3 hr)).trans ((xs_ildn k78_57 rfl).trans ((xs_lald k78_58 (px_s112 L) (h1 c1)).trans ((xs_aldn k78_59 rfl).trans ((xs_get4 k78_60 (px_s110 L) (Nat.le_of_ble_eq_true rfl) (px_r110_0 hr)).trans ((xs_aldn k78_63 rfl).trans ((xs_get4 k78_64 (px_s110 L) (Nat.le_of_ble_eq_true rfl) (px_r110_3 hr)).trans ((xs_ildn k78_67 rfl).trans ((xs_ic k78_68 (by omega)).trans ((xs_iadd k78_69).trans ((xs_lald k78_70 (px_s112 L) (h2 c1)).trans (xs_callvB k78_71 (as := [vL (l 112 (px_w32 (x3 + 1)))]) rfl rfl (Nat.le_of_ble_eq_true rfl) (Nat.le_of_ble_eq_true rfl) (Nat.le_of_ble_eq_true rfl) (px_s19 L) (Nat.le_of_ble_eq_true rfl)))))))))))))))))))))
theorem b78_74 (hr : px_hr r) (d : Nat) (i l : MI) (x1 : Int) (x2 : Int) (x3 : Int) (xs0 : Int) (xs1 : Int) (xs2 : Int) (h1 : 0 ≤ xs2 ∧ xs2 < 37) : px_X d 78 (74, [vR 110, vI x1, vI x2, vI x3, vJ, vJ], [vL xs0, vL xs1, vI xs2, vR 112]) (px_sh L, i, l, r, t) = px_X d 78 (44, [vR 110, vI x1, vI x2, vI (px_w32 (x3 + (-1))), vJ, vJ], []) (px_sh L, i, (px_up l 112 xs2 (px_land xs1 xs0)), r, t) := ((xs_land k78_74).trans ((xs_last k78_75 (px_s112 L) (h1) (Nat.le_of_ble_eq_true rfl)).trans ((xs_iinc k78_76 rfl (by omega) (ls' := [vR 110, vI x1, vI x2, vI (px_w32 (x3 + (-1))), vJ, vJ]) rfl).trans (xs_goto k78_79))))
theorem b78_92 (hr : px_hr r) (d : Nat) (i l : MI) (x1 : Int) (x2 : Int) (x3 : Int) (x5 : Int) : px_X (d + 1) 78 (92, [vR 110, vI x1, vI x2, vL x3, vJ, vI x5], []) (px_sh L, i, l, r, t) = if (px_w32 (x2 + 1)) < x5 then (px_C d 240 [vL x3] (px_sh L, i, l, r, t)).bind (fun q => px_X (d + 1) 78 (px_psh (130, [vR 110, vI x1, vI x2, vL x3, vJ, vI x5], []) q.1) q.2) else (px_C d 42 [vR 19, vL x3] (px_sh L, i, l, r, t)).bind (fun q => px_X (d + 1) 78 (px_psh (108, [vR 110, vI x1, vI x2, vL x3, vJ, vI x5], []) q.1) q.2) := ((xs_ild k78_92 rfl).trans ((xs_ildn k78_94 rfl).trans ((xs_ic k78_95 (by omega)).trans ((xs_iadd k78_96).trans ((xs_jgt k78_97).trans (px_ite (fun c1 => ((xs_lldn k78_126 rfl).trans (xs_callsB k78_127 (as := [vL x3]) rfl rfl (Nat.le_of_ble_eq_true rfl) (Nat.le_of_ble_eq_true rfl) (Nat.le_of_ble_eq_true rfl)))) (fun c1 => ((xs_aldn k78_100 rfl).trans ((xs_get4 k78_101 (px_s110 L) (Nat.le_of_ble_eq_true rfl) (px_r110_0 hr)).trans ((xs_lldn k78_104 rfl).trans (xs_callvB k78_105 (as := [vL x3]) rfl rfl (Nat.le_of_ble_eq_true rfl) (Nat.le_of_ble_eq_true rfl) (Nat.le_of_ble_eq_true rfl) (px_s19 L) (Nat.le_of_ble_eq_true rfl))))))))))))
theorem b78_108 (hr : px_hr r) (d : Nat) (i l : MI) (x1 : Int) (x2 : Int) (x3 : Int) (x5 : Int) (xs0 : Int) (h1 : 0 ≤ x5 ∧ x5 < 37) : px_X (d + 1) 78 (108, [vR 110, vI x1, vI x2, vL x3, vJ, vI x5], [vL xs0]) (px_sh L, i, l, r, t) = (px_C d 239 [vL (px_land xs0 (l 112 x5))] (px_sh L, i, l, r, t)).bind (fun q => px_X (d + 1) 78 (px_psh (119, [vR 110, vI x1, vI x2, vL x3, vJ, vI x5], []) q.1) q.2) := ((xs_aldn k78_108 rfl).trans ((xs_get4 k78_109 (px_s110 L) (Nat.le_of_ble_eq_true rfl) (px_r110_3 hr)).trans ((xs_ild k78_112 rfl).trans ((xs_lald k78_114 (px_s112 L) (h1)).trans ((xs_land k78_115).trans (xs_callsB k78_116 (as := [vL (px_land xs0 (l 112 x5))]) rfl rfl (Nat.le_of_ble_eq_true rfl) (Nat.le_of_ble_eq_true rfl) (Nat.le_of_ble_eq_true rfl)))))))
theorem b78_119 (hr : px_hr r) (d : Nat) (i l : MI) (x1 : Int) (x2 : Int) (x3 : Int) (x5 : Int) (xs0 : Int) : px_X d 78 (119, [vR 110, vI x1, vI x2, vL x3, vJ, vI x5], [vL xs0]) (px_sh L, i, l, r, t) = px_X d 78 (92, [vR 110, vI x1, vI x2, vL xs0, vJ, vI (px_w32 (x5 + 1))], []) (px_sh L, i, l, r, t) := ((xs_lstn k78_119 (Nat.le_of_ble_eq_true rfl) (ls' := [vR 110, vI x1, vI x2, vL xs0, vJ, vI x5]) rfl).trans ((xs_iinc k78_120 rfl (by omega) (ls' := [vR 110, vI x1, vI x2, vL xs0, vJ, vI (px_w32 (x5 + 1))]) rfl).trans (xs_goto k78_123)))
theorem b78_130 (hr : px_hr r) (d : Nat) (i l : MI) (x1 : Int) (x2 : Int) (x3 : Int) (x5 : Int) (xs0 : Int) : px_X d 78 (130, [vR 110, vI x1, vI x2, vL x3, vJ, vI x5], [vI xs0]) (px_sh L, i, l, r, t) = some (some (vI xs0), (px_sh L, i, l, r, t)) := (xs_ri k78_130 rfl)
-- Leaving.latestStart ('R110',)
theorem b79_0 (hr : px_hr r) (d : Nat) (i l : MI)  : px_X d 79 (0, [vR 110, vJ], []) (px_sh L, i, l, r, t) = px_X d 79 (4, [vR 110, vI 1439], []) (px_sh L, i, l, r, t) := ((xs_si k79_0 (by omega)).trans (xs_istn k79_3 (Nat.le_of_ble_eq_true rfl) (ls' := [vR 110, vI 1439]) rfl))
theorem b79_4 (hr : px_hr r) (d : Nat) (i l : MI) (x1 : Int) : px_X (d + 1) 79 (4, [vR 110, vI x1], []) (px_sh L, i, l, r, t) = if x1 < 0 then some (some (vI (-1)), (px_sh L, i, l, r, t)) else (px_C d 77 [vR 110, vI x1] (px_sh L, i, l, r, t)).bind (fun q => px_X (d + 1) 79 (px_psh (13, [vR 110, vI x1], []) q.1) q.2) := ((xs_ildn k79_4 rfl).trans ((xs_ilt k79_5).trans (px_ite (fun c1 => ((xs_ic k79_25 (by omega)).trans (xs_ri k79_26 rfl))) (fun c1 => ((xs_aldn k79_8 rfl).trans ((xs_ildn k79_9 rfl).trans (xs_callvB k79_10 (as := [vI x1]) rfl rfl (Nat.le_of_ble_eq_true rfl) (Nat.le_of_ble_eq_true rfl) (Nat.le_of_ble_eq_true rfl) (px_s110 L) (Nat.le_of_ble_eq_true rfl))))))))
theorem b79_13 (hr : px_hr r) (d : Nat) (i l : MI) (x1 : Int) (xs0 : Int) : px_X d 79 (13, [vR 110, vI x1], [vI xs0]) (px_sh L, i, l, r, t) = if xs0 = (-1) then px_X d 79 (4, [vR 110, vI (px_w32 (x1 + (-1)))], []) (px_sh L, i, l, r, t) else some (some (vI x1), (px_sh L, i, l, r, t)) := ((xs_ic k79_13 (by omega)).trans ((xs_jeq k79_14).trans (px_ite (fun c1 => ((xs_iinc k79_19 rfl (by omega) (ls' := [vR 110, vI (px_w32 (x1 + (-1)))]) rfl).trans (xs_goto k79_22))) (fun c1 => ((xs_ildn k79_17 rfl).trans (xs_ri k79_18 rfl))))))
-- Leaving.thousandthsSafe ('R110', 'I', 'I', 'I')
theorem b80_0 (hr : px_hr r) (d : Nat) (i l : MI) (x1 : Int) (x2 : Int) (x3 : Int) : px_X (d + 1) 80 (0, [vR 110, vI x1, vI x2, vI x3, vJ, vJ, vJ, vJ, vJ, vJ, vJ], []) (px_sh L, i, l, r, t) = if (px_cmp (l 19 7) 0) = 0 then some (some (vI 0), (px_sh L, i, l, r, t)) else if (i 19 8) < 0 then some (some (vI 0), (px_sh L, i, l, r, t)) else if (i 19 8) < 36 then (px_C d 81 [vR 110] (px_sh L, i, l, r, t)).bind (fun q => px_X (d + 1) 80 (px_psh (42, [vR 110, vI x1, vI x2, vI x3, vI (i 19 8), vJ, vJ, vJ, vJ, vJ, vJ], []) q.1) q.2) else some (some (vI 0), (px_sh L, i, l, r, t)) := ((xs_aldn k80_0 rfl).trans ((xs_get4 k80_1 (px_s110 L) (Nat.le_of_ble_eq_true rfl) (px_r110_0 hr)).trans ((xs_get0 k80_4 (px_s19 L) (Nat.le_of_ble_eq_true rfl)).trans ((xs_ist k80_7 (Nat.le_of_ble_eq_true rfl) (ls' := [vR 110, vI x1, vI x2, vI x3, vI (i 19 8), vJ, vJ, vJ, vJ, vJ, vJ]) rfl).trans ((xs_aldn k80_9 rfl).trans ((xs_get4 k80_10 (px_s110 L) (Nat.le_of_ble_eq_true rfl) (px_r110_0 hr)).trans ((xs_get3 k80_13 (px_s19 L) (Nat.le_of_ble_eq_true rfl)).trans ((xs_lc0 k80_16).trans ((xs_lcmp k80_17).trans ((xs_ieq k80_18).trans (px_ite (fun c1 => ((xs_ic k80_36 (by omega)).trans (xs_ri k80_37 rfl))) (fun c1 => ((xs_ild k80_21 rfl).trans ((xs_ilt k80_23).trans (px_ite (fun c2 => ((xs_ic k80_36 (by omega)).trans (xs_ri k80_37 rfl))) (fun c2 => ((xs_ild k80_26 rfl).trans ((xs_aldn k80_28 rfl).trans ((xs_get4 k80_29 (px_s110 L) (Nat.le_of_ble_eq_true rfl) (px_r110_5 hr)).trans ((xs_aln k80_32 (px_s114 L)).trans ((xs_jlt k80_33).trans (px_ite (fun c3 => ((xs_aldn k80_38 rfl).trans (xs_callvB k80_39 (as := []) rfl rfl (Nat.le_of_ble_eq_true rfl) (Nat.le_of_ble_eq_true rfl) (Nat.le_of_ble_eq_true rfl) (px_s110 L) (Nat.le_of_ble_eq_true rfl)))) (fun c3 => ((xs_ic k80_36 (by omega)).trans (xs_ri k80_37 rfl)))))))))))))))))))))))))
theorem b80_42 (hr : px_hr r) (d : Nat) (i l : MI) (x1 : Int) (x2 : Int) (x3 : Int) (x4 : Int) : px_X (d + 1) 80 (42, [vR 110, vI x1, vI x2, vI x3, vI x4, vJ, vJ, vJ, vJ, vJ, vJ], []) (px_sh L, i, l, r, t) = (px_C d 242 [vR 114, vL 0] (px_sh L, i, l, r, t)).bind (fun q => px_X (d + 1) 80 (px_psh (50, [vR 110, vI x1, vI x2, vI x3, vI x4, vJ, vJ, vJ, vJ, vJ, vJ], []) q.1) q.2) := ((xs_aldn k80_42 rfl).trans ((xs_get4 k80_43 (px_s110 L) (Nat.le_of_ble_eq_true rfl) (px_r110_5 hr)).trans ((xs_lc0 k80_46).trans (xs_callsB k80_47 (as := [vR 114, vL 0]) rfl rfl (Nat.le_of_ble_eq_true rfl) (Nat.le_of_ble_eq_true rfl) (Nat.le_of_ble_eq_true rfl)))))
theorem b80_50 (hr : px_hr r) (d : Nat) (i l : MI) (x1 : Int) (x2 : Int) (x3 : Int) (x4 : Int) (h1 : 0 ≤ x4 ∧ x4 < 36) : px_X d 80 (50, [vR 110, vI x1, vI x2, vI x3, vI x4, vJ, vJ, vJ, vJ, vJ, vJ], []) (px_sh L, i, l, r, t) = px_X d 80 (64, [vR 110, vI x1, vI x2, vI x3, vI x4, vL 1, vJ, vI 1, vJ, vJ, vJ], []) (px_sh L, i, (px_up l 114 x4 1), r, t) := ((xs_aldn k80_50 rfl).trans ((xs_get4 k80_51 (px_s110 L) (Nat.le_of_ble_eq_true rfl) (px_r110_5 hr)).trans ((xs_ild k80_54 rfl).trans ((xs_lc1 k80_56).trans ((xs_last k80_57 (px_s114 L) (h1) (Nat.le_of_ble_eq_true rfl)).trans ((xs_lc1 k80_58).trans ((xs_lst k80_59 (Nat.le_of_ble_eq_true rfl) (ls' := [vR 110, vI x1, vI x2, vI x3, vI x4, vL 1, vJ, vJ, vJ, vJ, vJ]) rfl).trans ((xs_ic k80_61 (by omega)).trans (xs_ist k80_62 (Nat.le_of_ble_eq_true rfl) (ls' := [vR 110, vI x1, vI x2, vI x3, vI x4, vL 1, vJ, vI 1, vJ, vJ, vJ]) rfl)))))))))
theorem b80_64 (hr : px_hr r) (d : Nat) (i l : MI) (x1 : Int) (x2 : Int) (x3 : Int) (x4 : Int) (x5 : Int) (x7 : Int) {v8 : PV} (hn8 : px_nl v8) {v10 : PV} (hn10 : px_nl v10) : px_X (d + 1) 80 (64, [vR 110, vI x1, vI x2, vI x3, vI x4, vL x5, vJ, vI x7, v8, vJ, v10], []) (px_sh L, i, l, r, t) = if x3 < x7 then px_X (d + 1) 80 (171, [vR 110, vI x1, vI x2, vI x3, vI x4, vL x5, vJ, vL 0, vJ, vI 0, v10], []) (px_sh L, i, l, r, t) else (px_C d 242 [vR 115, vL 0] (px_sh L, i, l, r, t)).bind (fun q => px_X (d + 1) 80 (px_psh (78, [vR 110, vI x1, vI x2, vI x3, vI x4, vL x5, vJ, vI x7, v8, vJ, v10], []) q.1) q.2) := ((xs_ild k80_64 rfl).trans ((xs_ildn k80_66 rfl).trans ((xs_jgt k80_67).trans (px_ite (fun c1 => ((xs_lc0 k80_165).trans ((xs_lst k80_166 (Nat.le_of_ble_eq_true rfl) (ls' := [vR 110, vI x1, vI x2, vI x3, vI x4, vL x5, vJ, vL 0, vJ, vJ, v10]) rfl).trans ((xs_ic k80_168 (by omega)).trans (xs_ist k80_169 (Nat.le_of_ble_eq_true rfl) (ls' := [vR 110, vI x1, vI x2, vI x3, vI x4, vL x5, vJ, vL 0, vJ, vI 0, v10]) rfl))))) (fun c1 => ((xs_aldn k80_70 rfl).trans ((xs_get4 k80_71 (px_s110 L) (Nat.le_of_ble_eq_true rfl) (px_r110_6 hr)).trans ((xs_lc0 k80_74).trans (xs_callsB k80_75 (as := [vR 115, vL 0]) rfl rfl (Nat.le_of_ble_eq_true rfl) (Nat.le_of_ble_eq_true rfl) (Nat.le_of_ble_eq_true rfl))))))))))
theorem b80_78 (hr : px_hr r) (d : Nat) (i l : MI) (x1 : Int) (x2 : Int) (x3 : Int) (x4 : Int) (x5 : Int) (x7 : Int) {v8 : PV} (hn8 : px_nl v8) {v10 : PV} (hn10 : px_nl v10) : px_X (d + 1) 80 (78, [vR 110, vI x1, vI x2, vI x3, vI x4, vL x5, vJ, vI x7, v8, vJ, v10], []) (px_sh L, i, l, r, t) = (px_C d 76 [vR 110, vI (px_w32 (x1 + (px_w32 (x7 * (i 110 7)))))] (px_sh L, i, l, r, t)).bind (fun q => px_X (d + 1) 80 (px_psh (91, [vR 110, vI x1, vI x2, vI x3, vI x4, vL x5, vJ, vI x7, v8, vJ, v10], []) q.1) q.2) := ((xs_aldn k80_78 rfl).trans ((xs_ildn k80_79 rfl).trans ((xs_ild k80_80 rfl).trans ((xs_aldn k80_82 rfl).trans ((xs_get0 k80_83 (px_s110 L) (Nat.le_of_ble_eq_true rfl)).trans ((xs_imul k80_86).trans ((xs_iadd k80_87).trans (xs_callvB k80_88 (as := [vI (px_w32 (x1 + (px_w32 (x7 * (i 110 7)))))]) rfl rfl (Nat.le_of_ble_eq_true rfl) (Nat.le_of_ble_eq_true rfl) (Nat.le_of_ble_eq_true rfl) (px_s110 L) (Nat.le_of_ble_eq_true rfl)))))))))
theorem b80_91 (hr : px_hr r) (d : Nat) (i l : MI) (x1 : Int) (x2 : Int) (x3 : Int) (x4 : Int) (x5 : Int) (x7 : Int) {v8 : PV} (hn8 : px_nl v8) {v10 : PV} (hn10 : px_nl v10) (xs0 : Int) : px_X d 80 (91, [vR 110, vI x1, vI x2, vI x3, vI x4, vL x5, vJ, vI x7, v8, vJ, v10], [vL xs0]) (px_sh L, i, l, r, t) = px_X d 80 (96, [vR 110, vI x1, vI x2, vI x3, vI x4, vL x5, vJ, vI x7, vL xs0, vJ, vI 0], []) (px_sh L, i, l, r, t) := ((xs_lst k80_91 (Nat.le_of_ble_eq_true rfl) (ls' := [vR 110, vI x1, vI x2, vI x3, vI x4, vL x5, vJ, vI x7, vL xs0, vJ, v10]) rfl).trans ((xs_ic k80_93 (by omega)).trans (xs_ist k80_94 (Nat.le_of_ble_eq_true rfl) (ls' := [vR 110, vI x1, vI x2, vI x3, vI x4, vL x5, vJ, vI x7, vL xs0, vJ, vI 0]) rfl)))
theorem b80_96 (hr : px_hr r) (d : Nat) (i l : MI) (x1 : Int) (x2 : Int) (x3 : Int) (x4 : Int) (x5 : Int) (x7 : Int) (x8 : Int) (x10 : Int) : px_X (d + 1) 80 (96, [vR 110, vI x1, vI x2, vI x3, vI x4, vL x5, vJ, vI x7, vL x8, vJ, vI x10], []) (px_sh L, i, l, r, t) = if (i 19 2) ≤ x10 then px_X (d + 1) 80 (133, [vR 110, vI x1, vI x2, vI x3, vI x4, vL x5, vJ, vI x7, vL x8, vJ, vI x10], []) (px_sh L, i, l, r, t) else if 36 ≤ x10 then px_X (d + 1) 80 (133, [vR 110, vI x1, vI x2, vI x3, vI x4, vL x5, vJ, vI x7, vL x8, vJ, vI x10], []) (px_sh L, i, l, r, t) else (px_C d 82 [vR 110, vI x10, vI x2, vL x8] (px_sh L, i, l, r, t)).bind (fun q => px_X (d + 1) 80 (px_psh (127, [vR 110, vI x1, vI x2, vI x3, vI x4, vL x5, vJ, vI x7, vL x8, vJ, vI x10], []) q.1) q.2) := ((xs_ild k80_96 rfl).trans ((xs_aldn k80_98 rfl).trans ((xs_get4 k80_99 (px_s110 L) (Nat.le_of_ble_eq_true rfl) (px_r110_0 hr)).trans ((xs_get0 k80_102 (px_s19 L) (Nat.le_of_ble_eq_true rfl)).trans ((xs_jge k80_105).trans (px_ite (fun c1 => rfl) (fun c1 => ((xs_ild k80_108 rfl).trans ((xs_aldn k80_110 rfl).trans ((xs_get4 k80_111 (px_s110 L) (Nat.le_of_ble_eq_true rfl) (px_r110_5 hr)).trans ((xs_aln k80_114 (px_s114 L)).trans ((xs_jge k80_115).trans (px_ite (fun c2 => rfl) (fun c2 => ((xs_aldn k80_118 rfl).trans ((xs_ild k80_119 rfl).trans ((xs_ildn k80_121 rfl).trans ((xs_lld k80_122 rfl).trans (xs_callvB k80_124 (as := [vI x10, vI x2, vL x8]) rfl rfl (Nat.le_of_ble_eq_true rfl) (Nat.le_of_ble_eq_true rfl) (Nat.le_of_ble_eq_true rfl) (px_s110 L) (Nat.le_of_ble_eq_true rfl))))))))))))))))))))
theorem b80_127 (hr : px_hr r) (d : Nat) (i l : MI) (x1 : Int) (x2 : Int) (x3 : Int) (x4 : Int) (x5 : Int) (x7 : Int) (x8 : Int) (x10 : Int) : px_X d 80 (127, [vR 110, vI x1, vI x2, vI x3, vI x4, vL x5, vJ, vI x7, vL x8, vJ, vI x10], []) (px_sh L, i, l, r, t) = px_X d 80 (96, [vR 110, vI x1, vI x2, vI x3, vI x4, vL x5, vJ, vI x7, vL x8, vJ, vI (px_w32 (x10 + 1))], []) (px_sh L, i, l, r, t) := ((xs_iinc k80_127 rfl (by omega) (ls' := [vR 110, vI x1, vI x2, vI x3, vI x4, vL x5, vJ, vI x7, vL x8, vJ, vI (px_w32 (x10 + 1))]) rfl).trans (xs_goto k80_130))
theorem b80_133 (hr : px_hr r) (d : Nat) (i l : MI) (x1 : Int) (x2 : Int) (x3 : Int) (x4 : Int) (x5 : Int) (x7 : Int) (x8 : Int) (x10 : Int) : px_X d 80 (133, [vR 110, vI x1, vI x2, vI x3, vI x4, vL x5, vJ, vI x7, vL x8, vJ, vI x10], []) (px_sh L, i, l, r, t) = px_X d 80 (64, [vR 110, vI x1, vI x2, vI x3, vI x4, vL (px_w64 (x5 * 12)), vJ, vI (px_w32 (x7 + 1)), vL x8, vJ, vI x10], []) (px_sh L, i, (px_un l 114 (fun j => if 0 ≤ j ∧ j < 0 + 36 then l 115 (0 + (j - 0)) else l 114 j)), r, t) := ((xs_aldn k80_133 rfl).trans ((xs_get4 k80_134 (px_s110 L) (Nat.le_of_ble_eq_true rfl) (px_r110_6 hr)).trans ((xs_ic k80_137 (by omega)).trans ((xs_aldn k80_138 rfl).trans ((xs_get4 k80_139 (px_s110 L) (Nat.le_of_ble_eq_true rfl) (px_r110_5 hr)).trans ((xs_ic k80_142 (by omega)).trans ((xs_aldn k80_143 rfl).trans ((xs_get4 k80_144 (px_s110 L) (Nat.le_of_ble_eq_true rfl) (px_r110_5 hr)).trans ((xs_aln k80_147 (px_s114 L)).trans ((xs_acpl k80_148 (px_s114 L) (px_s115 L) (by omega) (Nat.le_of_ble_eq_true rfl) (Nat.le_of_ble_eq_true rfl) (Nat.le_of_ble_eq_true rfl)).trans ((xs_lld k80_151 rfl).trans ((xs_ldc2 k80_153).trans ((xs_lmul k80_156).trans ((xs_lst k80_157 (Nat.le_of_ble_eq_true rfl) (ls' := [vR 110, vI x1, vI x2, vI x3, vI x4, vL (px_w64 (x5 * 12)), vJ, vI x7, vL x8, vJ, vI x10]) rfl).trans ((xs_iinc k80_159 rfl (by omega) (ls' := [vR 110, vI x1, vI x2, vI x3, vI x4, vL (px_w64 (x5 * 12)), vJ, vI (px_w32 (x7 + 1)), vL x8, vJ, vI x10]) rfl).trans (xs_goto k80_162))))))))))))))))
theorem b80_171 (hr : px_hr r) (d : Nat) (i l : MI) (x1 : Int) (x2 : Int) (x3 : Int) (x4 : Int) (x5 : Int) (x7 : Int) (x9 : Int) {v10 : PV} (hn10 : px_nl v10) : px_X (d + 1) 80 (171, [vR 110, vI x1, vI x2, vI x3, vI x4, vL x5, vJ, vL x7, vJ, vI x9, v10], []) (px_sh L, i, l, r, t) = if (i 19 2) ≤ x9 then px_X (d + 1) 80 (227, [vR 110, vI x1, vI x2, vI x3, vI x4, vL x5, vJ, vL x7, vJ, vI x9, v10], []) (px_sh L, i, l, r, t) else if 36 ≤ x9 then px_X (d + 1) 80 (227, [vR 110, vI x1, vI x2, vI x3, vI x4, vL x5, vJ, vL x7, vJ, vI x9, v10], []) (px_sh L, i, l, r, t) else (px_C d 39 [vR 19, vI x9] (px_sh L, i, l, r, t)).bind (fun q => px_X (d + 1) 80 (px_psh (204, [vR 110, vI x1, vI x2, vI x3, vI x4, vL x5, vJ, vL x7, vJ, vI x9, v10], [vL x7]) q.1) q.2) := ((xs_ild k80_171 rfl).trans ((xs_aldn k80_173 rfl).trans ((xs_get4 k80_174 (px_s110 L) (Nat.le_of_ble_eq_true rfl) (px_r110_0 hr)).trans ((xs_get0 k80_177 (px_s19 L) (Nat.le_of_ble_eq_true rfl)).trans ((xs_jge k80_180).trans (px_ite (fun c1 => rfl) (fun c1 => ((xs_ild k80_183 rfl).trans ((xs_aldn k80_185 rfl).trans ((xs_get4 k80_186 (px_s110 L) (Nat.le_of_ble_eq_true rfl) (px_r110_5 hr)).trans ((xs_aln k80_189 (px_s114 L)).trans ((xs_jge k80_190).trans (px_ite (fun c2 => rfl) (fun c2 => ((xs_lld k80_193 rfl).trans ((xs_aldn k80_195 rfl).trans ((xs_get4 k80_196 (px_s110 L) (Nat.le_of_ble_eq_true rfl) (px_r110_0 hr)).trans ((xs_ild k80_199 rfl).trans (xs_callvB k80_201 (as := [vI x9]) rfl rfl (Nat.le_of_ble_eq_true rfl) (Nat.le_of_ble_eq_true rfl) (Nat.le_of_ble_eq_true rfl) (px_s19 L) (Nat.le_of_ble_eq_true rfl))))))))))))))))))))
theorem b80_204 (hr : px_hr r) (d : Nat) (i l : MI) (x1 : Int) (x2 : Int) (x3 : Int) (x4 : Int) (x5 : Int) (x7 : Int) (x9 : Int) {v10 : PV} (hn10 : px_nl v10) (xs0 : Int) (xs1 : Int) (h1 : (¬ (xs0 = 0)) → 0 ≤ x9 ∧ x9 < 36) : px_X d 80 (204, [vR 110, vI x1, vI x2, vI x3, vI x4, vL x5, vJ, vL x7, vJ, vI x9, v10], [vI xs0, vL xs1]) (px_sh L, i, l, r, t) = if xs0 = 0 then px_X d 80 (171, [vR 110, vI x1, vI x2, vI x3, vI x4, vL x5, vJ, vL (px_w64 (xs1 + 0)), vJ, vI (px_w32 (x9 + 1)), v10], []) (px_sh L, i, l, r, t) else px_X d 80 (171, [vR 110, vI x1, vI x2, vI x3, vI x4, vL x5, vJ, vL (px_w64 (xs1 + (l 114 x9))), vJ, vI (px_w32 (x9 + 1)), v10], []) (px_sh L, i, l, r, t) := ((xs_ieq k80_204).trans (px_ite (fun c1 => ((xs_lc0 k80_217).trans ((xs_ladd k80_218).trans ((xs_lst k80_219 (Nat.le_of_ble_eq_true rfl) (ls' := [vR 110, vI x1, vI x2, vI x3, vI x4, vL x5, vJ, vL (px_w64 (xs1 + 0)), vJ, vI x9, v10]) rfl).trans ((xs_iinc k80_221 rfl (by omega) (ls' := [vR 110, vI x1, vI x2, vI x3, vI x4, vL x5, vJ, vL (px_w64 (xs1 + 0)), vJ, vI (px_w32 (x9 + 1)), v10]) rfl).trans (xs_goto k80_224)))))) (fun c1 => ((xs_aldn k80_207 rfl).trans ((xs_get4 k80_208 (px_s110 L) (Nat.le_of_ble_eq_true rfl) (px_r110_5 hr)).trans ((xs_ild k80_211 rfl).trans ((xs_lald k80_213 (px_s114 L) (h1 c1)).trans ((xs_goto k80_214).trans ((xs_ladd k80_218).trans ((xs_lst k80_219 (Nat.le_of_ble_eq_true rfl) (ls' := [vR 110, vI x1, vI x2, vI x3, vI x4, vL x5, vJ, vL (px_w64 (xs1 + (l 114 x9))), vJ, vI x9, v10]) rfl).trans ((xs_iinc k80_221 rfl (by omega) (ls' := [vR 110, vI x1, vI x2, vI x3, vI x4, vL x5, vJ, vL (px_w64 (xs1 + (l 114 x9))), vJ, vI (px_w32 (x9 + 1)), v10]) rfl).trans (xs_goto k80_224))))))))))))
theorem b80_227 (hr : px_hr r) (d : Nat) (i l : MI) (x1 : Int) (x2 : Int) (x3 : Int) (x4 : Int) (x5 : Int) (x7 : Int) (x9 : Int) {v10 : PV} (hn10 : px_nl v10) (h1 : (¬ ((px_cmp x5 0) ≤ 0)) → ¬ x5 = 0) : px_X d 80 (227, [vR 110, vI x1, vI x2, vI x3, vI x4, vL x5, vJ, vL x7, vJ, vI x9, v10], []) (px_sh L, i, l, r, t) = if (px_cmp x5 0) ≤ 0 then some (some (vI 0), (px_sh L, i, l, r, t)) else some (some (vI (px_w32 (px_w64 (Int.tdiv (px_w64 (x7 * 1000)) x5)))), (px_sh L, i, l, r, t)) := ((xs_lld k80_227 rfl).trans ((xs_lc0 k80_229).trans ((xs_lcmp k80_230).trans ((xs_ile k80_231).trans (px_ite (fun c1 => ((xs_ic k80_247 (by omega)).trans (xs_ri k80_248 rfl))) (fun c1 => ((xs_lld k80_234 rfl).trans ((xs_ldc2 k80_236).trans ((xs_lmul k80_239).trans ((xs_lld k80_240 rfl).trans ((xs_ldiv k80_242 (h1 c1)).trans ((xs_l2i k80_243).trans ((xs_goto k80_244).trans (xs_ri k80_248 rfl))))))))))))))
-- Leaving.measure ('R110',)
theorem b81_0 (hr : px_hr r) (d : Nat) (i l : MI)  : px_X (d + 1) 81 (0, [vR 110, vJ, vJ, vJ, vJ, vJ, vJ], []) (px_sh L, i, l, r, t) = (px_C d 241 [vR 113, vI 0] (px_sh L, i, l, r, t)).bind (fun q => px_X (d + 1) 81 (px_psh (18, [vR 110, vL (l 19 7), vJ, vL (l 19 7), vJ, vJ, vJ], []) q.1) q.2) := ((xs_aldn k81_0 rfl).trans ((xs_get4 k81_1 (px_s110 L) (Nat.le_of_ble_eq_true rfl) (px_r110_0 hr)).trans ((xs_get3 k81_4 (px_s19 L) (Nat.le_of_ble_eq_true rfl)).trans ((xs_lstn k81_7 (Nat.le_of_ble_eq_true rfl) (ls' := [vR 110, vL (l 19 7), vJ, vJ, vJ, vJ, vJ]) rfl).trans ((xs_lldn k81_8 rfl).trans ((xs_lstn k81_9 (Nat.le_of_ble_eq_true rfl) (ls' := [vR 110, vL (l 19 7), vJ, vL (l 19 7), vJ, vJ, vJ]) rfl).trans ((xs_aldn k81_10 rfl).trans ((xs_get4 k81_11 (px_s110 L) (Nat.le_of_ble_eq_true rfl) (px_r110_4 hr)).trans ((xs_ic k81_14 (by omega)).trans (xs_callsB k81_15 (as := [vR 113, vI 0]) rfl rfl (Nat.le_of_ble_eq_true rfl) (Nat.le_of_ble_eq_true rfl) (Nat.le_of_ble_eq_true rfl)))))))))))
theorem b81_18 (hr : px_hr r) (d : Nat) (i l : MI) (x1 : Int) (x3 : Int) : px_X d 81 (18, [vR 110, vL x1, vJ, vL x3, vJ, vJ, vJ], []) (px_sh L, i, l, r, t) = px_X d 81 (21, [vR 110, vL x1, vJ, vL x3, vJ, vI 1, vJ], []) (px_sh L, i, l, r, t) := ((xs_ic k81_18 (by omega)).trans (xs_ist k81_19 (Nat.le_of_ble_eq_true rfl) (ls' := [vR 110, vL x1, vJ, vL x3, vJ, vI 1, vJ]) rfl))
theorem b81_21 (hr : px_hr r) (d : Nat) (i l : MI) (x1 : Int) (x3 : Int) (x5 : Int) {v6 : PV} (hn6 : px_nl v6) : px_X (d + 1) 81 (21, [vR 110, vL x1, vJ, vL x3, vJ, vI x5, v6], []) (px_sh L, i, l, r, t) = if (i 19 2) < x5 then some (none, (px_sh L, i, l, r, t)) else if (px_cmp x3 0) = 0 then some (none, (px_sh L, i, l, r, t)) else (px_C d 42 [vR 19, vL x3] (px_sh L, i, l, r, t)).bind (fun q => px_X (d + 1) 81 (px_psh (47, [vR 110, vL x1, vJ, vL x3, vJ, vI x5, v6], []) q.1) q.2) := ((xs_ild k81_21 rfl).trans ((xs_aldn k81_23 rfl).trans ((xs_get4 k81_24 (px_s110 L) (Nat.le_of_ble_eq_true rfl) (px_r110_0 hr)).trans ((xs_get0 k81_27 (px_s19 L) (Nat.le_of_ble_eq_true rfl)).trans ((xs_jgt k81_30).trans (px_ite (fun c1 => (xs_rv k81_107 rfl)) (fun c1 => ((xs_lldn k81_33 rfl).trans ((xs_lc0 k81_34).trans ((xs_lcmp k81_35).trans ((xs_ieq k81_36).trans (px_ite (fun c2 => (xs_rv k81_107 rfl)) (fun c2 => ((xs_aldn k81_39 rfl).trans ((xs_get4 k81_40 (px_s110 L) (Nat.le_of_ble_eq_true rfl) (px_r110_0 hr)).trans ((xs_lldn k81_43 rfl).trans (xs_callvB k81_44 (as := [vL x3]) rfl rfl (Nat.le_of_ble_eq_true rfl) (Nat.le_of_ble_eq_true rfl) (Nat.le_of_ble_eq_true rfl) (px_s19 L) (Nat.le_of_ble_eq_true rfl))))))))))))))))))
theorem b81_47 (hr : px_hr r) (d : Nat) (i l : MI) (x1 : Int) (x3 : Int) (x5 : Int) {v6 : PV} (hn6 : px_nl v6) (xs0 : Int) : px_X d 81 (47, [vR 110, vL x1, vJ, vL x3, vJ, vI x5, v6], [vL xs0]) (px_sh L, i, l, r, t) = px_X d 81 (61, [vR 110, vL (px_lor x1 (px_land xs0 (px_lxor x1 (-1)))), vJ, vL (px_land xs0 (px_lxor x1 (-1))), vJ, vI x5, vI 0], []) (px_sh L, i, l, r, t) := ((xs_lldn k81_47 rfl).trans ((xs_ldc2 k81_48).trans ((xs_lxor k81_51).trans ((xs_land k81_52).trans ((xs_lstn k81_53 (Nat.le_of_ble_eq_true rfl) (ls' := [vR 110, vL x1, vJ, vL (px_land xs0 (px_lxor x1 (-1))), vJ, vI x5, v6]) rfl).trans ((xs_lldn k81_54 rfl).trans ((xs_lldn k81_55 rfl).trans ((xs_lor k81_56).trans ((xs_lstn k81_57 (Nat.le_of_ble_eq_true rfl) (ls' := [vR 110, vL (px_lor x1 (px_land xs0 (px_lxor x1 (-1)))), vJ, vL (px_land xs0 (px_lxor x1 (-1))), vJ, vI x5, v6]) rfl).trans ((xs_ic k81_58 (by omega)).trans (xs_ist k81_59 (Nat.le_of_ble_eq_true rfl) (ls' := [vR 110, vL (px_lor x1 (px_land xs0 (px_lxor x1 (-1)))), vJ, vL (px_land xs0 (px_lxor x1 (-1))), vJ, vI x5, vI 0]) rfl)))))))))))
theorem b81_61 (hr : px_hr r) (d : Nat) (i l : MI) (x1 : Int) (x3 : Int) (x5 : Int) (x6 : Int) : px_X (d + 1) 81 (61, [vR 110, vL x1, vJ, vL x3, vJ, vI x5, vI x6], []) (px_sh L, i, l, r, t) = if (i 19 2) ≤ x6 then px_X (d + 1) 81 (21, [vR 110, vL x1, vJ, vL x3, vJ, vI (px_w32 (x5 + 1)), vI x6], []) (px_sh L, i, l, r, t) else if (px_cmp (px_land (px_lshr x3 x6) 1) 1) = 0 then (px_C d 34 [vR 113, vI x6, vI x5] (px_sh L, i, l, r, t)).bind (fun q => px_X (d + 1) 81 (px_psh (95, [vR 110, vL x1, vJ, vL x3, vJ, vI x5, vI x6], []) q.1) q.2) else px_X (d + 1) 81 (61, [vR 110, vL x1, vJ, vL x3, vJ, vI x5, vI (px_w32 (x6 + 1))], []) (px_sh L, i, l, r, t) := ((xs_ild k81_61 rfl).trans ((xs_aldn k81_63 rfl).trans ((xs_get4 k81_64 (px_s110 L) (Nat.le_of_ble_eq_true rfl) (px_r110_0 hr)).trans ((xs_get0 k81_67 (px_s19 L) (Nat.le_of_ble_eq_true rfl)).trans ((xs_jge k81_70).trans (px_ite (fun c1 => ((xs_iinc k81_101 rfl (by omega) (ls' := [vR 110, vL x1, vJ, vL x3, vJ, vI (px_w32 (x5 + 1)), vI x6]) rfl).trans (xs_goto k81_104))) (fun c1 => ((xs_lldn k81_73 rfl).trans ((xs_ild k81_74 rfl).trans ((xs_lshr k81_76).trans ((xs_lc1 k81_77).trans ((xs_land k81_78).trans ((xs_lc1 k81_79).trans ((xs_lcmp k81_80).trans ((xs_ine k81_81).trans (px_ite (fun c2 => ((xs_aldn k81_84 rfl).trans ((xs_get4 k81_85 (px_s110 L) (Nat.le_of_ble_eq_true rfl) (px_r110_4 hr)).trans ((xs_ild k81_88 rfl).trans ((xs_ild k81_90 rfl).trans (xs_callsB k81_92 (as := [vR 113, vI x6, vI x5]) rfl rfl (Nat.le_of_ble_eq_true rfl) (Nat.le_of_ble_eq_true rfl) (Nat.le_of_ble_eq_true rfl))))))) (fun c2 => ((xs_iinc k81_95 rfl (by omega) (ls' := [vR 110, vL x1, vJ, vL x3, vJ, vI x5, vI (px_w32 (x6 + 1))]) rfl).trans (xs_goto k81_98)))))))))))))))))))
theorem b81_95 (hr : px_hr r) (d : Nat) (i l : MI) (x1 : Int) (x3 : Int) (x5 : Int) (x6 : Int) : px_X d 81 (95, [vR 110, vL x1, vJ, vL x3, vJ, vI x5, vI x6], []) (px_sh L, i, l, r, t) = px_X d 81 (61, [vR 110, vL x1, vJ, vL x3, vJ, vI x5, vI (px_w32 (x6 + 1))], []) (px_sh L, i, l, r, t) := ((xs_iinc k81_95 rfl (by omega) (ls' := [vR 110, vL x1, vJ, vL x3, vJ, vI x5, vI (px_w32 (x6 + 1))]) rfl).trans (xs_goto k81_98))
-- Leaving.lead ('R110', 'I', 'I', 'L')
theorem b82_0 (hr : px_hr r) (d : Nat) (i l : MI) (x1 : Int) (x2 : Int) (x3 : Int) (h1 : (¬ (x1 < 0)) → (¬ (36 ≤ x1)) → (¬ (36 ≤ x1)) → 0 ≤ x1 ∧ x1 < 36) : px_X (d + 1) 82 (0, [vR 110, vI x1, vI x2, vL x3, vJ, vJ, vJ, vJ, vJ, vJ, vJ], []) (px_sh L, i, l, r, t) = if x1 < 0 then some (none, (px_sh L, i, l, r, t)) else if 36 ≤ x1 then some (none, (px_sh L, i, l, r, t)) else if 36 ≤ x1 then some (none, (px_sh L, i, l, r, t)) else if (px_cmp (l 114 x1) 0) = 0 then some (none, (px_sh L, i, l, r, t)) else (px_C d 39 [vR 19, vI x1] (px_sh L, i, l, r, t)).bind (fun q => px_X (d + 1) 82 (px_psh (42, [vR 110, vI x1, vI x2, vL x3, vJ, vJ, vJ, vJ, vJ, vJ, vJ], []) q.1) q.2) := ((xs_ildn k82_0 rfl).trans ((xs_ilt k82_1).trans (px_ite (fun c1 => (xs_rv k82_33 rfl)) (fun c1 => ((xs_ildn k82_4 rfl).trans ((xs_aldn k82_5 rfl).trans ((xs_get4 k82_6 (px_s110 L) (Nat.le_of_ble_eq_true rfl) (px_r110_5 hr)).trans ((xs_aln k82_9 (px_s114 L)).trans ((xs_jge k82_10).trans (px_ite (fun c2 => (xs_rv k82_33 rfl)) (fun c2 => ((xs_ildn k82_13 rfl).trans ((xs_aldn k82_14 rfl).trans ((xs_get4 k82_15 (px_s110 L) (Nat.le_of_ble_eq_true rfl) (px_r110_6 hr)).trans ((xs_aln k82_18 (px_s115 L)).trans ((xs_jge k82_19).trans (px_ite (fun c3 => (xs_rv k82_33 rfl)) (fun c3 => ((xs_aldn k82_22 rfl).trans ((xs_get4 k82_23 (px_s110 L) (Nat.le_of_ble_eq_true rfl) (px_r110_5 hr)).trans ((xs_ildn k82_26 rfl).trans ((xs_lald k82_27 (px_s114 L) (h1 c1 c2 c3)).trans ((xs_lc0 k82_28).trans ((xs_lcmp k82_29).trans ((xs_ine k82_30).trans (px_ite (fun c4 => (xs_rv k82_33 rfl)) (fun c4 => ((xs_aldn k82_34 rfl).trans ((xs_get4 k82_35 (px_s110 L) (Nat.le_of_ble_eq_true rfl) (px_r110_0 hr)).trans ((xs_ildn k82_38 rfl).trans (xs_callvB k82_39 (as := [vI x1]) rfl rfl (Nat.le_of_ble_eq_true rfl) (Nat.le_of_ble_eq_true rfl) (Nat.le_of_ble_eq_true rfl) (px_s19 L) (Nat.le_of_ble_eq_true rfl))))))))))))))))))))))))))))))))
theorem b82_42 (hr : px_hr r) (d : Nat) (i l : MI) (x1 : Int) (x2 : Int) (x3 : Int) (xs0 : Int) (h1 : (¬ (xs0 = 0)) → 0 ≤ x1 ∧ x1 < 36) : px_X (d + 1) 82 (42, [vR 110, vI x1, vI x2, vL x3, vJ, vJ, vJ, vJ, vJ, vJ, vJ], [vI xs0]) (px_sh L, i, l, r, t) = if xs0 = 0 then (px_C d 83 [vR 110, vI x1] (px_sh L, i, l, r, t)).bind (fun q => px_X (d + 1) 82 (px_psh (70, [vR 110, vI x1, vI x2, vL x3, vJ, vJ, vJ, vJ, vJ, vJ, vJ], []) q.1) q.2) else some (none, (px_sh L, i, (px_up l 115 x1 (px_w64 ((l 115 x1) + (px_w64 (12 * (l 114 x1)))))), r, t)) := ((xs_ieq k82_42).trans (px_ite (fun c1 => ((xs_aldn k82_65 rfl).trans ((xs_ildn k82_66 rfl).trans (xs_callvB k82_67 (as := [vI x1]) rfl rfl (Nat.le_of_ble_eq_true rfl) (Nat.le_of_ble_eq_true rfl) (Nat.le_of_ble_eq_true rfl) (px_s110 L) (Nat.le_of_ble_eq_true rfl))))) (fun c1 => ((xs_aldn k82_45 rfl).trans ((xs_get4 k82_46 (px_s110 L) (Nat.le_of_ble_eq_true rfl) (px_r110_6 hr)).trans ((xs_ildn k82_49 rfl).trans ((xs_dup2 k82_50 ⟨rfl, rfl⟩).trans ((xs_lald k82_51 (px_s115 L) (h1 c1)).trans ((xs_ldc2 k82_52).trans ((xs_aldn k82_55 rfl).trans ((xs_get4 k82_56 (px_s110 L) (Nat.le_of_ble_eq_true rfl) (px_r110_5 hr)).trans ((xs_ildn k82_59 rfl).trans ((xs_lald k82_60 (px_s114 L) (h1 c1)).trans ((xs_lmul k82_61).trans ((xs_ladd k82_62).trans ((xs_last k82_63 (px_s115 L) (h1 c1) (Nat.le_of_ble_eq_true rfl)).trans (xs_rv k82_64 rfl)))))))))))))))))
theorem b82_70 (hr : px_hr r) (d : Nat) (i l : MI) (x1 : Int) (x2 : Int) (x3 : Int) (xs0 : Int) : px_X d 82 (70, [vR 110, vI x1, vI x2, vL x3, vJ, vJ, vJ, vJ, vJ, vJ, vJ], [vI xs0]) (px_sh L, i, l, r, t) = px_X d 82 (75, [vR 110, vI x1, vI x2, vL x3, vJ, vI xs0, vI 0, vJ, vJ, vJ, vJ], []) (px_sh L, i, l, r, t) := ((xs_ist k82_70 (Nat.le_of_ble_eq_true rfl) (ls' := [vR 110, vI x1, vI x2, vL x3, vJ, vI xs0, vJ, vJ, vJ, vJ, vJ]) rfl).trans ((xs_ic k82_72 (by omega)).trans (xs_ist k82_73 (Nat.le_of_ble_eq_true rfl) (ls' := [vR 110, vI x1, vI x2, vL x3, vJ, vI xs0, vI 0, vJ, vJ, vJ, vJ]) rfl)))
theorem b82_75 (hr : px_hr r) (d : Nat) (i l : MI) (x1 : Int) (x2 : Int) (x3 : Int) (x5 : Int) (x6 : Int) {v7 : PV} (hn7 : px_nl v7) {v8 : PV} (hn8 : px_nl v8) {v10 : PV} (hn10 : px_nl v10) : px_X (d + 1) 82 (75, [vR 110, vI x1, vI x2, vL x3, vJ, vI x5, vI x6, v7, v8, vJ, v10], []) (px_sh L, i, l, r, t) = if 4 ≤ x6 then some (none, (px_sh L, i, l, r, t)) else (px_C d 41 [vR 19, vI x1, vI x6] (px_sh L, i, l, r, t)).bind (fun q => px_X (d + 1) 82 (px_psh (91, [vR 110, vI x1, vI x2, vL x3, vJ, vI x5, vI x6, v7, v8, vJ, v10], []) q.1) q.2) := ((xs_ild k82_75 rfl).trans ((xs_ic k82_77 (by omega)).trans ((xs_jge k82_78).trans (px_ite (fun c1 => (xs_rv k82_188 rfl)) (fun c1 => ((xs_aldn k82_81 rfl).trans ((xs_get4 k82_82 (px_s110 L) (Nat.le_of_ble_eq_true rfl) (px_r110_0 hr)).trans ((xs_ildn k82_85 rfl).trans ((xs_ild k82_86 rfl).trans (xs_callvB k82_88 (as := [vI x1, vI x6]) rfl rfl (Nat.le_of_ble_eq_true rfl) (Nat.le_of_ble_eq_true rfl) (Nat.le_of_ble_eq_true rfl) (px_s19 L) (Nat.le_of_ble_eq_true rfl)))))))))))
theorem b82_91 (hr : px_hr r) (d : Nat) (i l : MI) (x1 : Int) (x2 : Int) (x3 : Int) (x5 : Int) (x6 : Int) {v7 : PV} (hn7 : px_nl v7) {v8 : PV} (hn8 : px_nl v8) {v10 : PV} (hn10 : px_nl v10) (xs0 : Int) : px_X d 82 (91, [vR 110, vI x1, vI x2, vL x3, vJ, vI x5, vI x6, v7, v8, vJ, v10], [vI xs0]) (px_sh L, i, l, r, t) = if xs0 = (-1) then px_X d 82 (119, [vR 110, vI x1, vI x2, vL x3, vJ, vI x5, vI x6, vI xs0, v8, vJ, v10], []) (px_sh L, i, l, r, t) else if xs0 = x5 then px_X d 82 (121, [vR 110, vI x1, vI x2, vL x3, vJ, vI x5, vI x6, vI xs0, v8, vJ, v10], [vL (px_w64 (12 - (px_w64 (3 * x2))))]) (px_sh L, i, l, r, t) else px_X d 82 (119, [vR 110, vI x1, vI x2, vL x3, vJ, vI x5, vI x6, vI xs0, v8, vJ, v10], []) (px_sh L, i, l, r, t) := ((xs_ist k82_91 (Nat.le_of_ble_eq_true rfl) (ls' := [vR 110, vI x1, vI x2, vL x3, vJ, vI x5, vI x6, vI xs0, v8, vJ, v10]) rfl).trans ((xs_ild k82_93 rfl).trans ((xs_ic k82_95 (by omega)).trans ((xs_jeq k82_96).trans (px_ite (fun c1 => rfl) (fun c1 => ((xs_ild k82_99 rfl).trans ((xs_ild k82_101 rfl).trans ((xs_jne k82_103).trans (px_ite (fun c2 => ((xs_ldc2 k82_106).trans ((xs_ldc2 k82_109).trans ((xs_ildn k82_112 rfl).trans ((xs_i2l k82_113).trans ((xs_lmul k82_114).trans ((xs_lsub k82_115).trans (xs_goto k82_116)))))))) (fun c2 => rfl)))))))))))
theorem b82_119 (hr : px_hr r) (d : Nat) (i l : MI) (x1 : Int) (x2 : Int) (x3 : Int) (x5 : Int) (x6 : Int) (x7 : Int) {v8 : PV} (hn8 : px_nl v8) {v10 : PV} (hn10 : px_nl v10) : px_X d 82 (119, [vR 110, vI x1, vI x2, vL x3, vJ, vI x5, vI x6, vI x7, v8, vJ, v10], []) (px_sh L, i, l, r, t) = px_X d 82 (121, [vR 110, vI x1, vI x2, vL x3, vJ, vI x5, vI x6, vI x7, v8, vJ, v10], [vL x2]) (px_sh L, i, l, r, t) := ((xs_ildn k82_119 rfl).trans (xs_i2l k82_120))
theorem b82_121 (hr : px_hr r) (d : Nat) (i l : MI) (x1 : Int) (x2 : Int) (x3 : Int) (x5 : Int) (x6 : Int) (x7 : Int) {v8 : PV} (hn8 : px_nl v8) {v10 : PV} (hn10 : px_nl v10) (xs0 : Int) : px_X d 82 (121, [vR 110, vI x1, vI x2, vL x3, vJ, vI x5, vI x6, vI x7, v8, vJ, v10], [vL xs0]) (px_sh L, i, l, r, t) = if x7 = (-1) then px_X d 82 (135, [vR 110, vI x1, vI x2, vL x3, vJ, vI x5, vI x6, vI x7, vL xs0, vJ, v10], [vI x1]) (px_sh L, i, l, r, t) else px_X d 82 (135, [vR 110, vI x1, vI x2, vL x3, vJ, vI x5, vI x6, vI x7, vL xs0, vJ, v10], [vI x7]) (px_sh L, i, l, r, t) := ((xs_lst k82_121 (Nat.le_of_ble_eq_true rfl) (ls' := [vR 110, vI x1, vI x2, vL x3, vJ, vI x5, vI x6, vI x7, vL xs0, vJ, v10]) rfl).trans ((xs_ild k82_123 rfl).trans ((xs_ic k82_125 (by omega)).trans ((xs_jne k82_126).trans (px_ite (fun c1 => ((xs_ildn k82_129 rfl).trans (xs_goto k82_130))) (fun c1 => (xs_ild k82_133 rfl)))))))
theorem b82_135 (hr : px_hr r) (d : Nat) (i l : MI) (x1 : Int) (x2 : Int) (x3 : Int) (x5 : Int) (x6 : Int) (x7 : Int) (x8 : Int) {v10 : PV} (hn10 : px_nl v10) (xs0 : Int) (h1 : (¬ (xs0 < 0)) → (¬ (36 ≤ xs0)) → ((px_cmp (px_land (px_lshr x3 xs0) 1) 1) = 0) → 0 ≤ xs0 ∧ xs0 < 36) (h2 : (¬ (xs0 < 0)) → (¬ (36 ≤ xs0)) → ((px_cmp (px_land (px_lshr x3 xs0) 1) 1) = 0) → 0 ≤ x1 ∧ x1 < 36) : px_X d 82 (135, [vR 110, vI x1, vI x2, vL x3, vJ, vI x5, vI x6, vI x7, vL x8, vJ, v10], [vI xs0]) (px_sh L, i, l, r, t) = if xs0 < 0 then px_X d 82 (75, [vR 110, vI x1, vI x2, vL x3, vJ, vI x5, vI (px_w32 (x6 + 1)), vI x7, vL x8, vJ, vI xs0], []) (px_sh L, i, l, r, t) else if 36 ≤ xs0 then px_X d 82 (75, [vR 110, vI x1, vI x2, vL x3, vJ, vI x5, vI (px_w32 (x6 + 1)), vI x7, vL x8, vJ, vI xs0], []) (px_sh L, i, l, r, t) else if (px_cmp (px_land (px_lshr x3 xs0) 1) 1) = 0 then px_X d 82 (75, [vR 110, vI x1, vI x2, vL x3, vJ, vI x5, vI (px_w32 (x6 + 1)), vI x7, vL x8, vJ, vI xs0], []) (px_sh L, i, (px_up l 115 xs0 (px_w64 ((l 115 xs0) + (px_w64 (x8 * (l 114 x1)))))), r, t) else px_X d 82 (75, [vR 110, vI x1, vI x2, vL x3, vJ, vI x5, vI (px_w32 (x6 + 1)), vI x7, vL x8, vJ, vI xs0], []) (px_sh L, i, l, r, t) := ((xs_ist k82_135 (Nat.le_of_ble_eq_true rfl) (ls' := [vR 110, vI x1, vI x2, vL x3, vJ, vI x5, vI x6, vI x7, vL x8, vJ, vI xs0]) rfl).trans ((xs_ild k82_137 rfl).trans ((xs_ilt k82_139).trans (px_ite (fun c1 => ((xs_iinc k82_182 rfl (by omega) (ls' := [vR 110, vI x1, vI x2, vL x3, vJ, vI x5, vI (px_w32 (x6 + 1)), vI x7, vL x8, vJ, vI xs0]) rfl).trans (xs_goto k82_185))) (fun c1 => ((xs_ild k82_142 rfl).trans ((xs_aldn k82_144 rfl).trans ((xs_get4 k82_145 (px_s110 L) (Nat.le_of_ble_eq_true rfl) (px_r110_6 hr)).trans ((xs_aln k82_148 (px_s115 L)).trans ((xs_jge k82_149).trans (px_ite (fun c2 => ((xs_iinc k82_182 rfl (by omega) (ls' := [vR 110, vI x1, vI x2, vL x3, vJ, vI x5, vI (px_w32 (x6 + 1)), vI x7, vL x8, vJ, vI xs0]) rfl).trans (xs_goto k82_185))) (fun c2 => ((xs_lldn k82_152 rfl).trans ((xs_ild k82_153 rfl).trans ((xs_lshr k82_155).trans ((xs_lc1 k82_156).trans ((xs_land k82_157).trans ((xs_lc1 k82_158).trans ((xs_lcmp k82_159).trans ((xs_ine k82_160).trans (px_ite (fun c3 => ((xs_aldn k82_163 rfl).trans ((xs_get4 k82_164 (px_s110 L) (Nat.le_of_ble_eq_true rfl) (px_r110_6 hr)).trans ((xs_ild k82_167 rfl).trans ((xs_dup2 k82_169 ⟨rfl, rfl⟩).trans ((xs_lald k82_170 (px_s115 L) (h1 c1 c2 c3)).trans ((xs_lld k82_171 rfl).trans ((xs_aldn k82_173 rfl).trans ((xs_get4 k82_174 (px_s110 L) (Nat.le_of_ble_eq_true rfl) (px_r110_5 hr)).trans ((xs_ildn k82_177 rfl).trans ((xs_lald k82_178 (px_s114 L) (h2 c1 c2 c3)).trans ((xs_lmul k82_179).trans ((xs_ladd k82_180).trans ((xs_last k82_181 (px_s115 L) (h1 c1 c2 c3) (Nat.le_of_ble_eq_true rfl)).trans ((xs_iinc k82_182 rfl (by omega) (ls' := [vR 110, vI x1, vI x2, vL x3, vJ, vI x5, vI (px_w32 (x6 + 1)), vI x7, vL x8, vJ, vI xs0]) rfl).trans (xs_goto k82_185)))))))))))))))) (fun c3 => ((xs_iinc k82_182 rfl (by omega) (ls' := [vR 110, vI x1, vI x2, vL x3, vJ, vI x5, vI (px_w32 (x6 + 1)), vI x7, vL x8, vJ, vI xs0]) rfl).trans (xs_goto k82_185))))))))))))))))))))))))
-- Leaving.aimFrom ('R110', 'I')
theorem b83_0 (hr : px_hr r) (d : Nat) (i l : MI) (x1 : Int) : px_X d 83 (0, [vR 110, vI x1, vJ, vJ], []) (px_sh L, i, l, r, t) = px_X d 83 (2, [vR 110, vI x1, vI 0, vJ], []) (px_sh L, i, l, r, t) := ((xs_ic k83_0 (by omega)).trans (xs_istn k83_1 (Nat.le_of_ble_eq_true rfl) (ls' := [vR 110, vI x1, vI 0, vJ]) rfl))
theorem b83_2 (hr : px_hr r) (d : Nat) (i l : MI) (x1 : Int) (x2 : Int) {v3 : PV} (hn3 : px_nl v3) : px_X (d + 1) 83 (2, [vR 110, vI x1, vI x2, v3], []) (px_sh L, i, l, r, t) = if 4 ≤ x2 then some (some (vI (-1)), (px_sh L, i, l, r, t)) else (px_C d 41 [vR 19, vI x1, vI x2] (px_sh L, i, l, r, t)).bind (fun q => px_X (d + 1) 83 (px_psh (16, [vR 110, vI x1, vI x2, v3], []) q.1) q.2) := ((xs_ildn k83_2 rfl).trans ((xs_ic k83_3 (by omega)).trans ((xs_jge k83_4).trans (px_ite (fun c1 => ((xs_ic k83_49 (by omega)).trans (xs_ri k83_50 rfl))) (fun c1 => ((xs_aldn k83_7 rfl).trans ((xs_get4 k83_8 (px_s110 L) (Nat.le_of_ble_eq_true rfl) (px_r110_0 hr)).trans ((xs_ildn k83_11 rfl).trans ((xs_ildn k83_12 rfl).trans (xs_callvB k83_13 (as := [vI x1, vI x2]) rfl rfl (Nat.le_of_ble_eq_true rfl) (Nat.le_of_ble_eq_true rfl) (Nat.le_of_ble_eq_true rfl) (px_s19 L) (Nat.le_of_ble_eq_true rfl)))))))))))
theorem b83_16 (hr : px_hr r) (d : Nat) (i l : MI) (x1 : Int) (x2 : Int) {v3 : PV} (hn3 : px_nl v3) (xs0 : Int) : px_X (d + 1) 83 (16, [vR 110, vI x1, vI x2, v3], [vI xs0]) (px_sh L, i, l, r, t) = if xs0 = (-1) then px_X (d + 1) 83 (2, [vR 110, vI x1, vI (px_w32 (x2 + 1)), vI xs0], []) (px_sh L, i, l, r, t) else (px_C d 33 [vR 113, vI xs0] (px_sh L, i, l, r, t)).bind (fun q => px_X (d + 1) 83 (px_psh (30, [vR 110, vI x1, vI x2, vI xs0], []) q.1) q.2) := ((xs_istn k83_16 (Nat.le_of_ble_eq_true rfl) (ls' := [vR 110, vI x1, vI x2, vI xs0]) rfl).trans ((xs_ildn k83_17 rfl).trans ((xs_ic k83_18 (by omega)).trans ((xs_jeq k83_19).trans (px_ite (fun c1 => ((xs_iinc k83_43 rfl (by omega) (ls' := [vR 110, vI x1, vI (px_w32 (x2 + 1)), vI xs0]) rfl).trans (xs_goto k83_46))) (fun c1 => ((xs_aldn k83_22 rfl).trans ((xs_get4 k83_23 (px_s110 L) (Nat.le_of_ble_eq_true rfl) (px_r110_4 hr)).trans ((xs_ildn k83_26 rfl).trans (xs_callsB k83_27 (as := [vR 113, vI xs0]) rfl rfl (Nat.le_of_ble_eq_true rfl) (Nat.le_of_ble_eq_true rfl) (Nat.le_of_ble_eq_true rfl)))))))))))
theorem b83_30 (hr : px_hr r) (d : Nat) (i l : MI) (x1 : Int) (x2 : Int) (x3 : Int) (xs0 : Int) : px_X (d + 1) 83 (30, [vR 110, vI x1, vI x2, vI x3], [vI xs0]) (px_sh L, i, l, r, t) = (px_C d 33 [vR 113, vI x1] (px_sh L, i, l, r, t)).bind (fun q => px_X (d + 1) 83 (px_psh (38, [vR 110, vI x1, vI x2, vI x3], [vI xs0]) q.1) q.2) := ((xs_aldn k83_30 rfl).trans ((xs_get4 k83_31 (px_s110 L) (Nat.le_of_ble_eq_true rfl) (px_r110_4 hr)).trans ((xs_ildn k83_34 rfl).trans (xs_callsB k83_35 (as := [vR 113, vI x1]) rfl rfl (Nat.le_of_ble_eq_true rfl) (Nat.le_of_ble_eq_true rfl) (Nat.le_of_ble_eq_true rfl)))))
theorem b83_38 (hr : px_hr r) (d : Nat) (i l : MI) (x1 : Int) (x2 : Int) (x3 : Int) (xs0 : Int) (xs1 : Int) : px_X d 83 (38, [vR 110, vI x1, vI x2, vI x3], [vI xs0, vI xs1]) (px_sh L, i, l, r, t) = if xs0 ≤ xs1 then px_X d 83 (2, [vR 110, vI x1, vI (px_w32 (x2 + 1)), vI x3], []) (px_sh L, i, l, r, t) else some (some (vI x3), (px_sh L, i, l, r, t)) := ((xs_jge k83_38).trans (px_ite (fun c1 => ((xs_iinc k83_43 rfl (by omega) (ls' := [vR 110, vI x1, vI (px_w32 (x2 + 1)), vI x3]) rfl).trans (xs_goto k83_46))) (fun c1 => ((xs_ildn k83_41 rfl).trans (xs_ri k83_42 rfl)))))
-- Night.begin ('R9', 'I')
theorem b85_0 (hr : px_hr r) (d : Nat) (i l : MI) (x1 : Int) : px_X (d + 1) 85 (0, [vR 9, vI x1], []) (px_sh L, i, l, r, t) = (px_C d 241 [vR 10, vI 0] (px_sh L, (px_up (px_up (px_up i 9 0 0) 9 1 0) 9 2 x1), l, r, t)).bind (fun q => px_X (d + 1) 85 (px_psh (23, [vR 9, vI x1], []) q.1) q.2) := ((xs_aldn k85_0 rfl).trans ((xs_ic k85_1 (by omega)).trans ((xs_put0 k85_2 (Or.inl rfl) (px_s9 L) (Nat.le_of_ble_eq_true rfl)).trans ((xs_aldn k85_5 rfl).trans ((xs_ic k85_6 (by omega)).trans ((xs_put0 k85_7 (Or.inl rfl) (px_s9 L) (Nat.le_of_ble_eq_true rfl)).trans ((xs_aldn k85_10 rfl).trans ((xs_ildn k85_11 rfl).trans ((xs_put0 k85_12 (Or.inl rfl) (px_s9 L) (Nat.le_of_ble_eq_true rfl)).trans ((xs_aldn k85_15 rfl).trans ((xs_get4 k85_16 (px_s9 L) (Nat.le_of_ble_eq_true rfl) (px_r9_3 hr)).trans ((xs_ic k85_19 (by omega)).trans (xs_callsB k85_20 (as := [vR 10, vI 0]) rfl rfl (Nat.le_of_ble_eq_true rfl) (Nat.le_of_ble_eq_true rfl) (Nat.le_of_ble_eq_true rfl))))))))))))))
theorem b85_23 (hr : px_hr r) (d : Nat) (i l : MI) (x1 : Int) : px_X (d + 1) 85 (23, [vR 9, vI x1], []) (px_sh L, i, l, r, t) = (px_C d 241 [vR 11, vI 0] (px_sh L, i, l, r, t)).bind (fun q => px_X (d + 1) 85 (px_psh (31, [vR 9, vI x1], []) q.1) q.2) := ((xs_aldn k85_23 rfl).trans ((xs_get4 k85_24 (px_s9 L) (Nat.le_of_ble_eq_true rfl) (px_r9_4 hr)).trans ((xs_ic k85_27 (by omega)).trans (xs_callsB k85_28 (as := [vR 11, vI 0]) rfl rfl (Nat.le_of_ble_eq_true rfl) (Nat.le_of_ble_eq_true rfl) (Nat.le_of_ble_eq_true rfl)))))
theorem b85_31 (hr : px_hr r) (d : Nat) (i l : MI) (x1 : Int) : px_X (d + 1) 85 (31, [vR 9, vI x1], []) (px_sh L, i, l, r, t) = (px_C d 241 [vR 12, vI 0] (px_sh L, i, l, r, t)).bind (fun q => px_X (d + 1) 85 (px_psh (39, [vR 9, vI x1], []) q.1) q.2) := ((xs_aldn k85_31 rfl).trans ((xs_get4 k85_32 (px_s9 L) (Nat.le_of_ble_eq_true rfl) (px_r9_5 hr)).trans ((xs_ic k85_35 (by omega)).trans (xs_callsB k85_36 (as := [vR 12, vI 0]) rfl rfl (Nat.le_of_ble_eq_true rfl) (Nat.le_of_ble_eq_true rfl) (Nat.le_of_ble_eq_true rfl)))))
theorem b85_39 (hr : px_hr r) (d : Nat) (i l : MI) (x1 : Int) : px_X d 85 (39, [vR 9, vI x1], []) (px_sh L, i, l, r, t) = some (none, (px_sh L, i, l, r, t)) := (xs_rv k85_39 rfl)
-- Night.keepPlace ('R9', 'I', 'I')
theorem b86_0 (hr : px_hr r) (d : Nat) (i l : MI) (x1 : Int) (x2 : Int) : px_X (d + 1) 86 (0, [vR 9, vI x1, vI x2], []) (px_sh L, i, l, r, t) = if 50 ≤ (i 9 0) then some (none, (px_sh L, i, l, r, t)) else (px_C d 34 [vR 13, vI (px_w32 ((px_w32 ((i 9 0) * 10)) + x1)), vI x2] (px_sh L, i, l, r, t)).bind (fun q => px_X (d + 1) 86 (px_psh (26, [vR 9, vI x1, vI x2], []) q.1) q.2) := ((xs_aldn k86_0 rfl).trans ((xs_get0 k86_1 (px_s9 L) (Nat.le_of_ble_eq_true rfl)).trans ((xs_bi k86_4 (by omega)).trans ((xs_jge k86_6).trans (px_ite (fun c1 => (xs_rv k86_26 rfl)) (fun c1 => ((xs_aldn k86_9 rfl).trans ((xs_get4 k86_10 (px_s9 L) (Nat.le_of_ble_eq_true rfl) (px_r9_6 hr)).trans ((xs_aldn k86_13 rfl).trans ((xs_get0 k86_14 (px_s9 L) (Nat.le_of_ble_eq_true rfl)).trans ((xs_bi k86_17 (by omega)).trans ((xs_imul k86_19).trans ((xs_ildn k86_20 rfl).trans ((xs_iadd k86_21).trans ((xs_ildn k86_22 rfl).trans (xs_callsB k86_23 (as := [vR 13, vI (px_w32 ((px_w32 ((i 9 0) * 10)) + x1)), vI x2]) rfl rfl (Nat.le_of_ble_eq_true rfl) (Nat.le_of_ble_eq_true rfl) (Nat.le_of_ble_eq_true rfl)))))))))))))))))
theorem b86_26 (hr : px_hr r) (d : Nat) (i l : MI) (x1 : Int) (x2 : Int) : px_X d 86 (26, [vR 9, vI x1, vI x2], []) (px_sh L, i, l, r, t) = some (none, (px_sh L, i, l, r, t)) := (xs_rv k86_26 rfl)
-- Night.placeAt ('R9', 'I', 'I')
theorem b87_0 (hr : px_hr r) (d : Nat) (i l : MI) (x1 : Int) (x2 : Int) : px_X (d + 1) 87 (0, [vR 9, vI x1, vI x2], []) (px_sh L, i, l, r, t) = (px_C d 30 [vI x2, vI 0, vI (px_w32 ((if 50 < (i 9 0) then 50 else (i 9 0)) - 1))] (px_sh L, i, l, r, t)).bind (fun q => px_X (d + 1) 87 (px_psh (16, [vR 9, vI x1, vI x2], []) q.1) q.2) := ((xs_ildn k87_0 rfl).trans ((xs_ic k87_1 (by omega)).trans ((xs_aldn k87_2 rfl).trans ((xs_get0 k87_3 (px_s9 L) (Nat.le_of_ble_eq_true rfl)).trans ((xs_bi k87_6 (by omega)).trans ((xs_imin k87_8 (Nat.le_of_ble_eq_true rfl)).trans ((xs_ic k87_11 (by omega)).trans ((xs_isub k87_12).trans (xs_callsB k87_13 (as := [vI x2, vI 0, vI (px_w32 ((if 50 < (i 9 0) then 50 else (i 9 0)) - 1))]) rfl rfl (Nat.le_of_ble_eq_true rfl) (Nat.le_of_ble_eq_true rfl) (Nat.le_of_ble_eq_true rfl))))))))))
theorem b87_16 (hr : px_hr r) (d : Nat) (i l : MI) (x1 : Int) (x2 : Int) (xs0 : Int) : px_X (d + 1) 87 (16, [vR 9, vI x1, vI x2], [vI xs0]) (px_sh L, i, l, r, t) = if xs0 = 0 then some (some (vI (-2)), (px_sh L, i, l, r, t)) else (px_C d 32 [vI (i 9 2), vI x1] (px_sh L, i, l, r, t)).bind (fun q => px_X (d + 1) 87 (px_psh (27, [vR 9, vI x1, vI x2], []) q.1) q.2) := ((xs_ieq k87_16).trans (px_ite (fun c1 => ((xs_bi k87_30 (by omega)).trans (xs_ri k87_32 rfl))) (fun c1 => ((xs_aldn k87_19 rfl).trans ((xs_get0 k87_20 (px_s9 L) (Nat.le_of_ble_eq_true rfl)).trans ((xs_ildn k87_23 rfl).trans (xs_callsB k87_24 (as := [vI (i 9 2), vI x1]) rfl rfl (Nat.le_of_ble_eq_true rfl) (Nat.le_of_ble_eq_true rfl) (Nat.le_of_ble_eq_true rfl))))))))
theorem b87_27 (hr : px_hr r) (d : Nat) (i l : MI) (x1 : Int) (x2 : Int) (xs0 : Int) : px_X (d + 1) 87 (27, [vR 9, vI x1, vI x2], [vI xs0]) (px_sh L, i, l, r, t) = if xs0 = 0 then some (some (vI (-2)), (px_sh L, i, l, r, t)) else (px_C d 33 [vR 13, vI (px_w32 ((px_w32 (x2 * 10)) + x1))] (px_sh L, i, l, r, t)).bind (fun q => px_X (d + 1) 87 (px_psh (46, [vR 9, vI x1, vI x2], []) q.1) q.2) := ((xs_ine k87_27).trans (px_ite (fun c1 => ((xs_bi k87_30 (by omega)).trans (xs_ri k87_32 rfl))) (fun c1 => ((xs_aldn k87_33 rfl).trans ((xs_get4 k87_34 (px_s9 L) (Nat.le_of_ble_eq_true rfl) (px_r9_6 hr)).trans ((xs_ildn k87_37 rfl).trans ((xs_bi k87_38 (by omega)).trans ((xs_imul k87_40).trans ((xs_ildn k87_41 rfl).trans ((xs_iadd k87_42).trans (xs_callsB k87_43 (as := [vR 13, vI (px_w32 ((px_w32 (x2 * 10)) + x1))]) rfl rfl (Nat.le_of_ble_eq_true rfl) (Nat.le_of_ble_eq_true rfl) (Nat.le_of_ble_eq_true rfl))))))))))))
theorem b87_46 (hr : px_hr r) (d : Nat) (i l : MI) (x1 : Int) (x2 : Int) (xs0 : Int) : px_X d 87 (46, [vR 9, vI x1, vI x2], [vI xs0]) (px_sh L, i, l, r, t) = some (some (vI xs0), (px_sh L, i, l, r, t)) := (xs_ri k87_46 rfl)
-- Night.copyFrom ('R36', 'R9')
theorem b88_R36R9_0 (hr : px_hr r) (d : Nat) (i l : MI)  : px_X (d + 1) 88 (0, [vR 36, vR 9], []) (px_sh L, i, l, r, t) = (px_C d 35 [vR 10, vR 37] (px_sh L, (px_up (px_up (px_up i 36 0 (i 9 0)) 36 1 (i 9 1)) 36 2 (i 9 2)), l, r, t)).bind (fun q => px_X (d + 1) 88 (px_psh (35, [vR 36, vR 9], []) q.1) q.2) := ((xs_aldn k88_0 rfl).trans ((xs_aldn k88_1 rfl).trans ((xs_get0 k88_2 (px_s9 L) (Nat.le_of_ble_eq_true rfl)).trans ((xs_put0 k88_5 (Or.inl rfl) (px_s36 L) (Nat.le_of_ble_eq_true rfl)).trans ((xs_aldn k88_8 rfl).trans ((xs_aldn k88_9 rfl).trans ((xs_get0 k88_10 (px_s9 L) (Nat.le_of_ble_eq_true rfl)).trans ((xs_put0 k88_13 (Or.inl rfl) (px_s36 L) (Nat.le_of_ble_eq_true rfl)).trans ((xs_aldn k88_16 rfl).trans ((xs_aldn k88_17 rfl).trans ((xs_get0 k88_18 (px_s9 L) (Nat.le_of_ble_eq_true rfl)).trans ((xs_put0 k88_21 (Or.inl rfl) (px_s36 L) (Nat.le_of_ble_eq_true rfl)).trans ((xs_aldn k88_24 rfl).trans ((xs_get4 k88_25 (px_s9 L) (Nat.le_of_ble_eq_true rfl) (px_r9_3 hr)).trans ((xs_aldn k88_28 rfl).trans ((xs_get4 k88_29 (px_s36 L) (Nat.le_of_ble_eq_true rfl) (px_r36_3 hr)).trans (xs_callsB k88_32 (as := [vR 10, vR 37]) rfl rfl (Nat.le_of_ble_eq_true rfl) (Nat.le_of_ble_eq_true rfl) (Nat.le_of_ble_eq_true rfl))))))))))))))))))
theorem b88_R36R9_35 (hr : px_hr r) (d : Nat) (i l : MI)  : px_X (d + 1) 88 (35, [vR 36, vR 9], []) (px_sh L, i, l, r, t) = (px_C d 35 [vR 11, vR 38] (px_sh L, i, l, r, t)).bind (fun q => px_X (d + 1) 88 (px_psh (46, [vR 36, vR 9], []) q.1) q.2) := ((xs_aldn k88_35 rfl).trans ((xs_get4 k88_36 (px_s9 L) (Nat.le_of_ble_eq_true rfl) (px_r9_4 hr)).trans ((xs_aldn k88_39 rfl).trans ((xs_get4 k88_40 (px_s36 L) (Nat.le_of_ble_eq_true rfl) (px_r36_4 hr)).trans (xs_callsB k88_43 (as := [vR 11, vR 38]) rfl rfl (Nat.le_of_ble_eq_true rfl) (Nat.le_of_ble_eq_true rfl) (Nat.le_of_ble_eq_true rfl))))))
theorem b88_R36R9_46 (hr : px_hr r) (d : Nat) (i l : MI)  : px_X (d + 1) 88 (46, [vR 36, vR 9], []) (px_sh L, i, l, r, t) = (px_C d 35 [vR 12, vR 39] (px_sh L, i, l, r, t)).bind (fun q => px_X (d + 1) 88 (px_psh (57, [vR 36, vR 9], []) q.1) q.2) := ((xs_aldn k88_46 rfl).trans ((xs_get4 k88_47 (px_s9 L) (Nat.le_of_ble_eq_true rfl) (px_r9_5 hr)).trans ((xs_aldn k88_50 rfl).trans ((xs_get4 k88_51 (px_s36 L) (Nat.le_of_ble_eq_true rfl) (px_r36_5 hr)).trans (xs_callsB k88_54 (as := [vR 12, vR 39]) rfl rfl (Nat.le_of_ble_eq_true rfl) (Nat.le_of_ble_eq_true rfl) (Nat.le_of_ble_eq_true rfl))))))
theorem b88_R36R9_57 (hr : px_hr r) (d : Nat) (i l : MI)  : px_X (d + 1) 88 (57, [vR 36, vR 9], []) (px_sh L, i, l, r, t) = (px_C d 35 [vR 13, vR 40] (px_sh L, i, l, r, t)).bind (fun q => px_X (d + 1) 88 (px_psh (68, [vR 36, vR 9], []) q.1) q.2) := ((xs_aldn k88_57 rfl).trans ((xs_get4 k88_58 (px_s9 L) (Nat.le_of_ble_eq_true rfl) (px_r9_6 hr)).trans ((xs_aldn k88_61 rfl).trans ((xs_get4 k88_62 (px_s36 L) (Nat.le_of_ble_eq_true rfl) (px_r36_6 hr)).trans (xs_callsB k88_65 (as := [vR 13, vR 40]) rfl rfl (Nat.le_of_ble_eq_true rfl) (Nat.le_of_ble_eq_true rfl) (Nat.le_of_ble_eq_true rfl))))))
theorem b88_R36R9_68 (hr : px_hr r) (d : Nat) (i l : MI)  : px_X d 88 (68, [vR 36, vR 9], []) (px_sh L, i, l, r, t) = some (none, (px_sh L, i, l, r, t)) := (xs_rv k88_68 rfl)
-- Night.copyFrom ('R9', 'R36')
theorem b88_R9R36_0 (hr : px_hr r) (d : Nat) (i l : MI)  : px_X (d + 1) 88 (0, [vR 9, vR 36], []) (px_sh L, i, l, r, t) = (px_C d 35 [vR 37, vR 10] (px_sh L, (px_up (px_up (px_up i 9 0 (i 36 0)) 9 1 (i 36 1)) 9 2 (i 36 2)), l, r, t)).bind (fun q => px_X (d + 1) 88 (px_psh (35, [vR 9, vR 36], []) q.1) q.2) := ((xs_aldn k88_0 rfl).trans ((xs_aldn k88_1 rfl).trans ((xs_get0 k88_2 (px_s36 L) (Nat.le_of_ble_eq_true rfl)).trans ((xs_put0 k88_5 (Or.inl rfl) (px_s9 L) (Nat.le_of_ble_eq_true rfl)).trans ((xs_aldn k88_8 rfl).trans ((xs_aldn k88_9 rfl).trans ((xs_get0 k88_10 (px_s36 L) (Nat.le_of_ble_eq_true rfl)).trans ((xs_put0 k88_13 (Or.inl rfl) (px_s9 L) (Nat.le_of_ble_eq_true rfl)).trans ((xs_aldn k88_16 rfl).trans ((xs_aldn k88_17 rfl).trans ((xs_get0 k88_18 (px_s36 L) (Nat.le_of_ble_eq_true rfl)).trans ((xs_put0 k88_21 (Or.inl rfl) (px_s9 L) (Nat.le_of_ble_eq_true rfl)).trans ((xs_aldn k88_24 rfl).trans ((xs_get4 k88_25 (px_s36 L) (Nat.le_of_ble_eq_true rfl) (px_r36_3 hr)).trans ((xs_aldn k88_28 rfl).trans ((xs_get4 k88_29 (px_s9 L) (Nat.le_of_ble_eq_true rfl) (px_r9_3 hr)).trans (xs_callsB k88_32 (as := [vR 37, vR 10]) rfl rfl (Nat.le_of_ble_eq_true rfl) (Nat.le_of_ble_eq_true rfl) (Nat.le_of_ble_eq_true rfl))))))))))))))))))
theorem b88_R9R36_35 (hr : px_hr r) (d : Nat) (i l : MI)  : px_X (d + 1) 88 (35, [vR 9, vR 36], []) (px_sh L, i, l, r, t) = (px_C d 35 [vR 38, vR 11] (px_sh L, i, l, r, t)).bind (fun q => px_X (d + 1) 88 (px_psh (46, [vR 9, vR 36], []) q.1) q.2) := ((xs_aldn k88_35 rfl).trans ((xs_get4 k88_36 (px_s36 L) (Nat.le_of_ble_eq_true rfl) (px_r36_4 hr)).trans ((xs_aldn k88_39 rfl).trans ((xs_get4 k88_40 (px_s9 L) (Nat.le_of_ble_eq_true rfl) (px_r9_4 hr)).trans (xs_callsB k88_43 (as := [vR 38, vR 11]) rfl rfl (Nat.le_of_ble_eq_true rfl) (Nat.le_of_ble_eq_true rfl) (Nat.le_of_ble_eq_true rfl))))))
theorem b88_R9R36_46 (hr : px_hr r) (d : Nat) (i l : MI)  : px_X (d + 1) 88 (46, [vR 9, vR 36], []) (px_sh L, i, l, r, t) = (px_C d 35 [vR 39, vR 12] (px_sh L, i, l, r, t)).bind (fun q => px_X (d + 1) 88 (px_psh (57, [vR 9, vR 36], []) q.1) q.2) := ((xs_aldn k88_46 rfl).trans ((xs_get4 k88_47 (px_s36 L) (Nat.le_of_ble_eq_true rfl) (px_r36_5 hr)).trans ((xs_aldn k88_50 rfl).trans ((xs_get4 k88_51 (px_s9 L) (Nat.le_of_ble_eq_true rfl) (px_r9_5 hr)).trans (xs_callsB k88_54 (as := [vR 39, vR 12]) rfl rfl (Nat.le_of_ble_eq_true rfl) (Nat.le_of_ble_eq_true rfl) (Nat.le_of_ble_eq_true rfl))))))
theorem b88_R9R36_57 (hr : px_hr r) (d : Nat) (i l : MI)  : px_X (d + 1) 88 (57, [vR 9, vR 36], []) (px_sh L, i, l, r, t) = (px_C d 35 [vR 40, vR 13] (px_sh L, i, l, r, t)).bind (fun q => px_X (d + 1) 88 (px_psh (68, [vR 9, vR 36], []) q.1) q.2) := ((xs_aldn k88_57 rfl).trans ((xs_get4 k88_58 (px_s36 L) (Nat.le_of_ble_eq_true rfl) (px_r36_6 hr)).trans ((xs_aldn k88_61 rfl).trans ((xs_get4 k88_62 (px_s9 L) (Nat.le_of_ble_eq_true rfl) (px_r9_6 hr)).trans (xs_callsB k88_65 (as := [vR 40, vR 13]) rfl rfl (Nat.le_of_ble_eq_true rfl) (Nat.le_of_ble_eq_true rfl) (Nat.le_of_ble_eq_true rfl))))))
theorem b88_R9R36_68 (hr : px_hr r) (d : Nat) (i l : MI)  : px_X d 88 (68, [vR 9, vR 36], []) (px_sh L, i, l, r, t) = some (none, (px_sh L, i, l, r, t)) := (xs_rv k88_68 rfl)
end PXL
