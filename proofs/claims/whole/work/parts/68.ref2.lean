/-! Block lemmas, by program (wip/whole/gen_blk.py). -/
theorem k182_0 : px_cod 182 0 = some ((.iload_n 1), 1, [], 1) := rfl
theorem k182_1 : px_cod 182 1 = some ((.ifCond .ne 10), 3, [11], 0) := rfl
theorem k182_4 : px_cod 182 4 = some ((.aload_n 0), 1, [], 0) := rfl
theorem k182_5 : px_cod 182 5 = some ((.getfield 20), 3, [191, 12, 0, 0], 7) := rfl
theorem k182_8 : px_cod 182 8 = some ((.goto 16), 3, [24], 0) := rfl
theorem k182_11 : px_cod 182 11 = some ((.iload_n 1), 1, [], 1) := rfl
theorem k182_12 : px_cod 182 12 = some ((.iconst 1), 1, [], 1) := rfl
theorem k182_13 : px_cod 182 13 = some ((.if_icmp .ne 10), 3, [23], 0) := rfl
theorem k182_16 : px_cod 182 16 = some ((.aload_n 0), 1, [], 0) := rfl
theorem k182_17 : px_cod 182 17 = some ((.getfield 24), 3, [192, 12, 0, 0], 8) := rfl
theorem k182_20 : px_cod 182 20 = some ((.goto 4), 3, [24], 0) := rfl
theorem k182_23 : px_cod 182 23 = some ((.iconst (-1)), 1, [], (-1)) := rfl
theorem k182_24 : px_cod 182 24 = some (.ireturn, 1, [], 0) := rfl
theorem k183_0 : px_cod 183 0 = some ((.lload_n 0), 1, [], 0) := rfl
theorem k183_1 : px_cod 183 1 = some ((.ldc2_w 328), 3, [0, 41], 1000000) := rfl
theorem k183_4 : px_cod 183 4 = some (.lcmp, 1, [], 0) := rfl
theorem k183_5 : px_cod 183 5 = some ((.ifCond .le 9), 3, [14], 0) := rfl
theorem k183_8 : px_cod 183 8 = some ((.ldc2_w 328), 3, [0, 41], 1000000) := rfl
theorem k183_11 : px_cod 183 11 = some ((.goto 18), 3, [29], 0) := rfl
theorem k183_14 : px_cod 183 14 = some ((.lload_n 0), 1, [], 0) := rfl
theorem k183_15 : px_cod 183 15 = some ((.ldc2_w 330), 3, [0, 42], (-1000000)) := rfl
theorem k183_18 : px_cod 183 18 = some (.lcmp, 1, [], 0) := rfl
theorem k183_19 : px_cod 183 19 = some ((.ifCond .ge 9), 3, [28], 0) := rfl
theorem k183_22 : px_cod 183 22 = some ((.ldc2_w 330), 3, [0, 42], (-1000000)) := rfl
theorem k183_25 : px_cod 183 25 = some ((.goto 4), 3, [29], 0) := rfl
theorem k183_28 : px_cod 183 28 = some ((.lload_n 0), 1, [], 0) := rfl
theorem k183_29 : px_cod 183 29 = some (.lreturn, 1, [], 0) := rfl
theorem k184_0 : px_cod 184 0 = some ((.iload_n 0), 1, [], 0) := rfl
theorem k184_1 : px_cod 184 1 = some ((.lookupswitch 210 #[(35, 170), (42, 113), (43, 99), (45, 106), (47, 120), (60, 134), (61, 158), (62, 146), (300, 182), (301, 194), (406, 206)]), 99, [211, 171, 114, 100, 107, 121, 135, 159, 147, 183, 195, 207], 0) := rfl
theorem k184_100 : px_cod 184 100 = some ((.lload_n 1), 1, [], 1) := rfl
theorem k184_101 : px_cod 184 101 = some ((.lload_n 3), 1, [], 3) := rfl
theorem k184_102 : px_cod 184 102 = some (.ladd, 1, [], 0) := rfl
theorem k184_103 : px_cod 184 103 = some ((.invokestatic 332), 3, [0, 255, 183], 0) := rfl
theorem k184_106 : px_cod 184 106 = some (.lreturn, 1, [], 0) := rfl
theorem k184_107 : px_cod 184 107 = some ((.lload_n 1), 1, [], 1) := rfl
theorem k184_108 : px_cod 184 108 = some ((.lload_n 3), 1, [], 3) := rfl
theorem k184_109 : px_cod 184 109 = some (.lsub, 1, [], 0) := rfl
theorem k184_110 : px_cod 184 110 = some ((.invokestatic 332), 3, [0, 255, 183], 0) := rfl
theorem k184_113 : px_cod 184 113 = some (.lreturn, 1, [], 0) := rfl
theorem k184_114 : px_cod 184 114 = some ((.lload_n 1), 1, [], 1) := rfl
theorem k184_115 : px_cod 184 115 = some ((.lload_n 3), 1, [], 3) := rfl
theorem k184_116 : px_cod 184 116 = some (.lmul, 1, [], 0) := rfl
theorem k184_117 : px_cod 184 117 = some ((.invokestatic 332), 3, [0, 255, 183], 0) := rfl
theorem k184_120 : px_cod 184 120 = some (.lreturn, 1, [], 0) := rfl
theorem k184_121 : px_cod 184 121 = some ((.lload_n 3), 1, [], 3) := rfl
theorem k184_122 : px_cod 184 122 = some ((.lconst 0), 1, [], 0) := rfl
theorem k184_123 : px_cod 184 123 = some (.lcmp, 1, [], 0) := rfl
theorem k184_124 : px_cod 184 124 = some ((.ifCond .ne 7), 3, [131], 0) := rfl
theorem k184_127 : px_cod 184 127 = some ((.lconst 0), 1, [], 0) := rfl
theorem k184_128 : px_cod 184 128 = some ((.goto 6), 3, [134], 0) := rfl
theorem k184_131 : px_cod 184 131 = some ((.lload_n 1), 1, [], 1) := rfl
theorem k184_132 : px_cod 184 132 = some ((.lload_n 3), 1, [], 3) := rfl
theorem k184_133 : px_cod 184 133 = some (.ldiv, 1, [], 0) := rfl
theorem k184_134 : px_cod 184 134 = some (.lreturn, 1, [], 0) := rfl
theorem k184_135 : px_cod 184 135 = some ((.lload_n 1), 1, [], 1) := rfl
theorem k184_136 : px_cod 184 136 = some ((.lload_n 3), 1, [], 3) := rfl
theorem k184_137 : px_cod 184 137 = some (.lcmp, 1, [], 0) := rfl
theorem k184_138 : px_cod 184 138 = some ((.ifCond .ge 7), 3, [145], 0) := rfl
theorem k184_141 : px_cod 184 141 = some ((.lconst 1), 1, [], 1) := rfl
theorem k184_142 : px_cod 184 142 = some ((.goto 4), 3, [146], 0) := rfl
theorem k184_145 : px_cod 184 145 = some ((.lconst 0), 1, [], 0) := rfl
theorem k184_146 : px_cod 184 146 = some (.lreturn, 1, [], 0) := rfl
theorem k184_147 : px_cod 184 147 = some ((.lload_n 1), 1, [], 1) := rfl
theorem k184_148 : px_cod 184 148 = some ((.lload_n 3), 1, [], 3) := rfl
theorem k184_149 : px_cod 184 149 = some (.lcmp, 1, [], 0) := rfl
theorem k184_150 : px_cod 184 150 = some ((.ifCond .le 7), 3, [157], 0) := rfl
theorem k184_153 : px_cod 184 153 = some ((.lconst 1), 1, [], 1) := rfl
theorem k184_154 : px_cod 184 154 = some ((.goto 4), 3, [158], 0) := rfl
theorem k184_157 : px_cod 184 157 = some ((.lconst 0), 1, [], 0) := rfl
theorem k184_158 : px_cod 184 158 = some (.lreturn, 1, [], 0) := rfl
theorem k184_159 : px_cod 184 159 = some ((.lload_n 1), 1, [], 1) := rfl
theorem k184_160 : px_cod 184 160 = some ((.lload_n 3), 1, [], 3) := rfl
theorem k184_161 : px_cod 184 161 = some (.lcmp, 1, [], 0) := rfl
theorem k184_162 : px_cod 184 162 = some ((.ifCond .ne 7), 3, [169], 0) := rfl
theorem k184_165 : px_cod 184 165 = some ((.lconst 1), 1, [], 1) := rfl
theorem k184_166 : px_cod 184 166 = some ((.goto 4), 3, [170], 0) := rfl
theorem k184_169 : px_cod 184 169 = some ((.lconst 0), 1, [], 0) := rfl
theorem k184_170 : px_cod 184 170 = some (.lreturn, 1, [], 0) := rfl
theorem k184_171 : px_cod 184 171 = some ((.lload_n 1), 1, [], 1) := rfl
theorem k184_172 : px_cod 184 172 = some ((.lload_n 3), 1, [], 3) := rfl
theorem k184_173 : px_cod 184 173 = some (.lcmp, 1, [], 0) := rfl
theorem k184_174 : px_cod 184 174 = some ((.ifCond .eq 7), 3, [181], 0) := rfl
theorem k184_177 : px_cod 184 177 = some ((.lconst 1), 1, [], 1) := rfl
theorem k184_178 : px_cod 184 178 = some ((.goto 4), 3, [182], 0) := rfl
theorem k184_181 : px_cod 184 181 = some ((.lconst 0), 1, [], 0) := rfl
theorem k184_182 : px_cod 184 182 = some (.lreturn, 1, [], 0) := rfl
theorem k184_183 : px_cod 184 183 = some ((.lload_n 1), 1, [], 1) := rfl
theorem k184_184 : px_cod 184 184 = some ((.lload_n 3), 1, [], 3) := rfl
theorem k184_185 : px_cod 184 185 = some (.lcmp, 1, [], 0) := rfl
theorem k184_186 : px_cod 184 186 = some ((.ifCond .gt 7), 3, [193], 0) := rfl
theorem k184_189 : px_cod 184 189 = some ((.lconst 1), 1, [], 1) := rfl
theorem k184_190 : px_cod 184 190 = some ((.goto 4), 3, [194], 0) := rfl
theorem k184_193 : px_cod 184 193 = some ((.lconst 0), 1, [], 0) := rfl
theorem k184_194 : px_cod 184 194 = some (.lreturn, 1, [], 0) := rfl
theorem k184_195 : px_cod 184 195 = some ((.lload_n 1), 1, [], 1) := rfl
theorem k184_196 : px_cod 184 196 = some ((.lload_n 3), 1, [], 3) := rfl
theorem k184_197 : px_cod 184 197 = some (.lcmp, 1, [], 0) := rfl
theorem k184_198 : px_cod 184 198 = some ((.ifCond .lt 7), 3, [205], 0) := rfl
theorem k184_201 : px_cod 184 201 = some ((.lconst 1), 1, [], 1) := rfl
theorem k184_202 : px_cod 184 202 = some ((.goto 4), 3, [206], 0) := rfl
theorem k184_205 : px_cod 184 205 = some ((.lconst 0), 1, [], 0) := rfl
theorem k184_206 : px_cod 184 206 = some (.lreturn, 1, [], 0) := rfl
theorem k184_207 : px_cod 184 207 = some ((.lload_n 1), 1, [], 1) := rfl
theorem k184_208 : px_cod 184 208 = some ((.lload_n 3), 1, [], 3) := rfl
theorem k184_209 : px_cod 184 209 = some (.lmul, 1, [], 0) := rfl
theorem k184_210 : px_cod 184 210 = some (.lreturn, 1, [], 0) := rfl
theorem k184_211 : px_cod 184 211 = some ((.lload_n 1), 1, [], 1) := rfl
theorem k184_212 : px_cod 184 212 = some ((.lload_n 3), 1, [], 3) := rfl
theorem k184_213 : px_cod 184 213 = some (.ladd, 1, [], 0) := rfl
theorem k184_214 : px_cod 184 214 = some ((.lconst 0), 1, [], 0) := rfl
theorem k184_215 : px_cod 184 215 = some (.lcmp, 1, [], 0) := rfl
theorem k184_216 : px_cod 184 216 = some ((.ifCond .le 7), 3, [223], 0) := rfl
theorem k184_219 : px_cod 184 219 = some ((.lconst 1), 1, [], 1) := rfl
theorem k184_220 : px_cod 184 220 = some ((.goto 4), 3, [224], 0) := rfl
theorem k184_223 : px_cod 184 223 = some ((.lconst 0), 1, [], 0) := rfl
theorem k184_224 : px_cod 184 224 = some (.lreturn, 1, [], 0) := rfl
theorem k185_0 : px_cod 185 0 = some ((.iconst 0), 1, [], 0) := rfl
theorem k185_1 : px_cod 185 1 = some ((.istore_n 2), 1, [], 2) := rfl
theorem k185_2 : px_cod 185 2 = some ((.iload_n 1), 1, [], 1) := rfl
theorem k185_3 : px_cod 185 3 = some ((.istore_n 3), 1, [], 3) := rfl
theorem k185_4 : px_cod 185 4 = some ((.aload_n 0), 1, [], 0) := rfl
theorem k185_5 : px_cod 185 5 = some ((.getfield 36), 3, [196, 12, 4, 1], 12) := rfl
theorem k185_8 : px_cod 185 8 = some ((.iload_n 3), 1, [], 3) := rfl
theorem k185_9 : px_cod 185 9 = some (.iaload, 1, [], 0) := rfl
theorem k185_10 : px_cod 185 10 = some ((.sipush 408), 3, [], 408) := rfl
theorem k185_13 : px_cod 185 13 = some ((.if_icmp .eq 162), 3, [175], 0) := rfl
theorem k185_16 : px_cod 185 16 = some ((.aload_n 0), 1, [], 0) := rfl
theorem k185_17 : px_cod 185 17 = some ((.getfield 36), 3, [196, 12, 4, 1], 12) := rfl
theorem k185_20 : px_cod 185 20 = some ((.iload_n 3), 1, [], 3) := rfl
theorem k185_21 : px_cod 185 21 = some (.iaload, 1, [], 0) := rfl
theorem k185_22 : px_cod 185 22 = some ((.istore 4), 2, [], 4) := rfl
theorem k185_24 : px_cod 185 24 = some ((.iload 4), 2, [], 4) := rfl
theorem k185_26 : px_cod 185 26 = some ((.sipush 400), 3, [], 400) := rfl
theorem k185_29 : px_cod 185 29 = some ((.if_icmp .eq 11), 3, [40], 0) := rfl
theorem k185_32 : px_cod 185 32 = some ((.iload 4), 2, [], 4) := rfl
theorem k185_34 : px_cod 185 34 = some ((.sipush 401), 3, [], 401) := rfl
theorem k185_37 : px_cod 185 37 = some ((.if_icmp .ne 45), 3, [82], 0) := rfl
theorem k185_40 : px_cod 185 40 = some ((.aload_n 0), 1, [], 0) := rfl
theorem k185_41 : px_cod 185 41 = some ((.getfield 69), 3, [221, 12, 4, 1], 37) := rfl
theorem k185_44 : px_cod 185 44 = some ((.iload_n 2), 1, [], 2) := rfl
theorem k185_45 : px_cod 185 45 = some ((.iload 4), 2, [], 4) := rfl
theorem k185_47 : px_cod 185 47 = some ((.sipush 400), 3, [], 400) := rfl
theorem k185_50 : px_cod 185 50 = some ((.if_icmp .ne 13), 3, [63], 0) := rfl
theorem k185_53 : px_cod 185 53 = some ((.aload_n 0), 1, [], 0) := rfl
theorem k185_54 : px_cod 185 54 = some ((.getfield 39), 3, [197, 12, 4, 1], 13) := rfl
theorem k185_57 : px_cod 185 57 = some ((.iload_n 3), 1, [], 3) := rfl
theorem k185_58 : px_cod 185 58 = some (.iaload, 1, [], 0) := rfl
theorem k185_59 : px_cod 185 59 = some (.i2l, 1, [], 0) := rfl
theorem k185_60 : px_cod 185 60 = some ((.goto 15), 3, [75], 0) := rfl
theorem k185_63 : px_cod 185 63 = some ((.aload_n 0), 1, [], 0) := rfl
theorem k185_64 : px_cod 185 64 = some ((.getfield 66), 3, [220, 12, 4, 1], 36) := rfl
theorem k185_67 : px_cod 185 67 = some ((.aload_n 0), 1, [], 0) := rfl
theorem k185_68 : px_cod 185 68 = some ((.getfield 39), 3, [197, 12, 4, 1], 13) := rfl
theorem k185_71 : px_cod 185 71 = some ((.iload_n 3), 1, [], 3) := rfl
theorem k185_72 : px_cod 185 72 = some (.iaload, 1, [], 0) := rfl
theorem k185_73 : px_cod 185 73 = some (.iaload, 1, [], 0) := rfl
theorem k185_74 : px_cod 185 74 = some (.i2l, 1, [], 0) := rfl
theorem k185_75 : px_cod 185 75 = some (.lastore, 1, [], 0) := rfl
theorem k185_76 : px_cod 185 76 = some ((.iinc 2 1), 3, [2], 1) := rfl
theorem k185_79 : px_cod 185 79 = some ((.goto 90), 3, [169], 0) := rfl
theorem k185_82 : px_cod 185 82 = some ((.iload 4), 2, [], 4) := rfl
theorem k185_84 : px_cod 185 84 = some ((.sipush 402), 3, [], 402) := rfl
theorem k185_87 : px_cod 185 87 = some ((.if_icmp .ne 23), 3, [110], 0) := rfl
theorem k185_90 : px_cod 185 90 = some ((.aload_n 0), 1, [], 0) := rfl
theorem k185_91 : px_cod 185 91 = some ((.getfield 69), 3, [221, 12, 4, 1], 37) := rfl
theorem k185_94 : px_cod 185 94 = some ((.iload_n 2), 1, [], 2) := rfl
theorem k185_95 : px_cod 185 95 = some ((.iconst 1), 1, [], 1) := rfl
theorem k185_96 : px_cod 185 96 = some (.isub, 1, [], 0) := rfl
theorem k185_97 : px_cod 185 97 = some ((.aload_n 0), 1, [], 0) := rfl
theorem k185_98 : px_cod 185 98 = some ((.getfield 69), 3, [221, 12, 4, 1], 37) := rfl
theorem k185_101 : px_cod 185 101 = some ((.iload_n 2), 1, [], 2) := rfl
theorem k185_102 : px_cod 185 102 = some ((.iconst 1), 1, [], 1) := rfl
theorem k185_103 : px_cod 185 103 = some (.isub, 1, [], 0) := rfl
theorem k185_104 : px_cod 185 104 = some (.laload, 1, [], 0) := rfl
theorem k185_105 : px_cod 185 105 = some (.lneg, 1, [], 0) := rfl
theorem k185_106 : px_cod 185 106 = some (.lastore, 1, [], 0) := rfl
theorem k185_107 : px_cod 185 107 = some ((.goto 62), 3, [169], 0) := rfl
theorem k185_110 : px_cod 185 110 = some ((.iload 4), 2, [], 4) := rfl
theorem k185_112 : px_cod 185 112 = some ((.sipush 405), 3, [], 405) := rfl
theorem k185_115 : px_cod 185 115 = some ((.if_icmp .ne 24), 3, [139], 0) := rfl
theorem k185_118 : px_cod 185 118 = some ((.aload_n 0), 1, [], 0) := rfl
theorem k185_119 : px_cod 185 119 = some ((.getfield 69), 3, [221, 12, 4, 1], 37) := rfl
theorem k185_122 : px_cod 185 122 = some ((.iload_n 2), 1, [], 2) := rfl
theorem k185_123 : px_cod 185 123 = some ((.iconst 1), 1, [], 1) := rfl
theorem k185_124 : px_cod 185 124 = some (.isub, 1, [], 0) := rfl
theorem k185_125 : px_cod 185 125 = some ((.lconst 1), 1, [], 1) := rfl
theorem k185_126 : px_cod 185 126 = some ((.aload_n 0), 1, [], 0) := rfl
theorem k185_127 : px_cod 185 127 = some ((.getfield 69), 3, [221, 12, 4, 1], 37) := rfl
theorem k185_130 : px_cod 185 130 = some ((.iload_n 2), 1, [], 2) := rfl
theorem k185_131 : px_cod 185 131 = some ((.iconst 1), 1, [], 1) := rfl
theorem k185_132 : px_cod 185 132 = some (.isub, 1, [], 0) := rfl
theorem k185_133 : px_cod 185 133 = some (.laload, 1, [], 0) := rfl
theorem k185_134 : px_cod 185 134 = some (.lsub, 1, [], 0) := rfl
theorem k185_135 : px_cod 185 135 = some (.lastore, 1, [], 0) := rfl
theorem k185_136 : px_cod 185 136 = some ((.goto 33), 3, [169], 0) := rfl
theorem k185_139 : px_cod 185 139 = some ((.iinc 2 (-1)), 3, [2], (-1)) := rfl
theorem k185_142 : px_cod 185 142 = some ((.aload_n 0), 1, [], 0) := rfl
theorem k185_143 : px_cod 185 143 = some ((.getfield 69), 3, [221, 12, 4, 1], 37) := rfl
theorem k185_146 : px_cod 185 146 = some ((.iload_n 2), 1, [], 2) := rfl
theorem k185_147 : px_cod 185 147 = some ((.iconst 1), 1, [], 1) := rfl
theorem k185_148 : px_cod 185 148 = some (.isub, 1, [], 0) := rfl
theorem k185_149 : px_cod 185 149 = some ((.iload 4), 2, [], 4) := rfl
theorem k185_151 : px_cod 185 151 = some ((.aload_n 0), 1, [], 0) := rfl
theorem k185_152 : px_cod 185 152 = some ((.getfield 69), 3, [221, 12, 4, 1], 37) := rfl
theorem k185_155 : px_cod 185 155 = some ((.iload_n 2), 1, [], 2) := rfl
theorem k185_156 : px_cod 185 156 = some ((.iconst 1), 1, [], 1) := rfl
theorem k185_157 : px_cod 185 157 = some (.isub, 1, [], 0) := rfl
theorem k185_158 : px_cod 185 158 = some (.laload, 1, [], 0) := rfl
theorem k185_159 : px_cod 185 159 = some ((.aload_n 0), 1, [], 0) := rfl
theorem k185_160 : px_cod 185 160 = some ((.getfield 69), 3, [221, 12, 4, 1], 37) := rfl
theorem k185_163 : px_cod 185 163 = some ((.iload_n 2), 1, [], 2) := rfl
theorem k185_164 : px_cod 185 164 = some (.laload, 1, [], 0) := rfl
theorem k185_165 : px_cod 185 165 = some ((.invokestatic 336), 3, [0, 254, 184], 0) := rfl
theorem k185_168 : px_cod 185 168 = some (.lastore, 1, [], 0) := rfl
theorem k185_169 : px_cod 185 169 = some ((.iinc 3 1), 3, [3], 1) := rfl
theorem k185_172 : px_cod 185 172 = some ((.goto (-168)), 3, [4], 0) := rfl
theorem k185_175 : px_cod 185 175 = some ((.aload_n 0), 1, [], 0) := rfl
theorem k185_176 : px_cod 185 176 = some ((.getfield 69), 3, [221, 12, 4, 1], 37) := rfl
theorem k185_179 : px_cod 185 179 = some ((.iconst 0), 1, [], 0) := rfl
theorem k185_180 : px_cod 185 180 = some (.laload, 1, [], 0) := rfl
theorem k185_181 : px_cod 185 181 = some (.lreturn, 1, [], 0) := rfl
theorem k186_0 : px_cod 186 0 = some ((.iload_n 1), 1, [], 1) := rfl
theorem k186_1 : px_cod 186 1 = some ((.iconst (-1)), 1, [], (-1)) := rfl
theorem k186_2 : px_cod 186 2 = some ((.if_icmp .eq 21), 3, [23], 0) := rfl
theorem k186_5 : px_cod 186 5 = some ((.iload_n 1), 1, [], 1) := rfl
theorem k186_6 : px_cod 186 6 = some ((.iconst 0), 1, [], 0) := rfl
theorem k186_7 : px_cod 186 7 = some ((.aload_n 0), 1, [], 0) := rfl
theorem k186_8 : px_cod 186 8 = some ((.getfield 7), 3, [187, 12, 4, 1], 3) := rfl
theorem k186_11 : px_cod 186 11 = some ((.iconst 5), 1, [], 5) := rfl
theorem k186_12 : px_cod 186 12 = some (.iaload, 1, [], 0) := rfl
theorem k186_13 : px_cod 186 13 = some ((.iconst 1), 1, [], 1) := rfl
theorem k186_14 : px_cod 186 14 = some (.isub, 1, [], 0) := rfl
theorem k186_15 : px_cod 186 15 = some ((.invokestatic 138), 3, [0, 209, 141], 0) := rfl
theorem k186_18 : px_cod 186 18 = some ((.ifCond .ne 5), 3, [23], 0) := rfl
theorem k186_21 : px_cod 186 21 = some ((.iconst 0), 1, [], 0) := rfl
theorem k186_22 : px_cod 186 22 = some (.ireturn, 1, [], 0) := rfl
theorem k186_23 : px_cod 186 23 = some ((.aload_n 0), 1, [], 0) := rfl
theorem k186_24 : px_cod 186 24 = some ((.getfield 7), 3, [187, 12, 4, 1], 3) := rfl
theorem k186_27 : px_cod 186 27 = some ((.bipush 6), 2, [], 6) := rfl
theorem k186_29 : px_cod 186 29 = some ((.iload_n 1), 1, [], 1) := rfl
theorem k186_30 : px_cod 186 30 = some (.iastore, 1, [], 0) := rfl
theorem k186_31 : px_cod 186 31 = some ((.iconst 1), 1, [], 1) := rfl
theorem k186_32 : px_cod 186 32 = some (.ireturn, 1, [], 0) := rfl
theorem k187_0 : px_cod 187 0 = some ((.iconst 0), 1, [], 0) := rfl
theorem k187_1 : px_cod 187 1 = some ((.istore_n 2), 1, [], 2) := rfl
theorem k187_2 : px_cod 187 2 = some ((.iconst 0), 1, [], 0) := rfl
theorem k187_3 : px_cod 187 3 = some ((.istore_n 3), 1, [], 3) := rfl
theorem k187_4 : px_cod 187 4 = some ((.aload_n 0), 1, [], 0) := rfl
theorem k187_5 : px_cod 187 5 = some ((.getfield 7), 3, [187, 12, 4, 1], 3) := rfl
theorem k187_8 : px_cod 187 8 = some ((.bipush 6), 2, [], 6) := rfl
theorem k187_10 : px_cod 187 10 = some (.iaload, 1, [], 0) := rfl
theorem k187_11 : px_cod 187 11 = some ((.iconst (-1)), 1, [], (-1)) := rfl
theorem k187_12 : px_cod 187 12 = some ((.if_icmp .eq 56), 3, [68], 0) := rfl
theorem k187_15 : px_cod 187 15 = some ((.iload_n 3), 1, [], 3) := rfl
theorem k187_16 : px_cod 187 16 = some ((.aload_n 0), 1, [], 0) := rfl
theorem k187_17 : px_cod 187 17 = some ((.getfield 27), 3, [193, 12, 4, 1], 9) := rfl
theorem k187_20 : px_cod 187 20 = some ((.aload_n 0), 1, [], 0) := rfl
theorem k187_21 : px_cod 187 21 = some ((.getfield 7), 3, [187, 12, 4, 1], 3) := rfl
theorem k187_24 : px_cod 187 24 = some ((.bipush 6), 2, [], 6) := rfl
theorem k187_26 : px_cod 187 26 = some (.iaload, 1, [], 0) := rfl
theorem k187_27 : px_cod 187 27 = some (.iaload, 1, [], 0) := rfl
theorem k187_28 : px_cod 187 28 = some ((.if_icmp .ge 40), 3, [68], 0) := rfl
theorem k187_31 : px_cod 187 31 = some ((.iload_n 2), 1, [], 2) := rfl
theorem k187_32 : px_cod 187 32 = some ((.ifCond .ne 24), 3, [56], 0) := rfl
theorem k187_35 : px_cod 187 35 = some ((.aload_n 0), 1, [], 0) := rfl
theorem k187_36 : px_cod 187 36 = some ((.getfield 30), 3, [194, 12, 4, 1], 10) := rfl
theorem k187_39 : px_cod 187 39 = some ((.bipush 10), 2, [], 10) := rfl
theorem k187_41 : px_cod 187 41 = some ((.aload_n 0), 1, [], 0) := rfl
theorem k187_42 : px_cod 187 42 = some ((.getfield 7), 3, [187, 12, 4, 1], 3) := rfl
theorem k187_45 : px_cod 187 45 = some ((.bipush 6), 2, [], 6) := rfl
theorem k187_47 : px_cod 187 47 = some (.iaload, 1, [], 0) := rfl
theorem k187_48 : px_cod 187 48 = some (.imul, 1, [], 0) := rfl
theorem k187_49 : px_cod 187 49 = some ((.iload_n 3), 1, [], 3) := rfl
theorem k187_50 : px_cod 187 50 = some (.iadd, 1, [], 0) := rfl
theorem k187_51 : px_cod 187 51 = some (.iaload, 1, [], 0) := rfl
theorem k187_52 : px_cod 187 52 = some ((.iload_n 1), 1, [], 1) := rfl
theorem k187_53 : px_cod 187 53 = some ((.if_icmp .ne 7), 3, [60], 0) := rfl
theorem k187_56 : px_cod 187 56 = some ((.iconst 1), 1, [], 1) := rfl
theorem k187_57 : px_cod 187 57 = some ((.goto 4), 3, [61], 0) := rfl
theorem k187_60 : px_cod 187 60 = some ((.iconst 0), 1, [], 0) := rfl
theorem k187_61 : px_cod 187 61 = some ((.istore_n 2), 1, [], 2) := rfl
theorem k187_62 : px_cod 187 62 = some ((.iinc 3 1), 3, [3], 1) := rfl
theorem k187_65 : px_cod 187 65 = some ((.goto (-61)), 3, [4], 0) := rfl
theorem k187_68 : px_cod 187 68 = some ((.iload_n 2), 1, [], 2) := rfl
theorem k187_69 : px_cod 187 69 = some (.ireturn, 1, [], 0) := rfl
theorem k188_0 : px_cod 188 0 = some ((.lload_n 2), 1, [], 2) := rfl
theorem k188_1 : px_cod 188 1 = some ((.lstore 4), 2, [], 4) := rfl
theorem k188_3 : px_cod 188 3 = some ((.iconst 0), 1, [], 0) := rfl
theorem k188_4 : px_cod 188 4 = some ((.istore 6), 2, [], 6) := rfl
theorem k188_6 : px_cod 188 6 = some ((.aload_n 0), 1, [], 0) := rfl
theorem k188_7 : px_cod 188 7 = some ((.getfield 7), 3, [187, 12, 4, 1], 3) := rfl
theorem k188_10 : px_cod 188 10 = some ((.bipush 6), 2, [], 6) := rfl
theorem k188_12 : px_cod 188 12 = some (.iaload, 1, [], 0) := rfl
theorem k188_13 : px_cod 188 13 = some ((.iconst (-1)), 1, [], (-1)) := rfl
theorem k188_14 : px_cod 188 14 = some ((.if_icmp .eq 77), 3, [91], 0) := rfl
theorem k188_17 : px_cod 188 17 = some ((.iload 6), 2, [], 6) := rfl
theorem k188_19 : px_cod 188 19 = some ((.aload_n 0), 1, [], 0) := rfl
theorem k188_20 : px_cod 188 20 = some ((.getfield 27), 3, [193, 12, 4, 1], 9) := rfl
theorem k188_23 : px_cod 188 23 = some ((.aload_n 0), 1, [], 0) := rfl
theorem k188_24 : px_cod 188 24 = some ((.getfield 7), 3, [187, 12, 4, 1], 3) := rfl
theorem k188_27 : px_cod 188 27 = some ((.bipush 6), 2, [], 6) := rfl
theorem k188_29 : px_cod 188 29 = some (.iaload, 1, [], 0) := rfl
theorem k188_30 : px_cod 188 30 = some (.iaload, 1, [], 0) := rfl
theorem k188_31 : px_cod 188 31 = some ((.if_icmp .ge 60), 3, [91], 0) := rfl
theorem k188_34 : px_cod 188 34 = some ((.aload_n 0), 1, [], 0) := rfl
theorem k188_35 : px_cod 188 35 = some ((.getfield 30), 3, [194, 12, 4, 1], 10) := rfl
theorem k188_38 : px_cod 188 38 = some ((.bipush 10), 2, [], 10) := rfl
theorem k188_40 : px_cod 188 40 = some ((.aload_n 0), 1, [], 0) := rfl
theorem k188_41 : px_cod 188 41 = some ((.getfield 7), 3, [187, 12, 4, 1], 3) := rfl
theorem k188_44 : px_cod 188 44 = some ((.bipush 6), 2, [], 6) := rfl
theorem k188_46 : px_cod 188 46 = some (.iaload, 1, [], 0) := rfl
theorem k188_47 : px_cod 188 47 = some (.imul, 1, [], 0) := rfl
theorem k188_48 : px_cod 188 48 = some ((.iload 6), 2, [], 6) := rfl
theorem k188_50 : px_cod 188 50 = some (.iadd, 1, [], 0) := rfl
theorem k188_51 : px_cod 188 51 = some (.iaload, 1, [], 0) := rfl
theorem k188_52 : px_cod 188 52 = some ((.iload_n 1), 1, [], 1) := rfl
theorem k188_53 : px_cod 188 53 = some ((.if_icmp .ne 28), 3, [81], 0) := rfl
theorem k188_56 : px_cod 188 56 = some ((.aload_n 0), 1, [], 0) := rfl
theorem k188_57 : px_cod 188 57 = some ((.aload_n 0), 1, [], 0) := rfl
theorem k188_58 : px_cod 188 58 = some ((.getfield 33), 3, [195, 12, 4, 1], 11) := rfl
theorem k188_61 : px_cod 188 61 = some ((.bipush 10), 2, [], 10) := rfl
theorem k188_63 : px_cod 188 63 = some ((.aload_n 0), 1, [], 0) := rfl
theorem k188_64 : px_cod 188 64 = some ((.getfield 7), 3, [187, 12, 4, 1], 3) := rfl
theorem k188_67 : px_cod 188 67 = some ((.bipush 6), 2, [], 6) := rfl
theorem k188_69 : px_cod 188 69 = some (.iaload, 1, [], 0) := rfl
theorem k188_70 : px_cod 188 70 = some (.imul, 1, [], 0) := rfl
theorem k188_71 : px_cod 188 71 = some ((.iload 6), 2, [], 6) := rfl
theorem k188_73 : px_cod 188 73 = some (.iadd, 1, [], 0) := rfl
theorem k188_74 : px_cod 188 74 = some (.iaload, 1, [], 0) := rfl
theorem k188_75 : px_cod 188 75 = some ((.invokevirtual 340), 3, [0, 253, 185], 0) := rfl
theorem k188_78 : px_cod 188 78 = some ((.goto 5), 3, [83], 0) := rfl
theorem k188_81 : px_cod 188 81 = some ((.lload 4), 2, [], 4) := rfl
theorem k188_83 : px_cod 188 83 = some ((.lstore 4), 2, [], 4) := rfl
theorem k188_85 : px_cod 188 85 = some ((.iinc 6 1), 3, [6], 1) := rfl
theorem k188_88 : px_cod 188 88 = some ((.goto (-82)), 3, [6], 0) := rfl
theorem k188_91 : px_cod 188 91 = some ((.lload 4), 2, [], 4) := rfl
theorem k188_93 : px_cod 188 93 = some (.lreturn, 1, [], 0) := rfl
theorem k189_0 : px_cod 189 0 = some ((.iconst 0), 1, [], 0) := rfl
theorem k189_1 : px_cod 189 1 = some ((.istore_n 2), 1, [], 2) := rfl
theorem k189_2 : px_cod 189 2 = some ((.iconst 0), 1, [], 0) := rfl
theorem k189_3 : px_cod 189 3 = some ((.istore_n 3), 1, [], 3) := rfl
theorem k189_4 : px_cod 189 4 = some ((.aload_n 0), 1, [], 0) := rfl
theorem k189_5 : px_cod 189 5 = some ((.getfield 7), 3, [187, 12, 4, 1], 3) := rfl
theorem k189_8 : px_cod 189 8 = some ((.bipush 6), 2, [], 6) := rfl
theorem k189_10 : px_cod 189 10 = some (.iaload, 1, [], 0) := rfl
theorem k189_11 : px_cod 189 11 = some ((.iconst (-1)), 1, [], (-1)) := rfl
theorem k189_12 : px_cod 189 12 = some ((.if_icmp .eq 82), 3, [94], 0) := rfl
theorem k189_15 : px_cod 189 15 = some ((.iload_n 3), 1, [], 3) := rfl
theorem k189_16 : px_cod 189 16 = some ((.aload_n 0), 1, [], 0) := rfl
theorem k189_17 : px_cod 189 17 = some ((.getfield 27), 3, [193, 12, 4, 1], 9) := rfl
theorem k189_20 : px_cod 189 20 = some ((.aload_n 0), 1, [], 0) := rfl
theorem k189_21 : px_cod 189 21 = some ((.getfield 7), 3, [187, 12, 4, 1], 3) := rfl
theorem k189_24 : px_cod 189 24 = some ((.bipush 6), 2, [], 6) := rfl
theorem k189_26 : px_cod 189 26 = some (.iaload, 1, [], 0) := rfl
theorem k189_27 : px_cod 189 27 = some (.iaload, 1, [], 0) := rfl
theorem k189_28 : px_cod 189 28 = some ((.if_icmp .ge 66), 3, [94], 0) := rfl
theorem k189_31 : px_cod 189 31 = some ((.iload_n 2), 1, [], 2) := rfl
theorem k189_32 : px_cod 189 32 = some ((.ifCond .ne 50), 3, [82], 0) := rfl
theorem k189_35 : px_cod 189 35 = some ((.aload_n 0), 1, [], 0) := rfl
theorem k189_36 : px_cod 189 36 = some ((.getfield 30), 3, [194, 12, 4, 1], 10) := rfl
theorem k189_39 : px_cod 189 39 = some ((.bipush 10), 2, [], 10) := rfl
theorem k189_41 : px_cod 189 41 = some ((.aload_n 0), 1, [], 0) := rfl
theorem k189_42 : px_cod 189 42 = some ((.getfield 7), 3, [187, 12, 4, 1], 3) := rfl
theorem k189_45 : px_cod 189 45 = some ((.bipush 6), 2, [], 6) := rfl
theorem k189_47 : px_cod 189 47 = some (.iaload, 1, [], 0) := rfl
theorem k189_48 : px_cod 189 48 = some (.imul, 1, [], 0) := rfl
theorem k189_49 : px_cod 189 49 = some ((.iload_n 3), 1, [], 3) := rfl
theorem k189_50 : px_cod 189 50 = some (.iadd, 1, [], 0) := rfl
theorem k189_51 : px_cod 189 51 = some (.iaload, 1, [], 0) := rfl
theorem k189_52 : px_cod 189 52 = some ((.iload_n 1), 1, [], 1) := rfl
theorem k189_53 : px_cod 189 53 = some ((.if_icmp .ne 33), 3, [86], 0) := rfl
theorem k189_56 : px_cod 189 56 = some ((.aload_n 0), 1, [], 0) := rfl
theorem k189_57 : px_cod 189 57 = some ((.aload_n 0), 1, [], 0) := rfl
theorem k189_58 : px_cod 189 58 = some ((.getfield 33), 3, [195, 12, 4, 1], 11) := rfl
theorem k189_61 : px_cod 189 61 = some ((.bipush 10), 2, [], 10) := rfl
theorem k189_63 : px_cod 189 63 = some ((.aload_n 0), 1, [], 0) := rfl
theorem k189_64 : px_cod 189 64 = some ((.getfield 7), 3, [187, 12, 4, 1], 3) := rfl
theorem k189_67 : px_cod 189 67 = some ((.bipush 6), 2, [], 6) := rfl
theorem k189_69 : px_cod 189 69 = some (.iaload, 1, [], 0) := rfl
theorem k189_70 : px_cod 189 70 = some (.imul, 1, [], 0) := rfl
theorem k189_71 : px_cod 189 71 = some ((.iload_n 3), 1, [], 3) := rfl
theorem k189_72 : px_cod 189 72 = some (.iadd, 1, [], 0) := rfl
theorem k189_73 : px_cod 189 73 = some (.iaload, 1, [], 0) := rfl
theorem k189_74 : px_cod 189 74 = some ((.invokevirtual 340), 3, [0, 253, 185], 0) := rfl
theorem k189_77 : px_cod 189 77 = some ((.lconst 0), 1, [], 0) := rfl
theorem k189_78 : px_cod 189 78 = some (.lcmp, 1, [], 0) := rfl
theorem k189_79 : px_cod 189 79 = some ((.ifCond .le 7), 3, [86], 0) := rfl
theorem k189_82 : px_cod 189 82 = some ((.iconst 1), 1, [], 1) := rfl
theorem k189_83 : px_cod 189 83 = some ((.goto 4), 3, [87], 0) := rfl
theorem k189_86 : px_cod 189 86 = some ((.iconst 0), 1, [], 0) := rfl
theorem k189_87 : px_cod 189 87 = some ((.istore_n 2), 1, [], 2) := rfl
theorem k189_88 : px_cod 189 88 = some ((.iinc 3 1), 3, [3], 1) := rfl
theorem k189_91 : px_cod 189 91 = some ((.goto (-87)), 3, [4], 0) := rfl
theorem k189_94 : px_cod 189 94 = some ((.iload_n 2), 1, [], 2) := rfl
theorem k189_95 : px_cod 189 95 = some (.ireturn, 1, [], 0) := rfl
theorem k190_0 : px_cod 190 0 = some ((.lload_n 0), 1, [], 0) := rfl
theorem k190_1 : px_cod 190 1 = some ((.lconst 0), 1, [], 0) := rfl
theorem k190_2 : px_cod 190 2 = some (.lcmp, 1, [], 0) := rfl
theorem k190_3 : px_cod 190 3 = some ((.ifCond .ge 7), 3, [10], 0) := rfl
theorem k190_6 : px_cod 190 6 = some ((.iconst 0), 1, [], 0) := rfl
theorem k190_7 : px_cod 190 7 = some ((.goto 16), 3, [23], 0) := rfl
theorem k190_10 : px_cod 190 10 = some ((.lload_n 0), 1, [], 0) := rfl
theorem k190_11 : px_cod 190 11 = some ((.iload_n 2), 1, [], 2) := rfl
theorem k190_12 : px_cod 190 12 = some (.i2l, 1, [], 0) := rfl
theorem k190_13 : px_cod 190 13 = some (.lcmp, 1, [], 0) := rfl
theorem k190_14 : px_cod 190 14 = some ((.ifCond .le 7), 3, [21], 0) := rfl
theorem k190_17 : px_cod 190 17 = some ((.iload_n 2), 1, [], 2) := rfl
theorem k190_18 : px_cod 190 18 = some ((.goto 5), 3, [23], 0) := rfl
theorem k190_21 : px_cod 190 21 = some ((.lload_n 0), 1, [], 0) := rfl
theorem k190_22 : px_cod 190 22 = some (.l2i, 1, [], 0) := rfl
theorem k190_23 : px_cod 190 23 = some (.ireturn, 1, [], 0) := rfl
theorem k191_0 : px_cod 191 0 = some ((.iload_n 0), 1, [], 0) := rfl
theorem k191_1 : px_cod 191 1 = some ((.ifCond .ge 8), 3, [9], 0) := rfl
theorem k191_4 : px_cod 191 4 = some ((.iload_n 0), 1, [], 0) := rfl
theorem k191_5 : px_cod 191 5 = some (.ineg, 1, [], 0) := rfl
theorem k191_6 : px_cod 191 6 = some ((.goto 4), 3, [10], 0) := rfl
theorem k191_9 : px_cod 191 9 = some ((.iload_n 0), 1, [], 0) := rfl
theorem k191_10 : px_cod 191 10 = some (.ireturn, 1, [], 0) := rfl
theorem k192_0 : px_cod 192 0 = some ((.aload_n 0), 1, [], 0) := rfl
theorem k192_1 : px_cod 192 1 = some ((.iconst 0), 1, [], 0) := rfl
theorem k192_2 : px_cod 192 2 = some ((.invokevirtual 344), 3, [0, 250, 187], 0) := rfl
theorem k192_5 : px_cod 192 5 = some ((.ifCond .ne 21), 3, [26], 0) := rfl
theorem k192_8 : px_cod 192 8 = some ((.bipush 90), 2, [], 90) := rfl
theorem k192_10 : px_cod 192 10 = some ((.iload_n 1), 1, [], 1) := rfl
theorem k192_11 : px_cod 192 11 = some ((.sipush 720), 3, [], 720) := rfl
theorem k192_14 : px_cod 192 14 = some (.irem, 1, [], 0) := rfl
theorem k192_15 : px_cod 192 15 = some ((.sipush 360), 3, [], 360) := rfl
theorem k192_18 : px_cod 192 18 = some (.isub, 1, [], 0) := rfl
theorem k192_19 : px_cod 192 19 = some ((.invokestatic 347), 3, [0, 251, 191], 0) := rfl
theorem k192_22 : px_cod 192 22 = some ((.iconst 4), 1, [], 4) := rfl
theorem k192_23 : px_cod 192 23 = some (.idiv, 1, [], 0) := rfl
theorem k192_24 : px_cod 192 24 = some (.isub, 1, [], 0) := rfl
theorem k192_25 : px_cod 192 25 = some (.ireturn, 1, [], 0) := rfl
theorem k192_26 : px_cod 192 26 = some ((.aload_n 0), 1, [], 0) := rfl
theorem k192_27 : px_cod 192 27 = some ((.getfield 66), 3, [220, 12, 4, 1], 36) := rfl
theorem k192_30 : px_cod 192 30 = some ((.iconst 0), 1, [], 0) := rfl
theorem k192_31 : px_cod 192 31 = some ((.iload_n 1), 1, [], 1) := rfl
theorem k192_32 : px_cod 192 32 = some (.iastore, 1, [], 0) := rfl
theorem k192_33 : px_cod 192 33 = some ((.aload_n 0), 1, [], 0) := rfl
theorem k192_34 : px_cod 192 34 = some ((.getfield 66), 3, [220, 12, 4, 1], 36) := rfl
theorem k192_37 : px_cod 192 37 = some ((.iconst 1), 1, [], 1) := rfl
theorem k192_38 : px_cod 192 38 = some ((.aload_n 0), 1, [], 0) := rfl
theorem k192_39 : px_cod 192 39 = some ((.getfield 7), 3, [187, 12, 4, 1], 3) := rfl
theorem k192_42 : px_cod 192 42 = some ((.iconst 1), 1, [], 1) := rfl
theorem k192_43 : px_cod 192 43 = some (.iaload, 1, [], 0) := rfl
theorem k192_44 : px_cod 192 44 = some (.iastore, 1, [], 0) := rfl
theorem k192_45 : px_cod 192 45 = some ((.aload_n 0), 1, [], 0) := rfl
theorem k192_46 : px_cod 192 46 = some ((.getfield 66), 3, [220, 12, 4, 1], 36) := rfl
theorem k192_49 : px_cod 192 49 = some ((.iconst 2), 1, [], 2) := rfl
theorem k192_50 : px_cod 192 50 = some ((.aload_n 0), 1, [], 0) := rfl
theorem k192_51 : px_cod 192 51 = some ((.getfield 7), 3, [187, 12, 4, 1], 3) := rfl
theorem k192_54 : px_cod 192 54 = some ((.iconst 2), 1, [], 2) := rfl
theorem k192_55 : px_cod 192 55 = some (.iaload, 1, [], 0) := rfl
theorem k192_56 : px_cod 192 56 = some (.iastore, 1, [], 0) := rfl
theorem k192_57 : px_cod 192 57 = some ((.aload_n 0), 1, [], 0) := rfl
theorem k192_58 : px_cod 192 58 = some ((.iconst 0), 1, [], 0) := rfl
theorem k192_59 : px_cod 192 59 = some ((.lconst 0), 1, [], 0) := rfl
theorem k192_60 : px_cod 192 60 = some ((.invokevirtual 350), 3, [0, 252, 188], 0) := rfl
theorem k192_63 : px_cod 192 63 = some ((.sipush 999), 3, [], 999) := rfl
theorem k192_66 : px_cod 192 66 = some ((.invokestatic 354), 3, [0, 256, 190], 0) := rfl
theorem k192_69 : px_cod 192 69 = some (.ireturn, 1, [], 0) := rfl
theorem k193_0 : px_cod 193 0 = some ((.iload_n 1), 1, [], 1) := rfl
theorem k193_1 : px_cod 193 1 = some ((.invokestatic 358), 3, [0, 248, 145], 0) := rfl
theorem k193_4 : px_cod 193 4 = some ((.ifCond .eq 11), 3, [15], 0) := rfl
theorem k193_7 : px_cod 193 7 = some ((.aload_n 0), 1, [], 0) := rfl
theorem k193_8 : px_cod 193 8 = some ((.iload_n 1), 1, [], 1) := rfl
theorem k193_9 : px_cod 193 9 = some ((.invokevirtual 361), 3, [0, 249, 192], 0) := rfl
theorem k193_12 : px_cod 193 12 = some ((.goto 4), 3, [16], 0) := rfl
theorem k193_15 : px_cod 193 15 = some ((.iconst (-1)), 1, [], (-1)) := rfl
theorem k193_16 : px_cod 193 16 = some (.ireturn, 1, [], 0) := rfl
theorem k194_0 : px_cod 194 0 = some ((.iload_n 1), 1, [], 1) := rfl
theorem k194_1 : px_cod 194 1 = some ((.iconst (-1)), 1, [], (-1)) := rfl
theorem k194_2 : px_cod 194 2 = some ((.if_icmp .ne 7), 3, [9], 0) := rfl
theorem k194_5 : px_cod 194 5 = some ((.iconst 0), 1, [], 0) := rfl
theorem k194_6 : px_cod 194 6 = some ((.goto 14), 3, [20], 0) := rfl
theorem k194_9 : px_cod 194 9 = some ((.aload_n 0), 1, [], 0) := rfl
theorem k194_10 : px_cod 194 10 = some ((.getfield 7), 3, [187, 12, 4, 1], 3) := rfl
theorem k194_13 : px_cod 194 13 = some ((.bipush 100), 2, [], 100) := rfl
theorem k194_15 : px_cod 194 15 = some ((.iconst 2), 1, [], 2) := rfl
theorem k194_16 : px_cod 194 16 = some ((.iload_n 1), 1, [], 1) := rfl
theorem k194_17 : px_cod 194 17 = some (.imul, 1, [], 0) := rfl
theorem k194_18 : px_cod 194 18 = some (.iadd, 1, [], 0) := rfl
theorem k194_19 : px_cod 194 19 = some (.iaload, 1, [], 0) := rfl
theorem k194_20 : px_cod 194 20 = some (.ireturn, 1, [], 0) := rfl
theorem k195_0 : px_cod 195 0 = some ((.iconst (-1)), 1, [], (-1)) := rfl
theorem k195_1 : px_cod 195 1 = some ((.istore_n 2), 1, [], 2) := rfl
theorem k195_2 : px_cod 195 2 = some ((.iconst 0), 1, [], 0) := rfl
theorem k195_3 : px_cod 195 3 = some ((.istore_n 3), 1, [], 3) := rfl
theorem k195_4 : px_cod 195 4 = some ((.iload_n 3), 1, [], 3) := rfl
theorem k195_5 : px_cod 195 5 = some ((.aload_n 0), 1, [], 0) := rfl
theorem k195_6 : px_cod 195 6 = some ((.getfield 7), 3, [187, 12, 4, 1], 3) := rfl
theorem k195_9 : px_cod 195 9 = some ((.iconst 4), 1, [], 4) := rfl
theorem k195_10 : px_cod 195 10 = some (.iaload, 1, [], 0) := rfl
theorem k195_11 : px_cod 195 11 = some ((.if_icmp .ge 49), 3, [60], 0) := rfl
theorem k195_14 : px_cod 195 14 = some ((.iload_n 1), 1, [], 1) := rfl
theorem k195_15 : px_cod 195 15 = some ((.iload_n 3), 1, [], 3) := rfl
theorem k195_16 : px_cod 195 16 = some (.ishr, 1, [], 0) := rfl
theorem k195_17 : px_cod 195 17 = some ((.iconst 1), 1, [], 1) := rfl
theorem k195_18 : px_cod 195 18 = some (.iand, 1, [], 0) := rfl
theorem k195_19 : px_cod 195 19 = some ((.iconst 1), 1, [], 1) := rfl
theorem k195_20 : px_cod 195 20 = some ((.if_icmp .ne 34), 3, [54], 0) := rfl
theorem k195_23 : px_cod 195 23 = some ((.aload_n 0), 1, [], 0) := rfl
theorem k195_24 : px_cod 195 24 = some ((.getfield 79), 3, [224, 12, 4, 1], 40) := rfl
theorem k195_27 : px_cod 195 27 = some ((.iload_n 3), 1, [], 3) := rfl
theorem k195_28 : px_cod 195 28 = some (.baload, 1, [], 0) := rfl
theorem k195_29 : px_cod 195 29 = some ((.ifCond .ne 25), 3, [54], 0) := rfl
theorem k195_32 : px_cod 195 32 = some ((.iload_n 2), 1, [], 2) := rfl
theorem k195_33 : px_cod 195 33 = some ((.iconst (-1)), 1, [], (-1)) := rfl
theorem k195_34 : px_cod 195 34 = some ((.if_icmp .eq 18), 3, [52], 0) := rfl
theorem k195_37 : px_cod 195 37 = some ((.aload_n 0), 1, [], 0) := rfl
theorem k195_38 : px_cod 195 38 = some ((.iload_n 3), 1, [], 3) := rfl
theorem k195_39 : px_cod 195 39 = some ((.iconst 0), 1, [], 0) := rfl
theorem k195_40 : px_cod 195 40 = some ((.invokevirtual 364), 3, [0, 258, 146], 0) := rfl
theorem k195_43 : px_cod 195 43 = some ((.aload_n 0), 1, [], 0) := rfl
theorem k195_44 : px_cod 195 44 = some ((.iload_n 2), 1, [], 2) := rfl
theorem k195_45 : px_cod 195 45 = some ((.iconst 0), 1, [], 0) := rfl
theorem k195_46 : px_cod 195 46 = some ((.invokevirtual 364), 3, [0, 258, 146], 0) := rfl
theorem k195_49 : px_cod 195 49 = some ((.if_icmp .le 5), 3, [54], 0) := rfl
theorem k195_52 : px_cod 195 52 = some ((.iload_n 3), 1, [], 3) := rfl
theorem k195_53 : px_cod 195 53 = some ((.istore_n 2), 1, [], 2) := rfl
theorem k195_54 : px_cod 195 54 = some ((.iinc 3 1), 3, [3], 1) := rfl
theorem k195_57 : px_cod 195 57 = some ((.goto (-53)), 3, [4], 0) := rfl
theorem k195_60 : px_cod 195 60 = some ((.iload_n 2), 1, [], 2) := rfl
theorem k195_61 : px_cod 195 61 = some (.ireturn, 1, [], 0) := rfl
theorem k196_0 : px_cod 196 0 = some ((.aload_n 0), 1, [], 0) := rfl
theorem k196_1 : px_cod 196 1 = some ((.getfield 66), 3, [220, 12, 4, 1], 36) := rfl
theorem k196_4 : px_cod 196 4 = some ((.iconst 0), 1, [], 0) := rfl
theorem k196_5 : px_cod 196 5 = some ((.iload_n 2), 1, [], 2) := rfl
theorem k196_6 : px_cod 196 6 = some (.iastore, 1, [], 0) := rfl
theorem k196_7 : px_cod 196 7 = some ((.aload_n 0), 1, [], 0) := rfl
theorem k196_8 : px_cod 196 8 = some ((.getfield 66), 3, [220, 12, 4, 1], 36) := rfl
theorem k196_11 : px_cod 196 11 = some ((.iconst 3), 1, [], 3) := rfl
theorem k196_12 : px_cod 196 12 = some ((.aload_n 0), 1, [], 0) := rfl
theorem k196_13 : px_cod 196 13 = some ((.iload_n 1), 1, [], 1) := rfl
theorem k196_14 : px_cod 196 14 = some ((.iconst 0), 1, [], 0) := rfl
theorem k196_15 : px_cod 196 15 = some ((.invokevirtual 364), 3, [0, 258, 146], 0) := rfl
theorem k196_18 : px_cod 196 18 = some (.iastore, 1, [], 0) := rfl
theorem k196_19 : px_cod 196 19 = some ((.aload_n 0), 1, [], 0) := rfl
theorem k196_20 : px_cod 196 20 = some ((.getfield 66), 3, [220, 12, 4, 1], 36) := rfl
theorem k196_23 : px_cod 196 23 = some ((.iconst 4), 1, [], 4) := rfl
theorem k196_24 : px_cod 196 24 = some ((.aload_n 0), 1, [], 0) := rfl
theorem k196_25 : px_cod 196 25 = some ((.iload_n 1), 1, [], 1) := rfl
theorem k196_26 : px_cod 196 26 = some ((.iconst 2), 1, [], 2) := rfl
theorem k196_27 : px_cod 196 27 = some ((.invokevirtual 364), 3, [0, 258, 146], 0) := rfl
theorem k196_30 : px_cod 196 30 = some (.iastore, 1, [], 0) := rfl
theorem k196_31 : px_cod 196 31 = some ((.aload_n 0), 1, [], 0) := rfl
theorem k196_32 : px_cod 196 32 = some ((.getfield 66), 3, [220, 12, 4, 1], 36) := rfl
theorem k196_35 : px_cod 196 35 = some ((.iconst 5), 1, [], 5) := rfl
theorem k196_36 : px_cod 196 36 = some ((.aload_n 0), 1, [], 0) := rfl
theorem k196_37 : px_cod 196 37 = some ((.iload_n 1), 1, [], 1) := rfl
theorem k196_38 : px_cod 196 38 = some ((.iconst 3), 1, [], 3) := rfl
theorem k196_39 : px_cod 196 39 = some ((.invokevirtual 364), 3, [0, 258, 146], 0) := rfl
theorem k196_42 : px_cod 196 42 = some (.iastore, 1, [], 0) := rfl
theorem k196_43 : px_cod 196 43 = some ((.aload_n 0), 1, [], 0) := rfl
theorem k196_44 : px_cod 196 44 = some ((.getfield 66), 3, [220, 12, 4, 1], 36) := rfl
theorem k196_47 : px_cod 196 47 = some ((.bipush 6), 2, [], 6) := rfl
theorem k196_49 : px_cod 196 49 = some ((.aload_n 0), 1, [], 0) := rfl
theorem k196_50 : px_cod 196 50 = some ((.iload_n 1), 1, [], 1) := rfl
theorem k196_51 : px_cod 196 51 = some ((.iconst 4), 1, [], 4) := rfl
theorem k196_52 : px_cod 196 52 = some ((.invokevirtual 364), 3, [0, 258, 146], 0) := rfl
theorem k196_55 : px_cod 196 55 = some (.iastore, 1, [], 0) := rfl
theorem k196_56 : px_cod 196 56 = some ((.aload_n 0), 1, [], 0) := rfl
theorem k196_57 : px_cod 196 57 = some ((.getfield 66), 3, [220, 12, 4, 1], 36) := rfl
theorem k196_60 : px_cod 196 60 = some ((.bipush 8), 2, [], 8) := rfl
theorem k196_62 : px_cod 196 62 = some ((.iload_n 3), 1, [], 3) := rfl
theorem k196_63 : px_cod 196 63 = some (.iastore, 1, [], 0) := rfl
theorem k196_64 : px_cod 196 64 = some ((.iconst (-1)), 1, [], (-1)) := rfl
theorem k196_65 : px_cod 196 65 = some ((.istore 4), 2, [], 4) := rfl
theorem k196_67 : px_cod 196 67 = some ((.lconst 0), 1, [], 0) := rfl
theorem k196_68 : px_cod 196 68 = some ((.lstore 5), 2, [], 5) := rfl
theorem k196_70 : px_cod 196 70 = some ((.iconst 0), 1, [], 0) := rfl
theorem k196_71 : px_cod 196 71 = some ((.istore 7), 2, [], 7) := rfl
theorem k196_73 : px_cod 196 73 = some ((.iload 7), 2, [], 7) := rfl
theorem k196_75 : px_cod 196 75 = some ((.aload_n 0), 1, [], 0) := rfl
theorem k196_76 : px_cod 196 76 = some ((.getfield 7), 3, [187, 12, 4, 1], 3) := rfl
theorem k196_79 : px_cod 196 79 = some ((.iconst 3), 1, [], 3) := rfl
theorem k196_80 : px_cod 196 80 = some (.iaload, 1, [], 0) := rfl
theorem k196_81 : px_cod 196 81 = some ((.if_icmp .ge 106), 3, [187], 0) := rfl
theorem k196_84 : px_cod 196 84 = some ((.aload_n 0), 1, [], 0) := rfl
theorem k196_85 : px_cod 196 85 = some ((.getfield 76), 3, [223, 12, 4, 1], 39) := rfl
theorem k196_88 : px_cod 196 88 = some ((.iload 7), 2, [], 7) := rfl
theorem k196_90 : px_cod 196 90 = some (.iaload, 1, [], 0) := rfl
theorem k196_91 : px_cod 196 91 = some ((.ifCond .le 90), 3, [181], 0) := rfl
theorem k196_94 : px_cod 196 94 = some ((.aload_n 0), 1, [], 0) := rfl
theorem k196_95 : px_cod 196 95 = some ((.getfield 66), 3, [220, 12, 4, 1], 36) := rfl
theorem k196_98 : px_cod 196 98 = some ((.bipush 7), 2, [], 7) := rfl
theorem k196_100 : px_cod 196 100 = some ((.aload_n 0), 1, [], 0) := rfl
theorem k196_101 : px_cod 196 101 = some ((.iload 7), 2, [], 7) := rfl
theorem k196_103 : px_cod 196 103 = some ((.invokevirtual 368), 3, [0, 263, 194], 0) := rfl
theorem k196_106 : px_cod 196 106 = some (.iastore, 1, [], 0) := rfl
theorem k196_107 : px_cod 196 107 = some ((.aload_n 0), 1, [], 0) := rfl
theorem k196_108 : px_cod 196 108 = some ((.getfield 66), 3, [220, 12, 4, 1], 36) := rfl
theorem k196_111 : px_cod 196 111 = some ((.bipush 9), 2, [], 9) := rfl
theorem k196_113 : px_cod 196 113 = some ((.aload_n 0), 1, [], 0) := rfl
theorem k196_114 : px_cod 196 114 = some ((.getfield 7), 3, [187, 12, 4, 1], 3) := rfl
theorem k196_117 : px_cod 196 117 = some ((.bipush 100), 2, [], 100) := rfl
theorem k196_119 : px_cod 196 119 = some ((.iconst 2), 1, [], 2) := rfl
theorem k196_120 : px_cod 196 120 = some ((.iload 7), 2, [], 7) := rfl
theorem k196_122 : px_cod 196 122 = some (.imul, 1, [], 0) := rfl
theorem k196_123 : px_cod 196 123 = some (.iadd, 1, [], 0) := rfl
theorem k196_124 : px_cod 196 124 = some ((.iconst 1), 1, [], 1) := rfl
theorem k196_125 : px_cod 196 125 = some (.iadd, 1, [], 0) := rfl
theorem k196_126 : px_cod 196 126 = some (.iaload, 1, [], 0) := rfl
theorem k196_127 : px_cod 196 127 = some ((.aload_n 0), 1, [], 0) := rfl
theorem k196_128 : px_cod 196 128 = some ((.getfield 76), 3, [223, 12, 4, 1], 39) := rfl
theorem k196_131 : px_cod 196 131 = some ((.iload 7), 2, [], 7) := rfl
theorem k196_133 : px_cod 196 133 = some (.iaload, 1, [], 0) := rfl
theorem k196_134 : px_cod 196 134 = some (.isub, 1, [], 0) := rfl
theorem k196_135 : px_cod 196 135 = some (.iastore, 1, [], 0) := rfl
theorem k196_136 : px_cod 196 136 = some ((.aload_n 0), 1, [], 0) := rfl
theorem k196_137 : px_cod 196 137 = some ((.iconst 4), 1, [], 4) := rfl
theorem k196_138 : px_cod 196 138 = some ((.invokevirtual 371), 3, [0, 264, 189], 0) := rfl
theorem k196_141 : px_cod 196 141 = some ((.ifCond .ne 40), 3, [181], 0) := rfl
theorem k196_144 : px_cod 196 144 = some ((.aload_n 0), 1, [], 0) := rfl
theorem k196_145 : px_cod 196 145 = some ((.iconst 1), 1, [], 1) := rfl
theorem k196_146 : px_cod 196 146 = some ((.aload_n 0), 1, [], 0) := rfl
theorem k196_147 : px_cod 196 147 = some ((.getfield 66), 3, [220, 12, 4, 1], 36) := rfl
theorem k196_150 : px_cod 196 150 = some ((.bipush 7), 2, [], 7) := rfl
theorem k196_152 : px_cod 196 152 = some (.iaload, 1, [], 0) := rfl
theorem k196_153 : px_cod 196 153 = some (.i2l, 1, [], 0) := rfl
theorem k196_154 : px_cod 196 154 = some ((.invokevirtual 350), 3, [0, 252, 188], 0) := rfl
theorem k196_157 : px_cod 196 157 = some ((.lstore 8), 2, [], 8) := rfl
theorem k196_159 : px_cod 196 159 = some ((.iload 4), 2, [], 4) := rfl
theorem k196_161 : px_cod 196 161 = some ((.iconst (-1)), 1, [], (-1)) := rfl
theorem k196_162 : px_cod 196 162 = some ((.if_icmp .eq 11), 3, [173], 0) := rfl
theorem k196_165 : px_cod 196 165 = some ((.lload 8), 2, [], 8) := rfl
theorem k196_167 : px_cod 196 167 = some ((.lload 5), 2, [], 5) := rfl
theorem k196_169 : px_cod 196 169 = some (.lcmp, 1, [], 0) := rfl
theorem k196_170 : px_cod 196 170 = some ((.ifCond .le 11), 3, [181], 0) := rfl
theorem k196_173 : px_cod 196 173 = some ((.iload 7), 2, [], 7) := rfl
theorem k196_175 : px_cod 196 175 = some ((.istore 4), 2, [], 4) := rfl
theorem k196_177 : px_cod 196 177 = some ((.lload 8), 2, [], 8) := rfl
theorem k196_179 : px_cod 196 179 = some ((.lstore 5), 2, [], 5) := rfl
theorem k196_181 : px_cod 196 181 = some ((.iinc 7 1), 3, [7], 1) := rfl
theorem k196_184 : px_cod 196 184 = some ((.goto (-111)), 3, [73], 0) := rfl
theorem k196_187 : px_cod 196 187 = some ((.iload 4), 2, [], 4) := rfl
theorem k196_189 : px_cod 196 189 = some (.ireturn, 1, [], 0) := rfl
theorem k197_0 : px_cod 197 0 = some ((.aload_n 0), 1, [], 0) := rfl
theorem k197_1 : px_cod 197 1 = some ((.iload_n 2), 1, [], 2) := rfl
theorem k197_2 : px_cod 197 2 = some ((.invokevirtual 361), 3, [0, 249, 192], 0) := rfl
theorem k197_5 : px_cod 197 5 = some ((.istore_n 3), 1, [], 3) := rfl
theorem k197_6 : px_cod 197 6 = some ((.iconst 0), 1, [], 0) := rfl
theorem k197_7 : px_cod 197 7 = some ((.istore 4), 2, [], 4) := rfl
theorem k197_9 : px_cod 197 9 = some ((.iload 4), 2, [], 4) := rfl
theorem k197_11 : px_cod 197 11 = some ((.aload_n 0), 1, [], 0) := rfl
theorem k197_12 : px_cod 197 12 = some ((.getfield 7), 3, [187, 12, 4, 1], 3) := rfl
theorem k197_15 : px_cod 197 15 = some ((.iconst 3), 1, [], 3) := rfl
theorem k197_16 : px_cod 197 16 = some (.iaload, 1, [], 0) := rfl
theorem k197_17 : px_cod 197 17 = some ((.if_icmp .ge 30), 3, [47], 0) := rfl
theorem k197_20 : px_cod 197 20 = some ((.aload_n 0), 1, [], 0) := rfl
theorem k197_21 : px_cod 197 21 = some ((.getfield 76), 3, [223, 12, 4, 1], 39) := rfl
theorem k197_24 : px_cod 197 24 = some ((.iload 4), 2, [], 4) := rfl
theorem k197_26 : px_cod 197 26 = some ((.aload_n 0), 1, [], 0) := rfl
theorem k197_27 : px_cod 197 27 = some ((.getfield 7), 3, [187, 12, 4, 1], 3) := rfl
theorem k197_30 : px_cod 197 30 = some ((.bipush 100), 2, [], 100) := rfl
theorem k197_32 : px_cod 197 32 = some ((.iconst 2), 1, [], 2) := rfl
theorem k197_33 : px_cod 197 33 = some ((.iload 4), 2, [], 4) := rfl
theorem k197_35 : px_cod 197 35 = some (.imul, 1, [], 0) := rfl
theorem k197_36 : px_cod 197 36 = some (.iadd, 1, [], 0) := rfl
theorem k197_37 : px_cod 197 37 = some ((.iconst 1), 1, [], 1) := rfl
theorem k197_38 : px_cod 197 38 = some (.iadd, 1, [], 0) := rfl
theorem k197_39 : px_cod 197 39 = some (.iaload, 1, [], 0) := rfl
theorem k197_40 : px_cod 197 40 = some (.iastore, 1, [], 0) := rfl
theorem k197_41 : px_cod 197 41 = some ((.iinc 4 1), 3, [4], 1) := rfl
theorem k197_44 : px_cod 197 44 = some ((.goto (-35)), 3, [9], 0) := rfl
theorem k197_47 : px_cod 197 47 = some ((.iconst 0), 1, [], 0) := rfl
theorem k197_48 : px_cod 197 48 = some ((.istore 4), 2, [], 4) := rfl
theorem k197_50 : px_cod 197 50 = some ((.iload 4), 2, [], 4) := rfl
theorem k197_52 : px_cod 197 52 = some ((.bipush 10), 2, [], 10) := rfl
theorem k197_54 : px_cod 197 54 = some ((.if_icmp .ge 26), 3, [80], 0) := rfl
theorem k197_57 : px_cod 197 57 = some ((.aload_n 0), 1, [], 0) := rfl
theorem k197_58 : px_cod 197 58 = some ((.getfield 79), 3, [224, 12, 4, 1], 40) := rfl
theorem k197_61 : px_cod 197 61 = some ((.iload 4), 2, [], 4) := rfl
theorem k197_63 : px_cod 197 63 = some ((.iconst 0), 1, [], 0) := rfl
theorem k197_64 : px_cod 197 64 = some (.bastore, 1, [], 0) := rfl
theorem k197_65 : px_cod 197 65 = some ((.aload_n 0), 1, [], 0) := rfl
theorem k197_66 : px_cod 197 66 = some ((.getfield 73), 3, [222, 12, 4, 1], 38) := rfl
theorem k197_69 : px_cod 197 69 = some ((.iload 4), 2, [], 4) := rfl
theorem k197_71 : px_cod 197 71 = some ((.bipush (-2)), 2, [], (-2)) := rfl
theorem k197_73 : px_cod 197 73 = some (.iastore, 1, [], 0) := rfl
theorem k197_74 : px_cod 197 74 = some ((.iinc 4 1), 3, [4], 1) := rfl
theorem k197_77 : px_cod 197 77 = some ((.goto (-27)), 3, [50], 0) := rfl
theorem k197_80 : px_cod 197 80 = some ((.aload_n 0), 1, [], 0) := rfl
theorem k197_81 : px_cod 197 81 = some ((.iload_n 1), 1, [], 1) := rfl
theorem k197_82 : px_cod 197 82 = some ((.invokevirtual 374), 3, [0, 261, 195], 0) := rfl
theorem k197_85 : px_cod 197 85 = some ((.istore 4), 2, [], 4) := rfl
theorem k197_87 : px_cod 197 87 = some ((.iload 4), 2, [], 4) := rfl
theorem k197_89 : px_cod 197 89 = some ((.iconst (-1)), 1, [], (-1)) := rfl
theorem k197_90 : px_cod 197 90 = some ((.if_icmp .eq 57), 3, [147], 0) := rfl
theorem k197_93 : px_cod 197 93 = some ((.aload_n 0), 1, [], 0) := rfl
theorem k197_94 : px_cod 197 94 = some ((.iload 4), 2, [], 4) := rfl
theorem k197_96 : px_cod 197 96 = some ((.iload_n 2), 1, [], 2) := rfl
theorem k197_97 : px_cod 197 97 = some ((.iload_n 3), 1, [], 3) := rfl
theorem k197_98 : px_cod 197 98 = some ((.invokevirtual 377), 3, [0, 262, 196], 0) := rfl
theorem k197_101 : px_cod 197 101 = some ((.istore 5), 2, [], 5) := rfl
theorem k197_103 : px_cod 197 103 = some ((.aload_n 0), 1, [], 0) := rfl
theorem k197_104 : px_cod 197 104 = some ((.getfield 73), 3, [222, 12, 4, 1], 38) := rfl
theorem k197_107 : px_cod 197 107 = some ((.iload 4), 2, [], 4) := rfl
theorem k197_109 : px_cod 197 109 = some ((.iload 5), 2, [], 5) := rfl
theorem k197_111 : px_cod 197 111 = some (.iastore, 1, [], 0) := rfl
theorem k197_112 : px_cod 197 112 = some ((.aload_n 0), 1, [], 0) := rfl
theorem k197_113 : px_cod 197 113 = some ((.getfield 79), 3, [224, 12, 4, 1], 40) := rfl
theorem k197_116 : px_cod 197 116 = some ((.iload 4), 2, [], 4) := rfl
theorem k197_118 : px_cod 197 118 = some ((.iconst 1), 1, [], 1) := rfl
theorem k197_119 : px_cod 197 119 = some (.bastore, 1, [], 0) := rfl
theorem k197_120 : px_cod 197 120 = some ((.iload 5), 2, [], 5) := rfl
theorem k197_122 : px_cod 197 122 = some ((.iconst (-1)), 1, [], (-1)) := rfl
theorem k197_123 : px_cod 197 123 = some ((.if_icmp .eq 14), 3, [137], 0) := rfl
theorem k197_126 : px_cod 197 126 = some ((.aload_n 0), 1, [], 0) := rfl
theorem k197_127 : px_cod 197 127 = some ((.getfield 76), 3, [223, 12, 4, 1], 39) := rfl
theorem k197_130 : px_cod 197 130 = some ((.iload 5), 2, [], 5) := rfl
theorem k197_132 : px_cod 197 132 = some (.dup2, 1, [], 0) := rfl
theorem k197_133 : px_cod 197 133 = some (.iaload, 1, [], 0) := rfl
theorem k197_134 : px_cod 197 134 = some ((.iconst 1), 1, [], 1) := rfl
theorem k197_135 : px_cod 197 135 = some (.isub, 1, [], 0) := rfl
theorem k197_136 : px_cod 197 136 = some (.iastore, 1, [], 0) := rfl
theorem k197_137 : px_cod 197 137 = some ((.aload_n 0), 1, [], 0) := rfl
theorem k197_138 : px_cod 197 138 = some ((.iload_n 1), 1, [], 1) := rfl
theorem k197_139 : px_cod 197 139 = some ((.invokevirtual 374), 3, [0, 261, 195], 0) := rfl
theorem k197_142 : px_cod 197 142 = some ((.istore 4), 2, [], 4) := rfl
theorem k197_144 : px_cod 197 144 = some ((.goto (-57)), 3, [87], 0) := rfl
theorem k197_147 : px_cod 197 147 = some (.return_, 1, [], 0) := rfl
theorem k198_0 : px_cod 198 0 = some ((.iconst 0), 1, [], 0) := rfl
theorem k198_1 : px_cod 198 1 = some ((.istore_n 1), 1, [], 1) := rfl
theorem k198_2 : px_cod 198 2 = some ((.iconst 0), 1, [], 0) := rfl
theorem k198_3 : px_cod 198 3 = some ((.istore_n 2), 1, [], 2) := rfl
theorem k198_4 : px_cod 198 4 = some ((.iload_n 2), 1, [], 2) := rfl
theorem k198_5 : px_cod 198 5 = some ((.aload_n 0), 1, [], 0) := rfl
theorem k198_6 : px_cod 198 6 = some ((.getfield 7), 3, [187, 12, 4, 1], 3) := rfl
theorem k198_9 : px_cod 198 9 = some ((.iconst 4), 1, [], 4) := rfl
theorem k198_10 : px_cod 198 10 = some (.iaload, 1, [], 0) := rfl
theorem k198_11 : px_cod 198 11 = some ((.if_icmp .ge 21), 3, [32], 0) := rfl
theorem k198_14 : px_cod 198 14 = some ((.iload_n 1), 1, [], 1) := rfl
theorem k198_15 : px_cod 198 15 = some ((.aload_n 0), 1, [], 0) := rfl
theorem k198_16 : px_cod 198 16 = some ((.iload_n 2), 1, [], 2) := rfl
theorem k198_17 : px_cod 198 17 = some ((.bipush 8), 2, [], 8) := rfl
theorem k198_19 : px_cod 198 19 = some ((.invokevirtual 364), 3, [0, 258, 146], 0) := rfl
theorem k198_22 : px_cod 198 22 = some ((.iload_n 2), 1, [], 2) := rfl
theorem k198_23 : px_cod 198 23 = some (.ishl, 1, [], 0) := rfl
theorem k198_24 : px_cod 198 24 = some (.ior, 1, [], 0) := rfl
theorem k198_25 : px_cod 198 25 = some ((.istore_n 1), 1, [], 1) := rfl
theorem k198_26 : px_cod 198 26 = some ((.iinc 2 1), 3, [2], 1) := rfl
theorem k198_29 : px_cod 198 29 = some ((.goto (-25)), 3, [4], 0) := rfl
theorem k198_32 : px_cod 198 32 = some ((.iload_n 1), 1, [], 1) := rfl
theorem k198_33 : px_cod 198 33 = some (.ireturn, 1, [], 0) := rfl
theorem k199_0 : px_cod 199 0 = some ((.iload_n 1), 1, [], 1) := rfl
theorem k199_1 : px_cod 199 1 = some ((.invokestatic 358), 3, [0, 248, 145], 0) := rfl
theorem k199_4 : px_cod 199 4 = some ((.ifCond .eq 21), 3, [25], 0) := rfl
theorem k199_7 : px_cod 199 7 = some ((.aload_n 0), 1, [], 0) := rfl
theorem k199_8 : px_cod 199 8 = some ((.iload_n 2), 1, [], 2) := rfl
theorem k199_9 : px_cod 199 9 = some ((.invokevirtual 146), 3, [0, 215, 144], 0) := rfl
theorem k199_12 : px_cod 199 12 = some ((.ifCond .eq 13), 3, [25], 0) := rfl
theorem k199_15 : px_cod 199 15 = some ((.aload_n 0), 1, [], 0) := rfl
theorem k199_16 : px_cod 199 16 = some ((.iload_n 2), 1, [], 2) := rfl
theorem k199_17 : px_cod 199 17 = some ((.bipush 8), 2, [], 8) := rfl
theorem k199_19 : px_cod 199 19 = some ((.invokevirtual 364), 3, [0, 258, 146], 0) := rfl
theorem k199_22 : px_cod 199 22 = some ((.ifCond .ne 6), 3, [28], 0) := rfl
theorem k199_25 : px_cod 199 25 = some ((.bipush (-2)), 2, [], (-2)) := rfl
theorem k199_27 : px_cod 199 27 = some (.ireturn, 1, [], 0) := rfl
theorem k199_28 : px_cod 199 28 = some ((.aload_n 0), 1, [], 0) := rfl
theorem k199_29 : px_cod 199 29 = some ((.aload_n 0), 1, [], 0) := rfl
theorem k199_30 : px_cod 199 30 = some ((.invokevirtual 381), 3, [0, 259, 198], 0) := rfl
theorem k199_33 : px_cod 199 33 = some ((.iload_n 1), 1, [], 1) := rfl
theorem k199_34 : px_cod 199 34 = some ((.invokevirtual 384), 3, [0, 260, 197], 0) := rfl
theorem k199_37 : px_cod 199 37 = some ((.aload_n 0), 1, [], 0) := rfl
theorem k199_38 : px_cod 199 38 = some ((.getfield 73), 3, [222, 12, 4, 1], 38) := rfl
theorem k199_41 : px_cod 199 41 = some ((.iload_n 2), 1, [], 2) := rfl
theorem k199_42 : px_cod 199 42 = some (.iaload, 1, [], 0) := rfl
theorem k199_43 : px_cod 199 43 = some (.ireturn, 1, [], 0) := rfl
theorem k200_0 : px_cod 200 0 = some ((.aload_n 0), 1, [], 0) := rfl
theorem k200_1 : px_cod 200 1 = some ((.getfield 66), 3, [220, 12, 4, 1], 36) := rfl
theorem k200_4 : px_cod 200 4 = some ((.iconst 0), 1, [], 0) := rfl
theorem k200_5 : px_cod 200 5 = some ((.iload_n 3), 1, [], 3) := rfl
theorem k200_6 : px_cod 200 6 = some (.iastore, 1, [], 0) := rfl
theorem k200_7 : px_cod 200 7 = some ((.aload_n 0), 1, [], 0) := rfl
theorem k200_8 : px_cod 200 8 = some ((.getfield 66), 3, [220, 12, 4, 1], 36) := rfl
theorem k200_11 : px_cod 200 11 = some ((.iconst 3), 1, [], 3) := rfl
theorem k200_12 : px_cod 200 12 = some ((.aload_n 0), 1, [], 0) := rfl
theorem k200_13 : px_cod 200 13 = some ((.iload_n 1), 1, [], 1) := rfl
theorem k200_14 : px_cod 200 14 = some ((.iconst 0), 1, [], 0) := rfl
theorem k200_15 : px_cod 200 15 = some ((.invokevirtual 364), 3, [0, 258, 146], 0) := rfl
theorem k200_18 : px_cod 200 18 = some (.iastore, 1, [], 0) := rfl
theorem k200_19 : px_cod 200 19 = some ((.aload_n 0), 1, [], 0) := rfl
theorem k200_20 : px_cod 200 20 = some ((.getfield 66), 3, [220, 12, 4, 1], 36) := rfl
theorem k200_23 : px_cod 200 23 = some ((.iconst 5), 1, [], 5) := rfl
theorem k200_24 : px_cod 200 24 = some ((.aload_n 0), 1, [], 0) := rfl
theorem k200_25 : px_cod 200 25 = some ((.iload_n 1), 1, [], 1) := rfl
theorem k200_26 : px_cod 200 26 = some ((.iconst 3), 1, [], 3) := rfl
theorem k200_27 : px_cod 200 27 = some ((.invokevirtual 364), 3, [0, 258, 146], 0) := rfl
theorem k200_30 : px_cod 200 30 = some (.iastore, 1, [], 0) := rfl
theorem k200_31 : px_cod 200 31 = some ((.aload_n 0), 1, [], 0) := rfl
theorem k200_32 : px_cod 200 32 = some ((.getfield 66), 3, [220, 12, 4, 1], 36) := rfl
theorem k200_35 : px_cod 200 35 = some ((.bipush 10), 2, [], 10) := rfl
theorem k200_37 : px_cod 200 37 = some ((.aload_n 0), 1, [], 0) := rfl
theorem k200_38 : px_cod 200 38 = some ((.iload_n 2), 1, [], 2) := rfl
theorem k200_39 : px_cod 200 39 = some ((.iconst 0), 1, [], 0) := rfl
theorem k200_40 : px_cod 200 40 = some ((.invokevirtual 364), 3, [0, 258, 146], 0) := rfl
theorem k200_43 : px_cod 200 43 = some (.iastore, 1, [], 0) := rfl
theorem k200_44 : px_cod 200 44 = some ((.aload_n 0), 1, [], 0) := rfl
theorem k200_45 : px_cod 200 45 = some ((.iconst 5), 1, [], 5) := rfl
theorem k200_46 : px_cod 200 46 = some ((.invokevirtual 371), 3, [0, 264, 189], 0) := rfl
theorem k200_49 : px_cod 200 49 = some (.ireturn, 1, [], 0) := rfl
theorem k201_0 : px_cod 201 0 = some ((.iconst 0), 1, [], 0) := rfl
theorem k201_1 : px_cod 201 1 = some ((.istore_n 2), 1, [], 2) := rfl
theorem k201_2 : px_cod 201 2 = some ((.iconst 0), 1, [], 0) := rfl
theorem k201_3 : px_cod 201 3 = some ((.istore_n 3), 1, [], 3) := rfl
theorem k201_4 : px_cod 201 4 = some ((.iload_n 3), 1, [], 3) := rfl
theorem k201_5 : px_cod 201 5 = some ((.aload_n 0), 1, [], 0) := rfl
theorem k201_6 : px_cod 201 6 = some ((.getfield 7), 3, [187, 12, 4, 1], 3) := rfl
theorem k201_9 : px_cod 201 9 = some ((.iconst 4), 1, [], 4) := rfl
theorem k201_10 : px_cod 201 10 = some (.iaload, 1, [], 0) := rfl
theorem k201_11 : px_cod 201 11 = some ((.if_icmp .ge 86), 3, [97], 0) := rfl
theorem k201_14 : px_cod 201 14 = some ((.iload_n 3), 1, [], 3) := rfl
theorem k201_15 : px_cod 201 15 = some ((.iconst 1), 1, [], 1) := rfl
theorem k201_16 : px_cod 201 16 = some (.iadd, 1, [], 0) := rfl
theorem k201_17 : px_cod 201 17 = some ((.istore 4), 2, [], 4) := rfl
theorem k201_19 : px_cod 201 19 = some ((.iload 4), 2, [], 4) := rfl
theorem k201_21 : px_cod 201 21 = some ((.aload_n 0), 1, [], 0) := rfl
theorem k201_22 : px_cod 201 22 = some ((.getfield 7), 3, [187, 12, 4, 1], 3) := rfl
theorem k201_25 : px_cod 201 25 = some ((.iconst 4), 1, [], 4) := rfl
theorem k201_26 : px_cod 201 26 = some (.iaload, 1, [], 0) := rfl
theorem k201_27 : px_cod 201 27 = some ((.if_icmp .ge 64), 3, [91], 0) := rfl
theorem k201_30 : px_cod 201 30 = some ((.aload_n 0), 1, [], 0) := rfl
theorem k201_31 : px_cod 201 31 = some ((.getfield 73), 3, [222, 12, 4, 1], 38) := rfl
theorem k201_34 : px_cod 201 34 = some ((.iload_n 3), 1, [], 3) := rfl
theorem k201_35 : px_cod 201 35 = some (.iaload, 1, [], 0) := rfl
theorem k201_36 : px_cod 201 36 = some ((.ifCond .lt 49), 3, [85], 0) := rfl
theorem k201_39 : px_cod 201 39 = some ((.aload_n 0), 1, [], 0) := rfl
theorem k201_40 : px_cod 201 40 = some ((.getfield 73), 3, [222, 12, 4, 1], 38) := rfl
theorem k201_43 : px_cod 201 43 = some ((.iload_n 3), 1, [], 3) := rfl
theorem k201_44 : px_cod 201 44 = some (.iaload, 1, [], 0) := rfl
theorem k201_45 : px_cod 201 45 = some ((.aload_n 0), 1, [], 0) := rfl
theorem k201_46 : px_cod 201 46 = some ((.getfield 73), 3, [222, 12, 4, 1], 38) := rfl
theorem k201_49 : px_cod 201 49 = some ((.iload 4), 2, [], 4) := rfl
theorem k201_51 : px_cod 201 51 = some (.iaload, 1, [], 0) := rfl
theorem k201_52 : px_cod 201 52 = some ((.if_icmp .ne 33), 3, [85], 0) := rfl
theorem k201_55 : px_cod 201 55 = some ((.iload_n 2), 1, [], 2) := rfl
theorem k201_56 : px_cod 201 56 = some ((.aload_n 0), 1, [], 0) := rfl
theorem k201_57 : px_cod 201 57 = some ((.iload_n 3), 1, [], 3) := rfl
theorem k201_58 : px_cod 201 58 = some ((.iload 4), 2, [], 4) := rfl
theorem k201_60 : px_cod 201 60 = some ((.iload_n 1), 1, [], 1) := rfl
theorem k201_61 : px_cod 201 61 = some ((.invokevirtual 387), 3, [0, 268, 200], 0) := rfl
theorem k201_64 : px_cod 201 64 = some ((.ifCond .ne 14), 3, [78], 0) := rfl
theorem k201_67 : px_cod 201 67 = some ((.aload_n 0), 1, [], 0) := rfl
theorem k201_68 : px_cod 201 68 = some ((.iload 4), 2, [], 4) := rfl
theorem k201_70 : px_cod 201 70 = some ((.iload_n 3), 1, [], 3) := rfl
theorem k201_71 : px_cod 201 71 = some ((.iload_n 1), 1, [], 1) := rfl
theorem k201_72 : px_cod 201 72 = some ((.invokevirtual 387), 3, [0, 268, 200], 0) := rfl
theorem k201_75 : px_cod 201 75 = some ((.ifCond .eq 7), 3, [82], 0) := rfl
theorem k201_78 : px_cod 201 78 = some ((.iconst 1), 1, [], 1) := rfl
theorem k201_79 : px_cod 201 79 = some ((.goto 4), 3, [83], 0) := rfl
theorem k201_82 : px_cod 201 82 = some ((.iconst 0), 1, [], 0) := rfl
theorem k201_83 : px_cod 201 83 = some (.iadd, 1, [], 0) := rfl
theorem k201_84 : px_cod 201 84 = some ((.istore_n 2), 1, [], 2) := rfl
theorem k201_85 : px_cod 201 85 = some ((.iinc 4 1), 3, [4], 1) := rfl
theorem k201_88 : px_cod 201 88 = some ((.goto (-69)), 3, [19], 0) := rfl
theorem k201_91 : px_cod 201 91 = some ((.iinc 3 1), 3, [3], 1) := rfl
theorem k201_94 : px_cod 201 94 = some ((.goto (-90)), 3, [4], 0) := rfl
theorem k201_97 : px_cod 201 97 = some ((.iload_n 2), 1, [], 2) := rfl
theorem k201_98 : px_cod 201 98 = some (.ireturn, 1, [], 0) := rfl
theorem k202_0 : px_cod 202 0 = some ((.iconst 0), 1, [], 0) := rfl
theorem k202_1 : px_cod 202 1 = some ((.istore_n 3), 1, [], 3) := rfl
theorem k202_2 : px_cod 202 2 = some ((.iload_n 3), 1, [], 3) := rfl
theorem k202_3 : px_cod 202 3 = some ((.bipush 10), 2, [], 10) := rfl
theorem k202_5 : px_cod 202 5 = some ((.if_icmp .ge 21), 3, [26], 0) := rfl
theorem k202_8 : px_cod 202 8 = some ((.aload_n 0), 1, [], 0) := rfl
theorem k202_9 : px_cod 202 9 = some ((.getfield 83), 3, [225, 12, 4, 1], 41) := rfl
theorem k202_12 : px_cod 202 12 = some ((.iload_n 3), 1, [], 3) := rfl
theorem k202_13 : px_cod 202 13 = some ((.aload_n 0), 1, [], 0) := rfl
theorem k202_14 : px_cod 202 14 = some ((.getfield 73), 3, [222, 12, 4, 1], 38) := rfl
theorem k202_17 : px_cod 202 17 = some ((.iload_n 3), 1, [], 3) := rfl
theorem k202_18 : px_cod 202 18 = some (.iaload, 1, [], 0) := rfl
theorem k202_19 : px_cod 202 19 = some (.iastore, 1, [], 0) := rfl
theorem k202_20 : px_cod 202 20 = some ((.iinc 3 1), 3, [3], 1) := rfl
theorem k202_23 : px_cod 202 23 = some ((.goto (-21)), 3, [2], 0) := rfl
theorem k202_26 : px_cod 202 26 = some ((.aload_n 0), 1, [], 0) := rfl
theorem k202_27 : px_cod 202 27 = some ((.iload_n 1), 1, [], 1) := rfl
theorem k202_28 : px_cod 202 28 = some ((.iload_n 2), 1, [], 2) := rfl
theorem k202_29 : px_cod 202 29 = some ((.invokevirtual 384), 3, [0, 260, 197], 0) := rfl
theorem k202_32 : px_cod 202 32 = some ((.iconst 0), 1, [], 0) := rfl
theorem k202_33 : px_cod 202 33 = some ((.istore_n 3), 1, [], 3) := rfl
theorem k202_34 : px_cod 202 34 = some ((.iload_n 3), 1, [], 3) := rfl
theorem k202_35 : px_cod 202 35 = some ((.aload_n 0), 1, [], 0) := rfl
theorem k202_36 : px_cod 202 36 = some ((.getfield 7), 3, [187, 12, 4, 1], 3) := rfl
theorem k202_39 : px_cod 202 39 = some ((.iconst 4), 1, [], 4) := rfl
theorem k202_40 : px_cod 202 40 = some (.iaload, 1, [], 0) := rfl
theorem k202_41 : px_cod 202 41 = some ((.if_icmp .ge 96), 3, [137], 0) := rfl
theorem k202_44 : px_cod 202 44 = some ((.aload_n 0), 1, [], 0) := rfl
theorem k202_45 : px_cod 202 45 = some ((.getfield 7), 3, [187, 12, 4, 1], 3) := rfl
theorem k202_48 : px_cod 202 48 = some ((.bipush 120), 2, [], 120) := rfl
theorem k202_50 : px_cod 202 50 = some ((.bipush 14), 2, [], 14) := rfl
theorem k202_52 : px_cod 202 52 = some ((.iload_n 3), 1, [], 3) := rfl
theorem k202_53 : px_cod 202 53 = some (.imul, 1, [], 0) := rfl
theorem k202_54 : px_cod 202 54 = some (.iadd, 1, [], 0) := rfl
theorem k202_55 : px_cod 202 55 = some ((.bipush 11), 2, [], 11) := rfl
theorem k202_57 : px_cod 202 57 = some (.iadd, 1, [], 0) := rfl
theorem k202_58 : px_cod 202 58 = some (.dup2, 1, [], 0) := rfl
theorem k202_59 : px_cod 202 59 = some (.iaload, 1, [], 0) := rfl
theorem k202_60 : px_cod 202 60 = some ((.aload_n 0), 1, [], 0) := rfl
theorem k202_61 : px_cod 202 61 = some ((.getfield 7), 3, [187, 12, 4, 1], 3) := rfl
theorem k202_64 : px_cod 202 64 = some ((.bipush 10), 2, [], 10) := rfl
theorem k202_66 : px_cod 202 66 = some (.iaload, 1, [], 0) := rfl
theorem k202_67 : px_cod 202 67 = some ((.ifCond .le 22), 3, [89], 0) := rfl
theorem k202_70 : px_cod 202 70 = some ((.aload_n 0), 1, [], 0) := rfl
theorem k202_71 : px_cod 202 71 = some ((.getfield 73), 3, [222, 12, 4, 1], 38) := rfl
theorem k202_74 : px_cod 202 74 = some ((.iload_n 3), 1, [], 3) := rfl
theorem k202_75 : px_cod 202 75 = some (.iaload, 1, [], 0) := rfl
theorem k202_76 : px_cod 202 76 = some ((.aload_n 0), 1, [], 0) := rfl
theorem k202_77 : px_cod 202 77 = some ((.getfield 83), 3, [225, 12, 4, 1], 41) := rfl
theorem k202_80 : px_cod 202 80 = some ((.iload_n 3), 1, [], 3) := rfl
theorem k202_81 : px_cod 202 81 = some (.iaload, 1, [], 0) := rfl
theorem k202_82 : px_cod 202 82 = some ((.if_icmp .eq 7), 3, [89], 0) := rfl
theorem k202_85 : px_cod 202 85 = some ((.iconst 1), 1, [], 1) := rfl
theorem k202_86 : px_cod 202 86 = some ((.goto 4), 3, [90], 0) := rfl
theorem k202_89 : px_cod 202 89 = some ((.iconst 0), 1, [], 0) := rfl
theorem k202_90 : px_cod 202 90 = some (.iadd, 1, [], 0) := rfl
theorem k202_91 : px_cod 202 91 = some (.iastore, 1, [], 0) := rfl
theorem k202_92 : px_cod 202 92 = some ((.aload_n 0), 1, [], 0) := rfl
theorem k202_93 : px_cod 202 93 = some ((.getfield 7), 3, [187, 12, 4, 1], 3) := rfl
theorem k202_96 : px_cod 202 96 = some ((.bipush 10), 2, [], 10) := rfl
theorem k202_98 : px_cod 202 98 = some (.iaload, 1, [], 0) := rfl
theorem k202_99 : px_cod 202 99 = some ((.bipush 50), 2, [], 50) := rfl
theorem k202_101 : px_cod 202 101 = some ((.if_icmp .ge 30), 3, [131], 0) := rfl
theorem k202_104 : px_cod 202 104 = some ((.aload_n 0), 1, [], 0) := rfl
theorem k202_105 : px_cod 202 105 = some ((.getfield 7), 3, [187, 12, 4, 1], 3) := rfl
theorem k202_108 : px_cod 202 108 = some ((.sipush 320), 3, [], 320) := rfl
theorem k202_111 : px_cod 202 111 = some ((.bipush 10), 2, [], 10) := rfl
theorem k202_113 : px_cod 202 113 = some ((.aload_n 0), 1, [], 0) := rfl
theorem k202_114 : px_cod 202 114 = some ((.getfield 7), 3, [187, 12, 4, 1], 3) := rfl
theorem k202_117 : px_cod 202 117 = some ((.bipush 10), 2, [], 10) := rfl
theorem k202_119 : px_cod 202 119 = some (.iaload, 1, [], 0) := rfl
theorem k202_120 : px_cod 202 120 = some (.imul, 1, [], 0) := rfl
theorem k202_121 : px_cod 202 121 = some (.iadd, 1, [], 0) := rfl
theorem k202_122 : px_cod 202 122 = some ((.iload_n 3), 1, [], 3) := rfl
theorem k202_123 : px_cod 202 123 = some (.iadd, 1, [], 0) := rfl
theorem k202_124 : px_cod 202 124 = some ((.aload_n 0), 1, [], 0) := rfl
theorem k202_125 : px_cod 202 125 = some ((.getfield 73), 3, [222, 12, 4, 1], 38) := rfl
theorem k202_128 : px_cod 202 128 = some ((.iload_n 3), 1, [], 3) := rfl
theorem k202_129 : px_cod 202 129 = some (.iaload, 1, [], 0) := rfl
theorem k202_130 : px_cod 202 130 = some (.iastore, 1, [], 0) := rfl
theorem k202_131 : px_cod 202 131 = some ((.iinc 3 1), 3, [3], 1) := rfl
theorem k202_134 : px_cod 202 134 = some ((.goto (-100)), 3, [34], 0) := rfl
theorem k202_137 : px_cod 202 137 = some ((.aload_n 0), 1, [], 0) := rfl
theorem k202_138 : px_cod 202 138 = some ((.getfield 7), 3, [187, 12, 4, 1], 3) := rfl
theorem k202_141 : px_cod 202 141 = some ((.bipush 9), 2, [], 9) := rfl
theorem k202_143 : px_cod 202 143 = some (.dup2, 1, [], 0) := rfl
theorem k202_144 : px_cod 202 144 = some (.iaload, 1, [], 0) := rfl
theorem k202_145 : px_cod 202 145 = some ((.aload_n 0), 1, [], 0) := rfl
theorem k202_146 : px_cod 202 146 = some ((.iload_n 2), 1, [], 2) := rfl
theorem k202_147 : px_cod 202 147 = some ((.invokevirtual 390), 3, [0, 267, 201], 0) := rfl
theorem k202_150 : px_cod 202 150 = some (.iadd, 1, [], 0) := rfl
theorem k202_151 : px_cod 202 151 = some (.iastore, 1, [], 0) := rfl
theorem k202_152 : px_cod 202 152 = some ((.aload_n 0), 1, [], 0) := rfl
theorem k202_153 : px_cod 202 153 = some ((.getfield 7), 3, [187, 12, 4, 1], 3) := rfl
theorem k202_156 : px_cod 202 156 = some ((.bipush 10), 2, [], 10) := rfl
theorem k202_158 : px_cod 202 158 = some (.dup2, 1, [], 0) := rfl
theorem k202_159 : px_cod 202 159 = some (.iaload, 1, [], 0) := rfl
theorem k202_160 : px_cod 202 160 = some ((.iconst 1), 1, [], 1) := rfl
theorem k202_161 : px_cod 202 161 = some (.iadd, 1, [], 0) := rfl
theorem k202_162 : px_cod 202 162 = some (.iastore, 1, [], 0) := rfl
theorem k202_163 : px_cod 202 163 = some (.return_, 1, [], 0) := rfl
theorem k203_0 : px_cod 203 0 = some ((.iload_n 1), 1, [], 1) := rfl
theorem k203_1 : px_cod 203 1 = some ((.invokestatic 358), 3, [0, 248, 145], 0) := rfl
theorem k203_4 : px_cod 203 4 = some ((.ifCond .eq 25), 3, [29], 0) := rfl
theorem k203_7 : px_cod 203 7 = some ((.iload_n 2), 1, [], 2) := rfl
theorem k203_8 : px_cod 203 8 = some ((.invokestatic 358), 3, [0, 248, 145], 0) := rfl
theorem k203_11 : px_cod 203 11 = some ((.ifCond .eq 18), 3, [29], 0) := rfl
theorem k203_14 : px_cod 203 14 = some ((.iload_n 1), 1, [], 1) := rfl
theorem k203_15 : px_cod 203 15 = some ((.iload_n 2), 1, [], 2) := rfl
theorem k203_16 : px_cod 203 16 = some ((.if_icmp .gt 13), 3, [29], 0) := rfl
theorem k203_19 : px_cod 203 19 = some ((.iload_n 3), 1, [], 3) := rfl
theorem k203_20 : px_cod 203 20 = some ((.iconst 1), 1, [], 1) := rfl
theorem k203_21 : px_cod 203 21 = some ((.bipush 60), 2, [], 60) := rfl
theorem k203_23 : px_cod 203 23 = some ((.invokestatic 138), 3, [0, 209, 141], 0) := rfl
theorem k203_26 : px_cod 203 26 = some ((.ifCond .ne 5), 3, [31], 0) := rfl
theorem k203_29 : px_cod 203 29 = some ((.iconst (-1)), 1, [], (-1)) := rfl
theorem k203_30 : px_cod 203 30 = some (.ireturn, 1, [], 0) := rfl
theorem k203_31 : px_cod 203 31 = some ((.aload_n 0), 1, [], 0) := rfl
theorem k203_32 : px_cod 203 32 = some ((.invokevirtual 381), 3, [0, 259, 198], 0) := rfl
theorem k203_35 : px_cod 203 35 = some ((.istore 4), 2, [], 4) := rfl
theorem k203_37 : px_cod 203 37 = some ((.aload_n 0), 1, [], 0) := rfl
theorem k203_38 : px_cod 203 38 = some ((.getfield 7), 3, [187, 12, 4, 1], 3) := rfl
theorem k203_41 : px_cod 203 41 = some ((.bipush 9), 2, [], 9) := rfl
theorem k203_43 : px_cod 203 43 = some ((.iconst 0), 1, [], 0) := rfl
theorem k203_44 : px_cod 203 44 = some (.iastore, 1, [], 0) := rfl
theorem k203_45 : px_cod 203 45 = some ((.aload_n 0), 1, [], 0) := rfl
theorem k203_46 : px_cod 203 46 = some ((.getfield 7), 3, [187, 12, 4, 1], 3) := rfl
theorem k203_49 : px_cod 203 49 = some ((.bipush 10), 2, [], 10) := rfl
theorem k203_51 : px_cod 203 51 = some ((.iconst 0), 1, [], 0) := rfl
theorem k203_52 : px_cod 203 52 = some (.iastore, 1, [], 0) := rfl
theorem k203_53 : px_cod 203 53 = some ((.iconst 0), 1, [], 0) := rfl
theorem k203_54 : px_cod 203 54 = some ((.istore 5), 2, [], 5) := rfl
theorem k203_56 : px_cod 203 56 = some ((.iload 5), 2, [], 5) := rfl
theorem k203_58 : px_cod 203 58 = some ((.aload_n 0), 1, [], 0) := rfl
theorem k203_59 : px_cod 203 59 = some ((.getfield 7), 3, [187, 12, 4, 1], 3) := rfl
theorem k203_62 : px_cod 203 62 = some ((.iconst 4), 1, [], 4) := rfl
theorem k203_63 : px_cod 203 63 = some (.iaload, 1, [], 0) := rfl
theorem k203_64 : px_cod 203 64 = some ((.if_icmp .ge 70), 3, [134], 0) := rfl
theorem k203_67 : px_cod 203 67 = some ((.bipush 120), 2, [], 120) := rfl
theorem k203_69 : px_cod 203 69 = some ((.bipush 14), 2, [], 14) := rfl
theorem k203_71 : px_cod 203 71 = some ((.iload 5), 2, [], 5) := rfl
theorem k203_73 : px_cod 203 73 = some (.imul, 1, [], 0) := rfl
theorem k203_74 : px_cod 203 74 = some (.iadd, 1, [], 0) := rfl
theorem k203_75 : px_cod 203 75 = some ((.istore 6), 2, [], 6) := rfl
theorem k203_77 : px_cod 203 77 = some ((.aload_n 0), 1, [], 0) := rfl
theorem k203_78 : px_cod 203 78 = some ((.getfield 7), 3, [187, 12, 4, 1], 3) := rfl
theorem k203_81 : px_cod 203 81 = some ((.iload 6), 2, [], 6) := rfl
theorem k203_83 : px_cod 203 83 = some ((.bipush 9), 2, [], 9) := rfl
theorem k203_85 : px_cod 203 85 = some (.iadd, 1, [], 0) := rfl
theorem k203_86 : px_cod 203 86 = some ((.iconst 0), 1, [], 0) := rfl
theorem k203_87 : px_cod 203 87 = some (.iastore, 1, [], 0) := rfl
theorem k203_88 : px_cod 203 88 = some ((.aload_n 0), 1, [], 0) := rfl
theorem k203_89 : px_cod 203 89 = some ((.getfield 7), 3, [187, 12, 4, 1], 3) := rfl
theorem k203_92 : px_cod 203 92 = some ((.iload 6), 2, [], 6) := rfl
theorem k203_94 : px_cod 203 94 = some ((.bipush 10), 2, [], 10) := rfl
theorem k203_96 : px_cod 203 96 = some (.iadd, 1, [], 0) := rfl
theorem k203_97 : px_cod 203 97 = some ((.iconst 0), 1, [], 0) := rfl
theorem k203_98 : px_cod 203 98 = some (.iastore, 1, [], 0) := rfl
theorem k203_99 : px_cod 203 99 = some ((.aload_n 0), 1, [], 0) := rfl
theorem k203_100 : px_cod 203 100 = some ((.getfield 7), 3, [187, 12, 4, 1], 3) := rfl
theorem k203_103 : px_cod 203 103 = some ((.iload 6), 2, [], 6) := rfl
theorem k203_105 : px_cod 203 105 = some ((.bipush 11), 2, [], 11) := rfl
theorem k203_107 : px_cod 203 107 = some (.iadd, 1, [], 0) := rfl
theorem k203_108 : px_cod 203 108 = some ((.iconst 0), 1, [], 0) := rfl
theorem k203_109 : px_cod 203 109 = some (.iastore, 1, [], 0) := rfl
theorem k203_110 : px_cod 203 110 = some ((.aload_n 0), 1, [], 0) := rfl
theorem k203_111 : px_cod 203 111 = some ((.getfield 7), 3, [187, 12, 4, 1], 3) := rfl
theorem k203_114 : px_cod 203 114 = some ((.iload 6), 2, [], 6) := rfl
theorem k203_116 : px_cod 203 116 = some ((.bipush 12), 2, [], 12) := rfl
theorem k203_118 : px_cod 203 118 = some (.iadd, 1, [], 0) := rfl
theorem k203_119 : px_cod 203 119 = some ((.aload_n 0), 1, [], 0) := rfl
theorem k203_120 : px_cod 203 120 = some ((.iload 5), 2, [], 5) := rfl
theorem k203_122 : px_cod 203 122 = some ((.bipush 8), 2, [], 8) := rfl
theorem k203_124 : px_cod 203 124 = some ((.invokevirtual 364), 3, [0, 258, 146], 0) := rfl
theorem k203_127 : px_cod 203 127 = some (.iastore, 1, [], 0) := rfl
theorem k203_128 : px_cod 203 128 = some ((.iinc 5 1), 3, [5], 1) := rfl
theorem k203_131 : px_cod 203 131 = some ((.goto (-75)), 3, [56], 0) := rfl
theorem k203_134 : px_cod 203 134 = some ((.iload_n 1), 1, [], 1) := rfl
theorem k203_135 : px_cod 203 135 = some ((.istore 5), 2, [], 5) := rfl
theorem k203_137 : px_cod 203 137 = some ((.iload 5), 2, [], 5) := rfl
theorem k203_139 : px_cod 203 139 = some ((.iload_n 2), 1, [], 2) := rfl
theorem k203_140 : px_cod 203 140 = some ((.if_icmp .gt 152), 3, [292], 0) := rfl
theorem k203_143 : px_cod 203 143 = some ((.iload 5), 2, [], 5) := rfl
theorem k203_145 : px_cod 203 145 = some ((.iload_n 1), 1, [], 1) := rfl
theorem k203_146 : px_cod 203 146 = some (.isub, 1, [], 0) := rfl
theorem k203_147 : px_cod 203 147 = some ((.iload_n 3), 1, [], 3) := rfl
theorem k203_148 : px_cod 203 148 = some (.irem, 1, [], 0) := rfl
theorem k203_149 : px_cod 203 149 = some ((.ifCond .ne 11), 3, [160], 0) := rfl
theorem k203_152 : px_cod 203 152 = some ((.aload_n 0), 1, [], 0) := rfl
theorem k203_153 : px_cod 203 153 = some ((.iload 4), 2, [], 4) := rfl
theorem k203_155 : px_cod 203 155 = some ((.iload 5), 2, [], 5) := rfl
theorem k203_157 : px_cod 203 157 = some ((.invokevirtual 393), 3, [0, 266, 202], 0) := rfl
theorem k203_160 : px_cod 203 160 = some ((.aload_n 0), 1, [], 0) := rfl
theorem k203_161 : px_cod 203 161 = some ((.iload 5), 2, [], 5) := rfl
theorem k203_163 : px_cod 203 163 = some ((.invokevirtual 361), 3, [0, 249, 192], 0) := rfl
theorem k203_166 : px_cod 203 166 = some ((.istore 6), 2, [], 6) := rfl
theorem k203_168 : px_cod 203 168 = some ((.iconst 0), 1, [], 0) := rfl
theorem k203_169 : px_cod 203 169 = some ((.istore 7), 2, [], 7) := rfl
theorem k203_171 : px_cod 203 171 = some ((.iload 7), 2, [], 7) := rfl
theorem k203_173 : px_cod 203 173 = some ((.aload_n 0), 1, [], 0) := rfl
theorem k203_174 : px_cod 203 174 = some ((.getfield 7), 3, [187, 12, 4, 1], 3) := rfl
theorem k203_177 : px_cod 203 177 = some ((.iconst 4), 1, [], 4) := rfl
theorem k203_178 : px_cod 203 178 = some (.iaload, 1, [], 0) := rfl
theorem k203_179 : px_cod 203 179 = some ((.if_icmp .ge 107), 3, [286], 0) := rfl
theorem k203_182 : px_cod 203 182 = some ((.aload_n 0), 1, [], 0) := rfl
theorem k203_183 : px_cod 203 183 = some ((.getfield 73), 3, [222, 12, 4, 1], 38) := rfl
theorem k203_186 : px_cod 203 186 = some ((.iload 7), 2, [], 7) := rfl
theorem k203_188 : px_cod 203 188 = some (.iaload, 1, [], 0) := rfl
theorem k203_189 : px_cod 203 189 = some ((.bipush (-2)), 2, [], (-2)) := rfl
theorem k203_191 : px_cod 203 191 = some ((.if_icmp .eq 89), 3, [280], 0) := rfl
theorem k203_194 : px_cod 203 194 = some ((.bipush 120), 2, [], 120) := rfl
theorem k203_196 : px_cod 203 196 = some ((.bipush 14), 2, [], 14) := rfl
theorem k203_198 : px_cod 203 198 = some ((.iload 7), 2, [], 7) := rfl
theorem k203_200 : px_cod 203 200 = some (.imul, 1, [], 0) := rfl
theorem k203_201 : px_cod 203 201 = some (.iadd, 1, [], 0) := rfl
theorem k203_202 : px_cod 203 202 = some ((.istore 8), 2, [], 8) := rfl
theorem k203_204 : px_cod 203 204 = some ((.aload_n 0), 1, [], 0) := rfl
theorem k203_205 : px_cod 203 205 = some ((.getfield 7), 3, [187, 12, 4, 1], 3) := rfl
theorem k203_208 : px_cod 203 208 = some ((.iload 8), 2, [], 8) := rfl
theorem k203_210 : px_cod 203 210 = some ((.bipush 9), 2, [], 9) := rfl
theorem k203_212 : px_cod 203 212 = some (.iadd, 1, [], 0) := rfl
theorem k203_213 : px_cod 203 213 = some (.dup2, 1, [], 0) := rfl
theorem k203_214 : px_cod 203 214 = some (.iaload, 1, [], 0) := rfl
theorem k203_215 : px_cod 203 215 = some ((.iload 6), 2, [], 6) := rfl
theorem k203_217 : px_cod 203 217 = some ((.aload_n 0), 1, [], 0) := rfl
theorem k203_218 : px_cod 203 218 = some ((.aload_n 0), 1, [], 0) := rfl
theorem k203_219 : px_cod 203 219 = some ((.getfield 73), 3, [222, 12, 4, 1], 38) := rfl
theorem k203_222 : px_cod 203 222 = some ((.iload 7), 2, [], 7) := rfl
theorem k203_224 : px_cod 203 224 = some (.iaload, 1, [], 0) := rfl
theorem k203_225 : px_cod 203 225 = some ((.invokevirtual 368), 3, [0, 263, 194], 0) := rfl
theorem k203_228 : px_cod 203 228 = some ((.if_icmp .le 7), 3, [235], 0) := rfl
theorem k203_231 : px_cod 203 231 = some ((.iconst 1), 1, [], 1) := rfl
theorem k203_232 : px_cod 203 232 = some ((.goto 4), 3, [236], 0) := rfl
theorem k203_235 : px_cod 203 235 = some ((.iconst 0), 1, [], 0) := rfl
theorem k203_236 : px_cod 203 236 = some (.iadd, 1, [], 0) := rfl
theorem k203_237 : px_cod 203 237 = some (.iastore, 1, [], 0) := rfl
theorem k203_238 : px_cod 203 238 = some ((.aload_n 0), 1, [], 0) := rfl
theorem k203_239 : px_cod 203 239 = some ((.getfield 7), 3, [187, 12, 4, 1], 3) := rfl
theorem k203_242 : px_cod 203 242 = some ((.iload 8), 2, [], 8) := rfl
theorem k203_244 : px_cod 203 244 = some ((.bipush 10), 2, [], 10) := rfl
theorem k203_246 : px_cod 203 246 = some (.iadd, 1, [], 0) := rfl
theorem k203_247 : px_cod 203 247 = some (.dup2, 1, [], 0) := rfl
theorem k203_248 : px_cod 203 248 = some (.iaload, 1, [], 0) := rfl
theorem k203_249 : px_cod 203 249 = some ((.iload 6), 2, [], 6) := rfl
theorem k203_251 : px_cod 203 251 = some ((.aload_n 0), 1, [], 0) := rfl
theorem k203_252 : px_cod 203 252 = some ((.aload_n 0), 1, [], 0) := rfl
theorem k203_253 : px_cod 203 253 = some ((.getfield 73), 3, [222, 12, 4, 1], 38) := rfl
theorem k203_256 : px_cod 203 256 = some ((.iload 7), 2, [], 7) := rfl
theorem k203_258 : px_cod 203 258 = some (.iaload, 1, [], 0) := rfl
theorem k203_259 : px_cod 203 259 = some ((.invokevirtual 368), 3, [0, 263, 194], 0) := rfl
theorem k203_262 : px_cod 203 262 = some ((.aload_n 0), 1, [], 0) := rfl
theorem k203_263 : px_cod 203 263 = some ((.iload 7), 2, [], 7) := rfl
theorem k203_265 : px_cod 203 265 = some ((.iconst 1), 1, [], 1) := rfl
theorem k203_266 : px_cod 203 266 = some ((.invokevirtual 364), 3, [0, 258, 146], 0) := rfl
theorem k203_269 : px_cod 203 269 = some (.iadd, 1, [], 0) := rfl
theorem k203_270 : px_cod 203 270 = some ((.if_icmp .le 7), 3, [277], 0) := rfl
theorem k203_273 : px_cod 203 273 = some ((.iconst 1), 1, [], 1) := rfl
theorem k203_274 : px_cod 203 274 = some ((.goto 4), 3, [278], 0) := rfl
theorem k203_277 : px_cod 203 277 = some ((.iconst 0), 1, [], 0) := rfl
theorem k203_278 : px_cod 203 278 = some (.iadd, 1, [], 0) := rfl
theorem k203_279 : px_cod 203 279 = some (.iastore, 1, [], 0) := rfl
theorem k203_280 : px_cod 203 280 = some ((.iinc 7 1), 3, [7], 1) := rfl
theorem k203_283 : px_cod 203 283 = some ((.goto (-112)), 3, [171], 0) := rfl
theorem k203_286 : px_cod 203 286 = some ((.iinc 5 1), 3, [5], 1) := rfl
theorem k203_289 : px_cod 203 289 = some ((.goto (-152)), 3, [137], 0) := rfl
theorem k203_292 : px_cod 203 292 = some ((.aload_n 0), 1, [], 0) := rfl
theorem k203_293 : px_cod 203 293 = some ((.getfield 7), 3, [187, 12, 4, 1], 3) := rfl
theorem k203_296 : px_cod 203 296 = some ((.bipush 10), 2, [], 10) := rfl
theorem k203_298 : px_cod 203 298 = some (.iaload, 1, [], 0) := rfl
theorem k203_299 : px_cod 203 299 = some (.ireturn, 1, [], 0) := rfl
theorem k204_0 : px_cod 204 0 = some ((.aload_n 0), 1, [], 0) := rfl
theorem k204_1 : px_cod 204 1 = some ((.iload_n 1), 1, [], 1) := rfl
theorem k204_2 : px_cod 204 2 = some ((.bipush 12), 2, [], 12) := rfl
theorem k204_4 : px_cod 204 4 = some ((.invokevirtual 364), 3, [0, 258, 146], 0) := rfl
theorem k204_7 : px_cod 204 7 = some ((.ifCond .ne 5), 3, [12], 0) := rfl
theorem k204_10 : px_cod 204 10 = some ((.iconst 0), 1, [], 0) := rfl
theorem k204_11 : px_cod 204 11 = some (.ireturn, 1, [], 0) := rfl
theorem k204_12 : px_cod 204 12 = some ((.aload_n 0), 1, [], 0) := rfl
theorem k204_13 : px_cod 204 13 = some ((.getfield 66), 3, [220, 12, 4, 1], 36) := rfl
theorem k204_16 : px_cod 204 16 = some ((.iconst 3), 1, [], 3) := rfl
theorem k204_17 : px_cod 204 17 = some ((.aload_n 0), 1, [], 0) := rfl
theorem k204_18 : px_cod 204 18 = some ((.iload_n 1), 1, [], 1) := rfl
theorem k204_19 : px_cod 204 19 = some ((.iconst 0), 1, [], 0) := rfl
theorem k204_20 : px_cod 204 20 = some ((.invokevirtual 364), 3, [0, 258, 146], 0) := rfl
theorem k204_23 : px_cod 204 23 = some (.iastore, 1, [], 0) := rfl
theorem k204_24 : px_cod 204 24 = some ((.aload_n 0), 1, [], 0) := rfl
theorem k204_25 : px_cod 204 25 = some ((.getfield 66), 3, [220, 12, 4, 1], 36) := rfl
theorem k204_28 : px_cod 204 28 = some ((.bipush 6), 2, [], 6) := rfl
theorem k204_30 : px_cod 204 30 = some ((.aload_n 0), 1, [], 0) := rfl
theorem k204_31 : px_cod 204 31 = some ((.iload_n 1), 1, [], 1) := rfl
theorem k204_32 : px_cod 204 32 = some ((.iconst 4), 1, [], 4) := rfl
theorem k204_33 : px_cod 204 33 = some ((.invokevirtual 364), 3, [0, 258, 146], 0) := rfl
theorem k204_36 : px_cod 204 36 = some (.iastore, 1, [], 0) := rfl
theorem k204_37 : px_cod 204 37 = some ((.aload_n 0), 1, [], 0) := rfl
theorem k204_38 : px_cod 204 38 = some ((.getfield 66), 3, [220, 12, 4, 1], 36) := rfl
theorem k204_41 : px_cod 204 41 = some ((.bipush 11), 2, [], 11) := rfl
theorem k204_43 : px_cod 204 43 = some ((.aload_n 0), 1, [], 0) := rfl
theorem k204_44 : px_cod 204 44 = some ((.iload_n 1), 1, [], 1) := rfl
theorem k204_45 : px_cod 204 45 = some ((.bipush 9), 2, [], 9) := rfl
theorem k204_47 : px_cod 204 47 = some ((.invokevirtual 364), 3, [0, 258, 146], 0) := rfl
theorem k204_50 : px_cod 204 50 = some (.iastore, 1, [], 0) := rfl
theorem k204_51 : px_cod 204 51 = some ((.aload_n 0), 1, [], 0) := rfl
theorem k204_52 : px_cod 204 52 = some ((.getfield 66), 3, [220, 12, 4, 1], 36) := rfl
theorem k204_55 : px_cod 204 55 = some ((.bipush 12), 2, [], 12) := rfl
theorem k204_57 : px_cod 204 57 = some ((.aload_n 0), 1, [], 0) := rfl
theorem k204_58 : px_cod 204 58 = some ((.iload_n 1), 1, [], 1) := rfl
theorem k204_59 : px_cod 204 59 = some ((.bipush 11), 2, [], 11) := rfl
theorem k204_61 : px_cod 204 61 = some ((.invokevirtual 364), 3, [0, 258, 146], 0) := rfl
theorem k204_64 : px_cod 204 64 = some (.iastore, 1, [], 0) := rfl
theorem k204_65 : px_cod 204 65 = some ((.aload_n 0), 1, [], 0) := rfl
theorem k204_66 : px_cod 204 66 = some ((.getfield 66), 3, [220, 12, 4, 1], 36) := rfl
theorem k204_69 : px_cod 204 69 = some ((.bipush 13), 2, [], 13) := rfl
theorem k204_71 : px_cod 204 71 = some ((.aload_n 0), 1, [], 0) := rfl
theorem k204_72 : px_cod 204 72 = some ((.iload_n 1), 1, [], 1) := rfl
theorem k204_73 : px_cod 204 73 = some ((.bipush 7), 2, [], 7) := rfl
theorem k204_75 : px_cod 204 75 = some ((.invokevirtual 364), 3, [0, 258, 146], 0) := rfl
theorem k204_78 : px_cod 204 78 = some (.iastore, 1, [], 0) := rfl
theorem k204_79 : px_cod 204 79 = some ((.aload_n 0), 1, [], 0) := rfl
theorem k204_80 : px_cod 204 80 = some ((.iconst 2), 1, [], 2) := rfl
theorem k204_81 : px_cod 204 81 = some ((.invokevirtual 344), 3, [0, 250, 187], 0) := rfl
theorem k204_84 : px_cod 204 84 = some ((.ifCond .eq 18), 3, [102], 0) := rfl
theorem k204_87 : px_cod 204 87 = some ((.aload_n 0), 1, [], 0) := rfl
theorem k204_88 : px_cod 204 88 = some ((.iconst 2), 1, [], 2) := rfl
theorem k204_89 : px_cod 204 89 = some ((.lconst 0), 1, [], 0) := rfl
theorem k204_90 : px_cod 204 90 = some ((.invokevirtual 350), 3, [0, 252, 188], 0) := rfl
theorem k204_93 : px_cod 204 93 = some ((.ldc_w 396), 3, [0, 43], 999999) := rfl
theorem k204_96 : px_cod 204 96 = some ((.invokestatic 354), 3, [0, 256, 190], 0) := rfl
theorem k204_99 : px_cod 204 99 = some ((.goto 27), 3, [126], 0) := rfl
theorem k204_102 : px_cod 204 102 = some ((.aload_n 0), 1, [], 0) := rfl
theorem k204_103 : px_cod 204 103 = some ((.iload_n 1), 1, [], 1) := rfl
theorem k204_104 : px_cod 204 104 = some ((.bipush 9), 2, [], 9) := rfl
theorem k204_106 : px_cod 204 106 = some ((.invokevirtual 364), 3, [0, 258, 146], 0) := rfl
theorem k204_109 : px_cod 204 109 = some ((.bipush 59), 2, [], 59) := rfl
theorem k204_111 : px_cod 204 111 = some (.iadd, 1, [], 0) := rfl
theorem k204_112 : px_cod 204 112 = some ((.bipush 60), 2, [], 60) := rfl
theorem k204_114 : px_cod 204 114 = some (.idiv, 1, [], 0) := rfl
theorem k204_115 : px_cod 204 115 = some ((.bipush 10), 2, [], 10) := rfl
theorem k204_117 : px_cod 204 117 = some (.imul, 1, [], 0) := rfl
theorem k204_118 : px_cod 204 118 = some ((.aload_n 0), 1, [], 0) := rfl
theorem k204_119 : px_cod 204 119 = some ((.iload_n 1), 1, [], 1) := rfl
theorem k204_120 : px_cod 204 120 = some ((.bipush 7), 2, [], 7) := rfl
theorem k204_122 : px_cod 204 122 = some ((.invokevirtual 364), 3, [0, 258, 146], 0) := rfl
theorem k204_125 : px_cod 204 125 = some (.iadd, 1, [], 0) := rfl
theorem k204_126 : px_cod 204 126 = some (.ireturn, 1, [], 0) := rfl
theorem k205_0 : px_cod 205 0 = some ((.iload_n 2), 1, [], 2) := rfl
theorem k205_1 : px_cod 205 1 = some ((.iconst 4), 1, [], 4) := rfl
theorem k205_2 : px_cod 205 2 = some ((.if_icmp .ne 11), 3, [13], 0) := rfl
theorem k205_5 : px_cod 205 5 = some ((.aload_n 0), 1, [], 0) := rfl
theorem k205_6 : px_cod 205 6 = some ((.getfield 7), 3, [187, 12, 4, 1], 3) := rfl
theorem k205_9 : px_cod 205 9 = some ((.bipush 9), 2, [], 9) := rfl
theorem k205_11 : px_cod 205 11 = some (.iaload, 1, [], 0) := rfl
theorem k205_12 : px_cod 205 12 = some (.ireturn, 1, [], 0) := rfl
theorem k205_13 : px_cod 205 13 = some ((.aload_n 0), 1, [], 0) := rfl
theorem k205_14 : px_cod 205 14 = some ((.iload_n 1), 1, [], 1) := rfl
theorem k205_15 : px_cod 205 15 = some ((.invokevirtual 146), 3, [0, 215, 144], 0) := rfl
theorem k205_18 : px_cod 205 18 = some ((.ifCond .eq 12), 3, [30], 0) := rfl
theorem k205_21 : px_cod 205 21 = some ((.iload_n 2), 1, [], 2) := rfl
theorem k205_22 : px_cod 205 22 = some ((.iconst 0), 1, [], 0) := rfl
theorem k205_23 : px_cod 205 23 = some ((.iconst 3), 1, [], 3) := rfl
theorem k205_24 : px_cod 205 24 = some ((.invokestatic 138), 3, [0, 209, 141], 0) := rfl
theorem k205_27 : px_cod 205 27 = some ((.ifCond .ne 6), 3, [33], 0) := rfl
theorem k205_30 : px_cod 205 30 = some ((.bipush (-2)), 2, [], (-2)) := rfl
theorem k205_32 : px_cod 205 32 = some (.ireturn, 1, [], 0) := rfl
theorem k205_33 : px_cod 205 33 = some ((.iload_n 2), 1, [], 2) := rfl
theorem k205_34 : px_cod 205 34 = some ((.iconst 3), 1, [], 3) := rfl
theorem k205_35 : px_cod 205 35 = some ((.if_icmp .ne 11), 3, [46], 0) := rfl
theorem k205_38 : px_cod 205 38 = some ((.aload_n 0), 1, [], 0) := rfl
theorem k205_39 : px_cod 205 39 = some ((.iload_n 1), 1, [], 1) := rfl
theorem k205_40 : px_cod 205 40 = some ((.invokevirtual 397), 3, [0, 270, 204], 0) := rfl
theorem k205_43 : px_cod 205 43 = some ((.goto 12), 3, [55], 0) := rfl
theorem k205_46 : px_cod 205 46 = some ((.aload_n 0), 1, [], 0) := rfl
theorem k205_47 : px_cod 205 47 = some ((.iload_n 1), 1, [], 1) := rfl
theorem k205_48 : px_cod 205 48 = some ((.bipush 9), 2, [], 9) := rfl
theorem k205_50 : px_cod 205 50 = some ((.iload_n 2), 1, [], 2) := rfl
theorem k205_51 : px_cod 205 51 = some (.iadd, 1, [], 0) := rfl
theorem k205_52 : px_cod 205 52 = some ((.invokevirtual 364), 3, [0, 258, 146], 0) := rfl
theorem k205_55 : px_cod 205 55 = some (.ireturn, 1, [], 0) := rfl
theorem k206_0 : px_cod 206 0 = some ((.aload_n 0), 1, [], 0) := rfl
theorem k206_1 : px_cod 206 1 = some ((.iload_n 1), 1, [], 1) := rfl
theorem k206_2 : px_cod 206 2 = some ((.invokevirtual 146), 3, [0, 215, 144], 0) := rfl
theorem k206_5 : px_cod 206 5 = some ((.ifCond .eq 53), 3, [58], 0) := rfl
theorem k206_8 : px_cod 206 8 = some ((.aload_n 0), 1, [], 0) := rfl
theorem k206_9 : px_cod 206 9 = some ((.iload_n 1), 1, [], 1) := rfl
theorem k206_10 : px_cod 206 10 = some ((.bipush 12), 2, [], 12) := rfl
theorem k206_12 : px_cod 206 12 = some ((.invokevirtual 364), 3, [0, 258, 146], 0) := rfl
theorem k206_15 : px_cod 206 15 = some ((.iconst 1), 1, [], 1) := rfl
theorem k206_16 : px_cod 206 16 = some ((.if_icmp .ne 42), 3, [58], 0) := rfl
theorem k206_19 : px_cod 206 19 = some ((.iload_n 2), 1, [], 2) := rfl
theorem k206_20 : px_cod 206 20 = some ((.ifCond .lt 38), 3, [58], 0) := rfl
theorem k206_23 : px_cod 206 23 = some ((.iload_n 2), 1, [], 2) := rfl
theorem k206_24 : px_cod 206 24 = some ((.aload_n 0), 1, [], 0) := rfl
theorem k206_25 : px_cod 206 25 = some ((.getfield 7), 3, [187, 12, 4, 1], 3) := rfl
theorem k206_28 : px_cod 206 28 = some ((.bipush 10), 2, [], 10) := rfl
theorem k206_30 : px_cod 206 30 = some (.iaload, 1, [], 0) := rfl
theorem k206_31 : px_cod 206 31 = some ((.if_icmp .ge 27), 3, [58], 0) := rfl
theorem k206_34 : px_cod 206 34 = some ((.iload_n 2), 1, [], 2) := rfl
theorem k206_35 : px_cod 206 35 = some ((.bipush 50), 2, [], 50) := rfl
theorem k206_37 : px_cod 206 37 = some ((.if_icmp .ge 21), 3, [58], 0) := rfl
theorem k206_40 : px_cod 206 40 = some ((.aload_n 0), 1, [], 0) := rfl
theorem k206_41 : px_cod 206 41 = some ((.getfield 7), 3, [187, 12, 4, 1], 3) := rfl
theorem k206_44 : px_cod 206 44 = some ((.sipush 320), 3, [], 320) := rfl
theorem k206_47 : px_cod 206 47 = some ((.bipush 10), 2, [], 10) := rfl
theorem k206_49 : px_cod 206 49 = some ((.iload_n 2), 1, [], 2) := rfl
theorem k206_50 : px_cod 206 50 = some (.imul, 1, [], 0) := rfl
theorem k206_51 : px_cod 206 51 = some (.iadd, 1, [], 0) := rfl
theorem k206_52 : px_cod 206 52 = some ((.iload_n 1), 1, [], 1) := rfl
theorem k206_53 : px_cod 206 53 = some (.iadd, 1, [], 0) := rfl
theorem k206_54 : px_cod 206 54 = some (.iaload, 1, [], 0) := rfl
theorem k206_55 : px_cod 206 55 = some ((.goto 5), 3, [60], 0) := rfl
theorem k206_58 : px_cod 206 58 = some ((.bipush (-2)), 2, [], (-2)) := rfl
theorem k206_60 : px_cod 206 60 = some (.ireturn, 1, [], 0) := rfl
theorem k207_0 : px_cod 207 0 = some ((.iconst 0), 1, [], 0) := rfl
theorem k207_1 : px_cod 207 1 = some ((.istore_n 1), 1, [], 1) := rfl
theorem k207_2 : px_cod 207 2 = some ((.iload_n 1), 1, [], 1) := rfl
theorem k207_3 : px_cod 207 3 = some ((.sipush 1439), 3, [], 1439) := rfl
theorem k207_6 : px_cod 207 6 = some ((.if_icmp .gt 20), 3, [26], 0) := rfl
theorem k207_9 : px_cod 207 9 = some ((.aload_n 0), 1, [], 0) := rfl
theorem k207_10 : px_cod 207 10 = some ((.getfield 86), 3, [226, 12, 4, 1], 42) := rfl
theorem k207_13 : px_cod 207 13 = some ((.iload_n 1), 1, [], 1) := rfl
theorem k207_14 : px_cod 207 14 = some ((.aload_n 0), 1, [], 0) := rfl
theorem k207_15 : px_cod 207 15 = some ((.iload_n 1), 1, [], 1) := rfl
theorem k207_16 : px_cod 207 16 = some ((.invokevirtual 361), 3, [0, 249, 192], 0) := rfl
theorem k207_19 : px_cod 207 19 = some (.iastore, 1, [], 0) := rfl
theorem k207_20 : px_cod 207 20 = some ((.iinc 1 1), 3, [1], 1) := rfl
theorem k207_23 : px_cod 207 23 = some ((.goto (-21)), 3, [2], 0) := rfl
theorem k207_26 : px_cod 207 26 = some (.return_, 1, [], 0) := rfl
section PXL
variable {L t : Nat} {r : MR}
-- TideGuestsModel.fault ('R123', 'I')
theorem b182_0 (hr : px_hr r) (d : Nat) (i l : MI) (x1 : Int) : px_X d 182 (0, [vR 123, vI x1], []) (px_sh L, i, l, r, t) = if x1 = 0 then some (some (vI (i 123 7)), (px_sh L, i, l, r, t)) else if x1 = 1 then some (some (vI (i 123 8)), (px_sh L, i, l, r, t)) else some (some (vI (-1)), (px_sh L, i, l, r, t)) := ((xs_ildn k182_0 rfl).trans ((xs_ine k182_1).trans (px_ite (fun c1 => ((xs_aldn k182_4 rfl).trans ((xs_get0 k182_5 (px_s123 L) (Nat.le_of_ble_eq_true rfl)).trans ((xs_goto k182_8).trans (xs_ri k182_24 rfl))))) (fun c1 => ((xs_ildn k182_11 rfl).trans ((xs_ic k182_12 (by omega)).trans ((xs_jne k182_13).trans (px_ite (fun c2 => ((xs_aldn k182_16 rfl).trans ((xs_get0 k182_17 (px_s123 L) (Nat.le_of_ble_eq_true rfl)).trans ((xs_goto k182_20).trans (xs_ri k182_24 rfl))))) (fun c2 => ((xs_ic k182_23 (by omega)).trans (xs_ri k182_24 rfl)))))))))))
-- TideGuestsModel.bound ('L',)
theorem b183_0 (hr : px_hr r) (d : Nat) (i l : MI) (x0 : Int) : px_X d 183 (0, [vL x0, vJ], []) (px_sh L, i, l, r, t) = if (px_cmp x0 1000000) ≤ 0 then if 0 ≤ (px_cmp x0 (-1000000)) then some (some (vL x0), (px_sh L, i, l, r, t)) else some (some (vL (-1000000)), (px_sh L, i, l, r, t)) else some (some (vL 1000000), (px_sh L, i, l, r, t)) := ((xs_lldn k183_0 rfl).trans ((xs_ldc2 k183_1).trans ((xs_lcmp k183_4).trans ((xs_ile k183_5).trans (px_ite (fun c1 => ((xs_lldn k183_14 rfl).trans ((xs_ldc2 k183_15).trans ((xs_lcmp k183_18).trans ((xs_ige k183_19).trans (px_ite (fun c2 => ((xs_lldn k183_28 rfl).trans (xs_rl k183_29 rfl))) (fun c2 => ((xs_ldc2 k183_22).trans ((xs_goto k183_25).trans (xs_rl k183_29 rfl)))))))))) (fun c1 => ((xs_ldc2 k183_8).trans ((xs_goto k183_11).trans (xs_rl k183_29 rfl)))))))))
-- TideGuestsModel.worked ('I', 'L', 'L')
theorem b184_0 (hr : px_hr r) (d : Nat) (i l : MI) (x0 : Int) (x1 : Int) (x3 : Int) (h1 : (¬ (x0 = 35)) → (¬ (x0 = 42)) → (¬ (x0 = 43)) → (¬ (x0 = 45)) → (x0 = 47) → (¬ ((px_cmp x3 0) = 0)) → ¬ x3 = 0) : px_X (d + 1) 184 (0, [vI x0, vL x1, vJ, vL x3, vJ], []) (px_sh L, i, l, r, t) = if x0 = 35 then if (px_cmp x1 x3) = 0 then some (some (vL 0), (px_sh L, i, l, r, t)) else some (some (vL 1), (px_sh L, i, l, r, t)) else if x0 = 42 then (px_C d 183 [vL (px_w64 (x1 * x3))] (px_sh L, i, l, r, t)).bind (fun q => px_X (d + 1) 184 (px_psh (120, [vI x0, vL x1, vJ, vL x3, vJ], []) q.1) q.2) else if x0 = 43 then (px_C d 183 [vL (px_w64 (x1 + x3))] (px_sh L, i, l, r, t)).bind (fun q => px_X (d + 1) 184 (px_psh (106, [vI x0, vL x1, vJ, vL x3, vJ], []) q.1) q.2) else if x0 = 45 then (px_C d 183 [vL (px_w64 (x1 - x3))] (px_sh L, i, l, r, t)).bind (fun q => px_X (d + 1) 184 (px_psh (113, [vI x0, vL x1, vJ, vL x3, vJ], []) q.1) q.2) else if x0 = 47 then if (px_cmp x3 0) = 0 then some (some (vL 0), (px_sh L, i, l, r, t)) else some (some (vL (px_w64 (Int.tdiv x1 x3))), (px_sh L, i, l, r, t)) else if x0 = 60 then if 0 ≤ (px_cmp x1 x3) then some (some (vL 0), (px_sh L, i, l, r, t)) else some (some (vL 1), (px_sh L, i, l, r, t)) else if x0 = 61 then if (px_cmp x1 x3) = 0 then some (some (vL 1), (px_sh L, i, l, r, t)) else some (some (vL 0), (px_sh L, i, l, r, t)) else if x0 = 62 then if (px_cmp x1 x3) ≤ 0 then some (some (vL 0), (px_sh L, i, l, r, t)) else some (some (vL 1), (px_sh L, i, l, r, t)) else if x0 = 300 then if 0 < (px_cmp x1 x3) then some (some (vL 0), (px_sh L, i, l, r, t)) else some (some (vL 1), (px_sh L, i, l, r, t)) else if x0 = 301 then if (px_cmp x1 x3) < 0 then some (some (vL 0), (px_sh L, i, l, r, t)) else some (some (vL 1), (px_sh L, i, l, r, t)) else if x0 = 406 then some (some (vL (px_w64 (x1 * x3))), (px_sh L, i, l, r, t)) else if (px_cmp (px_w64 (x1 + x3)) 0) ≤ 0 then some (some (vL 0), (px_sh L, i, l, r, t)) else some (some (vL 1), (px_sh L, i, l, r, t)) := ((xs_ildn k184_0 rfl).trans (px_swi (fun c1 => ((xs_lsw k184_1 (q := ((35, _), 171)) (by rw [c1]; rfl)).trans ((xs_lldn k184_171 rfl).trans ((xs_lldn k184_172 rfl).trans ((xs_lcmp k184_173).trans ((xs_ieq k184_174).trans (px_ite (fun c2 => ((xs_lc0 k184_181).trans (xs_rl k184_182 rfl))) (fun c2 => ((xs_lc1 k184_177).trans ((xs_goto k184_178).trans (xs_rl k184_182 rfl))))))))))) (fun c1 => (px_swi (fun c2 => ((xs_lsw k184_1 (q := ((42, _), 114)) (by rw [c2]; rfl)).trans ((xs_lldn k184_114 rfl).trans ((xs_lldn k184_115 rfl).trans ((xs_lmul k184_116).trans (xs_callsB k184_117 (as := [vL (px_w64 (x1 * x3))]) rfl rfl (Nat.le_of_ble_eq_true rfl) (Nat.le_of_ble_eq_true rfl) (Nat.le_of_ble_eq_true rfl))))))) (fun c2 => (px_swi (fun c3 => ((xs_lsw k184_1 (q := ((43, _), 100)) (by rw [c3]; rfl)).trans ((xs_lldn k184_100 rfl).trans ((xs_lldn k184_101 rfl).trans ((xs_ladd k184_102).trans (xs_callsB k184_103 (as := [vL (px_w64 (x1 + x3))]) rfl rfl (Nat.le_of_ble_eq_true rfl) (Nat.le_of_ble_eq_true rfl) (Nat.le_of_ble_eq_true rfl))))))) (fun c3 => (px_swi (fun c4 => ((xs_lsw k184_1 (q := ((45, _), 107)) (by rw [c4]; rfl)).trans ((xs_lldn k184_107 rfl).trans ((xs_lldn k184_108 rfl).trans ((xs_lsub k184_109).trans (xs_callsB k184_110 (as := [vL (px_w64 (x1 - x3))]) rfl rfl (Nat.le_of_ble_eq_true rfl) (Nat.le_of_ble_eq_true rfl) (Nat.le_of_ble_eq_true rfl))))))) (fun c4 => (px_swi (fun c5 => ((xs_lsw k184_1 (q := ((47, _), 121)) (by rw [c5]; rfl)).trans ((xs_lldn k184_121 rfl).trans ((xs_lc0 k184_122).trans ((xs_lcmp k184_123).trans ((xs_ine k184_124).trans (px_ite (fun c6 => ((xs_lc0 k184_127).trans ((xs_goto k184_128).trans (xs_rl k184_134 rfl)))) (fun c6 => ((xs_lldn k184_131 rfl).trans ((xs_lldn k184_132 rfl).trans ((xs_ldiv k184_133 (h1 c1 c2 c3 c4 c5 c6)).trans (xs_rl k184_134 rfl)))))))))))) (fun c5 => (px_swi (fun c6 => ((xs_lsw k184_1 (q := ((60, _), 135)) (by rw [c6]; rfl)).trans ((xs_lldn k184_135 rfl).trans ((xs_lldn k184_136 rfl).trans ((xs_lcmp k184_137).trans ((xs_ige k184_138).trans (px_ite (fun c7 => ((xs_lc0 k184_145).trans (xs_rl k184_146 rfl))) (fun c7 => ((xs_lc1 k184_141).trans ((xs_goto k184_142).trans (xs_rl k184_146 rfl))))))))))) (fun c6 => (px_swi (fun c7 => ((xs_lsw k184_1 (q := ((61, _), 159)) (by rw [c7]; rfl)).trans ((xs_lldn k184_159 rfl).trans ((xs_lldn k184_160 rfl).trans ((xs_lcmp k184_161).trans ((xs_ine k184_162).trans (px_ite (fun c8 => ((xs_lc1 k184_165).trans ((xs_goto k184_166).trans (xs_rl k184_170 rfl)))) (fun c8 => ((xs_lc0 k184_169).trans (xs_rl k184_170 rfl)))))))))) (fun c7 => (px_swi (fun c8 => ((xs_lsw k184_1 (q := ((62, _), 147)) (by rw [c8]; rfl)).trans ((xs_lldn k184_147 rfl).trans ((xs_lldn k184_148 rfl).trans ((xs_lcmp k184_149).trans ((xs_ile k184_150).trans (px_ite (fun c9 => ((xs_lc0 k184_157).trans (xs_rl k184_158 rfl))) (fun c9 => ((xs_lc1 k184_153).trans ((xs_goto k184_154).trans (xs_rl k184_158 rfl))))))))))) (fun c8 => (px_swi (fun c9 => ((xs_lsw k184_1 (q := ((300, _), 183)) (by rw [c9]; rfl)).trans ((xs_lldn k184_183 rfl).trans ((xs_lldn k184_184 rfl).trans ((xs_lcmp k184_185).trans ((xs_igt k184_186).trans (px_ite (fun c10 => ((xs_lc0 k184_193).trans (xs_rl k184_194 rfl))) (fun c10 => ((xs_lc1 k184_189).trans ((xs_goto k184_190).trans (xs_rl k184_194 rfl))))))))))) (fun c9 => (px_swi (fun c10 => ((xs_lsw k184_1 (q := ((301, _), 195)) (by rw [c10]; rfl)).trans ((xs_lldn k184_195 rfl).trans ((xs_lldn k184_196 rfl).trans ((xs_lcmp k184_197).trans ((xs_ilt k184_198).trans (px_ite (fun c11 => ((xs_lc0 k184_205).trans (xs_rl k184_206 rfl))) (fun c11 => ((xs_lc1 k184_201).trans ((xs_goto k184_202).trans (xs_rl k184_206 rfl))))))))))) (fun c10 => (px_swi (fun c11 => ((xs_lsw k184_1 (q := ((406, _), 207)) (by rw [c11]; rfl)).trans ((xs_lldn k184_207 rfl).trans ((xs_lldn k184_208 rfl).trans ((xs_lmul k184_209).trans (xs_rl k184_210 rfl)))))) (fun c11 => ((xs_lswd k184_1 (by simp; omega)).trans ((xs_lldn k184_211 rfl).trans ((xs_lldn k184_212 rfl).trans ((xs_ladd k184_213).trans ((xs_lc0 k184_214).trans ((xs_lcmp k184_215).trans ((xs_ile k184_216).trans (px_ite (fun c12 => ((xs_lc0 k184_223).trans (xs_rl k184_224 rfl))) (fun c12 => ((xs_lc1 k184_219).trans ((xs_goto k184_220).trans (xs_rl k184_224 rfl)))))))))))))))))))))))))))))))))))
theorem b184_106 (hr : px_hr r) (d : Nat) (i l : MI) (x0 : Int) (x1 : Int) (x3 : Int) (xs0 : Int) : px_X d 184 (106, [vI x0, vL x1, vJ, vL x3, vJ], [vL xs0]) (px_sh L, i, l, r, t) = some (some (vL xs0), (px_sh L, i, l, r, t)) := (xs_rl k184_106 rfl)
theorem b184_113 (hr : px_hr r) (d : Nat) (i l : MI) (x0 : Int) (x1 : Int) (x3 : Int) (xs0 : Int) : px_X d 184 (113, [vI x0, vL x1, vJ, vL x3, vJ], [vL xs0]) (px_sh L, i, l, r, t) = some (some (vL xs0), (px_sh L, i, l, r, t)) := (xs_rl k184_113 rfl)
theorem b184_120 (hr : px_hr r) (d : Nat) (i l : MI) (x0 : Int) (x1 : Int) (x3 : Int) (xs0 : Int) : px_X d 184 (120, [vI x0, vL x1, vJ, vL x3, vJ], [vL xs0]) (px_sh L, i, l, r, t) = some (some (vL xs0), (px_sh L, i, l, r, t)) := (xs_rl k184_120 rfl)
-- TideGuestsModel.saysOf ('R123', 'I')
theorem b185_0 (hr : px_hr r) (d : Nat) (i l : MI) (x1 : Int) : px_X d 185 (0, [vR 123, vI x1, vJ, vJ, vJ], []) (px_sh L, i, l, r, t) = px_X d 185 (4, [vR 123, vI x1, vI 0, vI x1, vJ], []) (px_sh L, i, l, r, t) := ((xs_ic k185_0 (by omega)).trans ((xs_istn k185_1 (Nat.le_of_ble_eq_true rfl) (ls' := [vR 123, vI x1, vI 0, vJ, vJ]) rfl).trans ((xs_ildn k185_2 rfl).trans (xs_istn k185_3 (Nat.le_of_ble_eq_true rfl) (ls' := [vR 123, vI x1, vI 0, vI x1, vJ]) rfl))))
theorem b185_4 (hr : px_hr r) (d : Nat) (i l : MI) (x1 : Int) (x2 : Int) (x3 : Int) {v4 : PV} (hn4 : px_nl v4) (h1 : 0 ≤ x3 ∧ x3 < 2400) (h2 : (¬ ((i 130 x3) = 408)) → 0 ≤ x3 ∧ x3 < 2400) (h3 : (¬ ((i 130 x3) = 408)) → (¬ ((i 130 x3) = 400)) → (¬ ((i 130 x3) = 401)) → ((i 130 x3) = 402) → 0 ≤ (px_w32 (x2 - 1)) ∧ (px_w32 (x2 - 1)) < 200) (h4 : (¬ ((i 130 x3) = 408)) → (¬ ((i 130 x3) = 400)) → (¬ ((i 130 x3) = 401)) → (¬ ((i 130 x3) = 402)) → ((i 130 x3) = 405) → 0 ≤ (px_w32 (x2 - 1)) ∧ (px_w32 (x2 - 1)) < 200) (h5 : (¬ ((i 130 x3) = 408)) → (¬ ((i 130 x3) = 400)) → (¬ ((i 130 x3) = 401)) → (¬ ((i 130 x3) = 402)) → (¬ ((i 130 x3) = 405)) → 0 ≤ (px_w32 ((px_w32 (x2 + (-1))) - 1)) ∧ (px_w32 ((px_w32 (x2 + (-1))) - 1)) < 200) (h6 : (¬ ((i 130 x3) = 408)) → (¬ ((i 130 x3) = 400)) → (¬ ((i 130 x3) = 401)) → (¬ ((i 130 x3) = 402)) → (¬ ((i 130 x3) = 405)) → 0 ≤ (px_w32 (x2 + (-1))) ∧ (px_w32 (x2 + (-1))) < 200) : px_X (d + 1) 185 (4, [vR 123, vI x1, vI x2, vI x3, v4], []) (px_sh L, i, l, r, t) = if (i 130 x3) = 408 then some (some (vL (l 141 0)), (px_sh L, i, l, r, t)) else if (i 130 x3) = 400 then px_X (d + 1) 185 (40, [vR 123, vI x1, vI x2, vI x3, vI (i 130 x3)], []) (px_sh L, i, l, r, t) else if (i 130 x3) = 401 then px_X (d + 1) 185 (40, [vR 123, vI x1, vI x2, vI x3, vI (i 130 x3)], []) (px_sh L, i, l, r, t) else if (i 130 x3) = 402 then px_X (d + 1) 185 (4, [vR 123, vI x1, vI x2, vI (px_w32 (x3 + 1)), vI (i 130 x3)], []) (px_sh L, i, (px_up l 141 (px_w32 (x2 - 1)) (px_w64 (-(l 141 (px_w32 (x2 - 1)))))), r, t) else if (i 130 x3) = 405 then px_X (d + 1) 185 (4, [vR 123, vI x1, vI x2, vI (px_w32 (x3 + 1)), vI (i 130 x3)], []) (px_sh L, i, (px_up l 141 (px_w32 (x2 - 1)) (px_w64 (1 - (l 141 (px_w32 (x2 - 1)))))), r, t) else (px_C d 184 [vI (i 130 x3), vL (l 141 (px_w32 ((px_w32 (x2 + (-1))) - 1))), vL (l 141 (px_w32 (x2 + (-1))))] (px_sh L, i, l, r, t)).bind (fun q => px_X (d + 1) 185 (px_psh (168, [vR 123, vI x1, vI (px_w32 (x2 + (-1))), vI x3, vI (i 130 x3)], [vI (px_w32 ((px_w32 (x2 + (-1))) - 1)), vR 141]) q.1) q.2) := ((xs_aldn k185_4 rfl).trans ((xs_get4 k185_5 (px_s123 L) (Nat.le_of_ble_eq_true rfl) (px_r123_12 hr)).trans ((xs_ildn k185_8 rfl).trans ((xs_iald k185_9 (px_s130 L) (h1)).trans ((xs_si k185_10 (by omega)).trans ((xs_jeq k185_13).trans (px_ite (fun c1 => ((xs_aldn k185_175 rfl).trans ((xs_get4 k185_176 (px_s123 L) (Nat.le_of_ble_eq_true rfl) (px_r123_37 hr)).trans ((xs_ic k185_179 (by omega)).trans ((xs_lald k185_180 (px_s141 L) (by omega)).trans (xs_rl k185_181 rfl)))))) (fun c1 => ((xs_aldn k185_16 rfl).trans ((xs_get4 k185_17 (px_s123 L) (Nat.le_of_ble_eq_true rfl) (px_r123_12 hr)).trans ((xs_ildn k185_20 rfl).trans ((xs_iald k185_21 (px_s130 L) (h2 c1)).trans ((xs_ist k185_22 (Nat.le_of_ble_eq_true rfl) (ls' := [vR 123, vI x1, vI x2, vI x3, vI (i 130 x3)]) rfl).trans ((xs_ild k185_24 rfl).trans ((xs_si k185_26 (by omega)).trans ((xs_jeq k185_29).trans (px_ite (fun c2 => rfl) (fun c2 => ((xs_ild k185_32 rfl).trans ((xs_si k185_34 (by omega)).trans ((xs_jne k185_37).trans (px_ite (fun c3 => rfl) (fun c3 => ((xs_ild k185_82 rfl).trans ((xs_si k185_84 (by omega)).trans ((xs_jne k185_87).trans (px_ite (fun c4 => ((xs_aldn k185_90 rfl).trans ((xs_get4 k185_91 (px_s123 L) (Nat.le_of_ble_eq_true rfl) (px_r123_37 hr)).trans ((xs_ildn k185_94 rfl).trans ((xs_ic k185_95 (by omega)).trans ((xs_isub k185_96).trans ((xs_aldn k185_97 rfl).trans ((xs_get4 k185_98 (px_s123 L) (Nat.le_of_ble_eq_true rfl) (px_r123_37 hr)).trans ((xs_ildn k185_101 rfl).trans ((xs_ic k185_102 (by omega)).trans ((xs_isub k185_103).trans ((xs_lald k185_104 (px_s141 L) (h3 c1 c2 c3 c4)).trans ((xs_lneg k185_105).trans ((xs_last k185_106 (px_s141 L) (h3 c1 c2 c3 c4) (Nat.le_of_ble_eq_true rfl)).trans ((xs_goto k185_107).trans ((xs_iinc k185_169 rfl (by omega) (ls' := [vR 123, vI x1, vI x2, vI (px_w32 (x3 + 1)), vI (i 130 x3)]) rfl).trans (xs_goto k185_172))))))))))))))))) (fun c4 => ((xs_ild k185_110 rfl).trans ((xs_si k185_112 (by omega)).trans ((xs_jne k185_115).trans (px_ite (fun c5 => ((xs_aldn k185_118 rfl).trans ((xs_get4 k185_119 (px_s123 L) (Nat.le_of_ble_eq_true rfl) (px_r123_37 hr)).trans ((xs_ildn k185_122 rfl).trans ((xs_ic k185_123 (by omega)).trans ((xs_isub k185_124).trans ((xs_lc1 k185_125).trans ((xs_aldn k185_126 rfl).trans ((xs_get4 k185_127 (px_s123 L) (Nat.le_of_ble_eq_true rfl) (px_r123_37 hr)).trans ((xs_ildn k185_130 rfl).trans ((xs_ic k185_131 (by omega)).trans ((xs_isub k185_132).trans ((xs_lald k185_133 (px_s141 L) (h4 c1 c2 c3 c4 c5)).trans ((xs_lsub k185_134).trans ((xs_last k185_135 (px_s141 L) (h4 c1 c2 c3 c4 c5) (Nat.le_of_ble_eq_true rfl)).trans ((xs_goto k185_136).trans ((xs_iinc k185_169 rfl (by omega) (ls' := [vR 123, vI x1, vI x2, vI (px_w32 (x3 + 1)), vI (i 130 x3)]) rfl).trans (xs_goto k185_172)))))))))))))))))) (fun c5 => ((xs_iinc k185_139 rfl (by omega) (ls' := [vR 123, vI x1, vI (px_w32 (x2 + (-1))), vI x3, vI (i 130 x3)]) rfl).trans ((xs_aldn k185_142 rfl).trans ((xs_get4 k185_143 (px_s123 L) (Nat.le_of_ble_eq_true rfl) (px_r123_37 hr)).trans ((xs_ildn k185_146 rfl).trans ((xs_ic k185_147 (by omega)).trans ((xs_isub k185_148).trans ((xs_ild k185_149 rfl).trans ((xs_aldn k185_151 rfl).trans ((xs_get4 k185_152 (px_s123 L) (Nat.le_of_ble_eq_true rfl) (px_r123_37 hr)).trans ((xs_ildn k185_155 rfl).trans ((xs_ic k185_156 (by omega)).trans ((xs_isub k185_157).trans ((xs_lald k185_158 (px_s141 L) (h5 c1 c2 c3 c4 c5)).trans ((xs_aldn k185_159 rfl).trans ((xs_get4 k185_160 (px_s123 L) (Nat.le_of_ble_eq_true rfl) (px_r123_37 hr)).trans ((xs_ildn k185_163 rfl).trans ((xs_lald k185_164 (px_s141 L) (h6 c1 c2 c3 c4 c5)).trans (xs_callsB k185_165 (as := [vI (i 130 x3), vL (l 141 (px_w32 ((px_w32 (x2 + (-1))) - 1))), vL (l 141 (px_w32 (x2 + (-1))))]) rfl rfl (Nat.le_of_ble_eq_true rfl) (Nat.le_of_ble_eq_true rfl) (Nat.le_of_ble_eq_true rfl))))))))))))))))))))))))))))))))))))))))))))))))))))
theorem b185_40 (hr : px_hr r) (d : Nat) (i l : MI) (x1 : Int) (x2 : Int) (x3 : Int) (x4 : Int) (h1 : (x4 = 400) → 0 ≤ x3 ∧ x3 < 2400) (h2 : (x4 = 400) → 0 ≤ x2 ∧ x2 < 200) (h3 : (¬ (x4 = 400)) → 0 ≤ x3 ∧ x3 < 2400) (h4 : (¬ (x4 = 400)) → 0 ≤ (i 131 x3) ∧ (i 131 x3) < 15) (h5 : (¬ (x4 = 400)) → 0 ≤ x2 ∧ x2 < 200) : px_X d 185 (40, [vR 123, vI x1, vI x2, vI x3, vI x4], []) (px_sh L, i, l, r, t) = if x4 = 400 then px_X d 185 (4, [vR 123, vI x1, vI (px_w32 (x2 + 1)), vI (px_w32 (x3 + 1)), vI x4], []) (px_sh L, i, (px_up l 141 x2 (i 131 x3)), r, t) else px_X d 185 (4, [vR 123, vI x1, vI (px_w32 (x2 + 1)), vI (px_w32 (x3 + 1)), vI x4], []) (px_sh L, i, (px_up l 141 x2 (i 140 (i 131 x3))), r, t) := ((xs_aldn k185_40 rfl).trans ((xs_get4 k185_41 (px_s123 L) (Nat.le_of_ble_eq_true rfl) (px_r123_37 hr)).trans ((xs_ildn k185_44 rfl).trans ((xs_ild k185_45 rfl).trans ((xs_si k185_47 (by omega)).trans ((xs_jne k185_50).trans (px_ite (fun c1 => ((xs_aldn k185_53 rfl).trans ((xs_get4 k185_54 (px_s123 L) (Nat.le_of_ble_eq_true rfl) (px_r123_13 hr)).trans ((xs_ildn k185_57 rfl).trans ((xs_iald k185_58 (px_s131 L) (h1 c1)).trans ((xs_i2l k185_59).trans ((xs_goto k185_60).trans ((xs_last k185_75 (px_s141 L) (h2 c1) (Nat.le_of_ble_eq_true rfl)).trans ((xs_iinc k185_76 rfl (by omega) (ls' := [vR 123, vI x1, vI (px_w32 (x2 + 1)), vI x3, vI x4]) rfl).trans ((xs_goto k185_79).trans ((xs_iinc k185_169 rfl (by omega) (ls' := [vR 123, vI x1, vI (px_w32 (x2 + 1)), vI (px_w32 (x3 + 1)), vI x4]) rfl).trans (xs_goto k185_172)))))))))))) (fun c1 => ((xs_aldn k185_63 rfl).trans ((xs_get4 k185_64 (px_s123 L) (Nat.le_of_ble_eq_true rfl) (px_r123_36 hr)).trans ((xs_aldn k185_67 rfl).trans ((xs_get4 k185_68 (px_s123 L) (Nat.le_of_ble_eq_true rfl) (px_r123_13 hr)).trans ((xs_ildn k185_71 rfl).trans ((xs_iald k185_72 (px_s131 L) (h3 c1)).trans ((xs_iald k185_73 (px_s140 L) (h4 c1)).trans ((xs_i2l k185_74).trans ((xs_last k185_75 (px_s141 L) (h5 c1) (Nat.le_of_ble_eq_true rfl)).trans ((xs_iinc k185_76 rfl (by omega) (ls' := [vR 123, vI x1, vI (px_w32 (x2 + 1)), vI x3, vI x4]) rfl).trans ((xs_goto k185_79).trans ((xs_iinc k185_169 rfl (by omega) (ls' := [vR 123, vI x1, vI (px_w32 (x2 + 1)), vI (px_w32 (x3 + 1)), vI x4]) rfl).trans (xs_goto k185_172)))))))))))))))))))))
theorem b185_168 (hr : px_hr r) (d : Nat) (i l : MI) (x1 : Int) (x2 : Int) (x3 : Int) (x4 : Int) (xs0 : Int) (xs1 : Int) (h1 : 0 ≤ xs1 ∧ xs1 < 200) : px_X d 185 (168, [vR 123, vI x1, vI x2, vI x3, vI x4], [vL xs0, vI xs1, vR 141]) (px_sh L, i, l, r, t) = px_X d 185 (4, [vR 123, vI x1, vI x2, vI (px_w32 (x3 + 1)), vI x4], []) (px_sh L, i, (px_up l 141 xs1 xs0), r, t) := ((xs_last k185_168 (px_s141 L) (h1) (Nat.le_of_ble_eq_true rfl)).trans ((xs_iinc k185_169 rfl (by omega) (ls' := [vR 123, vI x1, vI x2, vI (px_w32 (x3 + 1)), vI x4]) rfl).trans (xs_goto k185_172)))
-- TideGuestsModel.by ('R123', 'I')
theorem b186_0 (hr : px_hr r) (d : Nat) (i l : MI) (x1 : Int) : px_X (d + 1) 186 (0, [vR 123, vI x1], []) (px_sh L, i, l, r, t) = if x1 = (-1) then some (some (vI 1), (px_sh L, (px_up i 124 6 x1), l, r, t)) else (px_C d 141 [vI x1, vI 0, vI (px_w32 ((i 124 5) - 1))] (px_sh L, i, l, r, t)).bind (fun q => px_X (d + 1) 186 (px_psh (18, [vR 123, vI x1], []) q.1) q.2) := ((xs_ildn k186_0 rfl).trans ((xs_ic k186_1 (by omega)).trans ((xs_jeq k186_2).trans (px_ite (fun c1 => ((xs_aldn k186_23 rfl).trans ((xs_get4 k186_24 (px_s123 L) (Nat.le_of_ble_eq_true rfl) (px_r123_3 hr)).trans ((xs_bi k186_27 (by omega)).trans ((xs_ildn k186_29 rfl).trans ((xs_iast k186_30 (px_s124 L) (by omega) (Nat.le_of_ble_eq_true rfl)).trans ((xs_ic k186_31 (by omega)).trans (xs_rz k186_32 rfl (by omega))))))))) (fun c1 => ((xs_ildn k186_5 rfl).trans ((xs_ic k186_6 (by omega)).trans ((xs_aldn k186_7 rfl).trans ((xs_get4 k186_8 (px_s123 L) (Nat.le_of_ble_eq_true rfl) (px_r123_3 hr)).trans ((xs_ic k186_11 (by omega)).trans ((xs_iald k186_12 (px_s124 L) (by omega)).trans ((xs_ic k186_13 (by omega)).trans ((xs_isub k186_14).trans (xs_callsB k186_15 (as := [vI x1, vI 0, vI (px_w32 ((i 124 5) - 1))]) rfl rfl (Nat.le_of_ble_eq_true rfl) (Nat.le_of_ble_eq_true rfl) (Nat.le_of_ble_eq_true rfl)))))))))))))))
theorem b186_18 (hr : px_hr r) (d : Nat) (i l : MI) (x1 : Int) (xs0 : Int) : px_X d 186 (18, [vR 123, vI x1], [vI xs0]) (px_sh L, i, l, r, t) = if xs0 = 0 then some (some (vI 0), (px_sh L, i, l, r, t)) else some (some (vI 1), (px_sh L, (px_up i 124 6 x1), l, r, t)) := ((xs_ine k186_18).trans (px_ite (fun c1 => ((xs_ic k186_21 (by omega)).trans (xs_rz k186_22 rfl (by omega)))) (fun c1 => ((xs_aldn k186_23 rfl).trans ((xs_get4 k186_24 (px_s123 L) (Nat.le_of_ble_eq_true rfl) (px_r123_3 hr)).trans ((xs_bi k186_27 (by omega)).trans ((xs_ildn k186_29 rfl).trans ((xs_iast k186_30 (px_s124 L) (by omega) (Nat.le_of_ble_eq_true rfl)).trans ((xs_ic k186_31 (by omega)).trans (xs_rz k186_32 rfl (by omega)))))))))))
-- TideGuestsModel.isTold ('R123', 'I')
theorem b187_0 (hr : px_hr r) (d : Nat) (i l : MI) (x1 : Int) : px_X d 187 (0, [vR 123, vI x1, vJ, vJ], []) (px_sh L, i, l, r, t) = px_X d 187 (4, [vR 123, vI x1, vI 0, vI 0], []) (px_sh L, i, l, r, t) := ((xs_ic k187_0 (by omega)).trans ((xs_istn k187_1 (Nat.le_of_ble_eq_true rfl) (ls' := [vR 123, vI x1, vI 0, vJ]) rfl).trans ((xs_ic k187_2 (by omega)).trans (xs_istn k187_3 (Nat.le_of_ble_eq_true rfl) (ls' := [vR 123, vI x1, vI 0, vI 0]) rfl))))
theorem b187_4 (hr : px_hr r) (d : Nat) (i l : MI) (x1 : Int) (x2 : Int) (x3 : Int) (h1 : ((i 124 6) = (-1)) → x2 = 0 ∨ x2 = 1) (h2 : (¬ ((i 124 6) = (-1))) → 0 ≤ (i 124 6) ∧ (i 124 6) < 6) (h3 : (¬ ((i 124 6) = (-1))) → ((i 127 (i 124 6)) ≤ x3) → x2 = 0 ∨ x2 = 1) (h4 : (¬ ((i 124 6) = (-1))) → (¬ ((i 127 (i 124 6)) ≤ x3)) → (x2 = 0) → 0 ≤ (px_w32 ((px_w32 (10 * (i 124 6))) + x3)) ∧ (px_w32 ((px_w32 (10 * (i 124 6))) + x3)) < 60) : px_X d 187 (4, [vR 123, vI x1, vI x2, vI x3], []) (px_sh L, i, l, r, t) = if (i 124 6) = (-1) then some (some (vI x2), (px_sh L, i, l, r, t)) else if (i 127 (i 124 6)) ≤ x3 then some (some (vI x2), (px_sh L, i, l, r, t)) else if x2 = 0 then if (i 128 (px_w32 ((px_w32 (10 * (i 124 6))) + x3))) = x1 then px_X d 187 (4, [vR 123, vI x1, vI 1, vI (px_w32 (x3 + 1))], []) (px_sh L, i, l, r, t) else px_X d 187 (4, [vR 123, vI x1, vI 0, vI (px_w32 (x3 + 1))], []) (px_sh L, i, l, r, t) else px_X d 187 (4, [vR 123, vI x1, vI 1, vI (px_w32 (x3 + 1))], []) (px_sh L, i, l, r, t) := ((xs_aldn k187_4 rfl).trans ((xs_get4 k187_5 (px_s123 L) (Nat.le_of_ble_eq_true rfl) (px_r123_3 hr)).trans ((xs_bi k187_8 (by omega)).trans ((xs_iald k187_10 (px_s124 L) (by omega)).trans ((xs_ic k187_11 (by omega)).trans ((xs_jeq k187_12).trans (px_ite (fun c1 => ((xs_ildn k187_68 rfl).trans (xs_rz k187_69 rfl (h1 c1)))) (fun c1 => ((xs_ildn k187_15 rfl).trans ((xs_aldn k187_16 rfl).trans ((xs_get4 k187_17 (px_s123 L) (Nat.le_of_ble_eq_true rfl) (px_r123_9 hr)).trans ((xs_aldn k187_20 rfl).trans ((xs_get4 k187_21 (px_s123 L) (Nat.le_of_ble_eq_true rfl) (px_r123_3 hr)).trans ((xs_bi k187_24 (by omega)).trans ((xs_iald k187_26 (px_s124 L) (by omega)).trans ((xs_iald k187_27 (px_s127 L) (h2 c1)).trans ((xs_jge k187_28).trans (px_ite (fun c2 => ((xs_ildn k187_68 rfl).trans (xs_rz k187_69 rfl (h3 c1 c2)))) (fun c2 => ((xs_ildn k187_31 rfl).trans ((xs_ine k187_32).trans (px_ite (fun c3 => ((xs_aldn k187_35 rfl).trans ((xs_get4 k187_36 (px_s123 L) (Nat.le_of_ble_eq_true rfl) (px_r123_10 hr)).trans ((xs_bi k187_39 (by omega)).trans ((xs_aldn k187_41 rfl).trans ((xs_get4 k187_42 (px_s123 L) (Nat.le_of_ble_eq_true rfl) (px_r123_3 hr)).trans ((xs_bi k187_45 (by omega)).trans ((xs_iald k187_47 (px_s124 L) (by omega)).trans ((xs_imul k187_48).trans ((xs_ildn k187_49 rfl).trans ((xs_iadd k187_50).trans ((xs_iald k187_51 (px_s128 L) (h4 c1 c2 c3)).trans ((xs_ildn k187_52 rfl).trans ((xs_jne k187_53).trans (px_ite (fun c4 => ((xs_ic k187_56 (by omega)).trans ((xs_goto k187_57).trans ((xs_istn k187_61 (Nat.le_of_ble_eq_true rfl) (ls' := [vR 123, vI x1, vI 1, vI x3]) rfl).trans ((xs_iinc k187_62 rfl (by omega) (ls' := [vR 123, vI x1, vI 1, vI (px_w32 (x3 + 1))]) rfl).trans (xs_goto k187_65)))))) (fun c4 => ((xs_ic k187_60 (by omega)).trans ((xs_istn k187_61 (Nat.le_of_ble_eq_true rfl) (ls' := [vR 123, vI x1, vI 0, vI x3]) rfl).trans ((xs_iinc k187_62 rfl (by omega) (ls' := [vR 123, vI x1, vI 0, vI (px_w32 (x3 + 1))]) rfl).trans (xs_goto k187_65)))))))))))))))))))) (fun c3 => ((xs_ic k187_56 (by omega)).trans ((xs_goto k187_57).trans ((xs_istn k187_61 (Nat.le_of_ble_eq_true rfl) (ls' := [vR 123, vI x1, vI 1, vI x3]) rfl).trans ((xs_iinc k187_62 rfl (by omega) (ls' := [vR 123, vI x1, vI 1, vI (px_w32 (x3 + 1))]) rfl).trans (xs_goto k187_65))))))))))))))))))))))))))))
-- TideGuestsModel.sumOf ('R123', 'I', 'L')
theorem b188_0 (hr : px_hr r) (d : Nat) (i l : MI) (x1 : Int) (x2 : Int) : px_X d 188 (0, [vR 123, vI x1, vL x2, vJ, vJ, vJ, vJ], []) (px_sh L, i, l, r, t) = px_X d 188 (6, [vR 123, vI x1, vL x2, vJ, vL x2, vJ, vI 0], []) (px_sh L, i, l, r, t) := ((xs_lldn k188_0 rfl).trans ((xs_lst k188_1 (Nat.le_of_ble_eq_true rfl) (ls' := [vR 123, vI x1, vL x2, vJ, vL x2, vJ, vJ]) rfl).trans ((xs_ic k188_3 (by omega)).trans (xs_ist k188_4 (Nat.le_of_ble_eq_true rfl) (ls' := [vR 123, vI x1, vL x2, vJ, vL x2, vJ, vI 0]) rfl))))
theorem b188_6 (hr : px_hr r) (d : Nat) (i l : MI) (x1 : Int) (x2 : Int) (x4 : Int) (x6 : Int) (h1 : (¬ ((i 124 6) = (-1))) → 0 ≤ (i 124 6) ∧ (i 124 6) < 6) (h2 : (¬ ((i 124 6) = (-1))) → (¬ ((i 127 (i 124 6)) ≤ x6)) → 0 ≤ (px_w32 ((px_w32 (10 * (i 124 6))) + x6)) ∧ (px_w32 ((px_w32 (10 * (i 124 6))) + x6)) < 60) (h3 : (¬ ((i 124 6) = (-1))) → (¬ ((i 127 (i 124 6)) ≤ x6)) → ((i 128 (px_w32 ((px_w32 (10 * (i 124 6))) + x6))) = x1) → 0 ≤ (px_w32 ((px_w32 (10 * (i 124 6))) + x6)) ∧ (px_w32 ((px_w32 (10 * (i 124 6))) + x6)) < 60) : px_X (d + 1) 188 (6, [vR 123, vI x1, vL x2, vJ, vL x4, vJ, vI x6], []) (px_sh L, i, l, r, t) = if (i 124 6) = (-1) then some (some (vL x4), (px_sh L, i, l, r, t)) else if (i 127 (i 124 6)) ≤ x6 then some (some (vL x4), (px_sh L, i, l, r, t)) else if (i 128 (px_w32 ((px_w32 (10 * (i 124 6))) + x6))) = x1 then (px_C d 185 [vR 123, vI (i 129 (px_w32 ((px_w32 (10 * (i 124 6))) + x6)))] (px_sh L, i, l, r, t)).bind (fun q => px_X (d + 1) 188 (px_psh (78, [vR 123, vI x1, vL x2, vJ, vL x4, vJ, vI x6], []) q.1) q.2) else px_X (d + 1) 188 (6, [vR 123, vI x1, vL x2, vJ, vL x4, vJ, vI (px_w32 (x6 + 1))], []) (px_sh L, i, l, r, t) := ((xs_aldn k188_6 rfl).trans ((xs_get4 k188_7 (px_s123 L) (Nat.le_of_ble_eq_true rfl) (px_r123_3 hr)).trans ((xs_bi k188_10 (by omega)).trans ((xs_iald k188_12 (px_s124 L) (by omega)).trans ((xs_ic k188_13 (by omega)).trans ((xs_jeq k188_14).trans (px_ite (fun c1 => ((xs_lld k188_91 rfl).trans (xs_rl k188_93 rfl))) (fun c1 => ((xs_ild k188_17 rfl).trans ((xs_aldn k188_19 rfl).trans ((xs_get4 k188_20 (px_s123 L) (Nat.le_of_ble_eq_true rfl) (px_r123_9 hr)).trans ((xs_aldn k188_23 rfl).trans ((xs_get4 k188_24 (px_s123 L) (Nat.le_of_ble_eq_true rfl) (px_r123_3 hr)).trans ((xs_bi k188_27 (by omega)).trans ((xs_iald k188_29 (px_s124 L) (by omega)).trans ((xs_iald k188_30 (px_s127 L) (h1 c1)).trans ((xs_jge k188_31).trans (px_ite (fun c2 => ((xs_lld k188_91 rfl).trans (xs_rl k188_93 rfl))) (fun c2 => ((xs_aldn k188_34 rfl).trans ((xs_get4 k188_35 (px_s123 L) (Nat.le_of_ble_eq_true rfl) (px_r123_10 hr)).trans ((xs_bi k188_38 (by omega)).trans ((xs_aldn k188_40 rfl).trans ((xs_get4 k188_41 (px_s123 L) (Nat.le_of_ble_eq_true rfl) (px_r123_3 hr)).trans ((xs_bi k188_44 (by omega)).trans ((xs_iald k188_46 (px_s124 L) (by omega)).trans ((xs_imul k188_47).trans ((xs_ild k188_48 rfl).trans ((xs_iadd k188_50).trans ((xs_iald k188_51 (px_s128 L) (h2 c1 c2)).trans ((xs_ildn k188_52 rfl).trans ((xs_jne k188_53).trans (px_ite (fun c3 => ((xs_aldn k188_56 rfl).trans ((xs_aldn k188_57 rfl).trans ((xs_get4 k188_58 (px_s123 L) (Nat.le_of_ble_eq_true rfl) (px_r123_11 hr)).trans ((xs_bi k188_61 (by omega)).trans ((xs_aldn k188_63 rfl).trans ((xs_get4 k188_64 (px_s123 L) (Nat.le_of_ble_eq_true rfl) (px_r123_3 hr)).trans ((xs_bi k188_67 (by omega)).trans ((xs_iald k188_69 (px_s124 L) (by omega)).trans ((xs_imul k188_70).trans ((xs_ild k188_71 rfl).trans ((xs_iadd k188_73).trans ((xs_iald k188_74 (px_s129 L) (h3 c1 c2 c3)).trans (xs_callvB k188_75 (as := [vI (i 129 (px_w32 ((px_w32 (10 * (i 124 6))) + x6)))]) rfl rfl (Nat.le_of_ble_eq_true rfl) (Nat.le_of_ble_eq_true rfl) (Nat.le_of_ble_eq_true rfl) (px_s123 L) (Nat.le_of_ble_eq_true rfl))))))))))))))) (fun c3 => ((xs_lld k188_81 rfl).trans ((xs_lst k188_83 (Nat.le_of_ble_eq_true rfl) (ls' := [vR 123, vI x1, vL x2, vJ, vL x4, vJ, vI x6]) rfl).trans ((xs_iinc k188_85 rfl (by omega) (ls' := [vR 123, vI x1, vL x2, vJ, vL x4, vJ, vI (px_w32 (x6 + 1))]) rfl).trans (xs_goto k188_88))))))))))))))))))))))))))))))))))))))
theorem b188_78 (hr : px_hr r) (d : Nat) (i l : MI) (x1 : Int) (x2 : Int) (x4 : Int) (x6 : Int) (xs0 : Int) : px_X d 188 (78, [vR 123, vI x1, vL x2, vJ, vL x4, vJ, vI x6], [vL xs0]) (px_sh L, i, l, r, t) = px_X d 188 (6, [vR 123, vI x1, vL x2, vJ, vL xs0, vJ, vI (px_w32 (x6 + 1))], []) (px_sh L, i, l, r, t) := ((xs_goto k188_78).trans ((xs_lst k188_83 (Nat.le_of_ble_eq_true rfl) (ls' := [vR 123, vI x1, vL x2, vJ, vL xs0, vJ, vI x6]) rfl).trans ((xs_iinc k188_85 rfl (by omega) (ls' := [vR 123, vI x1, vL x2, vJ, vL xs0, vJ, vI (px_w32 (x6 + 1))]) rfl).trans (xs_goto k188_88))))
-- TideGuestsModel.isSo ('R123', 'I')
theorem b189_0 (hr : px_hr r) (d : Nat) (i l : MI) (x1 : Int) : px_X d 189 (0, [vR 123, vI x1, vJ, vJ], []) (px_sh L, i, l, r, t) = px_X d 189 (4, [vR 123, vI x1, vI 0, vI 0], []) (px_sh L, i, l, r, t) := ((xs_ic k189_0 (by omega)).trans ((xs_istn k189_1 (Nat.le_of_ble_eq_true rfl) (ls' := [vR 123, vI x1, vI 0, vJ]) rfl).trans ((xs_ic k189_2 (by omega)).trans (xs_istn k189_3 (Nat.le_of_ble_eq_true rfl) (ls' := [vR 123, vI x1, vI 0, vI 0]) rfl))))
theorem b189_4 (hr : px_hr r) (d : Nat) (i l : MI) (x1 : Int) (x2 : Int) (x3 : Int) (h1 : ((i 124 6) = (-1)) → x2 = 0 ∨ x2 = 1) (h2 : (¬ ((i 124 6) = (-1))) → 0 ≤ (i 124 6) ∧ (i 124 6) < 6) (h3 : (¬ ((i 124 6) = (-1))) → ((i 127 (i 124 6)) ≤ x3) → x2 = 0 ∨ x2 = 1) (h4 : (¬ ((i 124 6) = (-1))) → (¬ ((i 127 (i 124 6)) ≤ x3)) → (x2 = 0) → 0 ≤ (px_w32 ((px_w32 (10 * (i 124 6))) + x3)) ∧ (px_w32 ((px_w32 (10 * (i 124 6))) + x3)) < 60) (h5 : (¬ ((i 124 6) = (-1))) → (¬ ((i 127 (i 124 6)) ≤ x3)) → (x2 = 0) → ((i 128 (px_w32 ((px_w32 (10 * (i 124 6))) + x3))) = x1) → 0 ≤ (px_w32 ((px_w32 (10 * (i 124 6))) + x3)) ∧ (px_w32 ((px_w32 (10 * (i 124 6))) + x3)) < 60) : px_X (d + 1) 189 (4, [vR 123, vI x1, vI x2, vI x3], []) (px_sh L, i, l, r, t) = if (i 124 6) = (-1) then some (some (vI x2), (px_sh L, i, l, r, t)) else if (i 127 (i 124 6)) ≤ x3 then some (some (vI x2), (px_sh L, i, l, r, t)) else if x2 = 0 then if (i 128 (px_w32 ((px_w32 (10 * (i 124 6))) + x3))) = x1 then (px_C d 185 [vR 123, vI (i 129 (px_w32 ((px_w32 (10 * (i 124 6))) + x3)))] (px_sh L, i, l, r, t)).bind (fun q => px_X (d + 1) 189 (px_psh (77, [vR 123, vI x1, vI x2, vI x3], []) q.1) q.2) else px_X (d + 1) 189 (4, [vR 123, vI x1, vI 0, vI (px_w32 (x3 + 1))], []) (px_sh L, i, l, r, t) else px_X (d + 1) 189 (4, [vR 123, vI x1, vI 1, vI (px_w32 (x3 + 1))], []) (px_sh L, i, l, r, t) := ((xs_aldn k189_4 rfl).trans ((xs_get4 k189_5 (px_s123 L) (Nat.le_of_ble_eq_true rfl) (px_r123_3 hr)).trans ((xs_bi k189_8 (by omega)).trans ((xs_iald k189_10 (px_s124 L) (by omega)).trans ((xs_ic k189_11 (by omega)).trans ((xs_jeq k189_12).trans (px_ite (fun c1 => ((xs_ildn k189_94 rfl).trans (xs_rz k189_95 rfl (h1 c1)))) (fun c1 => ((xs_ildn k189_15 rfl).trans ((xs_aldn k189_16 rfl).trans ((xs_get4 k189_17 (px_s123 L) (Nat.le_of_ble_eq_true rfl) (px_r123_9 hr)).trans ((xs_aldn k189_20 rfl).trans ((xs_get4 k189_21 (px_s123 L) (Nat.le_of_ble_eq_true rfl) (px_r123_3 hr)).trans ((xs_bi k189_24 (by omega)).trans ((xs_iald k189_26 (px_s124 L) (by omega)).trans ((xs_iald k189_27 (px_s127 L) (h2 c1)).trans ((xs_jge k189_28).trans (px_ite (fun c2 => ((xs_ildn k189_94 rfl).trans (xs_rz k189_95 rfl (h3 c1 c2)))) (fun c2 => ((xs_ildn k189_31 rfl).trans ((xs_ine k189_32).trans (px_ite (fun c3 => ((xs_aldn k189_35 rfl).trans ((xs_get4 k189_36 (px_s123 L) (Nat.le_of_ble_eq_true rfl) (px_r123_10 hr)).trans ((xs_bi k189_39 (by omega)).trans ((xs_aldn k189_41 rfl).trans ((xs_get4 k189_42 (px_s123 L) (Nat.le_of_ble_eq_true rfl) (px_r123_3 hr)).trans ((xs_bi k189_45 (by omega)).trans ((xs_iald k189_47 (px_s124 L) (by omega)).trans ((xs_imul k189_48).trans ((xs_ildn k189_49 rfl).trans ((xs_iadd k189_50).trans ((xs_iald k189_51 (px_s128 L) (h4 c1 c2 c3)).trans ((xs_ildn k189_52 rfl).trans ((xs_jne k189_53).trans (px_ite (fun c4 => ((xs_aldn k189_56 rfl).trans ((xs_aldn k189_57 rfl).trans ((xs_get4 k189_58 (px_s123 L) (Nat.le_of_ble_eq_true rfl) (px_r123_11 hr)).trans ((xs_bi k189_61 (by omega)).trans ((xs_aldn k189_63 rfl).trans ((xs_get4 k189_64 (px_s123 L) (Nat.le_of_ble_eq_true rfl) (px_r123_3 hr)).trans ((xs_bi k189_67 (by omega)).trans ((xs_iald k189_69 (px_s124 L) (by omega)).trans ((xs_imul k189_70).trans ((xs_ildn k189_71 rfl).trans ((xs_iadd k189_72).trans ((xs_iald k189_73 (px_s129 L) (h5 c1 c2 c3 c4)).trans (xs_callvB k189_74 (as := [vI (i 129 (px_w32 ((px_w32 (10 * (i 124 6))) + x3)))]) rfl rfl (Nat.le_of_ble_eq_true rfl) (Nat.le_of_ble_eq_true rfl) (Nat.le_of_ble_eq_true rfl) (px_s123 L) (Nat.le_of_ble_eq_true rfl))))))))))))))) (fun c4 => ((xs_ic k189_86 (by omega)).trans ((xs_istn k189_87 (Nat.le_of_ble_eq_true rfl) (ls' := [vR 123, vI x1, vI 0, vI x3]) rfl).trans ((xs_iinc k189_88 rfl (by omega) (ls' := [vR 123, vI x1, vI 0, vI (px_w32 (x3 + 1))]) rfl).trans (xs_goto k189_91)))))))))))))))))))) (fun c3 => ((xs_ic k189_82 (by omega)).trans ((xs_goto k189_83).trans ((xs_istn k189_87 (Nat.le_of_ble_eq_true rfl) (ls' := [vR 123, vI x1, vI 1, vI x3]) rfl).trans ((xs_iinc k189_88 rfl (by omega) (ls' := [vR 123, vI x1, vI 1, vI (px_w32 (x3 + 1))]) rfl).trans (xs_goto k189_91))))))))))))))))))))))))))))
theorem b189_77 (hr : px_hr r) (d : Nat) (i l : MI) (x1 : Int) (x2 : Int) (x3 : Int) (xs0 : Int) : px_X d 189 (77, [vR 123, vI x1, vI x2, vI x3], [vL xs0]) (px_sh L, i, l, r, t) = if (px_cmp xs0 0) ≤ 0 then px_X d 189 (4, [vR 123, vI x1, vI 0, vI (px_w32 (x3 + 1))], []) (px_sh L, i, l, r, t) else px_X d 189 (4, [vR 123, vI x1, vI 1, vI (px_w32 (x3 + 1))], []) (px_sh L, i, l, r, t) := ((xs_lc0 k189_77).trans ((xs_lcmp k189_78).trans ((xs_ile k189_79).trans (px_ite (fun c1 => ((xs_ic k189_86 (by omega)).trans ((xs_istn k189_87 (Nat.le_of_ble_eq_true rfl) (ls' := [vR 123, vI x1, vI 0, vI x3]) rfl).trans ((xs_iinc k189_88 rfl (by omega) (ls' := [vR 123, vI x1, vI 0, vI (px_w32 (x3 + 1))]) rfl).trans (xs_goto k189_91))))) (fun c1 => ((xs_ic k189_82 (by omega)).trans ((xs_goto k189_83).trans ((xs_istn k189_87 (Nat.le_of_ble_eq_true rfl) (ls' := [vR 123, vI x1, vI 1, vI x3]) rfl).trans ((xs_iinc k189_88 rfl (by omega) (ls' := [vR 123, vI x1, vI 1, vI (px_w32 (x3 + 1))]) rfl).trans (xs_goto k189_91))))))))))
-- TideGuestsModel.held ('L', 'I')
theorem b190_0 (hr : px_hr r) (d : Nat) (i l : MI) (x0 : Int) (x2 : Int) : px_X d 190 (0, [vL x0, vJ, vI x2], []) (px_sh L, i, l, r, t) = if 0 ≤ (px_cmp x0 0) then if (px_cmp x0 x2) ≤ 0 then some (some (vI (px_w32 x0)), (px_sh L, i, l, r, t)) else some (some (vI x2), (px_sh L, i, l, r, t)) else some (some (vI 0), (px_sh L, i, l, r, t)) := ((xs_lldn k190_0 rfl).trans ((xs_lc0 k190_1).trans ((xs_lcmp k190_2).trans ((xs_ige k190_3).trans (px_ite (fun c1 => ((xs_lldn k190_10 rfl).trans ((xs_ildn k190_11 rfl).trans ((xs_i2l k190_12).trans ((xs_lcmp k190_13).trans ((xs_ile k190_14).trans (px_ite (fun c2 => ((xs_lldn k190_21 rfl).trans ((xs_l2i k190_22).trans (xs_ri k190_23 rfl)))) (fun c2 => ((xs_ildn k190_17 rfl).trans ((xs_goto k190_18).trans (xs_ri k190_23 rfl))))))))))) (fun c1 => ((xs_ic k190_6 (by omega)).trans ((xs_goto k190_7).trans (xs_ri k190_23 rfl)))))))))
-- TideGuestsModel.size ('I',)
theorem b191_0 (hr : px_hr r) (d : Nat) (i l : MI) (x0 : Int) : px_X d 191 (0, [vI x0], []) (px_sh L, i, l, r, t) = if 0 ≤ x0 then some (some (vI x0), (px_sh L, i, l, r, t)) else some (some (vI (px_w32 (-x0))), (px_sh L, i, l, r, t)) := ((xs_ildn k191_0 rfl).trans ((xs_ige k191_1).trans (px_ite (fun c1 => ((xs_ildn k191_9 rfl).trans (xs_ri k191_10 rfl))) (fun c1 => ((xs_ildn k191_4 rfl).trans ((xs_ineg k191_5).trans ((xs_goto k191_6).trans (xs_ri k191_10 rfl))))))))
-- TideGuestsModel.levelOf ('R123', 'I')
theorem b192_0 (hr : px_hr r) (d : Nat) (i l : MI) (x1 : Int) : px_X (d + 1) 192 (0, [vR 123, vI x1], []) (px_sh L, i, l, r, t) = (px_C d 187 [vR 123, vI 0] (px_sh L, i, l, r, t)).bind (fun q => px_X (d + 1) 192 (px_psh (5, [vR 123, vI x1], []) q.1) q.2) := ((xs_aldn k192_0 rfl).trans ((xs_ic k192_1 (by omega)).trans (xs_callvB k192_2 (as := [vI 0]) rfl rfl (Nat.le_of_ble_eq_true rfl) (Nat.le_of_ble_eq_true rfl) (Nat.le_of_ble_eq_true rfl) (px_s123 L) (Nat.le_of_ble_eq_true rfl))))
theorem b192_5 (hr : px_hr r) (d : Nat) (i l : MI) (x1 : Int) (xs0 : Int) : px_X (d + 1) 192 (5, [vR 123, vI x1], [vI xs0]) (px_sh L, i, l, r, t) = if xs0 = 0 then (px_C d 191 [vI (px_w32 ((Int.tmod x1 720) - 360))] (px_sh L, i, l, r, t)).bind (fun q => px_X (d + 1) 192 (px_psh (22, [vR 123, vI x1], [vI 90]) q.1) q.2) else (px_C d 188 [vR 123, vI 0, vL 0] (px_sh L, (px_up (px_up (px_up i 140 0 x1) 140 1 (i 124 1)) 140 2 (i 124 2)), l, r, t)).bind (fun q => px_X (d + 1) 192 (px_psh (63, [vR 123, vI x1], []) q.1) q.2) := ((xs_ine k192_5).trans (px_ite (fun c1 => ((xs_bi k192_8 (by omega)).trans ((xs_ildn k192_10 rfl).trans ((xs_si k192_11 (by omega)).trans ((xs_irem k192_14 (by omega)).trans ((xs_si k192_15 (by omega)).trans ((xs_isub k192_18).trans (xs_callsB k192_19 (as := [vI (px_w32 ((Int.tmod x1 720) - 360))]) rfl rfl (Nat.le_of_ble_eq_true rfl) (Nat.le_of_ble_eq_true rfl) (Nat.le_of_ble_eq_true rfl))))))))) (fun c1 => ((xs_aldn k192_26 rfl).trans ((xs_get4 k192_27 (px_s123 L) (Nat.le_of_ble_eq_true rfl) (px_r123_36 hr)).trans ((xs_ic k192_30 (by omega)).trans ((xs_ildn k192_31 rfl).trans ((xs_iast k192_32 (px_s140 L) (by omega) (Nat.le_of_ble_eq_true rfl)).trans ((xs_aldn k192_33 rfl).trans ((xs_get4 k192_34 (px_s123 L) (Nat.le_of_ble_eq_true rfl) (px_r123_36 hr)).trans ((xs_ic k192_37 (by omega)).trans ((xs_aldn k192_38 rfl).trans ((xs_get4 k192_39 (px_s123 L) (Nat.le_of_ble_eq_true rfl) (px_r123_3 hr)).trans ((xs_ic k192_42 (by omega)).trans ((xs_iald k192_43 (px_s124 L) (by omega)).trans ((xs_iast k192_44 (px_s140 L) (by omega) (Nat.le_of_ble_eq_true rfl)).trans ((xs_aldn k192_45 rfl).trans ((xs_get4 k192_46 (px_s123 L) (Nat.le_of_ble_eq_true rfl) (px_r123_36 hr)).trans ((xs_ic k192_49 (by omega)).trans ((xs_aldn k192_50 rfl).trans ((xs_get4 k192_51 (px_s123 L) (Nat.le_of_ble_eq_true rfl) (px_r123_3 hr)).trans ((xs_ic k192_54 (by omega)).trans ((xs_iald k192_55 (px_s124 L) (by omega)).trans ((xs_iast k192_56 (px_s140 L) (by omega) (Nat.le_of_ble_eq_true rfl)).trans ((xs_aldn k192_57 rfl).trans ((xs_ic k192_58 (by omega)).trans ((xs_lc0 k192_59).trans (xs_callvB k192_60 (as := [vI 0, vL 0]) rfl rfl (Nat.le_of_ble_eq_true rfl) (Nat.le_of_ble_eq_true rfl) (Nat.le_of_ble_eq_true rfl) (px_s123 L) (Nat.le_of_ble_eq_true rfl)))))))))))))))))))))))))))))
theorem b192_22 (hr : px_hr r) (d : Nat) (i l : MI) (x1 : Int) (xs0 : Int) (xs1 : Int) : px_X d 192 (22, [vR 123, vI x1], [vI xs0, vI xs1]) (px_sh L, i, l, r, t) = some (some (vI (px_w32 (xs1 - (px_w32 (Int.tdiv xs0 4))))), (px_sh L, i, l, r, t)) := ((xs_ic k192_22 (by omega)).trans ((xs_idiv k192_23 (by omega)).trans ((xs_isub k192_24).trans (xs_ri k192_25 rfl))))
theorem b192_63 (hr : px_hr r) (d : Nat) (i l : MI) (x1 : Int) (xs0 : Int) : px_X (d + 1) 192 (63, [vR 123, vI x1], [vL xs0]) (px_sh L, i, l, r, t) = (px_C d 190 [vL xs0, vI 999] (px_sh L, i, l, r, t)).bind (fun q => px_X (d + 1) 192 (px_psh (69, [vR 123, vI x1], []) q.1) q.2) := ((xs_si k192_63 (by omega)).trans (xs_callsB k192_66 (as := [vL xs0, vI 999]) rfl rfl (Nat.le_of_ble_eq_true rfl) (Nat.le_of_ble_eq_true rfl) (Nat.le_of_ble_eq_true rfl)))
theorem b192_69 (hr : px_hr r) (d : Nat) (i l : MI) (x1 : Int) (xs0 : Int) : px_X d 192 (69, [vR 123, vI x1], [vI xs0]) (px_sh L, i, l, r, t) = some (some (vI xs0), (px_sh L, i, l, r, t)) := (xs_ri k192_69 rfl)
-- TideGuestsModel.level ('R123', 'I')
theorem b193_0 (hr : px_hr r) (d : Nat) (i l : MI) (x1 : Int) : px_X (d + 1) 193 (0, [vR 123, vI x1], []) (px_sh L, i, l, r, t) = (px_C d 145 [vI x1] (px_sh L, i, l, r, t)).bind (fun q => px_X (d + 1) 193 (px_psh (4, [vR 123, vI x1], []) q.1) q.2) := ((xs_ildn k193_0 rfl).trans (xs_callsB k193_1 (as := [vI x1]) rfl rfl (Nat.le_of_ble_eq_true rfl) (Nat.le_of_ble_eq_true rfl) (Nat.le_of_ble_eq_true rfl)))
theorem b193_4 (hr : px_hr r) (d : Nat) (i l : MI) (x1 : Int) (xs0 : Int) : px_X (d + 1) 193 (4, [vR 123, vI x1], [vI xs0]) (px_sh L, i, l, r, t) = if xs0 = 0 then some (some (vI (-1)), (px_sh L, i, l, r, t)) else (px_C d 192 [vR 123, vI x1] (px_sh L, i, l, r, t)).bind (fun q => px_X (d + 1) 193 (px_psh (12, [vR 123, vI x1], []) q.1) q.2) := ((xs_ieq k193_4).trans (px_ite (fun c1 => ((xs_ic k193_15 (by omega)).trans (xs_ri k193_16 rfl))) (fun c1 => ((xs_aldn k193_7 rfl).trans ((xs_ildn k193_8 rfl).trans (xs_callvB k193_9 (as := [vI x1]) rfl rfl (Nat.le_of_ble_eq_true rfl) (Nat.le_of_ble_eq_true rfl) (Nat.le_of_ble_eq_true rfl) (px_s123 L) (Nat.le_of_ble_eq_true rfl)))))))
theorem b193_12 (hr : px_hr r) (d : Nat) (i l : MI) (x1 : Int) (xs0 : Int) : px_X d 193 (12, [vR 123, vI x1], [vI xs0]) (px_sh L, i, l, r, t) = some (some (vI xs0), (px_sh L, i, l, r, t)) := ((xs_goto k193_12).trans (xs_ri k193_16 rfl))
-- TideGuestsModel.highOf ('R123', 'I')
theorem b194_0 (hr : px_hr r) (d : Nat) (i l : MI) (x1 : Int) (h1 : (¬ (x1 = (-1))) → 0 ≤ (px_w32 (100 + (px_w32 (2 * x1)))) ∧ (px_w32 (100 + (px_w32 (2 * x1)))) < 820) : px_X d 194 (0, [vR 123, vI x1], []) (px_sh L, i, l, r, t) = if x1 = (-1) then some (some (vI 0), (px_sh L, i, l, r, t)) else some (some (vI (i 124 (px_w32 (100 + (px_w32 (2 * x1)))))), (px_sh L, i, l, r, t)) := ((xs_ildn k194_0 rfl).trans ((xs_ic k194_1 (by omega)).trans ((xs_jne k194_2).trans (px_ite (fun c1 => ((xs_ic k194_5 (by omega)).trans ((xs_goto k194_6).trans (xs_ri k194_20 rfl)))) (fun c1 => ((xs_aldn k194_9 rfl).trans ((xs_get4 k194_10 (px_s123 L) (Nat.le_of_ble_eq_true rfl) (px_r123_3 hr)).trans ((xs_bi k194_13 (by omega)).trans ((xs_ic k194_15 (by omega)).trans ((xs_ildn k194_16 rfl).trans ((xs_imul k194_17).trans ((xs_iadd k194_18).trans ((xs_iald k194_19 (px_s124 L) (h1 c1)).trans (xs_ri k194_20 rfl))))))))))))))
-- TideGuestsModel.nextGuest ('R123', 'I')
theorem b195_0 (hr : px_hr r) (d : Nat) (i l : MI) (x1 : Int) : px_X d 195 (0, [vR 123, vI x1, vJ, vJ], []) (px_sh L, i, l, r, t) = px_X d 195 (4, [vR 123, vI x1, vI (-1), vI 0], []) (px_sh L, i, l, r, t) := ((xs_ic k195_0 (by omega)).trans ((xs_istn k195_1 (Nat.le_of_ble_eq_true rfl) (ls' := [vR 123, vI x1, vI (-1), vJ]) rfl).trans ((xs_ic k195_2 (by omega)).trans (xs_istn k195_3 (Nat.le_of_ble_eq_true rfl) (ls' := [vR 123, vI x1, vI (-1), vI 0]) rfl))))
theorem b195_4 (hr : px_hr r) (d : Nat) (i l : MI) (x1 : Int) (x2 : Int) (x3 : Int) (h1 : (¬ ((i 124 4) ≤ x3)) → ((px_and (px_shr x1 x3) 1) = 1) → 0 ≤ x3 ∧ x3 < 10) : px_X (d + 1) 195 (4, [vR 123, vI x1, vI x2, vI x3], []) (px_sh L, i, l, r, t) = if (i 124 4) ≤ x3 then some (some (vI x2), (px_sh L, i, l, r, t)) else if (px_and (px_shr x1 x3) 1) = 1 then if (i 144 x3) = 0 then if x2 = (-1) then px_X (d + 1) 195 (4, [vR 123, vI x1, vI x3, vI (px_w32 (x3 + 1))], []) (px_sh L, i, l, r, t) else (px_C d 146 [vR 123, vI x3, vI 0] (px_sh L, i, l, r, t)).bind (fun q => px_X (d + 1) 195 (px_psh (43, [vR 123, vI x1, vI x2, vI x3], []) q.1) q.2) else px_X (d + 1) 195 (4, [vR 123, vI x1, vI x2, vI (px_w32 (x3 + 1))], []) (px_sh L, i, l, r, t) else px_X (d + 1) 195 (4, [vR 123, vI x1, vI x2, vI (px_w32 (x3 + 1))], []) (px_sh L, i, l, r, t) := ((xs_ildn k195_4 rfl).trans ((xs_aldn k195_5 rfl).trans ((xs_get4 k195_6 (px_s123 L) (Nat.le_of_ble_eq_true rfl) (px_r123_3 hr)).trans ((xs_ic k195_9 (by omega)).trans ((xs_iald k195_10 (px_s124 L) (by omega)).trans ((xs_jge k195_11).trans (px_ite (fun c1 => ((xs_ildn k195_60 rfl).trans (xs_ri k195_61 rfl))) (fun c1 => ((xs_ildn k195_14 rfl).trans ((xs_ildn k195_15 rfl).trans ((xs_ishr k195_16).trans ((xs_ic k195_17 (by omega)).trans ((xs_iand k195_18).trans ((xs_ic k195_19 (by omega)).trans ((xs_jne k195_20).trans (px_ite (fun c2 => ((xs_aldn k195_23 rfl).trans ((xs_get4 k195_24 (px_s123 L) (Nat.le_of_ble_eq_true rfl) (px_r123_40 hr)).trans ((xs_ildn k195_27 rfl).trans ((xs_bald2 k195_28 (px_s144 L) (h1 c1 c2)).trans ((xs_ine k195_29).trans (px_ite (fun c3 => ((xs_ildn k195_32 rfl).trans ((xs_ic k195_33 (by omega)).trans ((xs_jeq k195_34).trans (px_ite (fun c4 => ((xs_ildn k195_52 rfl).trans ((xs_istn k195_53 (Nat.le_of_ble_eq_true rfl) (ls' := [vR 123, vI x1, vI x3, vI x3]) rfl).trans ((xs_iinc k195_54 rfl (by omega) (ls' := [vR 123, vI x1, vI x3, vI (px_w32 (x3 + 1))]) rfl).trans (xs_goto k195_57))))) (fun c4 => ((xs_aldn k195_37 rfl).trans ((xs_ildn k195_38 rfl).trans ((xs_ic k195_39 (by omega)).trans (xs_callvB k195_40 (as := [vI x3, vI 0]) rfl rfl (Nat.le_of_ble_eq_true rfl) (Nat.le_of_ble_eq_true rfl) (Nat.le_of_ble_eq_true rfl) (px_s123 L) (Nat.le_of_ble_eq_true rfl))))))))))) (fun c3 => ((xs_iinc k195_54 rfl (by omega) (ls' := [vR 123, vI x1, vI x2, vI (px_w32 (x3 + 1))]) rfl).trans (xs_goto k195_57)))))))))) (fun c2 => ((xs_iinc k195_54 rfl (by omega) (ls' := [vR 123, vI x1, vI x2, vI (px_w32 (x3 + 1))]) rfl).trans (xs_goto k195_57)))))))))))))))))))
theorem b195_43 (hr : px_hr r) (d : Nat) (i l : MI) (x1 : Int) (x2 : Int) (x3 : Int) (xs0 : Int) : px_X (d + 1) 195 (43, [vR 123, vI x1, vI x2, vI x3], [vI xs0]) (px_sh L, i, l, r, t) = (px_C d 146 [vR 123, vI x2, vI 0] (px_sh L, i, l, r, t)).bind (fun q => px_X (d + 1) 195 (px_psh (49, [vR 123, vI x1, vI x2, vI x3], [vI xs0]) q.1) q.2) := ((xs_aldn k195_43 rfl).trans ((xs_ildn k195_44 rfl).trans ((xs_ic k195_45 (by omega)).trans (xs_callvB k195_46 (as := [vI x2, vI 0]) rfl rfl (Nat.le_of_ble_eq_true rfl) (Nat.le_of_ble_eq_true rfl) (Nat.le_of_ble_eq_true rfl) (px_s123 L) (Nat.le_of_ble_eq_true rfl)))))
theorem b195_49 (hr : px_hr r) (d : Nat) (i l : MI) (x1 : Int) (x2 : Int) (x3 : Int) (xs0 : Int) (xs1 : Int) : px_X d 195 (49, [vR 123, vI x1, vI x2, vI x3], [vI xs0, vI xs1]) (px_sh L, i, l, r, t) = if xs1 ≤ xs0 then px_X d 195 (4, [vR 123, vI x1, vI x2, vI (px_w32 (x3 + 1))], []) (px_sh L, i, l, r, t) else px_X d 195 (4, [vR 123, vI x1, vI x3, vI (px_w32 (x3 + 1))], []) (px_sh L, i, l, r, t) := ((xs_jle k195_49).trans (px_ite (fun c1 => ((xs_iinc k195_54 rfl (by omega) (ls' := [vR 123, vI x1, vI x2, vI (px_w32 (x3 + 1))]) rfl).trans (xs_goto k195_57))) (fun c1 => ((xs_ildn k195_52 rfl).trans ((xs_istn k195_53 (Nat.le_of_ble_eq_true rfl) (ls' := [vR 123, vI x1, vI x3, vI x3]) rfl).trans ((xs_iinc k195_54 rfl (by omega) (ls' := [vR 123, vI x1, vI x3, vI (px_w32 (x3 + 1))]) rfl).trans (xs_goto k195_57)))))))
-- TideGuestsModel.perchFor ('R123', 'I', 'I', 'I')
theorem b196_0 (hr : px_hr r) (d : Nat) (i l : MI) (x1 : Int) (x2 : Int) (x3 : Int) : px_X (d + 1) 196 (0, [vR 123, vI x1, vI x2, vI x3, vJ, vJ, vJ, vJ, vJ, vJ], []) (px_sh L, i, l, r, t) = (px_C d 146 [vR 123, vI x1, vI 0] (px_sh L, (px_up i 140 0 x2), l, r, t)).bind (fun q => px_X (d + 1) 196 (px_psh (18, [vR 123, vI x1, vI x2, vI x3, vJ, vJ, vJ, vJ, vJ, vJ], [vI 3, vR 140]) q.1) q.2) := ((xs_aldn k196_0 rfl).trans ((xs_get4 k196_1 (px_s123 L) (Nat.le_of_ble_eq_true rfl) (px_r123_36 hr)).trans ((xs_ic k196_4 (by omega)).trans ((xs_ildn k196_5 rfl).trans ((xs_iast k196_6 (px_s140 L) (by omega) (Nat.le_of_ble_eq_true rfl)).trans ((xs_aldn k196_7 rfl).trans ((xs_get4 k196_8 (px_s123 L) (Nat.le_of_ble_eq_true rfl) (px_r123_36 hr)).trans ((xs_ic k196_11 (by omega)).trans ((xs_aldn k196_12 rfl).trans ((xs_ildn k196_13 rfl).trans ((xs_ic k196_14 (by omega)).trans (xs_callvB k196_15 (as := [vI x1, vI 0]) rfl rfl (Nat.le_of_ble_eq_true rfl) (Nat.le_of_ble_eq_true rfl) (Nat.le_of_ble_eq_true rfl) (px_s123 L) (Nat.le_of_ble_eq_true rfl)))))))))))))
theorem b196_18 (hr : px_hr r) (d : Nat) (i l : MI) (x1 : Int) (x2 : Int) (x3 : Int) (xs0 : Int) (xs1 : Int) (h1 : 0 ≤ xs1 ∧ xs1 < 15) : px_X (d + 1) 196 (18, [vR 123, vI x1, vI x2, vI x3, vJ, vJ, vJ, vJ, vJ, vJ], [vI xs0, vI xs1, vR 140]) (px_sh L, i, l, r, t) = (px_C d 146 [vR 123, vI x1, vI 2] (px_sh L, (px_up i 140 xs1 xs0), l, r, t)).bind (fun q => px_X (d + 1) 196 (px_psh (30, [vR 123, vI x1, vI x2, vI x3, vJ, vJ, vJ, vJ, vJ, vJ], [vI 4, vR 140]) q.1) q.2) := ((xs_iast k196_18 (px_s140 L) (h1) (Nat.le_of_ble_eq_true rfl)).trans ((xs_aldn k196_19 rfl).trans ((xs_get4 k196_20 (px_s123 L) (Nat.le_of_ble_eq_true rfl) (px_r123_36 hr)).trans ((xs_ic k196_23 (by omega)).trans ((xs_aldn k196_24 rfl).trans ((xs_ildn k196_25 rfl).trans ((xs_ic k196_26 (by omega)).trans (xs_callvB k196_27 (as := [vI x1, vI 2]) rfl rfl (Nat.le_of_ble_eq_true rfl) (Nat.le_of_ble_eq_true rfl) (Nat.le_of_ble_eq_true rfl) (px_s123 L) (Nat.le_of_ble_eq_true rfl)))))))))
theorem b196_30 (hr : px_hr r) (d : Nat) (i l : MI) (x1 : Int) (x2 : Int) (x3 : Int) (xs0 : Int) (xs1 : Int) (h1 : 0 ≤ xs1 ∧ xs1 < 15) : px_X (d + 1) 196 (30, [vR 123, vI x1, vI x2, vI x3, vJ, vJ, vJ, vJ, vJ, vJ], [vI xs0, vI xs1, vR 140]) (px_sh L, i, l, r, t) = (px_C d 146 [vR 123, vI x1, vI 3] (px_sh L, (px_up i 140 xs1 xs0), l, r, t)).bind (fun q => px_X (d + 1) 196 (px_psh (42, [vR 123, vI x1, vI x2, vI x3, vJ, vJ, vJ, vJ, vJ, vJ], [vI 5, vR 140]) q.1) q.2) := ((xs_iast k196_30 (px_s140 L) (h1) (Nat.le_of_ble_eq_true rfl)).trans ((xs_aldn k196_31 rfl).trans ((xs_get4 k196_32 (px_s123 L) (Nat.le_of_ble_eq_true rfl) (px_r123_36 hr)).trans ((xs_ic k196_35 (by omega)).trans ((xs_aldn k196_36 rfl).trans ((xs_ildn k196_37 rfl).trans ((xs_ic k196_38 (by omega)).trans (xs_callvB k196_39 (as := [vI x1, vI 3]) rfl rfl (Nat.le_of_ble_eq_true rfl) (Nat.le_of_ble_eq_true rfl) (Nat.le_of_ble_eq_true rfl) (px_s123 L) (Nat.le_of_ble_eq_true rfl)))))))))
theorem b196_42 (hr : px_hr r) (d : Nat) (i l : MI) (x1 : Int) (x2 : Int) (x3 : Int) (xs0 : Int) (xs1 : Int) (h1 : 0 ≤ xs1 ∧ xs1 < 15) : px_X (d + 1) 196 (42, [vR 123, vI x1, vI x2, vI x3, vJ, vJ, vJ, vJ, vJ, vJ], [vI xs0, vI xs1, vR 140]) (px_sh L, i, l, r, t) = (px_C d 146 [vR 123, vI x1, vI 4] (px_sh L, (px_up i 140 xs1 xs0), l, r, t)).bind (fun q => px_X (d + 1) 196 (px_psh (55, [vR 123, vI x1, vI x2, vI x3, vJ, vJ, vJ, vJ, vJ, vJ], [vI 6, vR 140]) q.1) q.2) := ((xs_iast k196_42 (px_s140 L) (h1) (Nat.le_of_ble_eq_true rfl)).trans ((xs_aldn k196_43 rfl).trans ((xs_get4 k196_44 (px_s123 L) (Nat.le_of_ble_eq_true rfl) (px_r123_36 hr)).trans ((xs_bi k196_47 (by omega)).trans ((xs_aldn k196_49 rfl).trans ((xs_ildn k196_50 rfl).trans ((xs_ic k196_51 (by omega)).trans (xs_callvB k196_52 (as := [vI x1, vI 4]) rfl rfl (Nat.le_of_ble_eq_true rfl) (Nat.le_of_ble_eq_true rfl) (Nat.le_of_ble_eq_true rfl) (px_s123 L) (Nat.le_of_ble_eq_true rfl)))))))))
theorem b196_55 (hr : px_hr r) (d : Nat) (i l : MI) (x1 : Int) (x2 : Int) (x3 : Int) (xs0 : Int) (xs1 : Int) (h1 : 0 ≤ xs1 ∧ xs1 < 15) : px_X d 196 (55, [vR 123, vI x1, vI x2, vI x3, vJ, vJ, vJ, vJ, vJ, vJ], [vI xs0, vI xs1, vR 140]) (px_sh L, i, l, r, t) = px_X d 196 (73, [vR 123, vI x1, vI x2, vI x3, vI (-1), vL 0, vJ, vI 0, vJ, vJ], []) (px_sh L, (px_up (px_up i 140 xs1 xs0) 140 8 x3), l, r, t) := ((xs_iast k196_55 (px_s140 L) (h1) (Nat.le_of_ble_eq_true rfl)).trans ((xs_aldn k196_56 rfl).trans ((xs_get4 k196_57 (px_s123 L) (Nat.le_of_ble_eq_true rfl) (px_r123_36 hr)).trans ((xs_bi k196_60 (by omega)).trans ((xs_ildn k196_62 rfl).trans ((xs_iast k196_63 (px_s140 L) (by omega) (Nat.le_of_ble_eq_true rfl)).trans ((xs_ic k196_64 (by omega)).trans ((xs_ist k196_65 (Nat.le_of_ble_eq_true rfl) (ls' := [vR 123, vI x1, vI x2, vI x3, vI (-1), vJ, vJ, vJ, vJ, vJ]) rfl).trans ((xs_lc0 k196_67).trans ((xs_lst k196_68 (Nat.le_of_ble_eq_true rfl) (ls' := [vR 123, vI x1, vI x2, vI x3, vI (-1), vL 0, vJ, vJ, vJ, vJ]) rfl).trans ((xs_ic k196_70 (by omega)).trans (xs_ist k196_71 (Nat.le_of_ble_eq_true rfl) (ls' := [vR 123, vI x1, vI x2, vI x3, vI (-1), vL 0, vJ, vI 0, vJ, vJ]) rfl))))))))))))
theorem b196_73 (hr : px_hr r) (d : Nat) (i l : MI) (x1 : Int) (x2 : Int) (x3 : Int) (x4 : Int) (x5 : Int) (x7 : Int) {v8 : PV} (hn8 : px_nl v8) (h1 : (¬ ((i 124 3) ≤ x7)) → 0 ≤ x7 ∧ x7 < 8) : px_X (d + 1) 196 (73, [vR 123, vI x1, vI x2, vI x3, vI x4, vL x5, vJ, vI x7, v8, vJ], []) (px_sh L, i, l, r, t) = if (i 124 3) ≤ x7 then some (some (vI x4), (px_sh L, i, l, r, t)) else if (i 143 x7) ≤ 0 then px_X (d + 1) 196 (73, [vR 123, vI x1, vI x2, vI x3, vI x4, vL x5, vJ, vI (px_w32 (x7 + 1)), v8, vJ], []) (px_sh L, i, l, r, t) else (px_C d 194 [vR 123, vI x7] (px_sh L, i, l, r, t)).bind (fun q => px_X (d + 1) 196 (px_psh (106, [vR 123, vI x1, vI x2, vI x3, vI x4, vL x5, vJ, vI x7, v8, vJ], [vI 7, vR 140]) q.1) q.2) := ((xs_ild k196_73 rfl).trans ((xs_aldn k196_75 rfl).trans ((xs_get4 k196_76 (px_s123 L) (Nat.le_of_ble_eq_true rfl) (px_r123_3 hr)).trans ((xs_ic k196_79 (by omega)).trans ((xs_iald k196_80 (px_s124 L) (by omega)).trans ((xs_jge k196_81).trans (px_ite (fun c1 => ((xs_ild k196_187 rfl).trans (xs_ri k196_189 rfl))) (fun c1 => ((xs_aldn k196_84 rfl).trans ((xs_get4 k196_85 (px_s123 L) (Nat.le_of_ble_eq_true rfl) (px_r123_39 hr)).trans ((xs_ild k196_88 rfl).trans ((xs_iald k196_90 (px_s143 L) (h1 c1)).trans ((xs_ile k196_91).trans (px_ite (fun c2 => ((xs_iinc k196_181 rfl (by omega) (ls' := [vR 123, vI x1, vI x2, vI x3, vI x4, vL x5, vJ, vI (px_w32 (x7 + 1)), v8, vJ]) rfl).trans (xs_goto k196_184))) (fun c2 => ((xs_aldn k196_94 rfl).trans ((xs_get4 k196_95 (px_s123 L) (Nat.le_of_ble_eq_true rfl) (px_r123_36 hr)).trans ((xs_bi k196_98 (by omega)).trans ((xs_aldn k196_100 rfl).trans ((xs_ild k196_101 rfl).trans (xs_callvB k196_103 (as := [vI x7]) rfl rfl (Nat.le_of_ble_eq_true rfl) (Nat.le_of_ble_eq_true rfl) (Nat.le_of_ble_eq_true rfl) (px_s123 L) (Nat.le_of_ble_eq_true rfl))))))))))))))))))))))
theorem b196_106 (hr : px_hr r) (d : Nat) (i l : MI) (x1 : Int) (x2 : Int) (x3 : Int) (x4 : Int) (x5 : Int) (x7 : Int) {v8 : PV} (hn8 : px_nl v8) (xs0 : Int) (xs1 : Int) (h1 : 0 ≤ xs1 ∧ xs1 < 15) (h2 : 0 ≤ (px_w32 ((px_w32 (100 + (px_w32 (2 * x7)))) + 1)) ∧ (px_w32 ((px_w32 (100 + (px_w32 (2 * x7)))) + 1)) < 820) (h3 : 0 ≤ x7 ∧ x7 < 8) : px_X (d + 1) 196 (106, [vR 123, vI x1, vI x2, vI x3, vI x4, vL x5, vJ, vI x7, v8, vJ], [vI xs0, vI xs1, vR 140]) (px_sh L, i, l, r, t) = (px_C d 189 [vR 123, vI 4] (px_sh L, (px_up (px_up i 140 xs1 xs0) 140 9 (px_w32 ((i 124 (px_w32 ((px_w32 (100 + (px_w32 (2 * x7)))) + 1))) - (i 143 x7)))), l, r, t)).bind (fun q => px_X (d + 1) 196 (px_psh (141, [vR 123, vI x1, vI x2, vI x3, vI x4, vL x5, vJ, vI x7, v8, vJ], []) q.1) q.2) := ((xs_iast k196_106 (px_s140 L) (h1) (Nat.le_of_ble_eq_true rfl)).trans ((xs_aldn k196_107 rfl).trans ((xs_get4 k196_108 (px_s123 L) (Nat.le_of_ble_eq_true rfl) (px_r123_36 hr)).trans ((xs_bi k196_111 (by omega)).trans ((xs_aldn k196_113 rfl).trans ((xs_get4 k196_114 (px_s123 L) (Nat.le_of_ble_eq_true rfl) (px_r123_3 hr)).trans ((xs_bi k196_117 (by omega)).trans ((xs_ic k196_119 (by omega)).trans ((xs_ild k196_120 rfl).trans ((xs_imul k196_122).trans ((xs_iadd k196_123).trans ((xs_ic k196_124 (by omega)).trans ((xs_iadd k196_125).trans ((xs_iald k196_126 (px_s124 L) (h2)).trans ((xs_aldn k196_127 rfl).trans ((xs_get4 k196_128 (px_s123 L) (Nat.le_of_ble_eq_true rfl) (px_r123_39 hr)).trans ((xs_ild k196_131 rfl).trans ((xs_iald k196_133 (px_s143 L) (h3)).trans ((xs_isub k196_134).trans ((xs_iast k196_135 (px_s140 L) (by omega) (Nat.le_of_ble_eq_true rfl)).trans ((xs_aldn k196_136 rfl).trans ((xs_ic k196_137 (by omega)).trans (xs_callvB k196_138 (as := [vI 4]) rfl rfl (Nat.le_of_ble_eq_true rfl) (Nat.le_of_ble_eq_true rfl) (Nat.le_of_ble_eq_true rfl) (px_s123 L) (Nat.le_of_ble_eq_true rfl))))))))))))))))))))))))
theorem b196_141 (hr : px_hr r) (d : Nat) (i l : MI) (x1 : Int) (x2 : Int) (x3 : Int) (x4 : Int) (x5 : Int) (x7 : Int) {v8 : PV} (hn8 : px_nl v8) (xs0 : Int) : px_X (d + 1) 196 (141, [vR 123, vI x1, vI x2, vI x3, vI x4, vL x5, vJ, vI x7, v8, vJ], [vI xs0]) (px_sh L, i, l, r, t) = if xs0 = 0 then (px_C d 188 [vR 123, vI 1, vL (i 140 7)] (px_sh L, i, l, r, t)).bind (fun q => px_X (d + 1) 196 (px_psh (157, [vR 123, vI x1, vI x2, vI x3, vI x4, vL x5, vJ, vI x7, v8, vJ], []) q.1) q.2) else px_X (d + 1) 196 (73, [vR 123, vI x1, vI x2, vI x3, vI x4, vL x5, vJ, vI (px_w32 (x7 + 1)), v8, vJ], []) (px_sh L, i, l, r, t) := ((xs_ine k196_141).trans (px_ite (fun c1 => ((xs_aldn k196_144 rfl).trans ((xs_ic k196_145 (by omega)).trans ((xs_aldn k196_146 rfl).trans ((xs_get4 k196_147 (px_s123 L) (Nat.le_of_ble_eq_true rfl) (px_r123_36 hr)).trans ((xs_bi k196_150 (by omega)).trans ((xs_iald k196_152 (px_s140 L) (by omega)).trans ((xs_i2l k196_153).trans (xs_callvB k196_154 (as := [vI 1, vL (i 140 7)]) rfl rfl (Nat.le_of_ble_eq_true rfl) (Nat.le_of_ble_eq_true rfl) (Nat.le_of_ble_eq_true rfl) (px_s123 L) (Nat.le_of_ble_eq_true rfl)))))))))) (fun c1 => ((xs_iinc k196_181 rfl (by omega) (ls' := [vR 123, vI x1, vI x2, vI x3, vI x4, vL x5, vJ, vI (px_w32 (x7 + 1)), v8, vJ]) rfl).trans (xs_goto k196_184)))))
theorem b196_157 (hr : px_hr r) (d : Nat) (i l : MI) (x1 : Int) (x2 : Int) (x3 : Int) (x4 : Int) (x5 : Int) (x7 : Int) {v8 : PV} (hn8 : px_nl v8) (xs0 : Int) : px_X d 196 (157, [vR 123, vI x1, vI x2, vI x3, vI x4, vL x5, vJ, vI x7, v8, vJ], [vL xs0]) (px_sh L, i, l, r, t) = if x4 = (-1) then px_X d 196 (73, [vR 123, vI x1, vI x2, vI x3, vI x7, vL xs0, vJ, vI (px_w32 (x7 + 1)), vL xs0, vJ], []) (px_sh L, i, l, r, t) else if (px_cmp xs0 x5) ≤ 0 then px_X d 196 (73, [vR 123, vI x1, vI x2, vI x3, vI x4, vL x5, vJ, vI (px_w32 (x7 + 1)), vL xs0, vJ], []) (px_sh L, i, l, r, t) else px_X d 196 (73, [vR 123, vI x1, vI x2, vI x3, vI x7, vL xs0, vJ, vI (px_w32 (x7 + 1)), vL xs0, vJ], []) (px_sh L, i, l, r, t) := ((xs_lst k196_157 (Nat.le_of_ble_eq_true rfl) (ls' := [vR 123, vI x1, vI x2, vI x3, vI x4, vL x5, vJ, vI x7, vL xs0, vJ]) rfl).trans ((xs_ild k196_159 rfl).trans ((xs_ic k196_161 (by omega)).trans ((xs_jeq k196_162).trans (px_ite (fun c1 => ((xs_ild k196_173 rfl).trans ((xs_ist k196_175 (Nat.le_of_ble_eq_true rfl) (ls' := [vR 123, vI x1, vI x2, vI x3, vI x7, vL x5, vJ, vI x7, vL xs0, vJ]) rfl).trans ((xs_lld k196_177 rfl).trans ((xs_lst k196_179 (Nat.le_of_ble_eq_true rfl) (ls' := [vR 123, vI x1, vI x2, vI x3, vI x7, vL xs0, vJ, vI x7, vL xs0, vJ]) rfl).trans ((xs_iinc k196_181 rfl (by omega) (ls' := [vR 123, vI x1, vI x2, vI x3, vI x7, vL xs0, vJ, vI (px_w32 (x7 + 1)), vL xs0, vJ]) rfl).trans (xs_goto k196_184))))))) (fun c1 => ((xs_lld k196_165 rfl).trans ((xs_lld k196_167 rfl).trans ((xs_lcmp k196_169).trans ((xs_ile k196_170).trans (px_ite (fun c2 => ((xs_iinc k196_181 rfl (by omega) (ls' := [vR 123, vI x1, vI x2, vI x3, vI x4, vL x5, vJ, vI (px_w32 (x7 + 1)), vL xs0, vJ]) rfl).trans (xs_goto k196_184))) (fun c2 => ((xs_ild k196_173 rfl).trans ((xs_ist k196_175 (Nat.le_of_ble_eq_true rfl) (ls' := [vR 123, vI x1, vI x2, vI x3, vI x7, vL x5, vJ, vI x7, vL xs0, vJ]) rfl).trans ((xs_lld k196_177 rfl).trans ((xs_lst k196_179 (Nat.le_of_ble_eq_true rfl) (ls' := [vR 123, vI x1, vI x2, vI x3, vI x7, vL xs0, vJ, vI x7, vL xs0, vJ]) rfl).trans ((xs_iinc k196_181 rfl (by omega) (ls' := [vR 123, vI x1, vI x2, vI x3, vI x7, vL xs0, vJ, vI (px_w32 (x7 + 1)), vL xs0, vJ]) rfl).trans (xs_goto k196_184))))))))))))))))))
-- TideGuestsModel.seats ('R123', 'I', 'I')
theorem b197_0 (hr : px_hr r) (d : Nat) (i l : MI) (x1 : Int) (x2 : Int) : px_X (d + 1) 197 (0, [vR 123, vI x1, vI x2, vJ, vJ, vJ], []) (px_sh L, i, l, r, t) = (px_C d 192 [vR 123, vI x2] (px_sh L, i, l, r, t)).bind (fun q => px_X (d + 1) 197 (px_psh (5, [vR 123, vI x1, vI x2, vJ, vJ, vJ], []) q.1) q.2) := ((xs_aldn k197_0 rfl).trans ((xs_ildn k197_1 rfl).trans (xs_callvB k197_2 (as := [vI x2]) rfl rfl (Nat.le_of_ble_eq_true rfl) (Nat.le_of_ble_eq_true rfl) (Nat.le_of_ble_eq_true rfl) (px_s123 L) (Nat.le_of_ble_eq_true rfl))))
theorem b197_5 (hr : px_hr r) (d : Nat) (i l : MI) (x1 : Int) (x2 : Int) (xs0 : Int) : px_X d 197 (5, [vR 123, vI x1, vI x2, vJ, vJ, vJ], [vI xs0]) (px_sh L, i, l, r, t) = px_X d 197 (9, [vR 123, vI x1, vI x2, vI xs0, vI 0, vJ], []) (px_sh L, i, l, r, t) := ((xs_istn k197_5 (Nat.le_of_ble_eq_true rfl) (ls' := [vR 123, vI x1, vI x2, vI xs0, vJ, vJ]) rfl).trans ((xs_ic k197_6 (by omega)).trans (xs_ist k197_7 (Nat.le_of_ble_eq_true rfl) (ls' := [vR 123, vI x1, vI x2, vI xs0, vI 0, vJ]) rfl)))
theorem b197_9 (hr : px_hr r) (d : Nat) (i l : MI) (x1 : Int) (x2 : Int) (x3 : Int) (x4 : Int) (h1 : (¬ ((i 124 3) ≤ x4)) → 0 ≤ (px_w32 ((px_w32 (100 + (px_w32 (2 * x4)))) + 1)) ∧ (px_w32 ((px_w32 (100 + (px_w32 (2 * x4)))) + 1)) < 820) (h2 : (¬ ((i 124 3) ≤ x4)) → 0 ≤ x4 ∧ x4 < 8) : px_X d 197 (9, [vR 123, vI x1, vI x2, vI x3, vI x4, vJ], []) (px_sh L, i, l, r, t) = if (i 124 3) ≤ x4 then px_X d 197 (50, [vR 123, vI x1, vI x2, vI x3, vI 0, vJ], []) (px_sh L, i, l, r, t) else px_X d 197 (9, [vR 123, vI x1, vI x2, vI x3, vI (px_w32 (x4 + 1)), vJ], []) (px_sh L, (px_up i 143 x4 (i 124 (px_w32 ((px_w32 (100 + (px_w32 (2 * x4)))) + 1)))), l, r, t) := ((xs_ild k197_9 rfl).trans ((xs_aldn k197_11 rfl).trans ((xs_get4 k197_12 (px_s123 L) (Nat.le_of_ble_eq_true rfl) (px_r123_3 hr)).trans ((xs_ic k197_15 (by omega)).trans ((xs_iald k197_16 (px_s124 L) (by omega)).trans ((xs_jge k197_17).trans (px_ite (fun c1 => ((xs_ic k197_47 (by omega)).trans (xs_ist k197_48 (Nat.le_of_ble_eq_true rfl) (ls' := [vR 123, vI x1, vI x2, vI x3, vI 0, vJ]) rfl))) (fun c1 => ((xs_aldn k197_20 rfl).trans ((xs_get4 k197_21 (px_s123 L) (Nat.le_of_ble_eq_true rfl) (px_r123_39 hr)).trans ((xs_ild k197_24 rfl).trans ((xs_aldn k197_26 rfl).trans ((xs_get4 k197_27 (px_s123 L) (Nat.le_of_ble_eq_true rfl) (px_r123_3 hr)).trans ((xs_bi k197_30 (by omega)).trans ((xs_ic k197_32 (by omega)).trans ((xs_ild k197_33 rfl).trans ((xs_imul k197_35).trans ((xs_iadd k197_36).trans ((xs_ic k197_37 (by omega)).trans ((xs_iadd k197_38).trans ((xs_iald k197_39 (px_s124 L) (h1 c1)).trans ((xs_iast k197_40 (px_s143 L) (h2 c1) (Nat.le_of_ble_eq_true rfl)).trans ((xs_iinc k197_41 rfl (by omega) (ls' := [vR 123, vI x1, vI x2, vI x3, vI (px_w32 (x4 + 1)), vJ]) rfl).trans (xs_goto k197_44))))))))))))))))))))))))
theorem b197_50 (hr : px_hr r) (d : Nat) (i l : MI) (x1 : Int) (x2 : Int) (x3 : Int) (x4 : Int) (h1 : (¬ (10 ≤ x4)) → 0 ≤ x4 ∧ x4 < 10) : px_X (d + 1) 197 (50, [vR 123, vI x1, vI x2, vI x3, vI x4, vJ], []) (px_sh L, i, l, r, t) = if 10 ≤ x4 then (px_C d 195 [vR 123, vI x1] (px_sh L, i, l, r, t)).bind (fun q => px_X (d + 1) 197 (px_psh (85, [vR 123, vI x1, vI x2, vI x3, vI x4, vJ], []) q.1) q.2) else px_X (d + 1) 197 (50, [vR 123, vI x1, vI x2, vI x3, vI (px_w32 (x4 + 1)), vJ], []) (px_sh L, (px_up (px_up i 144 x4 0) 142 x4 (-2)), l, r, t) := ((xs_ild k197_50 rfl).trans ((xs_bi k197_52 (by omega)).trans ((xs_jge k197_54).trans (px_ite (fun c1 => ((xs_aldn k197_80 rfl).trans ((xs_ildn k197_81 rfl).trans (xs_callvB k197_82 (as := [vI x1]) rfl rfl (Nat.le_of_ble_eq_true rfl) (Nat.le_of_ble_eq_true rfl) (Nat.le_of_ble_eq_true rfl) (px_s123 L) (Nat.le_of_ble_eq_true rfl))))) (fun c1 => ((xs_aldn k197_57 rfl).trans ((xs_get4 k197_58 (px_s123 L) (Nat.le_of_ble_eq_true rfl) (px_r123_40 hr)).trans ((xs_ild k197_61 rfl).trans ((xs_ic k197_63 (by omega)).trans ((xs_bast2 k197_64 (px_s144 L) (h1 c1) (Nat.le_of_ble_eq_true rfl) (by omega)).trans ((xs_aldn k197_65 rfl).trans ((xs_get4 k197_66 (px_s123 L) (Nat.le_of_ble_eq_true rfl) (px_r123_38 hr)).trans ((xs_ild k197_69 rfl).trans ((xs_bi k197_71 (by omega)).trans ((xs_iast k197_73 (px_s142 L) (h1 c1) (Nat.le_of_ble_eq_true rfl)).trans ((xs_iinc k197_74 rfl (by omega) (ls' := [vR 123, vI x1, vI x2, vI x3, vI (px_w32 (x4 + 1)), vJ]) rfl).trans (xs_goto k197_77)))))))))))))))))
theorem b197_85 (hr : px_hr r) (d : Nat) (i l : MI) (x1 : Int) (x2 : Int) (x3 : Int) (x4 : Int) (xs0 : Int) : px_X d 197 (85, [vR 123, vI x1, vI x2, vI x3, vI x4, vJ], [vI xs0]) (px_sh L, i, l, r, t) = px_X d 197 (87, [vR 123, vI x1, vI x2, vI x3, vI xs0, vJ], []) (px_sh L, i, l, r, t) := (xs_ist k197_85 (Nat.le_of_ble_eq_true rfl) (ls' := [vR 123, vI x1, vI x2, vI x3, vI xs0, vJ]) rfl)
theorem b197_87 (hr : px_hr r) (d : Nat) (i l : MI) (x1 : Int) (x2 : Int) (x3 : Int) (x4 : Int) {v5 : PV} (hn5 : px_nl v5) : px_X (d + 1) 197 (87, [vR 123, vI x1, vI x2, vI x3, vI x4, v5], []) (px_sh L, i, l, r, t) = if x4 = (-1) then some (none, (px_sh L, i, l, r, t)) else (px_C d 196 [vR 123, vI x4, vI x2, vI x3] (px_sh L, i, l, r, t)).bind (fun q => px_X (d + 1) 197 (px_psh (101, [vR 123, vI x1, vI x2, vI x3, vI x4, v5], []) q.1) q.2) := ((xs_ild k197_87 rfl).trans ((xs_ic k197_89 (by omega)).trans ((xs_jeq k197_90).trans (px_ite (fun c1 => (xs_rv k197_147 rfl)) (fun c1 => ((xs_aldn k197_93 rfl).trans ((xs_ild k197_94 rfl).trans ((xs_ildn k197_96 rfl).trans ((xs_ildn k197_97 rfl).trans (xs_callvB k197_98 (as := [vI x4, vI x2, vI x3]) rfl rfl (Nat.le_of_ble_eq_true rfl) (Nat.le_of_ble_eq_true rfl) (Nat.le_of_ble_eq_true rfl) (px_s123 L) (Nat.le_of_ble_eq_true rfl)))))))))))
theorem b197_101 (hr : px_hr r) (d : Nat) (i l : MI) (x1 : Int) (x2 : Int) (x3 : Int) (x4 : Int) {v5 : PV} (hn5 : px_nl v5) (xs0 : Int) (h1 : 0 ≤ x4 ∧ x4 < 10) (h2 : (¬ (xs0 = (-1))) → 0 ≤ xs0 ∧ xs0 < 8) : px_X d 197 (101, [vR 123, vI x1, vI x2, vI x3, vI x4, v5], [vI xs0]) (px_sh L, i, l, r, t) = if xs0 = (-1) then px_X d 197 (137, [vR 123, vI x1, vI x2, vI x3, vI x4, vI xs0], []) (px_sh L, (px_up (px_up i 142 x4 xs0) 144 x4 1), l, r, t) else px_X d 197 (137, [vR 123, vI x1, vI x2, vI x3, vI x4, vI xs0], []) (px_sh L, (px_up (px_up (px_up i 142 x4 xs0) 144 x4 1) 143 xs0 (px_w32 ((i 143 xs0) - 1))), l, r, t) := ((xs_ist k197_101 (Nat.le_of_ble_eq_true rfl) (ls' := [vR 123, vI x1, vI x2, vI x3, vI x4, vI xs0]) rfl).trans ((xs_aldn k197_103 rfl).trans ((xs_get4 k197_104 (px_s123 L) (Nat.le_of_ble_eq_true rfl) (px_r123_38 hr)).trans ((xs_ild k197_107 rfl).trans ((xs_ild k197_109 rfl).trans ((xs_iast k197_111 (px_s142 L) (h1) (Nat.le_of_ble_eq_true rfl)).trans ((xs_aldn k197_112 rfl).trans ((xs_get4 k197_113 (px_s123 L) (Nat.le_of_ble_eq_true rfl) (px_r123_40 hr)).trans ((xs_ild k197_116 rfl).trans ((xs_ic k197_118 (by omega)).trans ((xs_bast2 k197_119 (px_s144 L) (h1) (Nat.le_of_ble_eq_true rfl) (by omega)).trans ((xs_ild k197_120 rfl).trans ((xs_ic k197_122 (by omega)).trans ((xs_jeq k197_123).trans (px_ite (fun c1 => rfl) (fun c1 => ((xs_aldn k197_126 rfl).trans ((xs_get4 k197_127 (px_s123 L) (Nat.le_of_ble_eq_true rfl) (px_r123_39 hr)).trans ((xs_ild k197_130 rfl).trans ((xs_dup2 k197_132 ⟨rfl, rfl⟩).trans ((xs_iald k197_133 (px_s143 L) (h2 c1)).trans ((xs_ic k197_134 (by omega)).trans ((xs_isub k197_135).trans (xs_iast k197_136 (px_s143 L) (h2 c1) (Nat.le_of_ble_eq_true rfl)))))))))))))))))))))))))
theorem b197_137 (hr : px_hr r) (d : Nat) (i l : MI) (x1 : Int) (x2 : Int) (x3 : Int) (x4 : Int) (x5 : Int) : px_X (d + 1) 197 (137, [vR 123, vI x1, vI x2, vI x3, vI x4, vI x5], []) (px_sh L, i, l, r, t) = (px_C d 195 [vR 123, vI x1] (px_sh L, i, l, r, t)).bind (fun q => px_X (d + 1) 197 (px_psh (142, [vR 123, vI x1, vI x2, vI x3, vI x4, vI x5], []) q.1) q.2) := ((xs_aldn k197_137 rfl).trans ((xs_ildn k197_138 rfl).trans (xs_callvB k197_139 (as := [vI x1]) rfl rfl (Nat.le_of_ble_eq_true rfl) (Nat.le_of_ble_eq_true rfl) (Nat.le_of_ble_eq_true rfl) (px_s123 L) (Nat.le_of_ble_eq_true rfl))))
theorem b197_142 (hr : px_hr r) (d : Nat) (i l : MI) (x1 : Int) (x2 : Int) (x3 : Int) (x4 : Int) (x5 : Int) (xs0 : Int) : px_X d 197 (142, [vR 123, vI x1, vI x2, vI x3, vI x4, vI x5], [vI xs0]) (px_sh L, i, l, r, t) = px_X d 197 (87, [vR 123, vI x1, vI x2, vI x3, vI xs0, vI x5], []) (px_sh L, i, l, r, t) := ((xs_ist k197_142 (Nat.le_of_ble_eq_true rfl) (ls' := [vR 123, vI x1, vI x2, vI x3, vI xs0, vI x5]) rfl).trans (xs_goto k197_144))
-- TideGuestsModel.allHere ('R123',)
theorem b198_0 (hr : px_hr r) (d : Nat) (i l : MI)  : px_X d 198 (0, [vR 123, vJ, vJ], []) (px_sh L, i, l, r, t) = px_X d 198 (4, [vR 123, vI 0, vI 0], []) (px_sh L, i, l, r, t) := ((xs_ic k198_0 (by omega)).trans ((xs_istn k198_1 (Nat.le_of_ble_eq_true rfl) (ls' := [vR 123, vI 0, vJ]) rfl).trans ((xs_ic k198_2 (by omega)).trans (xs_istn k198_3 (Nat.le_of_ble_eq_true rfl) (ls' := [vR 123, vI 0, vI 0]) rfl))))
theorem b198_4 (hr : px_hr r) (d : Nat) (i l : MI) (x1 : Int) (x2 : Int) : px_X (d + 1) 198 (4, [vR 123, vI x1, vI x2], []) (px_sh L, i, l, r, t) = if (i 124 4) ≤ x2 then some (some (vI x1), (px_sh L, i, l, r, t)) else (px_C d 146 [vR 123, vI x2, vI 8] (px_sh L, i, l, r, t)).bind (fun q => px_X (d + 1) 198 (px_psh (22, [vR 123, vI x1, vI x2], [vI x1]) q.1) q.2) := ((xs_ildn k198_4 rfl).trans ((xs_aldn k198_5 rfl).trans ((xs_get4 k198_6 (px_s123 L) (Nat.le_of_ble_eq_true rfl) (px_r123_3 hr)).trans ((xs_ic k198_9 (by omega)).trans ((xs_iald k198_10 (px_s124 L) (by omega)).trans ((xs_jge k198_11).trans (px_ite (fun c1 => ((xs_ildn k198_32 rfl).trans (xs_ri k198_33 rfl))) (fun c1 => ((xs_ildn k198_14 rfl).trans ((xs_aldn k198_15 rfl).trans ((xs_ildn k198_16 rfl).trans ((xs_bi k198_17 (by omega)).trans (xs_callvB k198_19 (as := [vI x2, vI 8]) rfl rfl (Nat.le_of_ble_eq_true rfl) (Nat.le_of_ble_eq_true rfl) (Nat.le_of_ble_eq_true rfl) (px_s123 L) (Nat.le_of_ble_eq_true rfl))))))))))))))
theorem b198_22 (hr : px_hr r) (d : Nat) (i l : MI) (x1 : Int) (x2 : Int) (xs0 : Int) (xs1 : Int) : px_X d 198 (22, [vR 123, vI x1, vI x2], [vI xs0, vI xs1]) (px_sh L, i, l, r, t) = px_X d 198 (4, [vR 123, vI (px_or xs1 (px_shl xs0 x2)), vI (px_w32 (x2 + 1))], []) (px_sh L, i, l, r, t) := ((xs_ildn k198_22 rfl).trans ((xs_ishl k198_23).trans ((xs_ior k198_24).trans ((xs_istn k198_25 (Nat.le_of_ble_eq_true rfl) (ls' := [vR 123, vI (px_or xs1 (px_shl xs0 x2)), vI x2]) rfl).trans ((xs_iinc k198_26 rfl (by omega) (ls' := [vR 123, vI (px_or xs1 (px_shl xs0 x2)), vI (px_w32 (x2 + 1))]) rfl).trans (xs_goto k198_29))))))
-- TideGuestsModel.seat ('R123', 'I', 'I')
theorem b199_0 (hr : px_hr r) (d : Nat) (i l : MI) (x1 : Int) (x2 : Int) : px_X (d + 1) 199 (0, [vR 123, vI x1, vI x2], []) (px_sh L, i, l, r, t) = (px_C d 145 [vI x1] (px_sh L, i, l, r, t)).bind (fun q => px_X (d + 1) 199 (px_psh (4, [vR 123, vI x1, vI x2], []) q.1) q.2) := ((xs_ildn k199_0 rfl).trans (xs_callsB k199_1 (as := [vI x1]) rfl rfl (Nat.le_of_ble_eq_true rfl) (Nat.le_of_ble_eq_true rfl) (Nat.le_of_ble_eq_true rfl)))
theorem b199_4 (hr : px_hr r) (d : Nat) (i l : MI) (x1 : Int) (x2 : Int) (xs0 : Int) : px_X (d + 1) 199 (4, [vR 123, vI x1, vI x2], [vI xs0]) (px_sh L, i, l, r, t) = if xs0 = 0 then some (some (vI (-2)), (px_sh L, i, l, r, t)) else (px_C d 144 [vR 123, vI x2] (px_sh L, i, l, r, t)).bind (fun q => px_X (d + 1) 199 (px_psh (12, [vR 123, vI x1, vI x2], []) q.1) q.2) := ((xs_ieq k199_4).trans (px_ite (fun c1 => ((xs_bi k199_25 (by omega)).trans (xs_ri k199_27 rfl))) (fun c1 => ((xs_aldn k199_7 rfl).trans ((xs_ildn k199_8 rfl).trans (xs_callvB k199_9 (as := [vI x2]) rfl rfl (Nat.le_of_ble_eq_true rfl) (Nat.le_of_ble_eq_true rfl) (Nat.le_of_ble_eq_true rfl) (px_s123 L) (Nat.le_of_ble_eq_true rfl)))))))
theorem b199_12 (hr : px_hr r) (d : Nat) (i l : MI) (x1 : Int) (x2 : Int) (xs0 : Int) : px_X (d + 1) 199 (12, [vR 123, vI x1, vI x2], [vI xs0]) (px_sh L, i, l, r, t) = if xs0 = 0 then some (some (vI (-2)), (px_sh L, i, l, r, t)) else (px_C d 146 [vR 123, vI x2, vI 8] (px_sh L, i, l, r, t)).bind (fun q => px_X (d + 1) 199 (px_psh (22, [vR 123, vI x1, vI x2], []) q.1) q.2) := ((xs_ieq k199_12).trans (px_ite (fun c1 => ((xs_bi k199_25 (by omega)).trans (xs_ri k199_27 rfl))) (fun c1 => ((xs_aldn k199_15 rfl).trans ((xs_ildn k199_16 rfl).trans ((xs_bi k199_17 (by omega)).trans (xs_callvB k199_19 (as := [vI x2, vI 8]) rfl rfl (Nat.le_of_ble_eq_true rfl) (Nat.le_of_ble_eq_true rfl) (Nat.le_of_ble_eq_true rfl) (px_s123 L) (Nat.le_of_ble_eq_true rfl))))))))
theorem b199_22 (hr : px_hr r) (d : Nat) (i l : MI) (x1 : Int) (x2 : Int) (xs0 : Int) : px_X (d + 1) 199 (22, [vR 123, vI x1, vI x2], [vI xs0]) (px_sh L, i, l, r, t) = if xs0 = 0 then some (some (vI (-2)), (px_sh L, i, l, r, t)) else (px_C d 198 [vR 123] (px_sh L, i, l, r, t)).bind (fun q => px_X (d + 1) 199 (px_psh (33, [vR 123, vI x1, vI x2], [vR 123]) q.1) q.2) := ((xs_ine k199_22).trans (px_ite (fun c1 => ((xs_bi k199_25 (by omega)).trans (xs_ri k199_27 rfl))) (fun c1 => ((xs_aldn k199_28 rfl).trans ((xs_aldn k199_29 rfl).trans (xs_callvB k199_30 (as := []) rfl rfl (Nat.le_of_ble_eq_true rfl) (Nat.le_of_ble_eq_true rfl) (Nat.le_of_ble_eq_true rfl) (px_s123 L) (Nat.le_of_ble_eq_true rfl)))))))
theorem b199_33 (hr : px_hr r) (d : Nat) (i l : MI) (x1 : Int) (x2 : Int) (xs0 : Int) : px_X (d + 1) 199 (33, [vR 123, vI x1, vI x2], [vI xs0, vR 123]) (px_sh L, i, l, r, t) = (px_C d 197 [vR 123, vI xs0, vI x1] (px_sh L, i, l, r, t)).bind (fun q => px_X (d + 1) 199 (px_psh (37, [vR 123, vI x1, vI x2], []) q.1) q.2) := ((xs_ildn k199_33 rfl).trans (xs_callvB k199_34 (as := [vI xs0, vI x1]) rfl rfl (Nat.le_of_ble_eq_true rfl) (Nat.le_of_ble_eq_true rfl) (Nat.le_of_ble_eq_true rfl) (px_s123 L) (Nat.le_of_ble_eq_true rfl)))
theorem b199_37 (hr : px_hr r) (d : Nat) (i l : MI) (x1 : Int) (x2 : Int) (h1 : 0 ≤ x2 ∧ x2 < 10) : px_X d 199 (37, [vR 123, vI x1, vI x2], []) (px_sh L, i, l, r, t) = some (some (vI (i 142 x2)), (px_sh L, i, l, r, t)) := ((xs_aldn k199_37 rfl).trans ((xs_get4 k199_38 (px_s123 L) (Nat.le_of_ble_eq_true rfl) (px_r123_38 hr)).trans ((xs_ildn k199_41 rfl).trans ((xs_iald k199_42 (px_s142 L) (h1)).trans (xs_ri k199_43 rfl)))))
-- TideGuestsModel.quarrels ('R123', 'I', 'I', 'I')
theorem b200_0 (hr : px_hr r) (d : Nat) (i l : MI) (x1 : Int) (x2 : Int) (x3 : Int) : px_X (d + 1) 200 (0, [vR 123, vI x1, vI x2, vI x3], []) (px_sh L, i, l, r, t) = (px_C d 146 [vR 123, vI x1, vI 0] (px_sh L, (px_up i 140 0 x3), l, r, t)).bind (fun q => px_X (d + 1) 200 (px_psh (18, [vR 123, vI x1, vI x2, vI x3], [vI 3, vR 140]) q.1) q.2) := ((xs_aldn k200_0 rfl).trans ((xs_get4 k200_1 (px_s123 L) (Nat.le_of_ble_eq_true rfl) (px_r123_36 hr)).trans ((xs_ic k200_4 (by omega)).trans ((xs_ildn k200_5 rfl).trans ((xs_iast k200_6 (px_s140 L) (by omega) (Nat.le_of_ble_eq_true rfl)).trans ((xs_aldn k200_7 rfl).trans ((xs_get4 k200_8 (px_s123 L) (Nat.le_of_ble_eq_true rfl) (px_r123_36 hr)).trans ((xs_ic k200_11 (by omega)).trans ((xs_aldn k200_12 rfl).trans ((xs_ildn k200_13 rfl).trans ((xs_ic k200_14 (by omega)).trans (xs_callvB k200_15 (as := [vI x1, vI 0]) rfl rfl (Nat.le_of_ble_eq_true rfl) (Nat.le_of_ble_eq_true rfl) (Nat.le_of_ble_eq_true rfl) (px_s123 L) (Nat.le_of_ble_eq_true rfl)))))))))))))
theorem b200_18 (hr : px_hr r) (d : Nat) (i l : MI) (x1 : Int) (x2 : Int) (x3 : Int) (xs0 : Int) (xs1 : Int) (h1 : 0 ≤ xs1 ∧ xs1 < 15) : px_X (d + 1) 200 (18, [vR 123, vI x1, vI x2, vI x3], [vI xs0, vI xs1, vR 140]) (px_sh L, i, l, r, t) = (px_C d 146 [vR 123, vI x1, vI 3] (px_sh L, (px_up i 140 xs1 xs0), l, r, t)).bind (fun q => px_X (d + 1) 200 (px_psh (30, [vR 123, vI x1, vI x2, vI x3], [vI 5, vR 140]) q.1) q.2) := ((xs_iast k200_18 (px_s140 L) (h1) (Nat.le_of_ble_eq_true rfl)).trans ((xs_aldn k200_19 rfl).trans ((xs_get4 k200_20 (px_s123 L) (Nat.le_of_ble_eq_true rfl) (px_r123_36 hr)).trans ((xs_ic k200_23 (by omega)).trans ((xs_aldn k200_24 rfl).trans ((xs_ildn k200_25 rfl).trans ((xs_ic k200_26 (by omega)).trans (xs_callvB k200_27 (as := [vI x1, vI 3]) rfl rfl (Nat.le_of_ble_eq_true rfl) (Nat.le_of_ble_eq_true rfl) (Nat.le_of_ble_eq_true rfl) (px_s123 L) (Nat.le_of_ble_eq_true rfl)))))))))
theorem b200_30 (hr : px_hr r) (d : Nat) (i l : MI) (x1 : Int) (x2 : Int) (x3 : Int) (xs0 : Int) (xs1 : Int) (h1 : 0 ≤ xs1 ∧ xs1 < 15) : px_X (d + 1) 200 (30, [vR 123, vI x1, vI x2, vI x3], [vI xs0, vI xs1, vR 140]) (px_sh L, i, l, r, t) = (px_C d 146 [vR 123, vI x2, vI 0] (px_sh L, (px_up i 140 xs1 xs0), l, r, t)).bind (fun q => px_X (d + 1) 200 (px_psh (43, [vR 123, vI x1, vI x2, vI x3], [vI 10, vR 140]) q.1) q.2) := ((xs_iast k200_30 (px_s140 L) (h1) (Nat.le_of_ble_eq_true rfl)).trans ((xs_aldn k200_31 rfl).trans ((xs_get4 k200_32 (px_s123 L) (Nat.le_of_ble_eq_true rfl) (px_r123_36 hr)).trans ((xs_bi k200_35 (by omega)).trans ((xs_aldn k200_37 rfl).trans ((xs_ildn k200_38 rfl).trans ((xs_ic k200_39 (by omega)).trans (xs_callvB k200_40 (as := [vI x2, vI 0]) rfl rfl (Nat.le_of_ble_eq_true rfl) (Nat.le_of_ble_eq_true rfl) (Nat.le_of_ble_eq_true rfl) (px_s123 L) (Nat.le_of_ble_eq_true rfl)))))))))
theorem b200_43 (hr : px_hr r) (d : Nat) (i l : MI) (x1 : Int) (x2 : Int) (x3 : Int) (xs0 : Int) (xs1 : Int) (h1 : 0 ≤ xs1 ∧ xs1 < 15) : px_X (d + 1) 200 (43, [vR 123, vI x1, vI x2, vI x3], [vI xs0, vI xs1, vR 140]) (px_sh L, i, l, r, t) = (px_C d 189 [vR 123, vI 5] (px_sh L, (px_up i 140 xs1 xs0), l, r, t)).bind (fun q => px_X (d + 1) 200 (px_psh (49, [vR 123, vI x1, vI x2, vI x3], []) q.1) q.2) := ((xs_iast k200_43 (px_s140 L) (h1) (Nat.le_of_ble_eq_true rfl)).trans ((xs_aldn k200_44 rfl).trans ((xs_ic k200_45 (by omega)).trans (xs_callvB k200_46 (as := [vI 5]) rfl rfl (Nat.le_of_ble_eq_true rfl) (Nat.le_of_ble_eq_true rfl) (Nat.le_of_ble_eq_true rfl) (px_s123 L) (Nat.le_of_ble_eq_true rfl)))))
theorem b200_49 (hr : px_hr r) (d : Nat) (i l : MI) (x1 : Int) (x2 : Int) (x3 : Int) (xs0 : Int) (h1 : xs0 = 0 ∨ xs0 = 1) : px_X d 200 (49, [vR 123, vI x1, vI x2, vI x3], [vI xs0]) (px_sh L, i, l, r, t) = some (some (vI xs0), (px_sh L, i, l, r, t)) := (xs_rz k200_49 rfl (h1))
-- TideGuestsModel.quarrelsAt ('R123', 'I')
theorem b201_0 (hr : px_hr r) (d : Nat) (i l : MI) (x1 : Int) : px_X d 201 (0, [vR 123, vI x1, vJ, vJ, vJ], []) (px_sh L, i, l, r, t) = px_X d 201 (4, [vR 123, vI x1, vI 0, vI 0, vJ], []) (px_sh L, i, l, r, t) := ((xs_ic k201_0 (by omega)).trans ((xs_istn k201_1 (Nat.le_of_ble_eq_true rfl) (ls' := [vR 123, vI x1, vI 0, vJ, vJ]) rfl).trans ((xs_ic k201_2 (by omega)).trans (xs_istn k201_3 (Nat.le_of_ble_eq_true rfl) (ls' := [vR 123, vI x1, vI 0, vI 0, vJ]) rfl))))
theorem b201_4 (hr : px_hr r) (d : Nat) (i l : MI) (x1 : Int) (x2 : Int) (x3 : Int) {v4 : PV} (hn4 : px_nl v4) : px_X d 201 (4, [vR 123, vI x1, vI x2, vI x3, v4], []) (px_sh L, i, l, r, t) = if (i 124 4) ≤ x3 then some (some (vI x2), (px_sh L, i, l, r, t)) else px_X d 201 (19, [vR 123, vI x1, vI x2, vI x3, vI (px_w32 (x3 + 1))], []) (px_sh L, i, l, r, t) := ((xs_ildn k201_4 rfl).trans ((xs_aldn k201_5 rfl).trans ((xs_get4 k201_6 (px_s123 L) (Nat.le_of_ble_eq_true rfl) (px_r123_3 hr)).trans ((xs_ic k201_9 (by omega)).trans ((xs_iald k201_10 (px_s124 L) (by omega)).trans ((xs_jge k201_11).trans (px_ite (fun c1 => ((xs_ildn k201_97 rfl).trans (xs_ri k201_98 rfl))) (fun c1 => ((xs_ildn k201_14 rfl).trans ((xs_ic k201_15 (by omega)).trans ((xs_iadd k201_16).trans (xs_ist k201_17 (Nat.le_of_ble_eq_true rfl) (ls' := [vR 123, vI x1, vI x2, vI x3, vI (px_w32 (x3 + 1))]) rfl))))))))))))
theorem b201_19 (hr : px_hr r) (d : Nat) (i l : MI) (x1 : Int) (x2 : Int) (x3 : Int) (x4 : Int) (h1 : (¬ ((i 124 4) ≤ x4)) → 0 ≤ x3 ∧ x3 < 10) (h2 : (¬ ((i 124 4) ≤ x4)) → (¬ ((i 142 x3) < 0)) → 0 ≤ x3 ∧ x3 < 10) (h3 : (¬ ((i 124 4) ≤ x4)) → (¬ ((i 142 x3) < 0)) → 0 ≤ x4 ∧ x4 < 10) : px_X (d + 1) 201 (19, [vR 123, vI x1, vI x2, vI x3, vI x4], []) (px_sh L, i, l, r, t) = if (i 124 4) ≤ x4 then px_X (d + 1) 201 (4, [vR 123, vI x1, vI x2, vI (px_w32 (x3 + 1)), vI x4], []) (px_sh L, i, l, r, t) else if (i 142 x3) < 0 then px_X (d + 1) 201 (19, [vR 123, vI x1, vI x2, vI x3, vI (px_w32 (x4 + 1))], []) (px_sh L, i, l, r, t) else if (i 142 x3) = (i 142 x4) then (px_C d 200 [vR 123, vI x3, vI x4, vI x1] (px_sh L, i, l, r, t)).bind (fun q => px_X (d + 1) 201 (px_psh (64, [vR 123, vI x1, vI x2, vI x3, vI x4], [vI x2]) q.1) q.2) else px_X (d + 1) 201 (19, [vR 123, vI x1, vI x2, vI x3, vI (px_w32 (x4 + 1))], []) (px_sh L, i, l, r, t) := ((xs_ild k201_19 rfl).trans ((xs_aldn k201_21 rfl).trans ((xs_get4 k201_22 (px_s123 L) (Nat.le_of_ble_eq_true rfl) (px_r123_3 hr)).trans ((xs_ic k201_25 (by omega)).trans ((xs_iald k201_26 (px_s124 L) (by omega)).trans ((xs_jge k201_27).trans (px_ite (fun c1 => ((xs_iinc k201_91 rfl (by omega) (ls' := [vR 123, vI x1, vI x2, vI (px_w32 (x3 + 1)), vI x4]) rfl).trans (xs_goto k201_94))) (fun c1 => ((xs_aldn k201_30 rfl).trans ((xs_get4 k201_31 (px_s123 L) (Nat.le_of_ble_eq_true rfl) (px_r123_38 hr)).trans ((xs_ildn k201_34 rfl).trans ((xs_iald k201_35 (px_s142 L) (h1 c1)).trans ((xs_ilt k201_36).trans (px_ite (fun c2 => ((xs_iinc k201_85 rfl (by omega) (ls' := [vR 123, vI x1, vI x2, vI x3, vI (px_w32 (x4 + 1))]) rfl).trans (xs_goto k201_88))) (fun c2 => ((xs_aldn k201_39 rfl).trans ((xs_get4 k201_40 (px_s123 L) (Nat.le_of_ble_eq_true rfl) (px_r123_38 hr)).trans ((xs_ildn k201_43 rfl).trans ((xs_iald k201_44 (px_s142 L) (h2 c1 c2)).trans ((xs_aldn k201_45 rfl).trans ((xs_get4 k201_46 (px_s123 L) (Nat.le_of_ble_eq_true rfl) (px_r123_38 hr)).trans ((xs_ild k201_49 rfl).trans ((xs_iald k201_51 (px_s142 L) (h3 c1 c2)).trans ((xs_jne k201_52).trans (px_ite (fun c3 => ((xs_ildn k201_55 rfl).trans ((xs_aldn k201_56 rfl).trans ((xs_ildn k201_57 rfl).trans ((xs_ild k201_58 rfl).trans ((xs_ildn k201_60 rfl).trans (xs_callvB k201_61 (as := [vI x3, vI x4, vI x1]) rfl rfl (Nat.le_of_ble_eq_true rfl) (Nat.le_of_ble_eq_true rfl) (Nat.le_of_ble_eq_true rfl) (px_s123 L) (Nat.le_of_ble_eq_true rfl)))))))) (fun c3 => ((xs_iinc k201_85 rfl (by omega) (ls' := [vR 123, vI x1, vI x2, vI x3, vI (px_w32 (x4 + 1))]) rfl).trans (xs_goto k201_88))))))))))))))))))))))))))))
theorem b201_64 (hr : px_hr r) (d : Nat) (i l : MI) (x1 : Int) (x2 : Int) (x3 : Int) (x4 : Int) (xs0 : Int) (xs1 : Int) : px_X (d + 1) 201 (64, [vR 123, vI x1, vI x2, vI x3, vI x4], [vI xs0, vI xs1]) (px_sh L, i, l, r, t) = if xs0 = 0 then (px_C d 200 [vR 123, vI x4, vI x3, vI x1] (px_sh L, i, l, r, t)).bind (fun q => px_X (d + 1) 201 (px_psh (75, [vR 123, vI x1, vI x2, vI x3, vI x4], [vI xs1]) q.1) q.2) else px_X (d + 1) 201 (19, [vR 123, vI x1, vI (px_w32 (xs1 + 1)), vI x3, vI (px_w32 (x4 + 1))], []) (px_sh L, i, l, r, t) := ((xs_ine k201_64).trans (px_ite (fun c1 => ((xs_aldn k201_67 rfl).trans ((xs_ild k201_68 rfl).trans ((xs_ildn k201_70 rfl).trans ((xs_ildn k201_71 rfl).trans (xs_callvB k201_72 (as := [vI x4, vI x3, vI x1]) rfl rfl (Nat.le_of_ble_eq_true rfl) (Nat.le_of_ble_eq_true rfl) (Nat.le_of_ble_eq_true rfl) (px_s123 L) (Nat.le_of_ble_eq_true rfl))))))) (fun c1 => ((xs_ic k201_78 (by omega)).trans ((xs_goto k201_79).trans ((xs_iadd k201_83).trans ((xs_istn k201_84 (Nat.le_of_ble_eq_true rfl) (ls' := [vR 123, vI x1, vI (px_w32 (xs1 + 1)), vI x3, vI x4]) rfl).trans ((xs_iinc k201_85 rfl (by omega) (ls' := [vR 123, vI x1, vI (px_w32 (xs1 + 1)), vI x3, vI (px_w32 (x4 + 1))]) rfl).trans (xs_goto k201_88)))))))))
theorem b201_75 (hr : px_hr r) (d : Nat) (i l : MI) (x1 : Int) (x2 : Int) (x3 : Int) (x4 : Int) (xs0 : Int) (xs1 : Int) : px_X d 201 (75, [vR 123, vI x1, vI x2, vI x3, vI x4], [vI xs0, vI xs1]) (px_sh L, i, l, r, t) = if xs0 = 0 then px_X d 201 (19, [vR 123, vI x1, vI (px_w32 (xs1 + 0)), vI x3, vI (px_w32 (x4 + 1))], []) (px_sh L, i, l, r, t) else px_X d 201 (19, [vR 123, vI x1, vI (px_w32 (xs1 + 1)), vI x3, vI (px_w32 (x4 + 1))], []) (px_sh L, i, l, r, t) := ((xs_ieq k201_75).trans (px_ite (fun c1 => ((xs_ic k201_82 (by omega)).trans ((xs_iadd k201_83).trans ((xs_istn k201_84 (Nat.le_of_ble_eq_true rfl) (ls' := [vR 123, vI x1, vI (px_w32 (xs1 + 0)), vI x3, vI x4]) rfl).trans ((xs_iinc k201_85 rfl (by omega) (ls' := [vR 123, vI x1, vI (px_w32 (xs1 + 0)), vI x3, vI (px_w32 (x4 + 1))]) rfl).trans (xs_goto k201_88)))))) (fun c1 => ((xs_ic k201_78 (by omega)).trans ((xs_goto k201_79).trans ((xs_iadd k201_83).trans ((xs_istn k201_84 (Nat.le_of_ble_eq_true rfl) (ls' := [vR 123, vI x1, vI (px_w32 (xs1 + 1)), vI x3, vI x4]) rfl).trans ((xs_iinc k201_85 rfl (by omega) (ls' := [vR 123, vI x1, vI (px_w32 (xs1 + 1)), vI x3, vI (px_w32 (x4 + 1))]) rfl).trans (xs_goto k201_88)))))))))
-- TideGuestsModel.seatsAnew ('R123', 'I', 'I')
theorem b202_0 (hr : px_hr r) (d : Nat) (i l : MI) (x1 : Int) (x2 : Int) : px_X d 202 (0, [vR 123, vI x1, vI x2, vJ], []) (px_sh L, i, l, r, t) = px_X d 202 (2, [vR 123, vI x1, vI x2, vI 0], []) (px_sh L, i, l, r, t) := ((xs_ic k202_0 (by omega)).trans (xs_istn k202_1 (Nat.le_of_ble_eq_true rfl) (ls' := [vR 123, vI x1, vI x2, vI 0]) rfl))
theorem b202_2 (hr : px_hr r) (d : Nat) (i l : MI) (x1 : Int) (x2 : Int) (x3 : Int) (h1 : (¬ (10 ≤ x3)) → 0 ≤ x3 ∧ x3 < 10) : px_X (d + 1) 202 (2, [vR 123, vI x1, vI x2, vI x3], []) (px_sh L, i, l, r, t) = if 10 ≤ x3 then (px_C d 197 [vR 123, vI x1, vI x2] (px_sh L, i, l, r, t)).bind (fun q => px_X (d + 1) 202 (px_psh (32, [vR 123, vI x1, vI x2, vI x3], []) q.1) q.2) else px_X (d + 1) 202 (2, [vR 123, vI x1, vI x2, vI (px_w32 (x3 + 1))], []) (px_sh L, (px_up i 145 x3 (i 142 x3)), l, r, t) := ((xs_ildn k202_2 rfl).trans ((xs_bi k202_3 (by omega)).trans ((xs_jge k202_5).trans (px_ite (fun c1 => ((xs_aldn k202_26 rfl).trans ((xs_ildn k202_27 rfl).trans ((xs_ildn k202_28 rfl).trans (xs_callvB k202_29 (as := [vI x1, vI x2]) rfl rfl (Nat.le_of_ble_eq_true rfl) (Nat.le_of_ble_eq_true rfl) (Nat.le_of_ble_eq_true rfl) (px_s123 L) (Nat.le_of_ble_eq_true rfl)))))) (fun c1 => ((xs_aldn k202_8 rfl).trans ((xs_get4 k202_9 (px_s123 L) (Nat.le_of_ble_eq_true rfl) (px_r123_41 hr)).trans ((xs_ildn k202_12 rfl).trans ((xs_aldn k202_13 rfl).trans ((xs_get4 k202_14 (px_s123 L) (Nat.le_of_ble_eq_true rfl) (px_r123_38 hr)).trans ((xs_ildn k202_17 rfl).trans ((xs_iald k202_18 (px_s142 L) (h1 c1)).trans ((xs_iast k202_19 (px_s145 L) (h1 c1) (Nat.le_of_ble_eq_true rfl)).trans ((xs_iinc k202_20 rfl (by omega) (ls' := [vR 123, vI x1, vI x2, vI (px_w32 (x3 + 1))]) rfl).trans (xs_goto k202_23)))))))))))))))
theorem b202_32 (hr : px_hr r) (d : Nat) (i l : MI) (x1 : Int) (x2 : Int) (x3 : Int) : px_X d 202 (32, [vR 123, vI x1, vI x2, vI x3], []) (px_sh L, i, l, r, t) = px_X d 202 (34, [vR 123, vI x1, vI x2, vI 0], []) (px_sh L, i, l, r, t) := ((xs_ic k202_32 (by omega)).trans (xs_istn k202_33 (Nat.le_of_ble_eq_true rfl) (ls' := [vR 123, vI x1, vI x2, vI 0]) rfl))
theorem b202_34 (hr : px_hr r) (d : Nat) (i l : MI) (x1 : Int) (x2 : Int) (x3 : Int) (h1 : (¬ ((i 124 4) ≤ x3)) → 0 ≤ (px_w32 ((px_w32 (120 + (px_w32 (14 * x3)))) + 11)) ∧ (px_w32 ((px_w32 (120 + (px_w32 (14 * x3)))) + 11)) < 820) (h2 : (¬ ((i 124 4) ≤ x3)) → (¬ ((i 124 10) ≤ 0)) → 0 ≤ x3 ∧ x3 < 10) : px_X (d + 1) 202 (34, [vR 123, vI x1, vI x2, vI x3], []) (px_sh L, i, l, r, t) = if (i 124 4) ≤ x3 then (px_C d 201 [vR 123, vI x2] (px_sh L, i, l, r, t)).bind (fun q => px_X (d + 1) 202 (px_psh (150, [vR 123, vI x1, vI x2, vI x3], [vI (i 124 9), vI 9, vR 124]) q.1) q.2) else if (i 124 10) ≤ 0 then px_X (d + 1) 202 (89, [vR 123, vI x1, vI x2, vI x3], [vI (i 124 (px_w32 ((px_w32 (120 + (px_w32 (14 * x3)))) + 11))), vI (px_w32 ((px_w32 (120 + (px_w32 (14 * x3)))) + 11)), vR 124]) (px_sh L, i, l, r, t) else if (i 142 x3) = (i 145 x3) then px_X (d + 1) 202 (89, [vR 123, vI x1, vI x2, vI x3], [vI (i 124 (px_w32 ((px_w32 (120 + (px_w32 (14 * x3)))) + 11))), vI (px_w32 ((px_w32 (120 + (px_w32 (14 * x3)))) + 11)), vR 124]) (px_sh L, i, l, r, t) else px_X (d + 1) 202 (90, [vR 123, vI x1, vI x2, vI x3], [vI 1, vI (i 124 (px_w32 ((px_w32 (120 + (px_w32 (14 * x3)))) + 11))), vI (px_w32 ((px_w32 (120 + (px_w32 (14 * x3)))) + 11)), vR 124]) (px_sh L, i, l, r, t) := ((xs_ildn k202_34 rfl).trans ((xs_aldn k202_35 rfl).trans ((xs_get4 k202_36 (px_s123 L) (Nat.le_of_ble_eq_true rfl) (px_r123_3 hr)).trans ((xs_ic k202_39 (by omega)).trans ((xs_iald k202_40 (px_s124 L) (by omega)).trans ((xs_jge k202_41).trans (px_ite (fun c1 => ((xs_aldn k202_137 rfl).trans ((xs_get4 k202_138 (px_s123 L) (Nat.le_of_ble_eq_true rfl) (px_r123_3 hr)).trans ((xs_bi k202_141 (by omega)).trans ((xs_dup2 k202_143 ⟨rfl, rfl⟩).trans ((xs_iald k202_144 (px_s124 L) (by omega)).trans ((xs_aldn k202_145 rfl).trans ((xs_ildn k202_146 rfl).trans (xs_callvB k202_147 (as := [vI x2]) rfl rfl (Nat.le_of_ble_eq_true rfl) (Nat.le_of_ble_eq_true rfl) (Nat.le_of_ble_eq_true rfl) (px_s123 L) (Nat.le_of_ble_eq_true rfl)))))))))) (fun c1 => ((xs_aldn k202_44 rfl).trans ((xs_get4 k202_45 (px_s123 L) (Nat.le_of_ble_eq_true rfl) (px_r123_3 hr)).trans ((xs_bi k202_48 (by omega)).trans ((xs_bi k202_50 (by omega)).trans ((xs_ildn k202_52 rfl).trans ((xs_imul k202_53).trans ((xs_iadd k202_54).trans ((xs_bi k202_55 (by omega)).trans ((xs_iadd k202_57).trans ((xs_dup2 k202_58 ⟨rfl, rfl⟩).trans ((xs_iald k202_59 (px_s124 L) (h1 c1)).trans ((xs_aldn k202_60 rfl).trans ((xs_get4 k202_61 (px_s123 L) (Nat.le_of_ble_eq_true rfl) (px_r123_3 hr)).trans ((xs_bi k202_64 (by omega)).trans ((xs_iald k202_66 (px_s124 L) (by omega)).trans ((xs_ile k202_67).trans (px_ite (fun c2 => rfl) (fun c2 => ((xs_aldn k202_70 rfl).trans ((xs_get4 k202_71 (px_s123 L) (Nat.le_of_ble_eq_true rfl) (px_r123_38 hr)).trans ((xs_ildn k202_74 rfl).trans ((xs_iald k202_75 (px_s142 L) (h2 c1 c2)).trans ((xs_aldn k202_76 rfl).trans ((xs_get4 k202_77 (px_s123 L) (Nat.le_of_ble_eq_true rfl) (px_r123_41 hr)).trans ((xs_ildn k202_80 rfl).trans ((xs_iald k202_81 (px_s145 L) (h2 c1 c2)).trans ((xs_jeq k202_82).trans (px_ite (fun c3 => rfl) (fun c3 => ((xs_ic k202_85 (by omega)).trans (xs_goto k202_86)))))))))))))))))))))))))))))))))))))))
theorem b202_89 (hr : px_hr r) (d : Nat) (i l : MI) (x1 : Int) (x2 : Int) (x3 : Int) (xs0 : Int) (xs1 : Int) : px_X d 202 (89, [vR 123, vI x1, vI x2, vI x3], [vI xs0, vI xs1, vR 124]) (px_sh L, i, l, r, t) = px_X d 202 (90, [vR 123, vI x1, vI x2, vI x3], [vI 0, vI xs0, vI xs1, vR 124]) (px_sh L, i, l, r, t) := (xs_ic k202_89 (by omega))
theorem b202_90 (hr : px_hr r) (d : Nat) (i l : MI) (x1 : Int) (x2 : Int) (x3 : Int) (xs0 : Int) (xs1 : Int) (xs2 : Int) (h1 : 0 ≤ xs2 ∧ xs2 < 820) (h2 : (¬ (50 ≤ ((px_up i 124 xs2 (px_w32 (xs1 + xs0))) 124 10))) → 0 ≤ x3 ∧ x3 < 10) (h3 : (¬ (50 ≤ ((px_up i 124 xs2 (px_w32 (xs1 + xs0))) 124 10))) → 0 ≤ (px_w32 ((px_w32 (320 + (px_w32 (10 * ((px_up i 124 xs2 (px_w32 (xs1 + xs0))) 124 10))))) + x3)) ∧ (px_w32 ((px_w32 (320 + (px_w32 (10 * ((px_up i 124 xs2 (px_w32 (xs1 + xs0))) 124 10))))) + x3)) < 820) : px_X d 202 (90, [vR 123, vI x1, vI x2, vI x3], [vI xs0, vI xs1, vI xs2, vR 124]) (px_sh L, i, l, r, t) = if 50 ≤ ((px_up i 124 xs2 (px_w32 (xs1 + xs0))) 124 10) then px_X d 202 (34, [vR 123, vI x1, vI x2, vI (px_w32 (x3 + 1))], []) (px_sh L, (px_up i 124 xs2 (px_w32 (xs1 + xs0))), l, r, t) else px_X d 202 (34, [vR 123, vI x1, vI x2, vI (px_w32 (x3 + 1))], []) (px_sh L, (px_up (px_up i 124 xs2 (px_w32 (xs1 + xs0))) 124 (px_w32 ((px_w32 (320 + (px_w32 (10 * ((px_up i 124 xs2 (px_w32 (xs1 + xs0))) 124 10))))) + x3)) (i 142 x3)), l, r, t) := ((xs_iadd k202_90).trans ((xs_iast k202_91 (px_s124 L) (h1) (Nat.le_of_ble_eq_true rfl)).trans ((xs_aldn k202_92 rfl).trans ((xs_get4 k202_93 (px_s123 L) (Nat.le_of_ble_eq_true rfl) (px_r123_3 hr)).trans ((xs_bi k202_96 (by omega)).trans ((xs_iald k202_98 (px_s124 L) (by omega)).trans ((xs_bi k202_99 (by omega)).trans ((xs_jge k202_101).trans (px_ite (fun c1 => ((xs_iinc k202_131 rfl (by omega) (ls' := [vR 123, vI x1, vI x2, vI (px_w32 (x3 + 1))]) rfl).trans (xs_goto k202_134))) (fun c1 => ((xs_aldn k202_104 rfl).trans ((xs_get4 k202_105 (px_s123 L) (Nat.le_of_ble_eq_true rfl) (px_r123_3 hr)).trans ((xs_si k202_108 (by omega)).trans ((xs_bi k202_111 (by omega)).trans ((xs_aldn k202_113 rfl).trans ((xs_get4 k202_114 (px_s123 L) (Nat.le_of_ble_eq_true rfl) (px_r123_3 hr)).trans ((xs_bi k202_117 (by omega)).trans ((xs_iald k202_119 (px_s124 L) (by omega)).trans ((xs_imul k202_120).trans ((xs_iadd k202_121).trans ((xs_ildn k202_122 rfl).trans ((xs_iadd k202_123).trans ((xs_aldn k202_124 rfl).trans ((xs_get4 k202_125 (px_s123 L) (Nat.le_of_ble_eq_true rfl) (px_r123_38 hr)).trans ((xs_ildn k202_128 rfl).trans ((xs_iald k202_129 (px_s142 L) (h2 c1)).trans ((xs_iast k202_130 (px_s124 L) (h3 c1) (Nat.le_of_ble_eq_true rfl)).trans ((xs_iinc k202_131 rfl (by omega) (ls' := [vR 123, vI x1, vI x2, vI (px_w32 (x3 + 1))]) rfl).trans (xs_goto k202_134)))))))))))))))))))))))))))))
theorem b202_150 (hr : px_hr r) (d : Nat) (i l : MI) (x1 : Int) (x2 : Int) (x3 : Int) (xs0 : Int) (xs1 : Int) (xs2 : Int) (h1 : 0 ≤ xs2 ∧ xs2 < 820) : px_X d 202 (150, [vR 123, vI x1, vI x2, vI x3], [vI xs0, vI xs1, vI xs2, vR 124]) (px_sh L, i, l, r, t) = some (none, (px_sh L, (px_up (px_up i 124 xs2 (px_w32 (xs1 + xs0))) 124 10 (px_w32 (((px_up i 124 xs2 (px_w32 (xs1 + xs0))) 124 10) + 1))), l, r, t)) := ((xs_iadd k202_150).trans ((xs_iast k202_151 (px_s124 L) (h1) (Nat.le_of_ble_eq_true rfl)).trans ((xs_aldn k202_152 rfl).trans ((xs_get4 k202_153 (px_s123 L) (Nat.le_of_ble_eq_true rfl) (px_r123_3 hr)).trans ((xs_bi k202_156 (by omega)).trans ((xs_dup2 k202_158 ⟨rfl, rfl⟩).trans ((xs_iald k202_159 (px_s124 L) (by omega)).trans ((xs_ic k202_160 (by omega)).trans ((xs_iadd k202_161).trans ((xs_iast k202_162 (px_s124 L) (by omega) (Nat.le_of_ble_eq_true rfl)).trans (xs_rv k202_163 rfl)))))))))))
-- TideGuestsModel.night ('R123', 'I', 'I', 'I')
theorem b203_0 (hr : px_hr r) (d : Nat) (i l : MI) (x1 : Int) (x2 : Int) (x3 : Int) : px_X (d + 1) 203 (0, [vR 123, vI x1, vI x2, vI x3, vJ, vJ, vJ, vJ, vJ], []) (px_sh L, i, l, r, t) = (px_C d 145 [vI x1] (px_sh L, i, l, r, t)).bind (fun q => px_X (d + 1) 203 (px_psh (4, [vR 123, vI x1, vI x2, vI x3, vJ, vJ, vJ, vJ, vJ], []) q.1) q.2) := ((xs_ildn k203_0 rfl).trans (xs_callsB k203_1 (as := [vI x1]) rfl rfl (Nat.le_of_ble_eq_true rfl) (Nat.le_of_ble_eq_true rfl) (Nat.le_of_ble_eq_true rfl)))
theorem b203_4 (hr : px_hr r) (d : Nat) (i l : MI) (x1 : Int) (x2 : Int) (x3 : Int) (xs0 : Int) : px_X (d + 1) 203 (4, [vR 123, vI x1, vI x2, vI x3, vJ, vJ, vJ, vJ, vJ], [vI xs0]) (px_sh L, i, l, r, t) = if xs0 = 0 then some (some (vI (-1)), (px_sh L, i, l, r, t)) else (px_C d 145 [vI x2] (px_sh L, i, l, r, t)).bind (fun q => px_X (d + 1) 203 (px_psh (11, [vR 123, vI x1, vI x2, vI x3, vJ, vJ, vJ, vJ, vJ], []) q.1) q.2) := ((xs_ieq k203_4).trans (px_ite (fun c1 => ((xs_ic k203_29 (by omega)).trans (xs_ri k203_30 rfl))) (fun c1 => ((xs_ildn k203_7 rfl).trans (xs_callsB k203_8 (as := [vI x2]) rfl rfl (Nat.le_of_ble_eq_true rfl) (Nat.le_of_ble_eq_true rfl) (Nat.le_of_ble_eq_true rfl))))))
theorem b203_11 (hr : px_hr r) (d : Nat) (i l : MI) (x1 : Int) (x2 : Int) (x3 : Int) (xs0 : Int) : px_X (d + 1) 203 (11, [vR 123, vI x1, vI x2, vI x3, vJ, vJ, vJ, vJ, vJ], [vI xs0]) (px_sh L, i, l, r, t) = if xs0 = 0 then some (some (vI (-1)), (px_sh L, i, l, r, t)) else if x2 < x1 then some (some (vI (-1)), (px_sh L, i, l, r, t)) else (px_C d 141 [vI x3, vI 1, vI 60] (px_sh L, i, l, r, t)).bind (fun q => px_X (d + 1) 203 (px_psh (26, [vR 123, vI x1, vI x2, vI x3, vJ, vJ, vJ, vJ, vJ], []) q.1) q.2) := ((xs_ieq k203_11).trans (px_ite (fun c1 => ((xs_ic k203_29 (by omega)).trans (xs_ri k203_30 rfl))) (fun c1 => ((xs_ildn k203_14 rfl).trans ((xs_ildn k203_15 rfl).trans ((xs_jgt k203_16).trans (px_ite (fun c2 => ((xs_ic k203_29 (by omega)).trans (xs_ri k203_30 rfl))) (fun c2 => ((xs_ildn k203_19 rfl).trans ((xs_ic k203_20 (by omega)).trans ((xs_bi k203_21 (by omega)).trans (xs_callsB k203_23 (as := [vI x3, vI 1, vI 60]) rfl rfl (Nat.le_of_ble_eq_true rfl) (Nat.le_of_ble_eq_true rfl) (Nat.le_of_ble_eq_true rfl)))))))))))))
theorem b203_26 (hr : px_hr r) (d : Nat) (i l : MI) (x1 : Int) (x2 : Int) (x3 : Int) (xs0 : Int) : px_X (d + 1) 203 (26, [vR 123, vI x1, vI x2, vI x3, vJ, vJ, vJ, vJ, vJ], [vI xs0]) (px_sh L, i, l, r, t) = if xs0 = 0 then some (some (vI (-1)), (px_sh L, i, l, r, t)) else (px_C d 198 [vR 123] (px_sh L, i, l, r, t)).bind (fun q => px_X (d + 1) 203 (px_psh (35, [vR 123, vI x1, vI x2, vI x3, vJ, vJ, vJ, vJ, vJ], []) q.1) q.2) := ((xs_ine k203_26).trans (px_ite (fun c1 => ((xs_ic k203_29 (by omega)).trans (xs_ri k203_30 rfl))) (fun c1 => ((xs_aldn k203_31 rfl).trans (xs_callvB k203_32 (as := []) rfl rfl (Nat.le_of_ble_eq_true rfl) (Nat.le_of_ble_eq_true rfl) (Nat.le_of_ble_eq_true rfl) (px_s123 L) (Nat.le_of_ble_eq_true rfl))))))
theorem b203_35 (hr : px_hr r) (d : Nat) (i l : MI) (x1 : Int) (x2 : Int) (x3 : Int) (xs0 : Int) : px_X d 203 (35, [vR 123, vI x1, vI x2, vI x3, vJ, vJ, vJ, vJ, vJ], [vI xs0]) (px_sh L, i, l, r, t) = px_X d 203 (56, [vR 123, vI x1, vI x2, vI x3, vI xs0, vI 0, vJ, vJ, vJ], []) (px_sh L, (px_up (px_up i 124 9 0) 124 10 0), l, r, t) := ((xs_ist k203_35 (Nat.le_of_ble_eq_true rfl) (ls' := [vR 123, vI x1, vI x2, vI x3, vI xs0, vJ, vJ, vJ, vJ]) rfl).trans ((xs_aldn k203_37 rfl).trans ((xs_get4 k203_38 (px_s123 L) (Nat.le_of_ble_eq_true rfl) (px_r123_3 hr)).trans ((xs_bi k203_41 (by omega)).trans ((xs_ic k203_43 (by omega)).trans ((xs_iast k203_44 (px_s124 L) (by omega) (Nat.le_of_ble_eq_true rfl)).trans ((xs_aldn k203_45 rfl).trans ((xs_get4 k203_46 (px_s123 L) (Nat.le_of_ble_eq_true rfl) (px_r123_3 hr)).trans ((xs_bi k203_49 (by omega)).trans ((xs_ic k203_51 (by omega)).trans ((xs_iast k203_52 (px_s124 L) (by omega) (Nat.le_of_ble_eq_true rfl)).trans ((xs_ic k203_53 (by omega)).trans (xs_ist k203_54 (Nat.le_of_ble_eq_true rfl) (ls' := [vR 123, vI x1, vI x2, vI x3, vI xs0, vI 0, vJ, vJ, vJ]) rfl)))))))))))))
theorem b203_56 (hr : px_hr r) (d : Nat) (i l : MI) (x1 : Int) (x2 : Int) (x3 : Int) (x4 : Int) (x5 : Int) {v6 : PV} (hn6 : px_nl v6) (h1 : (¬ ((i 124 4) ≤ x5)) → 0 ≤ (px_w32 ((px_w32 (120 + (px_w32 (14 * x5)))) + 9)) ∧ (px_w32 ((px_w32 (120 + (px_w32 (14 * x5)))) + 9)) < 820) (h2 : (¬ ((i 124 4) ≤ x5)) → 0 ≤ (px_w32 ((px_w32 (120 + (px_w32 (14 * x5)))) + 10)) ∧ (px_w32 ((px_w32 (120 + (px_w32 (14 * x5)))) + 10)) < 820) (h3 : (¬ ((i 124 4) ≤ x5)) → 0 ≤ (px_w32 ((px_w32 (120 + (px_w32 (14 * x5)))) + 11)) ∧ (px_w32 ((px_w32 (120 + (px_w32 (14 * x5)))) + 11)) < 820) : px_X (d + 1) 203 (56, [vR 123, vI x1, vI x2, vI x3, vI x4, vI x5, v6, vJ, vJ], []) (px_sh L, i, l, r, t) = if (i 124 4) ≤ x5 then px_X (d + 1) 203 (137, [vR 123, vI x1, vI x2, vI x3, vI x4, vI x1, v6, vJ, vJ], []) (px_sh L, i, l, r, t) else (px_C d 146 [vR 123, vI x5, vI 8] (px_sh L, (px_up (px_up (px_up i 124 (px_w32 ((px_w32 (120 + (px_w32 (14 * x5)))) + 9)) 0) 124 (px_w32 ((px_w32 (120 + (px_w32 (14 * x5)))) + 10)) 0) 124 (px_w32 ((px_w32 (120 + (px_w32 (14 * x5)))) + 11)) 0), l, r, t)).bind (fun q => px_X (d + 1) 203 (px_psh (127, [vR 123, vI x1, vI x2, vI x3, vI x4, vI x5, vI (px_w32 (120 + (px_w32 (14 * x5)))), vJ, vJ], [vI (px_w32 ((px_w32 (120 + (px_w32 (14 * x5)))) + 12)), vR 124]) q.1) q.2) := ((xs_ild k203_56 rfl).trans ((xs_aldn k203_58 rfl).trans ((xs_get4 k203_59 (px_s123 L) (Nat.le_of_ble_eq_true rfl) (px_r123_3 hr)).trans ((xs_ic k203_62 (by omega)).trans ((xs_iald k203_63 (px_s124 L) (by omega)).trans ((xs_jge k203_64).trans (px_ite (fun c1 => ((xs_ildn k203_134 rfl).trans (xs_ist k203_135 (Nat.le_of_ble_eq_true rfl) (ls' := [vR 123, vI x1, vI x2, vI x3, vI x4, vI x1, v6, vJ, vJ]) rfl))) (fun c1 => ((xs_bi k203_67 (by omega)).trans ((xs_bi k203_69 (by omega)).trans ((xs_ild k203_71 rfl).trans ((xs_imul k203_73).trans ((xs_iadd k203_74).trans ((xs_ist k203_75 (Nat.le_of_ble_eq_true rfl) (ls' := [vR 123, vI x1, vI x2, vI x3, vI x4, vI x5, vI (px_w32 (120 + (px_w32 (14 * x5)))), vJ, vJ]) rfl).trans ((xs_aldn k203_77 rfl).trans ((xs_get4 k203_78 (px_s123 L) (Nat.le_of_ble_eq_true rfl) (px_r123_3 hr)).trans ((xs_ild k203_81 rfl).trans ((xs_bi k203_83 (by omega)).trans ((xs_iadd k203_85).trans ((xs_ic k203_86 (by omega)).trans ((xs_iast k203_87 (px_s124 L) (h1 c1) (Nat.le_of_ble_eq_true rfl)).trans ((xs_aldn k203_88 rfl).trans ((xs_get4 k203_89 (px_s123 L) (Nat.le_of_ble_eq_true rfl) (px_r123_3 hr)).trans ((xs_ild k203_92 rfl).trans ((xs_bi k203_94 (by omega)).trans ((xs_iadd k203_96).trans ((xs_ic k203_97 (by omega)).trans ((xs_iast k203_98 (px_s124 L) (h2 c1) (Nat.le_of_ble_eq_true rfl)).trans ((xs_aldn k203_99 rfl).trans ((xs_get4 k203_100 (px_s123 L) (Nat.le_of_ble_eq_true rfl) (px_r123_3 hr)).trans ((xs_ild k203_103 rfl).trans ((xs_bi k203_105 (by omega)).trans ((xs_iadd k203_107).trans ((xs_ic k203_108 (by omega)).trans ((xs_iast k203_109 (px_s124 L) (h3 c1) (Nat.le_of_ble_eq_true rfl)).trans ((xs_aldn k203_110 rfl).trans ((xs_get4 k203_111 (px_s123 L) (Nat.le_of_ble_eq_true rfl) (px_r123_3 hr)).trans ((xs_ild k203_114 rfl).trans ((xs_bi k203_116 (by omega)).trans ((xs_iadd k203_118).trans ((xs_aldn k203_119 rfl).trans ((xs_ild k203_120 rfl).trans ((xs_bi k203_122 (by omega)).trans (xs_callvB k203_124 (as := [vI x5, vI 8]) rfl rfl (Nat.le_of_ble_eq_true rfl) (Nat.le_of_ble_eq_true rfl) (Nat.le_of_ble_eq_true rfl) (px_s123 L) (Nat.le_of_ble_eq_true rfl)))))))))))))))))))))))))))))))))))))))))))))
theorem b203_127 (hr : px_hr r) (d : Nat) (i l : MI) (x1 : Int) (x2 : Int) (x3 : Int) (x4 : Int) (x5 : Int) (x6 : Int) (xs0 : Int) (xs1 : Int) (h1 : 0 ≤ xs1 ∧ xs1 < 820) : px_X d 203 (127, [vR 123, vI x1, vI x2, vI x3, vI x4, vI x5, vI x6, vJ, vJ], [vI xs0, vI xs1, vR 124]) (px_sh L, i, l, r, t) = px_X d 203 (56, [vR 123, vI x1, vI x2, vI x3, vI x4, vI (px_w32 (x5 + 1)), vI x6, vJ, vJ], []) (px_sh L, (px_up i 124 xs1 xs0), l, r, t) := ((xs_iast k203_127 (px_s124 L) (h1) (Nat.le_of_ble_eq_true rfl)).trans ((xs_iinc k203_128 rfl (by omega) (ls' := [vR 123, vI x1, vI x2, vI x3, vI x4, vI (px_w32 (x5 + 1)), vI x6, vJ, vJ]) rfl).trans (xs_goto k203_131)))
theorem b203_137 (hr : px_hr r) (d : Nat) (i l : MI) (x1 : Int) (x2 : Int) (x3 : Int) (x4 : Int) (x5 : Int) {v6 : PV} (hn6 : px_nl v6) {v7 : PV} (hn7 : px_nl v7) {v8 : PV} (hn8 : px_nl v8) (h1 : (¬ (x2 < x5)) → ¬ x3 = 0) : px_X (d + 1) 203 (137, [vR 123, vI x1, vI x2, vI x3, vI x4, vI x5, v6, v7, v8], []) (px_sh L, i, l, r, t) = if x2 < x5 then some (some (vI (i 124 10)), (px_sh L, i, l, r, t)) else if (Int.tmod (px_w32 (x5 - x1)) x3) = 0 then (px_C d 202 [vR 123, vI x4, vI x5] (px_sh L, i, l, r, t)).bind (fun q => px_X (d + 1) 203 (px_psh (160, [vR 123, vI x1, vI x2, vI x3, vI x4, vI x5, v6, v7, v8], []) q.1) q.2) else px_X (d + 1) 203 (160, [vR 123, vI x1, vI x2, vI x3, vI x4, vI x5, v6, v7, v8], []) (px_sh L, i, l, r, t) := ((xs_ild k203_137 rfl).trans ((xs_ildn k203_139 rfl).trans ((xs_jgt k203_140).trans (px_ite (fun c1 => ((xs_aldn k203_292 rfl).trans ((xs_get4 k203_293 (px_s123 L) (Nat.le_of_ble_eq_true rfl) (px_r123_3 hr)).trans ((xs_bi k203_296 (by omega)).trans ((xs_iald k203_298 (px_s124 L) (by omega)).trans (xs_ri k203_299 rfl)))))) (fun c1 => ((xs_ild k203_143 rfl).trans ((xs_ildn k203_145 rfl).trans ((xs_isub k203_146).trans ((xs_ildn k203_147 rfl).trans ((xs_irem k203_148 (h1 c1)).trans ((xs_ine k203_149).trans (px_ite (fun c2 => ((xs_aldn k203_152 rfl).trans ((xs_ild k203_153 rfl).trans ((xs_ild k203_155 rfl).trans (xs_callvB k203_157 (as := [vI x4, vI x5]) rfl rfl (Nat.le_of_ble_eq_true rfl) (Nat.le_of_ble_eq_true rfl) (Nat.le_of_ble_eq_true rfl) (px_s123 L) (Nat.le_of_ble_eq_true rfl)))))) (fun c2 => rfl)))))))))))))
theorem b203_160 (hr : px_hr r) (d : Nat) (i l : MI) (x1 : Int) (x2 : Int) (x3 : Int) (x4 : Int) (x5 : Int) {v6 : PV} (hn6 : px_nl v6) {v7 : PV} (hn7 : px_nl v7) {v8 : PV} (hn8 : px_nl v8) : px_X (d + 1) 203 (160, [vR 123, vI x1, vI x2, vI x3, vI x4, vI x5, v6, v7, v8], []) (px_sh L, i, l, r, t) = (px_C d 192 [vR 123, vI x5] (px_sh L, i, l, r, t)).bind (fun q => px_X (d + 1) 203 (px_psh (166, [vR 123, vI x1, vI x2, vI x3, vI x4, vI x5, v6, v7, v8], []) q.1) q.2) := ((xs_aldn k203_160 rfl).trans ((xs_ild k203_161 rfl).trans (xs_callvB k203_163 (as := [vI x5]) rfl rfl (Nat.le_of_ble_eq_true rfl) (Nat.le_of_ble_eq_true rfl) (Nat.le_of_ble_eq_true rfl) (px_s123 L) (Nat.le_of_ble_eq_true rfl))))
theorem b203_166 (hr : px_hr r) (d : Nat) (i l : MI) (x1 : Int) (x2 : Int) (x3 : Int) (x4 : Int) (x5 : Int) {v6 : PV} (hn6 : px_nl v6) {v7 : PV} (hn7 : px_nl v7) {v8 : PV} (hn8 : px_nl v8) (xs0 : Int) : px_X d 203 (166, [vR 123, vI x1, vI x2, vI x3, vI x4, vI x5, v6, v7, v8], [vI xs0]) (px_sh L, i, l, r, t) = px_X d 203 (171, [vR 123, vI x1, vI x2, vI x3, vI x4, vI x5, vI xs0, vI 0, v8], []) (px_sh L, i, l, r, t) := ((xs_ist k203_166 (Nat.le_of_ble_eq_true rfl) (ls' := [vR 123, vI x1, vI x2, vI x3, vI x4, vI x5, vI xs0, v7, v8]) rfl).trans ((xs_ic k203_168 (by omega)).trans (xs_ist k203_169 (Nat.le_of_ble_eq_true rfl) (ls' := [vR 123, vI x1, vI x2, vI x3, vI x4, vI x5, vI xs0, vI 0, v8]) rfl)))
theorem b203_171 (hr : px_hr r) (d : Nat) (i l : MI) (x1 : Int) (x2 : Int) (x3 : Int) (x4 : Int) (x5 : Int) (x6 : Int) (x7 : Int) {v8 : PV} (hn8 : px_nl v8) (h1 : (¬ ((i 124 4) ≤ x7)) → 0 ≤ x7 ∧ x7 < 10) (h2 : (¬ ((i 124 4) ≤ x7)) → (¬ ((i 142 x7) = (-2))) → 0 ≤ (px_w32 ((px_w32 (120 + (px_w32 (14 * x7)))) + 9)) ∧ (px_w32 ((px_w32 (120 + (px_w32 (14 * x7)))) + 9)) < 820) (h3 : (¬ ((i 124 4) ≤ x7)) → (¬ ((i 142 x7) = (-2))) → 0 ≤ x7 ∧ x7 < 10) : px_X (d + 1) 203 (171, [vR 123, vI x1, vI x2, vI x3, vI x4, vI x5, vI x6, vI x7, v8], []) (px_sh L, i, l, r, t) = if (i 124 4) ≤ x7 then px_X (d + 1) 203 (137, [vR 123, vI x1, vI x2, vI x3, vI x4, vI (px_w32 (x5 + 1)), vI x6, vI x7, v8], []) (px_sh L, i, l, r, t) else if (i 142 x7) = (-2) then px_X (d + 1) 203 (171, [vR 123, vI x1, vI x2, vI x3, vI x4, vI x5, vI x6, vI (px_w32 (x7 + 1)), v8], []) (px_sh L, i, l, r, t) else (px_C d 194 [vR 123, vI (i 142 x7)] (px_sh L, i, l, r, t)).bind (fun q => px_X (d + 1) 203 (px_psh (228, [vR 123, vI x1, vI x2, vI x3, vI x4, vI x5, vI x6, vI x7, vI (px_w32 (120 + (px_w32 (14 * x7))))], [vI x6, vI (i 124 (px_w32 ((px_w32 (120 + (px_w32 (14 * x7)))) + 9))), vI (px_w32 ((px_w32 (120 + (px_w32 (14 * x7)))) + 9)), vR 124]) q.1) q.2) := ((xs_ild k203_171 rfl).trans ((xs_aldn k203_173 rfl).trans ((xs_get4 k203_174 (px_s123 L) (Nat.le_of_ble_eq_true rfl) (px_r123_3 hr)).trans ((xs_ic k203_177 (by omega)).trans ((xs_iald k203_178 (px_s124 L) (by omega)).trans ((xs_jge k203_179).trans (px_ite (fun c1 => ((xs_iinc k203_286 rfl (by omega) (ls' := [vR 123, vI x1, vI x2, vI x3, vI x4, vI (px_w32 (x5 + 1)), vI x6, vI x7, v8]) rfl).trans (xs_goto k203_289))) (fun c1 => ((xs_aldn k203_182 rfl).trans ((xs_get4 k203_183 (px_s123 L) (Nat.le_of_ble_eq_true rfl) (px_r123_38 hr)).trans ((xs_ild k203_186 rfl).trans ((xs_iald k203_188 (px_s142 L) (h1 c1)).trans ((xs_bi k203_189 (by omega)).trans ((xs_jeq k203_191).trans (px_ite (fun c2 => ((xs_iinc k203_280 rfl (by omega) (ls' := [vR 123, vI x1, vI x2, vI x3, vI x4, vI x5, vI x6, vI (px_w32 (x7 + 1)), v8]) rfl).trans (xs_goto k203_283))) (fun c2 => ((xs_bi k203_194 (by omega)).trans ((xs_bi k203_196 (by omega)).trans ((xs_ild k203_198 rfl).trans ((xs_imul k203_200).trans ((xs_iadd k203_201).trans ((xs_ist k203_202 (Nat.le_of_ble_eq_true rfl) (ls' := [vR 123, vI x1, vI x2, vI x3, vI x4, vI x5, vI x6, vI x7, vI (px_w32 (120 + (px_w32 (14 * x7))))]) rfl).trans ((xs_aldn k203_204 rfl).trans ((xs_get4 k203_205 (px_s123 L) (Nat.le_of_ble_eq_true rfl) (px_r123_3 hr)).trans ((xs_ild k203_208 rfl).trans ((xs_bi k203_210 (by omega)).trans ((xs_iadd k203_212).trans ((xs_dup2 k203_213 ⟨rfl, rfl⟩).trans ((xs_iald k203_214 (px_s124 L) (h2 c1 c2)).trans ((xs_ild k203_215 rfl).trans ((xs_aldn k203_217 rfl).trans ((xs_aldn k203_218 rfl).trans ((xs_get4 k203_219 (px_s123 L) (Nat.le_of_ble_eq_true rfl) (px_r123_38 hr)).trans ((xs_ild k203_222 rfl).trans ((xs_iald k203_224 (px_s142 L) (h3 c1 c2)).trans (xs_callvB k203_225 (as := [vI (i 142 x7)]) rfl rfl (Nat.le_of_ble_eq_true rfl) (Nat.le_of_ble_eq_true rfl) (Nat.le_of_ble_eq_true rfl) (px_s123 L) (Nat.le_of_ble_eq_true rfl)))))))))))))))))))))))))))))))))))))
theorem b203_228 (hr : px_hr r) (d : Nat) (i l : MI) (x1 : Int) (x2 : Int) (x3 : Int) (x4 : Int) (x5 : Int) (x6 : Int) (x7 : Int) (x8 : Int) (xs0 : Int) (xs1 : Int) (xs2 : Int) (xs3 : Int) : px_X d 203 (228, [vR 123, vI x1, vI x2, vI x3, vI x4, vI x5, vI x6, vI x7, vI x8], [vI xs0, vI xs1, vI xs2, vI xs3, vR 124]) (px_sh L, i, l, r, t) = if xs1 ≤ xs0 then px_X d 203 (236, [vR 123, vI x1, vI x2, vI x3, vI x4, vI x5, vI x6, vI x7, vI x8], [vI 0, vI xs2, vI xs3, vR 124]) (px_sh L, i, l, r, t) else px_X d 203 (236, [vR 123, vI x1, vI x2, vI x3, vI x4, vI x5, vI x6, vI x7, vI x8], [vI 1, vI xs2, vI xs3, vR 124]) (px_sh L, i, l, r, t) := ((xs_jle k203_228).trans (px_ite (fun c1 => (xs_ic k203_235 (by omega))) (fun c1 => ((xs_ic k203_231 (by omega)).trans (xs_goto k203_232)))))
theorem b203_236 (hr : px_hr r) (d : Nat) (i l : MI) (x1 : Int) (x2 : Int) (x3 : Int) (x4 : Int) (x5 : Int) (x6 : Int) (x7 : Int) (x8 : Int) (xs0 : Int) (xs1 : Int) (xs2 : Int) (h1 : 0 ≤ xs2 ∧ xs2 < 820) (h2 : 0 ≤ (px_w32 (x8 + 10)) ∧ (px_w32 (x8 + 10)) < 820) (h3 : 0 ≤ x7 ∧ x7 < 10) : px_X (d + 1) 203 (236, [vR 123, vI x1, vI x2, vI x3, vI x4, vI x5, vI x6, vI x7, vI x8], [vI xs0, vI xs1, vI xs2, vR 124]) (px_sh L, i, l, r, t) = (px_C d 194 [vR 123, vI (i 142 x7)] (px_sh L, (px_up i 124 xs2 (px_w32 (xs1 + xs0))), l, r, t)).bind (fun q => px_X (d + 1) 203 (px_psh (262, [vR 123, vI x1, vI x2, vI x3, vI x4, vI x5, vI x6, vI x7, vI x8], [vI x6, vI ((px_up i 124 xs2 (px_w32 (xs1 + xs0))) 124 (px_w32 (x8 + 10))), vI (px_w32 (x8 + 10)), vR 124]) q.1) q.2) := ((xs_iadd k203_236).trans ((xs_iast k203_237 (px_s124 L) (h1) (Nat.le_of_ble_eq_true rfl)).trans ((xs_aldn k203_238 rfl).trans ((xs_get4 k203_239 (px_s123 L) (Nat.le_of_ble_eq_true rfl) (px_r123_3 hr)).trans ((xs_ild k203_242 rfl).trans ((xs_bi k203_244 (by omega)).trans ((xs_iadd k203_246).trans ((xs_dup2 k203_247 ⟨rfl, rfl⟩).trans ((xs_iald k203_248 (px_s124 L) (h2)).trans ((xs_ild k203_249 rfl).trans ((xs_aldn k203_251 rfl).trans ((xs_aldn k203_252 rfl).trans ((xs_get4 k203_253 (px_s123 L) (Nat.le_of_ble_eq_true rfl) (px_r123_38 hr)).trans ((xs_ild k203_256 rfl).trans ((xs_iald k203_258 (px_s142 L) (h3)).trans (xs_callvB k203_259 (as := [vI (i 142 x7)]) rfl rfl (Nat.le_of_ble_eq_true rfl) (Nat.le_of_ble_eq_true rfl) (Nat.le_of_ble_eq_true rfl) (px_s123 L) (Nat.le_of_ble_eq_true rfl)))))))))))))))))
theorem b203_262 (hr : px_hr r) (d : Nat) (i l : MI) (x1 : Int) (x2 : Int) (x3 : Int) (x4 : Int) (x5 : Int) (x6 : Int) (x7 : Int) (x8 : Int) (xs0 : Int) (xs1 : Int) (xs2 : Int) (xs3 : Int) : px_X (d + 1) 203 (262, [vR 123, vI x1, vI x2, vI x3, vI x4, vI x5, vI x6, vI x7, vI x8], [vI xs0, vI xs1, vI xs2, vI xs3, vR 124]) (px_sh L, i, l, r, t) = (px_C d 146 [vR 123, vI x7, vI 1] (px_sh L, i, l, r, t)).bind (fun q => px_X (d + 1) 203 (px_psh (269, [vR 123, vI x1, vI x2, vI x3, vI x4, vI x5, vI x6, vI x7, vI x8], [vI xs0, vI xs1, vI xs2, vI xs3, vR 124]) q.1) q.2) := ((xs_aldn k203_262 rfl).trans ((xs_ild k203_263 rfl).trans ((xs_ic k203_265 (by omega)).trans (xs_callvB k203_266 (as := [vI x7, vI 1]) rfl rfl (Nat.le_of_ble_eq_true rfl) (Nat.le_of_ble_eq_true rfl) (Nat.le_of_ble_eq_true rfl) (px_s123 L) (Nat.le_of_ble_eq_true rfl)))))
theorem b203_269 (hr : px_hr r) (d : Nat) (i l : MI) (x1 : Int) (x2 : Int) (x3 : Int) (x4 : Int) (x5 : Int) (x6 : Int) (x7 : Int) (x8 : Int) (xs0 : Int) (xs1 : Int) (xs2 : Int) (xs3 : Int) (xs4 : Int) (h1 : (xs2 ≤ (px_w32 (xs1 + xs0))) → 0 ≤ xs4 ∧ xs4 < 820) (h2 : (¬ (xs2 ≤ (px_w32 (xs1 + xs0)))) → 0 ≤ xs4 ∧ xs4 < 820) : px_X d 203 (269, [vR 123, vI x1, vI x2, vI x3, vI x4, vI x5, vI x6, vI x7, vI x8], [vI xs0, vI xs1, vI xs2, vI xs3, vI xs4, vR 124]) (px_sh L, i, l, r, t) = if xs2 ≤ (px_w32 (xs1 + xs0)) then px_X d 203 (171, [vR 123, vI x1, vI x2, vI x3, vI x4, vI x5, vI x6, vI (px_w32 (x7 + 1)), vI x8], []) (px_sh L, (px_up i 124 xs4 (px_w32 (xs3 + 0))), l, r, t) else px_X d 203 (171, [vR 123, vI x1, vI x2, vI x3, vI x4, vI x5, vI x6, vI (px_w32 (x7 + 1)), vI x8], []) (px_sh L, (px_up i 124 xs4 (px_w32 (xs3 + 1))), l, r, t) := ((xs_iadd k203_269).trans ((xs_jle k203_270).trans (px_ite (fun c1 => ((xs_ic k203_277 (by omega)).trans ((xs_iadd k203_278).trans ((xs_iast k203_279 (px_s124 L) (h1 c1) (Nat.le_of_ble_eq_true rfl)).trans ((xs_iinc k203_280 rfl (by omega) (ls' := [vR 123, vI x1, vI x2, vI x3, vI x4, vI x5, vI x6, vI (px_w32 (x7 + 1)), vI x8]) rfl).trans (xs_goto k203_283)))))) (fun c1 => ((xs_ic k203_273 (by omega)).trans ((xs_goto k203_274).trans ((xs_iadd k203_278).trans ((xs_iast k203_279 (px_s124 L) (h2 c1) (Nat.le_of_ble_eq_true rfl)).trans ((xs_iinc k203_280 rfl (by omega) (ls' := [vR 123, vI x1, vI x2, vI x3, vI x4, vI x5, vI x6, vI (px_w32 (x7 + 1)), vI x8]) rfl).trans (xs_goto k203_283))))))))))
-- TideGuestsModel.billOf ('R123', 'I')
theorem b204_0 (hr : px_hr r) (d : Nat) (i l : MI) (x1 : Int) : px_X (d + 1) 204 (0, [vR 123, vI x1], []) (px_sh L, i, l, r, t) = (px_C d 146 [vR 123, vI x1, vI 12] (px_sh L, i, l, r, t)).bind (fun q => px_X (d + 1) 204 (px_psh (7, [vR 123, vI x1], []) q.1) q.2) := ((xs_aldn k204_0 rfl).trans ((xs_ildn k204_1 rfl).trans ((xs_bi k204_2 (by omega)).trans (xs_callvB k204_4 (as := [vI x1, vI 12]) rfl rfl (Nat.le_of_ble_eq_true rfl) (Nat.le_of_ble_eq_true rfl) (Nat.le_of_ble_eq_true rfl) (px_s123 L) (Nat.le_of_ble_eq_true rfl)))))
theorem b204_7 (hr : px_hr r) (d : Nat) (i l : MI) (x1 : Int) (xs0 : Int) : px_X (d + 1) 204 (7, [vR 123, vI x1], [vI xs0]) (px_sh L, i, l, r, t) = if xs0 = 0 then some (some (vI 0), (px_sh L, i, l, r, t)) else (px_C d 146 [vR 123, vI x1, vI 0] (px_sh L, i, l, r, t)).bind (fun q => px_X (d + 1) 204 (px_psh (23, [vR 123, vI x1], [vI 3, vR 140]) q.1) q.2) := ((xs_ine k204_7).trans (px_ite (fun c1 => ((xs_ic k204_10 (by omega)).trans (xs_ri k204_11 rfl))) (fun c1 => ((xs_aldn k204_12 rfl).trans ((xs_get4 k204_13 (px_s123 L) (Nat.le_of_ble_eq_true rfl) (px_r123_36 hr)).trans ((xs_ic k204_16 (by omega)).trans ((xs_aldn k204_17 rfl).trans ((xs_ildn k204_18 rfl).trans ((xs_ic k204_19 (by omega)).trans (xs_callvB k204_20 (as := [vI x1, vI 0]) rfl rfl (Nat.le_of_ble_eq_true rfl) (Nat.le_of_ble_eq_true rfl) (Nat.le_of_ble_eq_true rfl) (px_s123 L) (Nat.le_of_ble_eq_true rfl)))))))))))
theorem b204_23 (hr : px_hr r) (d : Nat) (i l : MI) (x1 : Int) (xs0 : Int) (xs1 : Int) (h1 : 0 ≤ xs1 ∧ xs1 < 15) : px_X (d + 1) 204 (23, [vR 123, vI x1], [vI xs0, vI xs1, vR 140]) (px_sh L, i, l, r, t) = (px_C d 146 [vR 123, vI x1, vI 4] (px_sh L, (px_up i 140 xs1 xs0), l, r, t)).bind (fun q => px_X (d + 1) 204 (px_psh (36, [vR 123, vI x1], [vI 6, vR 140]) q.1) q.2) := ((xs_iast k204_23 (px_s140 L) (h1) (Nat.le_of_ble_eq_true rfl)).trans ((xs_aldn k204_24 rfl).trans ((xs_get4 k204_25 (px_s123 L) (Nat.le_of_ble_eq_true rfl) (px_r123_36 hr)).trans ((xs_bi k204_28 (by omega)).trans ((xs_aldn k204_30 rfl).trans ((xs_ildn k204_31 rfl).trans ((xs_ic k204_32 (by omega)).trans (xs_callvB k204_33 (as := [vI x1, vI 4]) rfl rfl (Nat.le_of_ble_eq_true rfl) (Nat.le_of_ble_eq_true rfl) (Nat.le_of_ble_eq_true rfl) (px_s123 L) (Nat.le_of_ble_eq_true rfl)))))))))
theorem b204_36 (hr : px_hr r) (d : Nat) (i l : MI) (x1 : Int) (xs0 : Int) (xs1 : Int) (h1 : 0 ≤ xs1 ∧ xs1 < 15) : px_X (d + 1) 204 (36, [vR 123, vI x1], [vI xs0, vI xs1, vR 140]) (px_sh L, i, l, r, t) = (px_C d 146 [vR 123, vI x1, vI 9] (px_sh L, (px_up i 140 xs1 xs0), l, r, t)).bind (fun q => px_X (d + 1) 204 (px_psh (50, [vR 123, vI x1], [vI 11, vR 140]) q.1) q.2) := ((xs_iast k204_36 (px_s140 L) (h1) (Nat.le_of_ble_eq_true rfl)).trans ((xs_aldn k204_37 rfl).trans ((xs_get4 k204_38 (px_s123 L) (Nat.le_of_ble_eq_true rfl) (px_r123_36 hr)).trans ((xs_bi k204_41 (by omega)).trans ((xs_aldn k204_43 rfl).trans ((xs_ildn k204_44 rfl).trans ((xs_bi k204_45 (by omega)).trans (xs_callvB k204_47 (as := [vI x1, vI 9]) rfl rfl (Nat.le_of_ble_eq_true rfl) (Nat.le_of_ble_eq_true rfl) (Nat.le_of_ble_eq_true rfl) (px_s123 L) (Nat.le_of_ble_eq_true rfl)))))))))
theorem b204_50 (hr : px_hr r) (d : Nat) (i l : MI) (x1 : Int) (xs0 : Int) (xs1 : Int) (h1 : 0 ≤ xs1 ∧ xs1 < 15) : px_X (d + 1) 204 (50, [vR 123, vI x1], [vI xs0, vI xs1, vR 140]) (px_sh L, i, l, r, t) = (px_C d 146 [vR 123, vI x1, vI 11] (px_sh L, (px_up i 140 xs1 xs0), l, r, t)).bind (fun q => px_X (d + 1) 204 (px_psh (64, [vR 123, vI x1], [vI 12, vR 140]) q.1) q.2) := ((xs_iast k204_50 (px_s140 L) (h1) (Nat.le_of_ble_eq_true rfl)).trans ((xs_aldn k204_51 rfl).trans ((xs_get4 k204_52 (px_s123 L) (Nat.le_of_ble_eq_true rfl) (px_r123_36 hr)).trans ((xs_bi k204_55 (by omega)).trans ((xs_aldn k204_57 rfl).trans ((xs_ildn k204_58 rfl).trans ((xs_bi k204_59 (by omega)).trans (xs_callvB k204_61 (as := [vI x1, vI 11]) rfl rfl (Nat.le_of_ble_eq_true rfl) (Nat.le_of_ble_eq_true rfl) (Nat.le_of_ble_eq_true rfl) (px_s123 L) (Nat.le_of_ble_eq_true rfl)))))))))
theorem b204_64 (hr : px_hr r) (d : Nat) (i l : MI) (x1 : Int) (xs0 : Int) (xs1 : Int) (h1 : 0 ≤ xs1 ∧ xs1 < 15) : px_X (d + 1) 204 (64, [vR 123, vI x1], [vI xs0, vI xs1, vR 140]) (px_sh L, i, l, r, t) = (px_C d 146 [vR 123, vI x1, vI 7] (px_sh L, (px_up i 140 xs1 xs0), l, r, t)).bind (fun q => px_X (d + 1) 204 (px_psh (78, [vR 123, vI x1], [vI 13, vR 140]) q.1) q.2) := ((xs_iast k204_64 (px_s140 L) (h1) (Nat.le_of_ble_eq_true rfl)).trans ((xs_aldn k204_65 rfl).trans ((xs_get4 k204_66 (px_s123 L) (Nat.le_of_ble_eq_true rfl) (px_r123_36 hr)).trans ((xs_bi k204_69 (by omega)).trans ((xs_aldn k204_71 rfl).trans ((xs_ildn k204_72 rfl).trans ((xs_bi k204_73 (by omega)).trans (xs_callvB k204_75 (as := [vI x1, vI 7]) rfl rfl (Nat.le_of_ble_eq_true rfl) (Nat.le_of_ble_eq_true rfl) (Nat.le_of_ble_eq_true rfl) (px_s123 L) (Nat.le_of_ble_eq_true rfl)))))))))
theorem b204_78 (hr : px_hr r) (d : Nat) (i l : MI) (x1 : Int) (xs0 : Int) (xs1 : Int) (h1 : 0 ≤ xs1 ∧ xs1 < 15) : px_X (d + 1) 204 (78, [vR 123, vI x1], [vI xs0, vI xs1, vR 140]) (px_sh L, i, l, r, t) = (px_C d 187 [vR 123, vI 2] (px_sh L, (px_up i 140 xs1 xs0), l, r, t)).bind (fun q => px_X (d + 1) 204 (px_psh (84, [vR 123, vI x1], []) q.1) q.2) := ((xs_iast k204_78 (px_s140 L) (h1) (Nat.le_of_ble_eq_true rfl)).trans ((xs_aldn k204_79 rfl).trans ((xs_ic k204_80 (by omega)).trans (xs_callvB k204_81 (as := [vI 2]) rfl rfl (Nat.le_of_ble_eq_true rfl) (Nat.le_of_ble_eq_true rfl) (Nat.le_of_ble_eq_true rfl) (px_s123 L) (Nat.le_of_ble_eq_true rfl)))))
theorem b204_84 (hr : px_hr r) (d : Nat) (i l : MI) (x1 : Int) (xs0 : Int) : px_X (d + 1) 204 (84, [vR 123, vI x1], [vI xs0]) (px_sh L, i, l, r, t) = if xs0 = 0 then (px_C d 146 [vR 123, vI x1, vI 9] (px_sh L, i, l, r, t)).bind (fun q => px_X (d + 1) 204 (px_psh (109, [vR 123, vI x1], []) q.1) q.2) else (px_C d 188 [vR 123, vI 2, vL 0] (px_sh L, i, l, r, t)).bind (fun q => px_X (d + 1) 204 (px_psh (93, [vR 123, vI x1], []) q.1) q.2) := ((xs_ieq k204_84).trans (px_ite (fun c1 => ((xs_aldn k204_102 rfl).trans ((xs_ildn k204_103 rfl).trans ((xs_bi k204_104 (by omega)).trans (xs_callvB k204_106 (as := [vI x1, vI 9]) rfl rfl (Nat.le_of_ble_eq_true rfl) (Nat.le_of_ble_eq_true rfl) (Nat.le_of_ble_eq_true rfl) (px_s123 L) (Nat.le_of_ble_eq_true rfl)))))) (fun c1 => ((xs_aldn k204_87 rfl).trans ((xs_ic k204_88 (by omega)).trans ((xs_lc0 k204_89).trans (xs_callvB k204_90 (as := [vI 2, vL 0]) rfl rfl (Nat.le_of_ble_eq_true rfl) (Nat.le_of_ble_eq_true rfl) (Nat.le_of_ble_eq_true rfl) (px_s123 L) (Nat.le_of_ble_eq_true rfl))))))))
theorem b204_93 (hr : px_hr r) (d : Nat) (i l : MI) (x1 : Int) (xs0 : Int) : px_X (d + 1) 204 (93, [vR 123, vI x1], [vL xs0]) (px_sh L, i, l, r, t) = (px_C d 190 [vL xs0, vI 999999] (px_sh L, i, l, r, t)).bind (fun q => px_X (d + 1) 204 (px_psh (99, [vR 123, vI x1], []) q.1) q.2) := ((xs_ldcw k204_93).trans (xs_callsB k204_96 (as := [vL xs0, vI 999999]) rfl rfl (Nat.le_of_ble_eq_true rfl) (Nat.le_of_ble_eq_true rfl) (Nat.le_of_ble_eq_true rfl)))
theorem b204_99 (hr : px_hr r) (d : Nat) (i l : MI) (x1 : Int) (xs0 : Int) : px_X d 204 (99, [vR 123, vI x1], [vI xs0]) (px_sh L, i, l, r, t) = some (some (vI xs0), (px_sh L, i, l, r, t)) := ((xs_goto k204_99).trans (xs_ri k204_126 rfl))
theorem b204_109 (hr : px_hr r) (d : Nat) (i l : MI) (x1 : Int) (xs0 : Int) : px_X (d + 1) 204 (109, [vR 123, vI x1], [vI xs0]) (px_sh L, i, l, r, t) = (px_C d 146 [vR 123, vI x1, vI 7] (px_sh L, i, l, r, t)).bind (fun q => px_X (d + 1) 204 (px_psh (125, [vR 123, vI x1], [vI (px_w32 ((px_w32 (Int.tdiv (px_w32 (xs0 + 59)) 60)) * 10))]) q.1) q.2) := ((xs_bi k204_109 (by omega)).trans ((xs_iadd k204_111).trans ((xs_bi k204_112 (by omega)).trans ((xs_idiv k204_114 (by omega)).trans ((xs_bi k204_115 (by omega)).trans ((xs_imul k204_117).trans ((xs_aldn k204_118 rfl).trans ((xs_ildn k204_119 rfl).trans ((xs_bi k204_120 (by omega)).trans (xs_callvB k204_122 (as := [vI x1, vI 7]) rfl rfl (Nat.le_of_ble_eq_true rfl) (Nat.le_of_ble_eq_true rfl) (Nat.le_of_ble_eq_true rfl) (px_s123 L) (Nat.le_of_ble_eq_true rfl)))))))))))
theorem b204_125 (hr : px_hr r) (d : Nat) (i l : MI) (x1 : Int) (xs0 : Int) (xs1 : Int) : px_X d 204 (125, [vR 123, vI x1], [vI xs0, vI xs1]) (px_sh L, i, l, r, t) = some (some (vI (px_w32 (xs1 + xs0))), (px_sh L, i, l, r, t)) := ((xs_iadd k204_125).trans (xs_ri k204_126 rfl))
-- TideGuestsModel.told ('R123', 'I', 'I')
theorem b205_0 (hr : px_hr r) (d : Nat) (i l : MI) (x1 : Int) (x2 : Int) : px_X (d + 1) 205 (0, [vR 123, vI x1, vI x2], []) (px_sh L, i, l, r, t) = if x2 = 4 then some (some (vI (i 124 9)), (px_sh L, i, l, r, t)) else (px_C d 144 [vR 123, vI x1] (px_sh L, i, l, r, t)).bind (fun q => px_X (d + 1) 205 (px_psh (18, [vR 123, vI x1, vI x2], []) q.1) q.2) := ((xs_ildn k205_0 rfl).trans ((xs_ic k205_1 (by omega)).trans ((xs_jne k205_2).trans (px_ite (fun c1 => ((xs_aldn k205_5 rfl).trans ((xs_get4 k205_6 (px_s123 L) (Nat.le_of_ble_eq_true rfl) (px_r123_3 hr)).trans ((xs_bi k205_9 (by omega)).trans ((xs_iald k205_11 (px_s124 L) (by omega)).trans (xs_ri k205_12 rfl)))))) (fun c1 => ((xs_aldn k205_13 rfl).trans ((xs_ildn k205_14 rfl).trans (xs_callvB k205_15 (as := [vI x1]) rfl rfl (Nat.le_of_ble_eq_true rfl) (Nat.le_of_ble_eq_true rfl) (Nat.le_of_ble_eq_true rfl) (px_s123 L) (Nat.le_of_ble_eq_true rfl)))))))))
theorem b205_18 (hr : px_hr r) (d : Nat) (i l : MI) (x1 : Int) (x2 : Int) (xs0 : Int) : px_X (d + 1) 205 (18, [vR 123, vI x1, vI x2], [vI xs0]) (px_sh L, i, l, r, t) = if xs0 = 0 then some (some (vI (-2)), (px_sh L, i, l, r, t)) else (px_C d 141 [vI x2, vI 0, vI 3] (px_sh L, i, l, r, t)).bind (fun q => px_X (d + 1) 205 (px_psh (27, [vR 123, vI x1, vI x2], []) q.1) q.2) := ((xs_ieq k205_18).trans (px_ite (fun c1 => ((xs_bi k205_30 (by omega)).trans (xs_ri k205_32 rfl))) (fun c1 => ((xs_ildn k205_21 rfl).trans ((xs_ic k205_22 (by omega)).trans ((xs_ic k205_23 (by omega)).trans (xs_callsB k205_24 (as := [vI x2, vI 0, vI 3]) rfl rfl (Nat.le_of_ble_eq_true rfl) (Nat.le_of_ble_eq_true rfl) (Nat.le_of_ble_eq_true rfl))))))))
theorem b205_27 (hr : px_hr r) (d : Nat) (i l : MI) (x1 : Int) (x2 : Int) (xs0 : Int) : px_X (d + 1) 205 (27, [vR 123, vI x1, vI x2], [vI xs0]) (px_sh L, i, l, r, t) = if xs0 = 0 then some (some (vI (-2)), (px_sh L, i, l, r, t)) else if x2 = 3 then (px_C d 204 [vR 123, vI x1] (px_sh L, i, l, r, t)).bind (fun q => px_X (d + 1) 205 (px_psh (43, [vR 123, vI x1, vI x2], []) q.1) q.2) else (px_C d 146 [vR 123, vI x1, vI (px_w32 (9 + x2))] (px_sh L, i, l, r, t)).bind (fun q => px_X (d + 1) 205 (px_psh (55, [vR 123, vI x1, vI x2], []) q.1) q.2) := ((xs_ine k205_27).trans (px_ite (fun c1 => ((xs_bi k205_30 (by omega)).trans (xs_ri k205_32 rfl))) (fun c1 => ((xs_ildn k205_33 rfl).trans ((xs_ic k205_34 (by omega)).trans ((xs_jne k205_35).trans (px_ite (fun c2 => ((xs_aldn k205_38 rfl).trans ((xs_ildn k205_39 rfl).trans (xs_callvB k205_40 (as := [vI x1]) rfl rfl (Nat.le_of_ble_eq_true rfl) (Nat.le_of_ble_eq_true rfl) (Nat.le_of_ble_eq_true rfl) (px_s123 L) (Nat.le_of_ble_eq_true rfl))))) (fun c2 => ((xs_aldn k205_46 rfl).trans ((xs_ildn k205_47 rfl).trans ((xs_bi k205_48 (by omega)).trans ((xs_ildn k205_50 rfl).trans ((xs_iadd k205_51).trans (xs_callvB k205_52 (as := [vI x1, vI (px_w32 (9 + x2))]) rfl rfl (Nat.le_of_ble_eq_true rfl) (Nat.le_of_ble_eq_true rfl) (Nat.le_of_ble_eq_true rfl) (px_s123 L) (Nat.le_of_ble_eq_true rfl)))))))))))))))
theorem b205_43 (hr : px_hr r) (d : Nat) (i l : MI) (x1 : Int) (x2 : Int) (xs0 : Int) : px_X d 205 (43, [vR 123, vI x1, vI x2], [vI xs0]) (px_sh L, i, l, r, t) = some (some (vI xs0), (px_sh L, i, l, r, t)) := ((xs_goto k205_43).trans (xs_ri k205_55 rfl))
theorem b205_55 (hr : px_hr r) (d : Nat) (i l : MI) (x1 : Int) (x2 : Int) (xs0 : Int) : px_X d 205 (55, [vR 123, vI x1, vI x2], [vI xs0]) (px_sh L, i, l, r, t) = some (some (vI xs0), (px_sh L, i, l, r, t)) := (xs_ri k205_55 rfl)
-- TideGuestsModel.sat ('R123', 'I', 'I')
theorem b206_0 (hr : px_hr r) (d : Nat) (i l : MI) (x1 : Int) (x2 : Int) : px_X (d + 1) 206 (0, [vR 123, vI x1, vI x2], []) (px_sh L, i, l, r, t) = (px_C d 144 [vR 123, vI x1] (px_sh L, i, l, r, t)).bind (fun q => px_X (d + 1) 206 (px_psh (5, [vR 123, vI x1, vI x2], []) q.1) q.2) := ((xs_aldn k206_0 rfl).trans ((xs_ildn k206_1 rfl).trans (xs_callvB k206_2 (as := [vI x1]) rfl rfl (Nat.le_of_ble_eq_true rfl) (Nat.le_of_ble_eq_true rfl) (Nat.le_of_ble_eq_true rfl) (px_s123 L) (Nat.le_of_ble_eq_true rfl))))
theorem b206_5 (hr : px_hr r) (d : Nat) (i l : MI) (x1 : Int) (x2 : Int) (xs0 : Int) : px_X (d + 1) 206 (5, [vR 123, vI x1, vI x2], [vI xs0]) (px_sh L, i, l, r, t) = if xs0 = 0 then some (some (vI (-2)), (px_sh L, i, l, r, t)) else (px_C d 146 [vR 123, vI x1, vI 12] (px_sh L, i, l, r, t)).bind (fun q => px_X (d + 1) 206 (px_psh (15, [vR 123, vI x1, vI x2], []) q.1) q.2) := ((xs_ieq k206_5).trans (px_ite (fun c1 => ((xs_bi k206_58 (by omega)).trans (xs_ri k206_60 rfl))) (fun c1 => ((xs_aldn k206_8 rfl).trans ((xs_ildn k206_9 rfl).trans ((xs_bi k206_10 (by omega)).trans (xs_callvB k206_12 (as := [vI x1, vI 12]) rfl rfl (Nat.le_of_ble_eq_true rfl) (Nat.le_of_ble_eq_true rfl) (Nat.le_of_ble_eq_true rfl) (px_s123 L) (Nat.le_of_ble_eq_true rfl))))))))
theorem b206_15 (hr : px_hr r) (d : Nat) (i l : MI) (x1 : Int) (x2 : Int) (xs0 : Int) (h1 : (xs0 = 1) → (¬ (x2 < 0)) → (¬ ((i 124 10) ≤ x2)) → (¬ (50 ≤ x2)) → 0 ≤ (px_w32 ((px_w32 (320 + (px_w32 (10 * x2)))) + x1)) ∧ (px_w32 ((px_w32 (320 + (px_w32 (10 * x2)))) + x1)) < 820) : px_X d 206 (15, [vR 123, vI x1, vI x2], [vI xs0]) (px_sh L, i, l, r, t) = if xs0 = 1 then if x2 < 0 then some (some (vI (-2)), (px_sh L, i, l, r, t)) else if (i 124 10) ≤ x2 then some (some (vI (-2)), (px_sh L, i, l, r, t)) else if 50 ≤ x2 then some (some (vI (-2)), (px_sh L, i, l, r, t)) else some (some (vI (i 124 (px_w32 ((px_w32 (320 + (px_w32 (10 * x2)))) + x1)))), (px_sh L, i, l, r, t)) else some (some (vI (-2)), (px_sh L, i, l, r, t)) := ((xs_ic k206_15 (by omega)).trans ((xs_jne k206_16).trans (px_ite (fun c1 => ((xs_ildn k206_19 rfl).trans ((xs_ilt k206_20).trans (px_ite (fun c2 => ((xs_bi k206_58 (by omega)).trans (xs_ri k206_60 rfl))) (fun c2 => ((xs_ildn k206_23 rfl).trans ((xs_aldn k206_24 rfl).trans ((xs_get4 k206_25 (px_s123 L) (Nat.le_of_ble_eq_true rfl) (px_r123_3 hr)).trans ((xs_bi k206_28 (by omega)).trans ((xs_iald k206_30 (px_s124 L) (by omega)).trans ((xs_jge k206_31).trans (px_ite (fun c3 => ((xs_bi k206_58 (by omega)).trans (xs_ri k206_60 rfl))) (fun c3 => ((xs_ildn k206_34 rfl).trans ((xs_bi k206_35 (by omega)).trans ((xs_jge k206_37).trans (px_ite (fun c4 => ((xs_bi k206_58 (by omega)).trans (xs_ri k206_60 rfl))) (fun c4 => ((xs_aldn k206_40 rfl).trans ((xs_get4 k206_41 (px_s123 L) (Nat.le_of_ble_eq_true rfl) (px_r123_3 hr)).trans ((xs_si k206_44 (by omega)).trans ((xs_bi k206_47 (by omega)).trans ((xs_ildn k206_49 rfl).trans ((xs_imul k206_50).trans ((xs_iadd k206_51).trans ((xs_ildn k206_52 rfl).trans ((xs_iadd k206_53).trans ((xs_iald k206_54 (px_s124 L) (h1 c1 c2 c3 c4)).trans ((xs_goto k206_55).trans (xs_ri k206_60 rfl)))))))))))))))))))))))))))))) (fun c1 => ((xs_bi k206_58 (by omega)).trans (xs_ri k206_60 rfl))))))
-- TideGuestsModel.laysLevels ('R123',)
theorem b207_0 (hr : px_hr r) (d : Nat) (i l : MI)  : px_X d 207 (0, [vR 123, vJ], []) (px_sh L, i, l, r, t) = px_X d 207 (2, [vR 123, vI 0], []) (px_sh L, i, l, r, t) := ((xs_ic k207_0 (by omega)).trans (xs_istn k207_1 (Nat.le_of_ble_eq_true rfl) (ls' := [vR 123, vI 0]) rfl))
theorem b207_2 (hr : px_hr r) (d : Nat) (i l : MI) (x1 : Int) : px_X (d + 1) 207 (2, [vR 123, vI x1], []) (px_sh L, i, l, r, t) = if 1439 < x1 then some (none, (px_sh L, i, l, r, t)) else (px_C d 192 [vR 123, vI x1] (px_sh L, i, l, r, t)).bind (fun q => px_X (d + 1) 207 (px_psh (19, [vR 123, vI x1], [vI x1, vR 146]) q.1) q.2) := ((xs_ildn k207_2 rfl).trans ((xs_si k207_3 (by omega)).trans ((xs_jgt k207_6).trans (px_ite (fun c1 => (xs_rv k207_26 rfl)) (fun c1 => ((xs_aldn k207_9 rfl).trans ((xs_get4 k207_10 (px_s123 L) (Nat.le_of_ble_eq_true rfl) (px_r123_42 hr)).trans ((xs_ildn k207_13 rfl).trans ((xs_aldn k207_14 rfl).trans ((xs_ildn k207_15 rfl).trans (xs_callvB k207_16 (as := [vI x1]) rfl rfl (Nat.le_of_ble_eq_true rfl) (Nat.le_of_ble_eq_true rfl) (Nat.le_of_ble_eq_true rfl) (px_s123 L) (Nat.le_of_ble_eq_true rfl))))))))))))
theorem b207_19 (hr : px_hr r) (d : Nat) (i l : MI) (x1 : Int) (xs0 : Int) (xs1 : Int) (h1 : 0 ≤ xs1 ∧ xs1 < 1440) : px_X d 207 (19, [vR 123, vI x1], [vI xs0, vI xs1, vR 146]) (px_sh L, i, l, r, t) = px_X d 207 (2, [vR 123, vI (px_w32 (x1 + 1))], []) (px_sh L, (px_up i 146 xs1 xs0), l, r, t) := ((xs_iast k207_19 (px_s146 L) (h1) (Nat.le_of_ble_eq_true rfl)).trans ((xs_iinc k207_20 rfl (by omega) (ls' := [vR 123, vI (px_w32 (x1 + 1))]) rfl).trans (xs_goto k207_23)))
end PXL
