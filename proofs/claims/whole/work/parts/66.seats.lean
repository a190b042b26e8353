/-! Block lemmas, by program (wip/whole/gen_blk.py). -/
theorem k108_0 : px_cod 108 0 = some ((.aload_n 0), 1, [], 0) := rfl
theorem k108_1 : px_cod 108 1 = some ((.getfield 41), 3, [167, 9, 4, 1], 1) := rfl
theorem k108_4 : px_cod 108 4 = some ((.iload_n 1), 1, [], 1) := rfl
theorem k108_5 : px_cod 108 5 = some ((.invokevirtual 49), 3, [0, 150, 65], 0) := rfl
theorem k108_8 : px_cod 108 8 = some ((.istore_n 3), 1, [], 3) := rfl
theorem k108_9 : px_cod 108 9 = some ((.aload_n 0), 1, [], 0) := rfl
theorem k108_10 : px_cod 108 10 = some ((.getfield 37), 3, [166, 9, 4, 1], 0) := rfl
theorem k108_13 : px_cod 108 13 = some ((.invokevirtual 55), 3, [0, 151, 57], 0) := rfl
theorem k108_16 : px_cod 108 16 = some ((.istore 4), 2, [], 4) := rfl
theorem k108_18 : px_cod 108 18 = some ((.aload_n 0), 1, [], 0) := rfl
theorem k108_19 : px_cod 108 19 = some ((.iload_n 3), 1, [], 3) := rfl
theorem k108_20 : px_cod 108 20 = some ((.invokevirtual 61), 3, [0, 152, 109], 0) := rfl
theorem k108_23 : px_cod 108 23 = some ((.aload_n 0), 1, [], 0) := rfl
theorem k108_24 : px_cod 108 24 = some ((.iload 4), 2, [], 4) := rfl
theorem k108_26 : px_cod 108 26 = some ((.aload_n 0), 1, [], 0) := rfl
theorem k108_27 : px_cod 108 27 = some ((.getfield 15), 3, [170, 9, 0, 0], 4) := rfl
theorem k108_30 : px_cod 108 30 = some ((.invokevirtual 65), 3, [0, 156, 110], 0) := rfl
theorem k108_33 : px_cod 108 33 = some ((.istore 5), 2, [], 5) := rfl
theorem k108_35 : px_cod 108 35 = some ((.iload_n 2), 1, [], 2) := rfl
theorem k108_36 : px_cod 108 36 = some ((.iconst (-1)), 1, [], (-1)) := rfl
theorem k108_37 : px_cod 108 37 = some ((.if_icmp .ne 6), 3, [43], 0) := rfl
theorem k108_40 : px_cod 108 40 = some ((.iload 5), 2, [], 5) := rfl
theorem k108_42 : px_cod 108 42 = some (.ireturn, 1, [], 0) := rfl
theorem k108_43 : px_cod 108 43 = some ((.iconst 0), 1, [], 0) := rfl
theorem k108_44 : px_cod 108 44 = some ((.istore 6), 2, [], 6) := rfl
theorem k108_46 : px_cod 108 46 = some ((.iload 6), 2, [], 6) := rfl
theorem k108_48 : px_cod 108 48 = some ((.aload_n 0), 1, [], 0) := rfl
theorem k108_49 : px_cod 108 49 = some ((.getfield 37), 3, [166, 9, 4, 1], 0) := rfl
theorem k108_52 : px_cod 108 52 = some ((.getfield 69), 3, [92, 4, 0, 0], 6) := rfl
theorem k108_55 : px_cod 108 55 = some ((.if_icmp .ge 136), 3, [191], 0) := rfl
theorem k108_58 : px_cod 108 58 = some ((.iload 4), 2, [], 4) := rfl
theorem k108_60 : px_cod 108 60 = some ((.iload 6), 2, [], 6) := rfl
theorem k108_62 : px_cod 108 62 = some ((.invokestatic 72), 3, [0, 157, 32], 0) := rfl
theorem k108_65 : px_cod 108 65 = some ((.ifCond .ne 6), 3, [71], 0) := rfl
theorem k108_68 : px_cod 108 68 = some ((.goto 117), 3, [185], 0) := rfl
theorem k108_71 : px_cod 108 71 = some ((.iload 4), 2, [], 4) := rfl
theorem k108_73 : px_cod 108 73 = some ((.iconst 1), 1, [], 1) := rfl
theorem k108_74 : px_cod 108 74 = some ((.iload 6), 2, [], 6) := rfl
theorem k108_76 : px_cod 108 76 = some (.ishl, 1, [], 0) := rfl
theorem k108_77 : px_cod 108 77 = some ((.iconst (-1)), 1, [], (-1)) := rfl
theorem k108_78 : px_cod 108 78 = some (.ixor, 1, [], 0) := rfl
theorem k108_79 : px_cod 108 79 = some (.iand, 1, [], 0) := rfl
theorem k108_80 : px_cod 108 80 = some ((.istore 4), 2, [], 4) := rfl
theorem k108_82 : px_cod 108 82 = some ((.aload_n 0), 1, [], 0) := rfl
theorem k108_83 : px_cod 108 83 = some ((.iload 6), 2, [], 6) := rfl
theorem k108_85 : px_cod 108 85 = some ((.iload 4), 2, [], 4) := rfl
theorem k108_87 : px_cod 108 87 = some ((.iload_n 3), 1, [], 3) := rfl
theorem k108_88 : px_cod 108 88 = some ((.iload 5), 2, [], 5) := rfl
theorem k108_90 : px_cod 108 90 = some ((.invokevirtual 76), 3, [0, 160, 111], 0) := rfl
theorem k108_93 : px_cod 108 93 = some ((.istore 7), 2, [], 7) := rfl
theorem k108_95 : px_cod 108 95 = some ((.iload 6), 2, [], 6) := rfl
theorem k108_97 : px_cod 108 97 = some ((.iload_n 2), 1, [], 2) := rfl
theorem k108_98 : px_cod 108 98 = some ((.if_icmp .ne 6), 3, [104], 0) := rfl
theorem k108_101 : px_cod 108 101 = some ((.iload 7), 2, [], 7) := rfl
theorem k108_103 : px_cod 108 103 = some (.ireturn, 1, [], 0) := rfl
theorem k108_104 : px_cod 108 104 = some ((.aload_n 0), 1, [], 0) := rfl
theorem k108_105 : px_cod 108 105 = some ((.getfield 37), 3, [166, 9, 4, 1], 0) := rfl
theorem k108_108 : px_cod 108 108 = some ((.iload 7), 2, [], 7) := rfl
theorem k108_110 : px_cod 108 110 = some ((.invokevirtual 80), 3, [0, 155, 56], 0) := rfl
theorem k108_113 : px_cod 108 113 = some ((.iload_n 3), 1, [], 3) := rfl
theorem k108_114 : px_cod 108 114 = some ((.if_icmp .lt 7), 3, [121], 0) := rfl
theorem k108_117 : px_cod 108 117 = some ((.iconst 1), 1, [], 1) := rfl
theorem k108_118 : px_cod 108 118 = some ((.goto 4), 3, [122], 0) := rfl
theorem k108_121 : px_cod 108 121 = some ((.iconst 0), 1, [], 0) := rfl
theorem k108_122 : px_cod 108 122 = some ((.istore 8), 2, [], 8) := rfl
theorem k108_124 : px_cod 108 124 = some ((.iload 5), 2, [], 5) := rfl
theorem k108_126 : px_cod 108 126 = some ((.iload 8), 2, [], 8) := rfl
theorem k108_128 : px_cod 108 128 = some ((.ifCond .eq 7), 3, [135], 0) := rfl
theorem k108_131 : px_cod 108 131 = some ((.iconst 0), 1, [], 0) := rfl
theorem k108_132 : px_cod 108 132 = some ((.goto 11), 3, [143], 0) := rfl
theorem k108_135 : px_cod 108 135 = some ((.aload_n 0), 1, [], 0) := rfl
theorem k108_136 : px_cod 108 136 = some ((.iconst 1), 1, [], 1) := rfl
theorem k108_137 : px_cod 108 137 = some ((.iload 6), 2, [], 6) := rfl
theorem k108_139 : px_cod 108 139 = some (.ishl, 1, [], 0) := rfl
theorem k108_140 : px_cod 108 140 = some ((.invokevirtual 83), 3, [0, 158, 112], 0) := rfl
theorem k108_143 : px_cod 108 143 = some (.isub, 1, [], 0) := rfl
theorem k108_144 : px_cod 108 144 = some ((.istore 5), 2, [], 5) := rfl
theorem k108_146 : px_cod 108 146 = some ((.aload_n 0), 1, [], 0) := rfl
theorem k108_147 : px_cod 108 147 = some (.dup, 1, [], 0) := rfl
theorem k108_148 : px_cod 108 148 = some ((.getfield 15), 3, [170, 9, 0, 0], 4) := rfl
theorem k108_151 : px_cod 108 151 = some ((.iload 8), 2, [], 8) := rfl
theorem k108_153 : px_cod 108 153 = some ((.ifCond .eq 7), 3, [160], 0) := rfl
theorem k108_156 : px_cod 108 156 = some ((.iconst 1), 1, [], 1) := rfl
theorem k108_157 : px_cod 108 157 = some ((.goto 4), 3, [161], 0) := rfl
theorem k108_160 : px_cod 108 160 = some ((.iconst 0), 1, [], 0) := rfl
theorem k108_161 : px_cod 108 161 = some (.isub, 1, [], 0) := rfl
theorem k108_162 : px_cod 108 162 = some ((.putfield 15), 3, [170, 9, 0, 0], 4) := rfl
theorem k108_165 : px_cod 108 165 = some ((.aload_n 0), 1, [], 0) := rfl
theorem k108_166 : px_cod 108 166 = some ((.getfield 9), 3, [169, 9, 4, 1], 3) := rfl
theorem k108_169 : px_cod 108 169 = some ((.iload 7), 2, [], 7) := rfl
theorem k108_171 : px_cod 108 171 = some ((.aload_n 0), 1, [], 0) := rfl
theorem k108_172 : px_cod 108 172 = some ((.getfield 9), 3, [169, 9, 4, 1], 3) := rfl
theorem k108_175 : px_cod 108 175 = some ((.iload 7), 2, [], 7) := rfl
theorem k108_177 : px_cod 108 177 = some ((.invokestatic 86), 3, [0, 153, 33], 0) := rfl
theorem k108_180 : px_cod 108 180 = some ((.iconst 1), 1, [], 1) := rfl
theorem k108_181 : px_cod 108 181 = some (.isub, 1, [], 0) := rfl
theorem k108_182 : px_cod 108 182 = some ((.invokestatic 90), 3, [0, 154, 34], 0) := rfl
theorem k108_185 : px_cod 108 185 = some ((.iinc 6 1), 3, [6], 1) := rfl
theorem k108_188 : px_cod 108 188 = some ((.goto (-142)), 3, [46], 0) := rfl
theorem k108_191 : px_cod 108 191 = some ((.iconst (-1)), 1, [], (-1)) := rfl
theorem k108_192 : px_cod 108 192 = some (.ireturn, 1, [], 0) := rfl
theorem k109_0 : px_cod 109 0 = some ((.aload_n 0), 1, [], 0) := rfl
theorem k109_1 : px_cod 109 1 = some ((.iload_n 1), 1, [], 1) := rfl
theorem k109_2 : px_cod 109 2 = some ((.ifCond .gt 8), 3, [10], 0) := rfl
theorem k109_5 : px_cod 109 5 = some ((.bipush 10), 2, [], 10) := rfl
theorem k109_7 : px_cod 109 7 = some ((.goto 4), 3, [11], 0) := rfl
theorem k109_10 : px_cod 109 10 = some ((.iconst 0), 1, [], 0) := rfl
theorem k109_11 : px_cod 109 11 = some ((.putfield 15), 3, [170, 9, 0, 0], 4) := rfl
theorem k109_14 : px_cod 109 14 = some ((.iconst 0), 1, [], 0) := rfl
theorem k109_15 : px_cod 109 15 = some ((.istore_n 2), 1, [], 2) := rfl
theorem k109_16 : px_cod 109 16 = some ((.iload_n 2), 1, [], 2) := rfl
theorem k109_17 : px_cod 109 17 = some ((.bipush 8), 2, [], 8) := rfl
theorem k109_19 : px_cod 109 19 = some ((.if_icmp .ge 67), 3, [86], 0) := rfl
theorem k109_22 : px_cod 109 22 = some ((.iload_n 2), 1, [], 2) := rfl
theorem k109_23 : px_cod 109 23 = some ((.aload_n 0), 1, [], 0) := rfl
theorem k109_24 : px_cod 109 24 = some ((.getfield 37), 3, [166, 9, 4, 1], 0) := rfl
theorem k109_27 : px_cod 109 27 = some ((.getfield 94), 3, [88, 4, 0, 0], 5) := rfl
theorem k109_30 : px_cod 109 30 = some ((.if_icmp .ge 17), 3, [47], 0) := rfl
theorem k109_33 : px_cod 109 33 = some ((.aload_n 0), 1, [], 0) := rfl
theorem k109_34 : px_cod 109 34 = some ((.getfield 37), 3, [166, 9, 4, 1], 0) := rfl
theorem k109_37 : px_cod 109 37 = some ((.getfield 97), 3, [105, 4, 4, 1], 11) := rfl
theorem k109_40 : px_cod 109 40 = some ((.iload_n 2), 1, [], 2) := rfl
theorem k109_41 : px_cod 109 41 = some ((.invokestatic 86), 3, [0, 153, 33], 0) := rfl
theorem k109_44 : px_cod 109 44 = some ((.goto 4), 3, [48], 0) := rfl
theorem k109_47 : px_cod 109 47 = some ((.iconst 0), 1, [], 0) := rfl
theorem k109_48 : px_cod 109 48 = some ((.istore_n 3), 1, [], 3) := rfl
theorem k109_49 : px_cod 109 49 = some ((.aload_n 0), 1, [], 0) := rfl
theorem k109_50 : px_cod 109 50 = some ((.getfield 9), 3, [169, 9, 4, 1], 3) := rfl
theorem k109_53 : px_cod 109 53 = some ((.iload_n 2), 1, [], 2) := rfl
theorem k109_54 : px_cod 109 54 = some ((.iload_n 3), 1, [], 3) := rfl
theorem k109_55 : px_cod 109 55 = some ((.invokestatic 90), 3, [0, 154, 34], 0) := rfl
theorem k109_58 : px_cod 109 58 = some ((.aload_n 0), 1, [], 0) := rfl
theorem k109_59 : px_cod 109 59 = some ((.getfield 37), 3, [166, 9, 4, 1], 0) := rfl
theorem k109_62 : px_cod 109 62 = some ((.iload_n 2), 1, [], 2) := rfl
theorem k109_63 : px_cod 109 63 = some ((.invokevirtual 80), 3, [0, 155, 56], 0) := rfl
theorem k109_66 : px_cod 109 66 = some ((.iload_n 1), 1, [], 1) := rfl
theorem k109_67 : px_cod 109 67 = some ((.if_icmp .lt 13), 3, [80], 0) := rfl
theorem k109_70 : px_cod 109 70 = some ((.aload_n 0), 1, [], 0) := rfl
theorem k109_71 : px_cod 109 71 = some (.dup, 1, [], 0) := rfl
theorem k109_72 : px_cod 109 72 = some ((.getfield 15), 3, [170, 9, 0, 0], 4) := rfl
theorem k109_75 : px_cod 109 75 = some ((.iload_n 3), 1, [], 3) := rfl
theorem k109_76 : px_cod 109 76 = some (.iadd, 1, [], 0) := rfl
theorem k109_77 : px_cod 109 77 = some ((.putfield 15), 3, [170, 9, 0, 0], 4) := rfl
theorem k109_80 : px_cod 109 80 = some ((.iinc 2 1), 3, [2], 1) := rfl
theorem k109_83 : px_cod 109 83 = some ((.goto (-67)), 3, [16], 0) := rfl
theorem k109_86 : px_cod 109 86 = some (.return_, 1, [], 0) := rfl
theorem k110_0 : px_cod 110 0 = some ((.iload_n 2), 1, [], 2) := rfl
theorem k110_1 : px_cod 110 1 = some ((.istore_n 3), 1, [], 3) := rfl
theorem k110_2 : px_cod 110 2 = some ((.iconst 0), 1, [], 0) := rfl
theorem k110_3 : px_cod 110 3 = some ((.istore 4), 2, [], 4) := rfl
theorem k110_5 : px_cod 110 5 = some ((.iconst 0), 1, [], 0) := rfl
theorem k110_6 : px_cod 110 6 = some ((.istore 5), 2, [], 5) := rfl
theorem k110_8 : px_cod 110 8 = some ((.iload 5), 2, [], 5) := rfl
theorem k110_10 : px_cod 110 10 = some ((.aload_n 0), 1, [], 0) := rfl
theorem k110_11 : px_cod 110 11 = some ((.getfield 37), 3, [166, 9, 4, 1], 0) := rfl
theorem k110_14 : px_cod 110 14 = some ((.getfield 69), 3, [92, 4, 0, 0], 6) := rfl
theorem k110_17 : px_cod 110 17 = some ((.if_icmp .ge 56), 3, [73], 0) := rfl
theorem k110_20 : px_cod 110 20 = some ((.aload_n 0), 1, [], 0) := rfl
theorem k110_21 : px_cod 110 21 = some ((.getfield 37), 3, [166, 9, 4, 1], 0) := rfl
theorem k110_24 : px_cod 110 24 = some ((.getfield 100), 3, [112, 4, 4, 1], 13) := rfl
theorem k110_27 : px_cod 110 27 = some ((.iload 5), 2, [], 5) := rfl
theorem k110_29 : px_cod 110 29 = some ((.invokestatic 86), 3, [0, 153, 33], 0) := rfl
theorem k110_32 : px_cod 110 32 = some ((.istore 6), 2, [], 6) := rfl
theorem k110_34 : px_cod 110 34 = some ((.iload_n 1), 1, [], 1) := rfl
theorem k110_35 : px_cod 110 35 = some ((.iload 6), 2, [], 6) := rfl
theorem k110_37 : px_cod 110 37 = some ((.invokestatic 72), 3, [0, 157, 32], 0) := rfl
theorem k110_40 : px_cod 110 40 = some ((.ifCond .eq 27), 3, [67], 0) := rfl
theorem k110_43 : px_cod 110 43 = some ((.iload 4), 2, [], 4) := rfl
theorem k110_45 : px_cod 110 45 = some ((.iload_n 3), 1, [], 3) := rfl
theorem k110_46 : px_cod 110 46 = some ((.ifCond .le 7), 3, [53], 0) := rfl
theorem k110_49 : px_cod 110 49 = some ((.iconst 0), 1, [], 0) := rfl
theorem k110_50 : px_cod 110 50 = some ((.goto 11), 3, [61], 0) := rfl
theorem k110_53 : px_cod 110 53 = some ((.aload_n 0), 1, [], 0) := rfl
theorem k110_54 : px_cod 110 54 = some ((.iconst 1), 1, [], 1) := rfl
theorem k110_55 : px_cod 110 55 = some ((.iload 6), 2, [], 6) := rfl
theorem k110_57 : px_cod 110 57 = some (.ishl, 1, [], 0) := rfl
theorem k110_58 : px_cod 110 58 = some ((.invokevirtual 83), 3, [0, 158, 112], 0) := rfl
theorem k110_61 : px_cod 110 61 = some (.iadd, 1, [], 0) := rfl
theorem k110_62 : px_cod 110 62 = some ((.istore 4), 2, [], 4) := rfl
theorem k110_64 : px_cod 110 64 = some ((.iinc 3 (-1)), 3, [3], (-1)) := rfl
theorem k110_67 : px_cod 110 67 = some ((.iinc 5 1), 3, [5], 1) := rfl
theorem k110_70 : px_cod 110 70 = some ((.goto (-62)), 3, [8], 0) := rfl
theorem k110_73 : px_cod 110 73 = some ((.iload 4), 2, [], 4) := rfl
theorem k110_75 : px_cod 110 75 = some (.ireturn, 1, [], 0) := rfl
theorem k111_0 : px_cod 111 0 = some ((.iconst 0), 1, [], 0) := rfl
theorem k111_1 : px_cod 111 1 = some ((.istore 5), 2, [], 5) := rfl
theorem k111_3 : px_cod 111 3 = some ((.iload 5), 2, [], 5) := rfl
theorem k111_5 : px_cod 111 5 = some ((.aload_n 0), 1, [], 0) := rfl
theorem k111_6 : px_cod 111 6 = some ((.getfield 37), 3, [166, 9, 4, 1], 0) := rfl
theorem k111_9 : px_cod 111 9 = some ((.getfield 94), 3, [88, 4, 0, 0], 5) := rfl
theorem k111_12 : px_cod 111 12 = some ((.if_icmp .ge 96), 3, [108], 0) := rfl
theorem k111_15 : px_cod 111 15 = some ((.aload_n 0), 1, [], 0) := rfl
theorem k111_16 : px_cod 111 16 = some ((.getfield 9), 3, [169, 9, 4, 1], 3) := rfl
theorem k111_19 : px_cod 111 19 = some ((.iload 5), 2, [], 5) := rfl
theorem k111_21 : px_cod 111 21 = some ((.invokestatic 86), 3, [0, 153, 33], 0) := rfl
theorem k111_24 : px_cod 111 24 = some ((.ifCond .gt 6), 3, [30], 0) := rfl
theorem k111_27 : px_cod 111 27 = some ((.goto 75), 3, [102], 0) := rfl
theorem k111_30 : px_cod 111 30 = some ((.aload_n 0), 1, [], 0) := rfl
theorem k111_31 : px_cod 111 31 = some ((.getfield 37), 3, [166, 9, 4, 1], 0) := rfl
theorem k111_34 : px_cod 111 34 = some ((.iload 5), 2, [], 5) := rfl
theorem k111_36 : px_cod 111 36 = some ((.invokevirtual 80), 3, [0, 155, 56], 0) := rfl
theorem k111_39 : px_cod 111 39 = some ((.iload_n 3), 1, [], 3) := rfl
theorem k111_40 : px_cod 111 40 = some ((.if_icmp .lt 7), 3, [47], 0) := rfl
theorem k111_43 : px_cod 111 43 = some ((.iconst 1), 1, [], 1) := rfl
theorem k111_44 : px_cod 111 44 = some ((.goto 4), 3, [48], 0) := rfl
theorem k111_47 : px_cod 111 47 = some ((.iconst 0), 1, [], 0) := rfl
theorem k111_48 : px_cod 111 48 = some ((.istore 6), 2, [], 6) := rfl
theorem k111_50 : px_cod 111 50 = some ((.iload 6), 2, [], 6) := rfl
theorem k111_52 : px_cod 111 52 = some ((.ifCond .eq 7), 3, [59], 0) := rfl
theorem k111_55 : px_cod 111 55 = some ((.iconst 0), 1, [], 0) := rfl
theorem k111_56 : px_cod 111 56 = some ((.goto 10), 3, [66], 0) := rfl
theorem k111_59 : px_cod 111 59 = some ((.aload_n 0), 1, [], 0) := rfl
theorem k111_60 : px_cod 111 60 = some ((.iconst 1), 1, [], 1) := rfl
theorem k111_61 : px_cod 111 61 = some ((.iload_n 1), 1, [], 1) := rfl
theorem k111_62 : px_cod 111 62 = some (.ishl, 1, [], 0) := rfl
theorem k111_63 : px_cod 111 63 = some ((.invokevirtual 83), 3, [0, 158, 112], 0) := rfl
theorem k111_66 : px_cod 111 66 = some ((.istore 7), 2, [], 7) := rfl
theorem k111_68 : px_cod 111 68 = some ((.iload 7), 2, [], 7) := rfl
theorem k111_70 : px_cod 111 70 = some ((.aload_n 0), 1, [], 0) := rfl
theorem k111_71 : px_cod 111 71 = some ((.iload_n 2), 1, [], 2) := rfl
theorem k111_72 : px_cod 111 72 = some ((.iload 6), 2, [], 6) := rfl
theorem k111_74 : px_cod 111 74 = some ((.ifCond .eq 12), 3, [86], 0) := rfl
theorem k111_77 : px_cod 111 77 = some ((.aload_n 0), 1, [], 0) := rfl
theorem k111_78 : px_cod 111 78 = some ((.getfield 15), 3, [170, 9, 0, 0], 4) := rfl
theorem k111_81 : px_cod 111 81 = some ((.iconst 1), 1, [], 1) := rfl
theorem k111_82 : px_cod 111 82 = some (.isub, 1, [], 0) := rfl
theorem k111_83 : px_cod 111 83 = some ((.goto 7), 3, [90], 0) := rfl
theorem k111_86 : px_cod 111 86 = some ((.aload_n 0), 1, [], 0) := rfl
theorem k111_87 : px_cod 111 87 = some ((.getfield 15), 3, [170, 9, 0, 0], 4) := rfl
theorem k111_90 : px_cod 111 90 = some ((.invokevirtual 65), 3, [0, 156, 110], 0) := rfl
theorem k111_93 : px_cod 111 93 = some (.iadd, 1, [], 0) := rfl
theorem k111_94 : px_cod 111 94 = some ((.iload 4), 2, [], 4) := rfl
theorem k111_96 : px_cod 111 96 = some ((.if_icmp .gt 6), 3, [102], 0) := rfl
theorem k111_99 : px_cod 111 99 = some ((.iload 5), 2, [], 5) := rfl
theorem k111_101 : px_cod 111 101 = some (.ireturn, 1, [], 0) := rfl
theorem k111_102 : px_cod 111 102 = some ((.iinc 5 1), 3, [5], 1) := rfl
theorem k111_105 : px_cod 111 105 = some ((.goto (-102)), 3, [3], 0) := rfl
theorem k111_108 : px_cod 111 108 = some ((.bipush 8), 2, [], 8) := rfl
theorem k111_110 : px_cod 111 110 = some (.ireturn, 1, [], 0) := rfl
theorem k112_0 : px_cod 112 0 = some ((.iconst 0), 1, [], 0) := rfl
theorem k112_1 : px_cod 112 1 = some ((.istore_n 2), 1, [], 2) := rfl
theorem k112_2 : px_cod 112 2 = some ((.iconst 0), 1, [], 0) := rfl
theorem k112_3 : px_cod 112 3 = some ((.istore_n 3), 1, [], 3) := rfl
theorem k112_4 : px_cod 112 4 = some ((.iload_n 3), 1, [], 3) := rfl
theorem k112_5 : px_cod 112 5 = some ((.aload_n 0), 1, [], 0) := rfl
theorem k112_6 : px_cod 112 6 = some ((.getfield 37), 3, [166, 9, 4, 1], 0) := rfl
theorem k112_9 : px_cod 112 9 = some ((.getfield 69), 3, [92, 4, 0, 0], 6) := rfl
theorem k112_12 : px_cod 112 12 = some ((.if_icmp .ge 42), 3, [54], 0) := rfl
theorem k112_15 : px_cod 112 15 = some ((.aload_n 0), 1, [], 0) := rfl
theorem k112_16 : px_cod 112 16 = some ((.getfield 37), 3, [166, 9, 4, 1], 0) := rfl
theorem k112_19 : px_cod 112 19 = some ((.iload_n 3), 1, [], 3) := rfl
theorem k112_20 : px_cod 112 20 = some ((.invokevirtual 103), 3, [0, 159, 52], 0) := rfl
theorem k112_23 : px_cod 112 23 = some ((.astore 4), 2, [], 4) := rfl
theorem k112_25 : px_cod 112 25 = some ((.aload 4), 2, [], 4) := rfl
theorem k112_27 : px_cod 112 27 = some ((.ifnull 21), 3, [48], 0) := rfl
theorem k112_30 : px_cod 112 30 = some ((.iload_n 1), 1, [], 1) := rfl
theorem k112_31 : px_cod 112 31 = some ((.iload_n 3), 1, [], 3) := rfl
theorem k112_32 : px_cod 112 32 = some ((.invokestatic 72), 3, [0, 157, 32], 0) := rfl
theorem k112_35 : px_cod 112 35 = some ((.ifCond .eq 13), 3, [48], 0) := rfl
theorem k112_38 : px_cod 112 38 = some ((.iload_n 2), 1, [], 2) := rfl
theorem k112_39 : px_cod 112 39 = some ((.aload 4), 2, [], 4) := rfl
theorem k112_41 : px_cod 112 41 = some ((.getfield 107), 3, [49, 3, 0, 0], 0) := rfl
theorem k112_44 : px_cod 112 44 = some ((.iconst 1), 1, [], 1) := rfl
theorem k112_45 : px_cod 112 45 = some (.iadd, 1, [], 0) := rfl
theorem k112_46 : px_cod 112 46 = some (.iadd, 1, [], 0) := rfl
theorem k112_47 : px_cod 112 47 = some ((.istore_n 2), 1, [], 2) := rfl
theorem k112_48 : px_cod 112 48 = some ((.iinc 3 1), 3, [3], 1) := rfl
theorem k112_51 : px_cod 112 51 = some ((.goto (-47)), 3, [4], 0) := rfl
theorem k112_54 : px_cod 112 54 = some ((.iload_n 2), 1, [], 2) := rfl
theorem k112_55 : px_cod 112 55 = some (.ireturn, 1, [], 0) := rfl
theorem k113_0 : px_cod 113 0 = some ((.aload_n 0), 1, [], 0) := rfl
theorem k113_1 : px_cod 113 1 = some ((.getfield 37), 3, [166, 9, 4, 1], 0) := rfl
theorem k113_4 : px_cod 113 4 = some ((.invokevirtual 55), 3, [0, 151, 57], 0) := rfl
theorem k113_7 : px_cod 113 7 = some ((.istore_n 2), 1, [], 2) := rfl
theorem k113_8 : px_cod 113 8 = some ((.aload_n 0), 1, [], 0) := rfl
theorem k113_9 : px_cod 113 9 = some ((.iload_n 2), 1, [], 2) := rfl
theorem k113_10 : px_cod 113 10 = some ((.iload_n 1), 1, [], 1) := rfl
theorem k113_11 : px_cod 113 11 = some ((.invokevirtual 112), 3, [0, 163, 114], 0) := rfl
theorem k113_14 : px_cod 113 14 = some ((.aload_n 0), 1, [], 0) := rfl
theorem k113_15 : px_cod 113 15 = some ((.iload_n 2), 1, [], 2) := rfl
theorem k113_16 : px_cod 113 16 = some ((.invokevirtual 116), 3, [0, 166, 115], 0) := rfl
theorem k113_19 : px_cod 113 19 = some ((.iconst 0), 1, [], 0) := rfl
theorem k113_20 : px_cod 113 20 = some ((.istore_n 3), 1, [], 3) := rfl
theorem k113_21 : px_cod 113 21 = some ((.iconst 0), 1, [], 0) := rfl
theorem k113_22 : px_cod 113 22 = some ((.istore 4), 2, [], 4) := rfl
theorem k113_24 : px_cod 113 24 = some ((.iconst 1), 1, [], 1) := rfl
theorem k113_25 : px_cod 113 25 = some ((.istore 5), 2, [], 5) := rfl
theorem k113_27 : px_cod 113 27 = some ((.iload 5), 2, [], 5) := rfl
theorem k113_29 : px_cod 113 29 = some ((.iload_n 2), 1, [], 2) := rfl
theorem k113_30 : px_cod 113 30 = some ((.if_icmp .gt 50), 3, [80], 0) := rfl
theorem k113_33 : px_cod 113 33 = some ((.aload_n 0), 1, [], 0) := rfl
theorem k113_34 : px_cod 113 34 = some ((.iload 5), 2, [], 5) := rfl
theorem k113_36 : px_cod 113 36 = some ((.invokevirtual 83), 3, [0, 158, 112], 0) := rfl
theorem k113_39 : px_cod 113 39 = some ((.istore 6), 2, [], 6) := rfl
theorem k113_41 : px_cod 113 41 = some ((.iload 5), 2, [], 5) := rfl
theorem k113_43 : px_cod 113 43 = some ((.iload_n 2), 1, [], 2) := rfl
theorem k113_44 : px_cod 113 44 = some ((.iconst (-1)), 1, [], (-1)) := rfl
theorem k113_45 : px_cod 113 45 = some (.ixor, 1, [], 0) := rfl
theorem k113_46 : px_cod 113 46 = some (.iand, 1, [], 0) := rfl
theorem k113_47 : px_cod 113 47 = some ((.ifCond .ne 27), 3, [74], 0) := rfl
theorem k113_50 : px_cod 113 50 = some ((.iload 6), 2, [], 6) := rfl
theorem k113_52 : px_cod 113 52 = some ((.iload 4), 2, [], 4) := rfl
theorem k113_54 : px_cod 113 54 = some ((.if_icmp .le 20), 3, [74], 0) := rfl
theorem k113_57 : px_cod 113 57 = some ((.aload_n 0), 1, [], 0) := rfl
theorem k113_58 : px_cod 113 58 = some ((.iload 5), 2, [], 5) := rfl
theorem k113_60 : px_cod 113 60 = some ((.iload_n 1), 1, [], 1) := rfl
theorem k113_61 : px_cod 113 61 = some ((.invokevirtual 119), 3, [0, 167, 116], 0) := rfl
theorem k113_64 : px_cod 113 64 = some ((.ifCond .eq 10), 3, [74], 0) := rfl
theorem k113_67 : px_cod 113 67 = some ((.iload 5), 2, [], 5) := rfl
theorem k113_69 : px_cod 113 69 = some ((.istore_n 3), 1, [], 3) := rfl
theorem k113_70 : px_cod 113 70 = some ((.iload 6), 2, [], 6) := rfl
theorem k113_72 : px_cod 113 72 = some ((.istore 4), 2, [], 4) := rfl
theorem k113_74 : px_cod 113 74 = some ((.iinc 5 1), 3, [5], 1) := rfl
theorem k113_77 : px_cod 113 77 = some ((.goto (-50)), 3, [27], 0) := rfl
theorem k113_80 : px_cod 113 80 = some ((.iload_n 3), 1, [], 3) := rfl
theorem k113_81 : px_cod 113 81 = some (.ireturn, 1, [], 0) := rfl
theorem k114_0 : px_cod 114 0 = some ((.aload_n 0), 1, [], 0) := rfl
theorem k114_1 : px_cod 114 1 = some ((.getfield 19), 3, [171, 9, 4, 1], 5) := rfl
theorem k114_4 : px_cod 114 4 = some ((.sipush 1440), 3, [], 1440) := rfl
theorem k114_7 : px_cod 114 7 = some ((.invokestatic 122), 3, [0, 164, 241], 0) := rfl
theorem k114_10 : px_cod 114 10 = some ((.iload_n 1), 1, [], 1) := rfl
theorem k114_11 : px_cod 114 11 = some ((.istore_n 3), 1, [], 3) := rfl
theorem k114_12 : px_cod 114 12 = some ((.iload_n 2), 1, [], 2) := rfl
theorem k114_13 : px_cod 114 13 = some ((.istore 4), 2, [], 4) := rfl
theorem k114_15 : px_cod 114 15 = some ((.iload 4), 2, [], 4) := rfl
theorem k114_17 : px_cod 114 17 = some ((.sipush 1440), 3, [], 1440) := rfl
theorem k114_20 : px_cod 114 20 = some ((.if_icmp .ge 129), 3, [149], 0) := rfl
theorem k114_23 : px_cod 114 23 = some ((.iload_n 3), 1, [], 3) := rfl
theorem k114_24 : px_cod 114 24 = some ((.ifCond .eq 125), 3, [149], 0) := rfl
theorem k114_27 : px_cod 114 27 = some ((.aload_n 0), 1, [], 0) := rfl
theorem k114_28 : px_cod 114 28 = some ((.getfield 41), 3, [167, 9, 4, 1], 1) := rfl
theorem k114_31 : px_cod 114 31 = some ((.iload 4), 2, [], 4) := rfl
theorem k114_33 : px_cod 114 33 = some ((.invokevirtual 49), 3, [0, 150, 65], 0) := rfl
theorem k114_36 : px_cod 114 36 = some ((.istore 5), 2, [], 5) := rfl
theorem k114_38 : px_cod 114 38 = some ((.iconst 0), 1, [], 0) := rfl
theorem k114_39 : px_cod 114 39 = some ((.istore 6), 2, [], 6) := rfl
theorem k114_41 : px_cod 114 41 = some ((.iload 6), 2, [], 6) := rfl
theorem k114_43 : px_cod 114 43 = some ((.aload_n 0), 1, [], 0) := rfl
theorem k114_44 : px_cod 114 44 = some ((.getfield 37), 3, [166, 9, 4, 1], 0) := rfl
theorem k114_47 : px_cod 114 47 = some ((.getfield 69), 3, [92, 4, 0, 0], 6) := rfl
theorem k114_50 : px_cod 114 50 = some ((.if_icmp .ge 93), 3, [143], 0) := rfl
theorem k114_53 : px_cod 114 53 = some ((.aload_n 0), 1, [], 0) := rfl
theorem k114_54 : px_cod 114 54 = some ((.getfield 37), 3, [166, 9, 4, 1], 0) := rfl
theorem k114_57 : px_cod 114 57 = some ((.iload 6), 2, [], 6) := rfl
theorem k114_59 : px_cod 114 59 = some ((.invokevirtual 103), 3, [0, 159, 52], 0) := rfl
theorem k114_62 : px_cod 114 62 = some ((.astore 7), 2, [], 7) := rfl
theorem k114_64 : px_cod 114 64 = some ((.aload 7), 2, [], 7) := rfl
theorem k114_66 : px_cod 114 66 = some ((.ifnull 16), 3, [82], 0) := rfl
theorem k114_69 : px_cod 114 69 = some ((.iload_n 3), 1, [], 3) := rfl
theorem k114_70 : px_cod 114 70 = some ((.iload 6), 2, [], 6) := rfl
theorem k114_72 : px_cod 114 72 = some ((.invokestatic 72), 3, [0, 157, 32], 0) := rfl
theorem k114_75 : px_cod 114 75 = some ((.ifCond .eq 7), 3, [82], 0) := rfl
theorem k114_78 : px_cod 114 78 = some ((.iconst 1), 1, [], 1) := rfl
theorem k114_79 : px_cod 114 79 = some ((.goto 4), 3, [83], 0) := rfl
theorem k114_82 : px_cod 114 82 = some ((.iconst 0), 1, [], 0) := rfl
theorem k114_83 : px_cod 114 83 = some ((.istore 8), 2, [], 8) := rfl
theorem k114_85 : px_cod 114 85 = some ((.iload 8), 2, [], 8) := rfl
theorem k114_87 : px_cod 114 87 = some ((.ifCond .eq 50), 3, [137], 0) := rfl
theorem k114_90 : px_cod 114 90 = some ((.iload 5), 2, [], 5) := rfl
theorem k114_92 : px_cod 114 92 = some ((.aload_n 0), 1, [], 0) := rfl
theorem k114_93 : px_cod 114 93 = some ((.getfield 37), 3, [166, 9, 4, 1], 0) := rfl
theorem k114_96 : px_cod 114 96 = some ((.aload_n 0), 1, [], 0) := rfl
theorem k114_97 : px_cod 114 97 = some ((.getfield 45), 3, [168, 9, 4, 1], 2) := rfl
theorem k114_100 : px_cod 114 100 = some ((.iload 6), 2, [], 6) := rfl
theorem k114_102 : px_cod 114 102 = some ((.invokevirtual 128), 3, [0, 165, 123], 0) := rfl
theorem k114_105 : px_cod 114 105 = some ((.invokevirtual 80), 3, [0, 155, 56], 0) := rfl
theorem k114_108 : px_cod 114 108 = some ((.aload 7), 2, [], 7) := rfl
theorem k114_110 : px_cod 114 110 = some ((.getfield 133), 3, [52, 3, 0, 0], 1) := rfl
theorem k114_113 : px_cod 114 113 = some (.iadd, 1, [], 0) := rfl
theorem k114_114 : px_cod 114 114 = some ((.if_icmp .le 23), 3, [137], 0) := rfl
theorem k114_117 : px_cod 114 117 = some ((.aload_n 0), 1, [], 0) := rfl
theorem k114_118 : px_cod 114 118 = some ((.getfield 19), 3, [171, 9, 4, 1], 5) := rfl
theorem k114_121 : px_cod 114 121 = some ((.iload 6), 2, [], 6) := rfl
theorem k114_123 : px_cod 114 123 = some ((.iload 4), 2, [], 4) := rfl
theorem k114_125 : px_cod 114 125 = some ((.invokestatic 90), 3, [0, 154, 34], 0) := rfl
theorem k114_128 : px_cod 114 128 = some ((.iload_n 3), 1, [], 3) := rfl
theorem k114_129 : px_cod 114 129 = some ((.iconst 1), 1, [], 1) := rfl
theorem k114_130 : px_cod 114 130 = some ((.iload 6), 2, [], 6) := rfl
theorem k114_132 : px_cod 114 132 = some (.ishl, 1, [], 0) := rfl
theorem k114_133 : px_cod 114 133 = some ((.iconst (-1)), 1, [], (-1)) := rfl
theorem k114_134 : px_cod 114 134 = some (.ixor, 1, [], 0) := rfl
theorem k114_135 : px_cod 114 135 = some (.iand, 1, [], 0) := rfl
theorem k114_136 : px_cod 114 136 = some ((.istore_n 3), 1, [], 3) := rfl
theorem k114_137 : px_cod 114 137 = some ((.iinc 6 1), 3, [6], 1) := rfl
theorem k114_140 : px_cod 114 140 = some ((.goto (-99)), 3, [41], 0) := rfl
theorem k114_143 : px_cod 114 143 = some ((.iinc 4 1), 3, [4], 1) := rfl
theorem k114_146 : px_cod 114 146 = some ((.goto (-131)), 3, [15], 0) := rfl
theorem k114_149 : px_cod 114 149 = some (.return_, 1, [], 0) := rfl
theorem k115_0 : px_cod 115 0 = some ((.aload_n 0), 1, [], 0) := rfl
theorem k115_1 : px_cod 115 1 = some ((.iconst 0), 1, [], 0) := rfl
theorem k115_2 : px_cod 115 2 = some ((.putfield 25), 3, [173, 9, 0, 0], 7) := rfl
theorem k115_5 : px_cod 115 5 = some ((.iconst 0), 1, [], 0) := rfl
theorem k115_6 : px_cod 115 6 = some ((.istore_n 2), 1, [], 2) := rfl
theorem k115_7 : px_cod 115 7 = some ((.iload_n 2), 1, [], 2) := rfl
theorem k115_8 : px_cod 115 8 = some ((.aload_n 0), 1, [], 0) := rfl
theorem k115_9 : px_cod 115 9 = some ((.getfield 37), 3, [166, 9, 4, 1], 0) := rfl
theorem k115_12 : px_cod 115 12 = some ((.getfield 69), 3, [92, 4, 0, 0], 6) := rfl
theorem k115_15 : px_cod 115 15 = some ((.if_icmp .ge 118), 3, [133], 0) := rfl
theorem k115_18 : px_cod 115 18 = some ((.iload_n 1), 1, [], 1) := rfl
theorem k115_19 : px_cod 115 19 = some ((.iload_n 2), 1, [], 2) := rfl
theorem k115_20 : px_cod 115 20 = some ((.invokestatic 72), 3, [0, 157, 32], 0) := rfl
theorem k115_23 : px_cod 115 23 = some ((.ifCond .ne 6), 3, [29], 0) := rfl
theorem k115_26 : px_cod 115 26 = some ((.goto 101), 3, [127], 0) := rfl
theorem k115_29 : px_cod 115 29 = some ((.aload_n 0), 1, [], 0) := rfl
theorem k115_30 : px_cod 115 30 = some ((.getfield 25), 3, [173, 9, 0, 0], 7) := rfl
theorem k115_33 : px_cod 115 33 = some ((.istore_n 3), 1, [], 3) := rfl
theorem k115_34 : px_cod 115 34 = some ((.aload_n 0), 1, [], 0) := rfl
theorem k115_35 : px_cod 115 35 = some ((.getfield 25), 3, [173, 9, 0, 0], 7) := rfl
theorem k115_38 : px_cod 115 38 = some ((.istore 4), 2, [], 4) := rfl
theorem k115_40 : px_cod 115 40 = some ((.iload 4), 2, [], 4) := rfl
theorem k115_42 : px_cod 115 42 = some ((.ifCond .le 66), 3, [108], 0) := rfl
theorem k115_45 : px_cod 115 45 = some ((.aload_n 0), 1, [], 0) := rfl
theorem k115_46 : px_cod 115 46 = some ((.getfield 19), 3, [171, 9, 4, 1], 5) := rfl
theorem k115_49 : px_cod 115 49 = some ((.aload_n 0), 1, [], 0) := rfl
theorem k115_50 : px_cod 115 50 = some ((.getfield 22), 3, [172, 9, 4, 1], 6) := rfl
theorem k115_53 : px_cod 115 53 = some ((.iload 4), 2, [], 4) := rfl
theorem k115_55 : px_cod 115 55 = some ((.iconst 1), 1, [], 1) := rfl
theorem k115_56 : px_cod 115 56 = some (.isub, 1, [], 0) := rfl
theorem k115_57 : px_cod 115 57 = some ((.invokestatic 86), 3, [0, 153, 33], 0) := rfl
theorem k115_60 : px_cod 115 60 = some ((.invokestatic 86), 3, [0, 153, 33], 0) := rfl
theorem k115_63 : px_cod 115 63 = some ((.aload_n 0), 1, [], 0) := rfl
theorem k115_64 : px_cod 115 64 = some ((.getfield 19), 3, [171, 9, 4, 1], 5) := rfl
theorem k115_67 : px_cod 115 67 = some ((.iload_n 2), 1, [], 2) := rfl
theorem k115_68 : px_cod 115 68 = some ((.invokestatic 86), 3, [0, 153, 33], 0) := rfl
theorem k115_71 : px_cod 115 71 = some ((.if_icmp .gt 6), 3, [77], 0) := rfl
theorem k115_74 : px_cod 115 74 = some ((.goto 34), 3, [108], 0) := rfl
theorem k115_77 : px_cod 115 77 = some ((.aload_n 0), 1, [], 0) := rfl
theorem k115_78 : px_cod 115 78 = some ((.getfield 22), 3, [172, 9, 4, 1], 6) := rfl
theorem k115_81 : px_cod 115 81 = some ((.iload 4), 2, [], 4) := rfl
theorem k115_83 : px_cod 115 83 = some ((.aload_n 0), 1, [], 0) := rfl
theorem k115_84 : px_cod 115 84 = some ((.getfield 22), 3, [172, 9, 4, 1], 6) := rfl
theorem k115_87 : px_cod 115 87 = some ((.iload 4), 2, [], 4) := rfl
theorem k115_89 : px_cod 115 89 = some ((.iconst 1), 1, [], 1) := rfl
theorem k115_90 : px_cod 115 90 = some (.isub, 1, [], 0) := rfl
theorem k115_91 : px_cod 115 91 = some ((.invokestatic 86), 3, [0, 153, 33], 0) := rfl
theorem k115_94 : px_cod 115 94 = some ((.invokestatic 90), 3, [0, 154, 34], 0) := rfl
theorem k115_97 : px_cod 115 97 = some ((.iload 4), 2, [], 4) := rfl
theorem k115_99 : px_cod 115 99 = some ((.iconst 1), 1, [], 1) := rfl
theorem k115_100 : px_cod 115 100 = some (.isub, 1, [], 0) := rfl
theorem k115_101 : px_cod 115 101 = some ((.istore_n 3), 1, [], 3) := rfl
theorem k115_102 : px_cod 115 102 = some ((.iinc 4 (-1)), 3, [4], (-1)) := rfl
theorem k115_105 : px_cod 115 105 = some ((.goto (-65)), 3, [40], 0) := rfl
theorem k115_108 : px_cod 115 108 = some ((.aload_n 0), 1, [], 0) := rfl
theorem k115_109 : px_cod 115 109 = some ((.getfield 22), 3, [172, 9, 4, 1], 6) := rfl
theorem k115_112 : px_cod 115 112 = some ((.iload_n 3), 1, [], 3) := rfl
theorem k115_113 : px_cod 115 113 = some ((.iload_n 2), 1, [], 2) := rfl
theorem k115_114 : px_cod 115 114 = some ((.invokestatic 90), 3, [0, 154, 34], 0) := rfl
theorem k115_117 : px_cod 115 117 = some ((.aload_n 0), 1, [], 0) := rfl
theorem k115_118 : px_cod 115 118 = some (.dup, 1, [], 0) := rfl
theorem k115_119 : px_cod 115 119 = some ((.getfield 25), 3, [173, 9, 0, 0], 7) := rfl
theorem k115_122 : px_cod 115 122 = some ((.iconst 1), 1, [], 1) := rfl
theorem k115_123 : px_cod 115 123 = some (.iadd, 1, [], 0) := rfl
theorem k115_124 : px_cod 115 124 = some ((.putfield 25), 3, [173, 9, 0, 0], 7) := rfl
theorem k115_127 : px_cod 115 127 = some ((.iinc 2 1), 3, [2], 1) := rfl
theorem k115_130 : px_cod 115 130 = some ((.goto (-123)), 3, [7], 0) := rfl
theorem k115_133 : px_cod 115 133 = some (.return_, 1, [], 0) := rfl
theorem k116_0 : px_cod 116 0 = some ((.iload_n 2), 1, [], 2) := rfl
theorem k116_1 : px_cod 116 1 = some ((.istore_n 3), 1, [], 3) := rfl
theorem k116_2 : px_cod 116 2 = some ((.iconst 0), 1, [], 0) := rfl
theorem k116_3 : px_cod 116 3 = some ((.istore 4), 2, [], 4) := rfl
theorem k116_5 : px_cod 116 5 = some ((.iload 4), 2, [], 4) := rfl
theorem k116_7 : px_cod 116 7 = some ((.aload_n 0), 1, [], 0) := rfl
theorem k116_8 : px_cod 116 8 = some ((.getfield 25), 3, [173, 9, 0, 0], 7) := rfl
theorem k116_11 : px_cod 116 11 = some ((.if_icmp .ge 73), 3, [84], 0) := rfl
theorem k116_14 : px_cod 116 14 = some ((.aload_n 0), 1, [], 0) := rfl
theorem k116_15 : px_cod 116 15 = some ((.getfield 22), 3, [172, 9, 4, 1], 6) := rfl
theorem k116_18 : px_cod 116 18 = some ((.iload 4), 2, [], 4) := rfl
theorem k116_20 : px_cod 116 20 = some ((.invokestatic 86), 3, [0, 153, 33], 0) := rfl
theorem k116_23 : px_cod 116 23 = some ((.istore 5), 2, [], 5) := rfl
theorem k116_25 : px_cod 116 25 = some ((.aload_n 0), 1, [], 0) := rfl
theorem k116_26 : px_cod 116 26 = some ((.getfield 37), 3, [166, 9, 4, 1], 0) := rfl
theorem k116_29 : px_cod 116 29 = some ((.iload 5), 2, [], 5) := rfl
theorem k116_31 : px_cod 116 31 = some ((.invokevirtual 103), 3, [0, 159, 52], 0) := rfl
theorem k116_34 : px_cod 116 34 = some ((.astore 6), 2, [], 6) := rfl
theorem k116_36 : px_cod 116 36 = some ((.aload 6), 2, [], 6) := rfl
theorem k116_38 : px_cod 116 38 = some ((.ifnull 40), 3, [78], 0) := rfl
theorem k116_41 : px_cod 116 41 = some ((.iload_n 1), 1, [], 1) := rfl
theorem k116_42 : px_cod 116 42 = some ((.iload 5), 2, [], 5) := rfl
theorem k116_44 : px_cod 116 44 = some ((.invokestatic 72), 3, [0, 157, 32], 0) := rfl
theorem k116_47 : px_cod 116 47 = some ((.ifCond .ne 6), 3, [53], 0) := rfl
theorem k116_50 : px_cod 116 50 = some ((.goto 28), 3, [78], 0) := rfl
theorem k116_53 : px_cod 116 53 = some ((.iload_n 3), 1, [], 3) := rfl
theorem k116_54 : px_cod 116 54 = some ((.iconst 1), 1, [], 1) := rfl
theorem k116_55 : px_cod 116 55 = some ((.aload 6), 2, [], 6) := rfl
theorem k116_57 : px_cod 116 57 = some ((.getfield 136), 3, [60, 3, 0, 0], 4) := rfl
theorem k116_60 : px_cod 116 60 = some (.iadd, 1, [], 0) := rfl
theorem k116_61 : px_cod 116 61 = some (.iadd, 1, [], 0) := rfl
theorem k116_62 : px_cod 116 62 = some ((.istore_n 3), 1, [], 3) := rfl
theorem k116_63 : px_cod 116 63 = some ((.iload_n 3), 1, [], 3) := rfl
theorem k116_64 : px_cod 116 64 = some ((.aload_n 0), 1, [], 0) := rfl
theorem k116_65 : px_cod 116 65 = some ((.getfield 19), 3, [171, 9, 4, 1], 5) := rfl
theorem k116_68 : px_cod 116 68 = some ((.iload 5), 2, [], 5) := rfl
theorem k116_70 : px_cod 116 70 = some ((.invokestatic 86), 3, [0, 153, 33], 0) := rfl
theorem k116_73 : px_cod 116 73 = some ((.if_icmp .le 5), 3, [78], 0) := rfl
theorem k116_76 : px_cod 116 76 = some ((.iconst 0), 1, [], 0) := rfl
theorem k116_77 : px_cod 116 77 = some (.ireturn, 1, [], 0) := rfl
theorem k116_78 : px_cod 116 78 = some ((.iinc 4 1), 3, [4], 1) := rfl
theorem k116_81 : px_cod 116 81 = some ((.goto (-76)), 3, [5], 0) := rfl
theorem k116_84 : px_cod 116 84 = some ((.iconst 1), 1, [], 1) := rfl
theorem k116_85 : px_cod 116 85 = some (.ireturn, 1, [], 0) := rfl
theorem k117_0 : px_cod 117 0 = some ((.iconst 1), 1, [], 1) := rfl
theorem k117_1 : px_cod 117 1 = some ((.istore_n 1), 1, [], 1) := rfl
theorem k117_2 : px_cod 117 2 = some ((.iload_n 1), 1, [], 1) := rfl
theorem k117_3 : px_cod 117 3 = some ((.bipush 20), 2, [], 20) := rfl
theorem k117_5 : px_cod 117 5 = some ((.if_icmp .gt 25), 3, [30], 0) := rfl
theorem k117_8 : px_cod 117 8 = some ((.aload_n 0), 1, [], 0) := rfl
theorem k117_9 : px_cod 117 9 = some ((.getfield 28), 3, [174, 9, 4, 1], 8) := rfl
theorem k117_12 : px_cod 117 12 = some ((.iload_n 1), 1, [], 1) := rfl
theorem k117_13 : px_cod 117 13 = some ((.aload_n 0), 1, [], 0) := rfl
theorem k117_14 : px_cod 117 14 = some ((.getfield 41), 3, [167, 9, 4, 1], 1) := rfl
theorem k117_17 : px_cod 117 17 = some ((.iload_n 1), 1, [], 1) := rfl
theorem k117_18 : px_cod 117 18 = some ((.invokevirtual 139), 3, [0, 173, 70], 0) := rfl
theorem k117_21 : px_cod 117 21 = some ((.invokestatic 90), 3, [0, 154, 34], 0) := rfl
theorem k117_24 : px_cod 117 24 = some ((.iinc 1 1), 3, [1], 1) := rfl
theorem k117_27 : px_cod 117 27 = some ((.goto (-25)), 3, [2], 0) := rfl
theorem k117_30 : px_cod 117 30 = some ((.iconst 1), 1, [], 1) := rfl
theorem k117_31 : px_cod 117 31 = some ((.iconst 0), 1, [], 0) := rfl
theorem k117_32 : px_cod 117 32 = some ((.bipush 7), 2, [], 7) := rfl
theorem k117_34 : px_cod 117 34 = some ((.aload_n 0), 1, [], 0) := rfl
theorem k117_35 : px_cod 117 35 = some ((.getfield 37), 3, [166, 9, 4, 1], 0) := rfl
theorem k117_38 : px_cod 117 38 = some ((.getfield 142), 3, [101, 4, 0, 0], 9) := rfl
theorem k117_41 : px_cod 117 41 = some ((.invokestatic 145), 3, [6, 25], 0) := rfl
theorem k117_44 : px_cod 117 44 = some ((.invokestatic 150), 3, [5, 26], 0) := rfl
theorem k117_47 : px_cod 117 47 = some (.ishl, 1, [], 0) := rfl
theorem k117_48 : px_cod 117 48 = some ((.istore_n 1), 1, [], 1) := rfl
theorem k117_49 : px_cod 117 49 = some ((.aload_n 0), 1, [], 0) := rfl
theorem k117_50 : px_cod 117 50 = some ((.getfield 34), 3, [176, 9, 4, 1], 10) := rfl
theorem k117_53 : px_cod 117 53 = some ((.iconst 0), 1, [], 0) := rfl
theorem k117_54 : px_cod 117 54 = some ((.iconst 0), 1, [], 0) := rfl
theorem k117_55 : px_cod 117 55 = some ((.invokestatic 90), 3, [0, 154, 34], 0) := rfl
theorem k117_58 : px_cod 117 58 = some ((.iconst 1), 1, [], 1) := rfl
theorem k117_59 : px_cod 117 59 = some ((.istore_n 2), 1, [], 2) := rfl
theorem k117_60 : px_cod 117 60 = some ((.iload_n 2), 1, [], 2) := rfl
theorem k117_61 : px_cod 117 61 = some ((.iload_n 1), 1, [], 1) := rfl
theorem k117_62 : px_cod 117 62 = some ((.if_icmp .ge 35), 3, [97], 0) := rfl
theorem k117_65 : px_cod 117 65 = some ((.aload_n 0), 1, [], 0) := rfl
theorem k117_66 : px_cod 117 66 = some ((.getfield 31), 3, [175, 9, 4, 1], 9) := rfl
theorem k117_69 : px_cod 117 69 = some ((.iload_n 2), 1, [], 2) := rfl
theorem k117_70 : px_cod 117 70 = some ((.aload_n 0), 1, [], 0) := rfl
theorem k117_71 : px_cod 117 71 = some ((.iload_n 2), 1, [], 2) := rfl
theorem k117_72 : px_cod 117 72 = some ((.invokevirtual 153), 3, [0, 174, 118], 0) := rfl
theorem k117_75 : px_cod 117 75 = some ((.invokestatic 90), 3, [0, 154, 34], 0) := rfl
theorem k117_78 : px_cod 117 78 = some ((.aload_n 0), 1, [], 0) := rfl
theorem k117_79 : px_cod 117 79 = some ((.getfield 34), 3, [176, 9, 4, 1], 10) := rfl
theorem k117_82 : px_cod 117 82 = some ((.iload_n 2), 1, [], 2) := rfl
theorem k117_83 : px_cod 117 83 = some ((.aload_n 0), 1, [], 0) := rfl
theorem k117_84 : px_cod 117 84 = some ((.iload_n 2), 1, [], 2) := rfl
theorem k117_85 : px_cod 117 85 = some ((.invokevirtual 156), 3, [0, 175, 119], 0) := rfl
theorem k117_88 : px_cod 117 88 = some ((.invokestatic 90), 3, [0, 154, 34], 0) := rfl
theorem k117_91 : px_cod 117 91 = some ((.iinc 2 1), 3, [2], 1) := rfl
theorem k117_94 : px_cod 117 94 = some ((.goto (-34)), 3, [60], 0) := rfl
theorem k117_97 : px_cod 117 97 = some ((.aload_n 0), 1, [], 0) := rfl
theorem k117_98 : px_cod 117 98 = some ((.getfield 34), 3, [176, 9, 4, 1], 10) := rfl
theorem k117_101 : px_cod 117 101 = some ((.iload_n 1), 1, [], 1) := rfl
theorem k117_102 : px_cod 117 102 = some ((.iconst 1), 1, [], 1) := rfl
theorem k117_103 : px_cod 117 103 = some (.isub, 1, [], 0) := rfl
theorem k117_104 : px_cod 117 104 = some ((.invokestatic 86), 3, [0, 153, 33], 0) := rfl
theorem k117_107 : px_cod 117 107 = some ((.istore_n 2), 1, [], 2) := rfl
theorem k117_108 : px_cod 117 108 = some ((.iload_n 2), 1, [], 2) := rfl
theorem k117_109 : px_cod 117 109 = some ((.sipush 1000), 3, [], 1000) := rfl
theorem k117_112 : px_cod 117 112 = some ((.if_icmp .ge 7), 3, [119], 0) := rfl
theorem k117_115 : px_cod 117 115 = some ((.iload_n 2), 1, [], 2) := rfl
theorem k117_116 : px_cod 117 116 = some ((.goto 4), 3, [120], 0) := rfl
theorem k117_119 : px_cod 117 119 = some ((.iconst (-1)), 1, [], (-1)) := rfl
theorem k117_120 : px_cod 117 120 = some (.ireturn, 1, [], 0) := rfl
theorem k118_0 : px_cod 118 0 = some ((.iconst 0), 1, [], 0) := rfl
theorem k118_1 : px_cod 118 1 = some ((.istore_n 2), 1, [], 2) := rfl
theorem k118_2 : px_cod 118 2 = some ((.iconst 0), 1, [], 0) := rfl
theorem k118_3 : px_cod 118 3 = some ((.istore_n 3), 1, [], 3) := rfl
theorem k118_4 : px_cod 118 4 = some ((.iload_n 3), 1, [], 3) := rfl
theorem k118_5 : px_cod 118 5 = some ((.aload_n 0), 1, [], 0) := rfl
theorem k118_6 : px_cod 118 6 = some ((.getfield 37), 3, [166, 9, 4, 1], 0) := rfl
theorem k118_9 : px_cod 118 9 = some ((.getfield 142), 3, [101, 4, 0, 0], 9) := rfl
theorem k118_12 : px_cod 118 12 = some ((.if_icmp .ge 35), 3, [47], 0) := rfl
theorem k118_15 : px_cod 118 15 = some ((.iload_n 2), 1, [], 2) := rfl
theorem k118_16 : px_cod 118 16 = some ((.iload_n 1), 1, [], 1) := rfl
theorem k118_17 : px_cod 118 17 = some ((.iload_n 3), 1, [], 3) := rfl
theorem k118_18 : px_cod 118 18 = some ((.invokestatic 72), 3, [0, 157, 32], 0) := rfl
theorem k118_21 : px_cod 118 21 = some ((.ifCond .eq 17), 3, [38], 0) := rfl
theorem k118_24 : px_cod 118 24 = some ((.aload_n 0), 1, [], 0) := rfl
theorem k118_25 : px_cod 118 25 = some ((.getfield 37), 3, [166, 9, 4, 1], 0) := rfl
theorem k118_28 : px_cod 118 28 = some ((.getfield 159), 3, [108, 4, 4, 1], 12) := rfl
theorem k118_31 : px_cod 118 31 = some ((.iload_n 3), 1, [], 3) := rfl
theorem k118_32 : px_cod 118 32 = some ((.invokestatic 86), 3, [0, 153, 33], 0) := rfl
theorem k118_35 : px_cod 118 35 = some ((.goto 4), 3, [39], 0) := rfl
theorem k118_38 : px_cod 118 38 = some ((.iconst 0), 1, [], 0) := rfl
theorem k118_39 : px_cod 118 39 = some (.iadd, 1, [], 0) := rfl
theorem k118_40 : px_cod 118 40 = some ((.istore_n 2), 1, [], 2) := rfl
theorem k118_41 : px_cod 118 41 = some ((.iinc 3 1), 3, [3], 1) := rfl
theorem k118_44 : px_cod 118 44 = some ((.goto (-40)), 3, [4], 0) := rfl
theorem k118_47 : px_cod 118 47 = some ((.iconst 1), 1, [], 1) := rfl
theorem k118_48 : px_cod 118 48 = some ((.istore_n 3), 1, [], 3) := rfl
theorem k118_49 : px_cod 118 49 = some ((.iload_n 3), 1, [], 3) := rfl
theorem k118_50 : px_cod 118 50 = some ((.bipush 20), 2, [], 20) := rfl
theorem k118_52 : px_cod 118 52 = some ((.if_icmp .gt 23), 3, [75], 0) := rfl
theorem k118_55 : px_cod 118 55 = some ((.aload_n 0), 1, [], 0) := rfl
theorem k118_56 : px_cod 118 56 = some ((.getfield 28), 3, [174, 9, 4, 1], 8) := rfl
theorem k118_59 : px_cod 118 59 = some ((.iload_n 3), 1, [], 3) := rfl
theorem k118_60 : px_cod 118 60 = some ((.invokestatic 86), 3, [0, 153, 33], 0) := rfl
theorem k118_63 : px_cod 118 63 = some ((.iload_n 2), 1, [], 2) := rfl
theorem k118_64 : px_cod 118 64 = some ((.if_icmp .lt 5), 3, [69], 0) := rfl
theorem k118_67 : px_cod 118 67 = some ((.iload_n 3), 1, [], 3) := rfl
theorem k118_68 : px_cod 118 68 = some (.ireturn, 1, [], 0) := rfl
theorem k118_69 : px_cod 118 69 = some ((.iinc 3 1), 3, [3], 1) := rfl
theorem k118_72 : px_cod 118 72 = some ((.goto (-23)), 3, [49], 0) := rfl
theorem k118_75 : px_cod 118 75 = some ((.sipush 1000), 3, [], 1000) := rfl
theorem k118_78 : px_cod 118 78 = some (.ireturn, 1, [], 0) := rfl
theorem k119_0 : px_cod 119 0 = some ((.iload_n 1), 1, [], 1) := rfl
theorem k119_1 : px_cod 119 1 = some ((.iload_n 1), 1, [], 1) := rfl
theorem k119_2 : px_cod 119 2 = some (.ineg, 1, [], 0) := rfl
theorem k119_3 : px_cod 119 3 = some (.iand, 1, [], 0) := rfl
theorem k119_4 : px_cod 119 4 = some ((.istore_n 2), 1, [], 2) := rfl
theorem k119_5 : px_cod 119 5 = some ((.sipush 1000), 3, [], 1000) := rfl
theorem k119_8 : px_cod 119 8 = some ((.istore_n 3), 1, [], 3) := rfl
theorem k119_9 : px_cod 119 9 = some ((.iconst 1), 1, [], 1) := rfl
theorem k119_10 : px_cod 119 10 = some ((.istore 4), 2, [], 4) := rfl
theorem k119_12 : px_cod 119 12 = some ((.iload 4), 2, [], 4) := rfl
theorem k119_14 : px_cod 119 14 = some ((.iload_n 1), 1, [], 1) := rfl
theorem k119_15 : px_cod 119 15 = some ((.if_icmp .gt 53), 3, [68], 0) := rfl
theorem k119_18 : px_cod 119 18 = some ((.iload 4), 2, [], 4) := rfl
theorem k119_20 : px_cod 119 20 = some ((.iload_n 1), 1, [], 1) := rfl
theorem k119_21 : px_cod 119 21 = some ((.iconst (-1)), 1, [], (-1)) := rfl
theorem k119_22 : px_cod 119 22 = some (.ixor, 1, [], 0) := rfl
theorem k119_23 : px_cod 119 23 = some (.iand, 1, [], 0) := rfl
theorem k119_24 : px_cod 119 24 = some ((.ifCond .ne 38), 3, [62], 0) := rfl
theorem k119_27 : px_cod 119 27 = some ((.iload 4), 2, [], 4) := rfl
theorem k119_29 : px_cod 119 29 = some ((.iload_n 2), 1, [], 2) := rfl
theorem k119_30 : px_cod 119 30 = some (.iand, 1, [], 0) := rfl
theorem k119_31 : px_cod 119 31 = some ((.ifCond .eq 31), 3, [62], 0) := rfl
theorem k119_34 : px_cod 119 34 = some ((.iload_n 3), 1, [], 3) := rfl
theorem k119_35 : px_cod 119 35 = some ((.aload_n 0), 1, [], 0) := rfl
theorem k119_36 : px_cod 119 36 = some ((.getfield 31), 3, [175, 9, 4, 1], 9) := rfl
theorem k119_39 : px_cod 119 39 = some ((.iload 4), 2, [], 4) := rfl
theorem k119_41 : px_cod 119 41 = some ((.invokestatic 86), 3, [0, 153, 33], 0) := rfl
theorem k119_44 : px_cod 119 44 = some ((.aload_n 0), 1, [], 0) := rfl
theorem k119_45 : px_cod 119 45 = some ((.getfield 34), 3, [176, 9, 4, 1], 10) := rfl
theorem k119_48 : px_cod 119 48 = some ((.iload_n 1), 1, [], 1) := rfl
theorem k119_49 : px_cod 119 49 = some ((.iload 4), 2, [], 4) := rfl
theorem k119_51 : px_cod 119 51 = some ((.iconst (-1)), 1, [], (-1)) := rfl
theorem k119_52 : px_cod 119 52 = some (.ixor, 1, [], 0) := rfl
theorem k119_53 : px_cod 119 53 = some (.iand, 1, [], 0) := rfl
theorem k119_54 : px_cod 119 54 = some ((.invokestatic 86), 3, [0, 153, 33], 0) := rfl
theorem k119_57 : px_cod 119 57 = some (.iadd, 1, [], 0) := rfl
theorem k119_58 : px_cod 119 58 = some ((.invokestatic 145), 3, [6, 25], 0) := rfl
theorem k119_61 : px_cod 119 61 = some ((.istore_n 3), 1, [], 3) := rfl
theorem k119_62 : px_cod 119 62 = some ((.iinc 4 1), 3, [4], 1) := rfl
theorem k119_65 : px_cod 119 65 = some ((.goto (-53)), 3, [12], 0) := rfl
theorem k119_68 : px_cod 119 68 = some ((.iload_n 3), 1, [], 3) := rfl
theorem k119_69 : px_cod 119 69 = some (.ireturn, 1, [], 0) := rfl
theorem k121_0 : px_cod 121 0 = some ((.aload_n 0), 1, [], 0) := rfl
theorem k121_1 : px_cod 121 1 = some ((.getfield 38), 3, [150, 10, 4, 1], 1) := rfl
theorem k121_4 : px_cod 121 4 = some ((.iload_n 1), 1, [], 1) := rfl
theorem k121_5 : px_cod 121 5 = some ((.invokevirtual 42), 3, [0, 80, 66], 0) := rfl
theorem k121_8 : px_cod 121 8 = some ((.aload_n 0), 1, [], 0) := rfl
theorem k121_9 : px_cod 121 9 = some (.dup, 1, [], 0) := rfl
theorem k121_10 : px_cod 121 10 = some ((.getfield 27), 3, [156, 10, 0, 0], 7) := rfl
theorem k121_13 : px_cod 121 13 = some ((.iconst 1), 1, [], 1) := rfl
theorem k121_14 : px_cod 121 14 = some (.iadd, 1, [], 0) := rfl
theorem k121_15 : px_cod 121 15 = some ((.putfield 27), 3, [156, 10, 0, 0], 7) := rfl
theorem k121_18 : px_cod 121 18 = some (.return_, 1, [], 0) := rfl
theorem k122_0 : px_cod 122 0 = some ((.aload_n 0), 1, [], 0) := rfl
theorem k122_1 : px_cod 122 1 = some ((.getfield 9), 3, [151, 10, 4, 1], 2) := rfl
theorem k122_4 : px_cod 122 4 = some ((.iconst 0), 1, [], 0) := rfl
theorem k122_5 : px_cod 122 5 = some ((.invokestatic 48), 3, [0, 84, 241], 0) := rfl
theorem k122_8 : px_cod 122 8 = some ((.aload_n 0), 1, [], 0) := rfl
theorem k122_9 : px_cod 122 9 = some ((.getfield 15), 3, [152, 10, 4, 1], 3) := rfl
theorem k122_12 : px_cod 122 12 = some ((.iconst (-1)), 1, [], (-1)) := rfl
theorem k122_13 : px_cod 122 13 = some ((.invokestatic 48), 3, [0, 84, 241], 0) := rfl
theorem k122_16 : px_cod 122 16 = some ((.iconst 0), 1, [], 0) := rfl
theorem k122_17 : px_cod 122 17 = some ((.istore_n 2), 1, [], 2) := rfl
theorem k122_18 : px_cod 122 18 = some ((.iload_n 2), 1, [], 2) := rfl
theorem k122_19 : px_cod 122 19 = some ((.aload_n 0), 1, [], 0) := rfl
theorem k122_20 : px_cod 122 20 = some ((.getfield 34), 3, [149, 10, 4, 1], 0) := rfl
theorem k122_23 : px_cod 122 23 = some ((.getfield 54), 3, [93, 4, 0, 0], 6) := rfl
theorem k122_26 : px_cod 122 26 = some ((.if_icmp .ge 66), 3, [92], 0) := rfl
theorem k122_29 : px_cod 122 29 = some ((.aload_n 0), 1, [], 0) := rfl
theorem k122_30 : px_cod 122 30 = some ((.getfield 34), 3, [149, 10, 4, 1], 0) := rfl
theorem k122_33 : px_cod 122 33 = some ((.getfield 59), 3, [111, 4, 4, 1], 13) := rfl
theorem k122_36 : px_cod 122 36 = some ((.iload_n 2), 1, [], 2) := rfl
theorem k122_37 : px_cod 122 37 = some ((.invokestatic 62), 3, [0, 85, 33], 0) := rfl
theorem k122_40 : px_cod 122 40 = some ((.istore_n 3), 1, [], 3) := rfl
theorem k122_41 : px_cod 122 41 = some ((.iload_n 1), 1, [], 1) := rfl
theorem k122_42 : px_cod 122 42 = some ((.iload_n 3), 1, [], 3) := rfl
theorem k122_43 : px_cod 122 43 = some ((.invokestatic 66), 3, [0, 86, 32], 0) := rfl
theorem k122_46 : px_cod 122 46 = some ((.ifCond .eq 40), 3, [86], 0) := rfl
theorem k122_49 : px_cod 122 49 = some ((.aload_n 0), 1, [], 0) := rfl
theorem k122_50 : px_cod 122 50 = some ((.iload_n 3), 1, [], 3) := rfl
theorem k122_51 : px_cod 122 51 = some ((.invokevirtual 70), 3, [0, 87, 124], 0) := rfl
theorem k122_54 : px_cod 122 54 = some ((.istore 4), 2, [], 4) := rfl
theorem k122_56 : px_cod 122 56 = some ((.aload_n 0), 1, [], 0) := rfl
theorem k122_57 : px_cod 122 57 = some ((.getfield 15), 3, [152, 10, 4, 1], 3) := rfl
theorem k122_60 : px_cod 122 60 = some ((.iload_n 3), 1, [], 3) := rfl
theorem k122_61 : px_cod 122 61 = some ((.iload 4), 2, [], 4) := rfl
theorem k122_63 : px_cod 122 63 = some ((.invokestatic 74), 3, [0, 92, 34], 0) := rfl
theorem k122_66 : px_cod 122 66 = some ((.aload_n 0), 1, [], 0) := rfl
theorem k122_67 : px_cod 122 67 = some ((.getfield 9), 3, [151, 10, 4, 1], 2) := rfl
theorem k122_70 : px_cod 122 70 = some ((.iload 4), 2, [], 4) := rfl
theorem k122_72 : px_cod 122 72 = some ((.aload_n 0), 1, [], 0) := rfl
theorem k122_73 : px_cod 122 73 = some ((.getfield 9), 3, [151, 10, 4, 1], 2) := rfl
theorem k122_76 : px_cod 122 76 = some ((.iload 4), 2, [], 4) := rfl
theorem k122_78 : px_cod 122 78 = some ((.invokestatic 62), 3, [0, 85, 33], 0) := rfl
theorem k122_81 : px_cod 122 81 = some ((.iconst 1), 1, [], 1) := rfl
theorem k122_82 : px_cod 122 82 = some (.iadd, 1, [], 0) := rfl
theorem k122_83 : px_cod 122 83 = some ((.invokestatic 74), 3, [0, 92, 34], 0) := rfl
theorem k122_86 : px_cod 122 86 = some ((.iinc 2 1), 3, [2], 1) := rfl
theorem k122_89 : px_cod 122 89 = some ((.goto (-71)), 3, [18], 0) := rfl
theorem k122_92 : px_cod 122 92 = some (.return_, 1, [], 0) := rfl
theorem k123_0 : px_cod 123 0 = some ((.aload_n 0), 1, [], 0) := rfl
theorem k123_1 : px_cod 123 1 = some ((.getfield 15), 3, [152, 10, 4, 1], 3) := rfl
theorem k123_4 : px_cod 123 4 = some ((.iload_n 1), 1, [], 1) := rfl
theorem k123_5 : px_cod 123 5 = some ((.invokestatic 62), 3, [0, 85, 33], 0) := rfl
theorem k123_8 : px_cod 123 8 = some (.ireturn, 1, [], 0) := rfl
theorem k124_0 : px_cod 124 0 = some ((.iconst (-1)), 1, [], (-1)) := rfl
theorem k124_1 : px_cod 124 1 = some ((.istore_n 2), 1, [], 2) := rfl
theorem k124_2 : px_cod 124 2 = some ((.iconst 0), 1, [], 0) := rfl
theorem k124_3 : px_cod 124 3 = some ((.istore_n 3), 1, [], 3) := rfl
theorem k124_4 : px_cod 124 4 = some ((.iconst 0), 1, [], 0) := rfl
theorem k124_5 : px_cod 124 5 = some ((.istore 4), 2, [], 4) := rfl
theorem k124_7 : px_cod 124 7 = some ((.iload 4), 2, [], 4) := rfl
theorem k124_9 : px_cod 124 9 = some ((.aload_n 0), 1, [], 0) := rfl
theorem k124_10 : px_cod 124 10 = some ((.getfield 34), 3, [149, 10, 4, 1], 0) := rfl
theorem k124_13 : px_cod 124 13 = some ((.getfield 78), 3, [89, 4, 0, 0], 5) := rfl
theorem k124_16 : px_cod 124 16 = some ((.if_icmp .ge 75), 3, [91], 0) := rfl
theorem k124_19 : px_cod 124 19 = some ((.aload_n 0), 1, [], 0) := rfl
theorem k124_20 : px_cod 124 20 = some ((.getfield 9), 3, [151, 10, 4, 1], 2) := rfl
theorem k124_23 : px_cod 124 23 = some ((.iload 4), 2, [], 4) := rfl
theorem k124_25 : px_cod 124 25 = some ((.invokestatic 62), 3, [0, 85, 33], 0) := rfl
theorem k124_28 : px_cod 124 28 = some ((.istore 5), 2, [], 5) := rfl
theorem k124_30 : px_cod 124 30 = some ((.iload 5), 2, [], 5) := rfl
theorem k124_32 : px_cod 124 32 = some ((.aload_n 0), 1, [], 0) := rfl
theorem k124_33 : px_cod 124 33 = some ((.getfield 34), 3, [149, 10, 4, 1], 0) := rfl
theorem k124_36 : px_cod 124 36 = some ((.getfield 81), 3, [106, 4, 4, 1], 11) := rfl
theorem k124_39 : px_cod 124 39 = some ((.iload 4), 2, [], 4) := rfl
theorem k124_41 : px_cod 124 41 = some ((.invokestatic 62), 3, [0, 85, 33], 0) := rfl
theorem k124_44 : px_cod 124 44 = some ((.if_icmp .lt 6), 3, [50], 0) := rfl
theorem k124_47 : px_cod 124 47 = some ((.goto 38), 3, [85], 0) := rfl
theorem k124_50 : px_cod 124 50 = some ((.aload_n 0), 1, [], 0) := rfl
theorem k124_51 : px_cod 124 51 = some ((.iload_n 1), 1, [], 1) := rfl
theorem k124_52 : px_cod 124 52 = some ((.iload 4), 2, [], 4) := rfl
theorem k124_54 : px_cod 124 54 = some ((.iload 5), 2, [], 5) := rfl
theorem k124_56 : px_cod 124 56 = some ((.invokevirtual 84), 3, [0, 88, 125], 0) := rfl
theorem k124_59 : px_cod 124 59 = some ((.istore 6), 2, [], 6) := rfl
theorem k124_61 : px_cod 124 61 = some ((.iload 6), 2, [], 6) := rfl
theorem k124_63 : px_cod 124 63 = some ((.ldc 88), 2, [0, 4], (-2000000)) := rfl
theorem k124_65 : px_cod 124 65 = some ((.if_icmp .eq 20), 3, [85], 0) := rfl
theorem k124_68 : px_cod 124 68 = some ((.iload_n 2), 1, [], 2) := rfl
theorem k124_69 : px_cod 124 69 = some ((.iconst (-1)), 1, [], (-1)) := rfl
theorem k124_70 : px_cod 124 70 = some ((.if_icmp .eq 9), 3, [79], 0) := rfl
theorem k124_73 : px_cod 124 73 = some ((.iload 6), 2, [], 6) := rfl
theorem k124_75 : px_cod 124 75 = some ((.iload_n 3), 1, [], 3) := rfl
theorem k124_76 : px_cod 124 76 = some ((.if_icmp .le 9), 3, [85], 0) := rfl
theorem k124_79 : px_cod 124 79 = some ((.iload 4), 2, [], 4) := rfl
theorem k124_81 : px_cod 124 81 = some ((.istore_n 2), 1, [], 2) := rfl
theorem k124_82 : px_cod 124 82 = some ((.iload 6), 2, [], 6) := rfl
theorem k124_84 : px_cod 124 84 = some ((.istore_n 3), 1, [], 3) := rfl
theorem k124_85 : px_cod 124 85 = some ((.iinc 4 1), 3, [4], 1) := rfl
theorem k124_88 : px_cod 124 88 = some ((.goto (-81)), 3, [7], 0) := rfl
theorem k124_91 : px_cod 124 91 = some ((.iload_n 2), 1, [], 2) := rfl
theorem k124_92 : px_cod 124 92 = some (.ireturn, 1, [], 0) := rfl
theorem k125_0 : px_cod 125 0 = some ((.iload_n 1), 1, [], 1) := rfl
theorem k125_1 : px_cod 125 1 = some ((.bipush 8), 2, [], 8) := rfl
theorem k125_3 : px_cod 125 3 = some (.imul, 1, [], 0) := rfl
theorem k125_4 : px_cod 125 4 = some ((.iload_n 2), 1, [], 2) := rfl
theorem k125_5 : px_cod 125 5 = some (.iadd, 1, [], 0) := rfl
theorem k125_6 : px_cod 125 6 = some ((.iconst 4), 1, [], 4) := rfl
theorem k125_7 : px_cod 125 7 = some (.imul, 1, [], 0) := rfl
theorem k125_8 : px_cod 125 8 = some ((.iload_n 3), 1, [], 3) := rfl
theorem k125_9 : px_cod 125 9 = some (.iadd, 1, [], 0) := rfl
theorem k125_10 : px_cod 125 10 = some ((.istore 4), 2, [], 4) := rfl
theorem k125_12 : px_cod 125 12 = some ((.aload_n 0), 1, [], 0) := rfl
theorem k125_13 : px_cod 125 13 = some ((.getfield 24), 3, [155, 10, 4, 1], 6) := rfl
theorem k125_16 : px_cod 125 16 = some ((.iload 4), 2, [], 4) := rfl
theorem k125_18 : px_cod 125 18 = some ((.invokestatic 62), 3, [0, 85, 33], 0) := rfl
theorem k125_21 : px_cod 125 21 = some ((.aload_n 0), 1, [], 0) := rfl
theorem k125_22 : px_cod 125 22 = some ((.getfield 27), 3, [156, 10, 0, 0], 7) := rfl
theorem k125_25 : px_cod 125 25 = some ((.if_icmp .eq 35), 3, [60], 0) := rfl
theorem k125_28 : px_cod 125 28 = some ((.aload_n 0), 1, [], 0) := rfl
theorem k125_29 : px_cod 125 29 = some ((.getfield 21), 3, [154, 10, 4, 1], 5) := rfl
theorem k125_32 : px_cod 125 32 = some ((.iload 4), 2, [], 4) := rfl
theorem k125_34 : px_cod 125 34 = some ((.aload_n 0), 1, [], 0) := rfl
theorem k125_35 : px_cod 125 35 = some ((.getfield 38), 3, [150, 10, 4, 1], 1) := rfl
theorem k125_38 : px_cod 125 38 = some ((.iload_n 1), 1, [], 1) := rfl
theorem k125_39 : px_cod 125 39 = some ((.iload_n 2), 1, [], 2) := rfl
theorem k125_40 : px_cod 125 40 = some ((.iload_n 3), 1, [], 3) := rfl
theorem k125_41 : px_cod 125 41 = some ((.invokevirtual 89), 3, [0, 89, 67], 0) := rfl
theorem k125_44 : px_cod 125 44 = some ((.invokestatic 74), 3, [0, 92, 34], 0) := rfl
theorem k125_47 : px_cod 125 47 = some ((.aload_n 0), 1, [], 0) := rfl
theorem k125_48 : px_cod 125 48 = some ((.getfield 24), 3, [155, 10, 4, 1], 6) := rfl
theorem k125_51 : px_cod 125 51 = some ((.iload 4), 2, [], 4) := rfl
theorem k125_53 : px_cod 125 53 = some ((.aload_n 0), 1, [], 0) := rfl
theorem k125_54 : px_cod 125 54 = some ((.getfield 27), 3, [156, 10, 0, 0], 7) := rfl
theorem k125_57 : px_cod 125 57 = some ((.invokestatic 74), 3, [0, 92, 34], 0) := rfl
theorem k125_60 : px_cod 125 60 = some ((.aload_n 0), 1, [], 0) := rfl
theorem k125_61 : px_cod 125 61 = some ((.getfield 21), 3, [154, 10, 4, 1], 5) := rfl
theorem k125_64 : px_cod 125 64 = some ((.iload 4), 2, [], 4) := rfl
theorem k125_66 : px_cod 125 66 = some ((.invokestatic 62), 3, [0, 85, 33], 0) := rfl
theorem k125_69 : px_cod 125 69 = some (.ireturn, 1, [], 0) := rfl
theorem k126_0 : px_cod 126 0 = some ((.aload_n 0), 1, [], 0) := rfl
theorem k126_1 : px_cod 126 1 = some ((.getfield 34), 3, [149, 10, 4, 1], 0) := rfl
theorem k126_4 : px_cod 126 4 = some ((.getfield 92), 3, [78, 4, 4, 1], 2) := rfl
theorem k126_7 : px_cod 126 7 = some ((.astore 4), 2, [], 4) := rfl
theorem k126_9 : px_cod 126 9 = some ((.aload_n 0), 1, [], 0) := rfl
theorem k126_10 : px_cod 126 10 = some ((.getfield 34), 3, [149, 10, 4, 1], 0) := rfl
theorem k126_13 : px_cod 126 13 = some ((.invokevirtual 96), 3, [0, 96, 57], 0) := rfl
theorem k126_16 : px_cod 126 16 = some ((.istore 5), 2, [], 5) := rfl
theorem k126_18 : px_cod 126 18 = some ((.aload 4), 2, [], 4) := rfl
theorem k126_20 : px_cod 126 20 = some ((.iload 5), 2, [], 5) := rfl
theorem k126_22 : px_cod 126 22 = some ((.invokevirtual 100), 3, [0, 97, 85], 0) := rfl
theorem k126_25 : px_cod 126 25 = some ((.iload_n 1), 1, [], 1) := rfl
theorem k126_26 : px_cod 126 26 = some ((.istore 6), 2, [], 6) := rfl
theorem k126_28 : px_cod 126 28 = some ((.iload_n 1), 1, [], 1) := rfl
theorem k126_29 : px_cod 126 29 = some ((.istore 7), 2, [], 7) := rfl
theorem k126_31 : px_cod 126 31 = some ((.iload 7), 2, [], 7) := rfl
theorem k126_33 : px_cod 126 33 = some ((.iload_n 2), 1, [], 2) := rfl
theorem k126_34 : px_cod 126 34 = some ((.if_icmp .gt 48), 3, [82], 0) := rfl
theorem k126_37 : px_cod 126 37 = some ((.iload 7), 2, [], 7) := rfl
theorem k126_39 : px_cod 126 39 = some ((.iload 6), 2, [], 6) := rfl
theorem k126_41 : px_cod 126 41 = some ((.if_icmp .ne 27), 3, [68], 0) := rfl
theorem k126_44 : px_cod 126 44 = some ((.aload_n 0), 1, [], 0) := rfl
theorem k126_45 : px_cod 126 45 = some ((.iload 7), 2, [], 7) := rfl
theorem k126_47 : px_cod 126 47 = some ((.invokevirtual 105), 3, [0, 99, 121], 0) := rfl
theorem k126_50 : px_cod 126 50 = some ((.aload_n 0), 1, [], 0) := rfl
theorem k126_51 : px_cod 126 51 = some ((.iload 5), 2, [], 5) := rfl
theorem k126_53 : px_cod 126 53 = some ((.invokevirtual 108), 3, [0, 100, 122], 0) := rfl
theorem k126_56 : px_cod 126 56 = some ((.aload_n 0), 1, [], 0) := rfl
theorem k126_57 : px_cod 126 57 = some ((.aload 4), 2, [], 4) := rfl
theorem k126_59 : px_cod 126 59 = some ((.invokevirtual 111), 3, [0, 101, 127], 0) := rfl
theorem k126_62 : px_cod 126 62 = some ((.iload 6), 2, [], 6) := rfl
theorem k126_64 : px_cod 126 64 = some ((.iload_n 3), 1, [], 3) := rfl
theorem k126_65 : px_cod 126 65 = some (.iadd, 1, [], 0) := rfl
theorem k126_66 : px_cod 126 66 = some ((.istore 6), 2, [], 6) := rfl
theorem k126_68 : px_cod 126 68 = some ((.aload_n 0), 1, [], 0) := rfl
theorem k126_69 : px_cod 126 69 = some ((.aload 4), 2, [], 4) := rfl
theorem k126_71 : px_cod 126 71 = some ((.iload 7), 2, [], 7) := rfl
theorem k126_73 : px_cod 126 73 = some ((.invokevirtual 115), 3, [0, 106, 129], 0) := rfl
theorem k126_76 : px_cod 126 76 = some ((.iinc 7 1), 3, [7], 1) := rfl
theorem k126_79 : px_cod 126 79 = some ((.goto (-48)), 3, [31], 0) := rfl
theorem k126_82 : px_cod 126 82 = some (.return_, 1, [], 0) := rfl
theorem k127_0 : px_cod 127 0 = some ((.iconst 0), 1, [], 0) := rfl
theorem k127_1 : px_cod 127 1 = some ((.istore_n 2), 1, [], 2) := rfl
theorem k127_2 : px_cod 127 2 = some ((.iload_n 2), 1, [], 2) := rfl
theorem k127_3 : px_cod 127 3 = some ((.aload_n 0), 1, [], 0) := rfl
theorem k127_4 : px_cod 127 4 = some ((.getfield 34), 3, [149, 10, 4, 1], 0) := rfl
theorem k127_7 : px_cod 127 7 = some ((.getfield 54), 3, [93, 4, 0, 0], 6) := rfl
theorem k127_10 : px_cod 127 10 = some ((.if_icmp .ge 93), 3, [103], 0) := rfl
theorem k127_13 : px_cod 127 13 = some ((.aload_n 1), 1, [], 1) := rfl
theorem k127_14 : px_cod 127 14 = some ((.getfield 119), 3, [17, 7, 0, 0], 2) := rfl
theorem k127_17 : px_cod 127 17 = some ((.iload_n 2), 1, [], 2) := rfl
theorem k127_18 : px_cod 127 18 = some ((.invokestatic 66), 3, [0, 86, 32], 0) := rfl
theorem k127_21 : px_cod 127 21 = some ((.ifCond .eq 76), 3, [97], 0) := rfl
theorem k127_24 : px_cod 127 24 = some ((.aload_n 1), 1, [], 1) := rfl
theorem k127_25 : px_cod 127 25 = some ((.getfield 122), 3, [11, 7, 0, 0], 0) := rfl
theorem k127_28 : px_cod 127 28 = some ((.ifCond .le 40), 3, [68], 0) := rfl
theorem k127_31 : px_cod 127 31 = some ((.aload_n 0), 1, [], 0) := rfl
theorem k127_32 : px_cod 127 32 = some ((.getfield 18), 3, [153, 10, 4, 1], 4) := rfl
theorem k127_35 : px_cod 127 35 = some ((.iload_n 2), 1, [], 2) := rfl
theorem k127_36 : px_cod 127 36 = some ((.invokestatic 62), 3, [0, 85, 33], 0) := rfl
theorem k127_39 : px_cod 127 39 = some ((.aload_n 0), 1, [], 0) := rfl
theorem k127_40 : px_cod 127 40 = some ((.getfield 15), 3, [152, 10, 4, 1], 3) := rfl
theorem k127_43 : px_cod 127 43 = some ((.iload_n 2), 1, [], 2) := rfl
theorem k127_44 : px_cod 127 44 = some ((.invokestatic 62), 3, [0, 85, 33], 0) := rfl
theorem k127_47 : px_cod 127 47 = some ((.if_icmp .eq 21), 3, [68], 0) := rfl
theorem k127_50 : px_cod 127 50 = some ((.aload_n 1), 1, [], 1) := rfl
theorem k127_51 : px_cod 127 51 = some ((.getfield 125), 3, [27, 7, 4, 1], 5) := rfl
theorem k127_54 : px_cod 127 54 = some ((.iload_n 2), 1, [], 2) := rfl
theorem k127_55 : px_cod 127 55 = some ((.aload_n 1), 1, [], 1) := rfl
theorem k127_56 : px_cod 127 56 = some ((.getfield 125), 3, [27, 7, 4, 1], 5) := rfl
theorem k127_59 : px_cod 127 59 = some ((.iload_n 2), 1, [], 2) := rfl
theorem k127_60 : px_cod 127 60 = some ((.invokestatic 62), 3, [0, 85, 33], 0) := rfl
theorem k127_63 : px_cod 127 63 = some ((.iconst 1), 1, [], 1) := rfl
theorem k127_64 : px_cod 127 64 = some (.iadd, 1, [], 0) := rfl
theorem k127_65 : px_cod 127 65 = some ((.invokestatic 74), 3, [0, 92, 34], 0) := rfl
theorem k127_68 : px_cod 127 68 = some ((.aload_n 1), 1, [], 1) := rfl
theorem k127_69 : px_cod 127 69 = some ((.iload_n 2), 1, [], 2) := rfl
theorem k127_70 : px_cod 127 70 = some ((.aload_n 0), 1, [], 0) := rfl
theorem k127_71 : px_cod 127 71 = some ((.getfield 15), 3, [152, 10, 4, 1], 3) := rfl
theorem k127_74 : px_cod 127 74 = some ((.iload_n 2), 1, [], 2) := rfl
theorem k127_75 : px_cod 127 75 = some ((.invokestatic 62), 3, [0, 85, 33], 0) := rfl
theorem k127_78 : px_cod 127 78 = some ((.invokevirtual 128), 3, [0, 102, 86], 0) := rfl
theorem k127_81 : px_cod 127 81 = some ((.aload_n 0), 1, [], 0) := rfl
theorem k127_82 : px_cod 127 82 = some ((.getfield 18), 3, [153, 10, 4, 1], 4) := rfl
theorem k127_85 : px_cod 127 85 = some ((.iload_n 2), 1, [], 2) := rfl
theorem k127_86 : px_cod 127 86 = some ((.aload_n 0), 1, [], 0) := rfl
theorem k127_87 : px_cod 127 87 = some ((.getfield 15), 3, [152, 10, 4, 1], 3) := rfl
theorem k127_90 : px_cod 127 90 = some ((.iload_n 2), 1, [], 2) := rfl
theorem k127_91 : px_cod 127 91 = some ((.invokestatic 62), 3, [0, 85, 33], 0) := rfl
theorem k127_94 : px_cod 127 94 = some ((.invokestatic 74), 3, [0, 92, 34], 0) := rfl
theorem k127_97 : px_cod 127 97 = some ((.iinc 2 1), 3, [2], 1) := rfl
theorem k127_100 : px_cod 127 100 = some ((.goto (-98)), 3, [2], 0) := rfl
theorem k127_103 : px_cod 127 103 = some ((.aload_n 1), 1, [], 1) := rfl
theorem k127_104 : px_cod 127 104 = some (.dup, 1, [], 0) := rfl
theorem k127_105 : px_cod 127 105 = some ((.getfield 132), 3, [14, 7, 0, 0], 1) := rfl
theorem k127_108 : px_cod 127 108 = some ((.aload_n 0), 1, [], 0) := rfl
theorem k127_109 : px_cod 127 109 = some ((.aload_n 1), 1, [], 1) := rfl
theorem k127_110 : px_cod 127 110 = some ((.getfield 119), 3, [17, 7, 0, 0], 2) := rfl
theorem k127_113 : px_cod 127 113 = some ((.invokevirtual 135), 3, [0, 104, 128], 0) := rfl
theorem k127_116 : px_cod 127 116 = some (.iadd, 1, [], 0) := rfl
theorem k127_117 : px_cod 127 117 = some ((.putfield 132), 3, [14, 7, 0, 0], 1) := rfl
theorem k127_120 : px_cod 127 120 = some ((.aload_n 1), 1, [], 1) := rfl
theorem k127_121 : px_cod 127 121 = some (.dup, 1, [], 0) := rfl
theorem k127_122 : px_cod 127 122 = some ((.getfield 122), 3, [11, 7, 0, 0], 0) := rfl
theorem k127_125 : px_cod 127 125 = some ((.iconst 1), 1, [], 1) := rfl
theorem k127_126 : px_cod 127 126 = some (.iadd, 1, [], 0) := rfl
theorem k127_127 : px_cod 127 127 = some ((.putfield 122), 3, [11, 7, 0, 0], 0) := rfl
theorem k127_130 : px_cod 127 130 = some (.return_, 1, [], 0) := rfl
theorem k128_0 : px_cod 128 0 = some ((.iconst 0), 1, [], 0) := rfl
theorem k128_1 : px_cod 128 1 = some ((.istore_n 2), 1, [], 2) := rfl
theorem k128_2 : px_cod 128 2 = some ((.iconst 0), 1, [], 0) := rfl
theorem k128_3 : px_cod 128 3 = some ((.istore_n 3), 1, [], 3) := rfl
theorem k128_4 : px_cod 128 4 = some ((.iload_n 3), 1, [], 3) := rfl
theorem k128_5 : px_cod 128 5 = some ((.aload_n 0), 1, [], 0) := rfl
theorem k128_6 : px_cod 128 6 = some ((.getfield 34), 3, [149, 10, 4, 1], 0) := rfl
theorem k128_9 : px_cod 128 9 = some ((.getfield 54), 3, [93, 4, 0, 0], 6) := rfl
theorem k128_12 : px_cod 128 12 = some ((.if_icmp .ge 125), 3, [137], 0) := rfl
theorem k128_15 : px_cod 128 15 = some ((.iload_n 1), 1, [], 1) := rfl
theorem k128_16 : px_cod 128 16 = some ((.iload_n 3), 1, [], 3) := rfl
theorem k128_17 : px_cod 128 17 = some ((.invokestatic 66), 3, [0, 86, 32], 0) := rfl
theorem k128_20 : px_cod 128 20 = some ((.ifCond .eq 111), 3, [131], 0) := rfl
theorem k128_23 : px_cod 128 23 = some ((.aload_n 0), 1, [], 0) := rfl
theorem k128_24 : px_cod 128 24 = some ((.getfield 15), 3, [152, 10, 4, 1], 3) := rfl
theorem k128_27 : px_cod 128 27 = some ((.iload_n 3), 1, [], 3) := rfl
theorem k128_28 : px_cod 128 28 = some ((.invokestatic 62), 3, [0, 85, 33], 0) := rfl
theorem k128_31 : px_cod 128 31 = some ((.iconst (-1)), 1, [], (-1)) := rfl
theorem k128_32 : px_cod 128 32 = some ((.if_icmp .ne 6), 3, [38], 0) := rfl
theorem k128_35 : px_cod 128 35 = some ((.goto 96), 3, [131], 0) := rfl
theorem k128_38 : px_cod 128 38 = some ((.iload_n 3), 1, [], 3) := rfl
theorem k128_39 : px_cod 128 39 = some ((.iconst 1), 1, [], 1) := rfl
theorem k128_40 : px_cod 128 40 = some (.iadd, 1, [], 0) := rfl
theorem k128_41 : px_cod 128 41 = some ((.istore 4), 2, [], 4) := rfl
theorem k128_43 : px_cod 128 43 = some ((.iload 4), 2, [], 4) := rfl
theorem k128_45 : px_cod 128 45 = some ((.aload_n 0), 1, [], 0) := rfl
theorem k128_46 : px_cod 128 46 = some ((.getfield 34), 3, [149, 10, 4, 1], 0) := rfl
theorem k128_49 : px_cod 128 49 = some ((.getfield 54), 3, [93, 4, 0, 0], 6) := rfl
theorem k128_52 : px_cod 128 52 = some ((.if_icmp .ge 79), 3, [131], 0) := rfl
theorem k128_55 : px_cod 128 55 = some ((.iload_n 1), 1, [], 1) := rfl
theorem k128_56 : px_cod 128 56 = some ((.iload 4), 2, [], 4) := rfl
theorem k128_58 : px_cod 128 58 = some ((.invokestatic 66), 3, [0, 86, 32], 0) := rfl
theorem k128_61 : px_cod 128 61 = some ((.ifCond .eq 27), 3, [88], 0) := rfl
theorem k128_64 : px_cod 128 64 = some ((.aload_n 0), 1, [], 0) := rfl
theorem k128_65 : px_cod 128 65 = some ((.getfield 15), 3, [152, 10, 4, 1], 3) := rfl
theorem k128_68 : px_cod 128 68 = some ((.iload 4), 2, [], 4) := rfl
theorem k128_70 : px_cod 128 70 = some ((.invokestatic 62), 3, [0, 85, 33], 0) := rfl
theorem k128_73 : px_cod 128 73 = some ((.aload_n 0), 1, [], 0) := rfl
theorem k128_74 : px_cod 128 74 = some ((.getfield 15), 3, [152, 10, 4, 1], 3) := rfl
theorem k128_77 : px_cod 128 77 = some ((.iload_n 3), 1, [], 3) := rfl
theorem k128_78 : px_cod 128 78 = some ((.invokestatic 62), 3, [0, 85, 33], 0) := rfl
theorem k128_81 : px_cod 128 81 = some ((.if_icmp .ne 7), 3, [88], 0) := rfl
theorem k128_84 : px_cod 128 84 = some ((.iconst 1), 1, [], 1) := rfl
theorem k128_85 : px_cod 128 85 = some ((.goto 4), 3, [89], 0) := rfl
theorem k128_88 : px_cod 128 88 = some ((.iconst 0), 1, [], 0) := rfl
theorem k128_89 : px_cod 128 89 = some ((.istore 5), 2, [], 5) := rfl
theorem k128_91 : px_cod 128 91 = some ((.iload 5), 2, [], 5) := rfl
theorem k128_93 : px_cod 128 93 = some ((.ifCond .eq 32), 3, [125], 0) := rfl
theorem k128_96 : px_cod 128 96 = some ((.aload_n 0), 1, [], 0) := rfl
theorem k128_97 : px_cod 128 97 = some ((.getfield 38), 3, [150, 10, 4, 1], 1) := rfl
theorem k128_100 : px_cod 128 100 = some ((.iload_n 3), 1, [], 3) := rfl
theorem k128_101 : px_cod 128 101 = some ((.iload 4), 2, [], 4) := rfl
theorem k128_103 : px_cod 128 103 = some ((.invokevirtual 138), 3, [0, 105, 68], 0) := rfl
theorem k128_106 : px_cod 128 106 = some ((.ifCond .ne 16), 3, [122], 0) := rfl
theorem k128_109 : px_cod 128 109 = some ((.aload_n 0), 1, [], 0) := rfl
theorem k128_110 : px_cod 128 110 = some ((.getfield 38), 3, [150, 10, 4, 1], 1) := rfl
theorem k128_113 : px_cod 128 113 = some ((.iload 4), 2, [], 4) := rfl
theorem k128_115 : px_cod 128 115 = some ((.iload_n 3), 1, [], 3) := rfl
theorem k128_116 : px_cod 128 116 = some ((.invokevirtual 138), 3, [0, 105, 68], 0) := rfl
theorem k128_119 : px_cod 128 119 = some ((.ifCond .eq 6), 3, [125], 0) := rfl
theorem k128_122 : px_cod 128 122 = some ((.iinc 2 1), 3, [2], 1) := rfl
theorem k128_125 : px_cod 128 125 = some ((.iinc 4 1), 3, [4], 1) := rfl
theorem k128_128 : px_cod 128 128 = some ((.goto (-85)), 3, [43], 0) := rfl
theorem k128_131 : px_cod 128 131 = some ((.iinc 3 1), 3, [3], 1) := rfl
theorem k128_134 : px_cod 128 134 = some ((.goto (-130)), 3, [4], 0) := rfl
theorem k128_137 : px_cod 128 137 = some ((.iload_n 2), 1, [], 2) := rfl
theorem k128_138 : px_cod 128 138 = some (.ireturn, 1, [], 0) := rfl
theorem k129_0 : px_cod 129 0 = some ((.aload_n 0), 1, [], 0) := rfl
theorem k129_1 : px_cod 129 1 = some ((.getfield 38), 3, [150, 10, 4, 1], 1) := rfl
theorem k129_4 : px_cod 129 4 = some ((.iload_n 2), 1, [], 2) := rfl
theorem k129_5 : px_cod 129 5 = some ((.invokevirtual 140), 3, [0, 107, 65], 0) := rfl
theorem k129_8 : px_cod 129 8 = some ((.istore_n 3), 1, [], 3) := rfl
theorem k129_9 : px_cod 129 9 = some ((.iconst 0), 1, [], 0) := rfl
theorem k129_10 : px_cod 129 10 = some ((.istore 4), 2, [], 4) := rfl
theorem k129_12 : px_cod 129 12 = some ((.iload 4), 2, [], 4) := rfl
theorem k129_14 : px_cod 129 14 = some ((.aload_n 0), 1, [], 0) := rfl
theorem k129_15 : px_cod 129 15 = some ((.getfield 34), 3, [149, 10, 4, 1], 0) := rfl
theorem k129_18 : px_cod 129 18 = some ((.getfield 54), 3, [93, 4, 0, 0], 6) := rfl
theorem k129_21 : px_cod 129 21 = some ((.if_icmp .ge 116), 3, [137], 0) := rfl
theorem k129_24 : px_cod 129 24 = some ((.aload_n 0), 1, [], 0) := rfl
theorem k129_25 : px_cod 129 25 = some ((.getfield 34), 3, [149, 10, 4, 1], 0) := rfl
theorem k129_28 : px_cod 129 28 = some ((.iload 4), 2, [], 4) := rfl
theorem k129_30 : px_cod 129 30 = some ((.invokevirtual 143), 3, [0, 108, 52], 0) := rfl
theorem k129_33 : px_cod 129 33 = some ((.astore 5), 2, [], 5) := rfl
theorem k129_35 : px_cod 129 35 = some ((.aload_n 0), 1, [], 0) := rfl
theorem k129_36 : px_cod 129 36 = some ((.getfield 34), 3, [149, 10, 4, 1], 0) := rfl
theorem k129_39 : px_cod 129 39 = some ((.aload_n 0), 1, [], 0) := rfl
theorem k129_40 : px_cod 129 40 = some ((.getfield 15), 3, [152, 10, 4, 1], 3) := rfl
theorem k129_43 : px_cod 129 43 = some ((.iload 4), 2, [], 4) := rfl
theorem k129_45 : px_cod 129 45 = some ((.invokestatic 62), 3, [0, 85, 33], 0) := rfl
theorem k129_48 : px_cod 129 48 = some ((.invokevirtual 147), 3, [0, 109, 56], 0) := rfl
theorem k129_51 : px_cod 129 51 = some ((.istore 6), 2, [], 6) := rfl
theorem k129_53 : px_cod 129 53 = some ((.aload 5), 2, [], 5) := rfl
theorem k129_55 : px_cod 129 55 = some ((.ifnull 76), 3, [131], 0) := rfl
theorem k129_58 : px_cod 129 58 = some ((.aload_n 1), 1, [], 1) := rfl
theorem k129_59 : px_cod 129 59 = some ((.getfield 119), 3, [17, 7, 0, 0], 2) := rfl
theorem k129_62 : px_cod 129 62 = some ((.iload 4), 2, [], 4) := rfl
theorem k129_64 : px_cod 129 64 = some ((.invokestatic 66), 3, [0, 86, 32], 0) := rfl
theorem k129_67 : px_cod 129 67 = some ((.ifCond .eq 64), 3, [131], 0) := rfl
theorem k129_70 : px_cod 129 70 = some ((.iload_n 3), 1, [], 3) := rfl
theorem k129_71 : px_cod 129 71 = some ((.iload 6), 2, [], 6) := rfl
theorem k129_73 : px_cod 129 73 = some ((.if_icmp .gt 6), 3, [79], 0) := rfl
theorem k129_76 : px_cod 129 76 = some ((.goto 55), 3, [131], 0) := rfl
theorem k129_79 : px_cod 129 79 = some ((.aload_n 1), 1, [], 1) := rfl
theorem k129_80 : px_cod 129 80 = some ((.getfield 150), 3, [21, 7, 4, 1], 3) := rfl
theorem k129_83 : px_cod 129 83 = some ((.iload 4), 2, [], 4) := rfl
theorem k129_85 : px_cod 129 85 = some ((.aload_n 1), 1, [], 1) := rfl
theorem k129_86 : px_cod 129 86 = some ((.getfield 150), 3, [21, 7, 4, 1], 3) := rfl
theorem k129_89 : px_cod 129 89 = some ((.iload 4), 2, [], 4) := rfl
theorem k129_91 : px_cod 129 91 = some ((.invokestatic 62), 3, [0, 85, 33], 0) := rfl
theorem k129_94 : px_cod 129 94 = some ((.iconst 1), 1, [], 1) := rfl
theorem k129_95 : px_cod 129 95 = some (.iadd, 1, [], 0) := rfl
theorem k129_96 : px_cod 129 96 = some ((.invokestatic 74), 3, [0, 92, 34], 0) := rfl
theorem k129_99 : px_cod 129 99 = some ((.iload_n 3), 1, [], 3) := rfl
theorem k129_100 : px_cod 129 100 = some ((.iload 6), 2, [], 6) := rfl
theorem k129_102 : px_cod 129 102 = some ((.aload 5), 2, [], 5) := rfl
theorem k129_104 : px_cod 129 104 = some ((.getfield 153), 3, [53, 3, 0, 0], 1) := rfl
theorem k129_107 : px_cod 129 107 = some (.iadd, 1, [], 0) := rfl
theorem k129_108 : px_cod 129 108 = some ((.if_icmp .le 23), 3, [131], 0) := rfl
theorem k129_111 : px_cod 129 111 = some ((.aload_n 1), 1, [], 1) := rfl
theorem k129_112 : px_cod 129 112 = some ((.getfield 158), 3, [24, 7, 4, 1], 4) := rfl
theorem k129_115 : px_cod 129 115 = some ((.iload 4), 2, [], 4) := rfl
theorem k129_117 : px_cod 129 117 = some ((.aload_n 1), 1, [], 1) := rfl
theorem k129_118 : px_cod 129 118 = some ((.getfield 158), 3, [24, 7, 4, 1], 4) := rfl
theorem k129_121 : px_cod 129 121 = some ((.iload 4), 2, [], 4) := rfl
theorem k129_123 : px_cod 129 123 = some ((.invokestatic 62), 3, [0, 85, 33], 0) := rfl
theorem k129_126 : px_cod 129 126 = some ((.iconst 1), 1, [], 1) := rfl
theorem k129_127 : px_cod 129 127 = some (.iadd, 1, [], 0) := rfl
theorem k129_128 : px_cod 129 128 = some ((.invokestatic 74), 3, [0, 92, 34], 0) := rfl
theorem k129_131 : px_cod 129 131 = some ((.iinc 4 1), 3, [4], 1) := rfl
theorem k129_134 : px_cod 129 134 = some ((.goto (-122)), 3, [12], 0) := rfl
theorem k129_137 : px_cod 129 137 = some (.return_, 1, [], 0) := rfl
theorem k130_0 : px_cod 130 0 = some ((.aload_n 0), 1, [], 0) := rfl
theorem k130_1 : px_cod 130 1 = some ((.getfield 34), 3, [149, 10, 4, 1], 0) := rfl
theorem k130_4 : px_cod 130 4 = some ((.getfield 161), 3, [75, 4, 4, 1], 1) := rfl
theorem k130_7 : px_cod 130 7 = some ((.astore_n 1), 1, [], 1) := rfl
theorem k130_8 : px_cod 130 8 = some ((.aload_n 0), 1, [], 0) := rfl
theorem k130_9 : px_cod 130 9 = some ((.getfield 31), 3, [157, 10, 4, 1], 8) := rfl
theorem k130_12 : px_cod 130 12 = some ((.iconst 0), 1, [], 0) := rfl
theorem k130_13 : px_cod 130 13 = some ((.invokestatic 48), 3, [0, 84, 241], 0) := rfl
theorem k130_16 : px_cod 130 16 = some ((.iconst 0), 1, [], 0) := rfl
theorem k130_17 : px_cod 130 17 = some ((.istore_n 2), 1, [], 2) := rfl
theorem k130_18 : px_cod 130 18 = some ((.iload_n 2), 1, [], 2) := rfl
theorem k130_19 : px_cod 130 19 = some ((.aload_n 1), 1, [], 1) := rfl
theorem k130_20 : px_cod 130 20 = some ((.getfield 165), 3, [2, 2, 0, 0], 0) := rfl
theorem k130_23 : px_cod 130 23 = some ((.if_icmp .ge 107), 3, [130], 0) := rfl
theorem k130_26 : px_cod 130 26 = some ((.aload_n 1), 1, [], 1) := rfl
theorem k130_27 : px_cod 130 27 = some ((.getfield 170), 3, [7, 2, 4, 1], 2) := rfl
theorem k130_30 : px_cod 130 30 = some ((.iload_n 2), 1, [], 2) := rfl
theorem k130_31 : px_cod 130 31 = some ((.invokestatic 62), 3, [0, 85, 33], 0) := rfl
theorem k130_34 : px_cod 130 34 = some ((.istore_n 3), 1, [], 3) := rfl
theorem k130_35 : px_cod 130 35 = some ((.aload_n 0), 1, [], 0) := rfl
theorem k130_36 : px_cod 130 36 = some ((.aload_n 1), 1, [], 1) := rfl
theorem k130_37 : px_cod 130 37 = some ((.getfield 172), 3, [5, 2, 4, 1], 1) := rfl
theorem k130_40 : px_cod 130 40 = some ((.iload_n 2), 1, [], 2) := rfl
theorem k130_41 : px_cod 130 41 = some ((.invokestatic 62), 3, [0, 85, 33], 0) := rfl
theorem k130_44 : px_cod 130 44 = some ((.invokevirtual 105), 3, [0, 99, 121], 0) := rfl
theorem k130_47 : px_cod 130 47 = some ((.iconst 0), 1, [], 0) := rfl
theorem k130_48 : px_cod 130 48 = some ((.istore 4), 2, [], 4) := rfl
theorem k130_50 : px_cod 130 50 = some ((.iload 4), 2, [], 4) := rfl
theorem k130_52 : px_cod 130 52 = some ((.aload_n 0), 1, [], 0) := rfl
theorem k130_53 : px_cod 130 53 = some ((.invokevirtual 175), 3, [0, 181, 131], 0) := rfl
theorem k130_56 : px_cod 130 56 = some ((.if_icmp .ge 68), 3, [124], 0) := rfl
theorem k130_59 : px_cod 130 59 = some ((.aload_n 0), 1, [], 0) := rfl
theorem k130_60 : px_cod 130 60 = some ((.getfield 31), 3, [157, 10, 4, 1], 8) := rfl
theorem k130_63 : px_cod 130 63 = some ((.iload 4), 2, [], 4) := rfl
theorem k130_65 : px_cod 130 65 = some ((.invokestatic 62), 3, [0, 85, 33], 0) := rfl
theorem k130_68 : px_cod 130 68 = some ((.ifCond .eq 6), 3, [74], 0) := rfl
theorem k130_71 : px_cod 130 71 = some ((.goto 47), 3, [118], 0) := rfl
theorem k130_74 : px_cod 130 74 = some ((.aload_n 0), 1, [], 0) := rfl
theorem k130_75 : px_cod 130 75 = some ((.iload 4), 2, [], 4) := rfl
theorem k130_77 : px_cod 130 77 = some ((.invokevirtual 108), 3, [0, 100, 122], 0) := rfl
theorem k130_80 : px_cod 130 80 = some ((.iload 4), 2, [], 4) := rfl
theorem k130_82 : px_cod 130 82 = some ((.iload_n 3), 1, [], 3) := rfl
theorem k130_83 : px_cod 130 83 = some ((.invokestatic 66), 3, [0, 86, 32], 0) := rfl
theorem k130_86 : px_cod 130 86 = some ((.ifCond .eq 22), 3, [108], 0) := rfl
theorem k130_89 : px_cod 130 89 = some ((.aload_n 0), 1, [], 0) := rfl
theorem k130_90 : px_cod 130 90 = some ((.getfield 15), 3, [152, 10, 4, 1], 3) := rfl
theorem k130_93 : px_cod 130 93 = some ((.iload_n 3), 1, [], 3) := rfl
theorem k130_94 : px_cod 130 94 = some ((.invokestatic 62), 3, [0, 85, 33], 0) := rfl
theorem k130_97 : px_cod 130 97 = some ((.aload_n 1), 1, [], 1) := rfl
theorem k130_98 : px_cod 130 98 = some ((.getfield 178), 3, [9, 2, 4, 1], 3) := rfl
theorem k130_101 : px_cod 130 101 = some ((.iload_n 2), 1, [], 2) := rfl
theorem k130_102 : px_cod 130 102 = some ((.invokestatic 62), 3, [0, 85, 33], 0) := rfl
theorem k130_105 : px_cod 130 105 = some ((.if_icmp .eq 13), 3, [118], 0) := rfl
theorem k130_108 : px_cod 130 108 = some ((.aload_n 0), 1, [], 0) := rfl
theorem k130_109 : px_cod 130 109 = some ((.getfield 31), 3, [157, 10, 4, 1], 8) := rfl
theorem k130_112 : px_cod 130 112 = some ((.iload 4), 2, [], 4) := rfl
theorem k130_114 : px_cod 130 114 = some ((.iconst 1), 1, [], 1) := rfl
theorem k130_115 : px_cod 130 115 = some ((.invokestatic 74), 3, [0, 92, 34], 0) := rfl
theorem k130_118 : px_cod 130 118 = some ((.iinc 4 1), 3, [4], 1) := rfl
theorem k130_121 : px_cod 130 121 = some ((.goto (-71)), 3, [50], 0) := rfl
theorem k130_124 : px_cod 130 124 = some ((.iinc 2 1), 3, [2], 1) := rfl
theorem k130_127 : px_cod 130 127 = some ((.goto (-109)), 3, [18], 0) := rfl
theorem k130_130 : px_cod 130 130 = some (.return_, 1, [], 0) := rfl
theorem k131_0 : px_cod 131 0 = some ((.iconst 1), 1, [], 1) := rfl
theorem k131_1 : px_cod 131 1 = some ((.iconst 0), 1, [], 0) := rfl
theorem k131_2 : px_cod 131 2 = some ((.bipush 10), 2, [], 10) := rfl
theorem k131_4 : px_cod 131 4 = some ((.aload_n 0), 1, [], 0) := rfl
theorem k131_5 : px_cod 131 5 = some ((.getfield 34), 3, [149, 10, 4, 1], 0) := rfl
theorem k131_8 : px_cod 131 8 = some ((.getfield 54), 3, [93, 4, 0, 0], 6) := rfl
theorem k131_11 : px_cod 131 11 = some ((.invokestatic 180), 3, [6, 28], 0) := rfl
theorem k131_14 : px_cod 131 14 = some ((.invokestatic 186), 3, [5, 29], 0) := rfl
theorem k131_17 : px_cod 131 17 = some (.ishl, 1, [], 0) := rfl
theorem k131_18 : px_cod 131 18 = some (.ireturn, 1, [], 0) := rfl
theorem k132_0 : px_cod 132 0 = some ((.iconst 0), 1, [], 0) := rfl
theorem k132_1 : px_cod 132 1 = some ((.istore_n 2), 1, [], 2) := rfl
theorem k132_2 : px_cod 132 2 = some ((.iconst 0), 1, [], 0) := rfl
theorem k132_3 : px_cod 132 3 = some ((.istore_n 3), 1, [], 3) := rfl
theorem k132_4 : px_cod 132 4 = some ((.sipush 1023), 3, [], 1023) := rfl
theorem k132_7 : px_cod 132 7 = some ((.istore 4), 2, [], 4) := rfl
theorem k132_9 : px_cod 132 9 = some ((.iconst 0), 1, [], 0) := rfl
theorem k132_10 : px_cod 132 10 = some ((.istore 5), 2, [], 5) := rfl
theorem k132_12 : px_cod 132 12 = some ((.iconst 0), 1, [], 0) := rfl
theorem k132_13 : px_cod 132 13 = some ((.istore 6), 2, [], 6) := rfl
theorem k132_15 : px_cod 132 15 = some ((.iload 6), 2, [], 6) := rfl
theorem k132_17 : px_cod 132 17 = some ((.aload_n 0), 1, [], 0) := rfl
theorem k132_18 : px_cod 132 18 = some ((.invokevirtual 175), 3, [0, 181, 131], 0) := rfl
theorem k132_21 : px_cod 132 21 = some ((.if_icmp .ge 49), 3, [70], 0) := rfl
theorem k132_24 : px_cod 132 24 = some ((.aload_n 0), 1, [], 0) := rfl
theorem k132_25 : px_cod 132 25 = some ((.getfield 31), 3, [157, 10, 4, 1], 8) := rfl
theorem k132_28 : px_cod 132 28 = some ((.iload 6), 2, [], 6) := rfl
theorem k132_30 : px_cod 132 30 = some ((.invokestatic 62), 3, [0, 85, 33], 0) := rfl
theorem k132_33 : px_cod 132 33 = some ((.ifCond .ne 31), 3, [64], 0) := rfl
theorem k132_36 : px_cod 132 36 = some ((.iload_n 2), 1, [], 2) := rfl
theorem k132_37 : px_cod 132 37 = some ((.ifCond .ne 8), 3, [45], 0) := rfl
theorem k132_40 : px_cod 132 40 = some ((.iload 6), 2, [], 6) := rfl
theorem k132_42 : px_cod 132 42 = some ((.goto 4), 3, [46], 0) := rfl
theorem k132_45 : px_cod 132 45 = some ((.iload_n 3), 1, [], 3) := rfl
theorem k132_46 : px_cod 132 46 = some ((.istore_n 3), 1, [], 3) := rfl
theorem k132_47 : px_cod 132 47 = some ((.iinc 2 1), 3, [2], 1) := rfl
theorem k132_50 : px_cod 132 50 = some ((.iload 4), 2, [], 4) := rfl
theorem k132_52 : px_cod 132 52 = some ((.iload 6), 2, [], 6) := rfl
theorem k132_54 : px_cod 132 54 = some (.iand, 1, [], 0) := rfl
theorem k132_55 : px_cod 132 55 = some ((.istore 4), 2, [], 4) := rfl
theorem k132_57 : px_cod 132 57 = some ((.iload 5), 2, [], 5) := rfl
theorem k132_59 : px_cod 132 59 = some ((.iload 6), 2, [], 6) := rfl
theorem k132_61 : px_cod 132 61 = some (.ior, 1, [], 0) := rfl
theorem k132_62 : px_cod 132 62 = some ((.istore 5), 2, [], 5) := rfl
theorem k132_64 : px_cod 132 64 = some ((.iinc 6 1), 3, [6], 1) := rfl
theorem k132_67 : px_cod 132 67 = some ((.goto (-52)), 3, [15], 0) := rfl
theorem k132_70 : px_cod 132 70 = some ((.iload_n 1), 1, [], 1) := rfl
theorem k132_71 : px_cod 132 71 = some ((.tableswitch 40 0 2 #[25, 27, 29]), 25, [111, 96, 98, 100], 0) := rfl
theorem k132_96 : px_cod 132 96 = some ((.iload_n 2), 1, [], 2) := rfl
theorem k132_97 : px_cod 132 97 = some (.ireturn, 1, [], 0) := rfl
theorem k132_98 : px_cod 132 98 = some ((.iload_n 3), 1, [], 3) := rfl
theorem k132_99 : px_cod 132 99 = some (.ireturn, 1, [], 0) := rfl
theorem k132_100 : px_cod 132 100 = some ((.iload_n 2), 1, [], 2) := rfl
theorem k132_101 : px_cod 132 101 = some ((.ifCond .ne 7), 3, [108], 0) := rfl
theorem k132_104 : px_cod 132 104 = some ((.iconst 0), 1, [], 0) := rfl
theorem k132_105 : px_cod 132 105 = some ((.goto 5), 3, [110], 0) := rfl
theorem k132_108 : px_cod 132 108 = some ((.iload 4), 2, [], 4) := rfl
theorem k132_110 : px_cod 132 110 = some (.ireturn, 1, [], 0) := rfl
theorem k132_111 : px_cod 132 111 = some ((.iload 5), 2, [], 5) := rfl
theorem k132_113 : px_cod 132 113 = some (.ireturn, 1, [], 0) := rfl
theorem k134_0 : px_cod 134 0 = some ((.aload_n 0), 1, [], 0) := rfl
theorem k134_1 : px_cod 134 1 = some ((.iconst 0), 1, [], 0) := rfl
theorem k134_2 : px_cod 134 2 = some ((.putfield 9), 3, [114, 11, 0, 0], 0) := rfl
theorem k134_5 : px_cod 134 5 = some ((.aload_n 0), 1, [], 0) := rfl
theorem k134_6 : px_cod 134 6 = some ((.iconst 0), 1, [], 0) := rfl
theorem k134_7 : px_cod 134 7 = some ((.putfield 15), 3, [115, 11, 0, 0], 1) := rfl
theorem k134_10 : px_cod 134 10 = some (.return_, 1, [], 0) := rfl
theorem k135_0 : px_cod 135 0 = some ((.aload_n 0), 1, [], 0) := rfl
theorem k135_1 : px_cod 135 1 = some ((.getfield 9), 3, [114, 11, 0, 0], 0) := rfl
theorem k135_4 : px_cod 135 4 = some ((.ifCond .lt 35), 3, [39], 0) := rfl
theorem k135_7 : px_cod 135 7 = some ((.aload_n 0), 1, [], 0) := rfl
theorem k135_8 : px_cod 135 8 = some ((.getfield 9), 3, [114, 11, 0, 0], 0) := rfl
theorem k135_11 : px_cod 135 11 = some ((.aload_n 0), 1, [], 0) := rfl
theorem k135_12 : px_cod 135 12 = some ((.getfield 18), 3, [118, 11, 4, 1], 2) := rfl
theorem k135_15 : px_cod 135 15 = some (.arraylength, 1, [], 0) := rfl
theorem k135_16 : px_cod 135 16 = some ((.if_icmp .ge 23), 3, [39], 0) := rfl
theorem k135_19 : px_cod 135 19 = some ((.aload_n 0), 1, [], 0) := rfl
theorem k135_20 : px_cod 135 20 = some ((.getfield 18), 3, [118, 11, 4, 1], 2) := rfl
theorem k135_23 : px_cod 135 23 = some ((.aload_n 0), 1, [], 0) := rfl
theorem k135_24 : px_cod 135 24 = some ((.getfield 9), 3, [114, 11, 0, 0], 0) := rfl
theorem k135_27 : px_cod 135 27 = some ((.iload_n 1), 1, [], 1) := rfl
theorem k135_28 : px_cod 135 28 = some (.iastore, 1, [], 0) := rfl
theorem k135_29 : px_cod 135 29 = some ((.aload_n 0), 1, [], 0) := rfl
theorem k135_30 : px_cod 135 30 = some (.dup, 1, [], 0) := rfl
theorem k135_31 : px_cod 135 31 = some ((.getfield 9), 3, [114, 11, 0, 0], 0) := rfl
theorem k135_34 : px_cod 135 34 = some ((.iconst 1), 1, [], 1) := rfl
theorem k135_35 : px_cod 135 35 = some (.iadd, 1, [], 0) := rfl
theorem k135_36 : px_cod 135 36 = some ((.putfield 9), 3, [114, 11, 0, 0], 0) := rfl
theorem k135_39 : px_cod 135 39 = some (.return_, 1, [], 0) := rfl
theorem k136_0 : px_cod 136 0 = some ((.aload_n 0), 1, [], 0) := rfl
theorem k136_1 : px_cod 136 1 = some ((.getfield 22), 3, [120, 11, 4, 1], 3) := rfl
theorem k136_4 : px_cod 136 4 = some ((.aload_n 0), 1, [], 0) := rfl
theorem k136_5 : px_cod 136 5 = some ((.getfield 15), 3, [115, 11, 0, 0], 1) := rfl
theorem k136_8 : px_cod 136 8 = some ((.iload_n 1), 1, [], 1) := rfl
theorem k136_9 : px_cod 136 9 = some ((.invokestatic 31), 3, [0, 56, 34], 0) := rfl
theorem k136_12 : px_cod 136 12 = some ((.aload_n 0), 1, [], 0) := rfl
theorem k136_13 : px_cod 136 13 = some ((.getfield 25), 3, [122, 11, 4, 1], 4) := rfl
theorem k136_16 : px_cod 136 16 = some ((.aload_n 0), 1, [], 0) := rfl
theorem k136_17 : px_cod 136 17 = some ((.getfield 15), 3, [115, 11, 0, 0], 1) := rfl
theorem k136_20 : px_cod 136 20 = some ((.aload_n 0), 1, [], 0) := rfl
theorem k136_21 : px_cod 136 21 = some ((.getfield 9), 3, [114, 11, 0, 0], 0) := rfl
theorem k136_24 : px_cod 136 24 = some ((.invokestatic 31), 3, [0, 56, 34], 0) := rfl
theorem k136_27 : px_cod 136 27 = some ((.aload_n 0), 1, [], 0) := rfl
theorem k136_28 : px_cod 136 28 = some ((.getfield 28), 3, [124, 11, 4, 1], 5) := rfl
theorem k136_31 : px_cod 136 31 = some ((.aload_n 0), 1, [], 0) := rfl
theorem k136_32 : px_cod 136 32 = some ((.getfield 15), 3, [115, 11, 0, 0], 1) := rfl
theorem k136_35 : px_cod 136 35 = some ((.aload_n 0), 1, [], 0) := rfl
theorem k136_36 : px_cod 136 36 = some ((.getfield 9), 3, [114, 11, 0, 0], 0) := rfl
theorem k136_39 : px_cod 136 39 = some ((.invokestatic 31), 3, [0, 56, 34], 0) := rfl
theorem k136_42 : px_cod 136 42 = some ((.aload_n 0), 1, [], 0) := rfl
theorem k136_43 : px_cod 136 43 = some (.dup, 1, [], 0) := rfl
theorem k136_44 : px_cod 136 44 = some ((.getfield 15), 3, [115, 11, 0, 0], 1) := rfl
theorem k136_47 : px_cod 136 47 = some ((.iconst 1), 1, [], 1) := rfl
theorem k136_48 : px_cod 136 48 = some (.iadd, 1, [], 0) := rfl
theorem k136_49 : px_cod 136 49 = some ((.putfield 15), 3, [115, 11, 0, 0], 1) := rfl
theorem k136_52 : px_cod 136 52 = some (.return_, 1, [], 0) := rfl
theorem k137_0 : px_cod 137 0 = some ((.aload_n 0), 1, [], 0) := rfl
theorem k137_1 : px_cod 137 1 = some ((.getfield 28), 3, [124, 11, 4, 1], 5) := rfl
theorem k137_4 : px_cod 137 4 = some ((.aload_n 0), 1, [], 0) := rfl
theorem k137_5 : px_cod 137 5 = some ((.getfield 15), 3, [115, 11, 0, 0], 1) := rfl
theorem k137_8 : px_cod 137 8 = some ((.iconst 1), 1, [], 1) := rfl
theorem k137_9 : px_cod 137 9 = some (.isub, 1, [], 0) := rfl
theorem k137_10 : px_cod 137 10 = some ((.aload_n 0), 1, [], 0) := rfl
theorem k137_11 : px_cod 137 11 = some ((.getfield 9), 3, [114, 11, 0, 0], 0) := rfl
theorem k137_14 : px_cod 137 14 = some ((.invokestatic 31), 3, [0, 56, 34], 0) := rfl
theorem k137_17 : px_cod 137 17 = some (.return_, 1, [], 0) := rfl
theorem k138_0 : px_cod 138 0 = some ((.iconst 0), 1, [], 0) := rfl
theorem k138_1 : px_cod 138 1 = some ((.istore_n 2), 1, [], 2) := rfl
theorem k138_2 : px_cod 138 2 = some ((.iload_n 2), 1, [], 2) := rfl
theorem k138_3 : px_cod 138 3 = some ((.aload_n 0), 1, [], 0) := rfl
theorem k138_4 : px_cod 138 4 = some ((.getfield 15), 3, [115, 11, 0, 0], 1) := rfl
theorem k138_7 : px_cod 138 7 = some ((.if_icmp .ge 29), 3, [36], 0) := rfl
theorem k138_10 : px_cod 138 10 = some ((.iload_n 2), 1, [], 2) := rfl
theorem k138_11 : px_cod 138 11 = some ((.bipush 10), 2, [], 10) := rfl
theorem k138_13 : px_cod 138 13 = some ((.if_icmp .ge 23), 3, [36], 0) := rfl
theorem k138_16 : px_cod 138 16 = some ((.aload_n 0), 1, [], 0) := rfl
theorem k138_17 : px_cod 138 17 = some ((.getfield 22), 3, [120, 11, 4, 1], 3) := rfl
theorem k138_20 : px_cod 138 20 = some ((.iload_n 2), 1, [], 2) := rfl
theorem k138_21 : px_cod 138 21 = some ((.invokestatic 35), 3, [0, 75, 33], 0) := rfl
theorem k138_24 : px_cod 138 24 = some ((.iload_n 1), 1, [], 1) := rfl
theorem k138_25 : px_cod 138 25 = some ((.if_icmp .ne 5), 3, [30], 0) := rfl
theorem k138_28 : px_cod 138 28 = some ((.iload_n 2), 1, [], 2) := rfl
theorem k138_29 : px_cod 138 29 = some (.ireturn, 1, [], 0) := rfl
theorem k138_30 : px_cod 138 30 = some ((.iinc 2 1), 3, [2], 1) := rfl
theorem k138_33 : px_cod 138 33 = some ((.goto (-31)), 3, [2], 0) := rfl
theorem k138_36 : px_cod 138 36 = some ((.iconst (-1)), 1, [], (-1)) := rfl
theorem k138_37 : px_cod 138 37 = some (.ireturn, 1, [], 0) := rfl
theorem k139_0 : px_cod 139 0 = some ((.aload_n 0), 1, [], 0) := rfl
theorem k139_1 : px_cod 139 1 = some ((.aload_n 1), 1, [], 1) := rfl
theorem k139_2 : px_cod 139 2 = some ((.getfield 9), 3, [114, 11, 0, 0], 0) := rfl
theorem k139_5 : px_cod 139 5 = some ((.putfield 9), 3, [114, 11, 0, 0], 0) := rfl
theorem k139_8 : px_cod 139 8 = some ((.aload_n 0), 1, [], 0) := rfl
theorem k139_9 : px_cod 139 9 = some ((.aload_n 1), 1, [], 1) := rfl
theorem k139_10 : px_cod 139 10 = some ((.getfield 15), 3, [115, 11, 0, 0], 1) := rfl
theorem k139_13 : px_cod 139 13 = some ((.putfield 15), 3, [115, 11, 0, 0], 1) := rfl
theorem k139_16 : px_cod 139 16 = some ((.aload_n 1), 1, [], 1) := rfl
theorem k139_17 : px_cod 139 17 = some ((.getfield 18), 3, [118, 11, 4, 1], 2) := rfl
theorem k139_20 : px_cod 139 20 = some ((.aload_n 0), 1, [], 0) := rfl
theorem k139_21 : px_cod 139 21 = some ((.getfield 18), 3, [118, 11, 4, 1], 2) := rfl
theorem k139_24 : px_cod 139 24 = some ((.invokestatic 39), 3, [0, 64, 35], 0) := rfl
theorem k139_27 : px_cod 139 27 = some ((.aload_n 1), 1, [], 1) := rfl
theorem k139_28 : px_cod 139 28 = some ((.getfield 22), 3, [120, 11, 4, 1], 3) := rfl
theorem k139_31 : px_cod 139 31 = some ((.aload_n 0), 1, [], 0) := rfl
theorem k139_32 : px_cod 139 32 = some ((.getfield 22), 3, [120, 11, 4, 1], 3) := rfl
theorem k139_35 : px_cod 139 35 = some ((.invokestatic 39), 3, [0, 64, 35], 0) := rfl
theorem k139_38 : px_cod 139 38 = some ((.aload_n 1), 1, [], 1) := rfl
theorem k139_39 : px_cod 139 39 = some ((.getfield 25), 3, [122, 11, 4, 1], 4) := rfl
theorem k139_42 : px_cod 139 42 = some ((.aload_n 0), 1, [], 0) := rfl
theorem k139_43 : px_cod 139 43 = some ((.getfield 25), 3, [122, 11, 4, 1], 4) := rfl
theorem k139_46 : px_cod 139 46 = some ((.invokestatic 39), 3, [0, 64, 35], 0) := rfl
theorem k139_49 : px_cod 139 49 = some ((.aload_n 1), 1, [], 1) := rfl
theorem k139_50 : px_cod 139 50 = some ((.getfield 28), 3, [124, 11, 4, 1], 5) := rfl
theorem k139_53 : px_cod 139 53 = some ((.aload_n 0), 1, [], 0) := rfl
theorem k139_54 : px_cod 139 54 = some ((.getfield 28), 3, [124, 11, 4, 1], 5) := rfl
theorem k139_57 : px_cod 139 57 = some ((.invokestatic 39), 3, [0, 64, 35], 0) := rfl
theorem k139_60 : px_cod 139 60 = some (.return_, 1, [], 0) := rfl
section PXL
variable {L t : Nat} {r : MR}
-- Rescue.deal ('R116', 'I', 'I')
theorem b108_0 (hr : px_hr r) (d : Nat) (i l : MI) (x1 : Int) (x2 : Int) : px_X (d + 1) 108 (0, [vR 116, vI x1, vI x2, vJ, vJ, vJ, vJ, vJ, vJ], []) (px_sh L, i, l, r, t) = (px_C d 65 [vR 68, vI x1] (px_sh L, i, l, r, t)).bind (fun q => px_X (d + 1) 108 (px_psh (8, [vR 116, vI x1, vI x2, vJ, vJ, vJ, vJ, vJ, vJ], []) q.1) q.2) := ((xs_aldn k108_0 rfl).trans ((xs_get4 k108_1 (px_s116 L) (Nat.le_of_ble_eq_true rfl) (px_r116_1 hr)).trans ((xs_ildn k108_4 rfl).trans (xs_callvB k108_5 (as := [vI x1]) rfl rfl (Nat.le_of_ble_eq_true rfl) (Nat.le_of_ble_eq_true rfl) (Nat.le_of_ble_eq_true rfl) (px_s68 L) (Nat.le_of_ble_eq_true rfl)))))
theorem b108_8 (hr : px_hr r) (d : Nat) (i l : MI) (x1 : Int) (x2 : Int) (xs0 : Int) : px_X (d + 1) 108 (8, [vR 116, vI x1, vI x2, vJ, vJ, vJ, vJ, vJ, vJ], [vI xs0]) (px_sh L, i, l, r, t) = (px_C d 57 [vR 4] (px_sh L, i, l, r, t)).bind (fun q => px_X (d + 1) 108 (px_psh (16, [vR 116, vI x1, vI x2, vI xs0, vJ, vJ, vJ, vJ, vJ], []) q.1) q.2) := ((xs_istn k108_8 (Nat.le_of_ble_eq_true rfl) (ls' := [vR 116, vI x1, vI x2, vI xs0, vJ, vJ, vJ, vJ, vJ]) rfl).trans ((xs_aldn k108_9 rfl).trans ((xs_get4 k108_10 (px_s116 L) (Nat.le_of_ble_eq_true rfl) (px_r116_0 hr)).trans (xs_callvB k108_13 (as := []) rfl rfl (Nat.le_of_ble_eq_true rfl) (Nat.le_of_ble_eq_true rfl) (Nat.le_of_ble_eq_true rfl) (px_s4 L) (Nat.le_of_ble_eq_true rfl)))))
theorem b108_16 (hr : px_hr r) (d : Nat) (i l : MI) (x1 : Int) (x2 : Int) (x3 : Int) (xs0 : Int) : px_X (d + 1) 108 (16, [vR 116, vI x1, vI x2, vI x3, vJ, vJ, vJ, vJ, vJ], [vI xs0]) (px_sh L, i, l, r, t) = (px_C d 109 [vR 116, vI x3] (px_sh L, i, l, r, t)).bind (fun q => px_X (d + 1) 108 (px_psh (23, [vR 116, vI x1, vI x2, vI x3, vI xs0, vJ, vJ, vJ, vJ], []) q.1) q.2) := ((xs_ist k108_16 (Nat.le_of_ble_eq_true rfl) (ls' := [vR 116, vI x1, vI x2, vI x3, vI xs0, vJ, vJ, vJ, vJ]) rfl).trans ((xs_aldn k108_18 rfl).trans ((xs_ildn k108_19 rfl).trans (xs_callvB k108_20 (as := [vI x3]) rfl rfl (Nat.le_of_ble_eq_true rfl) (Nat.le_of_ble_eq_true rfl) (Nat.le_of_ble_eq_true rfl) (px_s116 L) (Nat.le_of_ble_eq_true rfl)))))
theorem b108_23 (hr : px_hr r) (d : Nat) (i l : MI) (x1 : Int) (x2 : Int) (x3 : Int) (x4 : Int) : px_X (d + 1) 108 (23, [vR 116, vI x1, vI x2, vI x3, vI x4, vJ, vJ, vJ, vJ], []) (px_sh L, i, l, r, t) = (px_C d 110 [vR 116, vI x4, vI (i 116 4)] (px_sh L, i, l, r, t)).bind (fun q => px_X (d + 1) 108 (px_psh (33, [vR 116, vI x1, vI x2, vI x3, vI x4, vJ, vJ, vJ, vJ], []) q.1) q.2) := ((xs_aldn k108_23 rfl).trans ((xs_ild k108_24 rfl).trans ((xs_aldn k108_26 rfl).trans ((xs_get0 k108_27 (px_s116 L) (Nat.le_of_ble_eq_true rfl)).trans (xs_callvB k108_30 (as := [vI x4, vI (i 116 4)]) rfl rfl (Nat.le_of_ble_eq_true rfl) (Nat.le_of_ble_eq_true rfl) (Nat.le_of_ble_eq_true rfl) (px_s116 L) (Nat.le_of_ble_eq_true rfl))))))
theorem b108_33 (hr : px_hr r) (d : Nat) (i l : MI) (x1 : Int) (x2 : Int) (x3 : Int) (x4 : Int) (xs0 : Int) : px_X d 108 (33, [vR 116, vI x1, vI x2, vI x3, vI x4, vJ, vJ, vJ, vJ], [vI xs0]) (px_sh L, i, l, r, t) = if x2 = (-1) then some (some (vI xs0), (px_sh L, i, l, r, t)) else px_X d 108 (46, [vR 116, vI x1, vI x2, vI x3, vI x4, vI xs0, vI 0, vJ, vJ], []) (px_sh L, i, l, r, t) := ((xs_ist k108_33 (Nat.le_of_ble_eq_true rfl) (ls' := [vR 116, vI x1, vI x2, vI x3, vI x4, vI xs0, vJ, vJ, vJ]) rfl).trans ((xs_ildn k108_35 rfl).trans ((xs_ic k108_36 (by omega)).trans ((xs_jne k108_37).trans (px_ite (fun c1 => ((xs_ild k108_40 rfl).trans (xs_ri k108_42 rfl))) (fun c1 => ((xs_ic k108_43 (by omega)).trans (xs_ist k108_44 (Nat.le_of_ble_eq_true rfl) (ls' := [vR 116, vI x1, vI x2, vI x3, vI x4, vI xs0, vI 0, vJ, vJ]) rfl))))))))
theorem b108_46 (hr : px_hr r) (d : Nat) (i l : MI) (x1 : Int) (x2 : Int) (x3 : Int) (x4 : Int) (x5 : Int) (x6 : Int) {v7 : PV} (hn7 : px_nl v7) {v8 : PV} (hn8 : px_nl v8) : px_X (d + 1) 108 (46, [vR 116, vI x1, vI x2, vI x3, vI x4, vI x5, vI x6, v7, v8], []) (px_sh L, i, l, r, t) = if (i 4 6) ≤ x6 then some (some (vI (-1)), (px_sh L, i, l, r, t)) else (px_C d 32 [vI x4, vI x6] (px_sh L, i, l, r, t)).bind (fun q => px_X (d + 1) 108 (px_psh (65, [vR 116, vI x1, vI x2, vI x3, vI x4, vI x5, vI x6, v7, v8], []) q.1) q.2) := ((xs_ild k108_46 rfl).trans ((xs_aldn k108_48 rfl).trans ((xs_get4 k108_49 (px_s116 L) (Nat.le_of_ble_eq_true rfl) (px_r116_0 hr)).trans ((xs_get0 k108_52 (px_s4 L) (Nat.le_of_ble_eq_true rfl)).trans ((xs_jge k108_55).trans (px_ite (fun c1 => ((xs_ic k108_191 (by omega)).trans (xs_ri k108_192 rfl))) (fun c1 => ((xs_ild k108_58 rfl).trans ((xs_ild k108_60 rfl).trans (xs_callsB k108_62 (as := [vI x4, vI x6]) rfl rfl (Nat.le_of_ble_eq_true rfl) (Nat.le_of_ble_eq_true rfl) (Nat.le_of_ble_eq_true rfl)))))))))))
theorem b108_65 (hr : px_hr r) (d : Nat) (i l : MI) (x1 : Int) (x2 : Int) (x3 : Int) (x4 : Int) (x5 : Int) (x6 : Int) {v7 : PV} (hn7 : px_nl v7) {v8 : PV} (hn8 : px_nl v8) (xs0 : Int) : px_X (d + 1) 108 (65, [vR 116, vI x1, vI x2, vI x3, vI x4, vI x5, vI x6, v7, v8], [vI xs0]) (px_sh L, i, l, r, t) = if xs0 = 0 then px_X (d + 1) 108 (46, [vR 116, vI x1, vI x2, vI x3, vI x4, vI x5, vI (px_w32 (x6 + 1)), v7, v8], []) (px_sh L, i, l, r, t) else (px_C d 111 [vR 116, vI x6, vI (px_and x4 (px_xor (px_shl 1 x6) (-1))), vI x3, vI x5] (px_sh L, i, l, r, t)).bind (fun q => px_X (d + 1) 108 (px_psh (93, [vR 116, vI x1, vI x2, vI x3, vI (px_and x4 (px_xor (px_shl 1 x6) (-1))), vI x5, vI x6, v7, v8], []) q.1) q.2) := ((xs_ine k108_65).trans (px_ite (fun c1 => ((xs_goto k108_68).trans ((xs_iinc k108_185 rfl (by omega) (ls' := [vR 116, vI x1, vI x2, vI x3, vI x4, vI x5, vI (px_w32 (x6 + 1)), v7, v8]) rfl).trans (xs_goto k108_188)))) (fun c1 => ((xs_ild k108_71 rfl).trans ((xs_ic k108_73 (by omega)).trans ((xs_ild k108_74 rfl).trans ((xs_ishl k108_76).trans ((xs_ic k108_77 (by omega)).trans ((xs_ixor k108_78).trans ((xs_iand k108_79).trans ((xs_ist k108_80 (Nat.le_of_ble_eq_true rfl) (ls' := [vR 116, vI x1, vI x2, vI x3, vI (px_and x4 (px_xor (px_shl 1 x6) (-1))), vI x5, vI x6, v7, v8]) rfl).trans ((xs_aldn k108_82 rfl).trans ((xs_ild k108_83 rfl).trans ((xs_ild k108_85 rfl).trans ((xs_ildn k108_87 rfl).trans ((xs_ild k108_88 rfl).trans (xs_callvB k108_90 (as := [vI x6, vI (px_and x4 (px_xor (px_shl 1 x6) (-1))), vI x3, vI x5]) rfl rfl (Nat.le_of_ble_eq_true rfl) (Nat.le_of_ble_eq_true rfl) (Nat.le_of_ble_eq_true rfl) (px_s116 L) (Nat.le_of_ble_eq_true rfl))))))))))))))))))
theorem b108_93 (hr : px_hr r) (d : Nat) (i l : MI) (x1 : Int) (x2 : Int) (x3 : Int) (x4 : Int) (x5 : Int) (x6 : Int) {v7 : PV} (hn7 : px_nl v7) {v8 : PV} (hn8 : px_nl v8) (xs0 : Int) : px_X (d + 1) 108 (93, [vR 116, vI x1, vI x2, vI x3, vI x4, vI x5, vI x6, v7, v8], [vI xs0]) (px_sh L, i, l, r, t) = if x6 = x2 then some (some (vI xs0), (px_sh L, i, l, r, t)) else (px_C d 56 [vR 4, vI xs0] (px_sh L, i, l, r, t)).bind (fun q => px_X (d + 1) 108 (px_psh (113, [vR 116, vI x1, vI x2, vI x3, vI x4, vI x5, vI x6, vI xs0, v8], []) q.1) q.2) := ((xs_ist k108_93 (Nat.le_of_ble_eq_true rfl) (ls' := [vR 116, vI x1, vI x2, vI x3, vI x4, vI x5, vI x6, vI xs0, v8]) rfl).trans ((xs_ild k108_95 rfl).trans ((xs_ildn k108_97 rfl).trans ((xs_jne k108_98).trans (px_ite (fun c1 => ((xs_ild k108_101 rfl).trans (xs_ri k108_103 rfl))) (fun c1 => ((xs_aldn k108_104 rfl).trans ((xs_get4 k108_105 (px_s116 L) (Nat.le_of_ble_eq_true rfl) (px_r116_0 hr)).trans ((xs_ild k108_108 rfl).trans (xs_callvB k108_110 (as := [vI xs0]) rfl rfl (Nat.le_of_ble_eq_true rfl) (Nat.le_of_ble_eq_true rfl) (Nat.le_of_ble_eq_true rfl) (px_s4 L) (Nat.le_of_ble_eq_true rfl)))))))))))
theorem b108_113 (hr : px_hr r) (d : Nat) (i l : MI) (x1 : Int) (x2 : Int) (x3 : Int) (x4 : Int) (x5 : Int) (x6 : Int) (x7 : Int) {v8 : PV} (hn8 : px_nl v8) (xs0 : Int) : px_X d 108 (113, [vR 116, vI x1, vI x2, vI x3, vI x4, vI x5, vI x6, vI x7, v8], [vI xs0]) (px_sh L, i, l, r, t) = if xs0 < x3 then px_X d 108 (122, [vR 116, vI x1, vI x2, vI x3, vI x4, vI x5, vI x6, vI x7, v8], [vI 0]) (px_sh L, i, l, r, t) else px_X d 108 (122, [vR 116, vI x1, vI x2, vI x3, vI x4, vI x5, vI x6, vI x7, v8], [vI 1]) (px_sh L, i, l, r, t) := ((xs_ildn k108_113 rfl).trans ((xs_jlt k108_114).trans (px_ite (fun c1 => (xs_ic k108_121 (by omega))) (fun c1 => ((xs_ic k108_117 (by omega)).trans (xs_goto k108_118))))))
theorem b108_122 (hr : px_hr r) (d : Nat) (i l : MI) (x1 : Int) (x2 : Int) (x3 : Int) (x4 : Int) (x5 : Int) (x6 : Int) (x7 : Int) {v8 : PV} (hn8 : px_nl v8) (xs0 : Int) : px_X (d + 1) 108 (122, [vR 116, vI x1, vI x2, vI x3, vI x4, vI x5, vI x6, vI x7, v8], [vI xs0]) (px_sh L, i, l, r, t) = if xs0 = 0 then (px_C d 112 [vR 116, vI (px_shl 1 x6)] (px_sh L, i, l, r, t)).bind (fun q => px_X (d + 1) 108 (px_psh (143, [vR 116, vI x1, vI x2, vI x3, vI x4, vI x5, vI x6, vI x7, vI xs0], [vI x5]) q.1) q.2) else px_X (d + 1) 108 (143, [vR 116, vI x1, vI x2, vI x3, vI x4, vI x5, vI x6, vI x7, vI xs0], [vI 0, vI x5]) (px_sh L, i, l, r, t) := ((xs_ist k108_122 (Nat.le_of_ble_eq_true rfl) (ls' := [vR 116, vI x1, vI x2, vI x3, vI x4, vI x5, vI x6, vI x7, vI xs0]) rfl).trans ((xs_ild k108_124 rfl).trans ((xs_ild k108_126 rfl).trans ((xs_ieq k108_128).trans (px_ite (fun c1 => ((xs_aldn k108_135 rfl).trans ((xs_ic k108_136 (by omega)).trans ((xs_ild k108_137 rfl).trans ((xs_ishl k108_139).trans (xs_callvB k108_140 (as := [vI (px_shl 1 x6)]) rfl rfl (Nat.le_of_ble_eq_true rfl) (Nat.le_of_ble_eq_true rfl) (Nat.le_of_ble_eq_true rfl) (px_s116 L) (Nat.le_of_ble_eq_true rfl))))))) (fun c1 => ((xs_ic k108_131 (by omega)).trans (xs_goto k108_132))))))))
theorem b108_143 (hr : px_hr r) (d : Nat) (i l : MI) (x1 : Int) (x2 : Int) (x3 : Int) (x4 : Int) (x5 : Int) (x6 : Int) (x7 : Int) (x8 : Int) (xs0 : Int) (xs1 : Int) : px_X d 108 (143, [vR 116, vI x1, vI x2, vI x3, vI x4, vI x5, vI x6, vI x7, vI x8], [vI xs0, vI xs1]) (px_sh L, i, l, r, t) = if x8 = 0 then px_X d 108 (161, [vR 116, vI x1, vI x2, vI x3, vI x4, vI (px_w32 (xs1 - xs0)), vI x6, vI x7, vI x8], [vI 0, vI (i 116 4), vR 116]) (px_sh L, i, l, r, t) else px_X d 108 (161, [vR 116, vI x1, vI x2, vI x3, vI x4, vI (px_w32 (xs1 - xs0)), vI x6, vI x7, vI x8], [vI 1, vI (i 116 4), vR 116]) (px_sh L, i, l, r, t) := ((xs_isub k108_143).trans ((xs_ist k108_144 (Nat.le_of_ble_eq_true rfl) (ls' := [vR 116, vI x1, vI x2, vI x3, vI x4, vI (px_w32 (xs1 - xs0)), vI x6, vI x7, vI x8]) rfl).trans ((xs_aldn k108_146 rfl).trans ((xs_dup k108_147 rfl).trans ((xs_get0 k108_148 (px_s116 L) (Nat.le_of_ble_eq_true rfl)).trans ((xs_ild k108_151 rfl).trans ((xs_ieq k108_153).trans (px_ite (fun c1 => (xs_ic k108_160 (by omega))) (fun c1 => ((xs_ic k108_156 (by omega)).trans (xs_goto k108_157)))))))))))
theorem b108_161 (hr : px_hr r) (d : Nat) (i l : MI) (x1 : Int) (x2 : Int) (x3 : Int) (x4 : Int) (x5 : Int) (x6 : Int) (x7 : Int) (x8 : Int) (xs0 : Int) (xs1 : Int) : px_X (d + 1) 108 (161, [vR 116, vI x1, vI x2, vI x3, vI x4, vI x5, vI x6, vI x7, vI x8], [vI xs0, vI xs1, vR 116]) (px_sh L, i, l, r, t) = (px_C d 33 [vR 117, vI x7] (px_sh L, (px_up i 116 4 (px_w32 (xs1 - xs0))), l, r, t)).bind (fun q => px_X (d + 1) 108 (px_psh (180, [vR 116, vI x1, vI x2, vI x3, vI x4, vI x5, vI x6, vI x7, vI x8], [vI x7, vR 117]) q.1) q.2) := ((xs_isub k108_161).trans ((xs_put0 k108_162 (Or.inl rfl) (px_s116 L) (Nat.le_of_ble_eq_true rfl)).trans ((xs_aldn k108_165 rfl).trans ((xs_get4 k108_166 (px_s116 L) (Nat.le_of_ble_eq_true rfl) (px_r116_3 hr)).trans ((xs_ild k108_169 rfl).trans ((xs_aldn k108_171 rfl).trans ((xs_get4 k108_172 (px_s116 L) (Nat.le_of_ble_eq_true rfl) (px_r116_3 hr)).trans ((xs_ild k108_175 rfl).trans (xs_callsB k108_177 (as := [vR 117, vI x7]) rfl rfl (Nat.le_of_ble_eq_true rfl) (Nat.le_of_ble_eq_true rfl) (Nat.le_of_ble_eq_true rfl))))))))))
theorem b108_180 (hr : px_hr r) (d : Nat) (i l : MI) (x1 : Int) (x2 : Int) (x3 : Int) (x4 : Int) (x5 : Int) (x6 : Int) (x7 : Int) (x8 : Int) (xs0 : Int) (xs1 : Int) : px_X (d + 1) 108 (180, [vR 116, vI x1, vI x2, vI x3, vI x4, vI x5, vI x6, vI x7, vI x8], [vI xs0, vI xs1, vR 117]) (px_sh L, i, l, r, t) = (px_C d 34 [vR 117, vI xs1, vI (px_w32 (xs0 - 1))] (px_sh L, i, l, r, t)).bind (fun q => px_X (d + 1) 108 (px_psh (185, [vR 116, vI x1, vI x2, vI x3, vI x4, vI x5, vI x6, vI x7, vI x8], []) q.1) q.2) := ((xs_ic k108_180 (by omega)).trans ((xs_isub k108_181).trans (xs_callsB k108_182 (as := [vR 117, vI xs1, vI (px_w32 (xs0 - 1))]) rfl rfl (Nat.le_of_ble_eq_true rfl) (Nat.le_of_ble_eq_true rfl) (Nat.le_of_ble_eq_true rfl))))
theorem b108_185 (hr : px_hr r) (d : Nat) (i l : MI) (x1 : Int) (x2 : Int) (x3 : Int) (x4 : Int) (x5 : Int) (x6 : Int) (x7 : Int) (x8 : Int) : px_X d 108 (185, [vR 116, vI x1, vI x2, vI x3, vI x4, vI x5, vI x6, vI x7, vI x8], []) (px_sh L, i, l, r, t) = px_X d 108 (46, [vR 116, vI x1, vI x2, vI x3, vI x4, vI x5, vI (px_w32 (x6 + 1)), vI x7, vI x8], []) (px_sh L, i, l, r, t) := ((xs_iinc k108_185 rfl (by omega) (ls' := [vR 116, vI x1, vI x2, vI x3, vI x4, vI x5, vI (px_w32 (x6 + 1)), vI x7, vI x8]) rfl).trans (xs_goto k108_188))
-- Rescue.countRoom ('R116', 'I')
theorem b109_0 (hr : px_hr r) (d : Nat) (i l : MI) (x1 : Int) : px_X d 109 (0, [vR 116, vI x1, vJ, vJ], []) (px_sh L, i, l, r, t) = if 0 < x1 then px_X d 109 (16, [vR 116, vI x1, vI 0, vJ], []) (px_sh L, (px_up i 116 4 0), l, r, t) else px_X d 109 (16, [vR 116, vI x1, vI 0, vJ], []) (px_sh L, (px_up i 116 4 10), l, r, t) := ((xs_aldn k109_0 rfl).trans ((xs_ildn k109_1 rfl).trans ((xs_igt k109_2).trans (px_ite (fun c1 => ((xs_ic k109_10 (by omega)).trans ((xs_put0 k109_11 (Or.inl rfl) (px_s116 L) (Nat.le_of_ble_eq_true rfl)).trans ((xs_ic k109_14 (by omega)).trans (xs_istn k109_15 (Nat.le_of_ble_eq_true rfl) (ls' := [vR 116, vI x1, vI 0, vJ]) rfl))))) (fun c1 => ((xs_bi k109_5 (by omega)).trans ((xs_goto k109_7).trans ((xs_put0 k109_11 (Or.inl rfl) (px_s116 L) (Nat.le_of_ble_eq_true rfl)).trans ((xs_ic k109_14 (by omega)).trans (xs_istn k109_15 (Nat.le_of_ble_eq_true rfl) (ls' := [vR 116, vI x1, vI 0, vJ]) rfl))))))))))
theorem b109_16 (hr : px_hr r) (d : Nat) (i l : MI) (x1 : Int) (x2 : Int) {v3 : PV} (hn3 : px_nl v3) : px_X (d + 1) 109 (16, [vR 116, vI x1, vI x2, v3], []) (px_sh L, i, l, r, t) = if 8 ≤ x2 then some (none, (px_sh L, i, l, r, t)) else if (i 4 5) ≤ x2 then px_X (d + 1) 109 (48, [vR 116, vI x1, vI x2, v3], [vI 0]) (px_sh L, i, l, r, t) else (px_C d 33 [vR 15, vI x2] (px_sh L, i, l, r, t)).bind (fun q => px_X (d + 1) 109 (px_psh (44, [vR 116, vI x1, vI x2, v3], []) q.1) q.2) := ((xs_ildn k109_16 rfl).trans ((xs_bi k109_17 (by omega)).trans ((xs_jge k109_19).trans (px_ite (fun c1 => (xs_rv k109_86 rfl)) (fun c1 => ((xs_ildn k109_22 rfl).trans ((xs_aldn k109_23 rfl).trans ((xs_get4 k109_24 (px_s116 L) (Nat.le_of_ble_eq_true rfl) (px_r116_0 hr)).trans ((xs_get0 k109_27 (px_s4 L) (Nat.le_of_ble_eq_true rfl)).trans ((xs_jge k109_30).trans (px_ite (fun c2 => (xs_ic k109_47 (by omega))) (fun c2 => ((xs_aldn k109_33 rfl).trans ((xs_get4 k109_34 (px_s116 L) (Nat.le_of_ble_eq_true rfl) (px_r116_0 hr)).trans ((xs_get4 k109_37 (px_s4 L) (Nat.le_of_ble_eq_true rfl) (px_r4_11 hr)).trans ((xs_ildn k109_40 rfl).trans (xs_callsB k109_41 (as := [vR 15, vI x2]) rfl rfl (Nat.le_of_ble_eq_true rfl) (Nat.le_of_ble_eq_true rfl) (Nat.le_of_ble_eq_true rfl))))))))))))))))))
theorem b109_44 (hr : px_hr r) (d : Nat) (i l : MI) (x1 : Int) (x2 : Int) {v3 : PV} (hn3 : px_nl v3) (xs0 : Int) : px_X d 109 (44, [vR 116, vI x1, vI x2, v3], [vI xs0]) (px_sh L, i, l, r, t) = px_X d 109 (48, [vR 116, vI x1, vI x2, v3], [vI xs0]) (px_sh L, i, l, r, t) := (xs_goto k109_44)
theorem b109_48 (hr : px_hr r) (d : Nat) (i l : MI) (x1 : Int) (x2 : Int) {v3 : PV} (hn3 : px_nl v3) (xs0 : Int) : px_X (d + 1) 109 (48, [vR 116, vI x1, vI x2, v3], [vI xs0]) (px_sh L, i, l, r, t) = (px_C d 34 [vR 117, vI x2, vI xs0] (px_sh L, i, l, r, t)).bind (fun q => px_X (d + 1) 109 (px_psh (58, [vR 116, vI x1, vI x2, vI xs0], []) q.1) q.2) := ((xs_istn k109_48 (Nat.le_of_ble_eq_true rfl) (ls' := [vR 116, vI x1, vI x2, vI xs0]) rfl).trans ((xs_aldn k109_49 rfl).trans ((xs_get4 k109_50 (px_s116 L) (Nat.le_of_ble_eq_true rfl) (px_r116_3 hr)).trans ((xs_ildn k109_53 rfl).trans ((xs_ildn k109_54 rfl).trans (xs_callsB k109_55 (as := [vR 117, vI x2, vI xs0]) rfl rfl (Nat.le_of_ble_eq_true rfl) (Nat.le_of_ble_eq_true rfl) (Nat.le_of_ble_eq_true rfl)))))))
theorem b109_58 (hr : px_hr r) (d : Nat) (i l : MI) (x1 : Int) (x2 : Int) (x3 : Int) : px_X (d + 1) 109 (58, [vR 116, vI x1, vI x2, vI x3], []) (px_sh L, i, l, r, t) = (px_C d 56 [vR 4, vI x2] (px_sh L, i, l, r, t)).bind (fun q => px_X (d + 1) 109 (px_psh (66, [vR 116, vI x1, vI x2, vI x3], []) q.1) q.2) := ((xs_aldn k109_58 rfl).trans ((xs_get4 k109_59 (px_s116 L) (Nat.le_of_ble_eq_true rfl) (px_r116_0 hr)).trans ((xs_ildn k109_62 rfl).trans (xs_callvB k109_63 (as := [vI x2]) rfl rfl (Nat.le_of_ble_eq_true rfl) (Nat.le_of_ble_eq_true rfl) (Nat.le_of_ble_eq_true rfl) (px_s4 L) (Nat.le_of_ble_eq_true rfl)))))
theorem b109_66 (hr : px_hr r) (d : Nat) (i l : MI) (x1 : Int) (x2 : Int) (x3 : Int) (xs0 : Int) : px_X d 109 (66, [vR 116, vI x1, vI x2, vI x3], [vI xs0]) (px_sh L, i, l, r, t) = if xs0 < x1 then px_X d 109 (16, [vR 116, vI x1, vI (px_w32 (x2 + 1)), vI x3], []) (px_sh L, i, l, r, t) else px_X d 109 (16, [vR 116, vI x1, vI (px_w32 (x2 + 1)), vI x3], []) (px_sh L, (px_up i 116 4 (px_w32 ((i 116 4) + x3))), l, r, t) := ((xs_ildn k109_66 rfl).trans ((xs_jlt k109_67).trans (px_ite (fun c1 => ((xs_iinc k109_80 rfl (by omega) (ls' := [vR 116, vI x1, vI (px_w32 (x2 + 1)), vI x3]) rfl).trans (xs_goto k109_83))) (fun c1 => ((xs_aldn k109_70 rfl).trans ((xs_dup k109_71 rfl).trans ((xs_get0 k109_72 (px_s116 L) (Nat.le_of_ble_eq_true rfl)).trans ((xs_ildn k109_75 rfl).trans ((xs_iadd k109_76).trans ((xs_put0 k109_77 (Or.inl rfl) (px_s116 L) (Nat.le_of_ble_eq_true rfl)).trans ((xs_iinc k109_80 rfl (by omega) (ls' := [vR 116, vI x1, vI (px_w32 (x2 + 1)), vI x3]) rfl).trans (xs_goto k109_83))))))))))))
-- Rescue.leastWet ('R116', 'I', 'I')
theorem b110_0 (hr : px_hr r) (d : Nat) (i l : MI) (x1 : Int) (x2 : Int) : px_X d 110 (0, [vR 116, vI x1, vI x2, vJ, vJ, vJ, vJ], []) (px_sh L, i, l, r, t) = px_X d 110 (8, [vR 116, vI x1, vI x2, vI x2, vI 0, vI 0, vJ], []) (px_sh L, i, l, r, t) := ((xs_ildn k110_0 rfl).trans ((xs_istn k110_1 (Nat.le_of_ble_eq_true rfl) (ls' := [vR 116, vI x1, vI x2, vI x2, vJ, vJ, vJ]) rfl).trans ((xs_ic k110_2 (by omega)).trans ((xs_ist k110_3 (Nat.le_of_ble_eq_true rfl) (ls' := [vR 116, vI x1, vI x2, vI x2, vI 0, vJ, vJ]) rfl).trans ((xs_ic k110_5 (by omega)).trans (xs_ist k110_6 (Nat.le_of_ble_eq_true rfl) (ls' := [vR 116, vI x1, vI x2, vI x2, vI 0, vI 0, vJ]) rfl))))))
theorem b110_8 (hr : px_hr r) (d : Nat) (i l : MI) (x1 : Int) (x2 : Int) (x3 : Int) (x4 : Int) (x5 : Int) {v6 : PV} (hn6 : px_nl v6) : px_X (d + 1) 110 (8, [vR 116, vI x1, vI x2, vI x3, vI x4, vI x5, v6], []) (px_sh L, i, l, r, t) = if (i 4 6) ≤ x5 then some (some (vI x4), (px_sh L, i, l, r, t)) else (px_C d 33 [vR 17, vI x5] (px_sh L, i, l, r, t)).bind (fun q => px_X (d + 1) 110 (px_psh (32, [vR 116, vI x1, vI x2, vI x3, vI x4, vI x5, v6], []) q.1) q.2) := ((xs_ild k110_8 rfl).trans ((xs_aldn k110_10 rfl).trans ((xs_get4 k110_11 (px_s116 L) (Nat.le_of_ble_eq_true rfl) (px_r116_0 hr)).trans ((xs_get0 k110_14 (px_s4 L) (Nat.le_of_ble_eq_true rfl)).trans ((xs_jge k110_17).trans (px_ite (fun c1 => ((xs_ild k110_73 rfl).trans (xs_ri k110_75 rfl))) (fun c1 => ((xs_aldn k110_20 rfl).trans ((xs_get4 k110_21 (px_s116 L) (Nat.le_of_ble_eq_true rfl) (px_r116_0 hr)).trans ((xs_get4 k110_24 (px_s4 L) (Nat.le_of_ble_eq_true rfl) (px_r4_13 hr)).trans ((xs_ild k110_27 rfl).trans (xs_callsB k110_29 (as := [vR 17, vI x5]) rfl rfl (Nat.le_of_ble_eq_true rfl) (Nat.le_of_ble_eq_true rfl) (Nat.le_of_ble_eq_true rfl)))))))))))))
theorem b110_32 (hr : px_hr r) (d : Nat) (i l : MI) (x1 : Int) (x2 : Int) (x3 : Int) (x4 : Int) (x5 : Int) {v6 : PV} (hn6 : px_nl v6) (xs0 : Int) : px_X (d + 1) 110 (32, [vR 116, vI x1, vI x2, vI x3, vI x4, vI x5, v6], [vI xs0]) (px_sh L, i, l, r, t) = (px_C d 32 [vI x1, vI xs0] (px_sh L, i, l, r, t)).bind (fun q => px_X (d + 1) 110 (px_psh (40, [vR 116, vI x1, vI x2, vI x3, vI x4, vI x5, vI xs0], []) q.1) q.2) := ((xs_ist k110_32 (Nat.le_of_ble_eq_true rfl) (ls' := [vR 116, vI x1, vI x2, vI x3, vI x4, vI x5, vI xs0]) rfl).trans ((xs_ildn k110_34 rfl).trans ((xs_ild k110_35 rfl).trans (xs_callsB k110_37 (as := [vI x1, vI xs0]) rfl rfl (Nat.le_of_ble_eq_true rfl) (Nat.le_of_ble_eq_true rfl) (Nat.le_of_ble_eq_true rfl)))))
theorem b110_40 (hr : px_hr r) (d : Nat) (i l : MI) (x1 : Int) (x2 : Int) (x3 : Int) (x4 : Int) (x5 : Int) (x6 : Int) (xs0 : Int) : px_X (d + 1) 110 (40, [vR 116, vI x1, vI x2, vI x3, vI x4, vI x5, vI x6], [vI xs0]) (px_sh L, i, l, r, t) = if xs0 = 0 then px_X (d + 1) 110 (8, [vR 116, vI x1, vI x2, vI x3, vI x4, vI (px_w32 (x5 + 1)), vI x6], []) (px_sh L, i, l, r, t) else if x3 ≤ 0 then (px_C d 112 [vR 116, vI (px_shl 1 x6)] (px_sh L, i, l, r, t)).bind (fun q => px_X (d + 1) 110 (px_psh (61, [vR 116, vI x1, vI x2, vI x3, vI x4, vI x5, vI x6], [vI x4]) q.1) q.2) else px_X (d + 1) 110 (8, [vR 116, vI x1, vI x2, vI (px_w32 (x3 + (-1))), vI (px_w32 (x4 + 0)), vI (px_w32 (x5 + 1)), vI x6], []) (px_sh L, i, l, r, t) := ((xs_ieq k110_40).trans (px_ite (fun c1 => ((xs_iinc k110_67 rfl (by omega) (ls' := [vR 116, vI x1, vI x2, vI x3, vI x4, vI (px_w32 (x5 + 1)), vI x6]) rfl).trans (xs_goto k110_70))) (fun c1 => ((xs_ild k110_43 rfl).trans ((xs_ildn k110_45 rfl).trans ((xs_ile k110_46).trans (px_ite (fun c2 => ((xs_aldn k110_53 rfl).trans ((xs_ic k110_54 (by omega)).trans ((xs_ild k110_55 rfl).trans ((xs_ishl k110_57).trans (xs_callvB k110_58 (as := [vI (px_shl 1 x6)]) rfl rfl (Nat.le_of_ble_eq_true rfl) (Nat.le_of_ble_eq_true rfl) (Nat.le_of_ble_eq_true rfl) (px_s116 L) (Nat.le_of_ble_eq_true rfl))))))) (fun c2 => ((xs_ic k110_49 (by omega)).trans ((xs_goto k110_50).trans ((xs_iadd k110_61).trans ((xs_ist k110_62 (Nat.le_of_ble_eq_true rfl) (ls' := [vR 116, vI x1, vI x2, vI x3, vI (px_w32 (x4 + 0)), vI x5, vI x6]) rfl).trans ((xs_iinc k110_64 rfl (by omega) (ls' := [vR 116, vI x1, vI x2, vI (px_w32 (x3 + (-1))), vI (px_w32 (x4 + 0)), vI x5, vI x6]) rfl).trans ((xs_iinc k110_67 rfl (by omega) (ls' := [vR 116, vI x1, vI x2, vI (px_w32 (x3 + (-1))), vI (px_w32 (x4 + 0)), vI (px_w32 (x5 + 1)), vI x6]) rfl).trans (xs_goto k110_70)))))))))))))))
theorem b110_61 (hr : px_hr r) (d : Nat) (i l : MI) (x1 : Int) (x2 : Int) (x3 : Int) (x4 : Int) (x5 : Int) (x6 : Int) (xs0 : Int) (xs1 : Int) : px_X d 110 (61, [vR 116, vI x1, vI x2, vI x3, vI x4, vI x5, vI x6], [vI xs0, vI xs1]) (px_sh L, i, l, r, t) = px_X d 110 (8, [vR 116, vI x1, vI x2, vI (px_w32 (x3 + (-1))), vI (px_w32 (xs1 + xs0)), vI (px_w32 (x5 + 1)), vI x6], []) (px_sh L, i, l, r, t) := ((xs_iadd k110_61).trans ((xs_ist k110_62 (Nat.le_of_ble_eq_true rfl) (ls' := [vR 116, vI x1, vI x2, vI x3, vI (px_w32 (xs1 + xs0)), vI x5, vI x6]) rfl).trans ((xs_iinc k110_64 rfl (by omega) (ls' := [vR 116, vI x1, vI x2, vI (px_w32 (x3 + (-1))), vI (px_w32 (xs1 + xs0)), vI x5, vI x6]) rfl).trans ((xs_iinc k110_67 rfl (by omega) (ls' := [vR 116, vI x1, vI x2, vI (px_w32 (x3 + (-1))), vI (px_w32 (xs1 + xs0)), vI (px_w32 (x5 + 1)), vI x6]) rfl).trans (xs_goto k110_70)))))
-- Rescue.placeFor ('R116', 'I', 'I', 'I', 'I')
theorem b111_0 (hr : px_hr r) (d : Nat) (i l : MI) (x1 : Int) (x2 : Int) (x3 : Int) (x4 : Int) : px_X d 111 (0, [vR 116, vI x1, vI x2, vI x3, vI x4, vJ, vJ, vJ], []) (px_sh L, i, l, r, t) = px_X d 111 (3, [vR 116, vI x1, vI x2, vI x3, vI x4, vI 0, vJ, vJ], []) (px_sh L, i, l, r, t) := ((xs_ic k111_0 (by omega)).trans (xs_ist k111_1 (Nat.le_of_ble_eq_true rfl) (ls' := [vR 116, vI x1, vI x2, vI x3, vI x4, vI 0, vJ, vJ]) rfl))
theorem b111_3 (hr : px_hr r) (d : Nat) (i l : MI) (x1 : Int) (x2 : Int) (x3 : Int) (x4 : Int) (x5 : Int) {v6 : PV} (hn6 : px_nl v6) {v7 : PV} (hn7 : px_nl v7) : px_X (d + 1) 111 (3, [vR 116, vI x1, vI x2, vI x3, vI x4, vI x5, v6, v7], []) (px_sh L, i, l, r, t) = if (i 4 5) ≤ x5 then some (some (vI 8), (px_sh L, i, l, r, t)) else (px_C d 33 [vR 117, vI x5] (px_sh L, i, l, r, t)).bind (fun q => px_X (d + 1) 111 (px_psh (24, [vR 116, vI x1, vI x2, vI x3, vI x4, vI x5, v6, v7], []) q.1) q.2) := ((xs_ild k111_3 rfl).trans ((xs_aldn k111_5 rfl).trans ((xs_get4 k111_6 (px_s116 L) (Nat.le_of_ble_eq_true rfl) (px_r116_0 hr)).trans ((xs_get0 k111_9 (px_s4 L) (Nat.le_of_ble_eq_true rfl)).trans ((xs_jge k111_12).trans (px_ite (fun c1 => ((xs_bi k111_108 (by omega)).trans (xs_ri k111_110 rfl))) (fun c1 => ((xs_aldn k111_15 rfl).trans ((xs_get4 k111_16 (px_s116 L) (Nat.le_of_ble_eq_true rfl) (px_r116_3 hr)).trans ((xs_ild k111_19 rfl).trans (xs_callsB k111_21 (as := [vR 117, vI x5]) rfl rfl (Nat.le_of_ble_eq_true rfl) (Nat.le_of_ble_eq_true rfl) (Nat.le_of_ble_eq_true rfl))))))))))))
theorem b111_24 (hr : px_hr r) (d : Nat) (i l : MI) (x1 : Int) (x2 : Int) (x3 : Int) (x4 : Int) (x5 : Int) {v6 : PV} (hn6 : px_nl v6) {v7 : PV} (hn7 : px_nl v7) (xs0 : Int) : px_X (d + 1) 111 (24, [vR 116, vI x1, vI x2, vI x3, vI x4, vI x5, v6, v7], [vI xs0]) (px_sh L, i, l, r, t) = if 0 < xs0 then (px_C d 56 [vR 4, vI x5] (px_sh L, i, l, r, t)).bind (fun q => px_X (d + 1) 111 (px_psh (39, [vR 116, vI x1, vI x2, vI x3, vI x4, vI x5, v6, v7], []) q.1) q.2) else px_X (d + 1) 111 (3, [vR 116, vI x1, vI x2, vI x3, vI x4, vI (px_w32 (x5 + 1)), v6, v7], []) (px_sh L, i, l, r, t) := ((xs_igt k111_24).trans (px_ite (fun c1 => ((xs_aldn k111_30 rfl).trans ((xs_get4 k111_31 (px_s116 L) (Nat.le_of_ble_eq_true rfl) (px_r116_0 hr)).trans ((xs_ild k111_34 rfl).trans (xs_callvB k111_36 (as := [vI x5]) rfl rfl (Nat.le_of_ble_eq_true rfl) (Nat.le_of_ble_eq_true rfl) (Nat.le_of_ble_eq_true rfl) (px_s4 L) (Nat.le_of_ble_eq_true rfl)))))) (fun c1 => ((xs_goto k111_27).trans ((xs_iinc k111_102 rfl (by omega) (ls' := [vR 116, vI x1, vI x2, vI x3, vI x4, vI (px_w32 (x5 + 1)), v6, v7]) rfl).trans (xs_goto k111_105))))))
theorem b111_39 (hr : px_hr r) (d : Nat) (i l : MI) (x1 : Int) (x2 : Int) (x3 : Int) (x4 : Int) (x5 : Int) {v6 : PV} (hn6 : px_nl v6) {v7 : PV} (hn7 : px_nl v7) (xs0 : Int) : px_X d 111 (39, [vR 116, vI x1, vI x2, vI x3, vI x4, vI x5, v6, v7], [vI xs0]) (px_sh L, i, l, r, t) = if xs0 < x3 then px_X d 111 (48, [vR 116, vI x1, vI x2, vI x3, vI x4, vI x5, v6, v7], [vI 0]) (px_sh L, i, l, r, t) else px_X d 111 (48, [vR 116, vI x1, vI x2, vI x3, vI x4, vI x5, v6, v7], [vI 1]) (px_sh L, i, l, r, t) := ((xs_ildn k111_39 rfl).trans ((xs_jlt k111_40).trans (px_ite (fun c1 => (xs_ic k111_47 (by omega))) (fun c1 => ((xs_ic k111_43 (by omega)).trans (xs_goto k111_44))))))
theorem b111_48 (hr : px_hr r) (d : Nat) (i l : MI) (x1 : Int) (x2 : Int) (x3 : Int) (x4 : Int) (x5 : Int) {v6 : PV} (hn6 : px_nl v6) {v7 : PV} (hn7 : px_nl v7) (xs0 : Int) : px_X (d + 1) 111 (48, [vR 116, vI x1, vI x2, vI x3, vI x4, vI x5, v6, v7], [vI xs0]) (px_sh L, i, l, r, t) = if xs0 = 0 then (px_C d 112 [vR 116, vI (px_shl 1 x1)] (px_sh L, i, l, r, t)).bind (fun q => px_X (d + 1) 111 (px_psh (66, [vR 116, vI x1, vI x2, vI x3, vI x4, vI x5, vI xs0, v7], []) q.1) q.2) else px_X (d + 1) 111 (66, [vR 116, vI x1, vI x2, vI x3, vI x4, vI x5, vI xs0, v7], [vI 0]) (px_sh L, i, l, r, t) := ((xs_ist k111_48 (Nat.le_of_ble_eq_true rfl) (ls' := [vR 116, vI x1, vI x2, vI x3, vI x4, vI x5, vI xs0, v7]) rfl).trans ((xs_ild k111_50 rfl).trans ((xs_ieq k111_52).trans (px_ite (fun c1 => ((xs_aldn k111_59 rfl).trans ((xs_ic k111_60 (by omega)).trans ((xs_ildn k111_61 rfl).trans ((xs_ishl k111_62).trans (xs_callvB k111_63 (as := [vI (px_shl 1 x1)]) rfl rfl (Nat.le_of_ble_eq_true rfl) (Nat.le_of_ble_eq_true rfl) (Nat.le_of_ble_eq_true rfl) (px_s116 L) (Nat.le_of_ble_eq_true rfl))))))) (fun c1 => ((xs_ic k111_55 (by omega)).trans (xs_goto k111_56)))))))
theorem b111_66 (hr : px_hr r) (d : Nat) (i l : MI) (x1 : Int) (x2 : Int) (x3 : Int) (x4 : Int) (x5 : Int) (x6 : Int) {v7 : PV} (hn7 : px_nl v7) (xs0 : Int) : px_X d 111 (66, [vR 116, vI x1, vI x2, vI x3, vI x4, vI x5, vI x6, v7], [vI xs0]) (px_sh L, i, l, r, t) = if x6 = 0 then px_X d 111 (90, [vR 116, vI x1, vI x2, vI x3, vI x4, vI x5, vI x6, vI xs0], [vI (i 116 4), vI x2, vR 116, vI xs0]) (px_sh L, i, l, r, t) else px_X d 111 (90, [vR 116, vI x1, vI x2, vI x3, vI x4, vI x5, vI x6, vI xs0], [vI (px_w32 ((i 116 4) - 1)), vI x2, vR 116, vI xs0]) (px_sh L, i, l, r, t) := ((xs_ist k111_66 (Nat.le_of_ble_eq_true rfl) (ls' := [vR 116, vI x1, vI x2, vI x3, vI x4, vI x5, vI x6, vI xs0]) rfl).trans ((xs_ild k111_68 rfl).trans ((xs_aldn k111_70 rfl).trans ((xs_ildn k111_71 rfl).trans ((xs_ild k111_72 rfl).trans ((xs_ieq k111_74).trans (px_ite (fun c1 => ((xs_aldn k111_86 rfl).trans (xs_get0 k111_87 (px_s116 L) (Nat.le_of_ble_eq_true rfl)))) (fun c1 => ((xs_aldn k111_77 rfl).trans ((xs_get0 k111_78 (px_s116 L) (Nat.le_of_ble_eq_true rfl)).trans ((xs_ic k111_81 (by omega)).trans ((xs_isub k111_82).trans (xs_goto k111_83)))))))))))))
theorem b111_90 (hr : px_hr r) (d : Nat) (i l : MI) (x1 : Int) (x2 : Int) (x3 : Int) (x4 : Int) (x5 : Int) (x6 : Int) (x7 : Int) (xs0 : Int) (xs1 : Int) (xs3 : Int) : px_X (d + 1) 111 (90, [vR 116, vI x1, vI x2, vI x3, vI x4, vI x5, vI x6, vI x7], [vI xs0, vI xs1, vR 116, vI xs3]) (px_sh L, i, l, r, t) = (px_C d 110 [vR 116, vI xs1, vI xs0] (px_sh L, i, l, r, t)).bind (fun q => px_X (d + 1) 111 (px_psh (93, [vR 116, vI x1, vI x2, vI x3, vI x4, vI x5, vI x6, vI x7], [vI xs3]) q.1) q.2) := (xs_callvB k111_90 (as := [vI xs1, vI xs0]) rfl rfl (Nat.le_of_ble_eq_true rfl) (Nat.le_of_ble_eq_true rfl) (Nat.le_of_ble_eq_true rfl) (px_s116 L) (Nat.le_of_ble_eq_true rfl))
theorem b111_93 (hr : px_hr r) (d : Nat) (i l : MI) (x1 : Int) (x2 : Int) (x3 : Int) (x4 : Int) (x5 : Int) (x6 : Int) (x7 : Int) (xs0 : Int) (xs1 : Int) : px_X d 111 (93, [vR 116, vI x1, vI x2, vI x3, vI x4, vI x5, vI x6, vI x7], [vI xs0, vI xs1]) (px_sh L, i, l, r, t) = if x4 < (px_w32 (xs1 + xs0)) then px_X d 111 (3, [vR 116, vI x1, vI x2, vI x3, vI x4, vI (px_w32 (x5 + 1)), vI x6, vI x7], []) (px_sh L, i, l, r, t) else some (some (vI x5), (px_sh L, i, l, r, t)) := ((xs_iadd k111_93).trans ((xs_ild k111_94 rfl).trans ((xs_jgt k111_96).trans (px_ite (fun c1 => ((xs_iinc k111_102 rfl (by omega) (ls' := [vR 116, vI x1, vI x2, vI x3, vI x4, vI (px_w32 (x5 + 1)), vI x6, vI x7]) rfl).trans (xs_goto k111_105))) (fun c1 => ((xs_ild k111_99 rfl).trans (xs_ri k111_101 rfl)))))))
-- Rescue.worthOf ('R116', 'I')
theorem b112_0 (hr : px_hr r) (d : Nat) (i l : MI) (x1 : Int) : px_X d 112 (0, [vR 116, vI x1, vJ, vJ, vJ], []) (px_sh L, i, l, r, t) = px_X d 112 (4, [vR 116, vI x1, vI 0, vI 0, vJ], []) (px_sh L, i, l, r, t) := ((xs_ic k112_0 (by omega)).trans ((xs_istn k112_1 (Nat.le_of_ble_eq_true rfl) (ls' := [vR 116, vI x1, vI 0, vJ, vJ]) rfl).trans ((xs_ic k112_2 (by omega)).trans (xs_istn k112_3 (Nat.le_of_ble_eq_true rfl) (ls' := [vR 116, vI x1, vI 0, vI 0, vJ]) rfl))))
theorem b112_4 (hr : px_hr r) (d : Nat) (i l : MI) (x1 : Int) (x2 : Int) (x3 : Int) {v4 : PV} (hn4 : px_nl v4) : px_X (d + 1) 112 (4, [vR 116, vI x1, vI x2, vI x3, v4], []) (px_sh L, i, l, r, t) = if (i 4 6) ≤ x3 then some (some (vI x2), (px_sh L, i, l, r, t)) else (px_C d 52 [vR 4, vI x3] (px_sh L, i, l, r, t)).bind (fun q => px_X (d + 1) 112 (px_psh (23, [vR 116, vI x1, vI x2, vI x3, v4], []) q.1) q.2) := ((xs_ildn k112_4 rfl).trans ((xs_aldn k112_5 rfl).trans ((xs_get4 k112_6 (px_s116 L) (Nat.le_of_ble_eq_true rfl) (px_r116_0 hr)).trans ((xs_get0 k112_9 (px_s4 L) (Nat.le_of_ble_eq_true rfl)).trans ((xs_jge k112_12).trans (px_ite (fun c1 => ((xs_ildn k112_54 rfl).trans (xs_ri k112_55 rfl))) (fun c1 => ((xs_aldn k112_15 rfl).trans ((xs_get4 k112_16 (px_s116 L) (Nat.le_of_ble_eq_true rfl) (px_r116_0 hr)).trans ((xs_ildn k112_19 rfl).trans (xs_callvB k112_20 (as := [vI x3]) rfl rfl (Nat.le_of_ble_eq_true rfl) (Nat.le_of_ble_eq_true rfl) (Nat.le_of_ble_eq_true rfl) (px_s4 L) (Nat.le_of_ble_eq_true rfl))))))))))))
theorem b112_23_N (hr : px_hr r) (d : Nat) (i l : MI) (x1 : Int) (x2 : Int) (x3 : Int) {v4 : PV} (hn4 : px_nl v4) : px_X d 112 (23, [vR 116, vI x1, vI x2, vI x3, v4], [vN]) (px_sh L, i, l, r, t) = px_X d 112 (4, [vR 116, vI x1, vI x2, vI (px_w32 (x3 + 1)), vN], []) (px_sh L, i, l, r, t) := ((xs_ast k112_23 (Nat.le_of_ble_eq_true rfl) (ls' := [vR 116, vI x1, vI x2, vI x3, vN]) rfl).trans ((xs_ald k112_25 rfl).trans ((xs_nullN k112_27).trans ((xs_iinc k112_48 rfl (by omega) (ls' := [vR 116, vI x1, vI x2, vI (px_w32 (x3 + 1)), vN]) rfl).trans (xs_goto k112_51)))))
theorem b112_23_g (hr : px_hr r) (d : Nat) (i l : MI) (x1 : Int) (x2 : Int) (x3 : Int) {v4 : PV} (hn4 : px_nl v4) {ks0 : Nat} (hgs0 : px_gs ks0) : px_X (d + 1) 112 (23, [vR 116, vI x1, vI x2, vI x3, v4], [vR ks0]) (px_sh L, i, l, r, t) = (px_C d 32 [vI x1, vI x3] (px_sh L, i, l, r, t)).bind (fun q => px_X (d + 1) 112 (px_psh (35, [vR 116, vI x1, vI x2, vI x3, vR ks0], []) q.1) q.2) := ((xs_ast k112_23 (Nat.le_of_ble_eq_true rfl) (ls' := [vR 116, vI x1, vI x2, vI x3, vR ks0]) rfl).trans ((xs_ald k112_25 rfl).trans ((xs_nullR k112_27).trans ((xs_ildn k112_30 rfl).trans ((xs_ildn k112_31 rfl).trans (xs_callsB k112_32 (as := [vI x1, vI x3]) rfl rfl (Nat.le_of_ble_eq_true rfl) (Nat.le_of_ble_eq_true rfl) (Nat.le_of_ble_eq_true rfl)))))))
theorem b112_35 (hr : px_hr r) (d : Nat) (i l : MI) (x1 : Int) (x2 : Int) (x3 : Int) {k4 : Nat} (hg4 : px_gs k4) (xs0 : Int) : px_X d 112 (35, [vR 116, vI x1, vI x2, vI x3, vR k4], [vI xs0]) (px_sh L, i, l, r, t) = if xs0 = 0 then px_X d 112 (4, [vR 116, vI x1, vI x2, vI (px_w32 (x3 + 1)), vR k4], []) (px_sh L, i, l, r, t) else px_X d 112 (4, [vR 116, vI x1, vI (px_w32 (x2 + (px_w32 ((i k4 0) + 1)))), vI (px_w32 (x3 + 1)), vR k4], []) (px_sh L, i, l, r, t) := ((xs_ieq k112_35).trans (px_ite (fun c1 => ((xs_iinc k112_48 rfl (by omega) (ls' := [vR 116, vI x1, vI x2, vI (px_w32 (x3 + 1)), vR k4]) rfl).trans (xs_goto k112_51))) (fun c1 => ((xs_ildn k112_38 rfl).trans ((xs_ald k112_39 rfl).trans ((xs_get0 k112_41 (px_gs_sh hg4) (px_gs_3 hg4)).trans ((xs_ic k112_44 (by omega)).trans ((xs_iadd k112_45).trans ((xs_iadd k112_46).trans ((xs_istn k112_47 (Nat.le_of_ble_eq_true rfl) (ls' := [vR 116, vI x1, vI (px_w32 (x2 + (px_w32 ((i k4 0) + 1)))), vI x3, vR k4]) rfl).trans ((xs_iinc k112_48 rfl (by omega) (ls' := [vR 116, vI x1, vI (px_w32 (x2 + (px_w32 ((i k4 0) + 1)))), vI (px_w32 (x3 + 1)), vR k4]) rfl).trans (xs_goto k112_51))))))))))))
-- Rescue.getOut ('R116', 'I')
theorem b113_0 (hr : px_hr r) (d : Nat) (i l : MI) (x1 : Int) : px_X (d + 1) 113 (0, [vR 116, vI x1, vJ, vJ, vJ, vJ, vJ], []) (px_sh L, i, l, r, t) = (px_C d 57 [vR 4] (px_sh L, i, l, r, t)).bind (fun q => px_X (d + 1) 113 (px_psh (7, [vR 116, vI x1, vJ, vJ, vJ, vJ, vJ], []) q.1) q.2) := ((xs_aldn k113_0 rfl).trans ((xs_get4 k113_1 (px_s116 L) (Nat.le_of_ble_eq_true rfl) (px_r116_0 hr)).trans (xs_callvB k113_4 (as := []) rfl rfl (Nat.le_of_ble_eq_true rfl) (Nat.le_of_ble_eq_true rfl) (Nat.le_of_ble_eq_true rfl) (px_s4 L) (Nat.le_of_ble_eq_true rfl))))
theorem b113_7 (hr : px_hr r) (d : Nat) (i l : MI) (x1 : Int) (xs0 : Int) : px_X (d + 1) 113 (7, [vR 116, vI x1, vJ, vJ, vJ, vJ, vJ], [vI xs0]) (px_sh L, i, l, r, t) = (px_C d 114 [vR 116, vI xs0, vI x1] (px_sh L, i, l, r, t)).bind (fun q => px_X (d + 1) 113 (px_psh (14, [vR 116, vI x1, vI xs0, vJ, vJ, vJ, vJ], []) q.1) q.2) := ((xs_istn k113_7 (Nat.le_of_ble_eq_true rfl) (ls' := [vR 116, vI x1, vI xs0, vJ, vJ, vJ, vJ]) rfl).trans ((xs_aldn k113_8 rfl).trans ((xs_ildn k113_9 rfl).trans ((xs_ildn k113_10 rfl).trans (xs_callvB k113_11 (as := [vI xs0, vI x1]) rfl rfl (Nat.le_of_ble_eq_true rfl) (Nat.le_of_ble_eq_true rfl) (Nat.le_of_ble_eq_true rfl) (px_s116 L) (Nat.le_of_ble_eq_true rfl))))))
theorem b113_14 (hr : px_hr r) (d : Nat) (i l : MI) (x1 : Int) (x2 : Int) : px_X (d + 1) 113 (14, [vR 116, vI x1, vI x2, vJ, vJ, vJ, vJ], []) (px_sh L, i, l, r, t) = (px_C d 115 [vR 116, vI x2] (px_sh L, i, l, r, t)).bind (fun q => px_X (d + 1) 113 (px_psh (19, [vR 116, vI x1, vI x2, vJ, vJ, vJ, vJ], []) q.1) q.2) := ((xs_aldn k113_14 rfl).trans ((xs_ildn k113_15 rfl).trans (xs_callvB k113_16 (as := [vI x2]) rfl rfl (Nat.le_of_ble_eq_true rfl) (Nat.le_of_ble_eq_true rfl) (Nat.le_of_ble_eq_true rfl) (px_s116 L) (Nat.le_of_ble_eq_true rfl))))
theorem b113_19 (hr : px_hr r) (d : Nat) (i l : MI) (x1 : Int) (x2 : Int) : px_X d 113 (19, [vR 116, vI x1, vI x2, vJ, vJ, vJ, vJ], []) (px_sh L, i, l, r, t) = px_X d 113 (27, [vR 116, vI x1, vI x2, vI 0, vI 0, vI 1, vJ], []) (px_sh L, i, l, r, t) := ((xs_ic k113_19 (by omega)).trans ((xs_istn k113_20 (Nat.le_of_ble_eq_true rfl) (ls' := [vR 116, vI x1, vI x2, vI 0, vJ, vJ, vJ]) rfl).trans ((xs_ic k113_21 (by omega)).trans ((xs_ist k113_22 (Nat.le_of_ble_eq_true rfl) (ls' := [vR 116, vI x1, vI x2, vI 0, vI 0, vJ, vJ]) rfl).trans ((xs_ic k113_24 (by omega)).trans (xs_ist k113_25 (Nat.le_of_ble_eq_true rfl) (ls' := [vR 116, vI x1, vI x2, vI 0, vI 0, vI 1, vJ]) rfl))))))
theorem b113_27 (hr : px_hr r) (d : Nat) (i l : MI) (x1 : Int) (x2 : Int) (x3 : Int) (x4 : Int) (x5 : Int) {v6 : PV} (hn6 : px_nl v6) : px_X (d + 1) 113 (27, [vR 116, vI x1, vI x2, vI x3, vI x4, vI x5, v6], []) (px_sh L, i, l, r, t) = if x2 < x5 then some (some (vI x3), (px_sh L, i, l, r, t)) else (px_C d 112 [vR 116, vI x5] (px_sh L, i, l, r, t)).bind (fun q => px_X (d + 1) 113 (px_psh (39, [vR 116, vI x1, vI x2, vI x3, vI x4, vI x5, v6], []) q.1) q.2) := ((xs_ild k113_27 rfl).trans ((xs_ildn k113_29 rfl).trans ((xs_jgt k113_30).trans (px_ite (fun c1 => ((xs_ildn k113_80 rfl).trans (xs_ri k113_81 rfl))) (fun c1 => ((xs_aldn k113_33 rfl).trans ((xs_ild k113_34 rfl).trans (xs_callvB k113_36 (as := [vI x5]) rfl rfl (Nat.le_of_ble_eq_true rfl) (Nat.le_of_ble_eq_true rfl) (Nat.le_of_ble_eq_true rfl) (px_s116 L) (Nat.le_of_ble_eq_true rfl)))))))))
theorem b113_39 (hr : px_hr r) (d : Nat) (i l : MI) (x1 : Int) (x2 : Int) (x3 : Int) (x4 : Int) (x5 : Int) {v6 : PV} (hn6 : px_nl v6) (xs0 : Int) : px_X (d + 1) 113 (39, [vR 116, vI x1, vI x2, vI x3, vI x4, vI x5, v6], [vI xs0]) (px_sh L, i, l, r, t) = if (px_and x5 (px_xor x2 (-1))) = 0 then if xs0 ≤ x4 then px_X (d + 1) 113 (27, [vR 116, vI x1, vI x2, vI x3, vI x4, vI (px_w32 (x5 + 1)), vI xs0], []) (px_sh L, i, l, r, t) else (px_C d 116 [vR 116, vI x5, vI x1] (px_sh L, i, l, r, t)).bind (fun q => px_X (d + 1) 113 (px_psh (64, [vR 116, vI x1, vI x2, vI x3, vI x4, vI x5, vI xs0], []) q.1) q.2) else px_X (d + 1) 113 (27, [vR 116, vI x1, vI x2, vI x3, vI x4, vI (px_w32 (x5 + 1)), vI xs0], []) (px_sh L, i, l, r, t) := ((xs_ist k113_39 (Nat.le_of_ble_eq_true rfl) (ls' := [vR 116, vI x1, vI x2, vI x3, vI x4, vI x5, vI xs0]) rfl).trans ((xs_ild k113_41 rfl).trans ((xs_ildn k113_43 rfl).trans ((xs_ic k113_44 (by omega)).trans ((xs_ixor k113_45).trans ((xs_iand k113_46).trans ((xs_ine k113_47).trans (px_ite (fun c1 => ((xs_ild k113_50 rfl).trans ((xs_ild k113_52 rfl).trans ((xs_jle k113_54).trans (px_ite (fun c2 => ((xs_iinc k113_74 rfl (by omega) (ls' := [vR 116, vI x1, vI x2, vI x3, vI x4, vI (px_w32 (x5 + 1)), vI xs0]) rfl).trans (xs_goto k113_77))) (fun c2 => ((xs_aldn k113_57 rfl).trans ((xs_ild k113_58 rfl).trans ((xs_ildn k113_60 rfl).trans (xs_callvB k113_61 (as := [vI x5, vI x1]) rfl rfl (Nat.le_of_ble_eq_true rfl) (Nat.le_of_ble_eq_true rfl) (Nat.le_of_ble_eq_true rfl) (px_s116 L) (Nat.le_of_ble_eq_true rfl))))))))))) (fun c1 => ((xs_iinc k113_74 rfl (by omega) (ls' := [vR 116, vI x1, vI x2, vI x3, vI x4, vI (px_w32 (x5 + 1)), vI xs0]) rfl).trans (xs_goto k113_77)))))))))))
theorem b113_64 (hr : px_hr r) (d : Nat) (i l : MI) (x1 : Int) (x2 : Int) (x3 : Int) (x4 : Int) (x5 : Int) (x6 : Int) (xs0 : Int) : px_X d 113 (64, [vR 116, vI x1, vI x2, vI x3, vI x4, vI x5, vI x6], [vI xs0]) (px_sh L, i, l, r, t) = if xs0 = 0 then px_X d 113 (27, [vR 116, vI x1, vI x2, vI x3, vI x4, vI (px_w32 (x5 + 1)), vI x6], []) (px_sh L, i, l, r, t) else px_X d 113 (27, [vR 116, vI x1, vI x2, vI x5, vI x6, vI (px_w32 (x5 + 1)), vI x6], []) (px_sh L, i, l, r, t) := ((xs_ieq k113_64).trans (px_ite (fun c1 => ((xs_iinc k113_74 rfl (by omega) (ls' := [vR 116, vI x1, vI x2, vI x3, vI x4, vI (px_w32 (x5 + 1)), vI x6]) rfl).trans (xs_goto k113_77))) (fun c1 => ((xs_ild k113_67 rfl).trans ((xs_istn k113_69 (Nat.le_of_ble_eq_true rfl) (ls' := [vR 116, vI x1, vI x2, vI x5, vI x4, vI x5, vI x6]) rfl).trans ((xs_ild k113_70 rfl).trans ((xs_ist k113_72 (Nat.le_of_ble_eq_true rfl) (ls' := [vR 116, vI x1, vI x2, vI x5, vI x6, vI x5, vI x6]) rfl).trans ((xs_iinc k113_74 rfl (by omega) (ls' := [vR 116, vI x1, vI x2, vI x5, vI x6, vI (px_w32 (x5 + 1)), vI x6]) rfl).trans (xs_goto k113_77)))))))))
-- Rescue.findEnds ('R116', 'I', 'I')
theorem b114_0 (hr : px_hr r) (d : Nat) (i l : MI) (x1 : Int) (x2 : Int) : px_X (d + 1) 114 (0, [vR 116, vI x1, vI x2, vJ, vJ, vJ, vJ, vJ, vJ], []) (px_sh L, i, l, r, t) = (px_C d 241 [vR 118, vI 1440] (px_sh L, i, l, r, t)).bind (fun q => px_X (d + 1) 114 (px_psh (10, [vR 116, vI x1, vI x2, vJ, vJ, vJ, vJ, vJ, vJ], []) q.1) q.2) := ((xs_aldn k114_0 rfl).trans ((xs_get4 k114_1 (px_s116 L) (Nat.le_of_ble_eq_true rfl) (px_r116_5 hr)).trans ((xs_si k114_4 (by omega)).trans (xs_callsB k114_7 (as := [vR 118, vI 1440]) rfl rfl (Nat.le_of_ble_eq_true rfl) (Nat.le_of_ble_eq_true rfl) (Nat.le_of_ble_eq_true rfl)))))
theorem b114_10 (hr : px_hr r) (d : Nat) (i l : MI) (x1 : Int) (x2 : Int) : px_X d 114 (10, [vR 116, vI x1, vI x2, vJ, vJ, vJ, vJ, vJ, vJ], []) (px_sh L, i, l, r, t) = px_X d 114 (15, [vR 116, vI x1, vI x2, vI x1, vI x2, vJ, vJ, vJ, vJ], []) (px_sh L, i, l, r, t) := ((xs_ildn k114_10 rfl).trans ((xs_istn k114_11 (Nat.le_of_ble_eq_true rfl) (ls' := [vR 116, vI x1, vI x2, vI x1, vJ, vJ, vJ, vJ, vJ]) rfl).trans ((xs_ildn k114_12 rfl).trans (xs_ist k114_13 (Nat.le_of_ble_eq_true rfl) (ls' := [vR 116, vI x1, vI x2, vI x1, vI x2, vJ, vJ, vJ, vJ]) rfl))))
theorem b114_15 (hr : px_hr r) (d : Nat) (i l : MI) (x1 : Int) (x2 : Int) (x3 : Int) (x4 : Int) {v5 : PV} (hn5 : px_nl v5) {v6 : PV} (hn6 : px_nl v6) {v7 : PV} (hn7 : px_nl v7) {v8 : PV} (hn8 : px_nl v8) : px_X (d + 1) 114 (15, [vR 116, vI x1, vI x2, vI x3, vI x4, v5, v6, v7, v8], []) (px_sh L, i, l, r, t) = if 1440 ≤ x4 then some (none, (px_sh L, i, l, r, t)) else if x3 = 0 then some (none, (px_sh L, i, l, r, t)) else (px_C d 65 [vR 68, vI x4] (px_sh L, i, l, r, t)).bind (fun q => px_X (d + 1) 114 (px_psh (36, [vR 116, vI x1, vI x2, vI x3, vI x4, v5, v6, v7, v8], []) q.1) q.2) := ((xs_ild k114_15 rfl).trans ((xs_si k114_17 (by omega)).trans ((xs_jge k114_20).trans (px_ite (fun c1 => (xs_rv k114_149 rfl)) (fun c1 => ((xs_ildn k114_23 rfl).trans ((xs_ieq k114_24).trans (px_ite (fun c2 => (xs_rv k114_149 rfl)) (fun c2 => ((xs_aldn k114_27 rfl).trans ((xs_get4 k114_28 (px_s116 L) (Nat.le_of_ble_eq_true rfl) (px_r116_1 hr)).trans ((xs_ild k114_31 rfl).trans (xs_callvB k114_33 (as := [vI x4]) rfl rfl (Nat.le_of_ble_eq_true rfl) (Nat.le_of_ble_eq_true rfl) (Nat.le_of_ble_eq_true rfl) (px_s68 L) (Nat.le_of_ble_eq_true rfl))))))))))))))
theorem b114_36 (hr : px_hr r) (d : Nat) (i l : MI) (x1 : Int) (x2 : Int) (x3 : Int) (x4 : Int) {v5 : PV} (hn5 : px_nl v5) {v6 : PV} (hn6 : px_nl v6) {v7 : PV} (hn7 : px_nl v7) {v8 : PV} (hn8 : px_nl v8) (xs0 : Int) : px_X d 114 (36, [vR 116, vI x1, vI x2, vI x3, vI x4, v5, v6, v7, v8], [vI xs0]) (px_sh L, i, l, r, t) = px_X d 114 (41, [vR 116, vI x1, vI x2, vI x3, vI x4, vI xs0, vI 0, v7, v8], []) (px_sh L, i, l, r, t) := ((xs_ist k114_36 (Nat.le_of_ble_eq_true rfl) (ls' := [vR 116, vI x1, vI x2, vI x3, vI x4, vI xs0, v6, v7, v8]) rfl).trans ((xs_ic k114_38 (by omega)).trans (xs_ist k114_39 (Nat.le_of_ble_eq_true rfl) (ls' := [vR 116, vI x1, vI x2, vI x3, vI x4, vI xs0, vI 0, v7, v8]) rfl)))
theorem b114_41 (hr : px_hr r) (d : Nat) (i l : MI) (x1 : Int) (x2 : Int) (x3 : Int) (x4 : Int) (x5 : Int) (x6 : Int) {v7 : PV} (hn7 : px_nl v7) {v8 : PV} (hn8 : px_nl v8) : px_X (d + 1) 114 (41, [vR 116, vI x1, vI x2, vI x3, vI x4, vI x5, vI x6, v7, v8], []) (px_sh L, i, l, r, t) = if (i 4 6) ≤ x6 then px_X (d + 1) 114 (15, [vR 116, vI x1, vI x2, vI x3, vI (px_w32 (x4 + 1)), vI x5, vI x6, v7, v8], []) (px_sh L, i, l, r, t) else (px_C d 52 [vR 4, vI x6] (px_sh L, i, l, r, t)).bind (fun q => px_X (d + 1) 114 (px_psh (62, [vR 116, vI x1, vI x2, vI x3, vI x4, vI x5, vI x6, v7, v8], []) q.1) q.2) := ((xs_ild k114_41 rfl).trans ((xs_aldn k114_43 rfl).trans ((xs_get4 k114_44 (px_s116 L) (Nat.le_of_ble_eq_true rfl) (px_r116_0 hr)).trans ((xs_get0 k114_47 (px_s4 L) (Nat.le_of_ble_eq_true rfl)).trans ((xs_jge k114_50).trans (px_ite (fun c1 => ((xs_iinc k114_143 rfl (by omega) (ls' := [vR 116, vI x1, vI x2, vI x3, vI (px_w32 (x4 + 1)), vI x5, vI x6, v7, v8]) rfl).trans (xs_goto k114_146))) (fun c1 => ((xs_aldn k114_53 rfl).trans ((xs_get4 k114_54 (px_s116 L) (Nat.le_of_ble_eq_true rfl) (px_r116_0 hr)).trans ((xs_ild k114_57 rfl).trans (xs_callvB k114_59 (as := [vI x6]) rfl rfl (Nat.le_of_ble_eq_true rfl) (Nat.le_of_ble_eq_true rfl) (Nat.le_of_ble_eq_true rfl) (px_s4 L) (Nat.le_of_ble_eq_true rfl))))))))))))
theorem b114_62_N (hr : px_hr r) (d : Nat) (i l : MI) (x1 : Int) (x2 : Int) (x3 : Int) (x4 : Int) (x5 : Int) (x6 : Int) {v7 : PV} (hn7 : px_nl v7) {v8 : PV} (hn8 : px_nl v8) : px_X d 114 (62, [vR 116, vI x1, vI x2, vI x3, vI x4, vI x5, vI x6, v7, v8], [vN]) (px_sh L, i, l, r, t) = px_X d 114 (82, [vR 116, vI x1, vI x2, vI x3, vI x4, vI x5, vI x6, vN, v8], []) (px_sh L, i, l, r, t) := ((xs_ast k114_62 (Nat.le_of_ble_eq_true rfl) (ls' := [vR 116, vI x1, vI x2, vI x3, vI x4, vI x5, vI x6, vN, v8]) rfl).trans ((xs_ald k114_64 rfl).trans (xs_nullN k114_66)))
theorem b114_62_g (hr : px_hr r) (d : Nat) (i l : MI) (x1 : Int) (x2 : Int) (x3 : Int) (x4 : Int) (x5 : Int) (x6 : Int) {v7 : PV} (hn7 : px_nl v7) {v8 : PV} (hn8 : px_nl v8) {ks0 : Nat} (hgs0 : px_gs ks0) : px_X (d + 1) 114 (62, [vR 116, vI x1, vI x2, vI x3, vI x4, vI x5, vI x6, v7, v8], [vR ks0]) (px_sh L, i, l, r, t) = (px_C d 32 [vI x3, vI x6] (px_sh L, i, l, r, t)).bind (fun q => px_X (d + 1) 114 (px_psh (75, [vR 116, vI x1, vI x2, vI x3, vI x4, vI x5, vI x6, vR ks0, v8], []) q.1) q.2) := ((xs_ast k114_62 (Nat.le_of_ble_eq_true rfl) (ls' := [vR 116, vI x1, vI x2, vI x3, vI x4, vI x5, vI x6, vR ks0, v8]) rfl).trans ((xs_ald k114_64 rfl).trans ((xs_nullR k114_66).trans ((xs_ildn k114_69 rfl).trans ((xs_ild k114_70 rfl).trans (xs_callsB k114_72 (as := [vI x3, vI x6]) rfl rfl (Nat.le_of_ble_eq_true rfl) (Nat.le_of_ble_eq_true rfl) (Nat.le_of_ble_eq_true rfl)))))))
theorem b114_75 (hr : px_hr r) (d : Nat) (i l : MI) (x1 : Int) (x2 : Int) (x3 : Int) (x4 : Int) (x5 : Int) (x6 : Int) {k7 : Nat} (hg7 : px_gs k7) {v8 : PV} (hn8 : px_nl v8) (xs0 : Int) : px_X d 114 (75, [vR 116, vI x1, vI x2, vI x3, vI x4, vI x5, vI x6, vR k7, v8], [vI xs0]) (px_sh L, i, l, r, t) = if xs0 = 0 then px_X d 114 (82, [vR 116, vI x1, vI x2, vI x3, vI x4, vI x5, vI x6, vR k7, v8], []) (px_sh L, i, l, r, t) else px_X d 114 (83, [vR 116, vI x1, vI x2, vI x3, vI x4, vI x5, vI x6, vR k7, v8], [vI 1]) (px_sh L, i, l, r, t) := ((xs_ieq k114_75).trans (px_ite (fun c1 => rfl) (fun c1 => ((xs_ic k114_78 (by omega)).trans (xs_goto k114_79)))))
theorem b114_82_7N (hr : px_hr r) (d : Nat) (i l : MI) (x1 : Int) (x2 : Int) (x3 : Int) (x4 : Int) (x5 : Int) (x6 : Int) {v8 : PV} (hn8 : px_nl v8) : px_X d 114 (82, [vR 116, vI x1, vI x2, vI x3, vI x4, vI x5, vI x6, vN, v8], []) (px_sh L, i, l, r, t) = px_X d 114 (83, [vR 116, vI x1, vI x2, vI x3, vI x4, vI x5, vI x6, vN, v8], [vI 0]) (px_sh L, i, l, r, t) := (xs_ic k114_82 (by omega))
theorem b114_82_7g (hr : px_hr r) (d : Nat) (i l : MI) (x1 : Int) (x2 : Int) (x3 : Int) (x4 : Int) (x5 : Int) (x6 : Int) {k7 : Nat} (hg7 : px_gs k7) {v8 : PV} (hn8 : px_nl v8) : px_X d 114 (82, [vR 116, vI x1, vI x2, vI x3, vI x4, vI x5, vI x6, vR k7, v8], []) (px_sh L, i, l, r, t) = px_X d 114 (83, [vR 116, vI x1, vI x2, vI x3, vI x4, vI x5, vI x6, vR k7, v8], [vI 0]) (px_sh L, i, l, r, t) := (xs_ic k114_82 (by omega))
theorem b114_83_i7N (hr : px_hr r) (d : Nat) (i l : MI) (x1 : Int) (x2 : Int) (x3 : Int) (x4 : Int) (x5 : Int) (x6 : Int) {v8 : PV} (hn8 : px_nl v8) (xs0 : Int) : px_X (d + 1) 114 (83, [vR 116, vI x1, vI x2, vI x3, vI x4, vI x5, vI x6, vN, v8], [vI xs0]) (px_sh L, i, l, r, t) = if xs0 = 0 then px_X (d + 1) 114 (41, [vR 116, vI x1, vI x2, vI x3, vI x4, vI x5, vI (px_w32 (x6 + 1)), vN, vI xs0], []) (px_sh L, i, l, r, t) else (px_C d 123 [vR 103, vI x6] (px_sh L, i, l, r, t)).bind (fun q => px_X (d + 1) 114 (px_psh (105, [vR 116, vI x1, vI x2, vI x3, vI x4, vI x5, vI x6, vN, vI xs0], [vR 4, vI x5]) q.1) q.2) := ((xs_ist k114_83 (Nat.le_of_ble_eq_true rfl) (ls' := [vR 116, vI x1, vI x2, vI x3, vI x4, vI x5, vI x6, vN, vI xs0]) rfl).trans ((xs_ild k114_85 rfl).trans ((xs_ieq k114_87).trans (px_ite (fun c1 => ((xs_iinc k114_137 rfl (by omega) (ls' := [vR 116, vI x1, vI x2, vI x3, vI x4, vI x5, vI (px_w32 (x6 + 1)), vN, vI xs0]) rfl).trans (xs_goto k114_140))) (fun c1 => ((xs_ild k114_90 rfl).trans ((xs_aldn k114_92 rfl).trans ((xs_get4 k114_93 (px_s116 L) (Nat.le_of_ble_eq_true rfl) (px_r116_0 hr)).trans ((xs_aldn k114_96 rfl).trans ((xs_get4 k114_97 (px_s116 L) (Nat.le_of_ble_eq_true rfl) (px_r116_2 hr)).trans ((xs_ild k114_100 rfl).trans (xs_callvB k114_102 (as := [vI x6]) rfl rfl (Nat.le_of_ble_eq_true rfl) (Nat.le_of_ble_eq_true rfl) (Nat.le_of_ble_eq_true rfl) (px_s103 L) (Nat.le_of_ble_eq_true rfl)))))))))))))
theorem b114_83_i7g (hr : px_hr r) (d : Nat) (i l : MI) (x1 : Int) (x2 : Int) (x3 : Int) (x4 : Int) (x5 : Int) (x6 : Int) {k7 : Nat} (hg7 : px_gs k7) {v8 : PV} (hn8 : px_nl v8) (xs0 : Int) : px_X (d + 1) 114 (83, [vR 116, vI x1, vI x2, vI x3, vI x4, vI x5, vI x6, vR k7, v8], [vI xs0]) (px_sh L, i, l, r, t) = if xs0 = 0 then px_X (d + 1) 114 (41, [vR 116, vI x1, vI x2, vI x3, vI x4, vI x5, vI (px_w32 (x6 + 1)), vR k7, vI xs0], []) (px_sh L, i, l, r, t) else (px_C d 123 [vR 103, vI x6] (px_sh L, i, l, r, t)).bind (fun q => px_X (d + 1) 114 (px_psh (105, [vR 116, vI x1, vI x2, vI x3, vI x4, vI x5, vI x6, vR k7, vI xs0], [vR 4, vI x5]) q.1) q.2) := ((xs_ist k114_83 (Nat.le_of_ble_eq_true rfl) (ls' := [vR 116, vI x1, vI x2, vI x3, vI x4, vI x5, vI x6, vR k7, vI xs0]) rfl).trans ((xs_ild k114_85 rfl).trans ((xs_ieq k114_87).trans (px_ite (fun c1 => ((xs_iinc k114_137 rfl (by omega) (ls' := [vR 116, vI x1, vI x2, vI x3, vI x4, vI x5, vI (px_w32 (x6 + 1)), vR k7, vI xs0]) rfl).trans (xs_goto k114_140))) (fun c1 => ((xs_ild k114_90 rfl).trans ((xs_aldn k114_92 rfl).trans ((xs_get4 k114_93 (px_s116 L) (Nat.le_of_ble_eq_true rfl) (px_r116_0 hr)).trans ((xs_aldn k114_96 rfl).trans ((xs_get4 k114_97 (px_s116 L) (Nat.le_of_ble_eq_true rfl) (px_r116_2 hr)).trans ((xs_ild k114_100 rfl).trans (xs_callvB k114_102 (as := [vI x6]) rfl rfl (Nat.le_of_ble_eq_true rfl) (Nat.le_of_ble_eq_true rfl) (Nat.le_of_ble_eq_true rfl) (px_s103 L) (Nat.le_of_ble_eq_true rfl)))))))))))))
theorem b114_105_iR4i7N (hr : px_hr r) (d : Nat) (i l : MI) (x1 : Int) (x2 : Int) (x3 : Int) (x4 : Int) (x5 : Int) (x6 : Int) (x8 : Int) (xs0 : Int) (xs2 : Int) : px_X (d + 1) 114 (105, [vR 116, vI x1, vI x2, vI x3, vI x4, vI x5, vI x6, vN, vI x8], [vI xs0, vR 4, vI xs2]) (px_sh L, i, l, r, t) = (px_C d 56 [vR 4, vI xs0] (px_sh L, i, l, r, t)).bind (fun q => px_X (d + 1) 114 (px_psh (108, [vR 116, vI x1, vI x2, vI x3, vI x4, vI x5, vI x6, vN, vI x8], [vI xs2]) q.1) q.2) := (xs_callvB k114_105 (as := [vI xs0]) rfl rfl (Nat.le_of_ble_eq_true rfl) (Nat.le_of_ble_eq_true rfl) (Nat.le_of_ble_eq_true rfl) (px_s4 L) (Nat.le_of_ble_eq_true rfl))
theorem b114_105_iR4i7g (hr : px_hr r) (d : Nat) (i l : MI) (x1 : Int) (x2 : Int) (x3 : Int) (x4 : Int) (x5 : Int) (x6 : Int) {k7 : Nat} (hg7 : px_gs k7) (x8 : Int) (xs0 : Int) (xs2 : Int) : px_X (d + 1) 114 (105, [vR 116, vI x1, vI x2, vI x3, vI x4, vI x5, vI x6, vR k7, vI x8], [vI xs0, vR 4, vI xs2]) (px_sh L, i, l, r, t) = (px_C d 56 [vR 4, vI xs0] (px_sh L, i, l, r, t)).bind (fun q => px_X (d + 1) 114 (px_psh (108, [vR 116, vI x1, vI x2, vI x3, vI x4, vI x5, vI x6, vR k7, vI x8], [vI xs2]) q.1) q.2) := (xs_callvB k114_105 (as := [vI xs0]) rfl rfl (Nat.le_of_ble_eq_true rfl) (Nat.le_of_ble_eq_true rfl) (Nat.le_of_ble_eq_true rfl) (px_s4 L) (Nat.le_of_ble_eq_true rfl))
theorem b114_108_ii7N (hr : px_hr r) (d : Nat) (i l : MI) (x1 : Int) (x2 : Int) (x3 : Int) (x4 : Int) (x5 : Int) (x6 : Int) (x8 : Int) (xs0 : Int) (xs1 : Int) : px_X d 114 (108, [vR 116, vI x1, vI x2, vI x3, vI x4, vI x5, vI x6, vN, vI x8], [vI xs0, vI xs1]) (px_sh L, i, l, r, t) = px_X d 114 (110, [vR 116, vI x1, vI x2, vI x3, vI x4, vI x5, vI x6, vN, vI x8], [vN, vI xs0, vI xs1]) (px_sh L, i, l, r, t) := (xs_ald k114_108 rfl)
theorem b114_108_ii7g (hr : px_hr r) (d : Nat) (i l : MI) (x1 : Int) (x2 : Int) (x3 : Int) (x4 : Int) (x5 : Int) (x6 : Int) {k7 : Nat} (hg7 : px_gs k7) (x8 : Int) (xs0 : Int) (xs1 : Int) : px_X (d + 1) 114 (108, [vR 116, vI x1, vI x2, vI x3, vI x4, vI x5, vI x6, vR k7, vI x8], [vI xs0, vI xs1]) (px_sh L, i, l, r, t) = if xs1 ≤ (px_w32 (xs0 + (i k7 1))) then px_X (d + 1) 114 (41, [vR 116, vI x1, vI x2, vI x3, vI x4, vI x5, vI (px_w32 (x6 + 1)), vR k7, vI x8], []) (px_sh L, i, l, r, t) else (px_C d 34 [vR 118, vI x6, vI x4] (px_sh L, i, l, r, t)).bind (fun q => px_X (d + 1) 114 (px_psh (128, [vR 116, vI x1, vI x2, vI x3, vI x4, vI x5, vI x6, vR k7, vI x8], []) q.1) q.2) := ((xs_ald k114_108 rfl).trans ((xs_get0 k114_110 (px_gs_sh hg7) (px_gs_3 hg7)).trans ((xs_iadd k114_113).trans ((xs_jle k114_114).trans (px_ite (fun c1 => ((xs_iinc k114_137 rfl (by omega) (ls' := [vR 116, vI x1, vI x2, vI x3, vI x4, vI x5, vI (px_w32 (x6 + 1)), vR k7, vI x8]) rfl).trans (xs_goto k114_140))) (fun c1 => ((xs_aldn k114_117 rfl).trans ((xs_get4 k114_118 (px_s116 L) (Nat.le_of_ble_eq_true rfl) (px_r116_5 hr)).trans ((xs_ild k114_121 rfl).trans ((xs_ild k114_123 rfl).trans (xs_callsB k114_125 (as := [vR 118, vI x6, vI x4]) rfl rfl (Nat.le_of_ble_eq_true rfl) (Nat.le_of_ble_eq_true rfl) (Nat.le_of_ble_eq_true rfl))))))))))))
theorem b114_128 (hr : px_hr r) (d : Nat) (i l : MI) (x1 : Int) (x2 : Int) (x3 : Int) (x4 : Int) (x5 : Int) (x6 : Int) {v7 : PV} (hn7 : px_nl v7) (x8 : Int) : px_X d 114 (128, [vR 116, vI x1, vI x2, vI x3, vI x4, vI x5, vI x6, v7, vI x8], []) (px_sh L, i, l, r, t) = px_X d 114 (41, [vR 116, vI x1, vI x2, vI (px_and x3 (px_xor (px_shl 1 x6) (-1))), vI x4, vI x5, vI (px_w32 (x6 + 1)), v7, vI x8], []) (px_sh L, i, l, r, t) := ((xs_ildn k114_128 rfl).trans ((xs_ic k114_129 (by omega)).trans ((xs_ild k114_130 rfl).trans ((xs_ishl k114_132).trans ((xs_ic k114_133 (by omega)).trans ((xs_ixor k114_134).trans ((xs_iand k114_135).trans ((xs_istn k114_136 (Nat.le_of_ble_eq_true rfl) (ls' := [vR 116, vI x1, vI x2, vI (px_and x3 (px_xor (px_shl 1 x6) (-1))), vI x4, vI x5, vI x6, v7, vI x8]) rfl).trans ((xs_iinc k114_137 rfl (by omega) (ls' := [vR 116, vI x1, vI x2, vI (px_and x3 (px_xor (px_shl 1 x6) (-1))), vI x4, vI x5, vI (px_w32 (x6 + 1)), v7, vI x8]) rfl).trans (xs_goto k114_140))))))))))
-- Rescue.lineUp ('R116', 'I')
theorem b115_0 (hr : px_hr r) (d : Nat) (i l : MI) (x1 : Int) : px_X d 115 (0, [vR 116, vI x1, vJ, vJ, vJ], []) (px_sh L, i, l, r, t) = px_X d 115 (7, [vR 116, vI x1, vI 0, vJ, vJ], []) (px_sh L, (px_up i 116 7 0), l, r, t) := ((xs_aldn k115_0 rfl).trans ((xs_ic k115_1 (by omega)).trans ((xs_put0 k115_2 (Or.inl rfl) (px_s116 L) (Nat.le_of_ble_eq_true rfl)).trans ((xs_ic k115_5 (by omega)).trans (xs_istn k115_6 (Nat.le_of_ble_eq_true rfl) (ls' := [vR 116, vI x1, vI 0, vJ, vJ]) rfl)))))
theorem b115_7 (hr : px_hr r) (d : Nat) (i l : MI) (x1 : Int) (x2 : Int) {v3 : PV} (hn3 : px_nl v3) {v4 : PV} (hn4 : px_nl v4) : px_X (d + 1) 115 (7, [vR 116, vI x1, vI x2, v3, v4], []) (px_sh L, i, l, r, t) = if (i 4 6) ≤ x2 then some (none, (px_sh L, i, l, r, t)) else (px_C d 32 [vI x1, vI x2] (px_sh L, i, l, r, t)).bind (fun q => px_X (d + 1) 115 (px_psh (23, [vR 116, vI x1, vI x2, v3, v4], []) q.1) q.2) := ((xs_ildn k115_7 rfl).trans ((xs_aldn k115_8 rfl).trans ((xs_get4 k115_9 (px_s116 L) (Nat.le_of_ble_eq_true rfl) (px_r116_0 hr)).trans ((xs_get0 k115_12 (px_s4 L) (Nat.le_of_ble_eq_true rfl)).trans ((xs_jge k115_15).trans (px_ite (fun c1 => (xs_rv k115_133 rfl)) (fun c1 => ((xs_ildn k115_18 rfl).trans ((xs_ildn k115_19 rfl).trans (xs_callsB k115_20 (as := [vI x1, vI x2]) rfl rfl (Nat.le_of_ble_eq_true rfl) (Nat.le_of_ble_eq_true rfl) (Nat.le_of_ble_eq_true rfl)))))))))))
theorem b115_23 (hr : px_hr r) (d : Nat) (i l : MI) (x1 : Int) (x2 : Int) {v3 : PV} (hn3 : px_nl v3) {v4 : PV} (hn4 : px_nl v4) (xs0 : Int) : px_X d 115 (23, [vR 116, vI x1, vI x2, v3, v4], [vI xs0]) (px_sh L, i, l, r, t) = if xs0 = 0 then px_X d 115 (7, [vR 116, vI x1, vI (px_w32 (x2 + 1)), v3, v4], []) (px_sh L, i, l, r, t) else px_X d 115 (40, [vR 116, vI x1, vI x2, vI (i 116 7), vI (i 116 7)], []) (px_sh L, i, l, r, t) := ((xs_ine k115_23).trans (px_ite (fun c1 => ((xs_goto k115_26).trans ((xs_iinc k115_127 rfl (by omega) (ls' := [vR 116, vI x1, vI (px_w32 (x2 + 1)), v3, v4]) rfl).trans (xs_goto k115_130)))) (fun c1 => ((xs_aldn k115_29 rfl).trans ((xs_get0 k115_30 (px_s116 L) (Nat.le_of_ble_eq_true rfl)).trans ((xs_istn k115_33 (Nat.le_of_ble_eq_true rfl) (ls' := [vR 116, vI x1, vI x2, vI (i 116 7), v4]) rfl).trans ((xs_aldn k115_34 rfl).trans ((xs_get0 k115_35 (px_s116 L) (Nat.le_of_ble_eq_true rfl)).trans (xs_ist k115_38 (Nat.le_of_ble_eq_true rfl) (ls' := [vR 116, vI x1, vI x2, vI (i 116 7), vI (i 116 7)]) rfl)))))))))
theorem b115_40 (hr : px_hr r) (d : Nat) (i l : MI) (x1 : Int) (x2 : Int) (x3 : Int) (x4 : Int) : px_X (d + 1) 115 (40, [vR 116, vI x1, vI x2, vI x3, vI x4], []) (px_sh L, i, l, r, t) = if x4 ≤ 0 then px_X (d + 1) 115 (108, [vR 116, vI x1, vI x2, vI x3, vI x4], []) (px_sh L, i, l, r, t) else (px_C d 33 [vR 119, vI (px_w32 (x4 - 1))] (px_sh L, i, l, r, t)).bind (fun q => px_X (d + 1) 115 (px_psh (60, [vR 116, vI x1, vI x2, vI x3, vI x4], [vR 118]) q.1) q.2) := ((xs_ild k115_40 rfl).trans ((xs_ile k115_42).trans (px_ite (fun c1 => rfl) (fun c1 => ((xs_aldn k115_45 rfl).trans ((xs_get4 k115_46 (px_s116 L) (Nat.le_of_ble_eq_true rfl) (px_r116_5 hr)).trans ((xs_aldn k115_49 rfl).trans ((xs_get4 k115_50 (px_s116 L) (Nat.le_of_ble_eq_true rfl) (px_r116_6 hr)).trans ((xs_ild k115_53 rfl).trans ((xs_ic k115_55 (by omega)).trans ((xs_isub k115_56).trans (xs_callsB k115_57 (as := [vR 119, vI (px_w32 (x4 - 1))]) rfl rfl (Nat.le_of_ble_eq_true rfl) (Nat.le_of_ble_eq_true rfl) (Nat.le_of_ble_eq_true rfl)))))))))))))
theorem b115_60 (hr : px_hr r) (d : Nat) (i l : MI) (x1 : Int) (x2 : Int) (x3 : Int) (x4 : Int) (xs0 : Int) : px_X (d + 1) 115 (60, [vR 116, vI x1, vI x2, vI x3, vI x4], [vI xs0, vR 118]) (px_sh L, i, l, r, t) = (px_C d 33 [vR 118, vI xs0] (px_sh L, i, l, r, t)).bind (fun q => px_X (d + 1) 115 (px_psh (63, [vR 116, vI x1, vI x2, vI x3, vI x4], []) q.1) q.2) := (xs_callsB k115_60 (as := [vR 118, vI xs0]) rfl rfl (Nat.le_of_ble_eq_true rfl) (Nat.le_of_ble_eq_true rfl) (Nat.le_of_ble_eq_true rfl))
theorem b115_63 (hr : px_hr r) (d : Nat) (i l : MI) (x1 : Int) (x2 : Int) (x3 : Int) (x4 : Int) (xs0 : Int) : px_X (d + 1) 115 (63, [vR 116, vI x1, vI x2, vI x3, vI x4], [vI xs0]) (px_sh L, i, l, r, t) = (px_C d 33 [vR 118, vI x2] (px_sh L, i, l, r, t)).bind (fun q => px_X (d + 1) 115 (px_psh (71, [vR 116, vI x1, vI x2, vI x3, vI x4], [vI xs0]) q.1) q.2) := ((xs_aldn k115_63 rfl).trans ((xs_get4 k115_64 (px_s116 L) (Nat.le_of_ble_eq_true rfl) (px_r116_5 hr)).trans ((xs_ildn k115_67 rfl).trans (xs_callsB k115_68 (as := [vR 118, vI x2]) rfl rfl (Nat.le_of_ble_eq_true rfl) (Nat.le_of_ble_eq_true rfl) (Nat.le_of_ble_eq_true rfl)))))
theorem b115_71 (hr : px_hr r) (d : Nat) (i l : MI) (x1 : Int) (x2 : Int) (x3 : Int) (x4 : Int) (xs0 : Int) (xs1 : Int) : px_X (d + 1) 115 (71, [vR 116, vI x1, vI x2, vI x3, vI x4], [vI xs0, vI xs1]) (px_sh L, i, l, r, t) = if xs0 < xs1 then (px_C d 33 [vR 119, vI (px_w32 (x4 - 1))] (px_sh L, i, l, r, t)).bind (fun q => px_X (d + 1) 115 (px_psh (94, [vR 116, vI x1, vI x2, vI x3, vI x4], [vI x4, vR 119]) q.1) q.2) else px_X (d + 1) 115 (108, [vR 116, vI x1, vI x2, vI x3, vI x4], []) (px_sh L, i, l, r, t) := ((xs_jgt k115_71).trans (px_ite (fun c1 => ((xs_aldn k115_77 rfl).trans ((xs_get4 k115_78 (px_s116 L) (Nat.le_of_ble_eq_true rfl) (px_r116_6 hr)).trans ((xs_ild k115_81 rfl).trans ((xs_aldn k115_83 rfl).trans ((xs_get4 k115_84 (px_s116 L) (Nat.le_of_ble_eq_true rfl) (px_r116_6 hr)).trans ((xs_ild k115_87 rfl).trans ((xs_ic k115_89 (by omega)).trans ((xs_isub k115_90).trans (xs_callsB k115_91 (as := [vR 119, vI (px_w32 (x4 - 1))]) rfl rfl (Nat.le_of_ble_eq_true rfl) (Nat.le_of_ble_eq_true rfl) (Nat.le_of_ble_eq_true rfl))))))))))) (fun c1 => (xs_goto k115_74))))
theorem b115_94 (hr : px_hr r) (d : Nat) (i l : MI) (x1 : Int) (x2 : Int) (x3 : Int) (x4 : Int) (xs0 : Int) (xs1 : Int) : px_X (d + 1) 115 (94, [vR 116, vI x1, vI x2, vI x3, vI x4], [vI xs0, vI xs1, vR 119]) (px_sh L, i, l, r, t) = (px_C d 34 [vR 119, vI xs1, vI xs0] (px_sh L, i, l, r, t)).bind (fun q => px_X (d + 1) 115 (px_psh (97, [vR 116, vI x1, vI x2, vI x3, vI x4], []) q.1) q.2) := (xs_callsB k115_94 (as := [vR 119, vI xs1, vI xs0]) rfl rfl (Nat.le_of_ble_eq_true rfl) (Nat.le_of_ble_eq_true rfl) (Nat.le_of_ble_eq_true rfl))
theorem b115_97 (hr : px_hr r) (d : Nat) (i l : MI) (x1 : Int) (x2 : Int) (x3 : Int) (x4 : Int) : px_X d 115 (97, [vR 116, vI x1, vI x2, vI x3, vI x4], []) (px_sh L, i, l, r, t) = px_X d 115 (40, [vR 116, vI x1, vI x2, vI (px_w32 (x4 - 1)), vI (px_w32 (x4 + (-1)))], []) (px_sh L, i, l, r, t) := ((xs_ild k115_97 rfl).trans ((xs_ic k115_99 (by omega)).trans ((xs_isub k115_100).trans ((xs_istn k115_101 (Nat.le_of_ble_eq_true rfl) (ls' := [vR 116, vI x1, vI x2, vI (px_w32 (x4 - 1)), vI x4]) rfl).trans ((xs_iinc k115_102 rfl (by omega) (ls' := [vR 116, vI x1, vI x2, vI (px_w32 (x4 - 1)), vI (px_w32 (x4 + (-1)))]) rfl).trans (xs_goto k115_105))))))
theorem b115_108 (hr : px_hr r) (d : Nat) (i l : MI) (x1 : Int) (x2 : Int) (x3 : Int) (x4 : Int) : px_X (d + 1) 115 (108, [vR 116, vI x1, vI x2, vI x3, vI x4], []) (px_sh L, i, l, r, t) = (px_C d 34 [vR 119, vI x3, vI x2] (px_sh L, i, l, r, t)).bind (fun q => px_X (d + 1) 115 (px_psh (117, [vR 116, vI x1, vI x2, vI x3, vI x4], []) q.1) q.2) := ((xs_aldn k115_108 rfl).trans ((xs_get4 k115_109 (px_s116 L) (Nat.le_of_ble_eq_true rfl) (px_r116_6 hr)).trans ((xs_ildn k115_112 rfl).trans ((xs_ildn k115_113 rfl).trans (xs_callsB k115_114 (as := [vR 119, vI x3, vI x2]) rfl rfl (Nat.le_of_ble_eq_true rfl) (Nat.le_of_ble_eq_true rfl) (Nat.le_of_ble_eq_true rfl))))))
theorem b115_117 (hr : px_hr r) (d : Nat) (i l : MI) (x1 : Int) (x2 : Int) (x3 : Int) (x4 : Int) : px_X d 115 (117, [vR 116, vI x1, vI x2, vI x3, vI x4], []) (px_sh L, i, l, r, t) = px_X d 115 (7, [vR 116, vI x1, vI (px_w32 (x2 + 1)), vI x3, vI x4], []) (px_sh L, (px_up i 116 7 (px_w32 ((i 116 7) + 1))), l, r, t) := ((xs_aldn k115_117 rfl).trans ((xs_dup k115_118 rfl).trans ((xs_get0 k115_119 (px_s116 L) (Nat.le_of_ble_eq_true rfl)).trans ((xs_ic k115_122 (by omega)).trans ((xs_iadd k115_123).trans ((xs_put0 k115_124 (Or.inl rfl) (px_s116 L) (Nat.le_of_ble_eq_true rfl)).trans ((xs_iinc k115_127 rfl (by omega) (ls' := [vR 116, vI x1, vI (px_w32 (x2 + 1)), vI x3, vI x4]) rfl).trans (xs_goto k115_130))))))))
-- Rescue.canAllGetOut ('R116', 'I', 'I')
theorem b116_0 (hr : px_hr r) (d : Nat) (i l : MI) (x1 : Int) (x2 : Int) : px_X d 116 (0, [vR 116, vI x1, vI x2, vJ, vJ, vJ, vJ], []) (px_sh L, i, l, r, t) = px_X d 116 (5, [vR 116, vI x1, vI x2, vI x2, vI 0, vJ, vJ], []) (px_sh L, i, l, r, t) := ((xs_ildn k116_0 rfl).trans ((xs_istn k116_1 (Nat.le_of_ble_eq_true rfl) (ls' := [vR 116, vI x1, vI x2, vI x2, vJ, vJ, vJ]) rfl).trans ((xs_ic k116_2 (by omega)).trans (xs_ist k116_3 (Nat.le_of_ble_eq_true rfl) (ls' := [vR 116, vI x1, vI x2, vI x2, vI 0, vJ, vJ]) rfl))))
theorem b116_5 (hr : px_hr r) (d : Nat) (i l : MI) (x1 : Int) (x2 : Int) (x3 : Int) (x4 : Int) {v5 : PV} (hn5 : px_nl v5) {v6 : PV} (hn6 : px_nl v6) : px_X (d + 1) 116 (5, [vR 116, vI x1, vI x2, vI x3, vI x4, v5, v6], []) (px_sh L, i, l, r, t) = if (i 116 7) ≤ x4 then some (some (vI 1), (px_sh L, i, l, r, t)) else (px_C d 33 [vR 119, vI x4] (px_sh L, i, l, r, t)).bind (fun q => px_X (d + 1) 116 (px_psh (23, [vR 116, vI x1, vI x2, vI x3, vI x4, v5, v6], []) q.1) q.2) := ((xs_ild k116_5 rfl).trans ((xs_aldn k116_7 rfl).trans ((xs_get0 k116_8 (px_s116 L) (Nat.le_of_ble_eq_true rfl)).trans ((xs_jge k116_11).trans (px_ite (fun c1 => ((xs_ic k116_84 (by omega)).trans (xs_rz k116_85 rfl (by omega)))) (fun c1 => ((xs_aldn k116_14 rfl).trans ((xs_get4 k116_15 (px_s116 L) (Nat.le_of_ble_eq_true rfl) (px_r116_6 hr)).trans ((xs_ild k116_18 rfl).trans (xs_callsB k116_20 (as := [vR 119, vI x4]) rfl rfl (Nat.le_of_ble_eq_true rfl) (Nat.le_of_ble_eq_true rfl) (Nat.le_of_ble_eq_true rfl)))))))))))
theorem b116_23 (hr : px_hr r) (d : Nat) (i l : MI) (x1 : Int) (x2 : Int) (x3 : Int) (x4 : Int) {v5 : PV} (hn5 : px_nl v5) {v6 : PV} (hn6 : px_nl v6) (xs0 : Int) : px_X (d + 1) 116 (23, [vR 116, vI x1, vI x2, vI x3, vI x4, v5, v6], [vI xs0]) (px_sh L, i, l, r, t) = (px_C d 52 [vR 4, vI xs0] (px_sh L, i, l, r, t)).bind (fun q => px_X (d + 1) 116 (px_psh (34, [vR 116, vI x1, vI x2, vI x3, vI x4, vI xs0, v6], []) q.1) q.2) := ((xs_ist k116_23 (Nat.le_of_ble_eq_true rfl) (ls' := [vR 116, vI x1, vI x2, vI x3, vI x4, vI xs0, v6]) rfl).trans ((xs_aldn k116_25 rfl).trans ((xs_get4 k116_26 (px_s116 L) (Nat.le_of_ble_eq_true rfl) (px_r116_0 hr)).trans ((xs_ild k116_29 rfl).trans (xs_callvB k116_31 (as := [vI xs0]) rfl rfl (Nat.le_of_ble_eq_true rfl) (Nat.le_of_ble_eq_true rfl) (Nat.le_of_ble_eq_true rfl) (px_s4 L) (Nat.le_of_ble_eq_true rfl))))))
theorem b116_34_N (hr : px_hr r) (d : Nat) (i l : MI) (x1 : Int) (x2 : Int) (x3 : Int) (x4 : Int) (x5 : Int) {v6 : PV} (hn6 : px_nl v6) : px_X d 116 (34, [vR 116, vI x1, vI x2, vI x3, vI x4, vI x5, v6], [vN]) (px_sh L, i, l, r, t) = px_X d 116 (5, [vR 116, vI x1, vI x2, vI x3, vI (px_w32 (x4 + 1)), vI x5, vN], []) (px_sh L, i, l, r, t) := ((xs_ast k116_34 (Nat.le_of_ble_eq_true rfl) (ls' := [vR 116, vI x1, vI x2, vI x3, vI x4, vI x5, vN]) rfl).trans ((xs_ald k116_36 rfl).trans ((xs_nullN k116_38).trans ((xs_iinc k116_78 rfl (by omega) (ls' := [vR 116, vI x1, vI x2, vI x3, vI (px_w32 (x4 + 1)), vI x5, vN]) rfl).trans (xs_goto k116_81)))))
theorem b116_34_g (hr : px_hr r) (d : Nat) (i l : MI) (x1 : Int) (x2 : Int) (x3 : Int) (x4 : Int) (x5 : Int) {v6 : PV} (hn6 : px_nl v6) {ks0 : Nat} (hgs0 : px_gs ks0) : px_X (d + 1) 116 (34, [vR 116, vI x1, vI x2, vI x3, vI x4, vI x5, v6], [vR ks0]) (px_sh L, i, l, r, t) = (px_C d 32 [vI x1, vI x5] (px_sh L, i, l, r, t)).bind (fun q => px_X (d + 1) 116 (px_psh (47, [vR 116, vI x1, vI x2, vI x3, vI x4, vI x5, vR ks0], []) q.1) q.2) := ((xs_ast k116_34 (Nat.le_of_ble_eq_true rfl) (ls' := [vR 116, vI x1, vI x2, vI x3, vI x4, vI x5, vR ks0]) rfl).trans ((xs_ald k116_36 rfl).trans ((xs_nullR k116_38).trans ((xs_ildn k116_41 rfl).trans ((xs_ild k116_42 rfl).trans (xs_callsB k116_44 (as := [vI x1, vI x5]) rfl rfl (Nat.le_of_ble_eq_true rfl) (Nat.le_of_ble_eq_true rfl) (Nat.le_of_ble_eq_true rfl)))))))
theorem b116_47 (hr : px_hr r) (d : Nat) (i l : MI) (x1 : Int) (x2 : Int) (x3 : Int) (x4 : Int) (x5 : Int) {k6 : Nat} (hg6 : px_gs k6) (xs0 : Int) : px_X (d + 1) 116 (47, [vR 116, vI x1, vI x2, vI x3, vI x4, vI x5, vR k6], [vI xs0]) (px_sh L, i, l, r, t) = if xs0 = 0 then px_X (d + 1) 116 (5, [vR 116, vI x1, vI x2, vI x3, vI (px_w32 (x4 + 1)), vI x5, vR k6], []) (px_sh L, i, l, r, t) else (px_C d 33 [vR 118, vI x5] (px_sh L, i, l, r, t)).bind (fun q => px_X (d + 1) 116 (px_psh (73, [vR 116, vI x1, vI x2, vI (px_w32 (x3 + (px_w32 (1 + (i k6 4))))), vI x4, vI x5, vR k6], [vI (px_w32 (x3 + (px_w32 (1 + (i k6 4)))))]) q.1) q.2) := ((xs_ine k116_47).trans (px_ite (fun c1 => ((xs_goto k116_50).trans ((xs_iinc k116_78 rfl (by omega) (ls' := [vR 116, vI x1, vI x2, vI x3, vI (px_w32 (x4 + 1)), vI x5, vR k6]) rfl).trans (xs_goto k116_81)))) (fun c1 => ((xs_ildn k116_53 rfl).trans ((xs_ic k116_54 (by omega)).trans ((xs_ald k116_55 rfl).trans ((xs_get0 k116_57 (px_gs_sh hg6) (px_gs_3 hg6)).trans ((xs_iadd k116_60).trans ((xs_iadd k116_61).trans ((xs_istn k116_62 (Nat.le_of_ble_eq_true rfl) (ls' := [vR 116, vI x1, vI x2, vI (px_w32 (x3 + (px_w32 (1 + (i k6 4))))), vI x4, vI x5, vR k6]) rfl).trans ((xs_ildn k116_63 rfl).trans ((xs_aldn k116_64 rfl).trans ((xs_get4 k116_65 (px_s116 L) (Nat.le_of_ble_eq_true rfl) (px_r116_5 hr)).trans ((xs_ild k116_68 rfl).trans (xs_callsB k116_70 (as := [vR 118, vI x5]) rfl rfl (Nat.le_of_ble_eq_true rfl) (Nat.le_of_ble_eq_true rfl) (Nat.le_of_ble_eq_true rfl))))))))))))))))
theorem b116_73 (hr : px_hr r) (d : Nat) (i l : MI) (x1 : Int) (x2 : Int) (x3 : Int) (x4 : Int) (x5 : Int) {v6 : PV} (hn6 : px_nl v6) (xs0 : Int) (xs1 : Int) : px_X d 116 (73, [vR 116, vI x1, vI x2, vI x3, vI x4, vI x5, v6], [vI xs0, vI xs1]) (px_sh L, i, l, r, t) = if xs1 ≤ xs0 then px_X d 116 (5, [vR 116, vI x1, vI x2, vI x3, vI (px_w32 (x4 + 1)), vI x5, v6], []) (px_sh L, i, l, r, t) else some (some (vI 0), (px_sh L, i, l, r, t)) := ((xs_jle k116_73).trans (px_ite (fun c1 => ((xs_iinc k116_78 rfl (by omega) (ls' := [vR 116, vI x1, vI x2, vI x3, vI (px_w32 (x4 + 1)), vI x5, v6]) rfl).trans (xs_goto k116_81))) (fun c1 => ((xs_ic k116_76 (by omega)).trans (xs_rz k116_77 rfl (by omega))))))
-- Rescue.fewestDoors ('R116',)
theorem b117_0 (hr : px_hr r) (d : Nat) (i l : MI)  : px_X d 117 (0, [vR 116, vJ, vJ], []) (px_sh L, i, l, r, t) = px_X d 117 (2, [vR 116, vI 1, vJ], []) (px_sh L, i, l, r, t) := ((xs_ic k117_0 (by omega)).trans (xs_istn k117_1 (Nat.le_of_ble_eq_true rfl) (ls' := [vR 116, vI 1, vJ]) rfl))
theorem b117_2 (hr : px_hr r) (d : Nat) (i l : MI) (x1 : Int) : px_X (d + 1) 117 (2, [vR 116, vI x1, vJ], []) (px_sh L, i, l, r, t) = if 20 < x1 then (px_C d 34 [vR 122, vI 0, vI 0] (px_sh L, i, l, r, t)).bind (fun q => px_X (d + 1) 117 (px_psh (58, [vR 116, vI (px_shl 1 (if 0 < (if (i 4 9) < 7 then (i 4 9) else 7) then (if (i 4 9) < 7 then (i 4 9) else 7) else 0)), vJ], []) q.1) q.2) else (px_C d 70 [vR 68, vI x1] (px_sh L, i, l, r, t)).bind (fun q => px_X (d + 1) 117 (px_psh (21, [vR 116, vI x1, vJ], [vI x1, vR 120]) q.1) q.2) := ((xs_ildn k117_2 rfl).trans ((xs_bi k117_3 (by omega)).trans ((xs_jgt k117_5).trans (px_ite (fun c1 => ((xs_ic k117_30 (by omega)).trans ((xs_ic k117_31 (by omega)).trans ((xs_bi k117_32 (by omega)).trans ((xs_aldn k117_34 rfl).trans ((xs_get4 k117_35 (px_s116 L) (Nat.le_of_ble_eq_true rfl) (px_r116_0 hr)).trans ((xs_get0 k117_38 (px_s4 L) (Nat.le_of_ble_eq_true rfl)).trans ((xs_imin k117_41 (Nat.le_of_ble_eq_true rfl)).trans ((xs_imax k117_44 (Nat.le_of_ble_eq_true rfl)).trans ((xs_ishl k117_47).trans ((xs_istn k117_48 (Nat.le_of_ble_eq_true rfl) (ls' := [vR 116, vI (px_shl 1 (if 0 < (if (i 4 9) < 7 then (i 4 9) else 7) then (if (i 4 9) < 7 then (i 4 9) else 7) else 0)), vJ]) rfl).trans ((xs_aldn k117_49 rfl).trans ((xs_get4 k117_50 (px_s116 L) (Nat.le_of_ble_eq_true rfl) (px_r116_10 hr)).trans ((xs_ic k117_53 (by omega)).trans ((xs_ic k117_54 (by omega)).trans (xs_callsB k117_55 (as := [vR 122, vI 0, vI 0]) rfl rfl (Nat.le_of_ble_eq_true rfl) (Nat.le_of_ble_eq_true rfl) (Nat.le_of_ble_eq_true rfl))))))))))))))))) (fun c1 => ((xs_aldn k117_8 rfl).trans ((xs_get4 k117_9 (px_s116 L) (Nat.le_of_ble_eq_true rfl) (px_r116_8 hr)).trans ((xs_ildn k117_12 rfl).trans ((xs_aldn k117_13 rfl).trans ((xs_get4 k117_14 (px_s116 L) (Nat.le_of_ble_eq_true rfl) (px_r116_1 hr)).trans ((xs_ildn k117_17 rfl).trans (xs_callvB k117_18 (as := [vI x1]) rfl rfl (Nat.le_of_ble_eq_true rfl) (Nat.le_of_ble_eq_true rfl) (Nat.le_of_ble_eq_true rfl) (px_s68 L) (Nat.le_of_ble_eq_true rfl)))))))))))))
theorem b117_21 (hr : px_hr r) (d : Nat) (i l : MI) (x1 : Int) (xs0 : Int) (xs1 : Int) : px_X (d + 1) 117 (21, [vR 116, vI x1, vJ], [vI xs0, vI xs1, vR 120]) (px_sh L, i, l, r, t) = (px_C d 34 [vR 120, vI xs1, vI xs0] (px_sh L, i, l, r, t)).bind (fun q => px_X (d + 1) 117 (px_psh (24, [vR 116, vI x1, vJ], []) q.1) q.2) := (xs_callsB k117_21 (as := [vR 120, vI xs1, vI xs0]) rfl rfl (Nat.le_of_ble_eq_true rfl) (Nat.le_of_ble_eq_true rfl) (Nat.le_of_ble_eq_true rfl))
theorem b117_24 (hr : px_hr r) (d : Nat) (i l : MI) (x1 : Int) : px_X d 117 (24, [vR 116, vI x1, vJ], []) (px_sh L, i, l, r, t) = px_X d 117 (2, [vR 116, vI (px_w32 (x1 + 1)), vJ], []) (px_sh L, i, l, r, t) := ((xs_iinc k117_24 rfl (by omega) (ls' := [vR 116, vI (px_w32 (x1 + 1)), vJ]) rfl).trans (xs_goto k117_27))
theorem b117_58 (hr : px_hr r) (d : Nat) (i l : MI) (x1 : Int) : px_X d 117 (58, [vR 116, vI x1, vJ], []) (px_sh L, i, l, r, t) = px_X d 117 (60, [vR 116, vI x1, vI 1], []) (px_sh L, i, l, r, t) := ((xs_ic k117_58 (by omega)).trans (xs_istn k117_59 (Nat.le_of_ble_eq_true rfl) (ls' := [vR 116, vI x1, vI 1]) rfl))
theorem b117_60 (hr : px_hr r) (d : Nat) (i l : MI) (x1 : Int) (x2 : Int) : px_X (d + 1) 117 (60, [vR 116, vI x1, vI x2], []) (px_sh L, i, l, r, t) = if x1 ≤ x2 then (px_C d 33 [vR 122, vI (px_w32 (x1 - 1))] (px_sh L, i, l, r, t)).bind (fun q => px_X (d + 1) 117 (px_psh (107, [vR 116, vI x1, vI x2], []) q.1) q.2) else (px_C d 118 [vR 116, vI x2] (px_sh L, i, l, r, t)).bind (fun q => px_X (d + 1) 117 (px_psh (75, [vR 116, vI x1, vI x2], [vI x2, vR 121]) q.1) q.2) := ((xs_ildn k117_60 rfl).trans ((xs_ildn k117_61 rfl).trans ((xs_jge k117_62).trans (px_ite (fun c1 => ((xs_aldn k117_97 rfl).trans ((xs_get4 k117_98 (px_s116 L) (Nat.le_of_ble_eq_true rfl) (px_r116_10 hr)).trans ((xs_ildn k117_101 rfl).trans ((xs_ic k117_102 (by omega)).trans ((xs_isub k117_103).trans (xs_callsB k117_104 (as := [vR 122, vI (px_w32 (x1 - 1))]) rfl rfl (Nat.le_of_ble_eq_true rfl) (Nat.le_of_ble_eq_true rfl) (Nat.le_of_ble_eq_true rfl)))))))) (fun c1 => ((xs_aldn k117_65 rfl).trans ((xs_get4 k117_66 (px_s116 L) (Nat.le_of_ble_eq_true rfl) (px_r116_9 hr)).trans ((xs_ildn k117_69 rfl).trans ((xs_aldn k117_70 rfl).trans ((xs_ildn k117_71 rfl).trans (xs_callvB k117_72 (as := [vI x2]) rfl rfl (Nat.le_of_ble_eq_true rfl) (Nat.le_of_ble_eq_true rfl) (Nat.le_of_ble_eq_true rfl) (px_s116 L) (Nat.le_of_ble_eq_true rfl))))))))))))
theorem b117_75 (hr : px_hr r) (d : Nat) (i l : MI) (x1 : Int) (x2 : Int) (xs0 : Int) (xs1 : Int) : px_X (d + 1) 117 (75, [vR 116, vI x1, vI x2], [vI xs0, vI xs1, vR 121]) (px_sh L, i, l, r, t) = (px_C d 34 [vR 121, vI xs1, vI xs0] (px_sh L, i, l, r, t)).bind (fun q => px_X (d + 1) 117 (px_psh (78, [vR 116, vI x1, vI x2], []) q.1) q.2) := (xs_callsB k117_75 (as := [vR 121, vI xs1, vI xs0]) rfl rfl (Nat.le_of_ble_eq_true rfl) (Nat.le_of_ble_eq_true rfl) (Nat.le_of_ble_eq_true rfl))
theorem b117_78 (hr : px_hr r) (d : Nat) (i l : MI) (x1 : Int) (x2 : Int) : px_X (d + 1) 117 (78, [vR 116, vI x1, vI x2], []) (px_sh L, i, l, r, t) = (px_C d 119 [vR 116, vI x2] (px_sh L, i, l, r, t)).bind (fun q => px_X (d + 1) 117 (px_psh (88, [vR 116, vI x1, vI x2], [vI x2, vR 122]) q.1) q.2) := ((xs_aldn k117_78 rfl).trans ((xs_get4 k117_79 (px_s116 L) (Nat.le_of_ble_eq_true rfl) (px_r116_10 hr)).trans ((xs_ildn k117_82 rfl).trans ((xs_aldn k117_83 rfl).trans ((xs_ildn k117_84 rfl).trans (xs_callvB k117_85 (as := [vI x2]) rfl rfl (Nat.le_of_ble_eq_true rfl) (Nat.le_of_ble_eq_true rfl) (Nat.le_of_ble_eq_true rfl) (px_s116 L) (Nat.le_of_ble_eq_true rfl)))))))
theorem b117_88 (hr : px_hr r) (d : Nat) (i l : MI) (x1 : Int) (x2 : Int) (xs0 : Int) (xs1 : Int) : px_X (d + 1) 117 (88, [vR 116, vI x1, vI x2], [vI xs0, vI xs1, vR 122]) (px_sh L, i, l, r, t) = (px_C d 34 [vR 122, vI xs1, vI xs0] (px_sh L, i, l, r, t)).bind (fun q => px_X (d + 1) 117 (px_psh (91, [vR 116, vI x1, vI x2], []) q.1) q.2) := (xs_callsB k117_88 (as := [vR 122, vI xs1, vI xs0]) rfl rfl (Nat.le_of_ble_eq_true rfl) (Nat.le_of_ble_eq_true rfl) (Nat.le_of_ble_eq_true rfl))
theorem b117_91 (hr : px_hr r) (d : Nat) (i l : MI) (x1 : Int) (x2 : Int) : px_X d 117 (91, [vR 116, vI x1, vI x2], []) (px_sh L, i, l, r, t) = px_X d 117 (60, [vR 116, vI x1, vI (px_w32 (x2 + 1))], []) (px_sh L, i, l, r, t) := ((xs_iinc k117_91 rfl (by omega) (ls' := [vR 116, vI x1, vI (px_w32 (x2 + 1))]) rfl).trans (xs_goto k117_94))
theorem b117_107 (hr : px_hr r) (d : Nat) (i l : MI) (x1 : Int) (x2 : Int) (xs0 : Int) : px_X d 117 (107, [vR 116, vI x1, vI x2], [vI xs0]) (px_sh L, i, l, r, t) = if 1000 ≤ xs0 then some (some (vI (-1)), (px_sh L, i, l, r, t)) else some (some (vI xs0), (px_sh L, i, l, r, t)) := ((xs_istn k117_107 (Nat.le_of_ble_eq_true rfl) (ls' := [vR 116, vI x1, vI xs0]) rfl).trans ((xs_ildn k117_108 rfl).trans ((xs_si k117_109 (by omega)).trans ((xs_jge k117_112).trans (px_ite (fun c1 => ((xs_ic k117_119 (by omega)).trans (xs_ri k117_120 rfl))) (fun c1 => ((xs_ildn k117_115 rfl).trans ((xs_goto k117_116).trans (xs_ri k117_120 rfl)))))))))
-- Rescue.doorsForAll ('R116', 'I')
theorem b118_0 (hr : px_hr r) (d : Nat) (i l : MI) (x1 : Int) : px_X d 118 (0, [vR 116, vI x1, vJ, vJ], []) (px_sh L, i, l, r, t) = px_X d 118 (4, [vR 116, vI x1, vI 0, vI 0], []) (px_sh L, i, l, r, t) := ((xs_ic k118_0 (by omega)).trans ((xs_istn k118_1 (Nat.le_of_ble_eq_true rfl) (ls' := [vR 116, vI x1, vI 0, vJ]) rfl).trans ((xs_ic k118_2 (by omega)).trans (xs_istn k118_3 (Nat.le_of_ble_eq_true rfl) (ls' := [vR 116, vI x1, vI 0, vI 0]) rfl))))
theorem b118_4 (hr : px_hr r) (d : Nat) (i l : MI) (x1 : Int) (x2 : Int) (x3 : Int) : px_X (d + 1) 118 (4, [vR 116, vI x1, vI x2, vI x3], []) (px_sh L, i, l, r, t) = if (i 4 9) ≤ x3 then px_X (d + 1) 118 (49, [vR 116, vI x1, vI x2, vI 1], []) (px_sh L, i, l, r, t) else (px_C d 32 [vI x1, vI x3] (px_sh L, i, l, r, t)).bind (fun q => px_X (d + 1) 118 (px_psh (21, [vR 116, vI x1, vI x2, vI x3], [vI x2]) q.1) q.2) := ((xs_ildn k118_4 rfl).trans ((xs_aldn k118_5 rfl).trans ((xs_get4 k118_6 (px_s116 L) (Nat.le_of_ble_eq_true rfl) (px_r116_0 hr)).trans ((xs_get0 k118_9 (px_s4 L) (Nat.le_of_ble_eq_true rfl)).trans ((xs_jge k118_12).trans (px_ite (fun c1 => ((xs_ic k118_47 (by omega)).trans (xs_istn k118_48 (Nat.le_of_ble_eq_true rfl) (ls' := [vR 116, vI x1, vI x2, vI 1]) rfl))) (fun c1 => ((xs_ildn k118_15 rfl).trans ((xs_ildn k118_16 rfl).trans ((xs_ildn k118_17 rfl).trans (xs_callsB k118_18 (as := [vI x1, vI x3]) rfl rfl (Nat.le_of_ble_eq_true rfl) (Nat.le_of_ble_eq_true rfl) (Nat.le_of_ble_eq_true rfl))))))))))))
theorem b118_21 (hr : px_hr r) (d : Nat) (i l : MI) (x1 : Int) (x2 : Int) (x3 : Int) (xs0 : Int) (xs1 : Int) : px_X (d + 1) 118 (21, [vR 116, vI x1, vI x2, vI x3], [vI xs0, vI xs1]) (px_sh L, i, l, r, t) = if xs0 = 0 then px_X (d + 1) 118 (4, [vR 116, vI x1, vI (px_w32 (xs1 + 0)), vI (px_w32 (x3 + 1))], []) (px_sh L, i, l, r, t) else (px_C d 33 [vR 16, vI x3] (px_sh L, i, l, r, t)).bind (fun q => px_X (d + 1) 118 (px_psh (35, [vR 116, vI x1, vI x2, vI x3], [vI xs1]) q.1) q.2) := ((xs_ieq k118_21).trans (px_ite (fun c1 => ((xs_ic k118_38 (by omega)).trans ((xs_iadd k118_39).trans ((xs_istn k118_40 (Nat.le_of_ble_eq_true rfl) (ls' := [vR 116, vI x1, vI (px_w32 (xs1 + 0)), vI x3]) rfl).trans ((xs_iinc k118_41 rfl (by omega) (ls' := [vR 116, vI x1, vI (px_w32 (xs1 + 0)), vI (px_w32 (x3 + 1))]) rfl).trans (xs_goto k118_44)))))) (fun c1 => ((xs_aldn k118_24 rfl).trans ((xs_get4 k118_25 (px_s116 L) (Nat.le_of_ble_eq_true rfl) (px_r116_0 hr)).trans ((xs_get4 k118_28 (px_s4 L) (Nat.le_of_ble_eq_true rfl) (px_r4_12 hr)).trans ((xs_ildn k118_31 rfl).trans (xs_callsB k118_32 (as := [vR 16, vI x3]) rfl rfl (Nat.le_of_ble_eq_true rfl) (Nat.le_of_ble_eq_true rfl) (Nat.le_of_ble_eq_true rfl)))))))))
theorem b118_35 (hr : px_hr r) (d : Nat) (i l : MI) (x1 : Int) (x2 : Int) (x3 : Int) (xs0 : Int) (xs1 : Int) : px_X d 118 (35, [vR 116, vI x1, vI x2, vI x3], [vI xs0, vI xs1]) (px_sh L, i, l, r, t) = px_X d 118 (4, [vR 116, vI x1, vI (px_w32 (xs1 + xs0)), vI (px_w32 (x3 + 1))], []) (px_sh L, i, l, r, t) := ((xs_goto k118_35).trans ((xs_iadd k118_39).trans ((xs_istn k118_40 (Nat.le_of_ble_eq_true rfl) (ls' := [vR 116, vI x1, vI (px_w32 (xs1 + xs0)), vI x3]) rfl).trans ((xs_iinc k118_41 rfl (by omega) (ls' := [vR 116, vI x1, vI (px_w32 (xs1 + xs0)), vI (px_w32 (x3 + 1))]) rfl).trans (xs_goto k118_44)))))
theorem b118_49 (hr : px_hr r) (d : Nat) (i l : MI) (x1 : Int) (x2 : Int) (x3 : Int) : px_X (d + 1) 118 (49, [vR 116, vI x1, vI x2, vI x3], []) (px_sh L, i, l, r, t) = if 20 < x3 then some (some (vI 1000), (px_sh L, i, l, r, t)) else (px_C d 33 [vR 120, vI x3] (px_sh L, i, l, r, t)).bind (fun q => px_X (d + 1) 118 (px_psh (63, [vR 116, vI x1, vI x2, vI x3], []) q.1) q.2) := ((xs_ildn k118_49 rfl).trans ((xs_bi k118_50 (by omega)).trans ((xs_jgt k118_52).trans (px_ite (fun c1 => ((xs_si k118_75 (by omega)).trans (xs_ri k118_78 rfl))) (fun c1 => ((xs_aldn k118_55 rfl).trans ((xs_get4 k118_56 (px_s116 L) (Nat.le_of_ble_eq_true rfl) (px_r116_8 hr)).trans ((xs_ildn k118_59 rfl).trans (xs_callsB k118_60 (as := [vR 120, vI x3]) rfl rfl (Nat.le_of_ble_eq_true rfl) (Nat.le_of_ble_eq_true rfl) (Nat.le_of_ble_eq_true rfl))))))))))
theorem b118_63 (hr : px_hr r) (d : Nat) (i l : MI) (x1 : Int) (x2 : Int) (x3 : Int) (xs0 : Int) : px_X d 118 (63, [vR 116, vI x1, vI x2, vI x3], [vI xs0]) (px_sh L, i, l, r, t) = if xs0 < x2 then px_X d 118 (49, [vR 116, vI x1, vI x2, vI (px_w32 (x3 + 1))], []) (px_sh L, i, l, r, t) else some (some (vI x3), (px_sh L, i, l, r, t)) := ((xs_ildn k118_63 rfl).trans ((xs_jlt k118_64).trans (px_ite (fun c1 => ((xs_iinc k118_69 rfl (by omega) (ls' := [vR 116, vI x1, vI x2, vI (px_w32 (x3 + 1))]) rfl).trans (xs_goto k118_72))) (fun c1 => ((xs_ildn k118_67 rfl).trans (xs_ri k118_68 rfl))))))
-- Rescue.fewestFor ('R116', 'I')
theorem b119_0 (hr : px_hr r) (d : Nat) (i l : MI) (x1 : Int) : px_X d 119 (0, [vR 116, vI x1, vJ, vJ, vJ], []) (px_sh L, i, l, r, t) = px_X d 119 (12, [vR 116, vI x1, vI (px_and x1 (px_w32 (-x1))), vI 1000, vI 1], []) (px_sh L, i, l, r, t) := ((xs_ildn k119_0 rfl).trans ((xs_ildn k119_1 rfl).trans ((xs_ineg k119_2).trans ((xs_iand k119_3).trans ((xs_istn k119_4 (Nat.le_of_ble_eq_true rfl) (ls' := [vR 116, vI x1, vI (px_and x1 (px_w32 (-x1))), vJ, vJ]) rfl).trans ((xs_si k119_5 (by omega)).trans ((xs_istn k119_8 (Nat.le_of_ble_eq_true rfl) (ls' := [vR 116, vI x1, vI (px_and x1 (px_w32 (-x1))), vI 1000, vJ]) rfl).trans ((xs_ic k119_9 (by omega)).trans (xs_ist k119_10 (Nat.le_of_ble_eq_true rfl) (ls' := [vR 116, vI x1, vI (px_and x1 (px_w32 (-x1))), vI 1000, vI 1]) rfl)))))))))
theorem b119_12 (hr : px_hr r) (d : Nat) (i l : MI) (x1 : Int) (x2 : Int) (x3 : Int) (x4 : Int) : px_X (d + 1) 119 (12, [vR 116, vI x1, vI x2, vI x3, vI x4], []) (px_sh L, i, l, r, t) = if x1 < x4 then some (some (vI x3), (px_sh L, i, l, r, t)) else if (px_and x4 (px_xor x1 (-1))) = 0 then if (px_and x4 x2) = 0 then px_X (d + 1) 119 (12, [vR 116, vI x1, vI x2, vI x3, vI (px_w32 (x4 + 1))], []) (px_sh L, i, l, r, t) else (px_C d 33 [vR 121, vI x4] (px_sh L, i, l, r, t)).bind (fun q => px_X (d + 1) 119 (px_psh (44, [vR 116, vI x1, vI x2, vI x3, vI x4], [vI x3]) q.1) q.2) else px_X (d + 1) 119 (12, [vR 116, vI x1, vI x2, vI x3, vI (px_w32 (x4 + 1))], []) (px_sh L, i, l, r, t) := ((xs_ild k119_12 rfl).trans ((xs_ildn k119_14 rfl).trans ((xs_jgt k119_15).trans (px_ite (fun c1 => ((xs_ildn k119_68 rfl).trans (xs_ri k119_69 rfl))) (fun c1 => ((xs_ild k119_18 rfl).trans ((xs_ildn k119_20 rfl).trans ((xs_ic k119_21 (by omega)).trans ((xs_ixor k119_22).trans ((xs_iand k119_23).trans ((xs_ine k119_24).trans (px_ite (fun c2 => ((xs_ild k119_27 rfl).trans ((xs_ildn k119_29 rfl).trans ((xs_iand k119_30).trans ((xs_ieq k119_31).trans (px_ite (fun c3 => ((xs_iinc k119_62 rfl (by omega) (ls' := [vR 116, vI x1, vI x2, vI x3, vI (px_w32 (x4 + 1))]) rfl).trans (xs_goto k119_65))) (fun c3 => ((xs_ildn k119_34 rfl).trans ((xs_aldn k119_35 rfl).trans ((xs_get4 k119_36 (px_s116 L) (Nat.le_of_ble_eq_true rfl) (px_r116_9 hr)).trans ((xs_ild k119_39 rfl).trans (xs_callsB k119_41 (as := [vR 121, vI x4]) rfl rfl (Nat.le_of_ble_eq_true rfl) (Nat.le_of_ble_eq_true rfl) (Nat.le_of_ble_eq_true rfl))))))))))))) (fun c2 => ((xs_iinc k119_62 rfl (by omega) (ls' := [vR 116, vI x1, vI x2, vI x3, vI (px_w32 (x4 + 1))]) rfl).trans (xs_goto k119_65)))))))))))))))
theorem b119_44 (hr : px_hr r) (d : Nat) (i l : MI) (x1 : Int) (x2 : Int) (x3 : Int) (x4 : Int) (xs0 : Int) (xs1 : Int) : px_X (d + 1) 119 (44, [vR 116, vI x1, vI x2, vI x3, vI x4], [vI xs0, vI xs1]) (px_sh L, i, l, r, t) = (px_C d 33 [vR 122, vI (px_and x1 (px_xor x4 (-1)))] (px_sh L, i, l, r, t)).bind (fun q => px_X (d + 1) 119 (px_psh (57, [vR 116, vI x1, vI x2, vI x3, vI x4], [vI xs0, vI xs1]) q.1) q.2) := ((xs_aldn k119_44 rfl).trans ((xs_get4 k119_45 (px_s116 L) (Nat.le_of_ble_eq_true rfl) (px_r116_10 hr)).trans ((xs_ildn k119_48 rfl).trans ((xs_ild k119_49 rfl).trans ((xs_ic k119_51 (by omega)).trans ((xs_ixor k119_52).trans ((xs_iand k119_53).trans (xs_callsB k119_54 (as := [vR 122, vI (px_and x1 (px_xor x4 (-1)))]) rfl rfl (Nat.le_of_ble_eq_true rfl) (Nat.le_of_ble_eq_true rfl) (Nat.le_of_ble_eq_true rfl)))))))))
theorem b119_57 (hr : px_hr r) (d : Nat) (i l : MI) (x1 : Int) (x2 : Int) (x3 : Int) (x4 : Int) (xs0 : Int) (xs1 : Int) (xs2 : Int) : px_X d 119 (57, [vR 116, vI x1, vI x2, vI x3, vI x4], [vI xs0, vI xs1, vI xs2]) (px_sh L, i, l, r, t) = px_X d 119 (12, [vR 116, vI x1, vI x2, vI (if (px_w32 (xs1 + xs0)) < xs2 then (px_w32 (xs1 + xs0)) else xs2), vI (px_w32 (x4 + 1))], []) (px_sh L, i, l, r, t) := ((xs_iadd k119_57).trans ((xs_imin k119_58 (Nat.le_of_ble_eq_true rfl)).trans ((xs_istn k119_61 (Nat.le_of_ble_eq_true rfl) (ls' := [vR 116, vI x1, vI x2, vI (if (px_w32 (xs1 + xs0)) < xs2 then (px_w32 (xs1 + xs0)) else xs2), vI x4]) rfl).trans ((xs_iinc k119_62 rfl (by omega) (ls' := [vR 116, vI x1, vI x2, vI (if (px_w32 (xs1 + xs0)) < xs2 then (px_w32 (xs1 + xs0)) else xs2), vI (px_w32 (x4 + 1))]) rfl).trans (xs_goto k119_65)))))
-- Seats.turnTo ('R103', 'I')
theorem b121_0 (hr : px_hr r) (d : Nat) (i l : MI) (x1 : Int) : px_X (d + 1) 121 (0, [vR 103, vI x1], []) (px_sh L, i, l, r, t) = (px_C d 66 [vR 68, vI x1] (px_sh L, i, l, r, t)).bind (fun q => px_X (d + 1) 121 (px_psh (8, [vR 103, vI x1], []) q.1) q.2) := ((xs_aldn k121_0 rfl).trans ((xs_get4 k121_1 (px_s103 L) (Nat.le_of_ble_eq_true rfl) (px_r103_1 hr)).trans ((xs_ildn k121_4 rfl).trans (xs_callvB k121_5 (as := [vI x1]) rfl rfl (Nat.le_of_ble_eq_true rfl) (Nat.le_of_ble_eq_true rfl) (Nat.le_of_ble_eq_true rfl) (px_s68 L) (Nat.le_of_ble_eq_true rfl)))))
theorem b121_8 (hr : px_hr r) (d : Nat) (i l : MI) (x1 : Int) : px_X d 121 (8, [vR 103, vI x1], []) (px_sh L, i, l, r, t) = some (none, (px_sh L, (px_up i 103 7 (px_w32 ((i 103 7) + 1))), l, r, t)) := ((xs_aldn k121_8 rfl).trans ((xs_dup k121_9 rfl).trans ((xs_get0 k121_10 (px_s103 L) (Nat.le_of_ble_eq_true rfl)).trans ((xs_ic k121_13 (by omega)).trans ((xs_iadd k121_14).trans ((xs_put0 k121_15 (Or.inl rfl) (px_s103 L) (Nat.le_of_ble_eq_true rfl)).trans (xs_rv k121_18 rfl)))))))
-- Seats.seatAll ('R103', 'I')
theorem b122_0 (hr : px_hr r) (d : Nat) (i l : MI) (x1 : Int) : px_X (d + 1) 122 (0, [vR 103, vI x1, vJ, vJ, vJ], []) (px_sh L, i, l, r, t) = (px_C d 241 [vR 104, vI 0] (px_sh L, i, l, r, t)).bind (fun q => px_X (d + 1) 122 (px_psh (8, [vR 103, vI x1, vJ, vJ, vJ], []) q.1) q.2) := ((xs_aldn k122_0 rfl).trans ((xs_get4 k122_1 (px_s103 L) (Nat.le_of_ble_eq_true rfl) (px_r103_2 hr)).trans ((xs_ic k122_4 (by omega)).trans (xs_callsB k122_5 (as := [vR 104, vI 0]) rfl rfl (Nat.le_of_ble_eq_true rfl) (Nat.le_of_ble_eq_true rfl) (Nat.le_of_ble_eq_true rfl)))))
theorem b122_8 (hr : px_hr r) (d : Nat) (i l : MI) (x1 : Int) : px_X (d + 1) 122 (8, [vR 103, vI x1, vJ, vJ, vJ], []) (px_sh L, i, l, r, t) = (px_C d 241 [vR 105, vI (-1)] (px_sh L, i, l, r, t)).bind (fun q => px_X (d + 1) 122 (px_psh (16, [vR 103, vI x1, vJ, vJ, vJ], []) q.1) q.2) := ((xs_aldn k122_8 rfl).trans ((xs_get4 k122_9 (px_s103 L) (Nat.le_of_ble_eq_true rfl) (px_r103_3 hr)).trans ((xs_ic k122_12 (by omega)).trans (xs_callsB k122_13 (as := [vR 105, vI (-1)]) rfl rfl (Nat.le_of_ble_eq_true rfl) (Nat.le_of_ble_eq_true rfl) (Nat.le_of_ble_eq_true rfl)))))
theorem b122_16 (hr : px_hr r) (d : Nat) (i l : MI) (x1 : Int) : px_X d 122 (16, [vR 103, vI x1, vJ, vJ, vJ], []) (px_sh L, i, l, r, t) = px_X d 122 (18, [vR 103, vI x1, vI 0, vJ, vJ], []) (px_sh L, i, l, r, t) := ((xs_ic k122_16 (by omega)).trans (xs_istn k122_17 (Nat.le_of_ble_eq_true rfl) (ls' := [vR 103, vI x1, vI 0, vJ, vJ]) rfl))
theorem b122_18 (hr : px_hr r) (d : Nat) (i l : MI) (x1 : Int) (x2 : Int) {v3 : PV} (hn3 : px_nl v3) {v4 : PV} (hn4 : px_nl v4) : px_X (d + 1) 122 (18, [vR 103, vI x1, vI x2, v3, v4], []) (px_sh L, i, l, r, t) = if (i 4 6) ≤ x2 then some (none, (px_sh L, i, l, r, t)) else (px_C d 33 [vR 17, vI x2] (px_sh L, i, l, r, t)).bind (fun q => px_X (d + 1) 122 (px_psh (40, [vR 103, vI x1, vI x2, v3, v4], []) q.1) q.2) := ((xs_ildn k122_18 rfl).trans ((xs_aldn k122_19 rfl).trans ((xs_get4 k122_20 (px_s103 L) (Nat.le_of_ble_eq_true rfl) (px_r103_0 hr)).trans ((xs_get0 k122_23 (px_s4 L) (Nat.le_of_ble_eq_true rfl)).trans ((xs_jge k122_26).trans (px_ite (fun c1 => (xs_rv k122_92 rfl)) (fun c1 => ((xs_aldn k122_29 rfl).trans ((xs_get4 k122_30 (px_s103 L) (Nat.le_of_ble_eq_true rfl) (px_r103_0 hr)).trans ((xs_get4 k122_33 (px_s4 L) (Nat.le_of_ble_eq_true rfl) (px_r4_13 hr)).trans ((xs_ildn k122_36 rfl).trans (xs_callsB k122_37 (as := [vR 17, vI x2]) rfl rfl (Nat.le_of_ble_eq_true rfl) (Nat.le_of_ble_eq_true rfl) (Nat.le_of_ble_eq_true rfl)))))))))))))
theorem b122_40 (hr : px_hr r) (d : Nat) (i l : MI) (x1 : Int) (x2 : Int) {v3 : PV} (hn3 : px_nl v3) {v4 : PV} (hn4 : px_nl v4) (xs0 : Int) : px_X (d + 1) 122 (40, [vR 103, vI x1, vI x2, v3, v4], [vI xs0]) (px_sh L, i, l, r, t) = (px_C d 32 [vI x1, vI xs0] (px_sh L, i, l, r, t)).bind (fun q => px_X (d + 1) 122 (px_psh (46, [vR 103, vI x1, vI x2, vI xs0, v4], []) q.1) q.2) := ((xs_istn k122_40 (Nat.le_of_ble_eq_true rfl) (ls' := [vR 103, vI x1, vI x2, vI xs0, v4]) rfl).trans ((xs_ildn k122_41 rfl).trans ((xs_ildn k122_42 rfl).trans (xs_callsB k122_43 (as := [vI x1, vI xs0]) rfl rfl (Nat.le_of_ble_eq_true rfl) (Nat.le_of_ble_eq_true rfl) (Nat.le_of_ble_eq_true rfl)))))
theorem b122_46 (hr : px_hr r) (d : Nat) (i l : MI) (x1 : Int) (x2 : Int) (x3 : Int) {v4 : PV} (hn4 : px_nl v4) (xs0 : Int) : px_X (d + 1) 122 (46, [vR 103, vI x1, vI x2, vI x3, v4], [vI xs0]) (px_sh L, i, l, r, t) = if xs0 = 0 then px_X (d + 1) 122 (18, [vR 103, vI x1, vI (px_w32 (x2 + 1)), vI x3, v4], []) (px_sh L, i, l, r, t) else (px_C d 124 [vR 103, vI x3] (px_sh L, i, l, r, t)).bind (fun q => px_X (d + 1) 122 (px_psh (54, [vR 103, vI x1, vI x2, vI x3, v4], []) q.1) q.2) := ((xs_ieq k122_46).trans (px_ite (fun c1 => ((xs_iinc k122_86 rfl (by omega) (ls' := [vR 103, vI x1, vI (px_w32 (x2 + 1)), vI x3, v4]) rfl).trans (xs_goto k122_89))) (fun c1 => ((xs_aldn k122_49 rfl).trans ((xs_ildn k122_50 rfl).trans (xs_callvB k122_51 (as := [vI x3]) rfl rfl (Nat.le_of_ble_eq_true rfl) (Nat.le_of_ble_eq_true rfl) (Nat.le_of_ble_eq_true rfl) (px_s103 L) (Nat.le_of_ble_eq_true rfl)))))))
theorem b122_54 (hr : px_hr r) (d : Nat) (i l : MI) (x1 : Int) (x2 : Int) (x3 : Int) {v4 : PV} (hn4 : px_nl v4) (xs0 : Int) : px_X (d + 1) 122 (54, [vR 103, vI x1, vI x2, vI x3, v4], [vI xs0]) (px_sh L, i, l, r, t) = (px_C d 34 [vR 105, vI x3, vI xs0] (px_sh L, i, l, r, t)).bind (fun q => px_X (d + 1) 122 (px_psh (66, [vR 103, vI x1, vI x2, vI x3, vI xs0], []) q.1) q.2) := ((xs_ist k122_54 (Nat.le_of_ble_eq_true rfl) (ls' := [vR 103, vI x1, vI x2, vI x3, vI xs0]) rfl).trans ((xs_aldn k122_56 rfl).trans ((xs_get4 k122_57 (px_s103 L) (Nat.le_of_ble_eq_true rfl) (px_r103_3 hr)).trans ((xs_ildn k122_60 rfl).trans ((xs_ild k122_61 rfl).trans (xs_callsB k122_63 (as := [vR 105, vI x3, vI xs0]) rfl rfl (Nat.le_of_ble_eq_true rfl) (Nat.le_of_ble_eq_true rfl) (Nat.le_of_ble_eq_true rfl)))))))
theorem b122_66 (hr : px_hr r) (d : Nat) (i l : MI) (x1 : Int) (x2 : Int) (x3 : Int) (x4 : Int) : px_X (d + 1) 122 (66, [vR 103, vI x1, vI x2, vI x3, vI x4], []) (px_sh L, i, l, r, t) = (px_C d 33 [vR 104, vI x4] (px_sh L, i, l, r, t)).bind (fun q => px_X (d + 1) 122 (px_psh (81, [vR 103, vI x1, vI x2, vI x3, vI x4], [vI x4, vR 104]) q.1) q.2) := ((xs_aldn k122_66 rfl).trans ((xs_get4 k122_67 (px_s103 L) (Nat.le_of_ble_eq_true rfl) (px_r103_2 hr)).trans ((xs_ild k122_70 rfl).trans ((xs_aldn k122_72 rfl).trans ((xs_get4 k122_73 (px_s103 L) (Nat.le_of_ble_eq_true rfl) (px_r103_2 hr)).trans ((xs_ild k122_76 rfl).trans (xs_callsB k122_78 (as := [vR 104, vI x4]) rfl rfl (Nat.le_of_ble_eq_true rfl) (Nat.le_of_ble_eq_true rfl) (Nat.le_of_ble_eq_true rfl))))))))
theorem b122_81 (hr : px_hr r) (d : Nat) (i l : MI) (x1 : Int) (x2 : Int) (x3 : Int) (x4 : Int) (xs0 : Int) (xs1 : Int) : px_X (d + 1) 122 (81, [vR 103, vI x1, vI x2, vI x3, vI x4], [vI xs0, vI xs1, vR 104]) (px_sh L, i, l, r, t) = (px_C d 34 [vR 104, vI xs1, vI (px_w32 (xs0 + 1))] (px_sh L, i, l, r, t)).bind (fun q => px_X (d + 1) 122 (px_psh (86, [vR 103, vI x1, vI x2, vI x3, vI x4], []) q.1) q.2) := ((xs_ic k122_81 (by omega)).trans ((xs_iadd k122_82).trans (xs_callsB k122_83 (as := [vR 104, vI xs1, vI (px_w32 (xs0 + 1))]) rfl rfl (Nat.le_of_ble_eq_true rfl) (Nat.le_of_ble_eq_true rfl) (Nat.le_of_ble_eq_true rfl))))
theorem b122_86 (hr : px_hr r) (d : Nat) (i l : MI) (x1 : Int) (x2 : Int) (x3 : Int) (x4 : Int) : px_X d 122 (86, [vR 103, vI x1, vI x2, vI x3, vI x4], []) (px_sh L, i, l, r, t) = px_X d 122 (18, [vR 103, vI x1, vI (px_w32 (x2 + 1)), vI x3, vI x4], []) (px_sh L, i, l, r, t) := ((xs_iinc k122_86 rfl (by omega) (ls' := [vR 103, vI x1, vI (px_w32 (x2 + 1)), vI x3, vI x4]) rfl).trans (xs_goto k122_89))
-- Seats.placeOf ('R103', 'I')
theorem b123_0 (hr : px_hr r) (d : Nat) (i l : MI) (x1 : Int) : px_X (d + 1) 123 (0, [vR 103, vI x1], []) (px_sh L, i, l, r, t) = (px_C d 33 [vR 105, vI x1] (px_sh L, i, l, r, t)).bind (fun q => px_X (d + 1) 123 (px_psh (8, [vR 103, vI x1], []) q.1) q.2) := ((xs_aldn k123_0 rfl).trans ((xs_get4 k123_1 (px_s103 L) (Nat.le_of_ble_eq_true rfl) (px_r103_3 hr)).trans ((xs_ildn k123_4 rfl).trans (xs_callsB k123_5 (as := [vR 105, vI x1]) rfl rfl (Nat.le_of_ble_eq_true rfl) (Nat.le_of_ble_eq_true rfl) (Nat.le_of_ble_eq_true rfl)))))
theorem b123_8 (hr : px_hr r) (d : Nat) (i l : MI) (x1 : Int) (xs0 : Int) : px_X d 123 (8, [vR 103, vI x1], [vI xs0]) (px_sh L, i, l, r, t) = some (some (vI xs0), (px_sh L, i, l, r, t)) := (xs_ri k123_8 rfl)
-- Seats.chosenBy ('R103', 'I')
theorem b124_0 (hr : px_hr r) (d : Nat) (i l : MI) (x1 : Int) : px_X d 124 (0, [vR 103, vI x1, vJ, vJ, vJ, vJ, vJ], []) (px_sh L, i, l, r, t) = px_X d 124 (7, [vR 103, vI x1, vI (-1), vI 0, vI 0, vJ, vJ], []) (px_sh L, i, l, r, t) := ((xs_ic k124_0 (by omega)).trans ((xs_istn k124_1 (Nat.le_of_ble_eq_true rfl) (ls' := [vR 103, vI x1, vI (-1), vJ, vJ, vJ, vJ]) rfl).trans ((xs_ic k124_2 (by omega)).trans ((xs_istn k124_3 (Nat.le_of_ble_eq_true rfl) (ls' := [vR 103, vI x1, vI (-1), vI 0, vJ, vJ, vJ]) rfl).trans ((xs_ic k124_4 (by omega)).trans (xs_ist k124_5 (Nat.le_of_ble_eq_true rfl) (ls' := [vR 103, vI x1, vI (-1), vI 0, vI 0, vJ, vJ]) rfl))))))
theorem b124_7 (hr : px_hr r) (d : Nat) (i l : MI) (x1 : Int) (x2 : Int) (x3 : Int) (x4 : Int) {v5 : PV} (hn5 : px_nl v5) {v6 : PV} (hn6 : px_nl v6) : px_X (d + 1) 124 (7, [vR 103, vI x1, vI x2, vI x3, vI x4, v5, v6], []) (px_sh L, i, l, r, t) = if (i 4 5) ≤ x4 then some (some (vI x2), (px_sh L, i, l, r, t)) else (px_C d 33 [vR 104, vI x4] (px_sh L, i, l, r, t)).bind (fun q => px_X (d + 1) 124 (px_psh (28, [vR 103, vI x1, vI x2, vI x3, vI x4, v5, v6], []) q.1) q.2) := ((xs_ild k124_7 rfl).trans ((xs_aldn k124_9 rfl).trans ((xs_get4 k124_10 (px_s103 L) (Nat.le_of_ble_eq_true rfl) (px_r103_0 hr)).trans ((xs_get0 k124_13 (px_s4 L) (Nat.le_of_ble_eq_true rfl)).trans ((xs_jge k124_16).trans (px_ite (fun c1 => ((xs_ildn k124_91 rfl).trans (xs_ri k124_92 rfl))) (fun c1 => ((xs_aldn k124_19 rfl).trans ((xs_get4 k124_20 (px_s103 L) (Nat.le_of_ble_eq_true rfl) (px_r103_2 hr)).trans ((xs_ild k124_23 rfl).trans (xs_callsB k124_25 (as := [vR 104, vI x4]) rfl rfl (Nat.le_of_ble_eq_true rfl) (Nat.le_of_ble_eq_true rfl) (Nat.le_of_ble_eq_true rfl))))))))))))
theorem b124_28 (hr : px_hr r) (d : Nat) (i l : MI) (x1 : Int) (x2 : Int) (x3 : Int) (x4 : Int) {v5 : PV} (hn5 : px_nl v5) {v6 : PV} (hn6 : px_nl v6) (xs0 : Int) : px_X (d + 1) 124 (28, [vR 103, vI x1, vI x2, vI x3, vI x4, v5, v6], [vI xs0]) (px_sh L, i, l, r, t) = (px_C d 33 [vR 15, vI x4] (px_sh L, i, l, r, t)).bind (fun q => px_X (d + 1) 124 (px_psh (44, [vR 103, vI x1, vI x2, vI x3, vI x4, vI xs0, v6], [vI xs0]) q.1) q.2) := ((xs_ist k124_28 (Nat.le_of_ble_eq_true rfl) (ls' := [vR 103, vI x1, vI x2, vI x3, vI x4, vI xs0, v6]) rfl).trans ((xs_ild k124_30 rfl).trans ((xs_aldn k124_32 rfl).trans ((xs_get4 k124_33 (px_s103 L) (Nat.le_of_ble_eq_true rfl) (px_r103_0 hr)).trans ((xs_get4 k124_36 (px_s4 L) (Nat.le_of_ble_eq_true rfl) (px_r4_11 hr)).trans ((xs_ild k124_39 rfl).trans (xs_callsB k124_41 (as := [vR 15, vI x4]) rfl rfl (Nat.le_of_ble_eq_true rfl) (Nat.le_of_ble_eq_true rfl) (Nat.le_of_ble_eq_true rfl))))))))
theorem b124_44 (hr : px_hr r) (d : Nat) (i l : MI) (x1 : Int) (x2 : Int) (x3 : Int) (x4 : Int) (x5 : Int) {v6 : PV} (hn6 : px_nl v6) (xs0 : Int) (xs1 : Int) : px_X (d + 1) 124 (44, [vR 103, vI x1, vI x2, vI x3, vI x4, vI x5, v6], [vI xs0, vI xs1]) (px_sh L, i, l, r, t) = if xs1 < xs0 then (px_C d 125 [vR 103, vI x1, vI x4, vI x5] (px_sh L, i, l, r, t)).bind (fun q => px_X (d + 1) 124 (px_psh (59, [vR 103, vI x1, vI x2, vI x3, vI x4, vI x5, v6], []) q.1) q.2) else px_X (d + 1) 124 (7, [vR 103, vI x1, vI x2, vI x3, vI (px_w32 (x4 + 1)), vI x5, v6], []) (px_sh L, i, l, r, t) := ((xs_jlt k124_44).trans (px_ite (fun c1 => ((xs_aldn k124_50 rfl).trans ((xs_ildn k124_51 rfl).trans ((xs_ild k124_52 rfl).trans ((xs_ild k124_54 rfl).trans (xs_callvB k124_56 (as := [vI x1, vI x4, vI x5]) rfl rfl (Nat.le_of_ble_eq_true rfl) (Nat.le_of_ble_eq_true rfl) (Nat.le_of_ble_eq_true rfl) (px_s103 L) (Nat.le_of_ble_eq_true rfl))))))) (fun c1 => ((xs_goto k124_47).trans ((xs_iinc k124_85 rfl (by omega) (ls' := [vR 103, vI x1, vI x2, vI x3, vI (px_w32 (x4 + 1)), vI x5, v6]) rfl).trans (xs_goto k124_88))))))
theorem b124_59 (hr : px_hr r) (d : Nat) (i l : MI) (x1 : Int) (x2 : Int) (x3 : Int) (x4 : Int) (x5 : Int) {v6 : PV} (hn6 : px_nl v6) (xs0 : Int) : px_X d 124 (59, [vR 103, vI x1, vI x2, vI x3, vI x4, vI x5, v6], [vI xs0]) (px_sh L, i, l, r, t) = if xs0 = (-2000000) then px_X d 124 (7, [vR 103, vI x1, vI x2, vI x3, vI (px_w32 (x4 + 1)), vI x5, vI xs0], []) (px_sh L, i, l, r, t) else if x2 = (-1) then px_X d 124 (7, [vR 103, vI x1, vI x4, vI xs0, vI (px_w32 (x4 + 1)), vI x5, vI xs0], []) (px_sh L, i, l, r, t) else if xs0 ≤ x3 then px_X d 124 (7, [vR 103, vI x1, vI x2, vI x3, vI (px_w32 (x4 + 1)), vI x5, vI xs0], []) (px_sh L, i, l, r, t) else px_X d 124 (7, [vR 103, vI x1, vI x4, vI xs0, vI (px_w32 (x4 + 1)), vI x5, vI xs0], []) (px_sh L, i, l, r, t) := ((xs_ist k124_59 (Nat.le_of_ble_eq_true rfl) (ls' := [vR 103, vI x1, vI x2, vI x3, vI x4, vI x5, vI xs0]) rfl).trans ((xs_ild k124_61 rfl).trans ((xs_ldc k124_63).trans ((xs_jeq k124_65).trans (px_ite (fun c1 => ((xs_iinc k124_85 rfl (by omega) (ls' := [vR 103, vI x1, vI x2, vI x3, vI (px_w32 (x4 + 1)), vI x5, vI xs0]) rfl).trans (xs_goto k124_88))) (fun c1 => ((xs_ildn k124_68 rfl).trans ((xs_ic k124_69 (by omega)).trans ((xs_jeq k124_70).trans (px_ite (fun c2 => ((xs_ild k124_79 rfl).trans ((xs_istn k124_81 (Nat.le_of_ble_eq_true rfl) (ls' := [vR 103, vI x1, vI x4, vI x3, vI x4, vI x5, vI xs0]) rfl).trans ((xs_ild k124_82 rfl).trans ((xs_istn k124_84 (Nat.le_of_ble_eq_true rfl) (ls' := [vR 103, vI x1, vI x4, vI xs0, vI x4, vI x5, vI xs0]) rfl).trans ((xs_iinc k124_85 rfl (by omega) (ls' := [vR 103, vI x1, vI x4, vI xs0, vI (px_w32 (x4 + 1)), vI x5, vI xs0]) rfl).trans (xs_goto k124_88))))))) (fun c2 => ((xs_ild k124_73 rfl).trans ((xs_ildn k124_75 rfl).trans ((xs_jle k124_76).trans (px_ite (fun c3 => ((xs_iinc k124_85 rfl (by omega) (ls' := [vR 103, vI x1, vI x2, vI x3, vI (px_w32 (x4 + 1)), vI x5, vI xs0]) rfl).trans (xs_goto k124_88))) (fun c3 => ((xs_ild k124_79 rfl).trans ((xs_istn k124_81 (Nat.le_of_ble_eq_true rfl) (ls' := [vR 103, vI x1, vI x4, vI x3, vI x4, vI x5, vI xs0]) rfl).trans ((xs_ild k124_82 rfl).trans ((xs_istn k124_84 (Nat.le_of_ble_eq_true rfl) (ls' := [vR 103, vI x1, vI x4, vI xs0, vI x4, vI x5, vI xs0]) rfl).trans ((xs_iinc k124_85 rfl (by omega) (ls' := [vR 103, vI x1, vI x4, vI xs0, vI (px_w32 (x4 + 1)), vI x5, vI xs0]) rfl).trans (xs_goto k124_88))))))))))))))))))))))
-- Seats.wishFor ('R103', 'I', 'I', 'I')
theorem b125_0 (hr : px_hr r) (d : Nat) (i l : MI) (x1 : Int) (x2 : Int) (x3 : Int) : px_X (d + 1) 125 (0, [vR 103, vI x1, vI x2, vI x3, vJ], []) (px_sh L, i, l, r, t) = (px_C d 33 [vR 108, vI (px_w32 ((px_w32 ((px_w32 ((px_w32 (x1 * 8)) + x2)) * 4)) + x3))] (px_sh L, i, l, r, t)).bind (fun q => px_X (d + 1) 125 (px_psh (21, [vR 103, vI x1, vI x2, vI x3, vI (px_w32 ((px_w32 ((px_w32 ((px_w32 (x1 * 8)) + x2)) * 4)) + x3))], []) q.1) q.2) := ((xs_ildn k125_0 rfl).trans ((xs_bi k125_1 (by omega)).trans ((xs_imul k125_3).trans ((xs_ildn k125_4 rfl).trans ((xs_iadd k125_5).trans ((xs_ic k125_6 (by omega)).trans ((xs_imul k125_7).trans ((xs_ildn k125_8 rfl).trans ((xs_iadd k125_9).trans ((xs_ist k125_10 (Nat.le_of_ble_eq_true rfl) (ls' := [vR 103, vI x1, vI x2, vI x3, vI (px_w32 ((px_w32 ((px_w32 ((px_w32 (x1 * 8)) + x2)) * 4)) + x3))]) rfl).trans ((xs_aldn k125_12 rfl).trans ((xs_get4 k125_13 (px_s103 L) (Nat.le_of_ble_eq_true rfl) (px_r103_6 hr)).trans ((xs_ild k125_16 rfl).trans (xs_callsB k125_18 (as := [vR 108, vI (px_w32 ((px_w32 ((px_w32 ((px_w32 (x1 * 8)) + x2)) * 4)) + x3))]) rfl rfl (Nat.le_of_ble_eq_true rfl) (Nat.le_of_ble_eq_true rfl) (Nat.le_of_ble_eq_true rfl)))))))))))))))
theorem b125_21 (hr : px_hr r) (d : Nat) (i l : MI) (x1 : Int) (x2 : Int) (x3 : Int) (x4 : Int) (xs0 : Int) : px_X (d + 1) 125 (21, [vR 103, vI x1, vI x2, vI x3, vI x4], [vI xs0]) (px_sh L, i, l, r, t) = if xs0 = (i 103 7) then px_X (d + 1) 125 (60, [vR 103, vI x1, vI x2, vI x3, vI x4], []) (px_sh L, i, l, r, t) else (px_C d 67 [vR 68, vI x1, vI x2, vI x3] (px_sh L, i, l, r, t)).bind (fun q => px_X (d + 1) 125 (px_psh (44, [vR 103, vI x1, vI x2, vI x3, vI x4], [vI x4, vR 107]) q.1) q.2) := ((xs_aldn k125_21 rfl).trans ((xs_get0 k125_22 (px_s103 L) (Nat.le_of_ble_eq_true rfl)).trans ((xs_jeq k125_25).trans (px_ite (fun c1 => rfl) (fun c1 => ((xs_aldn k125_28 rfl).trans ((xs_get4 k125_29 (px_s103 L) (Nat.le_of_ble_eq_true rfl) (px_r103_5 hr)).trans ((xs_ild k125_32 rfl).trans ((xs_aldn k125_34 rfl).trans ((xs_get4 k125_35 (px_s103 L) (Nat.le_of_ble_eq_true rfl) (px_r103_1 hr)).trans ((xs_ildn k125_38 rfl).trans ((xs_ildn k125_39 rfl).trans ((xs_ildn k125_40 rfl).trans (xs_callvB k125_41 (as := [vI x1, vI x2, vI x3]) rfl rfl (Nat.le_of_ble_eq_true rfl) (Nat.le_of_ble_eq_true rfl) (Nat.le_of_ble_eq_true rfl) (px_s68 L) (Nat.le_of_ble_eq_true rfl)))))))))))))))
theorem b125_44 (hr : px_hr r) (d : Nat) (i l : MI) (x1 : Int) (x2 : Int) (x3 : Int) (x4 : Int) (xs0 : Int) (xs1 : Int) : px_X (d + 1) 125 (44, [vR 103, vI x1, vI x2, vI x3, vI x4], [vI xs0, vI xs1, vR 107]) (px_sh L, i, l, r, t) = (px_C d 34 [vR 107, vI xs1, vI xs0] (px_sh L, i, l, r, t)).bind (fun q => px_X (d + 1) 125 (px_psh (47, [vR 103, vI x1, vI x2, vI x3, vI x4], []) q.1) q.2) := (xs_callsB k125_44 (as := [vR 107, vI xs1, vI xs0]) rfl rfl (Nat.le_of_ble_eq_true rfl) (Nat.le_of_ble_eq_true rfl) (Nat.le_of_ble_eq_true rfl))
theorem b125_47 (hr : px_hr r) (d : Nat) (i l : MI) (x1 : Int) (x2 : Int) (x3 : Int) (x4 : Int) : px_X (d + 1) 125 (47, [vR 103, vI x1, vI x2, vI x3, vI x4], []) (px_sh L, i, l, r, t) = (px_C d 34 [vR 108, vI x4, vI (i 103 7)] (px_sh L, i, l, r, t)).bind (fun q => px_X (d + 1) 125 (px_psh (60, [vR 103, vI x1, vI x2, vI x3, vI x4], []) q.1) q.2) := ((xs_aldn k125_47 rfl).trans ((xs_get4 k125_48 (px_s103 L) (Nat.le_of_ble_eq_true rfl) (px_r103_6 hr)).trans ((xs_ild k125_51 rfl).trans ((xs_aldn k125_53 rfl).trans ((xs_get0 k125_54 (px_s103 L) (Nat.le_of_ble_eq_true rfl)).trans (xs_callsB k125_57 (as := [vR 108, vI x4, vI (i 103 7)]) rfl rfl (Nat.le_of_ble_eq_true rfl) (Nat.le_of_ble_eq_true rfl) (Nat.le_of_ble_eq_true rfl)))))))
theorem b125_60 (hr : px_hr r) (d : Nat) (i l : MI) (x1 : Int) (x2 : Int) (x3 : Int) (x4 : Int) : px_X (d + 1) 125 (60, [vR 103, vI x1, vI x2, vI x3, vI x4], []) (px_sh L, i, l, r, t) = (px_C d 33 [vR 107, vI x4] (px_sh L, i, l, r, t)).bind (fun q => px_X (d + 1) 125 (px_psh (69, [vR 103, vI x1, vI x2, vI x3, vI x4], []) q.1) q.2) := ((xs_aldn k125_60 rfl).trans ((xs_get4 k125_61 (px_s103 L) (Nat.le_of_ble_eq_true rfl) (px_r103_5 hr)).trans ((xs_ild k125_64 rfl).trans (xs_callsB k125_66 (as := [vR 107, vI x4]) rfl rfl (Nat.le_of_ble_eq_true rfl) (Nat.le_of_ble_eq_true rfl) (Nat.le_of_ble_eq_true rfl)))))
theorem b125_69 (hr : px_hr r) (d : Nat) (i l : MI) (x1 : Int) (x2 : Int) (x3 : Int) (x4 : Int) (xs0 : Int) : px_X d 125 (69, [vR 103, vI x1, vI x2, vI x3, vI x4], [vI xs0]) (px_sh L, i, l, r, t) = some (some (vI xs0), (px_sh L, i, l, r, t)) := (xs_ri k125_69 rfl)
-- Seats.pass ('R103', 'I', 'I', 'I')
theorem b126_0 (hr : px_hr r) (d : Nat) (i l : MI) (x1 : Int) (x2 : Int) (x3 : Int) : px_X (d + 1) 126 (0, [vR 103, vI x1, vI x2, vI x3, vJ, vJ, vJ, vJ], []) (px_sh L, i, l, r, t) = (px_C d 57 [vR 4] (px_sh L, i, l, r, t)).bind (fun q => px_X (d + 1) 126 (px_psh (16, [vR 103, vI x1, vI x2, vI x3, vR 9, vJ, vJ, vJ], []) q.1) q.2) := ((xs_aldn k126_0 rfl).trans ((xs_get4 k126_1 (px_s103 L) (Nat.le_of_ble_eq_true rfl) (px_r103_0 hr)).trans ((xs_get4 k126_4 (px_s4 L) (Nat.le_of_ble_eq_true rfl) (px_r4_2 hr)).trans ((xs_ast k126_7 (Nat.le_of_ble_eq_true rfl) (ls' := [vR 103, vI x1, vI x2, vI x3, vR 9, vJ, vJ, vJ]) rfl).trans ((xs_aldn k126_9 rfl).trans ((xs_get4 k126_10 (px_s103 L) (Nat.le_of_ble_eq_true rfl) (px_r103_0 hr)).trans (xs_callvB k126_13 (as := []) rfl rfl (Nat.le_of_ble_eq_true rfl) (Nat.le_of_ble_eq_true rfl) (Nat.le_of_ble_eq_true rfl) (px_s4 L) (Nat.le_of_ble_eq_true rfl))))))))
theorem b126_16 (hr : px_hr r) (d : Nat) (i l : MI) (x1 : Int) (x2 : Int) (x3 : Int) (xs0 : Int) : px_X (d + 1) 126 (16, [vR 103, vI x1, vI x2, vI x3, vR 9, vJ, vJ, vJ], [vI xs0]) (px_sh L, i, l, r, t) = (px_C d 85 [vR 9, vI xs0] (px_sh L, i, l, r, t)).bind (fun q => px_X (d + 1) 126 (px_psh (25, [vR 103, vI x1, vI x2, vI x3, vR 9, vI xs0, vJ, vJ], []) q.1) q.2) := ((xs_ist k126_16 (Nat.le_of_ble_eq_true rfl) (ls' := [vR 103, vI x1, vI x2, vI x3, vR 9, vI xs0, vJ, vJ]) rfl).trans ((xs_ald k126_18 rfl).trans ((xs_ild k126_20 rfl).trans (xs_callvB k126_22 (as := [vI xs0]) rfl rfl (Nat.le_of_ble_eq_true rfl) (Nat.le_of_ble_eq_true rfl) (Nat.le_of_ble_eq_true rfl) (px_s9 L) (Nat.le_of_ble_eq_true rfl)))))
theorem b126_25 (hr : px_hr r) (d : Nat) (i l : MI) (x1 : Int) (x2 : Int) (x3 : Int) (x5 : Int) : px_X d 126 (25, [vR 103, vI x1, vI x2, vI x3, vR 9, vI x5, vJ, vJ], []) (px_sh L, i, l, r, t) = px_X d 126 (31, [vR 103, vI x1, vI x2, vI x3, vR 9, vI x5, vI x1, vI x1], []) (px_sh L, i, l, r, t) := ((xs_ildn k126_25 rfl).trans ((xs_ist k126_26 (Nat.le_of_ble_eq_true rfl) (ls' := [vR 103, vI x1, vI x2, vI x3, vR 9, vI x5, vI x1, vJ]) rfl).trans ((xs_ildn k126_28 rfl).trans (xs_ist k126_29 (Nat.le_of_ble_eq_true rfl) (ls' := [vR 103, vI x1, vI x2, vI x3, vR 9, vI x5, vI x1, vI x1]) rfl))))
theorem b126_31 (hr : px_hr r) (d : Nat) (i l : MI) (x1 : Int) (x2 : Int) (x3 : Int) (x5 : Int) (x6 : Int) (x7 : Int) : px_X (d + 1) 126 (31, [vR 103, vI x1, vI x2, vI x3, vR 9, vI x5, vI x6, vI x7], []) (px_sh L, i, l, r, t) = if x2 < x7 then some (none, (px_sh L, i, l, r, t)) else if x7 = x6 then (px_C d 121 [vR 103, vI x7] (px_sh L, i, l, r, t)).bind (fun q => px_X (d + 1) 126 (px_psh (50, [vR 103, vI x1, vI x2, vI x3, vR 9, vI x5, vI x6, vI x7], []) q.1) q.2) else px_X (d + 1) 126 (68, [vR 103, vI x1, vI x2, vI x3, vR 9, vI x5, vI x6, vI x7], []) (px_sh L, i, l, r, t) := ((xs_ild k126_31 rfl).trans ((xs_ildn k126_33 rfl).trans ((xs_jgt k126_34).trans (px_ite (fun c1 => (xs_rv k126_82 rfl)) (fun c1 => ((xs_ild k126_37 rfl).trans ((xs_ild k126_39 rfl).trans ((xs_jne k126_41).trans (px_ite (fun c2 => ((xs_aldn k126_44 rfl).trans ((xs_ild k126_45 rfl).trans (xs_callvB k126_47 (as := [vI x7]) rfl rfl (Nat.le_of_ble_eq_true rfl) (Nat.le_of_ble_eq_true rfl) (Nat.le_of_ble_eq_true rfl) (px_s103 L) (Nat.le_of_ble_eq_true rfl))))) (fun c2 => rfl))))))))))
theorem b126_50 (hr : px_hr r) (d : Nat) (i l : MI) (x1 : Int) (x2 : Int) (x3 : Int) (x5 : Int) (x6 : Int) (x7 : Int) : px_X (d + 1) 126 (50, [vR 103, vI x1, vI x2, vI x3, vR 9, vI x5, vI x6, vI x7], []) (px_sh L, i, l, r, t) = (px_C d 122 [vR 103, vI x5] (px_sh L, i, l, r, t)).bind (fun q => px_X (d + 1) 126 (px_psh (56, [vR 103, vI x1, vI x2, vI x3, vR 9, vI x5, vI x6, vI x7], []) q.1) q.2) := ((xs_aldn k126_50 rfl).trans ((xs_ild k126_51 rfl).trans (xs_callvB k126_53 (as := [vI x5]) rfl rfl (Nat.le_of_ble_eq_true rfl) (Nat.le_of_ble_eq_true rfl) (Nat.le_of_ble_eq_true rfl) (px_s103 L) (Nat.le_of_ble_eq_true rfl))))
theorem b126_56 (hr : px_hr r) (d : Nat) (i l : MI) (x1 : Int) (x2 : Int) (x3 : Int) (x5 : Int) (x6 : Int) (x7 : Int) : px_X (d + 1) 126 (56, [vR 103, vI x1, vI x2, vI x3, vR 9, vI x5, vI x6, vI x7], []) (px_sh L, i, l, r, t) = (px_C d 127 [vR 103, vR 9] (px_sh L, i, l, r, t)).bind (fun q => px_X (d + 1) 126 (px_psh (62, [vR 103, vI x1, vI x2, vI x3, vR 9, vI x5, vI x6, vI x7], []) q.1) q.2) := ((xs_aldn k126_56 rfl).trans ((xs_ald k126_57 rfl).trans (xs_callvB k126_59 (as := [vR 9]) rfl rfl (Nat.le_of_ble_eq_true rfl) (Nat.le_of_ble_eq_true rfl) (Nat.le_of_ble_eq_true rfl) (px_s103 L) (Nat.le_of_ble_eq_true rfl))))
theorem b126_62 (hr : px_hr r) (d : Nat) (i l : MI) (x1 : Int) (x2 : Int) (x3 : Int) (x5 : Int) (x6 : Int) (x7 : Int) : px_X d 126 (62, [vR 103, vI x1, vI x2, vI x3, vR 9, vI x5, vI x6, vI x7], []) (px_sh L, i, l, r, t) = px_X d 126 (68, [vR 103, vI x1, vI x2, vI x3, vR 9, vI x5, vI (px_w32 (x6 + x3)), vI x7], []) (px_sh L, i, l, r, t) := ((xs_ild k126_62 rfl).trans ((xs_ildn k126_64 rfl).trans ((xs_iadd k126_65).trans (xs_ist k126_66 (Nat.le_of_ble_eq_true rfl) (ls' := [vR 103, vI x1, vI x2, vI x3, vR 9, vI x5, vI (px_w32 (x6 + x3)), vI x7]) rfl))))
theorem b126_68 (hr : px_hr r) (d : Nat) (i l : MI) (x1 : Int) (x2 : Int) (x3 : Int) (x5 : Int) (x6 : Int) (x7 : Int) : px_X (d + 1) 126 (68, [vR 103, vI x1, vI x2, vI x3, vR 9, vI x5, vI x6, vI x7], []) (px_sh L, i, l, r, t) = (px_C d 129 [vR 103, vR 9, vI x7] (px_sh L, i, l, r, t)).bind (fun q => px_X (d + 1) 126 (px_psh (76, [vR 103, vI x1, vI x2, vI x3, vR 9, vI x5, vI x6, vI x7], []) q.1) q.2) := ((xs_aldn k126_68 rfl).trans ((xs_ald k126_69 rfl).trans ((xs_ild k126_71 rfl).trans (xs_callvB k126_73 (as := [vR 9, vI x7]) rfl rfl (Nat.le_of_ble_eq_true rfl) (Nat.le_of_ble_eq_true rfl) (Nat.le_of_ble_eq_true rfl) (px_s103 L) (Nat.le_of_ble_eq_true rfl)))))
theorem b126_76 (hr : px_hr r) (d : Nat) (i l : MI) (x1 : Int) (x2 : Int) (x3 : Int) (x5 : Int) (x6 : Int) (x7 : Int) : px_X d 126 (76, [vR 103, vI x1, vI x2, vI x3, vR 9, vI x5, vI x6, vI x7], []) (px_sh L, i, l, r, t) = px_X d 126 (31, [vR 103, vI x1, vI x2, vI x3, vR 9, vI x5, vI x6, vI (px_w32 (x7 + 1))], []) (px_sh L, i, l, r, t) := ((xs_iinc k126_76 rfl (by omega) (ls' := [vR 103, vI x1, vI x2, vI x3, vR 9, vI x5, vI x6, vI (px_w32 (x7 + 1))]) rfl).trans (xs_goto k126_79))
-- Seats.note ('R103', 'R9')
theorem b127_0 (hr : px_hr r) (d : Nat) (i l : MI)  : px_X d 127 (0, [vR 103, vR 9, vJ], []) (px_sh L, i, l, r, t) = px_X d 127 (2, [vR 103, vR 9, vI 0], []) (px_sh L, i, l, r, t) := ((xs_ic k127_0 (by omega)).trans (xs_istn k127_1 (Nat.le_of_ble_eq_true rfl) (ls' := [vR 103, vR 9, vI 0]) rfl))
theorem b127_2 (hr : px_hr r) (d : Nat) (i l : MI) (x2 : Int) : px_X (d + 1) 127 (2, [vR 103, vR 9, vI x2], []) (px_sh L, i, l, r, t) = if (i 4 6) ≤ x2 then (px_C d 128 [vR 103, vI (i 9 2)] (px_sh L, i, l, r, t)).bind (fun q => px_X (d + 1) 127 (px_psh (116, [vR 103, vR 9, vI x2], [vI (i 9 1), vR 9]) q.1) q.2) else (px_C d 32 [vI (i 9 2), vI x2] (px_sh L, i, l, r, t)).bind (fun q => px_X (d + 1) 127 (px_psh (21, [vR 103, vR 9, vI x2], []) q.1) q.2) := ((xs_ildn k127_2 rfl).trans ((xs_aldn k127_3 rfl).trans ((xs_get4 k127_4 (px_s103 L) (Nat.le_of_ble_eq_true rfl) (px_r103_0 hr)).trans ((xs_get0 k127_7 (px_s4 L) (Nat.le_of_ble_eq_true rfl)).trans ((xs_jge k127_10).trans (px_ite (fun c1 => ((xs_aldn k127_103 rfl).trans ((xs_dup k127_104 rfl).trans ((xs_get0 k127_105 (px_s9 L) (Nat.le_of_ble_eq_true rfl)).trans ((xs_aldn k127_108 rfl).trans ((xs_aldn k127_109 rfl).trans ((xs_get0 k127_110 (px_s9 L) (Nat.le_of_ble_eq_true rfl)).trans (xs_callvB k127_113 (as := [vI (i 9 2)]) rfl rfl (Nat.le_of_ble_eq_true rfl) (Nat.le_of_ble_eq_true rfl) (Nat.le_of_ble_eq_true rfl) (px_s103 L) (Nat.le_of_ble_eq_true rfl))))))))) (fun c1 => ((xs_aldn k127_13 rfl).trans ((xs_get0 k127_14 (px_s9 L) (Nat.le_of_ble_eq_true rfl)).trans ((xs_ildn k127_17 rfl).trans (xs_callsB k127_18 (as := [vI (i 9 2), vI x2]) rfl rfl (Nat.le_of_ble_eq_true rfl) (Nat.le_of_ble_eq_true rfl) (Nat.le_of_ble_eq_true rfl))))))))))))
theorem b127_21 (hr : px_hr r) (d : Nat) (i l : MI) (x2 : Int) (xs0 : Int) : px_X (d + 1) 127 (21, [vR 103, vR 9, vI x2], [vI xs0]) (px_sh L, i, l, r, t) = if xs0 = 0 then px_X (d + 1) 127 (2, [vR 103, vR 9, vI (px_w32 (x2 + 1))], []) (px_sh L, i, l, r, t) else if (i 9 0) ≤ 0 then px_X (d + 1) 127 (68, [vR 103, vR 9, vI x2], []) (px_sh L, i, l, r, t) else (px_C d 33 [vR 106, vI x2] (px_sh L, i, l, r, t)).bind (fun q => px_X (d + 1) 127 (px_psh (39, [vR 103, vR 9, vI x2], []) q.1) q.2) := ((xs_ieq k127_21).trans (px_ite (fun c1 => ((xs_iinc k127_97 rfl (by omega) (ls' := [vR 103, vR 9, vI (px_w32 (x2 + 1))]) rfl).trans (xs_goto k127_100))) (fun c1 => ((xs_aldn k127_24 rfl).trans ((xs_get0 k127_25 (px_s9 L) (Nat.le_of_ble_eq_true rfl)).trans ((xs_ile k127_28).trans (px_ite (fun c2 => rfl) (fun c2 => ((xs_aldn k127_31 rfl).trans ((xs_get4 k127_32 (px_s103 L) (Nat.le_of_ble_eq_true rfl) (px_r103_4 hr)).trans ((xs_ildn k127_35 rfl).trans (xs_callsB k127_36 (as := [vR 106, vI x2]) rfl rfl (Nat.le_of_ble_eq_true rfl) (Nat.le_of_ble_eq_true rfl) (Nat.le_of_ble_eq_true rfl)))))))))))))
theorem b127_39 (hr : px_hr r) (d : Nat) (i l : MI) (x2 : Int) (xs0 : Int) : px_X (d + 1) 127 (39, [vR 103, vR 9, vI x2], [vI xs0]) (px_sh L, i, l, r, t) = (px_C d 33 [vR 105, vI x2] (px_sh L, i, l, r, t)).bind (fun q => px_X (d + 1) 127 (px_psh (47, [vR 103, vR 9, vI x2], [vI xs0]) q.1) q.2) := ((xs_aldn k127_39 rfl).trans ((xs_get4 k127_40 (px_s103 L) (Nat.le_of_ble_eq_true rfl) (px_r103_3 hr)).trans ((xs_ildn k127_43 rfl).trans (xs_callsB k127_44 (as := [vR 105, vI x2]) rfl rfl (Nat.le_of_ble_eq_true rfl) (Nat.le_of_ble_eq_true rfl) (Nat.le_of_ble_eq_true rfl)))))
theorem b127_47 (hr : px_hr r) (d : Nat) (i l : MI) (x2 : Int) (xs0 : Int) (xs1 : Int) : px_X (d + 1) 127 (47, [vR 103, vR 9, vI x2], [vI xs0, vI xs1]) (px_sh L, i, l, r, t) = if xs1 = xs0 then px_X (d + 1) 127 (68, [vR 103, vR 9, vI x2], []) (px_sh L, i, l, r, t) else (px_C d 33 [vR 12, vI x2] (px_sh L, i, l, r, t)).bind (fun q => px_X (d + 1) 127 (px_psh (63, [vR 103, vR 9, vI x2], [vI x2, vR 12]) q.1) q.2) := ((xs_jeq k127_47).trans (px_ite (fun c1 => rfl) (fun c1 => ((xs_aldn k127_50 rfl).trans ((xs_get4 k127_51 (px_s9 L) (Nat.le_of_ble_eq_true rfl) (px_r9_5 hr)).trans ((xs_ildn k127_54 rfl).trans ((xs_aldn k127_55 rfl).trans ((xs_get4 k127_56 (px_s9 L) (Nat.le_of_ble_eq_true rfl) (px_r9_5 hr)).trans ((xs_ildn k127_59 rfl).trans (xs_callsB k127_60 (as := [vR 12, vI x2]) rfl rfl (Nat.le_of_ble_eq_true rfl) (Nat.le_of_ble_eq_true rfl) (Nat.le_of_ble_eq_true rfl)))))))))))
theorem b127_63 (hr : px_hr r) (d : Nat) (i l : MI) (x2 : Int) (xs0 : Int) (xs1 : Int) : px_X (d + 1) 127 (63, [vR 103, vR 9, vI x2], [vI xs0, vI xs1, vR 12]) (px_sh L, i, l, r, t) = (px_C d 34 [vR 12, vI xs1, vI (px_w32 (xs0 + 1))] (px_sh L, i, l, r, t)).bind (fun q => px_X (d + 1) 127 (px_psh (68, [vR 103, vR 9, vI x2], []) q.1) q.2) := ((xs_ic k127_63 (by omega)).trans ((xs_iadd k127_64).trans (xs_callsB k127_65 (as := [vR 12, vI xs1, vI (px_w32 (xs0 + 1))]) rfl rfl (Nat.le_of_ble_eq_true rfl) (Nat.le_of_ble_eq_true rfl) (Nat.le_of_ble_eq_true rfl))))
theorem b127_68 (hr : px_hr r) (d : Nat) (i l : MI) (x2 : Int) : px_X (d + 1) 127 (68, [vR 103, vR 9, vI x2], []) (px_sh L, i, l, r, t) = (px_C d 33 [vR 105, vI x2] (px_sh L, i, l, r, t)).bind (fun q => px_X (d + 1) 127 (px_psh (78, [vR 103, vR 9, vI x2], [vI x2, vR 9]) q.1) q.2) := ((xs_aldn k127_68 rfl).trans ((xs_ildn k127_69 rfl).trans ((xs_aldn k127_70 rfl).trans ((xs_get4 k127_71 (px_s103 L) (Nat.le_of_ble_eq_true rfl) (px_r103_3 hr)).trans ((xs_ildn k127_74 rfl).trans (xs_callsB k127_75 (as := [vR 105, vI x2]) rfl rfl (Nat.le_of_ble_eq_true rfl) (Nat.le_of_ble_eq_true rfl) (Nat.le_of_ble_eq_true rfl)))))))
theorem b127_78 (hr : px_hr r) (d : Nat) (i l : MI) (x2 : Int) (xs0 : Int) (xs1 : Int) : px_X (d + 1) 127 (78, [vR 103, vR 9, vI x2], [vI xs0, vI xs1, vR 9]) (px_sh L, i, l, r, t) = (px_C d 86 [vR 9, vI xs1, vI xs0] (px_sh L, i, l, r, t)).bind (fun q => px_X (d + 1) 127 (px_psh (81, [vR 103, vR 9, vI x2], []) q.1) q.2) := (xs_callvB k127_78 (as := [vI xs1, vI xs0]) rfl rfl (Nat.le_of_ble_eq_true rfl) (Nat.le_of_ble_eq_true rfl) (Nat.le_of_ble_eq_true rfl) (px_s9 L) (Nat.le_of_ble_eq_true rfl))
theorem b127_81 (hr : px_hr r) (d : Nat) (i l : MI) (x2 : Int) : px_X (d + 1) 127 (81, [vR 103, vR 9, vI x2], []) (px_sh L, i, l, r, t) = (px_C d 33 [vR 105, vI x2] (px_sh L, i, l, r, t)).bind (fun q => px_X (d + 1) 127 (px_psh (94, [vR 103, vR 9, vI x2], [vI x2, vR 106]) q.1) q.2) := ((xs_aldn k127_81 rfl).trans ((xs_get4 k127_82 (px_s103 L) (Nat.le_of_ble_eq_true rfl) (px_r103_4 hr)).trans ((xs_ildn k127_85 rfl).trans ((xs_aldn k127_86 rfl).trans ((xs_get4 k127_87 (px_s103 L) (Nat.le_of_ble_eq_true rfl) (px_r103_3 hr)).trans ((xs_ildn k127_90 rfl).trans (xs_callsB k127_91 (as := [vR 105, vI x2]) rfl rfl (Nat.le_of_ble_eq_true rfl) (Nat.le_of_ble_eq_true rfl) (Nat.le_of_ble_eq_true rfl))))))))
theorem b127_94 (hr : px_hr r) (d : Nat) (i l : MI) (x2 : Int) (xs0 : Int) (xs1 : Int) : px_X (d + 1) 127 (94, [vR 103, vR 9, vI x2], [vI xs0, vI xs1, vR 106]) (px_sh L, i, l, r, t) = (px_C d 34 [vR 106, vI xs1, vI xs0] (px_sh L, i, l, r, t)).bind (fun q => px_X (d + 1) 127 (px_psh (97, [vR 103, vR 9, vI x2], []) q.1) q.2) := (xs_callsB k127_94 (as := [vR 106, vI xs1, vI xs0]) rfl rfl (Nat.le_of_ble_eq_true rfl) (Nat.le_of_ble_eq_true rfl) (Nat.le_of_ble_eq_true rfl))
theorem b127_97 (hr : px_hr r) (d : Nat) (i l : MI) (x2 : Int) : px_X d 127 (97, [vR 103, vR 9, vI x2], []) (px_sh L, i, l, r, t) = px_X d 127 (2, [vR 103, vR 9, vI (px_w32 (x2 + 1))], []) (px_sh L, i, l, r, t) := ((xs_iinc k127_97 rfl (by omega) (ls' := [vR 103, vR 9, vI (px_w32 (x2 + 1))]) rfl).trans (xs_goto k127_100))
theorem b127_116 (hr : px_hr r) (d : Nat) (i l : MI) (x2 : Int) (xs0 : Int) (xs1 : Int) : px_X d 127 (116, [vR 103, vR 9, vI x2], [vI xs0, vI xs1, vR 9]) (px_sh L, i, l, r, t) = some (none, (px_sh L, (px_up (px_up i 9 1 (px_w32 (xs1 + xs0))) 9 0 (px_w32 ((i 9 0) + 1))), l, r, t)) := ((xs_iadd k127_116).trans ((xs_put0 k127_117 (Or.inl rfl) (px_s9 L) (Nat.le_of_ble_eq_true rfl)).trans ((xs_aldn k127_120 rfl).trans ((xs_dup k127_121 rfl).trans ((xs_get0 k127_122 (px_s9 L) (Nat.le_of_ble_eq_true rfl)).trans ((xs_ic k127_125 (by omega)).trans ((xs_iadd k127_126).trans ((xs_put0 k127_127 (Or.inl rfl) (px_s9 L) (Nat.le_of_ble_eq_true rfl)).trans (xs_rv k127_130 rfl)))))))))
-- Seats.quarrelsNow ('R103', 'I')
theorem b128_0 (hr : px_hr r) (d : Nat) (i l : MI) (x1 : Int) : px_X d 128 (0, [vR 103, vI x1, vJ, vJ, vJ, vJ], []) (px_sh L, i, l, r, t) = px_X d 128 (4, [vR 103, vI x1, vI 0, vI 0, vJ, vJ], []) (px_sh L, i, l, r, t) := ((xs_ic k128_0 (by omega)).trans ((xs_istn k128_1 (Nat.le_of_ble_eq_true rfl) (ls' := [vR 103, vI x1, vI 0, vJ, vJ, vJ]) rfl).trans ((xs_ic k128_2 (by omega)).trans (xs_istn k128_3 (Nat.le_of_ble_eq_true rfl) (ls' := [vR 103, vI x1, vI 0, vI 0, vJ, vJ]) rfl))))
theorem b128_4 (hr : px_hr r) (d : Nat) (i l : MI) (x1 : Int) (x2 : Int) (x3 : Int) {v4 : PV} (hn4 : px_nl v4) {v5 : PV} (hn5 : px_nl v5) : px_X (d + 1) 128 (4, [vR 103, vI x1, vI x2, vI x3, v4, v5], []) (px_sh L, i, l, r, t) = if (i 4 6) ≤ x3 then some (some (vI x2), (px_sh L, i, l, r, t)) else (px_C d 32 [vI x1, vI x3] (px_sh L, i, l, r, t)).bind (fun q => px_X (d + 1) 128 (px_psh (20, [vR 103, vI x1, vI x2, vI x3, v4, v5], []) q.1) q.2) := ((xs_ildn k128_4 rfl).trans ((xs_aldn k128_5 rfl).trans ((xs_get4 k128_6 (px_s103 L) (Nat.le_of_ble_eq_true rfl) (px_r103_0 hr)).trans ((xs_get0 k128_9 (px_s4 L) (Nat.le_of_ble_eq_true rfl)).trans ((xs_jge k128_12).trans (px_ite (fun c1 => ((xs_ildn k128_137 rfl).trans (xs_ri k128_138 rfl))) (fun c1 => ((xs_ildn k128_15 rfl).trans ((xs_ildn k128_16 rfl).trans (xs_callsB k128_17 (as := [vI x1, vI x3]) rfl rfl (Nat.le_of_ble_eq_true rfl) (Nat.le_of_ble_eq_true rfl) (Nat.le_of_ble_eq_true rfl)))))))))))
theorem b128_20 (hr : px_hr r) (d : Nat) (i l : MI) (x1 : Int) (x2 : Int) (x3 : Int) {v4 : PV} (hn4 : px_nl v4) {v5 : PV} (hn5 : px_nl v5) (xs0 : Int) : px_X (d + 1) 128 (20, [vR 103, vI x1, vI x2, vI x3, v4, v5], [vI xs0]) (px_sh L, i, l, r, t) = if xs0 = 0 then px_X (d + 1) 128 (4, [vR 103, vI x1, vI x2, vI (px_w32 (x3 + 1)), v4, v5], []) (px_sh L, i, l, r, t) else (px_C d 33 [vR 105, vI x3] (px_sh L, i, l, r, t)).bind (fun q => px_X (d + 1) 128 (px_psh (31, [vR 103, vI x1, vI x2, vI x3, v4, v5], []) q.1) q.2) := ((xs_ieq k128_20).trans (px_ite (fun c1 => ((xs_iinc k128_131 rfl (by omega) (ls' := [vR 103, vI x1, vI x2, vI (px_w32 (x3 + 1)), v4, v5]) rfl).trans (xs_goto k128_134))) (fun c1 => ((xs_aldn k128_23 rfl).trans ((xs_get4 k128_24 (px_s103 L) (Nat.le_of_ble_eq_true rfl) (px_r103_3 hr)).trans ((xs_ildn k128_27 rfl).trans (xs_callsB k128_28 (as := [vR 105, vI x3]) rfl rfl (Nat.le_of_ble_eq_true rfl) (Nat.le_of_ble_eq_true rfl) (Nat.le_of_ble_eq_true rfl))))))))
theorem b128_31 (hr : px_hr r) (d : Nat) (i l : MI) (x1 : Int) (x2 : Int) (x3 : Int) {v4 : PV} (hn4 : px_nl v4) {v5 : PV} (hn5 : px_nl v5) (xs0 : Int) : px_X d 128 (31, [vR 103, vI x1, vI x2, vI x3, v4, v5], [vI xs0]) (px_sh L, i, l, r, t) = if xs0 = (-1) then px_X d 128 (4, [vR 103, vI x1, vI x2, vI (px_w32 (x3 + 1)), v4, v5], []) (px_sh L, i, l, r, t) else px_X d 128 (43, [vR 103, vI x1, vI x2, vI x3, vI (px_w32 (x3 + 1)), v5], []) (px_sh L, i, l, r, t) := ((xs_ic k128_31 (by omega)).trans ((xs_jne k128_32).trans (px_ite (fun c1 => ((xs_goto k128_35).trans ((xs_iinc k128_131 rfl (by omega) (ls' := [vR 103, vI x1, vI x2, vI (px_w32 (x3 + 1)), v4, v5]) rfl).trans (xs_goto k128_134)))) (fun c1 => ((xs_ildn k128_38 rfl).trans ((xs_ic k128_39 (by omega)).trans ((xs_iadd k128_40).trans (xs_ist k128_41 (Nat.le_of_ble_eq_true rfl) (ls' := [vR 103, vI x1, vI x2, vI x3, vI (px_w32 (x3 + 1)), v5]) rfl))))))))
theorem b128_43 (hr : px_hr r) (d : Nat) (i l : MI) (x1 : Int) (x2 : Int) (x3 : Int) (x4 : Int) {v5 : PV} (hn5 : px_nl v5) : px_X (d + 1) 128 (43, [vR 103, vI x1, vI x2, vI x3, vI x4, v5], []) (px_sh L, i, l, r, t) = if (i 4 6) ≤ x4 then px_X (d + 1) 128 (4, [vR 103, vI x1, vI x2, vI (px_w32 (x3 + 1)), vI x4, v5], []) (px_sh L, i, l, r, t) else (px_C d 32 [vI x1, vI x4] (px_sh L, i, l, r, t)).bind (fun q => px_X (d + 1) 128 (px_psh (61, [vR 103, vI x1, vI x2, vI x3, vI x4, v5], []) q.1) q.2) := ((xs_ild k128_43 rfl).trans ((xs_aldn k128_45 rfl).trans ((xs_get4 k128_46 (px_s103 L) (Nat.le_of_ble_eq_true rfl) (px_r103_0 hr)).trans ((xs_get0 k128_49 (px_s4 L) (Nat.le_of_ble_eq_true rfl)).trans ((xs_jge k128_52).trans (px_ite (fun c1 => ((xs_iinc k128_131 rfl (by omega) (ls' := [vR 103, vI x1, vI x2, vI (px_w32 (x3 + 1)), vI x4, v5]) rfl).trans (xs_goto k128_134))) (fun c1 => ((xs_ildn k128_55 rfl).trans ((xs_ild k128_56 rfl).trans (xs_callsB k128_58 (as := [vI x1, vI x4]) rfl rfl (Nat.le_of_ble_eq_true rfl) (Nat.le_of_ble_eq_true rfl) (Nat.le_of_ble_eq_true rfl)))))))))))
theorem b128_61 (hr : px_hr r) (d : Nat) (i l : MI) (x1 : Int) (x2 : Int) (x3 : Int) (x4 : Int) {v5 : PV} (hn5 : px_nl v5) (xs0 : Int) : px_X (d + 1) 128 (61, [vR 103, vI x1, vI x2, vI x3, vI x4, v5], [vI xs0]) (px_sh L, i, l, r, t) = if xs0 = 0 then px_X (d + 1) 128 (88, [vR 103, vI x1, vI x2, vI x3, vI x4, v5], []) (px_sh L, i, l, r, t) else (px_C d 33 [vR 105, vI x4] (px_sh L, i, l, r, t)).bind (fun q => px_X (d + 1) 128 (px_psh (73, [vR 103, vI x1, vI x2, vI x3, vI x4, v5], []) q.1) q.2) := ((xs_ieq k128_61).trans (px_ite (fun c1 => rfl) (fun c1 => ((xs_aldn k128_64 rfl).trans ((xs_get4 k128_65 (px_s103 L) (Nat.le_of_ble_eq_true rfl) (px_r103_3 hr)).trans ((xs_ild k128_68 rfl).trans (xs_callsB k128_70 (as := [vR 105, vI x4]) rfl rfl (Nat.le_of_ble_eq_true rfl) (Nat.le_of_ble_eq_true rfl) (Nat.le_of_ble_eq_true rfl))))))))
theorem b128_73 (hr : px_hr r) (d : Nat) (i l : MI) (x1 : Int) (x2 : Int) (x3 : Int) (x4 : Int) {v5 : PV} (hn5 : px_nl v5) (xs0 : Int) : px_X (d + 1) 128 (73, [vR 103, vI x1, vI x2, vI x3, vI x4, v5], [vI xs0]) (px_sh L, i, l, r, t) = (px_C d 33 [vR 105, vI x3] (px_sh L, i, l, r, t)).bind (fun q => px_X (d + 1) 128 (px_psh (81, [vR 103, vI x1, vI x2, vI x3, vI x4, v5], [vI xs0]) q.1) q.2) := ((xs_aldn k128_73 rfl).trans ((xs_get4 k128_74 (px_s103 L) (Nat.le_of_ble_eq_true rfl) (px_r103_3 hr)).trans ((xs_ildn k128_77 rfl).trans (xs_callsB k128_78 (as := [vR 105, vI x3]) rfl rfl (Nat.le_of_ble_eq_true rfl) (Nat.le_of_ble_eq_true rfl) (Nat.le_of_ble_eq_true rfl)))))
theorem b128_81 (hr : px_hr r) (d : Nat) (i l : MI) (x1 : Int) (x2 : Int) (x3 : Int) (x4 : Int) {v5 : PV} (hn5 : px_nl v5) (xs0 : Int) (xs1 : Int) : px_X d 128 (81, [vR 103, vI x1, vI x2, vI x3, vI x4, v5], [vI xs0, vI xs1]) (px_sh L, i, l, r, t) = if xs1 = xs0 then px_X d 128 (89, [vR 103, vI x1, vI x2, vI x3, vI x4, v5], [vI 1]) (px_sh L, i, l, r, t) else px_X d 128 (88, [vR 103, vI x1, vI x2, vI x3, vI x4, v5], []) (px_sh L, i, l, r, t) := ((xs_jne k128_81).trans (px_ite (fun c1 => ((xs_ic k128_84 (by omega)).trans (xs_goto k128_85))) (fun c1 => rfl)))
theorem b128_88 (hr : px_hr r) (d : Nat) (i l : MI) (x1 : Int) (x2 : Int) (x3 : Int) (x4 : Int) {v5 : PV} (hn5 : px_nl v5) : px_X d 128 (88, [vR 103, vI x1, vI x2, vI x3, vI x4, v5], []) (px_sh L, i, l, r, t) = px_X d 128 (89, [vR 103, vI x1, vI x2, vI x3, vI x4, v5], [vI 0]) (px_sh L, i, l, r, t) := (xs_ic k128_88 (by omega))
theorem b128_89 (hr : px_hr r) (d : Nat) (i l : MI) (x1 : Int) (x2 : Int) (x3 : Int) (x4 : Int) {v5 : PV} (hn5 : px_nl v5) (xs0 : Int) : px_X (d + 1) 128 (89, [vR 103, vI x1, vI x2, vI x3, vI x4, v5], [vI xs0]) (px_sh L, i, l, r, t) = if xs0 = 0 then px_X (d + 1) 128 (43, [vR 103, vI x1, vI x2, vI x3, vI (px_w32 (x4 + 1)), vI xs0], []) (px_sh L, i, l, r, t) else (px_C d 68 [vR 68, vI x3, vI x4] (px_sh L, i, l, r, t)).bind (fun q => px_X (d + 1) 128 (px_psh (106, [vR 103, vI x1, vI x2, vI x3, vI x4, vI xs0], []) q.1) q.2) := ((xs_ist k128_89 (Nat.le_of_ble_eq_true rfl) (ls' := [vR 103, vI x1, vI x2, vI x3, vI x4, vI xs0]) rfl).trans ((xs_ild k128_91 rfl).trans ((xs_ieq k128_93).trans (px_ite (fun c1 => ((xs_iinc k128_125 rfl (by omega) (ls' := [vR 103, vI x1, vI x2, vI x3, vI (px_w32 (x4 + 1)), vI xs0]) rfl).trans (xs_goto k128_128))) (fun c1 => ((xs_aldn k128_96 rfl).trans ((xs_get4 k128_97 (px_s103 L) (Nat.le_of_ble_eq_true rfl) (px_r103_1 hr)).trans ((xs_ildn k128_100 rfl).trans ((xs_ild k128_101 rfl).trans (xs_callvB k128_103 (as := [vI x3, vI x4]) rfl rfl (Nat.le_of_ble_eq_true rfl) (Nat.le_of_ble_eq_true rfl) (Nat.le_of_ble_eq_true rfl) (px_s68 L) (Nat.le_of_ble_eq_true rfl)))))))))))
theorem b128_106 (hr : px_hr r) (d : Nat) (i l : MI) (x1 : Int) (x2 : Int) (x3 : Int) (x4 : Int) (x5 : Int) (xs0 : Int) : px_X (d + 1) 128 (106, [vR 103, vI x1, vI x2, vI x3, vI x4, vI x5], [vI xs0]) (px_sh L, i, l, r, t) = if xs0 = 0 then (px_C d 68 [vR 68, vI x4, vI x3] (px_sh L, i, l, r, t)).bind (fun q => px_X (d + 1) 128 (px_psh (119, [vR 103, vI x1, vI x2, vI x3, vI x4, vI x5], []) q.1) q.2) else px_X (d + 1) 128 (43, [vR 103, vI x1, vI (px_w32 (x2 + 1)), vI x3, vI (px_w32 (x4 + 1)), vI x5], []) (px_sh L, i, l, r, t) := ((xs_ine k128_106).trans (px_ite (fun c1 => ((xs_aldn k128_109 rfl).trans ((xs_get4 k128_110 (px_s103 L) (Nat.le_of_ble_eq_true rfl) (px_r103_1 hr)).trans ((xs_ild k128_113 rfl).trans ((xs_ildn k128_115 rfl).trans (xs_callvB k128_116 (as := [vI x4, vI x3]) rfl rfl (Nat.le_of_ble_eq_true rfl) (Nat.le_of_ble_eq_true rfl) (Nat.le_of_ble_eq_true rfl) (px_s68 L) (Nat.le_of_ble_eq_true rfl))))))) (fun c1 => ((xs_iinc k128_122 rfl (by omega) (ls' := [vR 103, vI x1, vI (px_w32 (x2 + 1)), vI x3, vI x4, vI x5]) rfl).trans ((xs_iinc k128_125 rfl (by omega) (ls' := [vR 103, vI x1, vI (px_w32 (x2 + 1)), vI x3, vI (px_w32 (x4 + 1)), vI x5]) rfl).trans (xs_goto k128_128))))))
theorem b128_119 (hr : px_hr r) (d : Nat) (i l : MI) (x1 : Int) (x2 : Int) (x3 : Int) (x4 : Int) (x5 : Int) (xs0 : Int) : px_X d 128 (119, [vR 103, vI x1, vI x2, vI x3, vI x4, vI x5], [vI xs0]) (px_sh L, i, l, r, t) = if xs0 = 0 then px_X d 128 (43, [vR 103, vI x1, vI x2, vI x3, vI (px_w32 (x4 + 1)), vI x5], []) (px_sh L, i, l, r, t) else px_X d 128 (43, [vR 103, vI x1, vI (px_w32 (x2 + 1)), vI x3, vI (px_w32 (x4 + 1)), vI x5], []) (px_sh L, i, l, r, t) := ((xs_ieq k128_119).trans (px_ite (fun c1 => ((xs_iinc k128_125 rfl (by omega) (ls' := [vR 103, vI x1, vI x2, vI x3, vI (px_w32 (x4 + 1)), vI x5]) rfl).trans (xs_goto k128_128))) (fun c1 => ((xs_iinc k128_122 rfl (by omega) (ls' := [vR 103, vI x1, vI (px_w32 (x2 + 1)), vI x3, vI x4, vI x5]) rfl).trans ((xs_iinc k128_125 rfl (by omega) (ls' := [vR 103, vI x1, vI (px_w32 (x2 + 1)), vI x3, vI (px_w32 (x4 + 1)), vI x5]) rfl).trans (xs_goto k128_128))))))
-- Seats.soak ('R103', 'R9', 'I')
theorem b129_0 (hr : px_hr r) (d : Nat) (i l : MI) (x2 : Int) : px_X (d + 1) 129 (0, [vR 103, vR 9, vI x2, vJ, vJ, vJ, vJ], []) (px_sh L, i, l, r, t) = (px_C d 65 [vR 68, vI x2] (px_sh L, i, l, r, t)).bind (fun q => px_X (d + 1) 129 (px_psh (8, [vR 103, vR 9, vI x2, vJ, vJ, vJ, vJ], []) q.1) q.2) := ((xs_aldn k129_0 rfl).trans ((xs_get4 k129_1 (px_s103 L) (Nat.le_of_ble_eq_true rfl) (px_r103_1 hr)).trans ((xs_ildn k129_4 rfl).trans (xs_callvB k129_5 (as := [vI x2]) rfl rfl (Nat.le_of_ble_eq_true rfl) (Nat.le_of_ble_eq_true rfl) (Nat.le_of_ble_eq_true rfl) (px_s68 L) (Nat.le_of_ble_eq_true rfl)))))
theorem b129_8 (hr : px_hr r) (d : Nat) (i l : MI) (x2 : Int) (xs0 : Int) : px_X d 129 (8, [vR 103, vR 9, vI x2, vJ, vJ, vJ, vJ], [vI xs0]) (px_sh L, i, l, r, t) = px_X d 129 (12, [vR 103, vR 9, vI x2, vI xs0, vI 0, vJ, vJ], []) (px_sh L, i, l, r, t) := ((xs_istn k129_8 (Nat.le_of_ble_eq_true rfl) (ls' := [vR 103, vR 9, vI x2, vI xs0, vJ, vJ, vJ]) rfl).trans ((xs_ic k129_9 (by omega)).trans (xs_ist k129_10 (Nat.le_of_ble_eq_true rfl) (ls' := [vR 103, vR 9, vI x2, vI xs0, vI 0, vJ, vJ]) rfl)))
theorem b129_12 (hr : px_hr r) (d : Nat) (i l : MI) (x2 : Int) (x3 : Int) (x4 : Int) {v5 : PV} (hn5 : px_nl v5) {v6 : PV} (hn6 : px_nl v6) : px_X (d + 1) 129 (12, [vR 103, vR 9, vI x2, vI x3, vI x4, v5, v6], []) (px_sh L, i, l, r, t) = if (i 4 6) ≤ x4 then some (none, (px_sh L, i, l, r, t)) else (px_C d 52 [vR 4, vI x4] (px_sh L, i, l, r, t)).bind (fun q => px_X (d + 1) 129 (px_psh (33, [vR 103, vR 9, vI x2, vI x3, vI x4, v5, v6], []) q.1) q.2) := ((xs_ild k129_12 rfl).trans ((xs_aldn k129_14 rfl).trans ((xs_get4 k129_15 (px_s103 L) (Nat.le_of_ble_eq_true rfl) (px_r103_0 hr)).trans ((xs_get0 k129_18 (px_s4 L) (Nat.le_of_ble_eq_true rfl)).trans ((xs_jge k129_21).trans (px_ite (fun c1 => (xs_rv k129_137 rfl)) (fun c1 => ((xs_aldn k129_24 rfl).trans ((xs_get4 k129_25 (px_s103 L) (Nat.le_of_ble_eq_true rfl) (px_r103_0 hr)).trans ((xs_ild k129_28 rfl).trans (xs_callvB k129_30 (as := [vI x4]) rfl rfl (Nat.le_of_ble_eq_true rfl) (Nat.le_of_ble_eq_true rfl) (Nat.le_of_ble_eq_true rfl) (px_s4 L) (Nat.le_of_ble_eq_true rfl))))))))))))
theorem b129_33_N (hr : px_hr r) (d : Nat) (i l : MI) (x2 : Int) (x3 : Int) (x4 : Int) {v5 : PV} (hn5 : px_nl v5) {v6 : PV} (hn6 : px_nl v6) : px_X (d + 1) 129 (33, [vR 103, vR 9, vI x2, vI x3, vI x4, v5, v6], [vN]) (px_sh L, i, l, r, t) = (px_C d 33 [vR 105, vI x4] (px_sh L, i, l, r, t)).bind (fun q => px_X (d + 1) 129 (px_psh (48, [vR 103, vR 9, vI x2, vI x3, vI x4, vN, v6], [vR 4]) q.1) q.2) := ((xs_ast k129_33 (Nat.le_of_ble_eq_true rfl) (ls' := [vR 103, vR 9, vI x2, vI x3, vI x4, vN, v6]) rfl).trans ((xs_aldn k129_35 rfl).trans ((xs_get4 k129_36 (px_s103 L) (Nat.le_of_ble_eq_true rfl) (px_r103_0 hr)).trans ((xs_aldn k129_39 rfl).trans ((xs_get4 k129_40 (px_s103 L) (Nat.le_of_ble_eq_true rfl) (px_r103_3 hr)).trans ((xs_ild k129_43 rfl).trans (xs_callsB k129_45 (as := [vR 105, vI x4]) rfl rfl (Nat.le_of_ble_eq_true rfl) (Nat.le_of_ble_eq_true rfl) (Nat.le_of_ble_eq_true rfl))))))))
theorem b129_33_g (hr : px_hr r) (d : Nat) (i l : MI) (x2 : Int) (x3 : Int) (x4 : Int) {v5 : PV} (hn5 : px_nl v5) {v6 : PV} (hn6 : px_nl v6) {ks0 : Nat} (hgs0 : px_gs ks0) : px_X (d + 1) 129 (33, [vR 103, vR 9, vI x2, vI x3, vI x4, v5, v6], [vR ks0]) (px_sh L, i, l, r, t) = (px_C d 33 [vR 105, vI x4] (px_sh L, i, l, r, t)).bind (fun q => px_X (d + 1) 129 (px_psh (48, [vR 103, vR 9, vI x2, vI x3, vI x4, vR ks0, v6], [vR 4]) q.1) q.2) := ((xs_ast k129_33 (Nat.le_of_ble_eq_true rfl) (ls' := [vR 103, vR 9, vI x2, vI x3, vI x4, vR ks0, v6]) rfl).trans ((xs_aldn k129_35 rfl).trans ((xs_get4 k129_36 (px_s103 L) (Nat.le_of_ble_eq_true rfl) (px_r103_0 hr)).trans ((xs_aldn k129_39 rfl).trans ((xs_get4 k129_40 (px_s103 L) (Nat.le_of_ble_eq_true rfl) (px_r103_3 hr)).trans ((xs_ild k129_43 rfl).trans (xs_callsB k129_45 (as := [vR 105, vI x4]) rfl rfl (Nat.le_of_ble_eq_true rfl) (Nat.le_of_ble_eq_true rfl) (Nat.le_of_ble_eq_true rfl))))))))
theorem b129_48_iR45N (hr : px_hr r) (d : Nat) (i l : MI) (x2 : Int) (x3 : Int) (x4 : Int) {v6 : PV} (hn6 : px_nl v6) (xs0 : Int) : px_X (d + 1) 129 (48, [vR 103, vR 9, vI x2, vI x3, vI x4, vN, v6], [vI xs0, vR 4]) (px_sh L, i, l, r, t) = (px_C d 56 [vR 4, vI xs0] (px_sh L, i, l, r, t)).bind (fun q => px_X (d + 1) 129 (px_psh (51, [vR 103, vR 9, vI x2, vI x3, vI x4, vN, v6], []) q.1) q.2) := (xs_callvB k129_48 (as := [vI xs0]) rfl rfl (Nat.le_of_ble_eq_true rfl) (Nat.le_of_ble_eq_true rfl) (Nat.le_of_ble_eq_true rfl) (px_s4 L) (Nat.le_of_ble_eq_true rfl))
theorem b129_48_iR45g (hr : px_hr r) (d : Nat) (i l : MI) (x2 : Int) (x3 : Int) (x4 : Int) {k5 : Nat} (hg5 : px_gs k5) {v6 : PV} (hn6 : px_nl v6) (xs0 : Int) : px_X (d + 1) 129 (48, [vR 103, vR 9, vI x2, vI x3, vI x4, vR k5, v6], [vI xs0, vR 4]) (px_sh L, i, l, r, t) = (px_C d 56 [vR 4, vI xs0] (px_sh L, i, l, r, t)).bind (fun q => px_X (d + 1) 129 (px_psh (51, [vR 103, vR 9, vI x2, vI x3, vI x4, vR k5, v6], []) q.1) q.2) := (xs_callvB k129_48 (as := [vI xs0]) rfl rfl (Nat.le_of_ble_eq_true rfl) (Nat.le_of_ble_eq_true rfl) (Nat.le_of_ble_eq_true rfl) (px_s4 L) (Nat.le_of_ble_eq_true rfl))
theorem b129_51_i5N (hr : px_hr r) (d : Nat) (i l : MI) (x2 : Int) (x3 : Int) (x4 : Int) {v6 : PV} (hn6 : px_nl v6) (xs0 : Int) : px_X d 129 (51, [vR 103, vR 9, vI x2, vI x3, vI x4, vN, v6], [vI xs0]) (px_sh L, i, l, r, t) = px_X d 129 (12, [vR 103, vR 9, vI x2, vI x3, vI (px_w32 (x4 + 1)), vN, vI xs0], []) (px_sh L, i, l, r, t) := ((xs_ist k129_51 (Nat.le_of_ble_eq_true rfl) (ls' := [vR 103, vR 9, vI x2, vI x3, vI x4, vN, vI xs0]) rfl).trans ((xs_ald k129_53 rfl).trans ((xs_nullN k129_55).trans ((xs_iinc k129_131 rfl (by omega) (ls' := [vR 103, vR 9, vI x2, vI x3, vI (px_w32 (x4 + 1)), vN, vI xs0]) rfl).trans (xs_goto k129_134)))))
theorem b129_51_i5g (hr : px_hr r) (d : Nat) (i l : MI) (x2 : Int) (x3 : Int) (x4 : Int) {k5 : Nat} (hg5 : px_gs k5) {v6 : PV} (hn6 : px_nl v6) (xs0 : Int) : px_X (d + 1) 129 (51, [vR 103, vR 9, vI x2, vI x3, vI x4, vR k5, v6], [vI xs0]) (px_sh L, i, l, r, t) = (px_C d 32 [vI (i 9 2), vI x4] (px_sh L, i, l, r, t)).bind (fun q => px_X (d + 1) 129 (px_psh (67, [vR 103, vR 9, vI x2, vI x3, vI x4, vR k5, vI xs0], []) q.1) q.2) := ((xs_ist k129_51 (Nat.le_of_ble_eq_true rfl) (ls' := [vR 103, vR 9, vI x2, vI x3, vI x4, vR k5, vI xs0]) rfl).trans ((xs_ald k129_53 rfl).trans ((xs_nullR k129_55).trans ((xs_aldn k129_58 rfl).trans ((xs_get0 k129_59 (px_s9 L) (Nat.le_of_ble_eq_true rfl)).trans ((xs_ild k129_62 rfl).trans (xs_callsB k129_64 (as := [vI (i 9 2), vI x4]) rfl rfl (Nat.le_of_ble_eq_true rfl) (Nat.le_of_ble_eq_true rfl) (Nat.le_of_ble_eq_true rfl))))))))
theorem b129_67 (hr : px_hr r) (d : Nat) (i l : MI) (x2 : Int) (x3 : Int) (x4 : Int) {k5 : Nat} (hg5 : px_gs k5) (x6 : Int) (xs0 : Int) : px_X (d + 1) 129 (67, [vR 103, vR 9, vI x2, vI x3, vI x4, vR k5, vI x6], [vI xs0]) (px_sh L, i, l, r, t) = if xs0 = 0 then px_X (d + 1) 129 (12, [vR 103, vR 9, vI x2, vI x3, vI (px_w32 (x4 + 1)), vR k5, vI x6], []) (px_sh L, i, l, r, t) else if x6 < x3 then (px_C d 33 [vR 10, vI x4] (px_sh L, i, l, r, t)).bind (fun q => px_X (d + 1) 129 (px_psh (94, [vR 103, vR 9, vI x2, vI x3, vI x4, vR k5, vI x6], [vI x4, vR 10]) q.1) q.2) else px_X (d + 1) 129 (12, [vR 103, vR 9, vI x2, vI x3, vI (px_w32 (x4 + 1)), vR k5, vI x6], []) (px_sh L, i, l, r, t) := ((xs_ieq k129_67).trans (px_ite (fun c1 => ((xs_iinc k129_131 rfl (by omega) (ls' := [vR 103, vR 9, vI x2, vI x3, vI (px_w32 (x4 + 1)), vR k5, vI x6]) rfl).trans (xs_goto k129_134))) (fun c1 => ((xs_ildn k129_70 rfl).trans ((xs_ild k129_71 rfl).trans ((xs_jgt k129_73).trans (px_ite (fun c2 => ((xs_aldn k129_79 rfl).trans ((xs_get4 k129_80 (px_s9 L) (Nat.le_of_ble_eq_true rfl) (px_r9_3 hr)).trans ((xs_ild k129_83 rfl).trans ((xs_aldn k129_85 rfl).trans ((xs_get4 k129_86 (px_s9 L) (Nat.le_of_ble_eq_true rfl) (px_r9_3 hr)).trans ((xs_ild k129_89 rfl).trans (xs_callsB k129_91 (as := [vR 10, vI x4]) rfl rfl (Nat.le_of_ble_eq_true rfl) (Nat.le_of_ble_eq_true rfl) (Nat.le_of_ble_eq_true rfl))))))))) (fun c2 => ((xs_goto k129_76).trans ((xs_iinc k129_131 rfl (by omega) (ls' := [vR 103, vR 9, vI x2, vI x3, vI (px_w32 (x4 + 1)), vR k5, vI x6]) rfl).trans (xs_goto k129_134)))))))))))
theorem b129_94 (hr : px_hr r) (d : Nat) (i l : MI) (x2 : Int) (x3 : Int) (x4 : Int) {k5 : Nat} (hg5 : px_gs k5) (x6 : Int) (xs0 : Int) (xs1 : Int) : px_X (d + 1) 129 (94, [vR 103, vR 9, vI x2, vI x3, vI x4, vR k5, vI x6], [vI xs0, vI xs1, vR 10]) (px_sh L, i, l, r, t) = (px_C d 34 [vR 10, vI xs1, vI (px_w32 (xs0 + 1))] (px_sh L, i, l, r, t)).bind (fun q => px_X (d + 1) 129 (px_psh (99, [vR 103, vR 9, vI x2, vI x3, vI x4, vR k5, vI x6], []) q.1) q.2) := ((xs_ic k129_94 (by omega)).trans ((xs_iadd k129_95).trans (xs_callsB k129_96 (as := [vR 10, vI xs1, vI (px_w32 (xs0 + 1))]) rfl rfl (Nat.le_of_ble_eq_true rfl) (Nat.le_of_ble_eq_true rfl) (Nat.le_of_ble_eq_true rfl))))
theorem b129_99 (hr : px_hr r) (d : Nat) (i l : MI) (x2 : Int) (x3 : Int) (x4 : Int) {k5 : Nat} (hg5 : px_gs k5) (x6 : Int) : px_X (d + 1) 129 (99, [vR 103, vR 9, vI x2, vI x3, vI x4, vR k5, vI x6], []) (px_sh L, i, l, r, t) = if x3 ≤ (px_w32 (x6 + (i k5 1))) then px_X (d + 1) 129 (12, [vR 103, vR 9, vI x2, vI x3, vI (px_w32 (x4 + 1)), vR k5, vI x6], []) (px_sh L, i, l, r, t) else (px_C d 33 [vR 11, vI x4] (px_sh L, i, l, r, t)).bind (fun q => px_X (d + 1) 129 (px_psh (126, [vR 103, vR 9, vI x2, vI x3, vI x4, vR k5, vI x6], [vI x4, vR 11]) q.1) q.2) := ((xs_ildn k129_99 rfl).trans ((xs_ild k129_100 rfl).trans ((xs_ald k129_102 rfl).trans ((xs_get0 k129_104 (px_gs_sh hg5) (px_gs_3 hg5)).trans ((xs_iadd k129_107).trans ((xs_jle k129_108).trans (px_ite (fun c1 => ((xs_iinc k129_131 rfl (by omega) (ls' := [vR 103, vR 9, vI x2, vI x3, vI (px_w32 (x4 + 1)), vR k5, vI x6]) rfl).trans (xs_goto k129_134))) (fun c1 => ((xs_aldn k129_111 rfl).trans ((xs_get4 k129_112 (px_s9 L) (Nat.le_of_ble_eq_true rfl) (px_r9_4 hr)).trans ((xs_ild k129_115 rfl).trans ((xs_aldn k129_117 rfl).trans ((xs_get4 k129_118 (px_s9 L) (Nat.le_of_ble_eq_true rfl) (px_r9_4 hr)).trans ((xs_ild k129_121 rfl).trans (xs_callsB k129_123 (as := [vR 11, vI x4]) rfl rfl (Nat.le_of_ble_eq_true rfl) (Nat.le_of_ble_eq_true rfl) (Nat.le_of_ble_eq_true rfl))))))))))))))))
theorem b129_126 (hr : px_hr r) (d : Nat) (i l : MI) (x2 : Int) (x3 : Int) (x4 : Int) {v5 : PV} (hn5 : px_nl v5) (x6 : Int) (xs0 : Int) (xs1 : Int) : px_X (d + 1) 129 (126, [vR 103, vR 9, vI x2, vI x3, vI x4, v5, vI x6], [vI xs0, vI xs1, vR 11]) (px_sh L, i, l, r, t) = (px_C d 34 [vR 11, vI xs1, vI (px_w32 (xs0 + 1))] (px_sh L, i, l, r, t)).bind (fun q => px_X (d + 1) 129 (px_psh (131, [vR 103, vR 9, vI x2, vI x3, vI x4, v5, vI x6], []) q.1) q.2) := ((xs_ic k129_126 (by omega)).trans ((xs_iadd k129_127).trans (xs_callsB k129_128 (as := [vR 11, vI xs1, vI (px_w32 (xs0 + 1))]) rfl rfl (Nat.le_of_ble_eq_true rfl) (Nat.le_of_ble_eq_true rfl) (Nat.le_of_ble_eq_true rfl))))
theorem b129_131 (hr : px_hr r) (d : Nat) (i l : MI) (x2 : Int) (x3 : Int) (x4 : Int) {v5 : PV} (hn5 : px_nl v5) (x6 : Int) : px_X d 129 (131, [vR 103, vR 9, vI x2, vI x3, vI x4, v5, vI x6], []) (px_sh L, i, l, r, t) = px_X d 129 (12, [vR 103, vR 9, vI x2, vI x3, vI (px_w32 (x4 + 1)), v5, vI x6], []) (px_sh L, i, l, r, t) := ((xs_iinc k129_131 rfl (by omega) (ls' := [vR 103, vR 9, vI x2, vI x3, vI (px_w32 (x4 + 1)), v5, vI x6]) rfl).trans (xs_goto k129_134))
-- Seats.sift ('R103',)
theorem b130_0 (hr : px_hr r) (d : Nat) (i l : MI)  : px_X (d + 1) 130 (0, [vR 103, vJ, vJ, vJ, vJ], []) (px_sh L, i, l, r, t) = (px_C d 241 [vR 109, vI 0] (px_sh L, i, l, r, t)).bind (fun q => px_X (d + 1) 130 (px_psh (16, [vR 103, vR 5, vJ, vJ, vJ], []) q.1) q.2) := ((xs_aldn k130_0 rfl).trans ((xs_get4 k130_1 (px_s103 L) (Nat.le_of_ble_eq_true rfl) (px_r103_0 hr)).trans ((xs_get4 k130_4 (px_s4 L) (Nat.le_of_ble_eq_true rfl) (px_r4_1 hr)).trans ((xs_astn k130_7 (Nat.le_of_ble_eq_true rfl) (ls' := [vR 103, vR 5, vJ, vJ, vJ]) rfl).trans ((xs_aldn k130_8 rfl).trans ((xs_get4 k130_9 (px_s103 L) (Nat.le_of_ble_eq_true rfl) (px_r103_8 hr)).trans ((xs_ic k130_12 (by omega)).trans (xs_callsB k130_13 (as := [vR 109, vI 0]) rfl rfl (Nat.le_of_ble_eq_true rfl) (Nat.le_of_ble_eq_true rfl) (Nat.le_of_ble_eq_true rfl)))))))))
theorem b130_16 (hr : px_hr r) (d : Nat) (i l : MI)  : px_X d 130 (16, [vR 103, vR 5, vJ, vJ, vJ], []) (px_sh L, i, l, r, t) = px_X d 130 (18, [vR 103, vR 5, vI 0, vJ, vJ], []) (px_sh L, i, l, r, t) := ((xs_ic k130_16 (by omega)).trans (xs_istn k130_17 (Nat.le_of_ble_eq_true rfl) (ls' := [vR 103, vR 5, vI 0, vJ, vJ]) rfl))
theorem b130_18 (hr : px_hr r) (d : Nat) (i l : MI) (x2 : Int) {v3 : PV} (hn3 : px_nl v3) {v4 : PV} (hn4 : px_nl v4) : px_X (d + 1) 130 (18, [vR 103, vR 5, vI x2, v3, v4], []) (px_sh L, i, l, r, t) = if (i 5 0) ≤ x2 then some (none, (px_sh L, i, l, r, t)) else (px_C d 33 [vR 7, vI x2] (px_sh L, i, l, r, t)).bind (fun q => px_X (d + 1) 130 (px_psh (34, [vR 103, vR 5, vI x2, v3, v4], []) q.1) q.2) := ((xs_ildn k130_18 rfl).trans ((xs_aldn k130_19 rfl).trans ((xs_get0 k130_20 (px_s5 L) (Nat.le_of_ble_eq_true rfl)).trans ((xs_jge k130_23).trans (px_ite (fun c1 => (xs_rv k130_130 rfl)) (fun c1 => ((xs_aldn k130_26 rfl).trans ((xs_get4 k130_27 (px_s5 L) (Nat.le_of_ble_eq_true rfl) (px_r5_2 hr)).trans ((xs_ildn k130_30 rfl).trans (xs_callsB k130_31 (as := [vR 7, vI x2]) rfl rfl (Nat.le_of_ble_eq_true rfl) (Nat.le_of_ble_eq_true rfl) (Nat.le_of_ble_eq_true rfl)))))))))))
theorem b130_34 (hr : px_hr r) (d : Nat) (i l : MI) (x2 : Int) {v3 : PV} (hn3 : px_nl v3) {v4 : PV} (hn4 : px_nl v4) (xs0 : Int) : px_X (d + 1) 130 (34, [vR 103, vR 5, vI x2, v3, v4], [vI xs0]) (px_sh L, i, l, r, t) = (px_C d 33 [vR 6, vI x2] (px_sh L, i, l, r, t)).bind (fun q => px_X (d + 1) 130 (px_psh (44, [vR 103, vR 5, vI x2, vI xs0, v4], [vR 103]) q.1) q.2) := ((xs_istn k130_34 (Nat.le_of_ble_eq_true rfl) (ls' := [vR 103, vR 5, vI x2, vI xs0, v4]) rfl).trans ((xs_aldn k130_35 rfl).trans ((xs_aldn k130_36 rfl).trans ((xs_get4 k130_37 (px_s5 L) (Nat.le_of_ble_eq_true rfl) (px_r5_1 hr)).trans ((xs_ildn k130_40 rfl).trans (xs_callsB k130_41 (as := [vR 6, vI x2]) rfl rfl (Nat.le_of_ble_eq_true rfl) (Nat.le_of_ble_eq_true rfl) (Nat.le_of_ble_eq_true rfl)))))))
theorem b130_44 (hr : px_hr r) (d : Nat) (i l : MI) (x2 : Int) (x3 : Int) {v4 : PV} (hn4 : px_nl v4) (xs0 : Int) : px_X (d + 1) 130 (44, [vR 103, vR 5, vI x2, vI x3, v4], [vI xs0, vR 103]) (px_sh L, i, l, r, t) = (px_C d 121 [vR 103, vI xs0] (px_sh L, i, l, r, t)).bind (fun q => px_X (d + 1) 130 (px_psh (47, [vR 103, vR 5, vI x2, vI x3, v4], []) q.1) q.2) := (xs_callvB k130_44 (as := [vI xs0]) rfl rfl (Nat.le_of_ble_eq_true rfl) (Nat.le_of_ble_eq_true rfl) (Nat.le_of_ble_eq_true rfl) (px_s103 L) (Nat.le_of_ble_eq_true rfl))
theorem b130_47 (hr : px_hr r) (d : Nat) (i l : MI) (x2 : Int) (x3 : Int) {v4 : PV} (hn4 : px_nl v4) : px_X d 130 (47, [vR 103, vR 5, vI x2, vI x3, v4], []) (px_sh L, i, l, r, t) = px_X d 130 (50, [vR 103, vR 5, vI x2, vI x3, vI 0], []) (px_sh L, i, l, r, t) := ((xs_ic k130_47 (by omega)).trans (xs_ist k130_48 (Nat.le_of_ble_eq_true rfl) (ls' := [vR 103, vR 5, vI x2, vI x3, vI 0]) rfl))
theorem b130_50 (hr : px_hr r) (d : Nat) (i l : MI) (x2 : Int) (x3 : Int) (x4 : Int) : px_X (d + 1) 130 (50, [vR 103, vR 5, vI x2, vI x3, vI x4], []) (px_sh L, i, l, r, t) = (px_C d 131 [vR 103] (px_sh L, i, l, r, t)).bind (fun q => px_X (d + 1) 130 (px_psh (56, [vR 103, vR 5, vI x2, vI x3, vI x4], [vI x4]) q.1) q.2) := ((xs_ild k130_50 rfl).trans ((xs_aldn k130_52 rfl).trans (xs_callvB k130_53 (as := []) rfl rfl (Nat.le_of_ble_eq_true rfl) (Nat.le_of_ble_eq_true rfl) (Nat.le_of_ble_eq_true rfl) (px_s103 L) (Nat.le_of_ble_eq_true rfl))))
theorem b130_56 (hr : px_hr r) (d : Nat) (i l : MI) (x2 : Int) (x3 : Int) (x4 : Int) (xs0 : Int) (xs1 : Int) : px_X (d + 1) 130 (56, [vR 103, vR 5, vI x2, vI x3, vI x4], [vI xs0, vI xs1]) (px_sh L, i, l, r, t) = if xs0 ≤ xs1 then px_X (d + 1) 130 (18, [vR 103, vR 5, vI (px_w32 (x2 + 1)), vI x3, vI x4], []) (px_sh L, i, l, r, t) else (px_C d 33 [vR 109, vI x4] (px_sh L, i, l, r, t)).bind (fun q => px_X (d + 1) 130 (px_psh (68, [vR 103, vR 5, vI x2, vI x3, vI x4], []) q.1) q.2) := ((xs_jge k130_56).trans (px_ite (fun c1 => ((xs_iinc k130_124 rfl (by omega) (ls' := [vR 103, vR 5, vI (px_w32 (x2 + 1)), vI x3, vI x4]) rfl).trans (xs_goto k130_127))) (fun c1 => ((xs_aldn k130_59 rfl).trans ((xs_get4 k130_60 (px_s103 L) (Nat.le_of_ble_eq_true rfl) (px_r103_8 hr)).trans ((xs_ild k130_63 rfl).trans (xs_callsB k130_65 (as := [vR 109, vI x4]) rfl rfl (Nat.le_of_ble_eq_true rfl) (Nat.le_of_ble_eq_true rfl) (Nat.le_of_ble_eq_true rfl))))))))
theorem b130_68 (hr : px_hr r) (d : Nat) (i l : MI) (x2 : Int) (x3 : Int) (x4 : Int) (xs0 : Int) : px_X (d + 1) 130 (68, [vR 103, vR 5, vI x2, vI x3, vI x4], [vI xs0]) (px_sh L, i, l, r, t) = if xs0 = 0 then (px_C d 122 [vR 103, vI x4] (px_sh L, i, l, r, t)).bind (fun q => px_X (d + 1) 130 (px_psh (80, [vR 103, vR 5, vI x2, vI x3, vI x4], []) q.1) q.2) else px_X (d + 1) 130 (50, [vR 103, vR 5, vI x2, vI x3, vI (px_w32 (x4 + 1))], []) (px_sh L, i, l, r, t) := ((xs_ieq k130_68).trans (px_ite (fun c1 => ((xs_aldn k130_74 rfl).trans ((xs_ild k130_75 rfl).trans (xs_callvB k130_77 (as := [vI x4]) rfl rfl (Nat.le_of_ble_eq_true rfl) (Nat.le_of_ble_eq_true rfl) (Nat.le_of_ble_eq_true rfl) (px_s103 L) (Nat.le_of_ble_eq_true rfl))))) (fun c1 => ((xs_goto k130_71).trans ((xs_iinc k130_118 rfl (by omega) (ls' := [vR 103, vR 5, vI x2, vI x3, vI (px_w32 (x4 + 1))]) rfl).trans (xs_goto k130_121))))))
theorem b130_80 (hr : px_hr r) (d : Nat) (i l : MI) (x2 : Int) (x3 : Int) (x4 : Int) : px_X (d + 1) 130 (80, [vR 103, vR 5, vI x2, vI x3, vI x4], []) (px_sh L, i, l, r, t) = (px_C d 32 [vI x4, vI x3] (px_sh L, i, l, r, t)).bind (fun q => px_X (d + 1) 130 (px_psh (86, [vR 103, vR 5, vI x2, vI x3, vI x4], []) q.1) q.2) := ((xs_ild k130_80 rfl).trans ((xs_ildn k130_82 rfl).trans (xs_callsB k130_83 (as := [vI x4, vI x3]) rfl rfl (Nat.le_of_ble_eq_true rfl) (Nat.le_of_ble_eq_true rfl) (Nat.le_of_ble_eq_true rfl))))
theorem b130_86 (hr : px_hr r) (d : Nat) (i l : MI) (x2 : Int) (x3 : Int) (x4 : Int) (xs0 : Int) : px_X (d + 1) 130 (86, [vR 103, vR 5, vI x2, vI x3, vI x4], [vI xs0]) (px_sh L, i, l, r, t) = if xs0 = 0 then px_X (d + 1) 130 (108, [vR 103, vR 5, vI x2, vI x3, vI x4], []) (px_sh L, i, l, r, t) else (px_C d 33 [vR 105, vI x3] (px_sh L, i, l, r, t)).bind (fun q => px_X (d + 1) 130 (px_psh (97, [vR 103, vR 5, vI x2, vI x3, vI x4], []) q.1) q.2) := ((xs_ieq k130_86).trans (px_ite (fun c1 => rfl) (fun c1 => ((xs_aldn k130_89 rfl).trans ((xs_get4 k130_90 (px_s103 L) (Nat.le_of_ble_eq_true rfl) (px_r103_3 hr)).trans ((xs_ildn k130_93 rfl).trans (xs_callsB k130_94 (as := [vR 105, vI x3]) rfl rfl (Nat.le_of_ble_eq_true rfl) (Nat.le_of_ble_eq_true rfl) (Nat.le_of_ble_eq_true rfl))))))))
theorem b130_97 (hr : px_hr r) (d : Nat) (i l : MI) (x2 : Int) (x3 : Int) (x4 : Int) (xs0 : Int) : px_X (d + 1) 130 (97, [vR 103, vR 5, vI x2, vI x3, vI x4], [vI xs0]) (px_sh L, i, l, r, t) = (px_C d 33 [vR 8, vI x2] (px_sh L, i, l, r, t)).bind (fun q => px_X (d + 1) 130 (px_psh (105, [vR 103, vR 5, vI x2, vI x3, vI x4], [vI xs0]) q.1) q.2) := ((xs_aldn k130_97 rfl).trans ((xs_get4 k130_98 (px_s5 L) (Nat.le_of_ble_eq_true rfl) (px_r5_3 hr)).trans ((xs_ildn k130_101 rfl).trans (xs_callsB k130_102 (as := [vR 8, vI x2]) rfl rfl (Nat.le_of_ble_eq_true rfl) (Nat.le_of_ble_eq_true rfl) (Nat.le_of_ble_eq_true rfl)))))
theorem b130_105 (hr : px_hr r) (d : Nat) (i l : MI) (x2 : Int) (x3 : Int) (x4 : Int) (xs0 : Int) (xs1 : Int) : px_X d 130 (105, [vR 103, vR 5, vI x2, vI x3, vI x4], [vI xs0, vI xs1]) (px_sh L, i, l, r, t) = if xs1 = xs0 then px_X d 130 (50, [vR 103, vR 5, vI x2, vI x3, vI (px_w32 (x4 + 1))], []) (px_sh L, i, l, r, t) else px_X d 130 (108, [vR 103, vR 5, vI x2, vI x3, vI x4], []) (px_sh L, i, l, r, t) := ((xs_jeq k130_105).trans (px_ite (fun c1 => ((xs_iinc k130_118 rfl (by omega) (ls' := [vR 103, vR 5, vI x2, vI x3, vI (px_w32 (x4 + 1))]) rfl).trans (xs_goto k130_121))) (fun c1 => rfl)))
theorem b130_108 (hr : px_hr r) (d : Nat) (i l : MI) (x2 : Int) (x3 : Int) (x4 : Int) : px_X (d + 1) 130 (108, [vR 103, vR 5, vI x2, vI x3, vI x4], []) (px_sh L, i, l, r, t) = (px_C d 34 [vR 109, vI x4, vI 1] (px_sh L, i, l, r, t)).bind (fun q => px_X (d + 1) 130 (px_psh (118, [vR 103, vR 5, vI x2, vI x3, vI x4], []) q.1) q.2) := ((xs_aldn k130_108 rfl).trans ((xs_get4 k130_109 (px_s103 L) (Nat.le_of_ble_eq_true rfl) (px_r103_8 hr)).trans ((xs_ild k130_112 rfl).trans ((xs_ic k130_114 (by omega)).trans (xs_callsB k130_115 (as := [vR 109, vI x4, vI 1]) rfl rfl (Nat.le_of_ble_eq_true rfl) (Nat.le_of_ble_eq_true rfl) (Nat.le_of_ble_eq_true rfl))))))
theorem b130_118 (hr : px_hr r) (d : Nat) (i l : MI) (x2 : Int) (x3 : Int) (x4 : Int) : px_X d 130 (118, [vR 103, vR 5, vI x2, vI x3, vI x4], []) (px_sh L, i, l, r, t) = px_X d 130 (50, [vR 103, vR 5, vI x2, vI x3, vI (px_w32 (x4 + 1))], []) (px_sh L, i, l, r, t) := ((xs_iinc k130_118 rfl (by omega) (ls' := [vR 103, vR 5, vI x2, vI x3, vI (px_w32 (x4 + 1))]) rfl).trans (xs_goto k130_121))
-- Seats.setCount ('R103',)
theorem b131_0 (hr : px_hr r) (d : Nat) (i l : MI)  : px_X d 131 (0, [vR 103], []) (px_sh L, i, l, r, t) = some (some (vI (px_shl 1 (if 0 < (if (i 4 6) < 10 then (i 4 6) else 10) then (if (i 4 6) < 10 then (i 4 6) else 10) else 0))), (px_sh L, i, l, r, t)) := ((xs_ic k131_0 (by omega)).trans ((xs_ic k131_1 (by omega)).trans ((xs_bi k131_2 (by omega)).trans ((xs_aldn k131_4 rfl).trans ((xs_get4 k131_5 (px_s103 L) (Nat.le_of_ble_eq_true rfl) (px_r103_0 hr)).trans ((xs_get0 k131_8 (px_s4 L) (Nat.le_of_ble_eq_true rfl)).trans ((xs_imin k131_11 (Nat.le_of_ble_eq_true rfl)).trans ((xs_imax k131_14 (Nat.le_of_ble_eq_true rfl)).trans ((xs_ishl k131_17).trans (xs_ri k131_18 rfl))))))))))
-- Seats.siftedOf ('R103', 'I')
theorem b132_0 (hr : px_hr r) (d : Nat) (i l : MI) (x1 : Int) : px_X d 132 (0, [vR 103, vI x1, vJ, vJ, vJ, vJ, vJ], []) (px_sh L, i, l, r, t) = px_X d 132 (15, [vR 103, vI x1, vI 0, vI 0, vI 1023, vI 0, vI 0], []) (px_sh L, i, l, r, t) := ((xs_ic k132_0 (by omega)).trans ((xs_istn k132_1 (Nat.le_of_ble_eq_true rfl) (ls' := [vR 103, vI x1, vI 0, vJ, vJ, vJ, vJ]) rfl).trans ((xs_ic k132_2 (by omega)).trans ((xs_istn k132_3 (Nat.le_of_ble_eq_true rfl) (ls' := [vR 103, vI x1, vI 0, vI 0, vJ, vJ, vJ]) rfl).trans ((xs_si k132_4 (by omega)).trans ((xs_ist k132_7 (Nat.le_of_ble_eq_true rfl) (ls' := [vR 103, vI x1, vI 0, vI 0, vI 1023, vJ, vJ]) rfl).trans ((xs_ic k132_9 (by omega)).trans ((xs_ist k132_10 (Nat.le_of_ble_eq_true rfl) (ls' := [vR 103, vI x1, vI 0, vI 0, vI 1023, vI 0, vJ]) rfl).trans ((xs_ic k132_12 (by omega)).trans (xs_ist k132_13 (Nat.le_of_ble_eq_true rfl) (ls' := [vR 103, vI x1, vI 0, vI 0, vI 1023, vI 0, vI 0]) rfl))))))))))
theorem b132_15 (hr : px_hr r) (d : Nat) (i l : MI) (x1 : Int) (x2 : Int) (x3 : Int) (x4 : Int) (x5 : Int) (x6 : Int) : px_X (d + 1) 132 (15, [vR 103, vI x1, vI x2, vI x3, vI x4, vI x5, vI x6], []) (px_sh L, i, l, r, t) = (px_C d 131 [vR 103] (px_sh L, i, l, r, t)).bind (fun q => px_X (d + 1) 132 (px_psh (21, [vR 103, vI x1, vI x2, vI x3, vI x4, vI x5, vI x6], [vI x6]) q.1) q.2) := ((xs_ild k132_15 rfl).trans ((xs_aldn k132_17 rfl).trans (xs_callvB k132_18 (as := []) rfl rfl (Nat.le_of_ble_eq_true rfl) (Nat.le_of_ble_eq_true rfl) (Nat.le_of_ble_eq_true rfl) (px_s103 L) (Nat.le_of_ble_eq_true rfl))))
theorem b132_21 (hr : px_hr r) (d : Nat) (i l : MI) (x1 : Int) (x2 : Int) (x3 : Int) (x4 : Int) (x5 : Int) (x6 : Int) (xs0 : Int) (xs1 : Int) : px_X (d + 1) 132 (21, [vR 103, vI x1, vI x2, vI x3, vI x4, vI x5, vI x6], [vI xs0, vI xs1]) (px_sh L, i, l, r, t) = if xs0 ≤ xs1 then if x1 = 0 then some (some (vI x2), (px_sh L, i, l, r, t)) else if x1 = 1 then some (some (vI x3), (px_sh L, i, l, r, t)) else if x1 = 2 then if x2 = 0 then some (some (vI 0), (px_sh L, i, l, r, t)) else some (some (vI x4), (px_sh L, i, l, r, t)) else some (some (vI x5), (px_sh L, i, l, r, t)) else (px_C d 33 [vR 109, vI x6] (px_sh L, i, l, r, t)).bind (fun q => px_X (d + 1) 132 (px_psh (33, [vR 103, vI x1, vI x2, vI x3, vI x4, vI x5, vI x6], []) q.1) q.2) := ((xs_jge k132_21).trans (px_ite (fun c1 => ((xs_ildn k132_70 rfl).trans (px_swi (fun c2 => ((xs_tsw k132_71 (tg := 96) (by rw [c2]; omega) (by rw [c2]; rfl)).trans ((xs_ildn k132_96 rfl).trans (xs_ri k132_97 rfl)))) (fun c2 => (px_swi (fun c3 => ((xs_tsw k132_71 (tg := 98) (by rw [c3]; omega) (by rw [c3]; rfl)).trans ((xs_ildn k132_98 rfl).trans (xs_ri k132_99 rfl)))) (fun c3 => (px_swi (fun c4 => ((xs_tsw k132_71 (tg := 100) (by rw [c4]; omega) (by rw [c4]; rfl)).trans ((xs_ildn k132_100 rfl).trans ((xs_ine k132_101).trans (px_ite (fun c5 => ((xs_ic k132_104 (by omega)).trans ((xs_goto k132_105).trans (xs_ri k132_110 rfl)))) (fun c5 => ((xs_ild k132_108 rfl).trans (xs_ri k132_110 rfl)))))))) (fun c4 => ((xs_tswd k132_71 (by omega)).trans ((xs_ild k132_111 rfl).trans (xs_ri k132_113 rfl))))))))))) (fun c1 => ((xs_aldn k132_24 rfl).trans ((xs_get4 k132_25 (px_s103 L) (Nat.le_of_ble_eq_true rfl) (px_r103_8 hr)).trans ((xs_ild k132_28 rfl).trans (xs_callsB k132_30 (as := [vR 109, vI x6]) rfl rfl (Nat.le_of_ble_eq_true rfl) (Nat.le_of_ble_eq_true rfl) (Nat.le_of_ble_eq_true rfl))))))))
theorem b132_33 (hr : px_hr r) (d : Nat) (i l : MI) (x1 : Int) (x2 : Int) (x3 : Int) (x4 : Int) (x5 : Int) (x6 : Int) (xs0 : Int) : px_X d 132 (33, [vR 103, vI x1, vI x2, vI x3, vI x4, vI x5, vI x6], [vI xs0]) (px_sh L, i, l, r, t) = if xs0 = 0 then if x2 = 0 then px_X d 132 (46, [vR 103, vI x1, vI x2, vI x3, vI x4, vI x5, vI x6], [vI x6]) (px_sh L, i, l, r, t) else px_X d 132 (46, [vR 103, vI x1, vI x2, vI x3, vI x4, vI x5, vI x6], [vI x3]) (px_sh L, i, l, r, t) else px_X d 132 (15, [vR 103, vI x1, vI x2, vI x3, vI x4, vI x5, vI (px_w32 (x6 + 1))], []) (px_sh L, i, l, r, t) := ((xs_ine k132_33).trans (px_ite (fun c1 => ((xs_ildn k132_36 rfl).trans ((xs_ine k132_37).trans (px_ite (fun c2 => ((xs_ild k132_40 rfl).trans (xs_goto k132_42))) (fun c2 => (xs_ildn k132_45 rfl)))))) (fun c1 => ((xs_iinc k132_64 rfl (by omega) (ls' := [vR 103, vI x1, vI x2, vI x3, vI x4, vI x5, vI (px_w32 (x6 + 1))]) rfl).trans (xs_goto k132_67)))))
theorem b132_46 (hr : px_hr r) (d : Nat) (i l : MI) (x1 : Int) (x2 : Int) (x3 : Int) (x4 : Int) (x5 : Int) (x6 : Int) (xs0 : Int) : px_X d 132 (46, [vR 103, vI x1, vI x2, vI x3, vI x4, vI x5, vI x6], [vI xs0]) (px_sh L, i, l, r, t) = px_X d 132 (15, [vR 103, vI x1, vI (px_w32 (x2 + 1)), vI xs0, vI (px_and x4 x6), vI (px_or x5 x6), vI (px_w32 (x6 + 1))], []) (px_sh L, i, l, r, t) := ((xs_istn k132_46 (Nat.le_of_ble_eq_true rfl) (ls' := [vR 103, vI x1, vI x2, vI xs0, vI x4, vI x5, vI x6]) rfl).trans ((xs_iinc k132_47 rfl (by omega) (ls' := [vR 103, vI x1, vI (px_w32 (x2 + 1)), vI xs0, vI x4, vI x5, vI x6]) rfl).trans ((xs_ild k132_50 rfl).trans ((xs_ild k132_52 rfl).trans ((xs_iand k132_54).trans ((xs_ist k132_55 (Nat.le_of_ble_eq_true rfl) (ls' := [vR 103, vI x1, vI (px_w32 (x2 + 1)), vI xs0, vI (px_and x4 x6), vI x5, vI x6]) rfl).trans ((xs_ild k132_57 rfl).trans ((xs_ild k132_59 rfl).trans ((xs_ior k132_61).trans ((xs_ist k132_62 (Nat.le_of_ble_eq_true rfl) (ls' := [vR 103, vI x1, vI (px_w32 (x2 + 1)), vI xs0, vI (px_and x4 x6), vI (px_or x5 x6), vI x6]) rfl).trans ((xs_iinc k132_64 rfl (by omega) (ls' := [vR 103, vI x1, vI (px_w32 (x2 + 1)), vI xs0, vI (px_and x4 x6), vI (px_or x5 x6), vI (px_w32 (x6 + 1))]) rfl).trans (xs_goto k132_67))))))))))))
-- Text.clear ('R59',)
theorem b134_0 (hr : px_hr r) (d : Nat) (i l : MI)  : px_X d 134 (0, [vR 59], []) (px_sh L, i, l, r, t) = some (none, (px_sh L, (px_up (px_up i 59 0 0) 59 1 0), l, r, t)) := ((xs_aldn k134_0 rfl).trans ((xs_ic k134_1 (by omega)).trans ((xs_put0 k134_2 (Or.inl rfl) (px_s59 L) (Nat.le_of_ble_eq_true rfl)).trans ((xs_aldn k134_5 rfl).trans ((xs_ic k134_6 (by omega)).trans ((xs_put0 k134_7 (Or.inl rfl) (px_s59 L) (Nat.le_of_ble_eq_true rfl)).trans (xs_rv k134_10 rfl)))))))
-- Text.add ('R59', 'I')
theorem b135_0 (hr : px_hr r) (d : Nat) (i l : MI) (x1 : Int) (h1 : (¬ ((i 59 0) < 0)) → (¬ (300 ≤ (i 59 0))) → 0 ≤ (i 59 0) ∧ (i 59 0) < 300) : px_X d 135 (0, [vR 59, vI x1], []) (px_sh L, i, l, r, t) = if (i 59 0) < 0 then some (none, (px_sh L, i, l, r, t)) else if 300 ≤ (i 59 0) then some (none, (px_sh L, i, l, r, t)) else some (none, (px_sh L, (px_up (px_up i 60 (i 59 0) x1) 59 0 (px_w32 ((i 59 0) + 1))), l, r, t)) := ((xs_aldn k135_0 rfl).trans ((xs_get0 k135_1 (px_s59 L) (Nat.le_of_ble_eq_true rfl)).trans ((xs_ilt k135_4).trans (px_ite (fun c1 => (xs_rv k135_39 rfl)) (fun c1 => ((xs_aldn k135_7 rfl).trans ((xs_get0 k135_8 (px_s59 L) (Nat.le_of_ble_eq_true rfl)).trans ((xs_aldn k135_11 rfl).trans ((xs_get4 k135_12 (px_s59 L) (Nat.le_of_ble_eq_true rfl) (px_r59_2 hr)).trans ((xs_aln k135_15 (px_s60 L)).trans ((xs_jge k135_16).trans (px_ite (fun c2 => (xs_rv k135_39 rfl)) (fun c2 => ((xs_aldn k135_19 rfl).trans ((xs_get4 k135_20 (px_s59 L) (Nat.le_of_ble_eq_true rfl) (px_r59_2 hr)).trans ((xs_aldn k135_23 rfl).trans ((xs_get0 k135_24 (px_s59 L) (Nat.le_of_ble_eq_true rfl)).trans ((xs_ildn k135_27 rfl).trans ((xs_iast k135_28 (px_s60 L) (h1 c1 c2) (Nat.le_of_ble_eq_true rfl)).trans ((xs_aldn k135_29 rfl).trans ((xs_dup k135_30 rfl).trans ((xs_get0 k135_31 (px_s59 L) (Nat.le_of_ble_eq_true rfl)).trans ((xs_ic k135_34 (by omega)).trans ((xs_iadd k135_35).trans ((xs_put0 k135_36 (Or.inl rfl) (px_s59 L) (Nat.le_of_ble_eq_true rfl)).trans (xs_rv k135_39 rfl))))))))))))))))))))))))))
-- Text.open ('R59', 'I')
theorem b136_0 (hr : px_hr r) (d : Nat) (i l : MI) (x1 : Int) : px_X (d + 1) 136 (0, [vR 59, vI x1], []) (px_sh L, i, l, r, t) = (px_C d 34 [vR 61, vI (i 59 1), vI x1] (px_sh L, i, l, r, t)).bind (fun q => px_X (d + 1) 136 (px_psh (12, [vR 59, vI x1], []) q.1) q.2) := ((xs_aldn k136_0 rfl).trans ((xs_get4 k136_1 (px_s59 L) (Nat.le_of_ble_eq_true rfl) (px_r59_3 hr)).trans ((xs_aldn k136_4 rfl).trans ((xs_get0 k136_5 (px_s59 L) (Nat.le_of_ble_eq_true rfl)).trans ((xs_ildn k136_8 rfl).trans (xs_callsB k136_9 (as := [vR 61, vI (i 59 1), vI x1]) rfl rfl (Nat.le_of_ble_eq_true rfl) (Nat.le_of_ble_eq_true rfl) (Nat.le_of_ble_eq_true rfl)))))))
theorem b136_12 (hr : px_hr r) (d : Nat) (i l : MI) (x1 : Int) : px_X (d + 1) 136 (12, [vR 59, vI x1], []) (px_sh L, i, l, r, t) = (px_C d 34 [vR 62, vI (i 59 1), vI (i 59 0)] (px_sh L, i, l, r, t)).bind (fun q => px_X (d + 1) 136 (px_psh (27, [vR 59, vI x1], []) q.1) q.2) := ((xs_aldn k136_12 rfl).trans ((xs_get4 k136_13 (px_s59 L) (Nat.le_of_ble_eq_true rfl) (px_r59_4 hr)).trans ((xs_aldn k136_16 rfl).trans ((xs_get0 k136_17 (px_s59 L) (Nat.le_of_ble_eq_true rfl)).trans ((xs_aldn k136_20 rfl).trans ((xs_get0 k136_21 (px_s59 L) (Nat.le_of_ble_eq_true rfl)).trans (xs_callsB k136_24 (as := [vR 62, vI (i 59 1), vI (i 59 0)]) rfl rfl (Nat.le_of_ble_eq_true rfl) (Nat.le_of_ble_eq_true rfl) (Nat.le_of_ble_eq_true rfl))))))))
theorem b136_27 (hr : px_hr r) (d : Nat) (i l : MI) (x1 : Int) : px_X (d + 1) 136 (27, [vR 59, vI x1], []) (px_sh L, i, l, r, t) = (px_C d 34 [vR 63, vI (i 59 1), vI (i 59 0)] (px_sh L, i, l, r, t)).bind (fun q => px_X (d + 1) 136 (px_psh (42, [vR 59, vI x1], []) q.1) q.2) := ((xs_aldn k136_27 rfl).trans ((xs_get4 k136_28 (px_s59 L) (Nat.le_of_ble_eq_true rfl) (px_r59_5 hr)).trans ((xs_aldn k136_31 rfl).trans ((xs_get0 k136_32 (px_s59 L) (Nat.le_of_ble_eq_true rfl)).trans ((xs_aldn k136_35 rfl).trans ((xs_get0 k136_36 (px_s59 L) (Nat.le_of_ble_eq_true rfl)).trans (xs_callsB k136_39 (as := [vR 63, vI (i 59 1), vI (i 59 0)]) rfl rfl (Nat.le_of_ble_eq_true rfl) (Nat.le_of_ble_eq_true rfl) (Nat.le_of_ble_eq_true rfl))))))))
theorem b136_42 (hr : px_hr r) (d : Nat) (i l : MI) (x1 : Int) : px_X d 136 (42, [vR 59, vI x1], []) (px_sh L, i, l, r, t) = some (none, (px_sh L, (px_up i 59 1 (px_w32 ((i 59 1) + 1))), l, r, t)) := ((xs_aldn k136_42 rfl).trans ((xs_dup k136_43 rfl).trans ((xs_get0 k136_44 (px_s59 L) (Nat.le_of_ble_eq_true rfl)).trans ((xs_ic k136_47 (by omega)).trans ((xs_iadd k136_48).trans ((xs_put0 k136_49 (Or.inl rfl) (px_s59 L) (Nat.le_of_ble_eq_true rfl)).trans (xs_rv k136_52 rfl)))))))
-- Text.close ('R59',)
theorem b137_0 (hr : px_hr r) (d : Nat) (i l : MI)  : px_X (d + 1) 137 (0, [vR 59], []) (px_sh L, i, l, r, t) = (px_C d 34 [vR 63, vI (px_w32 ((i 59 1) - 1)), vI (i 59 0)] (px_sh L, i, l, r, t)).bind (fun q => px_X (d + 1) 137 (px_psh (17, [vR 59], []) q.1) q.2) := ((xs_aldn k137_0 rfl).trans ((xs_get4 k137_1 (px_s59 L) (Nat.le_of_ble_eq_true rfl) (px_r59_5 hr)).trans ((xs_aldn k137_4 rfl).trans ((xs_get0 k137_5 (px_s59 L) (Nat.le_of_ble_eq_true rfl)).trans ((xs_ic k137_8 (by omega)).trans ((xs_isub k137_9).trans ((xs_aldn k137_10 rfl).trans ((xs_get0 k137_11 (px_s59 L) (Nat.le_of_ble_eq_true rfl)).trans (xs_callsB k137_14 (as := [vR 63, vI (px_w32 ((i 59 1) - 1)), vI (i 59 0)]) rfl rfl (Nat.le_of_ble_eq_true rfl) (Nat.le_of_ble_eq_true rfl) (Nat.le_of_ble_eq_true rfl))))))))))
theorem b137_17 (hr : px_hr r) (d : Nat) (i l : MI)  : px_X d 137 (17, [vR 59], []) (px_sh L, i, l, r, t) = some (none, (px_sh L, i, l, r, t)) := (xs_rv k137_17 rfl)
-- Text.clauseOf ('t', 'I')
theorem b138_0 (hr : px_hr r) (d : Nat) (i l : MI) {k0 : Nat} (ht0 : px_tx k0) (x1 : Int) : px_X d 138 (0, [vR k0, vI x1, vJ], []) (px_sh L, i, l, r, t) = px_X d 138 (2, [vR k0, vI x1, vI 0], []) (px_sh L, i, l, r, t) := ((xs_ic k138_0 (by omega)).trans (xs_istn k138_1 (Nat.le_of_ble_eq_true rfl) (ls' := [vR k0, vI x1, vI 0]) rfl))
theorem b138_2 (hr : px_hr r) (d : Nat) (i l : MI) {k0 : Nat} (ht0 : px_tx k0) (x1 : Int) (x2 : Int) : px_X (d + 1) 138 (2, [vR k0, vI x1, vI x2], []) (px_sh L, i, l, r, t) = if (i k0 1) ≤ x2 then some (some (vI (-1)), (px_sh L, i, l, r, t)) else if 10 ≤ x2 then some (some (vI (-1)), (px_sh L, i, l, r, t)) else (px_C d 33 [vR (k0 + 2), vI x2] (px_sh L, i, l, r, t)).bind (fun q => px_X (d + 1) 138 (px_psh (24, [vR k0, vI x1, vI x2], []) q.1) q.2) := ((xs_ildn k138_2 rfl).trans ((xs_aldn k138_3 rfl).trans ((xs_get0 k138_4 (px_tx_sh ht0) (px_tx_3 ht0)).trans ((xs_jge k138_7).trans (px_ite (fun c1 => ((xs_ic k138_36 (by omega)).trans (xs_ri k138_37 rfl))) (fun c1 => ((xs_ildn k138_10 rfl).trans ((xs_bi k138_11 (by omega)).trans ((xs_jge k138_13).trans (px_ite (fun c2 => ((xs_ic k138_36 (by omega)).trans (xs_ri k138_37 rfl))) (fun c2 => ((xs_aldn k138_16 rfl).trans ((xs_get4 k138_17 (px_tx_sh ht0) (px_tx_3 ht0) (px_tx_r2 hr ht0)).trans ((xs_ildn k138_20 rfl).trans (xs_callsB k138_21 (as := [vR (k0 + 2), vI x2]) rfl rfl (Nat.le_of_ble_eq_true rfl) (Nat.le_of_ble_eq_true rfl) (Nat.le_of_ble_eq_true rfl))))))))))))))))
theorem b138_24 (hr : px_hr r) (d : Nat) (i l : MI) {k0 : Nat} (ht0 : px_tx k0) (x1 : Int) (x2 : Int) (xs0 : Int) : px_X d 138 (24, [vR k0, vI x1, vI x2], [vI xs0]) (px_sh L, i, l, r, t) = if xs0 = x1 then some (some (vI x2), (px_sh L, i, l, r, t)) else px_X d 138 (2, [vR k0, vI x1, vI (px_w32 (x2 + 1))], []) (px_sh L, i, l, r, t) := ((xs_ildn k138_24 rfl).trans ((xs_jne k138_25).trans (px_ite (fun c1 => ((xs_ildn k138_28 rfl).trans (xs_ri k138_29 rfl))) (fun c1 => ((xs_iinc k138_30 rfl (by omega) (ls' := [vR k0, vI x1, vI (px_w32 (x2 + 1))]) rfl).trans (xs_goto k138_33))))))
-- Text.copyFrom ('t', 'R59')
theorem b139_0 (hr : px_hr r) (d : Nat) (i l : MI) {k0 : Nat} (ht0 : px_tx k0) : px_X (d + 1) 139 (0, [vR k0, vR 59], []) (px_sh L, i, l, r, t) = (px_C d 35 [vR 60, vR (k0 + 1)] (px_sh L, (px_up (px_up i k0 0 (i 59 0)) k0 1 ((px_up i k0 0 (i 59 0)) 59 1)), l, r, t)).bind (fun q => px_X (d + 1) 139 (px_psh (27, [vR k0, vR 59], []) q.1) q.2) := ((xs_aldn k139_0 rfl).trans ((xs_aldn k139_1 rfl).trans ((xs_get0 k139_2 (px_s59 L) (Nat.le_of_ble_eq_true rfl)).trans ((xs_put0 k139_5 (Or.inl rfl) (px_tx_sh ht0) (px_tx_3 ht0)).trans ((xs_aldn k139_8 rfl).trans ((xs_aldn k139_9 rfl).trans ((xs_get0 k139_10 (px_s59 L) (Nat.le_of_ble_eq_true rfl)).trans ((xs_put0 k139_13 (Or.inl rfl) (px_tx_sh ht0) (px_tx_3 ht0)).trans ((xs_aldn k139_16 rfl).trans ((xs_get4 k139_17 (px_s59 L) (Nat.le_of_ble_eq_true rfl) (px_r59_2 hr)).trans ((xs_aldn k139_20 rfl).trans ((xs_get4 k139_21 (px_tx_sh ht0) (px_tx_3 ht0) (px_tx_r1 hr ht0)).trans (xs_callsB k139_24 (as := [vR 60, vR (k0 + 1)]) rfl rfl (Nat.le_of_ble_eq_true rfl) (Nat.le_of_ble_eq_true rfl) (Nat.le_of_ble_eq_true rfl))))))))))))))
theorem b139_27 (hr : px_hr r) (d : Nat) (i l : MI) {k0 : Nat} (ht0 : px_tx k0) : px_X (d + 1) 139 (27, [vR k0, vR 59], []) (px_sh L, i, l, r, t) = (px_C d 35 [vR 61, vR (k0 + 2)] (px_sh L, i, l, r, t)).bind (fun q => px_X (d + 1) 139 (px_psh (38, [vR k0, vR 59], []) q.1) q.2) := ((xs_aldn k139_27 rfl).trans ((xs_get4 k139_28 (px_s59 L) (Nat.le_of_ble_eq_true rfl) (px_r59_3 hr)).trans ((xs_aldn k139_31 rfl).trans ((xs_get4 k139_32 (px_tx_sh ht0) (px_tx_3 ht0) (px_tx_r2 hr ht0)).trans (xs_callsB k139_35 (as := [vR 61, vR (k0 + 2)]) rfl rfl (Nat.le_of_ble_eq_true rfl) (Nat.le_of_ble_eq_true rfl) (Nat.le_of_ble_eq_true rfl))))))
theorem b139_38 (hr : px_hr r) (d : Nat) (i l : MI) {k0 : Nat} (ht0 : px_tx k0) : px_X (d + 1) 139 (38, [vR k0, vR 59], []) (px_sh L, i, l, r, t) = (px_C d 35 [vR 62, vR (k0 + 3)] (px_sh L, i, l, r, t)).bind (fun q => px_X (d + 1) 139 (px_psh (49, [vR k0, vR 59], []) q.1) q.2) := ((xs_aldn k139_38 rfl).trans ((xs_get4 k139_39 (px_s59 L) (Nat.le_of_ble_eq_true rfl) (px_r59_4 hr)).trans ((xs_aldn k139_42 rfl).trans ((xs_get4 k139_43 (px_tx_sh ht0) (px_tx_3 ht0) (px_tx_r3 hr ht0)).trans (xs_callsB k139_46 (as := [vR 62, vR (k0 + 3)]) rfl rfl (Nat.le_of_ble_eq_true rfl) (Nat.le_of_ble_eq_true rfl) (Nat.le_of_ble_eq_true rfl))))))
theorem b139_49 (hr : px_hr r) (d : Nat) (i l : MI) {k0 : Nat} (ht0 : px_tx k0) : px_X (d + 1) 139 (49, [vR k0, vR 59], []) (px_sh L, i, l, r, t) = (px_C d 35 [vR 63, vR (k0 + 4)] (px_sh L, i, l, r, t)).bind (fun q => px_X (d + 1) 139 (px_psh (60, [vR k0, vR 59], []) q.1) q.2) := ((xs_aldn k139_49 rfl).trans ((xs_get4 k139_50 (px_s59 L) (Nat.le_of_ble_eq_true rfl) (px_r59_5 hr)).trans ((xs_aldn k139_53 rfl).trans ((xs_get4 k139_54 (px_tx_sh ht0) (px_tx_3 ht0) (px_tx_r4 hr ht0)).trans (xs_callsB k139_57 (as := [vR 63, vR (k0 + 4)]) rfl rfl (Nat.le_of_ble_eq_true rfl) (Nat.le_of_ble_eq_true rfl) (Nat.le_of_ble_eq_true rfl))))))
theorem b139_60 (hr : px_hr r) (d : Nat) (i l : MI) {v0 : PV} (hn0 : px_nl v0) : px_X d 139 (60, [v0, vR 59], []) (px_sh L, i, l, r, t) = some (none, (px_sh L, i, l, r, t)) := (xs_rv k139_60 rfl)
end PXL
