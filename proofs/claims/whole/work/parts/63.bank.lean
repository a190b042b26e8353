/-! Block lemmas, by program (wip/whole/gen_blk.py). -/
theorem k37_0 : px_cod 37 0 = some ((.iload_n 1), 1, [], 1) := rfl
theorem k37_1 : px_cod 37 1 = some ((.ifCond .lt 15), 3, [16], 0) := rfl
theorem k37_4 : px_cod 37 4 = some ((.iload_n 1), 1, [], 1) := rfl
theorem k37_5 : px_cod 37 5 = some ((.aload_n 0), 1, [], 0) := rfl
theorem k37_6 : px_cod 37 6 = some ((.getfield 29), 3, [35, 1, 0, 1], 2) := rfl
theorem k37_9 : px_cod 37 9 = some ((.if_icmp .ge 7), 3, [16], 0) := rfl
theorem k37_12 : px_cod 37 12 = some ((.iconst 1), 1, [], 1) := rfl
theorem k37_13 : px_cod 37 13 = some ((.goto 4), 3, [17], 0) := rfl
theorem k37_16 : px_cod 37 16 = some ((.iconst 0), 1, [], 0) := rfl
theorem k37_17 : px_cod 37 17 = some (.ireturn, 1, [], 0) := rfl
theorem k38_0 : px_cod 38 0 = some ((.aload_n 0), 1, [], 0) := rfl
theorem k38_1 : px_cod 38 1 = some ((.getfield 9), 3, [40, 1, 4, 1], 6) := rfl
theorem k38_4 : px_cod 38 4 = some ((.iload_n 1), 1, [], 1) := rfl
theorem k38_5 : px_cod 38 5 = some ((.invokestatic 41), 3, [0, 122, 33], 0) := rfl
theorem k38_8 : px_cod 38 8 = some (.ireturn, 1, [], 0) := rfl
theorem k39_0 : px_cod 39 0 = some ((.aload_n 0), 1, [], 0) := rfl
theorem k39_1 : px_cod 39 1 = some ((.iload_n 1), 1, [], 1) := rfl
theorem k39_2 : px_cod 39 2 = some ((.invokevirtual 45), 3, [0, 143, 37], 0) := rfl
theorem k39_5 : px_cod 39 5 = some ((.ifCond .eq 20), 3, [25], 0) := rfl
theorem k39_8 : px_cod 39 8 = some ((.aload_n 0), 1, [], 0) := rfl
theorem k39_9 : px_cod 39 9 = some ((.getfield 15), 3, [41, 1, 3, 0], 7) := rfl
theorem k39_12 : px_cod 39 12 = some ((.iload_n 1), 1, [], 1) := rfl
theorem k39_13 : px_cod 39 13 = some (.lshr, 1, [], 0) := rfl
theorem k39_14 : px_cod 39 14 = some ((.lconst 1), 1, [], 1) := rfl
theorem k39_15 : px_cod 39 15 = some (.land, 1, [], 0) := rfl
theorem k39_16 : px_cod 39 16 = some ((.lconst 1), 1, [], 1) := rfl
theorem k39_17 : px_cod 39 17 = some (.lcmp, 1, [], 0) := rfl
theorem k39_18 : px_cod 39 18 = some ((.ifCond .ne 7), 3, [25], 0) := rfl
theorem k39_21 : px_cod 39 21 = some ((.iconst 1), 1, [], 1) := rfl
theorem k39_22 : px_cod 39 22 = some ((.goto 4), 3, [26], 0) := rfl
theorem k39_25 : px_cod 39 25 = some ((.iconst 0), 1, [], 0) := rfl
theorem k39_26 : px_cod 39 26 = some (.ireturn, 1, [], 0) := rfl
theorem k40_0 : px_cod 40 0 = some ((.aload_n 0), 1, [], 0) := rfl
theorem k40_1 : px_cod 40 1 = some ((.getfield 9), 3, [40, 1, 4, 1], 6) := rfl
theorem k40_4 : px_cod 40 4 = some ((.iload_n 1), 1, [], 1) := rfl
theorem k40_5 : px_cod 40 5 = some ((.iload_n 2), 1, [], 2) := rfl
theorem k40_6 : px_cod 40 6 = some ((.invokestatic 49), 3, [0, 18, 34], 0) := rfl
theorem k40_9 : px_cod 40 9 = some ((.aload_n 0), 1, [], 0) := rfl
theorem k40_10 : px_cod 40 10 = some ((.aload_n 0), 1, [], 0) := rfl
theorem k40_11 : px_cod 40 11 = some ((.getfield 15), 3, [41, 1, 3, 0], 7) := rfl
theorem k40_14 : px_cod 40 14 = some ((.lconst 1), 1, [], 1) := rfl
theorem k40_15 : px_cod 40 15 = some ((.iload_n 1), 1, [], 1) := rfl
theorem k40_16 : px_cod 40 16 = some (.lshl, 1, [], 0) := rfl
theorem k40_17 : px_cod 40 17 = some ((.ldc2_w 53), 3, [0, 0], (-1)) := rfl
theorem k40_20 : px_cod 40 20 = some (.lxor, 1, [], 0) := rfl
theorem k40_21 : px_cod 40 21 = some (.land, 1, [], 0) := rfl
theorem k40_22 : px_cod 40 22 = some ((.putfield 15), 3, [41, 1, 3, 0], 7) := rfl
theorem k40_25 : px_cod 40 25 = some ((.iload_n 3), 1, [], 3) := rfl
theorem k40_26 : px_cod 40 26 = some ((.ifCond .eq 15), 3, [41], 0) := rfl
theorem k40_29 : px_cod 40 29 = some ((.aload_n 0), 1, [], 0) := rfl
theorem k40_30 : px_cod 40 30 = some ((.aload_n 0), 1, [], 0) := rfl
theorem k40_31 : px_cod 40 31 = some ((.getfield 15), 3, [41, 1, 3, 0], 7) := rfl
theorem k40_34 : px_cod 40 34 = some ((.lconst 1), 1, [], 1) := rfl
theorem k40_35 : px_cod 40 35 = some ((.iload_n 1), 1, [], 1) := rfl
theorem k40_36 : px_cod 40 36 = some (.lshl, 1, [], 0) := rfl
theorem k40_37 : px_cod 40 37 = some (.lor, 1, [], 0) := rfl
theorem k40_38 : px_cod 40 38 = some ((.putfield 15), 3, [41, 1, 3, 0], 7) := rfl
theorem k40_41 : px_cod 40 41 = some (.return_, 1, [], 0) := rfl
theorem k41_0 : px_cod 41 0 = some ((.aload_n 0), 1, [], 0) := rfl
theorem k41_1 : px_cod 41 1 = some ((.iload_n 1), 1, [], 1) := rfl
theorem k41_2 : px_cod 41 2 = some ((.invokevirtual 45), 3, [0, 143, 37], 0) := rfl
theorem k41_5 : px_cod 41 5 = some ((.ifCond .ne 5), 3, [10], 0) := rfl
theorem k41_8 : px_cod 41 8 = some ((.iconst (-1)), 1, [], (-1)) := rfl
theorem k41_9 : px_cod 41 9 = some (.ireturn, 1, [], 0) := rfl
theorem k41_10 : px_cod 41 10 = some ((.iload_n 2), 1, [], 2) := rfl
theorem k41_11 : px_cod 41 11 = some ((.tableswitch 114 0 3 #[29, 48, 69, 90]), 29, [125, 40, 59, 80, 101], 0) := rfl
theorem k41_40 : px_cod 41 40 = some ((.iload_n 1), 1, [], 1) := rfl
theorem k41_41 : px_cod 41 41 = some ((.aload_n 0), 1, [], 0) := rfl
theorem k41_42 : px_cod 41 42 = some ((.getfield 23), 3, [31, 1, 0, 1], 0) := rfl
theorem k41_45 : px_cod 41 45 = some ((.if_icmp .lt 12), 3, [57], 0) := rfl
theorem k41_48 : px_cod 41 48 = some ((.iload_n 1), 1, [], 1) := rfl
theorem k41_49 : px_cod 41 49 = some ((.aload_n 0), 1, [], 0) := rfl
theorem k41_50 : px_cod 41 50 = some ((.getfield 23), 3, [31, 1, 0, 1], 0) := rfl
theorem k41_53 : px_cod 41 53 = some (.isub, 1, [], 0) := rfl
theorem k41_54 : px_cod 41 54 = some ((.goto 4), 3, [58], 0) := rfl
theorem k41_57 : px_cod 41 57 = some ((.iconst (-1)), 1, [], (-1)) := rfl
theorem k41_58 : px_cod 41 58 = some (.ireturn, 1, [], 0) := rfl
theorem k41_59 : px_cod 41 59 = some ((.aload_n 0), 1, [], 0) := rfl
theorem k41_60 : px_cod 41 60 = some ((.getfield 35), 3, [38, 1, 3, 1], 4) := rfl
theorem k41_63 : px_cod 41 63 = some ((.iload_n 1), 1, [], 1) := rfl
theorem k41_64 : px_cod 41 64 = some (.lshr, 1, [], 0) := rfl
theorem k41_65 : px_cod 41 65 = some ((.lconst 1), 1, [], 1) := rfl
theorem k41_66 : px_cod 41 66 = some (.land, 1, [], 0) := rfl
theorem k41_67 : px_cod 41 67 = some ((.lconst 1), 1, [], 1) := rfl
theorem k41_68 : px_cod 41 68 = some (.lcmp, 1, [], 0) := rfl
theorem k41_69 : px_cod 41 69 = some ((.ifCond .ne 7), 3, [76], 0) := rfl
theorem k41_72 : px_cod 41 72 = some ((.iconst (-1)), 1, [], (-1)) := rfl
theorem k41_73 : px_cod 41 73 = some ((.goto 6), 3, [79], 0) := rfl
theorem k41_76 : px_cod 41 76 = some ((.iload_n 1), 1, [], 1) := rfl
theorem k41_77 : px_cod 41 77 = some ((.iconst 1), 1, [], 1) := rfl
theorem k41_78 : px_cod 41 78 = some (.isub, 1, [], 0) := rfl
theorem k41_79 : px_cod 41 79 = some (.ireturn, 1, [], 0) := rfl
theorem k41_80 : px_cod 41 80 = some ((.aload_n 0), 1, [], 0) := rfl
theorem k41_81 : px_cod 41 81 = some ((.getfield 38), 3, [39, 1, 3, 1], 5) := rfl
theorem k41_84 : px_cod 41 84 = some ((.iload_n 1), 1, [], 1) := rfl
theorem k41_85 : px_cod 41 85 = some (.lshr, 1, [], 0) := rfl
theorem k41_86 : px_cod 41 86 = some ((.lconst 1), 1, [], 1) := rfl
theorem k41_87 : px_cod 41 87 = some (.land, 1, [], 0) := rfl
theorem k41_88 : px_cod 41 88 = some ((.lconst 1), 1, [], 1) := rfl
theorem k41_89 : px_cod 41 89 = some (.lcmp, 1, [], 0) := rfl
theorem k41_90 : px_cod 41 90 = some ((.ifCond .ne 7), 3, [97], 0) := rfl
theorem k41_93 : px_cod 41 93 = some ((.iconst (-1)), 1, [], (-1)) := rfl
theorem k41_94 : px_cod 41 94 = some ((.goto 6), 3, [100], 0) := rfl
theorem k41_97 : px_cod 41 97 = some ((.iload_n 1), 1, [], 1) := rfl
theorem k41_98 : px_cod 41 98 = some ((.iconst 1), 1, [], 1) := rfl
theorem k41_99 : px_cod 41 99 = some (.iadd, 1, [], 0) := rfl
theorem k41_100 : px_cod 41 100 = some (.ireturn, 1, [], 0) := rfl
theorem k41_101 : px_cod 41 101 = some ((.iload_n 1), 1, [], 1) := rfl
theorem k41_102 : px_cod 41 102 = some ((.aload_n 0), 1, [], 0) := rfl
theorem k41_103 : px_cod 41 103 = some ((.getfield 23), 3, [31, 1, 0, 1], 0) := rfl
theorem k41_106 : px_cod 41 106 = some (.iadd, 1, [], 0) := rfl
theorem k41_107 : px_cod 41 107 = some ((.aload_n 0), 1, [], 0) := rfl
theorem k41_108 : px_cod 41 108 = some ((.getfield 29), 3, [35, 1, 0, 1], 2) := rfl
theorem k41_111 : px_cod 41 111 = some ((.if_icmp .ge 12), 3, [123], 0) := rfl
theorem k41_114 : px_cod 41 114 = some ((.iload_n 1), 1, [], 1) := rfl
theorem k41_115 : px_cod 41 115 = some ((.aload_n 0), 1, [], 0) := rfl
theorem k41_116 : px_cod 41 116 = some ((.getfield 23), 3, [31, 1, 0, 1], 0) := rfl
theorem k41_119 : px_cod 41 119 = some (.iadd, 1, [], 0) := rfl
theorem k41_120 : px_cod 41 120 = some ((.goto 4), 3, [124], 0) := rfl
theorem k41_123 : px_cod 41 123 = some ((.iconst (-1)), 1, [], (-1)) := rfl
theorem k41_124 : px_cod 41 124 = some (.ireturn, 1, [], 0) := rfl
theorem k41_125 : px_cod 41 125 = some ((.iconst (-1)), 1, [], (-1)) := rfl
theorem k41_126 : px_cod 41 126 = some (.ireturn, 1, [], 0) := rfl
theorem k42_0 : px_cod 42 0 = some ((.lload_n 1), 1, [], 1) := rfl
theorem k42_1 : px_cod 42 1 = some ((.aload_n 0), 1, [], 0) := rfl
theorem k42_2 : px_cod 42 2 = some ((.getfield 23), 3, [31, 1, 0, 1], 0) := rfl
theorem k42_5 : px_cod 42 5 = some (.lushr, 1, [], 0) := rfl
theorem k42_6 : px_cod 42 6 = some ((.lstore_n 3), 1, [], 3) := rfl
theorem k42_7 : px_cod 42 7 = some ((.lload_n 1), 1, [], 1) := rfl
theorem k42_8 : px_cod 42 8 = some ((.aload_n 0), 1, [], 0) := rfl
theorem k42_9 : px_cod 42 9 = some ((.getfield 35), 3, [38, 1, 3, 1], 4) := rfl
theorem k42_12 : px_cod 42 12 = some ((.ldc2_w 53), 3, [0, 0], (-1)) := rfl
theorem k42_15 : px_cod 42 15 = some (.lxor, 1, [], 0) := rfl
theorem k42_16 : px_cod 42 16 = some (.land, 1, [], 0) := rfl
theorem k42_17 : px_cod 42 17 = some ((.iconst 1), 1, [], 1) := rfl
theorem k42_18 : px_cod 42 18 = some (.lushr, 1, [], 0) := rfl
theorem k42_19 : px_cod 42 19 = some ((.lstore 5), 2, [], 5) := rfl
theorem k42_21 : px_cod 42 21 = some ((.lload_n 1), 1, [], 1) := rfl
theorem k42_22 : px_cod 42 22 = some ((.aload_n 0), 1, [], 0) := rfl
theorem k42_23 : px_cod 42 23 = some ((.getfield 38), 3, [39, 1, 3, 1], 5) := rfl
theorem k42_26 : px_cod 42 26 = some ((.ldc2_w 53), 3, [0, 0], (-1)) := rfl
theorem k42_29 : px_cod 42 29 = some (.lxor, 1, [], 0) := rfl
theorem k42_30 : px_cod 42 30 = some (.land, 1, [], 0) := rfl
theorem k42_31 : px_cod 42 31 = some ((.iconst 1), 1, [], 1) := rfl
theorem k42_32 : px_cod 42 32 = some (.lshl, 1, [], 0) := rfl
theorem k42_33 : px_cod 42 33 = some ((.lstore 7), 2, [], 7) := rfl
theorem k42_35 : px_cod 42 35 = some ((.lload_n 1), 1, [], 1) := rfl
theorem k42_36 : px_cod 42 36 = some ((.aload_n 0), 1, [], 0) := rfl
theorem k42_37 : px_cod 42 37 = some ((.getfield 23), 3, [31, 1, 0, 1], 0) := rfl
theorem k42_40 : px_cod 42 40 = some (.lshl, 1, [], 0) := rfl
theorem k42_41 : px_cod 42 41 = some ((.aload_n 0), 1, [], 0) := rfl
theorem k42_42 : px_cod 42 42 = some ((.getfield 32), 3, [37, 1, 3, 1], 3) := rfl
theorem k42_45 : px_cod 42 45 = some (.land, 1, [], 0) := rfl
theorem k42_46 : px_cod 42 46 = some ((.lstore 9), 2, [], 9) := rfl
theorem k42_48 : px_cod 42 48 = some ((.lload_n 3), 1, [], 3) := rfl
theorem k42_49 : px_cod 42 49 = some ((.lload 5), 2, [], 5) := rfl
theorem k42_51 : px_cod 42 51 = some (.lor, 1, [], 0) := rfl
theorem k42_52 : px_cod 42 52 = some ((.lload 7), 2, [], 7) := rfl
theorem k42_54 : px_cod 42 54 = some (.lor, 1, [], 0) := rfl
theorem k42_55 : px_cod 42 55 = some ((.lload 9), 2, [], 9) := rfl
theorem k42_57 : px_cod 42 57 = some (.lor, 1, [], 0) := rfl
theorem k42_58 : px_cod 42 58 = some (.lreturn, 1, [], 0) := rfl
theorem k43_0 : px_cod 43 0 = some ((.iload_n 1), 1, [], 1) := rfl
theorem k43_1 : px_cod 43 1 = some ((.bipush 7), 2, [], 7) := rfl
theorem k43_3 : px_cod 43 3 = some (.imul, 1, [], 0) := rfl
theorem k43_4 : px_cod 43 4 = some ((.iconst 3), 1, [], 3) := rfl
theorem k43_5 : px_cod 43 5 = some (.iadd, 1, [], 0) := rfl
theorem k43_6 : px_cod 43 6 = some ((.istore_n 3), 1, [], 3) := rfl
theorem k43_7 : px_cod 43 7 = some ((.iconst 0), 1, [], 0) := rfl
theorem k43_8 : px_cod 43 8 = some ((.istore 4), 2, [], 4) := rfl
theorem k43_10 : px_cod 43 10 = some ((.iload 4), 2, [], 4) := rfl
theorem k43_12 : px_cod 43 12 = some ((.iload_n 2), 1, [], 2) := rfl
theorem k43_13 : px_cod 43 13 = some ((.if_icmp .ge 88), 3, [101], 0) := rfl
theorem k43_16 : px_cod 43 16 = some ((.aload_n 0), 1, [], 0) := rfl
theorem k43_17 : px_cod 43 17 = some ((.getfield 29), 3, [35, 1, 0, 1], 2) := rfl
theorem k43_20 : px_cod 43 20 = some ((.ifCond .le 12), 3, [32], 0) := rfl
theorem k43_23 : px_cod 43 23 = some ((.iload_n 3), 1, [], 3) := rfl
theorem k43_24 : px_cod 43 24 = some ((.aload_n 0), 1, [], 0) := rfl
theorem k43_25 : px_cod 43 25 = some ((.getfield 29), 3, [35, 1, 0, 1], 2) := rfl
theorem k43_28 : px_cod 43 28 = some (.irem, 1, [], 0) := rfl
theorem k43_29 : px_cod 43 29 = some ((.goto 4), 3, [33], 0) := rfl
theorem k43_32 : px_cod 43 32 = some ((.iconst 0), 1, [], 0) := rfl
theorem k43_33 : px_cod 43 33 = some ((.istore 5), 2, [], 5) := rfl
theorem k43_35 : px_cod 43 35 = some ((.iload_n 3), 1, [], 3) := rfl
theorem k43_36 : px_cod 43 36 = some ((.sipush 143), 3, [], 143) := rfl
theorem k43_39 : px_cod 43 39 = some (.imul, 1, [], 0) := rfl
theorem k43_40 : px_cod 43 40 = some ((.bipush 41), 2, [], 41) := rfl
theorem k43_42 : px_cod 43 42 = some (.iadd, 1, [], 0) := rfl
theorem k43_43 : px_cod 43 43 = some ((.sipush 30103), 3, [], 30103) := rfl
theorem k43_46 : px_cod 43 46 = some (.irem, 1, [], 0) := rfl
theorem k43_47 : px_cod 43 47 = some ((.istore_n 3), 1, [], 3) := rfl
theorem k43_48 : px_cod 43 48 = some ((.aload_n 0), 1, [], 0) := rfl
theorem k43_49 : px_cod 43 49 = some ((.iload 5), 2, [], 5) := rfl
theorem k43_51 : px_cod 43 51 = some ((.invokevirtual 55), 3, [0, 185, 38], 0) := rfl
theorem k43_54 : px_cod 43 54 = some ((.iload_n 3), 1, [], 3) := rfl
theorem k43_55 : px_cod 43 55 = some ((.iconst 3), 1, [], 3) := rfl
theorem k43_56 : px_cod 43 56 = some (.irem, 1, [], 0) := rfl
theorem k43_57 : px_cod 43 57 = some (.iadd, 1, [], 0) := rfl
theorem k43_58 : px_cod 43 58 = some ((.iconst 1), 1, [], 1) := rfl
theorem k43_59 : px_cod 43 59 = some (.isub, 1, [], 0) := rfl
theorem k43_60 : px_cod 43 60 = some ((.istore 6), 2, [], 6) := rfl
theorem k43_62 : px_cod 43 62 = some ((.iload_n 3), 1, [], 3) := rfl
theorem k43_63 : px_cod 43 63 = some ((.sipush 143), 3, [], 143) := rfl
theorem k43_66 : px_cod 43 66 = some (.imul, 1, [], 0) := rfl
theorem k43_67 : px_cod 43 67 = some ((.bipush 41), 2, [], 41) := rfl
theorem k43_69 : px_cod 43 69 = some (.iadd, 1, [], 0) := rfl
theorem k43_70 : px_cod 43 70 = some ((.sipush 30103), 3, [], 30103) := rfl
theorem k43_73 : px_cod 43 73 = some (.irem, 1, [], 0) := rfl
theorem k43_74 : px_cod 43 74 = some ((.istore_n 3), 1, [], 3) := rfl
theorem k43_75 : px_cod 43 75 = some ((.aload_n 0), 1, [], 0) := rfl
theorem k43_76 : px_cod 43 76 = some ((.getfield 9), 3, [40, 1, 4, 1], 6) := rfl
theorem k43_79 : px_cod 43 79 = some ((.iload 5), 2, [], 5) := rfl
theorem k43_81 : px_cod 43 81 = some ((.iconst 0), 1, [], 0) := rfl
theorem k43_82 : px_cod 43 82 = some ((.bipush 99), 2, [], 99) := rfl
theorem k43_84 : px_cod 43 84 = some ((.iload 6), 2, [], 6) := rfl
theorem k43_86 : px_cod 43 86 = some ((.invokestatic 59), 3, [6, 5], 0) := rfl
theorem k43_89 : px_cod 43 89 = some ((.invokestatic 65), 3, [5, 6], 0) := rfl
theorem k43_92 : px_cod 43 92 = some ((.invokestatic 49), 3, [0, 18, 34], 0) := rfl
theorem k43_95 : px_cod 43 95 = some ((.iinc 4 1), 3, [4], 1) := rfl
theorem k43_98 : px_cod 43 98 = some ((.goto (-88)), 3, [10], 0) := rfl
theorem k43_101 : px_cod 43 101 = some ((.iconst 0), 1, [], 0) := rfl
theorem k43_102 : px_cod 43 102 = some ((.istore 4), 2, [], 4) := rfl
theorem k43_104 : px_cod 43 104 = some ((.iconst 0), 1, [], 0) := rfl
theorem k43_105 : px_cod 43 105 = some ((.istore 5), 2, [], 5) := rfl
theorem k43_107 : px_cod 43 107 = some ((.iload 5), 2, [], 5) := rfl
theorem k43_109 : px_cod 43 109 = some ((.aload_n 0), 1, [], 0) := rfl
theorem k43_110 : px_cod 43 110 = some ((.getfield 29), 3, [35, 1, 0, 1], 2) := rfl
theorem k43_113 : px_cod 43 113 = some ((.if_icmp .ge 20), 3, [133], 0) := rfl
theorem k43_116 : px_cod 43 116 = some ((.iload 4), 2, [], 4) := rfl
theorem k43_118 : px_cod 43 118 = some ((.aload_n 0), 1, [], 0) := rfl
theorem k43_119 : px_cod 43 119 = some ((.iload 5), 2, [], 5) := rfl
theorem k43_121 : px_cod 43 121 = some ((.invokevirtual 55), 3, [0, 185, 38], 0) := rfl
theorem k43_124 : px_cod 43 124 = some (.iadd, 1, [], 0) := rfl
theorem k43_125 : px_cod 43 125 = some ((.istore 4), 2, [], 4) := rfl
theorem k43_127 : px_cod 43 127 = some ((.iinc 5 1), 3, [5], 1) := rfl
theorem k43_130 : px_cod 43 130 = some ((.goto (-23)), 3, [107], 0) := rfl
theorem k43_133 : px_cod 43 133 = some ((.iload 4), 2, [], 4) := rfl
theorem k43_135 : px_cod 43 135 = some (.ireturn, 1, [], 0) := rfl
theorem k44_0 : px_cod 44 0 = some ((.aload_n 1), 1, [], 1) := rfl
theorem k44_1 : px_cod 44 1 = some ((.getfield 9), 3, [40, 1, 4, 1], 6) := rfl
theorem k44_4 : px_cod 44 4 = some ((.aload_n 0), 1, [], 0) := rfl
theorem k44_5 : px_cod 44 5 = some ((.getfield 9), 3, [40, 1, 4, 1], 6) := rfl
theorem k44_8 : px_cod 44 8 = some ((.invokestatic 68), 3, [0, 189, 35], 0) := rfl
theorem k44_11 : px_cod 44 11 = some ((.aload_n 0), 1, [], 0) := rfl
theorem k44_12 : px_cod 44 12 = some ((.aload_n 1), 1, [], 1) := rfl
theorem k44_13 : px_cod 44 13 = some ((.getfield 15), 3, [41, 1, 3, 0], 7) := rfl
theorem k44_16 : px_cod 44 16 = some ((.putfield 15), 3, [41, 1, 3, 0], 7) := rfl
theorem k44_19 : px_cod 44 19 = some ((.aload_n 0), 1, [], 0) := rfl
theorem k44_20 : px_cod 44 20 = some ((.aload_n 1), 1, [], 1) := rfl
theorem k44_21 : px_cod 44 21 = some ((.getfield 19), 3, [43, 1, 0, 0], 8) := rfl
theorem k44_24 : px_cod 44 24 = some ((.putfield 19), 3, [43, 1, 0, 0], 8) := rfl
theorem k44_27 : px_cod 44 27 = some (.return_, 1, [], 0) := rfl
theorem k46_0 : px_cod 46 0 = some ((.aload_n 0), 1, [], 0) := rfl
theorem k46_1 : px_cod 46 1 = some ((.getfield 15), 3, [4, 2, 4, 1], 1) := rfl
theorem k46_4 : px_cod 46 4 = some ((.aload_n 0), 1, [], 0) := rfl
theorem k46_5 : px_cod 46 5 = some ((.getfield 9), 3, [0, 2, 0, 0], 0) := rfl
theorem k46_8 : px_cod 46 8 = some ((.iload_n 1), 1, [], 1) := rfl
theorem k46_9 : px_cod 46 9 = some ((.invokestatic 25), 3, [0, 178, 34], 0) := rfl
theorem k46_12 : px_cod 46 12 = some ((.aload_n 0), 1, [], 0) := rfl
theorem k46_13 : px_cod 46 13 = some ((.getfield 19), 3, [6, 2, 4, 1], 2) := rfl
theorem k46_16 : px_cod 46 16 = some ((.aload_n 0), 1, [], 0) := rfl
theorem k46_17 : px_cod 46 17 = some ((.getfield 9), 3, [0, 2, 0, 0], 0) := rfl
theorem k46_20 : px_cod 46 20 = some ((.iload_n 2), 1, [], 2) := rfl
theorem k46_21 : px_cod 46 21 = some ((.invokestatic 25), 3, [0, 178, 34], 0) := rfl
theorem k46_24 : px_cod 46 24 = some ((.aload_n 0), 1, [], 0) := rfl
theorem k46_25 : px_cod 46 25 = some ((.getfield 22), 3, [8, 2, 4, 1], 3) := rfl
theorem k46_28 : px_cod 46 28 = some ((.aload_n 0), 1, [], 0) := rfl
theorem k46_29 : px_cod 46 29 = some ((.getfield 9), 3, [0, 2, 0, 0], 0) := rfl
theorem k46_32 : px_cod 46 32 = some ((.iload_n 3), 1, [], 3) := rfl
theorem k46_33 : px_cod 46 33 = some ((.invokestatic 25), 3, [0, 178, 34], 0) := rfl
theorem k46_36 : px_cod 46 36 = some ((.aload_n 0), 1, [], 0) := rfl
theorem k46_37 : px_cod 46 37 = some (.dup, 1, [], 0) := rfl
theorem k46_38 : px_cod 46 38 = some ((.getfield 9), 3, [0, 2, 0, 0], 0) := rfl
theorem k46_41 : px_cod 46 41 = some ((.iconst 1), 1, [], 1) := rfl
theorem k46_42 : px_cod 46 42 = some (.iadd, 1, [], 0) := rfl
theorem k46_43 : px_cod 46 43 = some ((.putfield 9), 3, [0, 2, 0, 0], 0) := rfl
theorem k46_46 : px_cod 46 46 = some (.return_, 1, [], 0) := rfl
theorem k47_0 : px_cod 47 0 = some ((.aload_n 0), 1, [], 0) := rfl
theorem k47_1 : px_cod 47 1 = some ((.aload_n 1), 1, [], 1) := rfl
theorem k47_2 : px_cod 47 2 = some ((.getfield 9), 3, [0, 2, 0, 0], 0) := rfl
theorem k47_5 : px_cod 47 5 = some ((.putfield 9), 3, [0, 2, 0, 0], 0) := rfl
theorem k47_8 : px_cod 47 8 = some ((.aload_n 1), 1, [], 1) := rfl
theorem k47_9 : px_cod 47 9 = some ((.getfield 15), 3, [4, 2, 4, 1], 1) := rfl
theorem k47_12 : px_cod 47 12 = some ((.aload_n 0), 1, [], 0) := rfl
theorem k47_13 : px_cod 47 13 = some ((.getfield 15), 3, [4, 2, 4, 1], 1) := rfl
theorem k47_16 : px_cod 47 16 = some ((.invokestatic 29), 3, [0, 191, 35], 0) := rfl
theorem k47_19 : px_cod 47 19 = some ((.aload_n 1), 1, [], 1) := rfl
theorem k47_20 : px_cod 47 20 = some ((.getfield 19), 3, [6, 2, 4, 1], 2) := rfl
theorem k47_23 : px_cod 47 23 = some ((.aload_n 0), 1, [], 0) := rfl
theorem k47_24 : px_cod 47 24 = some ((.getfield 19), 3, [6, 2, 4, 1], 2) := rfl
theorem k47_27 : px_cod 47 27 = some ((.invokestatic 29), 3, [0, 191, 35], 0) := rfl
theorem k47_30 : px_cod 47 30 = some ((.aload_n 1), 1, [], 1) := rfl
theorem k47_31 : px_cod 47 31 = some ((.getfield 22), 3, [8, 2, 4, 1], 3) := rfl
theorem k47_34 : px_cod 47 34 = some ((.aload_n 0), 1, [], 0) := rfl
theorem k47_35 : px_cod 47 35 = some ((.getfield 22), 3, [8, 2, 4, 1], 3) := rfl
theorem k47_38 : px_cod 47 38 = some ((.invokestatic 29), 3, [0, 191, 35], 0) := rfl
theorem k47_41 : px_cod 47 41 = some (.return_, 1, [], 0) := rfl
theorem k49_0 : px_cod 49 0 = some ((.aload_n 0), 1, [], 0) := rfl
theorem k49_1 : px_cod 49 1 = some ((.iload_n 1), 1, [], 1) := rfl
theorem k49_2 : px_cod 49 2 = some ((.putfield 7), 3, [47, 3, 0, 0], 0) := rfl
theorem k49_5 : px_cod 49 5 = some ((.aload_n 0), 1, [], 0) := rfl
theorem k49_6 : px_cod 49 6 = some ((.iload_n 2), 1, [], 2) := rfl
theorem k49_7 : px_cod 49 7 = some ((.putfield 13), 3, [51, 3, 0, 0], 1) := rfl
theorem k49_10 : px_cod 49 10 = some ((.aload_n 0), 1, [], 0) := rfl
theorem k49_11 : px_cod 49 11 = some ((.iload_n 3), 1, [], 3) := rfl
theorem k49_12 : px_cod 49 12 = some ((.putfield 16), 3, [54, 3, 1, 0], 2) := rfl
theorem k49_15 : px_cod 49 15 = some ((.aload_n 0), 1, [], 0) := rfl
theorem k49_16 : px_cod 49 16 = some ((.iload 4), 2, [], 4) := rfl
theorem k49_18 : px_cod 49 18 = some ((.putfield 20), 3, [56, 3, 0, 0], 3) := rfl
theorem k49_21 : px_cod 49 21 = some ((.aload_n 0), 1, [], 0) := rfl
theorem k49_22 : px_cod 49 22 = some ((.iload 5), 2, [], 5) := rfl
theorem k49_24 : px_cod 49 24 = some ((.putfield 23), 3, [58, 3, 0, 0], 4) := rfl
theorem k49_27 : px_cod 49 27 = some ((.aload_n 0), 1, [], 0) := rfl
theorem k49_28 : px_cod 49 28 = some ((.iload 6), 2, [], 6) := rfl
theorem k49_30 : px_cod 49 30 = some ((.putfield 26), 3, [61, 3, 0, 0], 5) := rfl
theorem k49_33 : px_cod 49 33 = some ((.aload_n 0), 1, [], 0) := rfl
theorem k49_34 : px_cod 49 34 = some ((.iload 7), 2, [], 7) := rfl
theorem k49_36 : px_cod 49 36 = some ((.putfield 29), 3, [63, 3, 0, 0], 6) := rfl
theorem k49_39 : px_cod 49 39 = some ((.aload_n 0), 1, [], 0) := rfl
theorem k49_40 : px_cod 49 40 = some ((.iconst 0), 1, [], 0) := rfl
theorem k49_41 : px_cod 49 41 = some ((.putfield 32), 3, [65, 3, 0, 0], 7) := rfl
theorem k49_44 : px_cod 49 44 = some ((.aload_n 0), 1, [], 0) := rfl
theorem k49_45 : px_cod 49 45 = some ((.iconst 1), 1, [], 1) := rfl
theorem k49_46 : px_cod 49 46 = some ((.putfield 35), 3, [69, 3, 1, 0], 8) := rfl
theorem k49_49 : px_cod 49 49 = some (.return_, 1, [], 0) := rfl
theorem k50_0 : px_cod 50 0 = some ((.aload_n 0), 1, [], 0) := rfl
theorem k50_1 : px_cod 50 1 = some ((.aload_n 1), 1, [], 1) := rfl
theorem k50_2 : px_cod 50 2 = some ((.getfield 7), 3, [47, 3, 0, 0], 0) := rfl
theorem k50_5 : px_cod 50 5 = some ((.aload_n 1), 1, [], 1) := rfl
theorem k50_6 : px_cod 50 6 = some ((.getfield 13), 3, [51, 3, 0, 0], 1) := rfl
theorem k50_9 : px_cod 50 9 = some ((.aload_n 1), 1, [], 1) := rfl
theorem k50_10 : px_cod 50 10 = some ((.getfield 16), 3, [54, 3, 1, 0], 2) := rfl
theorem k50_13 : px_cod 50 13 = some ((.aload_n 1), 1, [], 1) := rfl
theorem k50_14 : px_cod 50 14 = some ((.getfield 20), 3, [56, 3, 0, 0], 3) := rfl
theorem k50_17 : px_cod 50 17 = some ((.aload_n 1), 1, [], 1) := rfl
theorem k50_18 : px_cod 50 18 = some ((.getfield 23), 3, [58, 3, 0, 0], 4) := rfl
theorem k50_21 : px_cod 50 21 = some ((.aload_n 1), 1, [], 1) := rfl
theorem k50_22 : px_cod 50 22 = some ((.getfield 26), 3, [61, 3, 0, 0], 5) := rfl
theorem k50_25 : px_cod 50 25 = some ((.aload_n 1), 1, [], 1) := rfl
theorem k50_26 : px_cod 50 26 = some ((.getfield 29), 3, [63, 3, 0, 0], 6) := rfl
theorem k50_29 : px_cod 50 29 = some ((.invokevirtual 38), 3, [0, 196, 49], 0) := rfl
theorem k50_32 : px_cod 50 32 = some ((.aload_n 0), 1, [], 0) := rfl
theorem k50_33 : px_cod 50 33 = some ((.aload_n 1), 1, [], 1) := rfl
theorem k50_34 : px_cod 50 34 = some ((.getfield 32), 3, [65, 3, 0, 0], 7) := rfl
theorem k50_37 : px_cod 50 37 = some ((.putfield 32), 3, [65, 3, 0, 0], 7) := rfl
theorem k50_40 : px_cod 50 40 = some ((.aload_n 0), 1, [], 0) := rfl
theorem k50_41 : px_cod 50 41 = some ((.aload_n 1), 1, [], 1) := rfl
theorem k50_42 : px_cod 50 42 = some ((.getfield 35), 3, [69, 3, 1, 0], 8) := rfl
theorem k50_45 : px_cod 50 45 = some ((.putfield 35), 3, [69, 3, 1, 0], 8) := rfl
theorem k50_48 : px_cod 50 48 = some (.return_, 1, [], 0) := rfl
theorem k52_0 : px_cod 52 0 = some ((.iload_n 1), 1, [], 1) := rfl
theorem k52_1 : px_cod 52 1 = some ((.ifCond .lt 29), 3, [30], 0) := rfl
theorem k52_4 : px_cod 52 4 = some ((.iload_n 1), 1, [], 1) := rfl
theorem k52_5 : px_cod 52 5 = some ((.aload_n 0), 1, [], 0) := rfl
theorem k52_6 : px_cod 52 6 = some ((.getfield 35), 3, [91, 4, 0, 0], 6) := rfl
theorem k52_9 : px_cod 52 9 = some ((.if_icmp .ge 21), 3, [30], 0) := rfl
theorem k52_12 : px_cod 52 12 = some ((.iload_n 1), 1, [], 1) := rfl
theorem k52_13 : px_cod 52 13 = some ((.aload_n 0), 1, [], 0) := rfl
theorem k52_14 : px_cod 52 14 = some ((.getfield 62), 3, [113, 4, 4, 1], 14) := rfl
theorem k52_17 : px_cod 52 17 = some (.arraylength, 1, [], 0) := rfl
theorem k52_18 : px_cod 52 18 = some ((.if_icmp .ge 12), 3, [30], 0) := rfl
theorem k52_21 : px_cod 52 21 = some ((.aload_n 0), 1, [], 0) := rfl
theorem k52_22 : px_cod 52 22 = some ((.getfield 62), 3, [113, 4, 4, 1], 14) := rfl
theorem k52_25 : px_cod 52 25 = some ((.iload_n 1), 1, [], 1) := rfl
theorem k52_26 : px_cod 52 26 = some (.aaload, 1, [], 0) := rfl
theorem k52_27 : px_cod 52 27 = some ((.goto 4), 3, [31], 0) := rfl
theorem k52_30 : px_cod 52 30 = some (.aconst_null, 1, [], 0) := rfl
theorem k52_31 : px_cod 52 31 = some (.areturn, 1, [], 0) := rfl
theorem k53_0 : px_cod 53 0 = some ((.aload_n 0), 1, [], 0) := rfl
theorem k53_1 : px_cod 53 1 = some ((.getfield 35), 3, [91, 4, 0, 0], 6) := rfl
theorem k53_4 : px_cod 53 4 = some ((.ifCond .lt 27), 3, [31], 0) := rfl
theorem k53_7 : px_cod 53 7 = some ((.aload_n 0), 1, [], 0) := rfl
theorem k53_8 : px_cod 53 8 = some ((.getfield 35), 3, [91, 4, 0, 0], 6) := rfl
theorem k53_11 : px_cod 53 11 = some ((.aload_n 0), 1, [], 0) := rfl
theorem k53_12 : px_cod 53 12 = some ((.getfield 62), 3, [113, 4, 4, 1], 14) := rfl
theorem k53_15 : px_cod 53 15 = some (.arraylength, 1, [], 0) := rfl
theorem k53_16 : px_cod 53 16 = some ((.if_icmp .ge 15), 3, [31], 0) := rfl
theorem k53_19 : px_cod 53 19 = some ((.aload_n 0), 1, [], 0) := rfl
theorem k53_20 : px_cod 53 20 = some ((.getfield 62), 3, [113, 4, 4, 1], 14) := rfl
theorem k53_23 : px_cod 53 23 = some ((.aload_n 0), 1, [], 0) := rfl
theorem k53_24 : px_cod 53 24 = some ((.getfield 35), 3, [91, 4, 0, 0], 6) := rfl
theorem k53_27 : px_cod 53 27 = some (.aaload, 1, [], 0) := rfl
theorem k53_28 : px_cod 53 28 = some ((.goto 4), 3, [32], 0) := rfl
theorem k53_31 : px_cod 53 31 = some (.aconst_null, 1, [], 0) := rfl
theorem k53_32 : px_cod 53 32 = some (.areturn, 1, [], 0) := rfl
theorem k54_0 : px_cod 54 0 = some ((.aload_n 0), 1, [], 0) := rfl
theorem k54_1 : px_cod 54 1 = some ((.getfield 35), 3, [91, 4, 0, 0], 6) := rfl
theorem k54_4 : px_cod 54 4 = some ((.istore_n 1), 1, [], 1) := rfl
theorem k54_5 : px_cod 54 5 = some ((.aload_n 0), 1, [], 0) := rfl
theorem k54_6 : px_cod 54 6 = some (.dup, 1, [], 0) := rfl
theorem k54_7 : px_cod 54 7 = some ((.getfield 35), 3, [91, 4, 0, 0], 6) := rfl
theorem k54_10 : px_cod 54 10 = some ((.iconst 1), 1, [], 1) := rfl
theorem k54_11 : px_cod 54 11 = some (.iadd, 1, [], 0) := rfl
theorem k54_12 : px_cod 54 12 = some ((.putfield 35), 3, [91, 4, 0, 0], 6) := rfl
theorem k54_15 : px_cod 54 15 = some ((.aload_n 0), 1, [], 0) := rfl
theorem k54_16 : px_cod 54 16 = some ((.iload_n 1), 1, [], 1) := rfl
theorem k54_17 : px_cod 54 17 = some ((.invokevirtual 76), 3, [0, 29, 52], 0) := rfl
theorem k54_20 : px_cod 54 20 = some ((.astore_n 2), 1, [], 2) := rfl
theorem k54_21 : px_cod 54 21 = some ((.aload_n 2), 1, [], 2) := rfl
theorem k54_22 : px_cod 54 22 = some ((.ifnonnull 5), 3, [27], 0) := rfl
theorem k54_25 : px_cod 54 25 = some ((.iconst (-1)), 1, [], (-1)) := rfl
theorem k54_26 : px_cod 54 26 = some (.ireturn, 1, [], 0) := rfl
theorem k54_27 : px_cod 54 27 = some ((.iload_n 1), 1, [], 1) := rfl
theorem k54_28 : px_cod 54 28 = some ((.istore_n 3), 1, [], 3) := rfl
theorem k54_29 : px_cod 54 29 = some ((.iload_n 1), 1, [], 1) := rfl
theorem k54_30 : px_cod 54 30 = some ((.istore 4), 2, [], 4) := rfl
theorem k54_32 : px_cod 54 32 = some ((.iload 4), 2, [], 4) := rfl
theorem k54_34 : px_cod 54 34 = some ((.ifCond .le 71), 3, [105], 0) := rfl
theorem k54_37 : px_cod 54 37 = some ((.aload_n 0), 1, [], 0) := rfl
theorem k54_38 : px_cod 54 38 = some ((.aload_n 0), 1, [], 0) := rfl
theorem k54_39 : px_cod 54 39 = some ((.getfield 57), 3, [110, 4, 4, 1], 13) := rfl
theorem k54_42 : px_cod 54 42 = some ((.iload 4), 2, [], 4) := rfl
theorem k54_44 : px_cod 54 44 = some ((.iconst 1), 1, [], 1) := rfl
theorem k54_45 : px_cod 54 45 = some (.isub, 1, [], 0) := rfl
theorem k54_46 : px_cod 54 46 = some ((.invokestatic 80), 3, [0, 30, 33], 0) := rfl
theorem k54_49 : px_cod 54 49 = some ((.invokevirtual 76), 3, [0, 29, 52], 0) := rfl
theorem k54_52 : px_cod 54 52 = some ((.astore 5), 2, [], 5) := rfl
theorem k54_54 : px_cod 54 54 = some ((.aload 5), 2, [], 5) := rfl
theorem k54_56 : px_cod 54 56 = some ((.ifnull 49), 3, [105], 0) := rfl
theorem k54_59 : px_cod 54 59 = some ((.aload 5), 2, [], 5) := rfl
theorem k54_61 : px_cod 54 61 = some ((.getfield 84), 3, [48, 3, 0, 0], 0) := rfl
theorem k54_64 : px_cod 54 64 = some ((.aload_n 2), 1, [], 2) := rfl
theorem k54_65 : px_cod 54 65 = some ((.getfield 84), 3, [48, 3, 0, 0], 0) := rfl
theorem k54_68 : px_cod 54 68 = some ((.if_icmp .lt 6), 3, [74], 0) := rfl
theorem k54_71 : px_cod 54 71 = some ((.goto 34), 3, [105], 0) := rfl
theorem k54_74 : px_cod 54 74 = some ((.aload_n 0), 1, [], 0) := rfl
theorem k54_75 : px_cod 54 75 = some ((.getfield 57), 3, [110, 4, 4, 1], 13) := rfl
theorem k54_78 : px_cod 54 78 = some ((.iload 4), 2, [], 4) := rfl
theorem k54_80 : px_cod 54 80 = some ((.aload_n 0), 1, [], 0) := rfl
theorem k54_81 : px_cod 54 81 = some ((.getfield 57), 3, [110, 4, 4, 1], 13) := rfl
theorem k54_84 : px_cod 54 84 = some ((.iload 4), 2, [], 4) := rfl
theorem k54_86 : px_cod 54 86 = some ((.iconst 1), 1, [], 1) := rfl
theorem k54_87 : px_cod 54 87 = some (.isub, 1, [], 0) := rfl
theorem k54_88 : px_cod 54 88 = some ((.invokestatic 80), 3, [0, 30, 33], 0) := rfl
theorem k54_91 : px_cod 54 91 = some ((.invokestatic 87), 3, [0, 24, 34], 0) := rfl
theorem k54_94 : px_cod 54 94 = some ((.iload 4), 2, [], 4) := rfl
theorem k54_96 : px_cod 54 96 = some ((.iconst 1), 1, [], 1) := rfl
theorem k54_97 : px_cod 54 97 = some (.isub, 1, [], 0) := rfl
theorem k54_98 : px_cod 54 98 = some ((.istore_n 3), 1, [], 3) := rfl
theorem k54_99 : px_cod 54 99 = some ((.iinc 4 (-1)), 3, [4], (-1)) := rfl
theorem k54_102 : px_cod 54 102 = some ((.goto (-70)), 3, [32], 0) := rfl
theorem k54_105 : px_cod 54 105 = some ((.aload_n 0), 1, [], 0) := rfl
theorem k54_106 : px_cod 54 106 = some ((.getfield 57), 3, [110, 4, 4, 1], 13) := rfl
theorem k54_109 : px_cod 54 109 = some ((.iload_n 3), 1, [], 3) := rfl
theorem k54_110 : px_cod 54 110 = some ((.iload_n 1), 1, [], 1) := rfl
theorem k54_111 : px_cod 54 111 = some ((.invokestatic 87), 3, [0, 24, 34], 0) := rfl
theorem k54_114 : px_cod 54 114 = some ((.iload_n 1), 1, [], 1) := rfl
theorem k54_115 : px_cod 54 115 = some (.ireturn, 1, [], 0) := rfl
theorem k55_0 : px_cod 55 0 = some ((.aload_n 0), 1, [], 0) := rfl
theorem k55_1 : px_cod 55 1 = some ((.getfield 47), 3, [103, 4, 4, 1], 10) := rfl
theorem k55_4 : px_cod 55 4 = some ((.aload_n 0), 1, [], 0) := rfl
theorem k55_5 : px_cod 55 5 = some ((.getfield 32), 3, [87, 4, 0, 0], 5) := rfl
theorem k55_8 : px_cod 55 8 = some ((.iload_n 1), 1, [], 1) := rfl
theorem k55_9 : px_cod 55 9 = some ((.invokestatic 87), 3, [0, 24, 34], 0) := rfl
theorem k55_12 : px_cod 55 12 = some ((.aload_n 0), 1, [], 0) := rfl
theorem k55_13 : px_cod 55 13 = some ((.getfield 51), 3, [104, 4, 4, 1], 11) := rfl
theorem k55_16 : px_cod 55 16 = some ((.aload_n 0), 1, [], 0) := rfl
theorem k55_17 : px_cod 55 17 = some ((.getfield 32), 3, [87, 4, 0, 0], 5) := rfl
theorem k55_20 : px_cod 55 20 = some ((.iload_n 2), 1, [], 2) := rfl
theorem k55_21 : px_cod 55 21 = some ((.invokestatic 87), 3, [0, 24, 34], 0) := rfl
theorem k55_24 : px_cod 55 24 = some ((.aload_n 0), 1, [], 0) := rfl
theorem k55_25 : px_cod 55 25 = some (.dup, 1, [], 0) := rfl
theorem k55_26 : px_cod 55 26 = some ((.getfield 32), 3, [87, 4, 0, 0], 5) := rfl
theorem k55_29 : px_cod 55 29 = some ((.iconst 1), 1, [], 1) := rfl
theorem k55_30 : px_cod 55 30 = some (.iadd, 1, [], 0) := rfl
theorem k55_31 : px_cod 55 31 = some ((.putfield 32), 3, [87, 4, 0, 0], 5) := rfl
theorem k55_34 : px_cod 55 34 = some ((.aload_n 0), 1, [], 0) := rfl
theorem k55_35 : px_cod 55 35 = some ((.getfield 32), 3, [87, 4, 0, 0], 5) := rfl
theorem k55_38 : px_cod 55 38 = some ((.iconst 1), 1, [], 1) := rfl
theorem k55_39 : px_cod 55 39 = some (.isub, 1, [], 0) := rfl
theorem k55_40 : px_cod 55 40 = some (.ireturn, 1, [], 0) := rfl
theorem k56_0 : px_cod 56 0 = some ((.aload_n 0), 1, [], 0) := rfl
theorem k56_1 : px_cod 56 1 = some ((.getfield 47), 3, [103, 4, 4, 1], 10) := rfl
theorem k56_4 : px_cod 56 4 = some ((.iload_n 1), 1, [], 1) := rfl
theorem k56_5 : px_cod 56 5 = some ((.invokestatic 80), 3, [0, 30, 33], 0) := rfl
theorem k56_8 : px_cod 56 8 = some (.ireturn, 1, [], 0) := rfl
theorem k57_0 : px_cod 57 0 = some ((.iconst 0), 1, [], 0) := rfl
theorem k57_1 : px_cod 57 1 = some ((.istore_n 1), 1, [], 1) := rfl
theorem k57_2 : px_cod 57 2 = some ((.iconst 0), 1, [], 0) := rfl
theorem k57_3 : px_cod 57 3 = some ((.istore_n 2), 1, [], 2) := rfl
theorem k57_4 : px_cod 57 4 = some ((.iload_n 2), 1, [], 2) := rfl
theorem k57_5 : px_cod 57 5 = some ((.aload_n 0), 1, [], 0) := rfl
theorem k57_6 : px_cod 57 6 = some ((.getfield 35), 3, [91, 4, 0, 0], 6) := rfl
theorem k57_9 : px_cod 57 9 = some ((.if_icmp .ge 32), 3, [41], 0) := rfl
theorem k57_12 : px_cod 57 12 = some ((.aload_n 0), 1, [], 0) := rfl
theorem k57_13 : px_cod 57 13 = some ((.iload_n 2), 1, [], 2) := rfl
theorem k57_14 : px_cod 57 14 = some ((.invokevirtual 76), 3, [0, 29, 52], 0) := rfl
theorem k57_17 : px_cod 57 17 = some ((.astore_n 3), 1, [], 3) := rfl
theorem k57_18 : px_cod 57 18 = some ((.aload_n 3), 1, [], 3) := rfl
theorem k57_19 : px_cod 57 19 = some ((.ifnull 16), 3, [35], 0) := rfl
theorem k57_22 : px_cod 57 22 = some ((.aload_n 3), 1, [], 3) := rfl
theorem k57_23 : px_cod 57 23 = some ((.getfield 91), 3, [70, 3, 1, 0], 8) := rfl
theorem k57_26 : px_cod 57 26 = some ((.ifCond .eq 9), 3, [35], 0) := rfl
theorem k57_29 : px_cod 57 29 = some ((.iload_n 1), 1, [], 1) := rfl
theorem k57_30 : px_cod 57 30 = some ((.iconst 1), 1, [], 1) := rfl
theorem k57_31 : px_cod 57 31 = some ((.iload_n 2), 1, [], 2) := rfl
theorem k57_32 : px_cod 57 32 = some (.ishl, 1, [], 0) := rfl
theorem k57_33 : px_cod 57 33 = some (.ior, 1, [], 0) := rfl
theorem k57_34 : px_cod 57 34 = some ((.istore_n 1), 1, [], 1) := rfl
theorem k57_35 : px_cod 57 35 = some ((.iinc 2 1), 3, [2], 1) := rfl
theorem k57_38 : px_cod 57 38 = some ((.goto (-34)), 3, [4], 0) := rfl
theorem k57_41 : px_cod 57 41 = some ((.iload_n 1), 1, [], 1) := rfl
theorem k57_42 : px_cod 57 42 = some (.ireturn, 1, [], 0) := rfl
theorem k58_0 : px_cod 58 0 = some ((.iload_n 1), 1, [], 1) := rfl
theorem k58_1 : px_cod 58 1 = some ((.tableswitch 126 0 10 #[59, 67, 75, 83, 88, 93, 98, 103, 108, 113, 118]), 59, [127, 60, 68, 76, 84, 89, 94, 99, 104, 109, 114, 119], 0) := rfl
theorem k58_60 : px_cod 58 60 = some ((.aload_n 0), 1, [], 0) := rfl
theorem k58_61 : px_cod 58 61 = some ((.getfield 71), 3, [73, 4, 4, 1], 0) := rfl
theorem k58_64 : px_cod 58 64 = some ((.getfield 95), 3, [32, 1, 0, 1], 0) := rfl
theorem k58_67 : px_cod 58 67 = some (.ireturn, 1, [], 0) := rfl
theorem k58_68 : px_cod 58 68 = some ((.aload_n 0), 1, [], 0) := rfl
theorem k58_69 : px_cod 58 69 = some ((.getfield 71), 3, [73, 4, 4, 1], 0) := rfl
theorem k58_72 : px_cod 58 72 = some ((.getfield 98), 3, [34, 1, 0, 1], 1) := rfl
theorem k58_75 : px_cod 58 75 = some (.ireturn, 1, [], 0) := rfl
theorem k58_76 : px_cod 58 76 = some ((.aload_n 0), 1, [], 0) := rfl
theorem k58_77 : px_cod 58 77 = some ((.getfield 71), 3, [73, 4, 4, 1], 0) := rfl
theorem k58_80 : px_cod 58 80 = some ((.getfield 101), 3, [46, 1, 0, 0], 8) := rfl
theorem k58_83 : px_cod 58 83 = some (.ireturn, 1, [], 0) := rfl
theorem k58_84 : px_cod 58 84 = some ((.aload_n 0), 1, [], 0) := rfl
theorem k58_85 : px_cod 58 85 = some ((.getfield 25), 3, [81, 4, 0, 0], 3) := rfl
theorem k58_88 : px_cod 58 88 = some (.ireturn, 1, [], 0) := rfl
theorem k58_89 : px_cod 58 89 = some ((.aload_n 0), 1, [], 0) := rfl
theorem k58_90 : px_cod 58 90 = some ((.getfield 29), 3, [84, 4, 0, 0], 4) := rfl
theorem k58_93 : px_cod 58 93 = some (.ireturn, 1, [], 0) := rfl
theorem k58_94 : px_cod 58 94 = some ((.aload_n 0), 1, [], 0) := rfl
theorem k58_95 : px_cod 58 95 = some ((.getfield 32), 3, [87, 4, 0, 0], 5) := rfl
theorem k58_98 : px_cod 58 98 = some (.ireturn, 1, [], 0) := rfl
theorem k58_99 : px_cod 58 99 = some ((.aload_n 0), 1, [], 0) := rfl
theorem k58_100 : px_cod 58 100 = some ((.getfield 35), 3, [91, 4, 0, 0], 6) := rfl
theorem k58_103 : px_cod 58 103 = some (.ireturn, 1, [], 0) := rfl
theorem k58_104 : px_cod 58 104 = some ((.aload_n 0), 1, [], 0) := rfl
theorem k58_105 : px_cod 58 105 = some ((.getfield 38), 3, [95, 4, 0, 0], 7) := rfl
theorem k58_108 : px_cod 58 108 = some (.ireturn, 1, [], 0) := rfl
theorem k58_109 : px_cod 58 109 = some ((.aload_n 0), 1, [], 0) := rfl
theorem k58_110 : px_cod 58 110 = some ((.getfield 41), 3, [97, 4, 0, 0], 8) := rfl
theorem k58_113 : px_cod 58 113 = some (.ireturn, 1, [], 0) := rfl
theorem k58_114 : px_cod 58 114 = some ((.aload_n 0), 1, [], 0) := rfl
theorem k58_115 : px_cod 58 115 = some ((.getfield 44), 3, [100, 4, 0, 0], 9) := rfl
theorem k58_118 : px_cod 58 118 = some (.ireturn, 1, [], 0) := rfl
theorem k58_119 : px_cod 58 119 = some ((.aload_n 0), 1, [], 0) := rfl
theorem k58_120 : px_cod 58 120 = some ((.getfield 12), 3, [74, 4, 4, 1], 1) := rfl
theorem k58_123 : px_cod 58 123 = some ((.getfield 104), 3, [1, 2, 0, 0], 0) := rfl
theorem k58_126 : px_cod 58 126 = some (.ireturn, 1, [], 0) := rfl
theorem k58_127 : px_cod 58 127 = some ((.sipush (-1000)), 3, [], (-1000)) := rfl
theorem k58_130 : px_cod 58 130 = some (.ireturn, 1, [], 0) := rfl
theorem k59_0 : px_cod 59 0 = some ((.iload_n 1), 1, [], 1) := rfl
theorem k59_1 : px_cod 59 1 = some ((.bipush 30), 2, [], 30) := rfl
theorem k59_3 : px_cod 59 3 = some ((.if_icmp .ge 10), 3, [13], 0) := rfl
theorem k59_6 : px_cod 59 6 = some ((.iload_n 1), 1, [], 1) := rfl
theorem k59_7 : px_cod 59 7 = some ((.bipush 20), 2, [], 20) := rfl
theorem k59_9 : px_cod 59 9 = some (.isub, 1, [], 0) := rfl
theorem k59_10 : px_cod 59 10 = some ((.goto 7), 3, [17], 0) := rfl
theorem k59_13 : px_cod 59 13 = some ((.iload_n 1), 1, [], 1) := rfl
theorem k59_14 : px_cod 59 14 = some ((.bipush 30), 2, [], 30) := rfl
theorem k59_16 : px_cod 59 16 = some (.isub, 1, [], 0) := rfl
theorem k59_17 : px_cod 59 17 = some ((.istore_n 2), 1, [], 2) := rfl
theorem k59_18 : px_cod 59 18 = some ((.iload_n 2), 1, [], 2) := rfl
theorem k59_19 : px_cod 59 19 = some ((.ifCond .lt 11), 3, [30], 0) := rfl
theorem k59_22 : px_cod 59 22 = some ((.iload_n 2), 1, [], 2) := rfl
theorem k59_23 : px_cod 59 23 = some ((.aload_n 0), 1, [], 0) := rfl
theorem k59_24 : px_cod 59 24 = some ((.getfield 32), 3, [87, 4, 0, 0], 5) := rfl
theorem k59_27 : px_cod 59 27 = some ((.if_icmp .lt 7), 3, [34], 0) := rfl
theorem k59_30 : px_cod 59 30 = some ((.sipush (-1000)), 3, [], (-1000)) := rfl
theorem k59_33 : px_cod 59 33 = some (.ireturn, 1, [], 0) := rfl
theorem k59_34 : px_cod 59 34 = some ((.iload_n 1), 1, [], 1) := rfl
theorem k59_35 : px_cod 59 35 = some ((.bipush 30), 2, [], 30) := rfl
theorem k59_37 : px_cod 59 37 = some ((.if_icmp .ge 14), 3, [51], 0) := rfl
theorem k59_40 : px_cod 59 40 = some ((.aload_n 0), 1, [], 0) := rfl
theorem k59_41 : px_cod 59 41 = some ((.getfield 47), 3, [103, 4, 4, 1], 10) := rfl
theorem k59_44 : px_cod 59 44 = some ((.iload_n 2), 1, [], 2) := rfl
theorem k59_45 : px_cod 59 45 = some ((.invokestatic 80), 3, [0, 30, 33], 0) := rfl
theorem k59_48 : px_cod 59 48 = some ((.goto 11), 3, [59], 0) := rfl
theorem k59_51 : px_cod 59 51 = some ((.aload_n 0), 1, [], 0) := rfl
theorem k59_52 : px_cod 59 52 = some ((.getfield 51), 3, [104, 4, 4, 1], 11) := rfl
theorem k59_55 : px_cod 59 55 = some ((.iload_n 2), 1, [], 2) := rfl
theorem k59_56 : px_cod 59 56 = some ((.invokestatic 80), 3, [0, 30, 33], 0) := rfl
theorem k59_59 : px_cod 59 59 = some (.ireturn, 1, [], 0) := rfl
theorem k60_0 : px_cod 60 0 = some ((.iload_n 1), 1, [], 1) := rfl
theorem k60_1 : px_cod 60 1 = some ((.bipush 50), 2, [], 50) := rfl
theorem k60_3 : px_cod 60 3 = some ((.if_icmp .ge 27), 3, [30], 0) := rfl
theorem k60_6 : px_cod 60 6 = some ((.aload_n 0), 1, [], 0) := rfl
theorem k60_7 : px_cod 60 7 = some ((.iload_n 1), 1, [], 1) := rfl
theorem k60_8 : px_cod 60 8 = some ((.bipush 40), 2, [], 40) := rfl
theorem k60_10 : px_cod 60 10 = some (.isub, 1, [], 0) := rfl
theorem k60_11 : px_cod 60 11 = some ((.invokevirtual 76), 3, [0, 29, 52], 0) := rfl
theorem k60_14 : px_cod 60 14 = some ((.astore_n 2), 1, [], 2) := rfl
theorem k60_15 : px_cod 60 15 = some ((.aload_n 2), 1, [], 2) := rfl
theorem k60_16 : px_cod 60 16 = some ((.ifnonnull 9), 3, [25], 0) := rfl
theorem k60_19 : px_cod 60 19 = some ((.sipush (-1000)), 3, [], (-1000)) := rfl
theorem k60_22 : px_cod 60 22 = some ((.goto 7), 3, [29], 0) := rfl
theorem k60_25 : px_cod 60 25 = some ((.aload_n 2), 1, [], 2) := rfl
theorem k60_26 : px_cod 60 26 = some ((.getfield 84), 3, [48, 3, 0, 0], 0) := rfl
theorem k60_29 : px_cod 60 29 = some (.ireturn, 1, [], 0) := rfl
theorem k60_30 : px_cod 60 30 = some ((.iload_n 1), 1, [], 1) := rfl
theorem k60_31 : px_cod 60 31 = some ((.bipush 60), 2, [], 60) := rfl
theorem k60_33 : px_cod 60 33 = some ((.if_icmp .ge 27), 3, [60], 0) := rfl
theorem k60_36 : px_cod 60 36 = some ((.aload_n 0), 1, [], 0) := rfl
theorem k60_37 : px_cod 60 37 = some ((.iload_n 1), 1, [], 1) := rfl
theorem k60_38 : px_cod 60 38 = some ((.bipush 50), 2, [], 50) := rfl
theorem k60_40 : px_cod 60 40 = some (.isub, 1, [], 0) := rfl
theorem k60_41 : px_cod 60 41 = some ((.invokevirtual 76), 3, [0, 29, 52], 0) := rfl
theorem k60_44 : px_cod 60 44 = some ((.astore_n 2), 1, [], 2) := rfl
theorem k60_45 : px_cod 60 45 = some ((.aload_n 2), 1, [], 2) := rfl
theorem k60_46 : px_cod 60 46 = some ((.ifnonnull 9), 3, [55], 0) := rfl
theorem k60_49 : px_cod 60 49 = some ((.sipush (-1000)), 3, [], (-1000)) := rfl
theorem k60_52 : px_cod 60 52 = some ((.goto 7), 3, [59], 0) := rfl
theorem k60_55 : px_cod 60 55 = some ((.aload_n 2), 1, [], 2) := rfl
theorem k60_56 : px_cod 60 56 = some ((.getfield 107), 3, [68, 3, 0, 0], 7) := rfl
theorem k60_59 : px_cod 60 59 = some (.ireturn, 1, [], 0) := rfl
theorem k60_60 : px_cod 60 60 = some ((.aload_n 0), 1, [], 0) := rfl
theorem k60_61 : px_cod 60 61 = some ((.iload_n 1), 1, [], 1) := rfl
theorem k60_62 : px_cod 60 62 = some ((.bipush 60), 2, [], 60) := rfl
theorem k60_64 : px_cod 60 64 = some (.isub, 1, [], 0) := rfl
theorem k60_65 : px_cod 60 65 = some ((.invokevirtual 76), 3, [0, 29, 52], 0) := rfl
theorem k60_68 : px_cod 60 68 = some ((.astore_n 2), 1, [], 2) := rfl
theorem k60_69 : px_cod 60 69 = some ((.aload_n 2), 1, [], 2) := rfl
theorem k60_70 : px_cod 60 70 = some ((.ifnonnull 7), 3, [77], 0) := rfl
theorem k60_73 : px_cod 60 73 = some ((.sipush (-1000)), 3, [], (-1000)) := rfl
theorem k60_76 : px_cod 60 76 = some (.ireturn, 1, [], 0) := rfl
theorem k60_77 : px_cod 60 77 = some ((.aload_n 2), 1, [], 2) := rfl
theorem k60_78 : px_cod 60 78 = some ((.getfield 91), 3, [70, 3, 1, 0], 8) := rfl
theorem k60_81 : px_cod 60 81 = some ((.ifCond .eq 7), 3, [88], 0) := rfl
theorem k60_84 : px_cod 60 84 = some ((.iconst 1), 1, [], 1) := rfl
theorem k60_85 : px_cod 60 85 = some ((.goto 4), 3, [89], 0) := rfl
theorem k60_88 : px_cod 60 88 = some ((.iconst 0), 1, [], 0) := rfl
theorem k60_89 : px_cod 60 89 = some (.ireturn, 1, [], 0) := rfl
theorem k61_0 : px_cod 61 0 = some ((.aload_n 0), 1, [], 0) := rfl
theorem k61_1 : px_cod 61 1 = some ((.getfield 71), 3, [73, 4, 4, 1], 0) := rfl
theorem k61_4 : px_cod 61 4 = some ((.aload_n 1), 1, [], 1) := rfl
theorem k61_5 : px_cod 61 5 = some ((.getfield 71), 3, [73, 4, 4, 1], 0) := rfl
theorem k61_8 : px_cod 61 8 = some ((.invokevirtual 110), 3, [0, 188, 44], 0) := rfl
theorem k61_11 : px_cod 61 11 = some ((.aload_n 0), 1, [], 0) := rfl
theorem k61_12 : px_cod 61 12 = some ((.getfield 12), 3, [74, 4, 4, 1], 1) := rfl
theorem k61_15 : px_cod 61 15 = some ((.aload_n 1), 1, [], 1) := rfl
theorem k61_16 : px_cod 61 16 = some ((.getfield 12), 3, [74, 4, 4, 1], 1) := rfl
theorem k61_19 : px_cod 61 19 = some ((.invokevirtual 114), 3, [0, 190, 47], 0) := rfl
theorem k61_22 : px_cod 61 22 = some ((.aload_n 0), 1, [], 0) := rfl
theorem k61_23 : px_cod 61 23 = some ((.getfield 21), 3, [77, 4, 4, 1], 2) := rfl
theorem k61_26 : px_cod 61 26 = some ((.aload_n 1), 1, [], 1) := rfl
theorem k61_27 : px_cod 61 27 = some ((.getfield 21), 3, [77, 4, 4, 1], 2) := rfl
theorem k61_30 : px_cod 61 30 = some ((.invokevirtual 117), 3, [0, 192, 88], 0) := rfl
theorem k61_33 : px_cod 61 33 = some ((.aload_n 0), 1, [], 0) := rfl
theorem k61_34 : px_cod 61 34 = some ((.aload_n 1), 1, [], 1) := rfl
theorem k61_35 : px_cod 61 35 = some ((.getfield 25), 3, [81, 4, 0, 0], 3) := rfl
theorem k61_38 : px_cod 61 38 = some ((.putfield 25), 3, [81, 4, 0, 0], 3) := rfl
theorem k61_41 : px_cod 61 41 = some ((.aload_n 0), 1, [], 0) := rfl
theorem k61_42 : px_cod 61 42 = some ((.aload_n 1), 1, [], 1) := rfl
theorem k61_43 : px_cod 61 43 = some ((.getfield 29), 3, [84, 4, 0, 0], 4) := rfl
theorem k61_46 : px_cod 61 46 = some ((.putfield 29), 3, [84, 4, 0, 0], 4) := rfl
theorem k61_49 : px_cod 61 49 = some ((.aload_n 0), 1, [], 0) := rfl
theorem k61_50 : px_cod 61 50 = some ((.aload_n 1), 1, [], 1) := rfl
theorem k61_51 : px_cod 61 51 = some ((.getfield 32), 3, [87, 4, 0, 0], 5) := rfl
theorem k61_54 : px_cod 61 54 = some ((.putfield 32), 3, [87, 4, 0, 0], 5) := rfl
theorem k61_57 : px_cod 61 57 = some ((.aload_n 0), 1, [], 0) := rfl
theorem k61_58 : px_cod 61 58 = some ((.aload_n 1), 1, [], 1) := rfl
theorem k61_59 : px_cod 61 59 = some ((.getfield 35), 3, [91, 4, 0, 0], 6) := rfl
theorem k61_62 : px_cod 61 62 = some ((.putfield 35), 3, [91, 4, 0, 0], 6) := rfl
theorem k61_65 : px_cod 61 65 = some ((.aload_n 0), 1, [], 0) := rfl
theorem k61_66 : px_cod 61 66 = some ((.aload_n 1), 1, [], 1) := rfl
theorem k61_67 : px_cod 61 67 = some ((.getfield 38), 3, [95, 4, 0, 0], 7) := rfl
theorem k61_70 : px_cod 61 70 = some ((.putfield 38), 3, [95, 4, 0, 0], 7) := rfl
theorem k61_73 : px_cod 61 73 = some ((.aload_n 0), 1, [], 0) := rfl
theorem k61_74 : px_cod 61 74 = some ((.aload_n 1), 1, [], 1) := rfl
theorem k61_75 : px_cod 61 75 = some ((.getfield 41), 3, [97, 4, 0, 0], 8) := rfl
theorem k61_78 : px_cod 61 78 = some ((.putfield 41), 3, [97, 4, 0, 0], 8) := rfl
theorem k61_81 : px_cod 61 81 = some ((.aload_n 0), 1, [], 0) := rfl
theorem k61_82 : px_cod 61 82 = some ((.aload_n 1), 1, [], 1) := rfl
theorem k61_83 : px_cod 61 83 = some ((.getfield 44), 3, [100, 4, 0, 0], 9) := rfl
theorem k61_86 : px_cod 61 86 = some ((.putfield 44), 3, [100, 4, 0, 0], 9) := rfl
theorem k61_89 : px_cod 61 89 = some ((.aload_n 1), 1, [], 1) := rfl
theorem k61_90 : px_cod 61 90 = some ((.getfield 47), 3, [103, 4, 4, 1], 10) := rfl
theorem k61_93 : px_cod 61 93 = some ((.aload_n 0), 1, [], 0) := rfl
theorem k61_94 : px_cod 61 94 = some ((.getfield 47), 3, [103, 4, 4, 1], 10) := rfl
theorem k61_97 : px_cod 61 97 = some ((.invokestatic 120), 3, [0, 194, 35], 0) := rfl
theorem k61_100 : px_cod 61 100 = some ((.aload_n 1), 1, [], 1) := rfl
theorem k61_101 : px_cod 61 101 = some ((.getfield 51), 3, [104, 4, 4, 1], 11) := rfl
theorem k61_104 : px_cod 61 104 = some ((.aload_n 0), 1, [], 0) := rfl
theorem k61_105 : px_cod 61 105 = some ((.getfield 51), 3, [104, 4, 4, 1], 11) := rfl
theorem k61_108 : px_cod 61 108 = some ((.invokestatic 120), 3, [0, 194, 35], 0) := rfl
theorem k61_111 : px_cod 61 111 = some ((.aload_n 1), 1, [], 1) := rfl
theorem k61_112 : px_cod 61 112 = some ((.getfield 54), 3, [107, 4, 4, 1], 12) := rfl
theorem k61_115 : px_cod 61 115 = some ((.aload_n 0), 1, [], 0) := rfl
theorem k61_116 : px_cod 61 116 = some ((.getfield 54), 3, [107, 4, 4, 1], 12) := rfl
theorem k61_119 : px_cod 61 119 = some ((.invokestatic 120), 3, [0, 194, 35], 0) := rfl
theorem k61_122 : px_cod 61 122 = some ((.aload_n 1), 1, [], 1) := rfl
theorem k61_123 : px_cod 61 123 = some ((.getfield 57), 3, [110, 4, 4, 1], 13) := rfl
theorem k61_126 : px_cod 61 126 = some ((.aload_n 0), 1, [], 0) := rfl
theorem k61_127 : px_cod 61 127 = some ((.getfield 57), 3, [110, 4, 4, 1], 13) := rfl
theorem k61_130 : px_cod 61 130 = some ((.invokestatic 120), 3, [0, 194, 35], 0) := rfl
theorem k61_133 : px_cod 61 133 = some ((.iconst 0), 1, [], 0) := rfl
theorem k61_134 : px_cod 61 134 = some ((.istore_n 2), 1, [], 2) := rfl
theorem k61_135 : px_cod 61 135 = some ((.iload_n 2), 1, [], 2) := rfl
theorem k61_136 : px_cod 61 136 = some ((.aload_n 0), 1, [], 0) := rfl
theorem k61_137 : px_cod 61 137 = some ((.getfield 62), 3, [113, 4, 4, 1], 14) := rfl
theorem k61_140 : px_cod 61 140 = some (.arraylength, 1, [], 0) := rfl
theorem k61_141 : px_cod 61 141 = some ((.if_icmp .ge 51), 3, [192], 0) := rfl
theorem k61_144 : px_cod 61 144 = some ((.iload_n 2), 1, [], 2) := rfl
theorem k61_145 : px_cod 61 145 = some ((.aload_n 1), 1, [], 1) := rfl
theorem k61_146 : px_cod 61 146 = some ((.getfield 62), 3, [113, 4, 4, 1], 14) := rfl
theorem k61_149 : px_cod 61 149 = some (.arraylength, 1, [], 0) := rfl
theorem k61_150 : px_cod 61 150 = some ((.if_icmp .ge 42), 3, [192], 0) := rfl
theorem k61_153 : px_cod 61 153 = some ((.aload_n 0), 1, [], 0) := rfl
theorem k61_154 : px_cod 61 154 = some ((.getfield 62), 3, [113, 4, 4, 1], 14) := rfl
theorem k61_157 : px_cod 61 157 = some ((.iload_n 2), 1, [], 2) := rfl
theorem k61_158 : px_cod 61 158 = some (.aaload, 1, [], 0) := rfl
theorem k61_159 : px_cod 61 159 = some ((.ifnull 27), 3, [186], 0) := rfl
theorem k61_162 : px_cod 61 162 = some ((.aload_n 1), 1, [], 1) := rfl
theorem k61_163 : px_cod 61 163 = some ((.getfield 62), 3, [113, 4, 4, 1], 14) := rfl
theorem k61_166 : px_cod 61 166 = some ((.iload_n 2), 1, [], 2) := rfl
theorem k61_167 : px_cod 61 167 = some (.aaload, 1, [], 0) := rfl
theorem k61_168 : px_cod 61 168 = some ((.ifnull 18), 3, [186], 0) := rfl
theorem k61_171 : px_cod 61 171 = some ((.aload_n 0), 1, [], 0) := rfl
theorem k61_172 : px_cod 61 172 = some ((.getfield 62), 3, [113, 4, 4, 1], 14) := rfl
theorem k61_175 : px_cod 61 175 = some ((.iload_n 2), 1, [], 2) := rfl
theorem k61_176 : px_cod 61 176 = some (.aaload, 1, [], 0) := rfl
theorem k61_177 : px_cod 61 177 = some ((.aload_n 1), 1, [], 1) := rfl
theorem k61_178 : px_cod 61 178 = some ((.getfield 62), 3, [113, 4, 4, 1], 14) := rfl
theorem k61_181 : px_cod 61 181 = some ((.iload_n 2), 1, [], 2) := rfl
theorem k61_182 : px_cod 61 182 = some (.aaload, 1, [], 0) := rfl
theorem k61_183 : px_cod 61 183 = some ((.invokevirtual 124), 3, [0, 195, 50], 0) := rfl
theorem k61_186 : px_cod 61 186 = some ((.iinc 2 1), 3, [2], 1) := rfl
theorem k61_189 : px_cod 61 189 = some ((.goto (-54)), 3, [135], 0) := rfl
theorem k61_192 : px_cod 61 192 = some (.return_, 1, [], 0) := rfl
section PXL
variable {L t : Nat} {r : MR}
-- Bank.isCell ('R19', 'I')
theorem b37_0 (hr : px_hr r) (d : Nat) (i l : MI) (x1 : Int) : px_X d 37 (0, [vR 19, vI x1], []) (px_sh L, i, l, r, t) = if x1 < 0 then some (some (vI 0), (px_sh L, i, l, r, t)) else if (i 19 2) ≤ x1 then some (some (vI 0), (px_sh L, i, l, r, t)) else some (some (vI 1), (px_sh L, i, l, r, t)) := ((xs_ildn k37_0 rfl).trans ((xs_ilt k37_1).trans (px_ite (fun c1 => ((xs_ic k37_16 (by omega)).trans (xs_rz k37_17 rfl (by omega)))) (fun c1 => ((xs_ildn k37_4 rfl).trans ((xs_aldn k37_5 rfl).trans ((xs_get0 k37_6 (px_s19 L) (Nat.le_of_ble_eq_true rfl)).trans ((xs_jge k37_9).trans (px_ite (fun c2 => ((xs_ic k37_16 (by omega)).trans (xs_rz k37_17 rfl (by omega)))) (fun c2 => ((xs_ic k37_12 (by omega)).trans ((xs_goto k37_13).trans (xs_rz k37_17 rfl (by omega))))))))))))))
-- Bank.heightOf ('R19', 'I')
theorem b38_0 (hr : px_hr r) (d : Nat) (i l : MI) (x1 : Int) : px_X (d + 1) 38 (0, [vR 19, vI x1], []) (px_sh L, i, l, r, t) = (px_C d 33 [vR 20, vI x1] (px_sh L, i, l, r, t)).bind (fun q => px_X (d + 1) 38 (px_psh (8, [vR 19, vI x1], []) q.1) q.2) := ((xs_aldn k38_0 rfl).trans ((xs_get4 k38_1 (px_s19 L) (Nat.le_of_ble_eq_true rfl) (px_r19_6 hr)).trans ((xs_ildn k38_4 rfl).trans (xs_callsB k38_5 (as := [vR 20, vI x1]) rfl rfl (Nat.le_of_ble_eq_true rfl) (Nat.le_of_ble_eq_true rfl) (Nat.le_of_ble_eq_true rfl)))))
theorem b38_8 (hr : px_hr r) (d : Nat) (i l : MI) (x1 : Int) (xs0 : Int) : px_X d 38 (8, [vR 19, vI x1], [vI xs0]) (px_sh L, i, l, r, t) = some (some (vI xs0), (px_sh L, i, l, r, t)) := (xs_ri k38_8 rfl)
-- Bank.isShore ('R19', 'I')
theorem b39_0 (hr : px_hr r) (d : Nat) (i l : MI) (x1 : Int) : px_X (d + 1) 39 (0, [vR 19, vI x1], []) (px_sh L, i, l, r, t) = (px_C d 37 [vR 19, vI x1] (px_sh L, i, l, r, t)).bind (fun q => px_X (d + 1) 39 (px_psh (5, [vR 19, vI x1], []) q.1) q.2) := ((xs_aldn k39_0 rfl).trans ((xs_ildn k39_1 rfl).trans (xs_callvB k39_2 (as := [vI x1]) rfl rfl (Nat.le_of_ble_eq_true rfl) (Nat.le_of_ble_eq_true rfl) (Nat.le_of_ble_eq_true rfl) (px_s19 L) (Nat.le_of_ble_eq_true rfl))))
theorem b39_5 (hr : px_hr r) (d : Nat) (i l : MI) (x1 : Int) (xs0 : Int) : px_X d 39 (5, [vR 19, vI x1], [vI xs0]) (px_sh L, i, l, r, t) = if xs0 = 0 then some (some (vI 0), (px_sh L, i, l, r, t)) else if (px_cmp (px_land (px_lshr (l 19 7) x1) 1) 1) = 0 then some (some (vI 1), (px_sh L, i, l, r, t)) else some (some (vI 0), (px_sh L, i, l, r, t)) := ((xs_ieq k39_5).trans (px_ite (fun c1 => ((xs_ic k39_25 (by omega)).trans (xs_rz k39_26 rfl (by omega)))) (fun c1 => ((xs_aldn k39_8 rfl).trans ((xs_get3 k39_9 (px_s19 L) (Nat.le_of_ble_eq_true rfl)).trans ((xs_ildn k39_12 rfl).trans ((xs_lshr k39_13).trans ((xs_lc1 k39_14).trans ((xs_land k39_15).trans ((xs_lc1 k39_16).trans ((xs_lcmp k39_17).trans ((xs_ine k39_18).trans (px_ite (fun c2 => ((xs_ic k39_21 (by omega)).trans ((xs_goto k39_22).trans (xs_rz k39_26 rfl (by omega))))) (fun c2 => ((xs_ic k39_25 (by omega)).trans (xs_rz k39_26 rfl (by omega)))))))))))))))))
-- Bank.become ('R19', 'I', 'I', 'I')
theorem b40_0 (hr : px_hr r) (d : Nat) (i l : MI) (x1 : Int) (x2 : Int) (x3 : Int) : px_X (d + 1) 40 (0, [vR 19, vI x1, vI x2, vI x3], []) (px_sh L, i, l, r, t) = (px_C d 34 [vR 20, vI x1, vI x2] (px_sh L, i, l, r, t)).bind (fun q => px_X (d + 1) 40 (px_psh (9, [vR 19, vI x1, vI x2, vI x3], []) q.1) q.2) := ((xs_aldn k40_0 rfl).trans ((xs_get4 k40_1 (px_s19 L) (Nat.le_of_ble_eq_true rfl) (px_r19_6 hr)).trans ((xs_ildn k40_4 rfl).trans ((xs_ildn k40_5 rfl).trans (xs_callsB k40_6 (as := [vR 20, vI x1, vI x2]) rfl rfl (Nat.le_of_ble_eq_true rfl) (Nat.le_of_ble_eq_true rfl) (Nat.le_of_ble_eq_true rfl))))))
theorem b40_9 (hr : px_hr r) (d : Nat) (i l : MI) (x1 : Int) (x2 : Int) (x3 : Int) : px_X d 40 (9, [vR 19, vI x1, vI x2, vI x3], []) (px_sh L, i, l, r, t) = if x3 = 0 then some (none, (px_sh L, i, (px_up l 19 7 (px_land (l 19 7) (px_lxor (px_lshl 1 x1) (-1)))), r, t)) else some (none, (px_sh L, i, (px_up (px_up l 19 7 (px_land (l 19 7) (px_lxor (px_lshl 1 x1) (-1)))) 19 7 (px_lor (px_land (l 19 7) (px_lxor (px_lshl 1 x1) (-1))) (px_lshl 1 x1))), r, t)) := ((xs_aldn k40_9 rfl).trans ((xs_aldn k40_10 rfl).trans ((xs_get3 k40_11 (px_s19 L) (Nat.le_of_ble_eq_true rfl)).trans ((xs_lc1 k40_14).trans ((xs_ildn k40_15 rfl).trans ((xs_lshl k40_16).trans ((xs_ldc2 k40_17).trans ((xs_lxor k40_20).trans ((xs_land k40_21).trans ((xs_put3 k40_22 (Or.inl rfl) (px_s19 L) (Nat.le_of_ble_eq_true rfl)).trans ((xs_ildn k40_25 rfl).trans ((xs_ieq k40_26).trans (px_ite (fun c1 => (xs_rv k40_41 rfl)) (fun c1 => ((xs_aldn k40_29 rfl).trans ((xs_aldn k40_30 rfl).trans ((xs_get3 k40_31 (px_s19 L) (Nat.le_of_ble_eq_true rfl)).trans ((xs_lc1 k40_34).trans ((xs_ildn k40_35 rfl).trans ((xs_lshl k40_36).trans ((xs_lor k40_37).trans ((xs_put3 k40_38 (Or.inl rfl) (px_s19 L) (Nat.le_of_ble_eq_true rfl)).trans (xs_rv k40_41 rfl)))))))))))))))))))))))
-- Bank.beside ('R19', 'I', 'I')
theorem b41_0 (hr : px_hr r) (d : Nat) (i l : MI) (x1 : Int) (x2 : Int) : px_X (d + 1) 41 (0, [vR 19, vI x1, vI x2], []) (px_sh L, i, l, r, t) = (px_C d 37 [vR 19, vI x1] (px_sh L, i, l, r, t)).bind (fun q => px_X (d + 1) 41 (px_psh (5, [vR 19, vI x1, vI x2], []) q.1) q.2) := ((xs_aldn k41_0 rfl).trans ((xs_ildn k41_1 rfl).trans (xs_callvB k41_2 (as := [vI x1]) rfl rfl (Nat.le_of_ble_eq_true rfl) (Nat.le_of_ble_eq_true rfl) (Nat.le_of_ble_eq_true rfl) (px_s19 L) (Nat.le_of_ble_eq_true rfl))))
theorem b41_5 (hr : px_hr r) (d : Nat) (i l : MI) (x1 : Int) (x2 : Int) (xs0 : Int) : px_X d 41 (5, [vR 19, vI x1, vI x2], [vI xs0]) (px_sh L, i, l, r, t) = if xs0 = 0 then some (some (vI (-1)), (px_sh L, i, l, r, t)) else if x2 = 0 then if x1 < (i 19 0) then some (some (vI (-1)), (px_sh L, i, l, r, t)) else some (some (vI (px_w32 (x1 - (i 19 0)))), (px_sh L, i, l, r, t)) else if x2 = 1 then if (px_cmp (px_land (px_lshr (l 19 4) x1) 1) 1) = 0 then some (some (vI (-1)), (px_sh L, i, l, r, t)) else some (some (vI (px_w32 (x1 - 1))), (px_sh L, i, l, r, t)) else if x2 = 2 then if (px_cmp (px_land (px_lshr (l 19 5) x1) 1) 1) = 0 then some (some (vI (-1)), (px_sh L, i, l, r, t)) else some (some (vI (px_w32 (x1 + 1))), (px_sh L, i, l, r, t)) else if x2 = 3 then if (i 19 2) ≤ (px_w32 (x1 + (i 19 0))) then some (some (vI (-1)), (px_sh L, i, l, r, t)) else some (some (vI (px_w32 (x1 + (i 19 0)))), (px_sh L, i, l, r, t)) else some (some (vI (-1)), (px_sh L, i, l, r, t)) := ((xs_ine k41_5).trans (px_ite (fun c1 => ((xs_ic k41_8 (by omega)).trans (xs_ri k41_9 rfl))) (fun c1 => ((xs_ildn k41_10 rfl).trans (px_swi (fun c2 => ((xs_tsw k41_11 (tg := 40) (by rw [c2]; omega) (by rw [c2]; rfl)).trans ((xs_ildn k41_40 rfl).trans ((xs_aldn k41_41 rfl).trans ((xs_get0 k41_42 (px_s19 L) (Nat.le_of_ble_eq_true rfl)).trans ((xs_jlt k41_45).trans (px_ite (fun c3 => ((xs_ic k41_57 (by omega)).trans (xs_ri k41_58 rfl))) (fun c3 => ((xs_ildn k41_48 rfl).trans ((xs_aldn k41_49 rfl).trans ((xs_get0 k41_50 (px_s19 L) (Nat.le_of_ble_eq_true rfl)).trans ((xs_isub k41_53).trans ((xs_goto k41_54).trans (xs_ri k41_58 rfl)))))))))))))) (fun c2 => (px_swi (fun c3 => ((xs_tsw k41_11 (tg := 59) (by rw [c3]; omega) (by rw [c3]; rfl)).trans ((xs_aldn k41_59 rfl).trans ((xs_get3 k41_60 (px_s19 L) (Nat.le_of_ble_eq_true rfl)).trans ((xs_ildn k41_63 rfl).trans ((xs_lshr k41_64).trans ((xs_lc1 k41_65).trans ((xs_land k41_66).trans ((xs_lc1 k41_67).trans ((xs_lcmp k41_68).trans ((xs_ine k41_69).trans (px_ite (fun c4 => ((xs_ic k41_72 (by omega)).trans ((xs_goto k41_73).trans (xs_ri k41_79 rfl)))) (fun c4 => ((xs_ildn k41_76 rfl).trans ((xs_ic k41_77 (by omega)).trans ((xs_isub k41_78).trans (xs_ri k41_79 rfl))))))))))))))))) (fun c3 => (px_swi (fun c4 => ((xs_tsw k41_11 (tg := 80) (by rw [c4]; omega) (by rw [c4]; rfl)).trans ((xs_aldn k41_80 rfl).trans ((xs_get3 k41_81 (px_s19 L) (Nat.le_of_ble_eq_true rfl)).trans ((xs_ildn k41_84 rfl).trans ((xs_lshr k41_85).trans ((xs_lc1 k41_86).trans ((xs_land k41_87).trans ((xs_lc1 k41_88).trans ((xs_lcmp k41_89).trans ((xs_ine k41_90).trans (px_ite (fun c5 => ((xs_ic k41_93 (by omega)).trans ((xs_goto k41_94).trans (xs_ri k41_100 rfl)))) (fun c5 => ((xs_ildn k41_97 rfl).trans ((xs_ic k41_98 (by omega)).trans ((xs_iadd k41_99).trans (xs_ri k41_100 rfl))))))))))))))))) (fun c4 => (px_swi (fun c5 => ((xs_tsw k41_11 (tg := 101) (by rw [c5]; omega) (by rw [c5]; rfl)).trans ((xs_ildn k41_101 rfl).trans ((xs_aldn k41_102 rfl).trans ((xs_get0 k41_103 (px_s19 L) (Nat.le_of_ble_eq_true rfl)).trans ((xs_iadd k41_106).trans ((xs_aldn k41_107 rfl).trans ((xs_get0 k41_108 (px_s19 L) (Nat.le_of_ble_eq_true rfl)).trans ((xs_jge k41_111).trans (px_ite (fun c6 => ((xs_ic k41_123 (by omega)).trans (xs_ri k41_124 rfl))) (fun c6 => ((xs_ildn k41_114 rfl).trans ((xs_aldn k41_115 rfl).trans ((xs_get0 k41_116 (px_s19 L) (Nat.le_of_ble_eq_true rfl)).trans ((xs_iadd k41_119).trans ((xs_goto k41_120).trans (xs_ri k41_124 rfl))))))))))))))))) (fun c5 => ((xs_tswd k41_11 (by omega)).trans ((xs_ic k41_125 (by omega)).trans (xs_ri k41_126 rfl)))))))))))))))
-- Bank.besides ('R19', 'L')
theorem b42_0 (hr : px_hr r) (d : Nat) (i l : MI) (x1 : Int) : px_X d 42 (0, [vR 19, vL x1, vJ, vJ, vJ, vJ, vJ, vJ, vJ, vJ, vJ], []) (px_sh L, i, l, r, t) = some (some (vL (px_lor (px_lor (px_lor (px_lushr x1 (i 19 0)) (px_lushr (px_land x1 (px_lxor (l 19 4) (-1))) 1)) (px_lshl (px_land x1 (px_lxor (l 19 5) (-1))) 1)) (px_land (px_lshl x1 (i 19 0)) (l 19 3)))), (px_sh L, i, l, r, t)) := ((xs_lldn k42_0 rfl).trans ((xs_aldn k42_1 rfl).trans ((xs_get0 k42_2 (px_s19 L) (Nat.le_of_ble_eq_true rfl)).trans ((xs_lushr k42_5).trans ((xs_lstn k42_6 (Nat.le_of_ble_eq_true rfl) (ls' := [vR 19, vL x1, vJ, vL (px_lushr x1 (i 19 0)), vJ, vJ, vJ, vJ, vJ, vJ, vJ]) rfl).trans ((xs_lldn k42_7 rfl).trans ((xs_aldn k42_8 rfl).trans ((xs_get3 k42_9 (px_s19 L) (Nat.le_of_ble_eq_true rfl)).trans ((xs_ldc2 k42_12).trans ((xs_lxor k42_15).trans ((xs_land k42_16).trans ((xs_ic k42_17 (by omega)).trans ((xs_lushr k42_18).trans ((xs_lst k42_19 (Nat.le_of_ble_eq_true rfl) (ls' := [vR 19, vL x1, vJ, vL (px_lushr x1 (i 19 0)), vJ, vL (px_lushr (px_land x1 (px_lxor (l 19 4) (-1))) 1), vJ, vJ, vJ, vJ, vJ]) rfl).trans ((xs_lldn k42_21 rfl).trans ((xs_aldn k42_22 rfl).trans ((xs_get3 k42_23 (px_s19 L) (Nat.le_of_ble_eq_true rfl)).trans ((xs_ldc2 k42_26).trans ((xs_lxor k42_29).trans ((xs_land k42_30).trans ((xs_ic k42_31 (by omega)).trans ((xs_lshl k42_32).trans ((xs_lst k42_33 (Nat.le_of_ble_eq_true rfl) (ls' := [vR 19, vL x1, vJ, vL (px_lushr x1 (i 19 0)), vJ, vL (px_lushr (px_land x1 (px_lxor (l 19 4) (-1))) 1), vJ, vL (px_lshl (px_land x1 (px_lxor (l 19 5) (-1))) 1), vJ, vJ, vJ]) rfl).trans ((xs_lldn k42_35 rfl).trans ((xs_aldn k42_36 rfl).trans ((xs_get0 k42_37 (px_s19 L) (Nat.le_of_ble_eq_true rfl)).trans ((xs_lshl k42_40).trans ((xs_aldn k42_41 rfl).trans ((xs_get3 k42_42 (px_s19 L) (Nat.le_of_ble_eq_true rfl)).trans ((xs_land k42_45).trans ((xs_lst k42_46 (Nat.le_of_ble_eq_true rfl) (ls' := [vR 19, vL x1, vJ, vL (px_lushr x1 (i 19 0)), vJ, vL (px_lushr (px_land x1 (px_lxor (l 19 4) (-1))) 1), vJ, vL (px_lshl (px_land x1 (px_lxor (l 19 5) (-1))) 1), vJ, vL (px_land (px_lshl x1 (i 19 0)) (l 19 3)), vJ]) rfl).trans ((xs_lldn k42_48 rfl).trans ((xs_lld k42_49 rfl).trans ((xs_lor k42_51).trans ((xs_lld k42_52 rfl).trans ((xs_lor k42_54).trans ((xs_lld k42_55 rfl).trans ((xs_lor k42_57).trans (xs_rl k42_58 rfl)))))))))))))))))))))))))))))))))))))))
-- Bank.drift ('R19', 'I', 'I')
theorem b43_0 (hr : px_hr r) (d : Nat) (i l : MI) (x1 : Int) (x2 : Int) : px_X d 43 (0, [vR 19, vI x1, vI x2, vJ, vJ, vJ, vJ], []) (px_sh L, i, l, r, t) = px_X d 43 (10, [vR 19, vI x1, vI x2, vI (px_w32 ((px_w32 (x1 * 7)) + 3)), vI 0, vJ, vJ], []) (px_sh L, i, l, r, t) := ((xs_ildn k43_0 rfl).trans ((xs_bi k43_1 (by omega)).trans ((xs_imul k43_3).trans ((xs_ic k43_4 (by omega)).trans ((xs_iadd k43_5).trans ((xs_istn k43_6 (Nat.le_of_ble_eq_true rfl) (ls' := [vR 19, vI x1, vI x2, vI (px_w32 ((px_w32 (x1 * 7)) + 3)), vJ, vJ, vJ]) rfl).trans ((xs_ic k43_7 (by omega)).trans (xs_ist k43_8 (Nat.le_of_ble_eq_true rfl) (ls' := [vR 19, vI x1, vI x2, vI (px_w32 ((px_w32 (x1 * 7)) + 3)), vI 0, vJ, vJ]) rfl))))))))
theorem b43_10 (hr : px_hr r) (d : Nat) (i l : MI) (x1 : Int) (x2 : Int) (x3 : Int) (x4 : Int) {v5 : PV} (hn5 : px_nl v5) {v6 : PV} (hn6 : px_nl v6) (h1 : (¬ (x2 ≤ x4)) → (¬ ((i 19 2) ≤ 0)) → ¬ (i 19 2) = 0) : px_X d 43 (10, [vR 19, vI x1, vI x2, vI x3, vI x4, v5, v6], []) (px_sh L, i, l, r, t) = if x2 ≤ x4 then px_X d 43 (107, [vR 19, vI x1, vI x2, vI x3, vI 0, vI 0, v6], []) (px_sh L, i, l, r, t) else if (i 19 2) ≤ 0 then px_X d 43 (33, [vR 19, vI x1, vI x2, vI x3, vI x4, v5, v6], [vI 0]) (px_sh L, i, l, r, t) else px_X d 43 (33, [vR 19, vI x1, vI x2, vI x3, vI x4, v5, v6], [vI (Int.tmod x3 (i 19 2))]) (px_sh L, i, l, r, t) := ((xs_ild k43_10 rfl).trans ((xs_ildn k43_12 rfl).trans ((xs_jge k43_13).trans (px_ite (fun c1 => ((xs_ic k43_101 (by omega)).trans ((xs_ist k43_102 (Nat.le_of_ble_eq_true rfl) (ls' := [vR 19, vI x1, vI x2, vI x3, vI 0, v5, v6]) rfl).trans ((xs_ic k43_104 (by omega)).trans (xs_ist k43_105 (Nat.le_of_ble_eq_true rfl) (ls' := [vR 19, vI x1, vI x2, vI x3, vI 0, vI 0, v6]) rfl))))) (fun c1 => ((xs_aldn k43_16 rfl).trans ((xs_get0 k43_17 (px_s19 L) (Nat.le_of_ble_eq_true rfl)).trans ((xs_ile k43_20).trans (px_ite (fun c2 => (xs_ic k43_32 (by omega))) (fun c2 => ((xs_ildn k43_23 rfl).trans ((xs_aldn k43_24 rfl).trans ((xs_get0 k43_25 (px_s19 L) (Nat.le_of_ble_eq_true rfl)).trans ((xs_irem k43_28 (h1 c1 c2)).trans (xs_goto k43_29)))))))))))))))
theorem b43_33 (hr : px_hr r) (d : Nat) (i l : MI) (x1 : Int) (x2 : Int) (x3 : Int) (x4 : Int) {v5 : PV} (hn5 : px_nl v5) {v6 : PV} (hn6 : px_nl v6) (xs0 : Int) : px_X (d + 1) 43 (33, [vR 19, vI x1, vI x2, vI x3, vI x4, v5, v6], [vI xs0]) (px_sh L, i, l, r, t) = (px_C d 38 [vR 19, vI xs0] (px_sh L, i, l, r, t)).bind (fun q => px_X (d + 1) 43 (px_psh (54, [vR 19, vI x1, vI x2, vI (Int.tmod (px_w32 ((px_w32 (x3 * 143)) + 41)) 30103), vI x4, vI xs0, v6], []) q.1) q.2) := ((xs_ist k43_33 (Nat.le_of_ble_eq_true rfl) (ls' := [vR 19, vI x1, vI x2, vI x3, vI x4, vI xs0, v6]) rfl).trans ((xs_ildn k43_35 rfl).trans ((xs_si k43_36 (by omega)).trans ((xs_imul k43_39).trans ((xs_bi k43_40 (by omega)).trans ((xs_iadd k43_42).trans ((xs_si k43_43 (by omega)).trans ((xs_irem k43_46 (by omega)).trans ((xs_istn k43_47 (Nat.le_of_ble_eq_true rfl) (ls' := [vR 19, vI x1, vI x2, vI (Int.tmod (px_w32 ((px_w32 (x3 * 143)) + 41)) 30103), vI x4, vI xs0, v6]) rfl).trans ((xs_aldn k43_48 rfl).trans ((xs_ild k43_49 rfl).trans (xs_callvB k43_51 (as := [vI xs0]) rfl rfl (Nat.le_of_ble_eq_true rfl) (Nat.le_of_ble_eq_true rfl) (Nat.le_of_ble_eq_true rfl) (px_s19 L) (Nat.le_of_ble_eq_true rfl)))))))))))))
theorem b43_54 (hr : px_hr r) (d : Nat) (i l : MI) (x1 : Int) (x2 : Int) (x3 : Int) (x4 : Int) (x5 : Int) {v6 : PV} (hn6 : px_nl v6) (xs0 : Int) : px_X (d + 1) 43 (54, [vR 19, vI x1, vI x2, vI x3, vI x4, vI x5, v6], [vI xs0]) (px_sh L, i, l, r, t) = (px_C d 34 [vR 20, vI x5, vI (if 0 < (if (px_w32 ((px_w32 (xs0 + (Int.tmod x3 3))) - 1)) < 99 then (px_w32 ((px_w32 (xs0 + (Int.tmod x3 3))) - 1)) else 99) then (if (px_w32 ((px_w32 (xs0 + (Int.tmod x3 3))) - 1)) < 99 then (px_w32 ((px_w32 (xs0 + (Int.tmod x3 3))) - 1)) else 99) else 0)] (px_sh L, i, l, r, t)).bind (fun q => px_X (d + 1) 43 (px_psh (95, [vR 19, vI x1, vI x2, vI (Int.tmod (px_w32 ((px_w32 (x3 * 143)) + 41)) 30103), vI x4, vI x5, vI (px_w32 ((px_w32 (xs0 + (Int.tmod x3 3))) - 1))], []) q.1) q.2) := ((xs_ildn k43_54 rfl).trans ((xs_ic k43_55 (by omega)).trans ((xs_irem k43_56 (by omega)).trans ((xs_iadd k43_57).trans ((xs_ic k43_58 (by omega)).trans ((xs_isub k43_59).trans ((xs_ist k43_60 (Nat.le_of_ble_eq_true rfl) (ls' := [vR 19, vI x1, vI x2, vI x3, vI x4, vI x5, vI (px_w32 ((px_w32 (xs0 + (Int.tmod x3 3))) - 1))]) rfl).trans ((xs_ildn k43_62 rfl).trans ((xs_si k43_63 (by omega)).trans ((xs_imul k43_66).trans ((xs_bi k43_67 (by omega)).trans ((xs_iadd k43_69).trans ((xs_si k43_70 (by omega)).trans ((xs_irem k43_73 (by omega)).trans ((xs_istn k43_74 (Nat.le_of_ble_eq_true rfl) (ls' := [vR 19, vI x1, vI x2, vI (Int.tmod (px_w32 ((px_w32 (x3 * 143)) + 41)) 30103), vI x4, vI x5, vI (px_w32 ((px_w32 (xs0 + (Int.tmod x3 3))) - 1))]) rfl).trans ((xs_aldn k43_75 rfl).trans ((xs_get4 k43_76 (px_s19 L) (Nat.le_of_ble_eq_true rfl) (px_r19_6 hr)).trans ((xs_ild k43_79 rfl).trans ((xs_ic k43_81 (by omega)).trans ((xs_bi k43_82 (by omega)).trans ((xs_ild k43_84 rfl).trans ((xs_imin k43_86 (Nat.le_of_ble_eq_true rfl)).trans ((xs_imax k43_89 (Nat.le_of_ble_eq_true rfl)).trans (xs_callsB k43_92 (as := [vR 20, vI x5, vI (if 0 < (if (px_w32 ((px_w32 (xs0 + (Int.tmod x3 3))) - 1)) < 99 then (px_w32 ((px_w32 (xs0 + (Int.tmod x3 3))) - 1)) else 99) then (if (px_w32 ((px_w32 (xs0 + (Int.tmod x3 3))) - 1)) < 99 then (px_w32 ((px_w32 (xs0 + (Int.tmod x3 3))) - 1)) else 99) else 0)]) rfl rfl (Nat.le_of_ble_eq_true rfl) (Nat.le_of_ble_eq_true rfl) (Nat.le_of_ble_eq_true rfl)))))))))))))))))))))))))
theorem b43_95 (hr : px_hr r) (d : Nat) (i l : MI) (x1 : Int) (x2 : Int) (x3 : Int) (x4 : Int) (x5 : Int) (x6 : Int) : px_X d 43 (95, [vR 19, vI x1, vI x2, vI x3, vI x4, vI x5, vI x6], []) (px_sh L, i, l, r, t) = px_X d 43 (10, [vR 19, vI x1, vI x2, vI x3, vI (px_w32 (x4 + 1)), vI x5, vI x6], []) (px_sh L, i, l, r, t) := ((xs_iinc k43_95 rfl (by omega) (ls' := [vR 19, vI x1, vI x2, vI x3, vI (px_w32 (x4 + 1)), vI x5, vI x6]) rfl).trans (xs_goto k43_98))
theorem b43_107 (hr : px_hr r) (d : Nat) (i l : MI) (x1 : Int) (x2 : Int) (x3 : Int) (x4 : Int) (x5 : Int) {v6 : PV} (hn6 : px_nl v6) : px_X (d + 1) 43 (107, [vR 19, vI x1, vI x2, vI x3, vI x4, vI x5, v6], []) (px_sh L, i, l, r, t) = if (i 19 2) ≤ x5 then some (some (vI x4), (px_sh L, i, l, r, t)) else (px_C d 38 [vR 19, vI x5] (px_sh L, i, l, r, t)).bind (fun q => px_X (d + 1) 43 (px_psh (124, [vR 19, vI x1, vI x2, vI x3, vI x4, vI x5, v6], [vI x4]) q.1) q.2) := ((xs_ild k43_107 rfl).trans ((xs_aldn k43_109 rfl).trans ((xs_get0 k43_110 (px_s19 L) (Nat.le_of_ble_eq_true rfl)).trans ((xs_jge k43_113).trans (px_ite (fun c1 => ((xs_ild k43_133 rfl).trans (xs_ri k43_135 rfl))) (fun c1 => ((xs_ild k43_116 rfl).trans ((xs_aldn k43_118 rfl).trans ((xs_ild k43_119 rfl).trans (xs_callvB k43_121 (as := [vI x5]) rfl rfl (Nat.le_of_ble_eq_true rfl) (Nat.le_of_ble_eq_true rfl) (Nat.le_of_ble_eq_true rfl) (px_s19 L) (Nat.le_of_ble_eq_true rfl)))))))))))
theorem b43_124 (hr : px_hr r) (d : Nat) (i l : MI) (x1 : Int) (x2 : Int) (x3 : Int) (x4 : Int) (x5 : Int) {v6 : PV} (hn6 : px_nl v6) (xs0 : Int) (xs1 : Int) : px_X d 43 (124, [vR 19, vI x1, vI x2, vI x3, vI x4, vI x5, v6], [vI xs0, vI xs1]) (px_sh L, i, l, r, t) = px_X d 43 (107, [vR 19, vI x1, vI x2, vI x3, vI (px_w32 (xs1 + xs0)), vI (px_w32 (x5 + 1)), v6], []) (px_sh L, i, l, r, t) := ((xs_iadd k43_124).trans ((xs_ist k43_125 (Nat.le_of_ble_eq_true rfl) (ls' := [vR 19, vI x1, vI x2, vI x3, vI (px_w32 (xs1 + xs0)), vI x5, v6]) rfl).trans ((xs_iinc k43_127 rfl (by omega) (ls' := [vR 19, vI x1, vI x2, vI x3, vI (px_w32 (xs1 + xs0)), vI (px_w32 (x5 + 1)), v6]) rfl).trans (xs_goto k43_130))))
-- Bank.copyFrom ('R19', 'R46')
theorem b44_R19R46_0 (hr : px_hr r) (d : Nat) (i l : MI)  : px_X (d + 1) 44 (0, [vR 19, vR 46], []) (px_sh L, i, l, r, t) = (px_C d 35 [vR 47, vR 20] (px_sh L, i, l, r, t)).bind (fun q => px_X (d + 1) 44 (px_psh (11, [vR 19, vR 46], []) q.1) q.2) := ((xs_aldn k44_0 rfl).trans ((xs_get4 k44_1 (px_s46 L) (Nat.le_of_ble_eq_true rfl) (px_r46_6 hr)).trans ((xs_aldn k44_4 rfl).trans ((xs_get4 k44_5 (px_s19 L) (Nat.le_of_ble_eq_true rfl) (px_r19_6 hr)).trans (xs_callsB k44_8 (as := [vR 47, vR 20]) rfl rfl (Nat.le_of_ble_eq_true rfl) (Nat.le_of_ble_eq_true rfl) (Nat.le_of_ble_eq_true rfl))))))
theorem b44_R19R46_11 (hr : px_hr r) (d : Nat) (i l : MI)  : px_X d 44 (11, [vR 19, vR 46], []) (px_sh L, i, l, r, t) = some (none, (px_sh L, (px_up i 19 8 (i 46 8)), (px_up l 19 7 (l 46 7)), r, t)) := ((xs_aldn k44_11 rfl).trans ((xs_aldn k44_12 rfl).trans ((xs_get3 k44_13 (px_s46 L) (Nat.le_of_ble_eq_true rfl)).trans ((xs_put3 k44_16 (Or.inl rfl) (px_s19 L) (Nat.le_of_ble_eq_true rfl)).trans ((xs_aldn k44_19 rfl).trans ((xs_aldn k44_20 rfl).trans ((xs_get0 k44_21 (px_s46 L) (Nat.le_of_ble_eq_true rfl)).trans ((xs_put0 k44_24 (Or.inl rfl) (px_s19 L) (Nat.le_of_ble_eq_true rfl)).trans (xs_rv k44_27 rfl)))))))))
-- Bank.copyFrom ('R46', 'R19')
theorem b44_R46R19_0 (hr : px_hr r) (d : Nat) (i l : MI)  : px_X (d + 1) 44 (0, [vR 46, vR 19], []) (px_sh L, i, l, r, t) = (px_C d 35 [vR 20, vR 47] (px_sh L, i, l, r, t)).bind (fun q => px_X (d + 1) 44 (px_psh (11, [vR 46, vR 19], []) q.1) q.2) := ((xs_aldn k44_0 rfl).trans ((xs_get4 k44_1 (px_s19 L) (Nat.le_of_ble_eq_true rfl) (px_r19_6 hr)).trans ((xs_aldn k44_4 rfl).trans ((xs_get4 k44_5 (px_s46 L) (Nat.le_of_ble_eq_true rfl) (px_r46_6 hr)).trans (xs_callsB k44_8 (as := [vR 20, vR 47]) rfl rfl (Nat.le_of_ble_eq_true rfl) (Nat.le_of_ble_eq_true rfl) (Nat.le_of_ble_eq_true rfl))))))
theorem b44_R46R19_11 (hr : px_hr r) (d : Nat) (i l : MI)  : px_X d 44 (11, [vR 46, vR 19], []) (px_sh L, i, l, r, t) = some (none, (px_sh L, (px_up i 46 8 (i 19 8)), (px_up l 46 7 (l 19 7)), r, t)) := ((xs_aldn k44_11 rfl).trans ((xs_aldn k44_12 rfl).trans ((xs_get3 k44_13 (px_s19 L) (Nat.le_of_ble_eq_true rfl)).trans ((xs_put3 k44_16 (Or.inl rfl) (px_s46 L) (Nat.le_of_ble_eq_true rfl)).trans ((xs_aldn k44_19 rfl).trans ((xs_aldn k44_20 rfl).trans ((xs_get0 k44_21 (px_s19 L) (Nat.le_of_ble_eq_true rfl)).trans ((xs_put0 k44_24 (Or.inl rfl) (px_s46 L) (Nat.le_of_ble_eq_true rfl)).trans (xs_rv k44_27 rfl)))))))))
-- Book.add ('R5', 'I', 'I', 'I')
theorem b46_0 (hr : px_hr r) (d : Nat) (i l : MI) (x1 : Int) (x2 : Int) (x3 : Int) : px_X (d + 1) 46 (0, [vR 5, vI x1, vI x2, vI x3], []) (px_sh L, i, l, r, t) = (px_C d 34 [vR 6, vI (i 5 0), vI x1] (px_sh L, i, l, r, t)).bind (fun q => px_X (d + 1) 46 (px_psh (12, [vR 5, vI x1, vI x2, vI x3], []) q.1) q.2) := ((xs_aldn k46_0 rfl).trans ((xs_get4 k46_1 (px_s5 L) (Nat.le_of_ble_eq_true rfl) (px_r5_1 hr)).trans ((xs_aldn k46_4 rfl).trans ((xs_get0 k46_5 (px_s5 L) (Nat.le_of_ble_eq_true rfl)).trans ((xs_ildn k46_8 rfl).trans (xs_callsB k46_9 (as := [vR 6, vI (i 5 0), vI x1]) rfl rfl (Nat.le_of_ble_eq_true rfl) (Nat.le_of_ble_eq_true rfl) (Nat.le_of_ble_eq_true rfl)))))))
theorem b46_12 (hr : px_hr r) (d : Nat) (i l : MI) (x1 : Int) (x2 : Int) (x3 : Int) : px_X (d + 1) 46 (12, [vR 5, vI x1, vI x2, vI x3], []) (px_sh L, i, l, r, t) = (px_C d 34 [vR 7, vI (i 5 0), vI x2] (px_sh L, i, l, r, t)).bind (fun q => px_X (d + 1) 46 (px_psh (24, [vR 5, vI x1, vI x2, vI x3], []) q.1) q.2) := ((xs_aldn k46_12 rfl).trans ((xs_get4 k46_13 (px_s5 L) (Nat.le_of_ble_eq_true rfl) (px_r5_2 hr)).trans ((xs_aldn k46_16 rfl).trans ((xs_get0 k46_17 (px_s5 L) (Nat.le_of_ble_eq_true rfl)).trans ((xs_ildn k46_20 rfl).trans (xs_callsB k46_21 (as := [vR 7, vI (i 5 0), vI x2]) rfl rfl (Nat.le_of_ble_eq_true rfl) (Nat.le_of_ble_eq_true rfl) (Nat.le_of_ble_eq_true rfl)))))))
theorem b46_24 (hr : px_hr r) (d : Nat) (i l : MI) (x1 : Int) (x2 : Int) (x3 : Int) : px_X (d + 1) 46 (24, [vR 5, vI x1, vI x2, vI x3], []) (px_sh L, i, l, r, t) = (px_C d 34 [vR 8, vI (i 5 0), vI x3] (px_sh L, i, l, r, t)).bind (fun q => px_X (d + 1) 46 (px_psh (36, [vR 5, vI x1, vI x2, vI x3], []) q.1) q.2) := ((xs_aldn k46_24 rfl).trans ((xs_get4 k46_25 (px_s5 L) (Nat.le_of_ble_eq_true rfl) (px_r5_3 hr)).trans ((xs_aldn k46_28 rfl).trans ((xs_get0 k46_29 (px_s5 L) (Nat.le_of_ble_eq_true rfl)).trans ((xs_ildn k46_32 rfl).trans (xs_callsB k46_33 (as := [vR 8, vI (i 5 0), vI x3]) rfl rfl (Nat.le_of_ble_eq_true rfl) (Nat.le_of_ble_eq_true rfl) (Nat.le_of_ble_eq_true rfl)))))))
theorem b46_36 (hr : px_hr r) (d : Nat) (i l : MI) (x1 : Int) (x2 : Int) (x3 : Int) : px_X d 46 (36, [vR 5, vI x1, vI x2, vI x3], []) (px_sh L, i, l, r, t) = some (none, (px_sh L, (px_up i 5 0 (px_w32 ((i 5 0) + 1))), l, r, t)) := ((xs_aldn k46_36 rfl).trans ((xs_dup k46_37 rfl).trans ((xs_get0 k46_38 (px_s5 L) (Nat.le_of_ble_eq_true rfl)).trans ((xs_ic k46_41 (by omega)).trans ((xs_iadd k46_42).trans ((xs_put0 k46_43 (Or.inl rfl) (px_s5 L) (Nat.le_of_ble_eq_true rfl)).trans (xs_rv k46_46 rfl)))))))
-- Book.copyFrom ('R32', 'R5')
theorem b47_R32R5_0 (hr : px_hr r) (d : Nat) (i l : MI)  : px_X (d + 1) 47 (0, [vR 32, vR 5], []) (px_sh L, i, l, r, t) = (px_C d 35 [vR 6, vR 33] (px_sh L, (px_up i 32 0 (i 5 0)), l, r, t)).bind (fun q => px_X (d + 1) 47 (px_psh (19, [vR 32, vR 5], []) q.1) q.2) := ((xs_aldn k47_0 rfl).trans ((xs_aldn k47_1 rfl).trans ((xs_get0 k47_2 (px_s5 L) (Nat.le_of_ble_eq_true rfl)).trans ((xs_put0 k47_5 (Or.inl rfl) (px_s32 L) (Nat.le_of_ble_eq_true rfl)).trans ((xs_aldn k47_8 rfl).trans ((xs_get4 k47_9 (px_s5 L) (Nat.le_of_ble_eq_true rfl) (px_r5_1 hr)).trans ((xs_aldn k47_12 rfl).trans ((xs_get4 k47_13 (px_s32 L) (Nat.le_of_ble_eq_true rfl) (px_r32_1 hr)).trans (xs_callsB k47_16 (as := [vR 6, vR 33]) rfl rfl (Nat.le_of_ble_eq_true rfl) (Nat.le_of_ble_eq_true rfl) (Nat.le_of_ble_eq_true rfl))))))))))
theorem b47_R32R5_19 (hr : px_hr r) (d : Nat) (i l : MI)  : px_X (d + 1) 47 (19, [vR 32, vR 5], []) (px_sh L, i, l, r, t) = (px_C d 35 [vR 7, vR 34] (px_sh L, i, l, r, t)).bind (fun q => px_X (d + 1) 47 (px_psh (30, [vR 32, vR 5], []) q.1) q.2) := ((xs_aldn k47_19 rfl).trans ((xs_get4 k47_20 (px_s5 L) (Nat.le_of_ble_eq_true rfl) (px_r5_2 hr)).trans ((xs_aldn k47_23 rfl).trans ((xs_get4 k47_24 (px_s32 L) (Nat.le_of_ble_eq_true rfl) (px_r32_2 hr)).trans (xs_callsB k47_27 (as := [vR 7, vR 34]) rfl rfl (Nat.le_of_ble_eq_true rfl) (Nat.le_of_ble_eq_true rfl) (Nat.le_of_ble_eq_true rfl))))))
theorem b47_R32R5_30 (hr : px_hr r) (d : Nat) (i l : MI)  : px_X (d + 1) 47 (30, [vR 32, vR 5], []) (px_sh L, i, l, r, t) = (px_C d 35 [vR 8, vR 35] (px_sh L, i, l, r, t)).bind (fun q => px_X (d + 1) 47 (px_psh (41, [vR 32, vR 5], []) q.1) q.2) := ((xs_aldn k47_30 rfl).trans ((xs_get4 k47_31 (px_s5 L) (Nat.le_of_ble_eq_true rfl) (px_r5_3 hr)).trans ((xs_aldn k47_34 rfl).trans ((xs_get4 k47_35 (px_s32 L) (Nat.le_of_ble_eq_true rfl) (px_r32_3 hr)).trans (xs_callsB k47_38 (as := [vR 8, vR 35]) rfl rfl (Nat.le_of_ble_eq_true rfl) (Nat.le_of_ble_eq_true rfl) (Nat.le_of_ble_eq_true rfl))))))
theorem b47_R32R5_41 (hr : px_hr r) (d : Nat) (i l : MI)  : px_X d 47 (41, [vR 32, vR 5], []) (px_sh L, i, l, r, t) = some (none, (px_sh L, i, l, r, t)) := (xs_rv k47_41 rfl)
-- Book.copyFrom ('R5', 'R32')
theorem b47_R5R32_0 (hr : px_hr r) (d : Nat) (i l : MI)  : px_X (d + 1) 47 (0, [vR 5, vR 32], []) (px_sh L, i, l, r, t) = (px_C d 35 [vR 33, vR 6] (px_sh L, (px_up i 5 0 (i 32 0)), l, r, t)).bind (fun q => px_X (d + 1) 47 (px_psh (19, [vR 5, vR 32], []) q.1) q.2) := ((xs_aldn k47_0 rfl).trans ((xs_aldn k47_1 rfl).trans ((xs_get0 k47_2 (px_s32 L) (Nat.le_of_ble_eq_true rfl)).trans ((xs_put0 k47_5 (Or.inl rfl) (px_s5 L) (Nat.le_of_ble_eq_true rfl)).trans ((xs_aldn k47_8 rfl).trans ((xs_get4 k47_9 (px_s32 L) (Nat.le_of_ble_eq_true rfl) (px_r32_1 hr)).trans ((xs_aldn k47_12 rfl).trans ((xs_get4 k47_13 (px_s5 L) (Nat.le_of_ble_eq_true rfl) (px_r5_1 hr)).trans (xs_callsB k47_16 (as := [vR 33, vR 6]) rfl rfl (Nat.le_of_ble_eq_true rfl) (Nat.le_of_ble_eq_true rfl) (Nat.le_of_ble_eq_true rfl))))))))))
theorem b47_R5R32_19 (hr : px_hr r) (d : Nat) (i l : MI)  : px_X (d + 1) 47 (19, [vR 5, vR 32], []) (px_sh L, i, l, r, t) = (px_C d 35 [vR 34, vR 7] (px_sh L, i, l, r, t)).bind (fun q => px_X (d + 1) 47 (px_psh (30, [vR 5, vR 32], []) q.1) q.2) := ((xs_aldn k47_19 rfl).trans ((xs_get4 k47_20 (px_s32 L) (Nat.le_of_ble_eq_true rfl) (px_r32_2 hr)).trans ((xs_aldn k47_23 rfl).trans ((xs_get4 k47_24 (px_s5 L) (Nat.le_of_ble_eq_true rfl) (px_r5_2 hr)).trans (xs_callsB k47_27 (as := [vR 34, vR 7]) rfl rfl (Nat.le_of_ble_eq_true rfl) (Nat.le_of_ble_eq_true rfl) (Nat.le_of_ble_eq_true rfl))))))
theorem b47_R5R32_30 (hr : px_hr r) (d : Nat) (i l : MI)  : px_X (d + 1) 47 (30, [vR 5, vR 32], []) (px_sh L, i, l, r, t) = (px_C d 35 [vR 35, vR 8] (px_sh L, i, l, r, t)).bind (fun q => px_X (d + 1) 47 (px_psh (41, [vR 5, vR 32], []) q.1) q.2) := ((xs_aldn k47_30 rfl).trans ((xs_get4 k47_31 (px_s32 L) (Nat.le_of_ble_eq_true rfl) (px_r32_3 hr)).trans ((xs_aldn k47_34 rfl).trans ((xs_get4 k47_35 (px_s5 L) (Nat.le_of_ble_eq_true rfl) (px_r5_3 hr)).trans (xs_callsB k47_38 (as := [vR 35, vR 8]) rfl rfl (Nat.le_of_ble_eq_true rfl) (Nat.le_of_ble_eq_true rfl) (Nat.le_of_ble_eq_true rfl))))))
theorem b47_R5R32_41 (hr : px_hr r) (d : Nat) (i l : MI)  : px_X d 47 (41, [vR 5, vR 32], []) (px_sh L, i, l, r, t) = some (none, (px_sh L, i, l, r, t)) := (xs_rv k47_41 rfl)
-- Guest.become ('g', 'I', 'I', 'I', 'I', 'I', 'I', 'I')
theorem b49_0 (hr : px_hr r) (d : Nat) (i l : MI) {k0 : Nat} (hg0 : px_gs k0) (x1 : Int) (x2 : Int) (x3 : Int) (x4 : Int) (x5 : Int) (x6 : Int) (x7 : Int) (h1 : x3 = 0 ∨ x3 = 1) : px_X d 49 (0, [vR k0, vI x1, vI x2, vI x3, vI x4, vI x5, vI x6, vI x7], []) (px_sh L, i, l, r, t) = some (none, (px_sh L, (px_up (px_up (px_up (px_up (px_up (px_up (px_up (px_up (px_up i k0 0 x1) k0 1 x2) k0 2 x3) k0 3 x4) k0 4 x5) k0 5 x6) k0 6 x7) k0 7 0) k0 8 1), l, r, t)) := ((xs_aldn k49_0 rfl).trans ((xs_ildn k49_1 rfl).trans ((xs_put0 k49_2 (Or.inl rfl) (px_gs_sh hg0) (px_gs_3 hg0)).trans ((xs_aldn k49_5 rfl).trans ((xs_ildn k49_6 rfl).trans ((xs_put0 k49_7 (Or.inl rfl) (px_gs_sh hg0) (px_gs_3 hg0)).trans ((xs_aldn k49_10 rfl).trans ((xs_ildn k49_11 rfl).trans ((xs_put1 k49_12 (Or.inl rfl) (px_gs_sh hg0) (px_gs_3 hg0) (h1)).trans ((xs_aldn k49_15 rfl).trans ((xs_ild k49_16 rfl).trans ((xs_put0 k49_18 (Or.inl rfl) (px_gs_sh hg0) (px_gs_3 hg0)).trans ((xs_aldn k49_21 rfl).trans ((xs_ild k49_22 rfl).trans ((xs_put0 k49_24 (Or.inl rfl) (px_gs_sh hg0) (px_gs_3 hg0)).trans ((xs_aldn k49_27 rfl).trans ((xs_ild k49_28 rfl).trans ((xs_put0 k49_30 (Or.inl rfl) (px_gs_sh hg0) (px_gs_3 hg0)).trans ((xs_aldn k49_33 rfl).trans ((xs_ild k49_34 rfl).trans ((xs_put0 k49_36 (Or.inl rfl) (px_gs_sh hg0) (px_gs_3 hg0)).trans ((xs_aldn k49_39 rfl).trans ((xs_ic k49_40 (by omega)).trans ((xs_put0 k49_41 (Or.inl rfl) (px_gs_sh hg0) (px_gs_3 hg0)).trans ((xs_aldn k49_44 rfl).trans ((xs_ic k49_45 (by omega)).trans ((xs_put1 k49_46 (Or.inl rfl) (px_gs_sh hg0) (px_gs_3 hg0) (by omega)).trans (xs_rv k49_49 rfl))))))))))))))))))))))))))))
-- Guest.copyFrom ('g', 'g')
theorem b50_0 (hr : px_hr r) (d : Nat) (i l : MI) {k0 : Nat} (hg0 : px_gs k0) {k1 : Nat} (hg1 : px_gs k1) : px_X (d + 1) 50 (0, [vR k0, vR k1], []) (px_sh L, i, l, r, t) = (px_C d 49 [vR k0, vI (i k1 0), vI (i k1 1), vI (i k1 2), vI (i k1 3), vI (i k1 4), vI (i k1 5), vI (i k1 6)] (px_sh L, i, l, r, t)).bind (fun q => px_X (d + 1) 50 (px_psh (32, [vR k0, vR k1], []) q.1) q.2) := ((xs_aldn k50_0 rfl).trans ((xs_aldn k50_1 rfl).trans ((xs_get0 k50_2 (px_gs_sh hg1) (px_gs_3 hg1)).trans ((xs_aldn k50_5 rfl).trans ((xs_get0 k50_6 (px_gs_sh hg1) (px_gs_3 hg1)).trans ((xs_aldn k50_9 rfl).trans ((xs_get1 k50_10 (px_gs_sh hg1) (px_gs_3 hg1)).trans ((xs_aldn k50_13 rfl).trans ((xs_get0 k50_14 (px_gs_sh hg1) (px_gs_3 hg1)).trans ((xs_aldn k50_17 rfl).trans ((xs_get0 k50_18 (px_gs_sh hg1) (px_gs_3 hg1)).trans ((xs_aldn k50_21 rfl).trans ((xs_get0 k50_22 (px_gs_sh hg1) (px_gs_3 hg1)).trans ((xs_aldn k50_25 rfl).trans ((xs_get0 k50_26 (px_gs_sh hg1) (px_gs_3 hg1)).trans (xs_callvB k50_29 (as := [vI (i k1 0), vI (i k1 1), vI (i k1 2), vI (i k1 3), vI (i k1 4), vI (i k1 5), vI (i k1 6)]) rfl rfl (Nat.le_of_ble_eq_true rfl) (Nat.le_of_ble_eq_true rfl) (Nat.le_of_ble_eq_true rfl) (px_gs_sh hg0) (px_gs_3 hg0)))))))))))))))))
theorem b50_32 (hr : px_hr r) (d : Nat) (i l : MI) {k0 : Nat} (hg0 : px_gs k0) {k1 : Nat} (hg1 : px_gs k1) (h1 : ((px_up i k0 7 (i k1 7)) k1 8) = 0 ∨ ((px_up i k0 7 (i k1 7)) k1 8) = 1) : px_X d 50 (32, [vR k0, vR k1], []) (px_sh L, i, l, r, t) = some (none, (px_sh L, (px_up (px_up i k0 7 (i k1 7)) k0 8 ((px_up i k0 7 (i k1 7)) k1 8)), l, r, t)) := ((xs_aldn k50_32 rfl).trans ((xs_aldn k50_33 rfl).trans ((xs_get0 k50_34 (px_gs_sh hg1) (px_gs_3 hg1)).trans ((xs_put0 k50_37 (Or.inl rfl) (px_gs_sh hg0) (px_gs_3 hg0)).trans ((xs_aldn k50_40 rfl).trans ((xs_aldn k50_41 rfl).trans ((xs_get1 k50_42 (px_gs_sh hg1) (px_gs_3 hg1)).trans ((xs_put1 k50_45 (Or.inl rfl) (px_gs_sh hg0) (px_gs_3 hg0) (h1)).trans (xs_rv k50_48 rfl)))))))))
-- House.guestAt ('R4', 'I')
theorem b52_0 (hr : px_hr r) (d : Nat) (i l : MI) (x1 : Int) (h1 : (¬ (x1 < 0)) → (¬ ((i 4 6) ≤ x1)) → (¬ (10 ≤ x1)) → 0 ≤ x1 ∧ x1 < 10) : px_X d 52 (0, [vR 4, vI x1], []) (px_sh L, i, l, r, t) = if x1 < 0 then some (some (vN), (px_sh L, i, l, r, t)) else if (i 4 6) ≤ x1 then some (some (vN), (px_sh L, i, l, r, t)) else if 10 ≤ x1 then some (some (vN), (px_sh L, i, l, r, t)) else some (some (vR (21 + x1.toNat)), (px_sh L, i, l, r, t)) := ((xs_ildn k52_0 rfl).trans ((xs_ilt k52_1).trans (px_ite (fun c1 => ((xs_null k52_30).trans (xs_ra k52_31 rfl))) (fun c1 => ((xs_ildn k52_4 rfl).trans ((xs_aldn k52_5 rfl).trans ((xs_get0 k52_6 (px_s4 L) (Nat.le_of_ble_eq_true rfl)).trans ((xs_jge k52_9).trans (px_ite (fun c2 => ((xs_null k52_30).trans (xs_ra k52_31 rfl))) (fun c2 => ((xs_ildn k52_12 rfl).trans ((xs_aldn k52_13 rfl).trans ((xs_get4 k52_14 (px_s4 L) (Nat.le_of_ble_eq_true rfl) (px_r4_14 hr)).trans ((xs_aln k52_17 (px_s18 L)).trans ((xs_jge k52_18).trans (px_ite (fun c3 => ((xs_null k52_30).trans (xs_ra k52_31 rfl))) (fun c3 => ((xs_aldn k52_21 rfl).trans ((xs_get4 k52_22 (px_s4 L) (Nat.le_of_ble_eq_true rfl) (px_r4_14 hr)).trans ((xs_ildn k52_25 rfl).trans ((xs_aald k52_26 (px_s18 L) (by omega) (h1 c1 c2 c3) (px_gs_r18 hr (h1 c1 c2 c3))).trans ((xs_goto k52_27).trans (xs_ra k52_31 rfl)))))))))))))))))))))))
-- House.freeGuest ('R4',)
theorem b53_0 (hr : px_hr r) (d : Nat) (i l : MI)  (h1 : (¬ ((i 4 6) < 0)) → (¬ (10 ≤ (i 4 6))) → 0 ≤ (i 4 6) ∧ (i 4 6) < 10) : px_X d 53 (0, [vR 4], []) (px_sh L, i, l, r, t) = if (i 4 6) < 0 then some (some (vN), (px_sh L, i, l, r, t)) else if 10 ≤ (i 4 6) then some (some (vN), (px_sh L, i, l, r, t)) else some (some (vR (21 + (i 4 6).toNat)), (px_sh L, i, l, r, t)) := ((xs_aldn k53_0 rfl).trans ((xs_get0 k53_1 (px_s4 L) (Nat.le_of_ble_eq_true rfl)).trans ((xs_ilt k53_4).trans (px_ite (fun c1 => ((xs_null k53_31).trans (xs_ra k53_32 rfl))) (fun c1 => ((xs_aldn k53_7 rfl).trans ((xs_get0 k53_8 (px_s4 L) (Nat.le_of_ble_eq_true rfl)).trans ((xs_aldn k53_11 rfl).trans ((xs_get4 k53_12 (px_s4 L) (Nat.le_of_ble_eq_true rfl) (px_r4_14 hr)).trans ((xs_aln k53_15 (px_s18 L)).trans ((xs_jge k53_16).trans (px_ite (fun c2 => ((xs_null k53_31).trans (xs_ra k53_32 rfl))) (fun c2 => ((xs_aldn k53_19 rfl).trans ((xs_get4 k53_20 (px_s4 L) (Nat.le_of_ble_eq_true rfl) (px_r4_14 hr)).trans ((xs_aldn k53_23 rfl).trans ((xs_get0 k53_24 (px_s4 L) (Nat.le_of_ble_eq_true rfl)).trans ((xs_aald k53_27 (px_s18 L) (by omega) (h1 c1 c2) (px_gs_r18 hr (h1 c1 c2))).trans ((xs_goto k53_28).trans (xs_ra k53_32 rfl))))))))))))))))))))
-- House.takeIn ('R4',)
theorem b54_0 (hr : px_hr r) (d : Nat) (i l : MI)  : px_X (d + 1) 54 (0, [vR 4, vJ, vJ, vJ, vJ, vJ], []) (px_sh L, i, l, r, t) = (px_C d 52 [vR 4, vI (i 4 6)] (px_sh L, (px_up i 4 6 (px_w32 ((i 4 6) + 1))), l, r, t)).bind (fun q => px_X (d + 1) 54 (px_psh (20, [vR 4, vI (i 4 6), vJ, vJ, vJ, vJ], []) q.1) q.2) := ((xs_aldn k54_0 rfl).trans ((xs_get0 k54_1 (px_s4 L) (Nat.le_of_ble_eq_true rfl)).trans ((xs_istn k54_4 (Nat.le_of_ble_eq_true rfl) (ls' := [vR 4, vI (i 4 6), vJ, vJ, vJ, vJ]) rfl).trans ((xs_aldn k54_5 rfl).trans ((xs_dup k54_6 rfl).trans ((xs_get0 k54_7 (px_s4 L) (Nat.le_of_ble_eq_true rfl)).trans ((xs_ic k54_10 (by omega)).trans ((xs_iadd k54_11).trans ((xs_put0 k54_12 (Or.inl rfl) (px_s4 L) (Nat.le_of_ble_eq_true rfl)).trans ((xs_aldn k54_15 rfl).trans ((xs_ildn k54_16 rfl).trans (xs_callvB k54_17 (as := [vI (i 4 6)]) rfl rfl (Nat.le_of_ble_eq_true rfl) (Nat.le_of_ble_eq_true rfl) (Nat.le_of_ble_eq_true rfl) (px_s4 L) (Nat.le_of_ble_eq_true rfl)))))))))))))
theorem b54_20_N (hr : px_hr r) (d : Nat) (i l : MI) (x1 : Int) : px_X d 54 (20, [vR 4, vI x1, vJ, vJ, vJ, vJ], [vN]) (px_sh L, i, l, r, t) = some (some (vI (-1)), (px_sh L, i, l, r, t)) := ((xs_astn k54_20 (Nat.le_of_ble_eq_true rfl) (ls' := [vR 4, vI x1, vN, vJ, vJ, vJ]) rfl).trans ((xs_aldn k54_21 rfl).trans ((xs_nnulN k54_22).trans ((xs_ic k54_25 (by omega)).trans (xs_ri k54_26 rfl)))))
theorem b54_20_g (hr : px_hr r) (d : Nat) (i l : MI) (x1 : Int) {ks0 : Nat} (hgs0 : px_gs ks0) : px_X d 54 (20, [vR 4, vI x1, vJ, vJ, vJ, vJ], [vR ks0]) (px_sh L, i, l, r, t) = px_X d 54 (32, [vR 4, vI x1, vR ks0, vI x1, vI x1, vJ], []) (px_sh L, i, l, r, t) := ((xs_astn k54_20 (Nat.le_of_ble_eq_true rfl) (ls' := [vR 4, vI x1, vR ks0, vJ, vJ, vJ]) rfl).trans ((xs_aldn k54_21 rfl).trans ((xs_nnulR k54_22).trans ((xs_ildn k54_27 rfl).trans ((xs_istn k54_28 (Nat.le_of_ble_eq_true rfl) (ls' := [vR 4, vI x1, vR ks0, vI x1, vJ, vJ]) rfl).trans ((xs_ildn k54_29 rfl).trans (xs_ist k54_30 (Nat.le_of_ble_eq_true rfl) (ls' := [vR 4, vI x1, vR ks0, vI x1, vI x1, vJ]) rfl)))))))
theorem b54_32 (hr : px_hr r) (d : Nat) (i l : MI) (x1 : Int) {k2 : Nat} (hg2 : px_gs k2) (x3 : Int) (x4 : Int) {v5 : PV} (hn5 : px_nl v5) : px_X (d + 1) 54 (32, [vR 4, vI x1, vR k2, vI x3, vI x4, v5], []) (px_sh L, i, l, r, t) = if x4 ≤ 0 then px_X (d + 1) 54 (105, [vR 4, vI x1, vR k2, vI x3, vI x4, v5], []) (px_sh L, i, l, r, t) else (px_C d 33 [vR 17, vI (px_w32 (x4 - 1))] (px_sh L, i, l, r, t)).bind (fun q => px_X (d + 1) 54 (px_psh (49, [vR 4, vI x1, vR k2, vI x3, vI x4, v5], [vR 4]) q.1) q.2) := ((xs_ild k54_32 rfl).trans ((xs_ile k54_34).trans (px_ite (fun c1 => rfl) (fun c1 => ((xs_aldn k54_37 rfl).trans ((xs_aldn k54_38 rfl).trans ((xs_get4 k54_39 (px_s4 L) (Nat.le_of_ble_eq_true rfl) (px_r4_13 hr)).trans ((xs_ild k54_42 rfl).trans ((xs_ic k54_44 (by omega)).trans ((xs_isub k54_45).trans (xs_callsB k54_46 (as := [vR 17, vI (px_w32 (x4 - 1))]) rfl rfl (Nat.le_of_ble_eq_true rfl) (Nat.le_of_ble_eq_true rfl) (Nat.le_of_ble_eq_true rfl))))))))))))
theorem b54_49 (hr : px_hr r) (d : Nat) (i l : MI) (x1 : Int) {k2 : Nat} (hg2 : px_gs k2) (x3 : Int) (x4 : Int) {v5 : PV} (hn5 : px_nl v5) (xs0 : Int) : px_X (d + 1) 54 (49, [vR 4, vI x1, vR k2, vI x3, vI x4, v5], [vI xs0, vR 4]) (px_sh L, i, l, r, t) = (px_C d 52 [vR 4, vI xs0] (px_sh L, i, l, r, t)).bind (fun q => px_X (d + 1) 54 (px_psh (52, [vR 4, vI x1, vR k2, vI x3, vI x4, v5], []) q.1) q.2) := (xs_callvB k54_49 (as := [vI xs0]) rfl rfl (Nat.le_of_ble_eq_true rfl) (Nat.le_of_ble_eq_true rfl) (Nat.le_of_ble_eq_true rfl) (px_s4 L) (Nat.le_of_ble_eq_true rfl))
theorem b54_52_N2g (hr : px_hr r) (d : Nat) (i l : MI) (x1 : Int) {k2 : Nat} (hg2 : px_gs k2) (x3 : Int) (x4 : Int) {v5 : PV} (hn5 : px_nl v5) : px_X d 54 (52, [vR 4, vI x1, vR k2, vI x3, vI x4, v5], [vN]) (px_sh L, i, l, r, t) = px_X d 54 (105, [vR 4, vI x1, vR k2, vI x3, vI x4, vN], []) (px_sh L, i, l, r, t) := ((xs_ast k54_52 (Nat.le_of_ble_eq_true rfl) (ls' := [vR 4, vI x1, vR k2, vI x3, vI x4, vN]) rfl).trans ((xs_ald k54_54 rfl).trans (xs_nullN k54_56)))
theorem b54_52_g2g (hr : px_hr r) (d : Nat) (i l : MI) (x1 : Int) {k2 : Nat} (hg2 : px_gs k2) (x3 : Int) (x4 : Int) {v5 : PV} (hn5 : px_nl v5) {ks0 : Nat} (hgs0 : px_gs ks0) : px_X (d + 1) 54 (52, [vR 4, vI x1, vR k2, vI x3, vI x4, v5], [vR ks0]) (px_sh L, i, l, r, t) = if (i ks0 0) < (i k2 0) then (px_C d 33 [vR 17, vI (px_w32 (x4 - 1))] (px_sh L, i, l, r, t)).bind (fun q => px_X (d + 1) 54 (px_psh (91, [vR 4, vI x1, vR k2, vI x3, vI x4, vR ks0], [vI x4, vR 17]) q.1) q.2) else px_X (d + 1) 54 (105, [vR 4, vI x1, vR k2, vI x3, vI x4, vR ks0], []) (px_sh L, i, l, r, t) := ((xs_ast k54_52 (Nat.le_of_ble_eq_true rfl) (ls' := [vR 4, vI x1, vR k2, vI x3, vI x4, vR ks0]) rfl).trans ((xs_ald k54_54 rfl).trans ((xs_nullR k54_56).trans ((xs_ald k54_59 rfl).trans ((xs_get0 k54_61 (px_gs_sh hgs0) (px_gs_3 hgs0)).trans ((xs_aldn k54_64 rfl).trans ((xs_get0 k54_65 (px_gs_sh hg2) (px_gs_3 hg2)).trans ((xs_jlt k54_68).trans (px_ite (fun c1 => ((xs_aldn k54_74 rfl).trans ((xs_get4 k54_75 (px_s4 L) (Nat.le_of_ble_eq_true rfl) (px_r4_13 hr)).trans ((xs_ild k54_78 rfl).trans ((xs_aldn k54_80 rfl).trans ((xs_get4 k54_81 (px_s4 L) (Nat.le_of_ble_eq_true rfl) (px_r4_13 hr)).trans ((xs_ild k54_84 rfl).trans ((xs_ic k54_86 (by omega)).trans ((xs_isub k54_87).trans (xs_callsB k54_88 (as := [vR 17, vI (px_w32 (x4 - 1))]) rfl rfl (Nat.le_of_ble_eq_true rfl) (Nat.le_of_ble_eq_true rfl) (Nat.le_of_ble_eq_true rfl))))))))))) (fun c1 => (xs_goto k54_71)))))))))))
theorem b54_91 (hr : px_hr r) (d : Nat) (i l : MI) (x1 : Int) {k2 : Nat} (hg2 : px_gs k2) (x3 : Int) (x4 : Int) {v5 : PV} (hn5 : px_nl v5) (xs0 : Int) (xs1 : Int) : px_X (d + 1) 54 (91, [vR 4, vI x1, vR k2, vI x3, vI x4, v5], [vI xs0, vI xs1, vR 17]) (px_sh L, i, l, r, t) = (px_C d 34 [vR 17, vI xs1, vI xs0] (px_sh L, i, l, r, t)).bind (fun q => px_X (d + 1) 54 (px_psh (94, [vR 4, vI x1, vR k2, vI x3, vI x4, v5], []) q.1) q.2) := (xs_callsB k54_91 (as := [vR 17, vI xs1, vI xs0]) rfl rfl (Nat.le_of_ble_eq_true rfl) (Nat.le_of_ble_eq_true rfl) (Nat.le_of_ble_eq_true rfl))
theorem b54_94 (hr : px_hr r) (d : Nat) (i l : MI) (x1 : Int) {k2 : Nat} (hg2 : px_gs k2) (x3 : Int) (x4 : Int) {v5 : PV} (hn5 : px_nl v5) : px_X d 54 (94, [vR 4, vI x1, vR k2, vI x3, vI x4, v5], []) (px_sh L, i, l, r, t) = px_X d 54 (32, [vR 4, vI x1, vR k2, vI (px_w32 (x4 - 1)), vI (px_w32 (x4 + (-1))), v5], []) (px_sh L, i, l, r, t) := ((xs_ild k54_94 rfl).trans ((xs_ic k54_96 (by omega)).trans ((xs_isub k54_97).trans ((xs_istn k54_98 (Nat.le_of_ble_eq_true rfl) (ls' := [vR 4, vI x1, vR k2, vI (px_w32 (x4 - 1)), vI x4, v5]) rfl).trans ((xs_iinc k54_99 rfl (by omega) (ls' := [vR 4, vI x1, vR k2, vI (px_w32 (x4 - 1)), vI (px_w32 (x4 + (-1))), v5]) rfl).trans (xs_goto k54_102))))))
theorem b54_105 (hr : px_hr r) (d : Nat) (i l : MI) (x1 : Int) {v2 : PV} (hn2 : px_nl v2) (x3 : Int) (x4 : Int) {v5 : PV} (hn5 : px_nl v5) : px_X (d + 1) 54 (105, [vR 4, vI x1, v2, vI x3, vI x4, v5], []) (px_sh L, i, l, r, t) = (px_C d 34 [vR 17, vI x3, vI x1] (px_sh L, i, l, r, t)).bind (fun q => px_X (d + 1) 54 (px_psh (114, [vR 4, vI x1, v2, vI x3, vI x4, v5], []) q.1) q.2) := ((xs_aldn k54_105 rfl).trans ((xs_get4 k54_106 (px_s4 L) (Nat.le_of_ble_eq_true rfl) (px_r4_13 hr)).trans ((xs_ildn k54_109 rfl).trans ((xs_ildn k54_110 rfl).trans (xs_callsB k54_111 (as := [vR 17, vI x3, vI x1]) rfl rfl (Nat.le_of_ble_eq_true rfl) (Nat.le_of_ble_eq_true rfl) (Nat.le_of_ble_eq_true rfl))))))
theorem b54_114 (hr : px_hr r) (d : Nat) (i l : MI) (x1 : Int) {v2 : PV} (hn2 : px_nl v2) (x3 : Int) (x4 : Int) {v5 : PV} (hn5 : px_nl v5) : px_X d 54 (114, [vR 4, vI x1, v2, vI x3, vI x4, v5], []) (px_sh L, i, l, r, t) = some (some (vI x1), (px_sh L, i, l, r, t)) := ((xs_ildn k54_114 rfl).trans (xs_ri k54_115 rfl))
-- House.addPerch ('R4', 'I', 'I')
theorem b55_0 (hr : px_hr r) (d : Nat) (i l : MI) (x1 : Int) (x2 : Int) : px_X (d + 1) 55 (0, [vR 4, vI x1, vI x2], []) (px_sh L, i, l, r, t) = (px_C d 34 [vR 14, vI (i 4 5), vI x1] (px_sh L, i, l, r, t)).bind (fun q => px_X (d + 1) 55 (px_psh (12, [vR 4, vI x1, vI x2], []) q.1) q.2) := ((xs_aldn k55_0 rfl).trans ((xs_get4 k55_1 (px_s4 L) (Nat.le_of_ble_eq_true rfl) (px_r4_10 hr)).trans ((xs_aldn k55_4 rfl).trans ((xs_get0 k55_5 (px_s4 L) (Nat.le_of_ble_eq_true rfl)).trans ((xs_ildn k55_8 rfl).trans (xs_callsB k55_9 (as := [vR 14, vI (i 4 5), vI x1]) rfl rfl (Nat.le_of_ble_eq_true rfl) (Nat.le_of_ble_eq_true rfl) (Nat.le_of_ble_eq_true rfl)))))))
theorem b55_12 (hr : px_hr r) (d : Nat) (i l : MI) (x1 : Int) (x2 : Int) : px_X (d + 1) 55 (12, [vR 4, vI x1, vI x2], []) (px_sh L, i, l, r, t) = (px_C d 34 [vR 15, vI (i 4 5), vI x2] (px_sh L, i, l, r, t)).bind (fun q => px_X (d + 1) 55 (px_psh (24, [vR 4, vI x1, vI x2], []) q.1) q.2) := ((xs_aldn k55_12 rfl).trans ((xs_get4 k55_13 (px_s4 L) (Nat.le_of_ble_eq_true rfl) (px_r4_11 hr)).trans ((xs_aldn k55_16 rfl).trans ((xs_get0 k55_17 (px_s4 L) (Nat.le_of_ble_eq_true rfl)).trans ((xs_ildn k55_20 rfl).trans (xs_callsB k55_21 (as := [vR 15, vI (i 4 5), vI x2]) rfl rfl (Nat.le_of_ble_eq_true rfl) (Nat.le_of_ble_eq_true rfl) (Nat.le_of_ble_eq_true rfl)))))))
theorem b55_24 (hr : px_hr r) (d : Nat) (i l : MI) (x1 : Int) (x2 : Int) : px_X d 55 (24, [vR 4, vI x1, vI x2], []) (px_sh L, i, l, r, t) = some (some (vI (px_w32 ((px_w32 ((i 4 5) + 1)) - 1))), (px_sh L, (px_up i 4 5 (px_w32 ((i 4 5) + 1))), l, r, t)) := ((xs_aldn k55_24 rfl).trans ((xs_dup k55_25 rfl).trans ((xs_get0 k55_26 (px_s4 L) (Nat.le_of_ble_eq_true rfl)).trans ((xs_ic k55_29 (by omega)).trans ((xs_iadd k55_30).trans ((xs_put0 k55_31 (Or.inl rfl) (px_s4 L) (Nat.le_of_ble_eq_true rfl)).trans ((xs_aldn k55_34 rfl).trans ((xs_get0 k55_35 (px_s4 L) (Nat.le_of_ble_eq_true rfl)).trans ((xs_ic k55_38 (by omega)).trans ((xs_isub k55_39).trans (xs_ri k55_40 rfl)))))))))))
-- House.highOf ('R4', 'I')
theorem b56_0 (hr : px_hr r) (d : Nat) (i l : MI) (x1 : Int) : px_X (d + 1) 56 (0, [vR 4, vI x1], []) (px_sh L, i, l, r, t) = (px_C d 33 [vR 14, vI x1] (px_sh L, i, l, r, t)).bind (fun q => px_X (d + 1) 56 (px_psh (8, [vR 4, vI x1], []) q.1) q.2) := ((xs_aldn k56_0 rfl).trans ((xs_get4 k56_1 (px_s4 L) (Nat.le_of_ble_eq_true rfl) (px_r4_10 hr)).trans ((xs_ildn k56_4 rfl).trans (xs_callsB k56_5 (as := [vR 14, vI x1]) rfl rfl (Nat.le_of_ble_eq_true rfl) (Nat.le_of_ble_eq_true rfl) (Nat.le_of_ble_eq_true rfl)))))
theorem b56_8 (hr : px_hr r) (d : Nat) (i l : MI) (x1 : Int) (xs0 : Int) : px_X d 56 (8, [vR 4, vI x1], [vI xs0]) (px_sh L, i, l, r, t) = some (some (vI xs0), (px_sh L, i, l, r, t)) := (xs_ri k56_8 rfl)
-- House.bitsHere ('R4',)
theorem b57_0 (hr : px_hr r) (d : Nat) (i l : MI)  : px_X d 57 (0, [vR 4, vJ, vJ, vJ], []) (px_sh L, i, l, r, t) = px_X d 57 (4, [vR 4, vI 0, vI 0, vJ], []) (px_sh L, i, l, r, t) := ((xs_ic k57_0 (by omega)).trans ((xs_istn k57_1 (Nat.le_of_ble_eq_true rfl) (ls' := [vR 4, vI 0, vJ, vJ]) rfl).trans ((xs_ic k57_2 (by omega)).trans (xs_istn k57_3 (Nat.le_of_ble_eq_true rfl) (ls' := [vR 4, vI 0, vI 0, vJ]) rfl))))
theorem b57_4 (hr : px_hr r) (d : Nat) (i l : MI) (x1 : Int) (x2 : Int) {v3 : PV} (hn3 : px_nl v3) : px_X (d + 1) 57 (4, [vR 4, vI x1, vI x2, v3], []) (px_sh L, i, l, r, t) = if (i 4 6) ≤ x2 then some (some (vI x1), (px_sh L, i, l, r, t)) else (px_C d 52 [vR 4, vI x2] (px_sh L, i, l, r, t)).bind (fun q => px_X (d + 1) 57 (px_psh (17, [vR 4, vI x1, vI x2, v3], []) q.1) q.2) := ((xs_ildn k57_4 rfl).trans ((xs_aldn k57_5 rfl).trans ((xs_get0 k57_6 (px_s4 L) (Nat.le_of_ble_eq_true rfl)).trans ((xs_jge k57_9).trans (px_ite (fun c1 => ((xs_ildn k57_41 rfl).trans (xs_ri k57_42 rfl))) (fun c1 => ((xs_aldn k57_12 rfl).trans ((xs_ildn k57_13 rfl).trans (xs_callvB k57_14 (as := [vI x2]) rfl rfl (Nat.le_of_ble_eq_true rfl) (Nat.le_of_ble_eq_true rfl) (Nat.le_of_ble_eq_true rfl) (px_s4 L) (Nat.le_of_ble_eq_true rfl))))))))))
theorem b57_17_N (hr : px_hr r) (d : Nat) (i l : MI) (x1 : Int) (x2 : Int) {v3 : PV} (hn3 : px_nl v3) : px_X d 57 (17, [vR 4, vI x1, vI x2, v3], [vN]) (px_sh L, i, l, r, t) = px_X d 57 (4, [vR 4, vI x1, vI (px_w32 (x2 + 1)), vN], []) (px_sh L, i, l, r, t) := ((xs_astn k57_17 (Nat.le_of_ble_eq_true rfl) (ls' := [vR 4, vI x1, vI x2, vN]) rfl).trans ((xs_aldn k57_18 rfl).trans ((xs_nullN k57_19).trans ((xs_iinc k57_35 rfl (by omega) (ls' := [vR 4, vI x1, vI (px_w32 (x2 + 1)), vN]) rfl).trans (xs_goto k57_38)))))
theorem b57_17_g (hr : px_hr r) (d : Nat) (i l : MI) (x1 : Int) (x2 : Int) {v3 : PV} (hn3 : px_nl v3) {ks0 : Nat} (hgs0 : px_gs ks0) : px_X d 57 (17, [vR 4, vI x1, vI x2, v3], [vR ks0]) (px_sh L, i, l, r, t) = if (i ks0 8) = 0 then px_X d 57 (4, [vR 4, vI x1, vI (px_w32 (x2 + 1)), vR ks0], []) (px_sh L, i, l, r, t) else px_X d 57 (4, [vR 4, vI (px_or x1 (px_shl 1 x2)), vI (px_w32 (x2 + 1)), vR ks0], []) (px_sh L, i, l, r, t) := ((xs_astn k57_17 (Nat.le_of_ble_eq_true rfl) (ls' := [vR 4, vI x1, vI x2, vR ks0]) rfl).trans ((xs_aldn k57_18 rfl).trans ((xs_nullR k57_19).trans ((xs_aldn k57_22 rfl).trans ((xs_get1 k57_23 (px_gs_sh hgs0) (px_gs_3 hgs0)).trans ((xs_ieq k57_26).trans (px_ite (fun c1 => ((xs_iinc k57_35 rfl (by omega) (ls' := [vR 4, vI x1, vI (px_w32 (x2 + 1)), vR ks0]) rfl).trans (xs_goto k57_38))) (fun c1 => ((xs_ildn k57_29 rfl).trans ((xs_ic k57_30 (by omega)).trans ((xs_ildn k57_31 rfl).trans ((xs_ishl k57_32).trans ((xs_ior k57_33).trans ((xs_istn k57_34 (Nat.le_of_ble_eq_true rfl) (ls' := [vR 4, vI (px_or x1 (px_shl 1 x2)), vI x2, vR ks0]) rfl).trans ((xs_iinc k57_35 rfl (by omega) (ls' := [vR 4, vI (px_or x1 (px_shl 1 x2)), vI (px_w32 (x2 + 1)), vR ks0]) rfl).trans (xs_goto k57_38))))))))))))))))
-- House.countOf ('R4', 'I')
theorem b58_0 (hr : px_hr r) (d : Nat) (i l : MI) (x1 : Int) : px_X d 58 (0, [vR 4, vI x1], []) (px_sh L, i, l, r, t) = if x1 = 0 then some (some (vI (i 19 0)), (px_sh L, i, l, r, t)) else if x1 = 1 then some (some (vI (i 19 1)), (px_sh L, i, l, r, t)) else if x1 = 2 then some (some (vI (i 19 8)), (px_sh L, i, l, r, t)) else if x1 = 3 then some (some (vI (i 4 3)), (px_sh L, i, l, r, t)) else if x1 = 4 then some (some (vI (i 4 4)), (px_sh L, i, l, r, t)) else if x1 = 5 then some (some (vI (i 4 5)), (px_sh L, i, l, r, t)) else if x1 = 6 then some (some (vI (i 4 6)), (px_sh L, i, l, r, t)) else if x1 = 7 then some (some (vI (i 4 7)), (px_sh L, i, l, r, t)) else if x1 = 8 then some (some (vI (i 4 8)), (px_sh L, i, l, r, t)) else if x1 = 9 then some (some (vI (i 4 9)), (px_sh L, i, l, r, t)) else if x1 = 10 then some (some (vI (i 5 0)), (px_sh L, i, l, r, t)) else some (some (vI (-1000)), (px_sh L, i, l, r, t)) := ((xs_ildn k58_0 rfl).trans (px_swi (fun c1 => ((xs_tsw k58_1 (tg := 60) (by rw [c1]; omega) (by rw [c1]; rfl)).trans ((xs_aldn k58_60 rfl).trans ((xs_get4 k58_61 (px_s4 L) (Nat.le_of_ble_eq_true rfl) (px_r4_0 hr)).trans ((xs_get0 k58_64 (px_s19 L) (Nat.le_of_ble_eq_true rfl)).trans (xs_ri k58_67 rfl)))))) (fun c1 => (px_swi (fun c2 => ((xs_tsw k58_1 (tg := 68) (by rw [c2]; omega) (by rw [c2]; rfl)).trans ((xs_aldn k58_68 rfl).trans ((xs_get4 k58_69 (px_s4 L) (Nat.le_of_ble_eq_true rfl) (px_r4_0 hr)).trans ((xs_get0 k58_72 (px_s19 L) (Nat.le_of_ble_eq_true rfl)).trans (xs_ri k58_75 rfl)))))) (fun c2 => (px_swi (fun c3 => ((xs_tsw k58_1 (tg := 76) (by rw [c3]; omega) (by rw [c3]; rfl)).trans ((xs_aldn k58_76 rfl).trans ((xs_get4 k58_77 (px_s4 L) (Nat.le_of_ble_eq_true rfl) (px_r4_0 hr)).trans ((xs_get0 k58_80 (px_s19 L) (Nat.le_of_ble_eq_true rfl)).trans (xs_ri k58_83 rfl)))))) (fun c3 => (px_swi (fun c4 => ((xs_tsw k58_1 (tg := 84) (by rw [c4]; omega) (by rw [c4]; rfl)).trans ((xs_aldn k58_84 rfl).trans ((xs_get0 k58_85 (px_s4 L) (Nat.le_of_ble_eq_true rfl)).trans (xs_ri k58_88 rfl))))) (fun c4 => (px_swi (fun c5 => ((xs_tsw k58_1 (tg := 89) (by rw [c5]; omega) (by rw [c5]; rfl)).trans ((xs_aldn k58_89 rfl).trans ((xs_get0 k58_90 (px_s4 L) (Nat.le_of_ble_eq_true rfl)).trans (xs_ri k58_93 rfl))))) (fun c5 => (px_swi (fun c6 => ((xs_tsw k58_1 (tg := 94) (by rw [c6]; omega) (by rw [c6]; rfl)).trans ((xs_aldn k58_94 rfl).trans ((xs_get0 k58_95 (px_s4 L) (Nat.le_of_ble_eq_true rfl)).trans (xs_ri k58_98 rfl))))) (fun c6 => (px_swi (fun c7 => ((xs_tsw k58_1 (tg := 99) (by rw [c7]; omega) (by rw [c7]; rfl)).trans ((xs_aldn k58_99 rfl).trans ((xs_get0 k58_100 (px_s4 L) (Nat.le_of_ble_eq_true rfl)).trans (xs_ri k58_103 rfl))))) (fun c7 => (px_swi (fun c8 => ((xs_tsw k58_1 (tg := 104) (by rw [c8]; omega) (by rw [c8]; rfl)).trans ((xs_aldn k58_104 rfl).trans ((xs_get0 k58_105 (px_s4 L) (Nat.le_of_ble_eq_true rfl)).trans (xs_ri k58_108 rfl))))) (fun c8 => (px_swi (fun c9 => ((xs_tsw k58_1 (tg := 109) (by rw [c9]; omega) (by rw [c9]; rfl)).trans ((xs_aldn k58_109 rfl).trans ((xs_get0 k58_110 (px_s4 L) (Nat.le_of_ble_eq_true rfl)).trans (xs_ri k58_113 rfl))))) (fun c9 => (px_swi (fun c10 => ((xs_tsw k58_1 (tg := 114) (by rw [c10]; omega) (by rw [c10]; rfl)).trans ((xs_aldn k58_114 rfl).trans ((xs_get0 k58_115 (px_s4 L) (Nat.le_of_ble_eq_true rfl)).trans (xs_ri k58_118 rfl))))) (fun c10 => (px_swi (fun c11 => ((xs_tsw k58_1 (tg := 119) (by rw [c11]; omega) (by rw [c11]; rfl)).trans ((xs_aldn k58_119 rfl).trans ((xs_get4 k58_120 (px_s4 L) (Nat.le_of_ble_eq_true rfl) (px_r4_1 hr)).trans ((xs_get0 k58_123 (px_s5 L) (Nat.le_of_ble_eq_true rfl)).trans (xs_ri k58_126 rfl)))))) (fun c11 => ((xs_tswd k58_1 (by omega)).trans ((xs_si k58_127 (by omega)).trans (xs_ri k58_130 rfl))))))))))))))))))))))))))
-- House.perchAbout ('R4', 'I')
theorem b59_0 (hr : px_hr r) (d : Nat) (i l : MI) (x1 : Int) : px_X d 59 (0, [vR 4, vI x1, vJ], []) (px_sh L, i, l, r, t) = if 30 ≤ x1 then px_X d 59 (17, [vR 4, vI x1, vJ], [vI (px_w32 (x1 - 30))]) (px_sh L, i, l, r, t) else px_X d 59 (17, [vR 4, vI x1, vJ], [vI (px_w32 (x1 - 20))]) (px_sh L, i, l, r, t) := ((xs_ildn k59_0 rfl).trans ((xs_bi k59_1 (by omega)).trans ((xs_jge k59_3).trans (px_ite (fun c1 => ((xs_ildn k59_13 rfl).trans ((xs_bi k59_14 (by omega)).trans (xs_isub k59_16)))) (fun c1 => ((xs_ildn k59_6 rfl).trans ((xs_bi k59_7 (by omega)).trans ((xs_isub k59_9).trans (xs_goto k59_10)))))))))
theorem b59_17 (hr : px_hr r) (d : Nat) (i l : MI) (x1 : Int) (xs0 : Int) : px_X (d + 1) 59 (17, [vR 4, vI x1, vJ], [vI xs0]) (px_sh L, i, l, r, t) = if xs0 < 0 then some (some (vI (-1000)), (px_sh L, i, l, r, t)) else if xs0 < (i 4 5) then if 30 ≤ x1 then (px_C d 33 [vR 15, vI xs0] (px_sh L, i, l, r, t)).bind (fun q => px_X (d + 1) 59 (px_psh (59, [vR 4, vI x1, vI xs0], []) q.1) q.2) else (px_C d 33 [vR 14, vI xs0] (px_sh L, i, l, r, t)).bind (fun q => px_X (d + 1) 59 (px_psh (48, [vR 4, vI x1, vI xs0], []) q.1) q.2) else some (some (vI (-1000)), (px_sh L, i, l, r, t)) := ((xs_istn k59_17 (Nat.le_of_ble_eq_true rfl) (ls' := [vR 4, vI x1, vI xs0]) rfl).trans ((xs_ildn k59_18 rfl).trans ((xs_ilt k59_19).trans (px_ite (fun c1 => ((xs_si k59_30 (by omega)).trans (xs_ri k59_33 rfl))) (fun c1 => ((xs_ildn k59_22 rfl).trans ((xs_aldn k59_23 rfl).trans ((xs_get0 k59_24 (px_s4 L) (Nat.le_of_ble_eq_true rfl)).trans ((xs_jlt k59_27).trans (px_ite (fun c2 => ((xs_ildn k59_34 rfl).trans ((xs_bi k59_35 (by omega)).trans ((xs_jge k59_37).trans (px_ite (fun c3 => ((xs_aldn k59_51 rfl).trans ((xs_get4 k59_52 (px_s4 L) (Nat.le_of_ble_eq_true rfl) (px_r4_11 hr)).trans ((xs_ildn k59_55 rfl).trans (xs_callsB k59_56 (as := [vR 15, vI xs0]) rfl rfl (Nat.le_of_ble_eq_true rfl) (Nat.le_of_ble_eq_true rfl) (Nat.le_of_ble_eq_true rfl)))))) (fun c3 => ((xs_aldn k59_40 rfl).trans ((xs_get4 k59_41 (px_s4 L) (Nat.le_of_ble_eq_true rfl) (px_r4_10 hr)).trans ((xs_ildn k59_44 rfl).trans (xs_callsB k59_45 (as := [vR 14, vI xs0]) rfl rfl (Nat.le_of_ble_eq_true rfl) (Nat.le_of_ble_eq_true rfl) (Nat.le_of_ble_eq_true rfl))))))))))) (fun c2 => ((xs_si k59_30 (by omega)).trans (xs_ri k59_33 rfl)))))))))))))
theorem b59_48 (hr : px_hr r) (d : Nat) (i l : MI) (x1 : Int) (x2 : Int) (xs0 : Int) : px_X d 59 (48, [vR 4, vI x1, vI x2], [vI xs0]) (px_sh L, i, l, r, t) = some (some (vI xs0), (px_sh L, i, l, r, t)) := ((xs_goto k59_48).trans (xs_ri k59_59 rfl))
theorem b59_59 (hr : px_hr r) (d : Nat) (i l : MI) (x1 : Int) (x2 : Int) (xs0 : Int) : px_X d 59 (59, [vR 4, vI x1, vI x2], [vI xs0]) (px_sh L, i, l, r, t) = some (some (vI xs0), (px_sh L, i, l, r, t)) := (xs_ri k59_59 rfl)
-- House.guestAbout ('R4', 'I')
theorem b60_0 (hr : px_hr r) (d : Nat) (i l : MI) (x1 : Int) : px_X (d + 1) 60 (0, [vR 4, vI x1, vJ], []) (px_sh L, i, l, r, t) = if 50 ≤ x1 then if 60 ≤ x1 then (px_C d 52 [vR 4, vI (px_w32 (x1 - 60))] (px_sh L, i, l, r, t)).bind (fun q => px_X (d + 1) 60 (px_psh (68, [vR 4, vI x1, vJ], []) q.1) q.2) else (px_C d 52 [vR 4, vI (px_w32 (x1 - 50))] (px_sh L, i, l, r, t)).bind (fun q => px_X (d + 1) 60 (px_psh (44, [vR 4, vI x1, vJ], []) q.1) q.2) else (px_C d 52 [vR 4, vI (px_w32 (x1 - 40))] (px_sh L, i, l, r, t)).bind (fun q => px_X (d + 1) 60 (px_psh (14, [vR 4, vI x1, vJ], []) q.1) q.2) := ((xs_ildn k60_0 rfl).trans ((xs_bi k60_1 (by omega)).trans ((xs_jge k60_3).trans (px_ite (fun c1 => ((xs_ildn k60_30 rfl).trans ((xs_bi k60_31 (by omega)).trans ((xs_jge k60_33).trans (px_ite (fun c2 => ((xs_aldn k60_60 rfl).trans ((xs_ildn k60_61 rfl).trans ((xs_bi k60_62 (by omega)).trans ((xs_isub k60_64).trans (xs_callvB k60_65 (as := [vI (px_w32 (x1 - 60))]) rfl rfl (Nat.le_of_ble_eq_true rfl) (Nat.le_of_ble_eq_true rfl) (Nat.le_of_ble_eq_true rfl) (px_s4 L) (Nat.le_of_ble_eq_true rfl))))))) (fun c2 => ((xs_aldn k60_36 rfl).trans ((xs_ildn k60_37 rfl).trans ((xs_bi k60_38 (by omega)).trans ((xs_isub k60_40).trans (xs_callvB k60_41 (as := [vI (px_w32 (x1 - 50))]) rfl rfl (Nat.le_of_ble_eq_true rfl) (Nat.le_of_ble_eq_true rfl) (Nat.le_of_ble_eq_true rfl) (px_s4 L) (Nat.le_of_ble_eq_true rfl)))))))))))) (fun c1 => ((xs_aldn k60_6 rfl).trans ((xs_ildn k60_7 rfl).trans ((xs_bi k60_8 (by omega)).trans ((xs_isub k60_10).trans (xs_callvB k60_11 (as := [vI (px_w32 (x1 - 40))]) rfl rfl (Nat.le_of_ble_eq_true rfl) (Nat.le_of_ble_eq_true rfl) (Nat.le_of_ble_eq_true rfl) (px_s4 L) (Nat.le_of_ble_eq_true rfl)))))))))))
theorem b60_14_N (hr : px_hr r) (d : Nat) (i l : MI) (x1 : Int) : px_X d 60 (14, [vR 4, vI x1, vJ], [vN]) (px_sh L, i, l, r, t) = some (some (vI (-1000)), (px_sh L, i, l, r, t)) := ((xs_astn k60_14 (Nat.le_of_ble_eq_true rfl) (ls' := [vR 4, vI x1, vN]) rfl).trans ((xs_aldn k60_15 rfl).trans ((xs_nnulN k60_16).trans ((xs_si k60_19 (by omega)).trans ((xs_goto k60_22).trans (xs_ri k60_29 rfl))))))
theorem b60_14_g (hr : px_hr r) (d : Nat) (i l : MI) (x1 : Int) {ks0 : Nat} (hgs0 : px_gs ks0) : px_X d 60 (14, [vR 4, vI x1, vJ], [vR ks0]) (px_sh L, i, l, r, t) = some (some (vI (i ks0 0)), (px_sh L, i, l, r, t)) := ((xs_astn k60_14 (Nat.le_of_ble_eq_true rfl) (ls' := [vR 4, vI x1, vR ks0]) rfl).trans ((xs_aldn k60_15 rfl).trans ((xs_nnulR k60_16).trans ((xs_aldn k60_25 rfl).trans ((xs_get0 k60_26 (px_gs_sh hgs0) (px_gs_3 hgs0)).trans (xs_ri k60_29 rfl))))))
theorem b60_44_N (hr : px_hr r) (d : Nat) (i l : MI) (x1 : Int) : px_X d 60 (44, [vR 4, vI x1, vJ], [vN]) (px_sh L, i, l, r, t) = some (some (vI (-1000)), (px_sh L, i, l, r, t)) := ((xs_astn k60_44 (Nat.le_of_ble_eq_true rfl) (ls' := [vR 4, vI x1, vN]) rfl).trans ((xs_aldn k60_45 rfl).trans ((xs_nnulN k60_46).trans ((xs_si k60_49 (by omega)).trans ((xs_goto k60_52).trans (xs_ri k60_59 rfl))))))
theorem b60_44_g (hr : px_hr r) (d : Nat) (i l : MI) (x1 : Int) {ks0 : Nat} (hgs0 : px_gs ks0) : px_X d 60 (44, [vR 4, vI x1, vJ], [vR ks0]) (px_sh L, i, l, r, t) = some (some (vI (i ks0 7)), (px_sh L, i, l, r, t)) := ((xs_astn k60_44 (Nat.le_of_ble_eq_true rfl) (ls' := [vR 4, vI x1, vR ks0]) rfl).trans ((xs_aldn k60_45 rfl).trans ((xs_nnulR k60_46).trans ((xs_aldn k60_55 rfl).trans ((xs_get0 k60_56 (px_gs_sh hgs0) (px_gs_3 hgs0)).trans (xs_ri k60_59 rfl))))))
theorem b60_68_N (hr : px_hr r) (d : Nat) (i l : MI) (x1 : Int) : px_X d 60 (68, [vR 4, vI x1, vJ], [vN]) (px_sh L, i, l, r, t) = some (some (vI (-1000)), (px_sh L, i, l, r, t)) := ((xs_astn k60_68 (Nat.le_of_ble_eq_true rfl) (ls' := [vR 4, vI x1, vN]) rfl).trans ((xs_aldn k60_69 rfl).trans ((xs_nnulN k60_70).trans ((xs_si k60_73 (by omega)).trans (xs_ri k60_76 rfl)))))
theorem b60_68_g (hr : px_hr r) (d : Nat) (i l : MI) (x1 : Int) {ks0 : Nat} (hgs0 : px_gs ks0) : px_X d 60 (68, [vR 4, vI x1, vJ], [vR ks0]) (px_sh L, i, l, r, t) = if (i ks0 8) = 0 then some (some (vI 0), (px_sh L, i, l, r, t)) else some (some (vI 1), (px_sh L, i, l, r, t)) := ((xs_astn k60_68 (Nat.le_of_ble_eq_true rfl) (ls' := [vR 4, vI x1, vR ks0]) rfl).trans ((xs_aldn k60_69 rfl).trans ((xs_nnulR k60_70).trans ((xs_aldn k60_77 rfl).trans ((xs_get1 k60_78 (px_gs_sh hgs0) (px_gs_3 hgs0)).trans ((xs_ieq k60_81).trans (px_ite (fun c1 => ((xs_ic k60_88 (by omega)).trans (xs_ri k60_89 rfl))) (fun c1 => ((xs_ic k60_84 (by omega)).trans ((xs_goto k60_85).trans (xs_ri k60_89 rfl)))))))))))
-- House.copyFrom ('R31', 'R4')
theorem b61_R31R4_0 (hr : px_hr r) (d : Nat) (i l : MI)  : px_X (d + 1) 61 (0, [vR 31, vR 4, vJ], []) (px_sh L, i, l, r, t) = (px_C d 44 [vR 46, vR 19] (px_sh L, i, l, r, t)).bind (fun q => px_X (d + 1) 61 (px_psh (11, [vR 31, vR 4, vJ], []) q.1) q.2) := ((xs_aldn k61_0 rfl).trans ((xs_get4 k61_1 (px_s31 L) (Nat.le_of_ble_eq_true rfl) (px_r31_0 hr)).trans ((xs_aldn k61_4 rfl).trans ((xs_get4 k61_5 (px_s4 L) (Nat.le_of_ble_eq_true rfl) (px_r4_0 hr)).trans (xs_callvB k61_8 (as := [vR 19]) rfl rfl (Nat.le_of_ble_eq_true rfl) (Nat.le_of_ble_eq_true rfl) (Nat.le_of_ble_eq_true rfl) (px_s46 L) (Nat.le_of_ble_eq_true rfl))))))
theorem b61_R31R4_11 (hr : px_hr r) (d : Nat) (i l : MI)  : px_X (d + 1) 61 (11, [vR 31, vR 4, vJ], []) (px_sh L, i, l, r, t) = (px_C d 47 [vR 32, vR 5] (px_sh L, i, l, r, t)).bind (fun q => px_X (d + 1) 61 (px_psh (22, [vR 31, vR 4, vJ], []) q.1) q.2) := ((xs_aldn k61_11 rfl).trans ((xs_get4 k61_12 (px_s31 L) (Nat.le_of_ble_eq_true rfl) (px_r31_1 hr)).trans ((xs_aldn k61_15 rfl).trans ((xs_get4 k61_16 (px_s4 L) (Nat.le_of_ble_eq_true rfl) (px_r4_1 hr)).trans (xs_callvB k61_19 (as := [vR 5]) rfl rfl (Nat.le_of_ble_eq_true rfl) (Nat.le_of_ble_eq_true rfl) (Nat.le_of_ble_eq_true rfl) (px_s32 L) (Nat.le_of_ble_eq_true rfl))))))
theorem b61_R31R4_22 (hr : px_hr r) (d : Nat) (i l : MI)  : px_X (d + 1) 61 (22, [vR 31, vR 4, vJ], []) (px_sh L, i, l, r, t) = (px_C d 88 [vR 36, vR 9] (px_sh L, i, l, r, t)).bind (fun q => px_X (d + 1) 61 (px_psh (33, [vR 31, vR 4, vJ], []) q.1) q.2) := ((xs_aldn k61_22 rfl).trans ((xs_get4 k61_23 (px_s31 L) (Nat.le_of_ble_eq_true rfl) (px_r31_2 hr)).trans ((xs_aldn k61_26 rfl).trans ((xs_get4 k61_27 (px_s4 L) (Nat.le_of_ble_eq_true rfl) (px_r4_2 hr)).trans (xs_callvB k61_30 (as := [vR 9]) rfl rfl (Nat.le_of_ble_eq_true rfl) (Nat.le_of_ble_eq_true rfl) (Nat.le_of_ble_eq_true rfl) (px_s36 L) (Nat.le_of_ble_eq_true rfl))))))
theorem b61_R31R4_33 (hr : px_hr r) (d : Nat) (i l : MI)  : px_X (d + 1) 61 (33, [vR 31, vR 4, vJ], []) (px_sh L, i, l, r, t) = (px_C d 35 [vR 14, vR 41] (px_sh L, (px_up (px_up (px_up (px_up (px_up (px_up (px_up i 31 3 (i 4 3)) 31 4 (i 4 4)) 31 5 (i 4 5)) 31 6 (i 4 6)) 31 7 (i 4 7)) 31 8 (i 4 8)) 31 9 (i 4 9)), l, r, t)).bind (fun q => px_X (d + 1) 61 (px_psh (100, [vR 31, vR 4, vJ], []) q.1) q.2) := ((xs_aldn k61_33 rfl).trans ((xs_aldn k61_34 rfl).trans ((xs_get0 k61_35 (px_s4 L) (Nat.le_of_ble_eq_true rfl)).trans ((xs_put0 k61_38 (Or.inl rfl) (px_s31 L) (Nat.le_of_ble_eq_true rfl)).trans ((xs_aldn k61_41 rfl).trans ((xs_aldn k61_42 rfl).trans ((xs_get0 k61_43 (px_s4 L) (Nat.le_of_ble_eq_true rfl)).trans ((xs_put0 k61_46 (Or.inl rfl) (px_s31 L) (Nat.le_of_ble_eq_true rfl)).trans ((xs_aldn k61_49 rfl).trans ((xs_aldn k61_50 rfl).trans ((xs_get0 k61_51 (px_s4 L) (Nat.le_of_ble_eq_true rfl)).trans ((xs_put0 k61_54 (Or.inl rfl) (px_s31 L) (Nat.le_of_ble_eq_true rfl)).trans ((xs_aldn k61_57 rfl).trans ((xs_aldn k61_58 rfl).trans ((xs_get0 k61_59 (px_s4 L) (Nat.le_of_ble_eq_true rfl)).trans ((xs_put0 k61_62 (Or.inl rfl) (px_s31 L) (Nat.le_of_ble_eq_true rfl)).trans ((xs_aldn k61_65 rfl).trans ((xs_aldn k61_66 rfl).trans ((xs_get0 k61_67 (px_s4 L) (Nat.le_of_ble_eq_true rfl)).trans ((xs_put0 k61_70 (Or.inl rfl) (px_s31 L) (Nat.le_of_ble_eq_true rfl)).trans ((xs_aldn k61_73 rfl).trans ((xs_aldn k61_74 rfl).trans ((xs_get0 k61_75 (px_s4 L) (Nat.le_of_ble_eq_true rfl)).trans ((xs_put0 k61_78 (Or.inl rfl) (px_s31 L) (Nat.le_of_ble_eq_true rfl)).trans ((xs_aldn k61_81 rfl).trans ((xs_aldn k61_82 rfl).trans ((xs_get0 k61_83 (px_s4 L) (Nat.le_of_ble_eq_true rfl)).trans ((xs_put0 k61_86 (Or.inl rfl) (px_s31 L) (Nat.le_of_ble_eq_true rfl)).trans ((xs_aldn k61_89 rfl).trans ((xs_get4 k61_90 (px_s4 L) (Nat.le_of_ble_eq_true rfl) (px_r4_10 hr)).trans ((xs_aldn k61_93 rfl).trans ((xs_get4 k61_94 (px_s31 L) (Nat.le_of_ble_eq_true rfl) (px_r31_10 hr)).trans (xs_callsB k61_97 (as := [vR 14, vR 41]) rfl rfl (Nat.le_of_ble_eq_true rfl) (Nat.le_of_ble_eq_true rfl) (Nat.le_of_ble_eq_true rfl))))))))))))))))))))))))))))))))))
theorem b61_R31R4_100 (hr : px_hr r) (d : Nat) (i l : MI)  : px_X (d + 1) 61 (100, [vR 31, vR 4, vJ], []) (px_sh L, i, l, r, t) = (px_C d 35 [vR 15, vR 42] (px_sh L, i, l, r, t)).bind (fun q => px_X (d + 1) 61 (px_psh (111, [vR 31, vR 4, vJ], []) q.1) q.2) := ((xs_aldn k61_100 rfl).trans ((xs_get4 k61_101 (px_s4 L) (Nat.le_of_ble_eq_true rfl) (px_r4_11 hr)).trans ((xs_aldn k61_104 rfl).trans ((xs_get4 k61_105 (px_s31 L) (Nat.le_of_ble_eq_true rfl) (px_r31_11 hr)).trans (xs_callsB k61_108 (as := [vR 15, vR 42]) rfl rfl (Nat.le_of_ble_eq_true rfl) (Nat.le_of_ble_eq_true rfl) (Nat.le_of_ble_eq_true rfl))))))
theorem b61_R31R4_111 (hr : px_hr r) (d : Nat) (i l : MI)  : px_X (d + 1) 61 (111, [vR 31, vR 4, vJ], []) (px_sh L, i, l, r, t) = (px_C d 35 [vR 16, vR 43] (px_sh L, i, l, r, t)).bind (fun q => px_X (d + 1) 61 (px_psh (122, [vR 31, vR 4, vJ], []) q.1) q.2) := ((xs_aldn k61_111 rfl).trans ((xs_get4 k61_112 (px_s4 L) (Nat.le_of_ble_eq_true rfl) (px_r4_12 hr)).trans ((xs_aldn k61_115 rfl).trans ((xs_get4 k61_116 (px_s31 L) (Nat.le_of_ble_eq_true rfl) (px_r31_12 hr)).trans (xs_callsB k61_119 (as := [vR 16, vR 43]) rfl rfl (Nat.le_of_ble_eq_true rfl) (Nat.le_of_ble_eq_true rfl) (Nat.le_of_ble_eq_true rfl))))))
theorem b61_R31R4_122 (hr : px_hr r) (d : Nat) (i l : MI)  : px_X (d + 1) 61 (122, [vR 31, vR 4, vJ], []) (px_sh L, i, l, r, t) = (px_C d 35 [vR 17, vR 44] (px_sh L, i, l, r, t)).bind (fun q => px_X (d + 1) 61 (px_psh (133, [vR 31, vR 4, vJ], []) q.1) q.2) := ((xs_aldn k61_122 rfl).trans ((xs_get4 k61_123 (px_s4 L) (Nat.le_of_ble_eq_true rfl) (px_r4_13 hr)).trans ((xs_aldn k61_126 rfl).trans ((xs_get4 k61_127 (px_s31 L) (Nat.le_of_ble_eq_true rfl) (px_r31_13 hr)).trans (xs_callsB k61_130 (as := [vR 17, vR 44]) rfl rfl (Nat.le_of_ble_eq_true rfl) (Nat.le_of_ble_eq_true rfl) (Nat.le_of_ble_eq_true rfl))))))
theorem b61_R31R4_133 (hr : px_hr r) (d : Nat) (i l : MI)  : px_X d 61 (133, [vR 31, vR 4, vJ], []) (px_sh L, i, l, r, t) = px_X d 61 (135, [vR 31, vR 4, vI 0], []) (px_sh L, i, l, r, t) := ((xs_ic k61_133 (by omega)).trans (xs_istn k61_134 (Nat.le_of_ble_eq_true rfl) (ls' := [vR 31, vR 4, vI 0]) rfl))
theorem b61_R31R4_135 (hr : px_hr r) (d : Nat) (i l : MI) (x2 : Int) (h1 : (¬ (10 ≤ x2)) → (¬ (10 ≤ x2)) → 0 ≤ x2 ∧ x2 < 10) : px_X (d + 1) 61 (135, [vR 31, vR 4, vI x2], []) (px_sh L, i, l, r, t) = if 10 ≤ x2 then some (none, (px_sh L, i, l, r, t)) else if 10 ≤ x2 then some (none, (px_sh L, i, l, r, t)) else (px_C d 50 [vR (48 + x2.toNat), vR (21 + x2.toNat)] (px_sh L, i, l, r, t)).bind (fun q => px_X (d + 1) 61 (px_psh (186, [vR 31, vR 4, vI x2], []) q.1) q.2) := ((xs_ildn k61_135 rfl).trans ((xs_aldn k61_136 rfl).trans ((xs_get4 k61_137 (px_s31 L) (Nat.le_of_ble_eq_true rfl) (px_r31_14 hr)).trans ((xs_aln k61_140 (px_s45 L)).trans ((xs_jge k61_141).trans (px_ite (fun c1 => (xs_rv k61_192 rfl)) (fun c1 => ((xs_ildn k61_144 rfl).trans ((xs_aldn k61_145 rfl).trans ((xs_get4 k61_146 (px_s4 L) (Nat.le_of_ble_eq_true rfl) (px_r4_14 hr)).trans ((xs_aln k61_149 (px_s18 L)).trans ((xs_jge k61_150).trans (px_ite (fun c2 => (xs_rv k61_192 rfl)) (fun c2 => ((xs_aldn k61_153 rfl).trans ((xs_get4 k61_154 (px_s31 L) (Nat.le_of_ble_eq_true rfl) (px_r31_14 hr)).trans ((xs_ildn k61_157 rfl).trans ((xs_aald k61_158 (px_s45 L) (by omega) (h1 c1 c2) (px_gs_r45 hr (h1 c1 c2))).trans ((xs_nullR k61_159).trans ((xs_aldn k61_162 rfl).trans ((xs_get4 k61_163 (px_s4 L) (Nat.le_of_ble_eq_true rfl) (px_r4_14 hr)).trans ((xs_ildn k61_166 rfl).trans ((xs_aald k61_167 (px_s18 L) (by omega) (h1 c1 c2) (px_gs_r18 hr (h1 c1 c2))).trans ((xs_nullR k61_168).trans ((xs_aldn k61_171 rfl).trans ((xs_get4 k61_172 (px_s31 L) (Nat.le_of_ble_eq_true rfl) (px_r31_14 hr)).trans ((xs_ildn k61_175 rfl).trans ((xs_aald k61_176 (px_s45 L) (by omega) (h1 c1 c2) (px_gs_r45 hr (h1 c1 c2))).trans ((xs_aldn k61_177 rfl).trans ((xs_get4 k61_178 (px_s4 L) (Nat.le_of_ble_eq_true rfl) (px_r4_14 hr)).trans ((xs_ildn k61_181 rfl).trans ((xs_aald k61_182 (px_s18 L) (by omega) (h1 c1 c2) (px_gs_r18 hr (h1 c1 c2))).trans (xs_callvB k61_183 (as := [vR (21 + x2.toNat)]) rfl rfl (Nat.le_of_ble_eq_true rfl) (Nat.le_of_ble_eq_true rfl) (Nat.le_of_ble_eq_true rfl) (px_gs_sh (px_gs_mk48 (h1 c1 c2))) (px_gs_3 (px_gs_mk48 (h1 c1 c2))))))))))))))))))))))))))))))))))))
theorem b61_R31R4_186 (hr : px_hr r) (d : Nat) (i l : MI) (x2 : Int) : px_X d 61 (186, [vR 31, vR 4, vI x2], []) (px_sh L, i, l, r, t) = px_X d 61 (135, [vR 31, vR 4, vI (px_w32 (x2 + 1))], []) (px_sh L, i, l, r, t) := ((xs_iinc k61_186 rfl (by omega) (ls' := [vR 31, vR 4, vI (px_w32 (x2 + 1))]) rfl).trans (xs_goto k61_189))
-- House.copyFrom ('R4', 'R31')
theorem b61_R4R31_0 (hr : px_hr r) (d : Nat) (i l : MI)  : px_X (d + 1) 61 (0, [vR 4, vR 31, vJ], []) (px_sh L, i, l, r, t) = (px_C d 44 [vR 19, vR 46] (px_sh L, i, l, r, t)).bind (fun q => px_X (d + 1) 61 (px_psh (11, [vR 4, vR 31, vJ], []) q.1) q.2) := ((xs_aldn k61_0 rfl).trans ((xs_get4 k61_1 (px_s4 L) (Nat.le_of_ble_eq_true rfl) (px_r4_0 hr)).trans ((xs_aldn k61_4 rfl).trans ((xs_get4 k61_5 (px_s31 L) (Nat.le_of_ble_eq_true rfl) (px_r31_0 hr)).trans (xs_callvB k61_8 (as := [vR 46]) rfl rfl (Nat.le_of_ble_eq_true rfl) (Nat.le_of_ble_eq_true rfl) (Nat.le_of_ble_eq_true rfl) (px_s19 L) (Nat.le_of_ble_eq_true rfl))))))
theorem b61_R4R31_11 (hr : px_hr r) (d : Nat) (i l : MI)  : px_X (d + 1) 61 (11, [vR 4, vR 31, vJ], []) (px_sh L, i, l, r, t) = (px_C d 47 [vR 5, vR 32] (px_sh L, i, l, r, t)).bind (fun q => px_X (d + 1) 61 (px_psh (22, [vR 4, vR 31, vJ], []) q.1) q.2) := ((xs_aldn k61_11 rfl).trans ((xs_get4 k61_12 (px_s4 L) (Nat.le_of_ble_eq_true rfl) (px_r4_1 hr)).trans ((xs_aldn k61_15 rfl).trans ((xs_get4 k61_16 (px_s31 L) (Nat.le_of_ble_eq_true rfl) (px_r31_1 hr)).trans (xs_callvB k61_19 (as := [vR 32]) rfl rfl (Nat.le_of_ble_eq_true rfl) (Nat.le_of_ble_eq_true rfl) (Nat.le_of_ble_eq_true rfl) (px_s5 L) (Nat.le_of_ble_eq_true rfl))))))
theorem b61_R4R31_22 (hr : px_hr r) (d : Nat) (i l : MI)  : px_X (d + 1) 61 (22, [vR 4, vR 31, vJ], []) (px_sh L, i, l, r, t) = (px_C d 88 [vR 9, vR 36] (px_sh L, i, l, r, t)).bind (fun q => px_X (d + 1) 61 (px_psh (33, [vR 4, vR 31, vJ], []) q.1) q.2) := ((xs_aldn k61_22 rfl).trans ((xs_get4 k61_23 (px_s4 L) (Nat.le_of_ble_eq_true rfl) (px_r4_2 hr)).trans ((xs_aldn k61_26 rfl).trans ((xs_get4 k61_27 (px_s31 L) (Nat.le_of_ble_eq_true rfl) (px_r31_2 hr)).trans (xs_callvB k61_30 (as := [vR 36]) rfl rfl (Nat.le_of_ble_eq_true rfl) (Nat.le_of_ble_eq_true rfl) (Nat.le_of_ble_eq_true rfl) (px_s9 L) (Nat.le_of_ble_eq_true rfl))))))
theorem b61_R4R31_33 (hr : px_hr r) (d : Nat) (i l : MI)  : px_X (d + 1) 61 (33, [vR 4, vR 31, vJ], []) (px_sh L, i, l, r, t) = (px_C d 35 [vR 41, vR 14] (px_sh L, (px_up (px_up (px_up (px_up (px_up (px_up (px_up i 4 3 (i 31 3)) 4 4 (i 31 4)) 4 5 (i 31 5)) 4 6 (i 31 6)) 4 7 (i 31 7)) 4 8 (i 31 8)) 4 9 (i 31 9)), l, r, t)).bind (fun q => px_X (d + 1) 61 (px_psh (100, [vR 4, vR 31, vJ], []) q.1) q.2) := ((xs_aldn k61_33 rfl).trans ((xs_aldn k61_34 rfl).trans ((xs_get0 k61_35 (px_s31 L) (Nat.le_of_ble_eq_true rfl)).trans ((xs_put0 k61_38 (Or.inl rfl) (px_s4 L) (Nat.le_of_ble_eq_true rfl)).trans ((xs_aldn k61_41 rfl).trans ((xs_aldn k61_42 rfl).trans ((xs_get0 k61_43 (px_s31 L) (Nat.le_of_ble_eq_true rfl)).trans ((xs_put0 k61_46 (Or.inl rfl) (px_s4 L) (Nat.le_of_ble_eq_true rfl)).trans ((xs_aldn k61_49 rfl).trans ((xs_aldn k61_50 rfl).trans ((xs_get0 k61_51 (px_s31 L) (Nat.le_of_ble_eq_true rfl)).trans ((xs_put0 k61_54 (Or.inl rfl) (px_s4 L) (Nat.le_of_ble_eq_true rfl)).trans ((xs_aldn k61_57 rfl).trans ((xs_aldn k61_58 rfl).trans ((xs_get0 k61_59 (px_s31 L) (Nat.le_of_ble_eq_true rfl)).trans ((xs_put0 k61_62 (Or.inl rfl) (px_s4 L) (Nat.le_of_ble_eq_true rfl)).trans ((xs_aldn k61_65 rfl).trans ((xs_aldn k61_66 rfl).trans ((xs_get0 k61_67 (px_s31 L) (Nat.le_of_ble_eq_true rfl)).trans ((xs_put0 k61_70 (Or.inl rfl) (px_s4 L) (Nat.le_of_ble_eq_true rfl)).trans ((xs_aldn k61_73 rfl).trans ((xs_aldn k61_74 rfl).trans ((xs_get0 k61_75 (px_s31 L) (Nat.le_of_ble_eq_true rfl)).trans ((xs_put0 k61_78 (Or.inl rfl) (px_s4 L) (Nat.le_of_ble_eq_true rfl)).trans ((xs_aldn k61_81 rfl).trans ((xs_aldn k61_82 rfl).trans ((xs_get0 k61_83 (px_s31 L) (Nat.le_of_ble_eq_true rfl)).trans ((xs_put0 k61_86 (Or.inl rfl) (px_s4 L) (Nat.le_of_ble_eq_true rfl)).trans ((xs_aldn k61_89 rfl).trans ((xs_get4 k61_90 (px_s31 L) (Nat.le_of_ble_eq_true rfl) (px_r31_10 hr)).trans ((xs_aldn k61_93 rfl).trans ((xs_get4 k61_94 (px_s4 L) (Nat.le_of_ble_eq_true rfl) (px_r4_10 hr)).trans (xs_callsB k61_97 (as := [vR 41, vR 14]) rfl rfl (Nat.le_of_ble_eq_true rfl) (Nat.le_of_ble_eq_true rfl) (Nat.le_of_ble_eq_true rfl))))))))))))))))))))))))))))))))))
theorem b61_R4R31_100 (hr : px_hr r) (d : Nat) (i l : MI)  : px_X (d + 1) 61 (100, [vR 4, vR 31, vJ], []) (px_sh L, i, l, r, t) = (px_C d 35 [vR 42, vR 15] (px_sh L, i, l, r, t)).bind (fun q => px_X (d + 1) 61 (px_psh (111, [vR 4, vR 31, vJ], []) q.1) q.2) := ((xs_aldn k61_100 rfl).trans ((xs_get4 k61_101 (px_s31 L) (Nat.le_of_ble_eq_true rfl) (px_r31_11 hr)).trans ((xs_aldn k61_104 rfl).trans ((xs_get4 k61_105 (px_s4 L) (Nat.le_of_ble_eq_true rfl) (px_r4_11 hr)).trans (xs_callsB k61_108 (as := [vR 42, vR 15]) rfl rfl (Nat.le_of_ble_eq_true rfl) (Nat.le_of_ble_eq_true rfl) (Nat.le_of_ble_eq_true rfl))))))
theorem b61_R4R31_111 (hr : px_hr r) (d : Nat) (i l : MI)  : px_X (d + 1) 61 (111, [vR 4, vR 31, vJ], []) (px_sh L, i, l, r, t) = (px_C d 35 [vR 43, vR 16] (px_sh L, i, l, r, t)).bind (fun q => px_X (d + 1) 61 (px_psh (122, [vR 4, vR 31, vJ], []) q.1) q.2) := ((xs_aldn k61_111 rfl).trans ((xs_get4 k61_112 (px_s31 L) (Nat.le_of_ble_eq_true rfl) (px_r31_12 hr)).trans ((xs_aldn k61_115 rfl).trans ((xs_get4 k61_116 (px_s4 L) (Nat.le_of_ble_eq_true rfl) (px_r4_12 hr)).trans (xs_callsB k61_119 (as := [vR 43, vR 16]) rfl rfl (Nat.le_of_ble_eq_true rfl) (Nat.le_of_ble_eq_true rfl) (Nat.le_of_ble_eq_true rfl))))))
theorem b61_R4R31_122 (hr : px_hr r) (d : Nat) (i l : MI)  : px_X (d + 1) 61 (122, [vR 4, vR 31, vJ], []) (px_sh L, i, l, r, t) = (px_C d 35 [vR 44, vR 17] (px_sh L, i, l, r, t)).bind (fun q => px_X (d + 1) 61 (px_psh (133, [vR 4, vR 31, vJ], []) q.1) q.2) := ((xs_aldn k61_122 rfl).trans ((xs_get4 k61_123 (px_s31 L) (Nat.le_of_ble_eq_true rfl) (px_r31_13 hr)).trans ((xs_aldn k61_126 rfl).trans ((xs_get4 k61_127 (px_s4 L) (Nat.le_of_ble_eq_true rfl) (px_r4_13 hr)).trans (xs_callsB k61_130 (as := [vR 44, vR 17]) rfl rfl (Nat.le_of_ble_eq_true rfl) (Nat.le_of_ble_eq_true rfl) (Nat.le_of_ble_eq_true rfl))))))
theorem b61_R4R31_133 (hr : px_hr r) (d : Nat) (i l : MI)  : px_X d 61 (133, [vR 4, vR 31, vJ], []) (px_sh L, i, l, r, t) = px_X d 61 (135, [vR 4, vR 31, vI 0], []) (px_sh L, i, l, r, t) := ((xs_ic k61_133 (by omega)).trans (xs_istn k61_134 (Nat.le_of_ble_eq_true rfl) (ls' := [vR 4, vR 31, vI 0]) rfl))
theorem b61_R4R31_135 (hr : px_hr r) (d : Nat) (i l : MI) (x2 : Int) (h1 : (¬ (10 ≤ x2)) → (¬ (10 ≤ x2)) → 0 ≤ x2 ∧ x2 < 10) : px_X (d + 1) 61 (135, [vR 4, vR 31, vI x2], []) (px_sh L, i, l, r, t) = if 10 ≤ x2 then some (none, (px_sh L, i, l, r, t)) else if 10 ≤ x2 then some (none, (px_sh L, i, l, r, t)) else (px_C d 50 [vR (21 + x2.toNat), vR (48 + x2.toNat)] (px_sh L, i, l, r, t)).bind (fun q => px_X (d + 1) 61 (px_psh (186, [vR 4, vR 31, vI x2], []) q.1) q.2) := ((xs_ildn k61_135 rfl).trans ((xs_aldn k61_136 rfl).trans ((xs_get4 k61_137 (px_s4 L) (Nat.le_of_ble_eq_true rfl) (px_r4_14 hr)).trans ((xs_aln k61_140 (px_s18 L)).trans ((xs_jge k61_141).trans (px_ite (fun c1 => (xs_rv k61_192 rfl)) (fun c1 => ((xs_ildn k61_144 rfl).trans ((xs_aldn k61_145 rfl).trans ((xs_get4 k61_146 (px_s31 L) (Nat.le_of_ble_eq_true rfl) (px_r31_14 hr)).trans ((xs_aln k61_149 (px_s45 L)).trans ((xs_jge k61_150).trans (px_ite (fun c2 => (xs_rv k61_192 rfl)) (fun c2 => ((xs_aldn k61_153 rfl).trans ((xs_get4 k61_154 (px_s4 L) (Nat.le_of_ble_eq_true rfl) (px_r4_14 hr)).trans ((xs_ildn k61_157 rfl).trans ((xs_aald k61_158 (px_s18 L) (by omega) (h1 c1 c2) (px_gs_r18 hr (h1 c1 c2))).trans ((xs_nullR k61_159).trans ((xs_aldn k61_162 rfl).trans ((xs_get4 k61_163 (px_s31 L) (Nat.le_of_ble_eq_true rfl) (px_r31_14 hr)).trans ((xs_ildn k61_166 rfl).trans ((xs_aald k61_167 (px_s45 L) (by omega) (h1 c1 c2) (px_gs_r45 hr (h1 c1 c2))).trans ((xs_nullR k61_168).trans ((xs_aldn k61_171 rfl).trans ((xs_get4 k61_172 (px_s4 L) (Nat.le_of_ble_eq_true rfl) (px_r4_14 hr)).trans ((xs_ildn k61_175 rfl).trans ((xs_aald k61_176 (px_s18 L) (by omega) (h1 c1 c2) (px_gs_r18 hr (h1 c1 c2))).trans ((xs_aldn k61_177 rfl).trans ((xs_get4 k61_178 (px_s31 L) (Nat.le_of_ble_eq_true rfl) (px_r31_14 hr)).trans ((xs_ildn k61_181 rfl).trans ((xs_aald k61_182 (px_s45 L) (by omega) (h1 c1 c2) (px_gs_r45 hr (h1 c1 c2))).trans (xs_callvB k61_183 (as := [vR (48 + x2.toNat)]) rfl rfl (Nat.le_of_ble_eq_true rfl) (Nat.le_of_ble_eq_true rfl) (Nat.le_of_ble_eq_true rfl) (px_gs_sh (px_gs_mk21 (h1 c1 c2))) (px_gs_3 (px_gs_mk21 (h1 c1 c2))))))))))))))))))))))))))))))))))))
theorem b61_R4R31_186 (hr : px_hr r) (d : Nat) (i l : MI) (x2 : Int) : px_X d 61 (186, [vR 4, vR 31, vI x2], []) (px_sh L, i, l, r, t) = px_X d 61 (135, [vR 4, vR 31, vI (px_w32 (x2 + 1))], []) (px_sh L, i, l, r, t) := ((xs_iinc k61_186 rfl (by omega) (ls' := [vR 4, vR 31, vI (px_w32 (x2 + 1))]) rfl).trans (xs_goto k61_189))
end PXL
