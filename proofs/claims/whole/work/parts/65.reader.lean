/-! Block lemmas, by program (wip/whole/gen_blk.py). -/
theorem k90_0 : px_cod 90 0 = some ((.aload_n 0), 1, [], 0) := rfl
theorem k90_1 : px_cod 90 1 = some ((.getfield 18), 3, [128, 8, 0, 0], 1) := rfl
theorem k90_4 : px_cod 90 4 = some ((.iload_n 1), 1, [], 1) := rfl
theorem k90_5 : px_cod 90 5 = some (.iadd, 1, [], 0) := rfl
theorem k90_6 : px_cod 90 6 = some ((.sipush 300), 3, [], 300) := rfl
theorem k90_9 : px_cod 90 9 = some ((.if_icmp .gt 7), 3, [16], 0) := rfl
theorem k90_12 : px_cod 90 12 = some ((.iconst 1), 1, [], 1) := rfl
theorem k90_13 : px_cod 90 13 = some ((.goto 4), 3, [17], 0) := rfl
theorem k90_16 : px_cod 90 16 = some ((.iconst 0), 1, [], 0) := rfl
theorem k90_17 : px_cod 90 17 = some (.ireturn, 1, [], 0) := rfl
theorem k91_0 : px_cod 91 0 = some ((.bipush 24), 2, [], 24) := rfl
theorem k91_2 : px_cod 91 2 = some ((.istore_n 2), 1, [], 2) := rfl
theorem k91_3 : px_cod 91 3 = some ((.iload_n 2), 1, [], 2) := rfl
theorem k91_4 : px_cod 91 4 = some ((.ifCond .lt 37), 3, [41], 0) := rfl
theorem k91_7 : px_cod 91 7 = some ((.aload_n 0), 1, [], 0) := rfl
theorem k91_8 : px_cod 91 8 = some ((.getfield 32), 3, [136, 8, 4, 1], 5) := rfl
theorem k91_11 : px_cod 91 11 = some ((.aload_n 0), 1, [], 0) := rfl
theorem k91_12 : px_cod 91 12 = some ((.getfield 18), 3, [128, 8, 0, 0], 1) := rfl
theorem k91_15 : px_cod 91 15 = some ((.iload_n 1), 1, [], 1) := rfl
theorem k91_16 : px_cod 91 16 = some ((.iload_n 2), 1, [], 2) := rfl
theorem k91_17 : px_cod 91 17 = some (.iushr, 1, [], 0) := rfl
theorem k91_18 : px_cod 91 18 = some ((.sipush 255), 3, [], 255) := rfl
theorem k91_21 : px_cod 91 21 = some (.iand, 1, [], 0) := rfl
theorem k91_22 : px_cod 91 22 = some ((.invokestatic 57), 3, [0, 36, 34], 0) := rfl
theorem k91_25 : px_cod 91 25 = some ((.aload_n 0), 1, [], 0) := rfl
theorem k91_26 : px_cod 91 26 = some (.dup, 1, [], 0) := rfl
theorem k91_27 : px_cod 91 27 = some ((.getfield 18), 3, [128, 8, 0, 0], 1) := rfl
theorem k91_30 : px_cod 91 30 = some ((.iconst 1), 1, [], 1) := rfl
theorem k91_31 : px_cod 91 31 = some (.iadd, 1, [], 0) := rfl
theorem k91_32 : px_cod 91 32 = some ((.putfield 18), 3, [128, 8, 0, 0], 1) := rfl
theorem k91_35 : px_cod 91 35 = some ((.iinc 2 (-8)), 3, [2], (-8)) := rfl
theorem k91_38 : px_cod 91 38 = some ((.goto (-35)), 3, [3], 0) := rfl
theorem k91_41 : px_cod 91 41 = some (.return_, 1, [], 0) := rfl
theorem k92_0 : px_cod 92 0 = some ((.aload_n 0), 1, [], 0) := rfl
theorem k92_1 : px_cod 92 1 = some ((.invokevirtual 61), 3, [0, 41, 93], 0) := rfl
theorem k92_4 : px_cod 92 4 = some ((.aload_n 0), 1, [], 0) := rfl
theorem k92_5 : px_cod 92 5 = some ((.iconst 1), 1, [], 1) := rfl
theorem k92_6 : px_cod 92 6 = some ((.putfield 22), 3, [130, 8, 1, 0], 2) := rfl
theorem k92_9 : px_cod 92 9 = some ((.aload_n 0), 1, [], 0) := rfl
theorem k92_10 : px_cod 92 10 = some ((.iconst 0), 1, [], 0) := rfl
theorem k92_11 : px_cod 92 11 = some ((.putfield 26), 3, [132, 8, 0, 0], 3) := rfl
theorem k92_14 : px_cod 92 14 = some ((.aload_n 0), 1, [], 0) := rfl
theorem k92_15 : px_cod 92 15 = some ((.iconst (-1)), 1, [], (-1)) := rfl
theorem k92_16 : px_cod 92 16 = some ((.putfield 29), 3, [134, 8, 0, 0], 4) := rfl
theorem k92_19 : px_cod 92 19 = some ((.aload_n 0), 1, [], 0) := rfl
theorem k92_20 : px_cod 92 20 = some ((.iconst 0), 1, [], 0) := rfl
theorem k92_21 : px_cod 92 21 = some ((.putfield 45), 3, [140, 8, 0, 0], 9) := rfl
theorem k92_24 : px_cod 92 24 = some ((.aload_n 0), 1, [], 0) := rfl
theorem k92_25 : px_cod 92 25 = some ((.iconst 0), 1, [], 0) := rfl
theorem k92_26 : px_cod 92 26 = some ((.putfield 48), 3, [141, 8, 0, 0], 10) := rfl
theorem k92_29 : px_cod 92 29 = some ((.aload_n 0), 1, [], 0) := rfl
theorem k92_30 : px_cod 92 30 = some ((.iconst 0), 1, [], 0) := rfl
theorem k92_31 : px_cod 92 31 = some ((.putfield 54), 3, [143, 8, 0, 0], 12) := rfl
theorem k92_34 : px_cod 92 34 = some ((.aload_n 0), 1, [], 0) := rfl
theorem k92_35 : px_cod 92 35 = some ((.getfield 12), 3, [126, 8, 4, 1], 0) := rfl
theorem k92_38 : px_cod 92 38 = some ((.invokevirtual 64), 3, [0, 51, 134], 0) := rfl
theorem k92_41 : px_cod 92 41 = some ((.iconst 0), 1, [], 0) := rfl
theorem k92_42 : px_cod 92 42 = some ((.istore_n 1), 1, [], 1) := rfl
theorem k92_43 : px_cod 92 43 = some ((.iload_n 1), 1, [], 1) := rfl
theorem k92_44 : px_cod 92 44 = some ((.sipush 300), 3, [], 300) := rfl
theorem k92_47 : px_cod 92 47 = some ((.if_icmp .gt 34), 3, [81], 0) := rfl
theorem k92_50 : px_cod 92 50 = some ((.aload_n 0), 1, [], 0) := rfl
theorem k92_51 : px_cod 92 51 = some ((.getfield 26), 3, [132, 8, 0, 0], 3) := rfl
theorem k92_54 : px_cod 92 54 = some ((.ifCond .ne 27), 3, [81], 0) := rfl
theorem k92_57 : px_cod 92 57 = some ((.aload_n 0), 1, [], 0) := rfl
theorem k92_58 : px_cod 92 58 = some ((.getfield 36), 3, [137, 8, 4, 1], 6) := rfl
theorem k92_61 : px_cod 92 61 = some ((.aload_n 0), 1, [], 0) := rfl
theorem k92_62 : px_cod 92 62 = some ((.getfield 45), 3, [140, 8, 0, 0], 9) := rfl
theorem k92_65 : px_cod 92 65 = some ((.invokestatic 67), 3, [0, 42, 33], 0) := rfl
theorem k92_68 : px_cod 92 68 = some ((.ifCond .eq 13), 3, [81], 0) := rfl
theorem k92_71 : px_cod 92 71 = some ((.aload_n 0), 1, [], 0) := rfl
theorem k92_72 : px_cod 92 72 = some ((.invokevirtual 71), 3, [0, 52, 102], 0) := rfl
theorem k92_75 : px_cod 92 75 = some ((.iinc 1 1), 3, [1], 1) := rfl
theorem k92_78 : px_cod 92 78 = some ((.goto (-35)), 3, [43], 0) := rfl
theorem k92_81 : px_cod 92 81 = some ((.aload_n 0), 1, [], 0) := rfl
theorem k92_82 : px_cod 92 82 = some ((.iconst 0), 1, [], 0) := rfl
theorem k92_83 : px_cod 92 83 = some ((.putfield 18), 3, [128, 8, 0, 0], 1) := rfl
theorem k92_86 : px_cod 92 86 = some (.return_, 1, [], 0) := rfl
theorem k93_0 : px_cod 93 0 = some ((.iconst 0), 1, [], 0) := rfl
theorem k93_1 : px_cod 93 1 = some ((.istore_n 1), 1, [], 1) := rfl
theorem k93_2 : px_cod 93 2 = some ((.iconst 0), 1, [], 0) := rfl
theorem k93_3 : px_cod 93 3 = some ((.istore_n 2), 1, [], 2) := rfl
theorem k93_4 : px_cod 93 4 = some ((.iconst 0), 1, [], 0) := rfl
theorem k93_5 : px_cod 93 5 = some ((.istore_n 3), 1, [], 3) := rfl
theorem k93_6 : px_cod 93 6 = some ((.iload_n 3), 1, [], 3) := rfl
theorem k93_7 : px_cod 93 7 = some ((.aload_n 0), 1, [], 0) := rfl
theorem k93_8 : px_cod 93 8 = some ((.getfield 18), 3, [128, 8, 0, 0], 1) := rfl
theorem k93_11 : px_cod 93 11 = some ((.if_icmp .ge 87), 3, [98], 0) := rfl
theorem k93_14 : px_cod 93 14 = some ((.aload_n 0), 1, [], 0) := rfl
theorem k93_15 : px_cod 93 15 = some ((.getfield 32), 3, [136, 8, 4, 1], 5) := rfl
theorem k93_18 : px_cod 93 18 = some ((.iload_n 3), 1, [], 3) := rfl
theorem k93_19 : px_cod 93 19 = some ((.invokestatic 67), 3, [0, 42, 33], 0) := rfl
theorem k93_22 : px_cod 93 22 = some ((.istore 4), 2, [], 4) := rfl
theorem k93_24 : px_cod 93 24 = some ((.iload_n 3), 1, [], 3) := rfl
theorem k93_25 : px_cod 93 25 = some ((.iload_n 2), 1, [], 2) := rfl
theorem k93_26 : px_cod 93 26 = some ((.if_icmp .lt 66), 3, [92], 0) := rfl
theorem k93_29 : px_cod 93 29 = some ((.iload 4), 2, [], 4) := rfl
theorem k93_31 : px_cod 93 31 = some ((.bipush 32), 2, [], 32) := rfl
theorem k93_33 : px_cod 93 33 = some ((.if_icmp .eq 59), 3, [92], 0) := rfl
theorem k93_36 : px_cod 93 36 = some ((.iload 4), 2, [], 4) := rfl
theorem k93_38 : px_cod 93 38 = some ((.bipush 10), 2, [], 10) := rfl
theorem k93_40 : px_cod 93 40 = some ((.if_icmp .ne 6), 3, [46], 0) := rfl
theorem k93_43 : px_cod 93 43 = some ((.goto 49), 3, [92], 0) := rfl
theorem k93_46 : px_cod 93 46 = some ((.aload_n 0), 1, [], 0) := rfl
theorem k93_47 : px_cod 93 47 = some ((.iload_n 3), 1, [], 3) := rfl
theorem k93_48 : px_cod 93 48 = some ((.invokevirtual 74), 3, [0, 43, 94], 0) := rfl
theorem k93_51 : px_cod 93 51 = some ((.istore_n 2), 1, [], 2) := rfl
theorem k93_52 : px_cod 93 52 = some ((.aload_n 0), 1, [], 0) := rfl
theorem k93_53 : px_cod 93 53 = some ((.getfield 36), 3, [137, 8, 4, 1], 6) := rfl
theorem k93_56 : px_cod 93 56 = some ((.iload_n 1), 1, [], 1) := rfl
theorem k93_57 : px_cod 93 57 = some ((.aload_n 0), 1, [], 0) := rfl
theorem k93_58 : px_cod 93 58 = some ((.iload_n 3), 1, [], 3) := rfl
theorem k93_59 : px_cod 93 59 = some ((.iload_n 2), 1, [], 2) := rfl
theorem k93_60 : px_cod 93 60 = some ((.invokevirtual 78), 3, [0, 47, 97], 0) := rfl
theorem k93_63 : px_cod 93 63 = some ((.invokestatic 57), 3, [0, 36, 34], 0) := rfl
theorem k93_66 : px_cod 93 66 = some ((.aload_n 0), 1, [], 0) := rfl
theorem k93_67 : px_cod 93 67 = some ((.getfield 39), 3, [138, 8, 4, 1], 7) := rfl
theorem k93_70 : px_cod 93 70 = some ((.iload_n 1), 1, [], 1) := rfl
theorem k93_71 : px_cod 93 71 = some ((.iload_n 3), 1, [], 3) := rfl
theorem k93_72 : px_cod 93 72 = some ((.invokestatic 57), 3, [0, 36, 34], 0) := rfl
theorem k93_75 : px_cod 93 75 = some ((.aload_n 0), 1, [], 0) := rfl
theorem k93_76 : px_cod 93 76 = some ((.getfield 42), 3, [139, 8, 4, 1], 8) := rfl
theorem k93_79 : px_cod 93 79 = some ((.iload_n 1), 1, [], 1) := rfl
theorem k93_80 : px_cod 93 80 = some ((.aload_n 0), 1, [], 0) := rfl
theorem k93_81 : px_cod 93 81 = some ((.iload_n 3), 1, [], 3) := rfl
theorem k93_82 : px_cod 93 82 = some ((.iload_n 2), 1, [], 2) := rfl
theorem k93_83 : px_cod 93 83 = some ((.invokevirtual 82), 3, [0, 50, 100], 0) := rfl
theorem k93_86 : px_cod 93 86 = some ((.invokestatic 57), 3, [0, 36, 34], 0) := rfl
theorem k93_89 : px_cod 93 89 = some ((.iinc 1 1), 3, [1], 1) := rfl
theorem k93_92 : px_cod 93 92 = some ((.iinc 3 1), 3, [3], 1) := rfl
theorem k93_95 : px_cod 93 95 = some ((.goto (-89)), 3, [6], 0) := rfl
theorem k93_98 : px_cod 93 98 = some ((.aload_n 0), 1, [], 0) := rfl
theorem k93_99 : px_cod 93 99 = some ((.getfield 36), 3, [137, 8, 4, 1], 6) := rfl
theorem k93_102 : px_cod 93 102 = some ((.iload_n 1), 1, [], 1) := rfl
theorem k93_103 : px_cod 93 103 = some ((.iconst 0), 1, [], 0) := rfl
theorem k93_104 : px_cod 93 104 = some ((.invokestatic 57), 3, [0, 36, 34], 0) := rfl
theorem k93_107 : px_cod 93 107 = some ((.aload_n 0), 1, [], 0) := rfl
theorem k93_108 : px_cod 93 108 = some ((.getfield 39), 3, [138, 8, 4, 1], 7) := rfl
theorem k93_111 : px_cod 93 111 = some ((.iload_n 1), 1, [], 1) := rfl
theorem k93_112 : px_cod 93 112 = some ((.aload_n 0), 1, [], 0) := rfl
theorem k93_113 : px_cod 93 113 = some ((.getfield 18), 3, [128, 8, 0, 0], 1) := rfl
theorem k93_116 : px_cod 93 116 = some ((.invokestatic 57), 3, [0, 36, 34], 0) := rfl
theorem k93_119 : px_cod 93 119 = some (.return_, 1, [], 0) := rfl
theorem k94_0 : px_cod 94 0 = some ((.aload_n 0), 1, [], 0) := rfl
theorem k94_1 : px_cod 94 1 = some ((.getfield 32), 3, [136, 8, 4, 1], 5) := rfl
theorem k94_4 : px_cod 94 4 = some ((.iload_n 1), 1, [], 1) := rfl
theorem k94_5 : px_cod 94 5 = some ((.invokestatic 67), 3, [0, 42, 33], 0) := rfl
theorem k94_8 : px_cod 94 8 = some ((.istore_n 2), 1, [], 2) := rfl
theorem k94_9 : px_cod 94 9 = some ((.iload_n 2), 1, [], 2) := rfl
theorem k94_10 : px_cod 94 10 = some ((.invokestatic 85), 3, [0, 44, 95], 0) := rfl
theorem k94_13 : px_cod 94 13 = some ((.istore_n 3), 1, [], 3) := rfl
theorem k94_14 : px_cod 94 14 = some ((.iload_n 3), 1, [], 3) := rfl
theorem k94_15 : px_cod 94 15 = some ((.ifCond .ne 69), 3, [84], 0) := rfl
theorem k94_18 : px_cod 94 18 = some ((.iload_n 2), 1, [], 2) := rfl
theorem k94_19 : px_cod 94 19 = some ((.invokestatic 89), 3, [0, 46, 96], 0) := rfl
theorem k94_22 : px_cod 94 22 = some ((.ifCond .ne 62), 3, [84], 0) := rfl
theorem k94_25 : px_cod 94 25 = some ((.iload_n 2), 1, [], 2) := rfl
theorem k94_26 : px_cod 94 26 = some ((.bipush 60), 2, [], 60) := rfl
theorem k94_28 : px_cod 94 28 = some ((.if_icmp .eq 9), 3, [37], 0) := rfl
theorem k94_31 : px_cod 94 31 = some ((.iload_n 2), 1, [], 2) := rfl
theorem k94_32 : px_cod 94 32 = some ((.bipush 62), 2, [], 62) := rfl
theorem k94_34 : px_cod 94 34 = some ((.if_icmp .ne 32), 3, [66], 0) := rfl
theorem k94_37 : px_cod 94 37 = some ((.iload_n 1), 1, [], 1) := rfl
theorem k94_38 : px_cod 94 38 = some ((.iconst 1), 1, [], 1) := rfl
theorem k94_39 : px_cod 94 39 = some (.iadd, 1, [], 0) := rfl
theorem k94_40 : px_cod 94 40 = some ((.aload_n 0), 1, [], 0) := rfl
theorem k94_41 : px_cod 94 41 = some ((.getfield 18), 3, [128, 8, 0, 0], 1) := rfl
theorem k94_44 : px_cod 94 44 = some ((.if_icmp .ge 22), 3, [66], 0) := rfl
theorem k94_47 : px_cod 94 47 = some ((.aload_n 0), 1, [], 0) := rfl
theorem k94_48 : px_cod 94 48 = some ((.getfield 32), 3, [136, 8, 4, 1], 5) := rfl
theorem k94_51 : px_cod 94 51 = some ((.iload_n 1), 1, [], 1) := rfl
theorem k94_52 : px_cod 94 52 = some ((.iconst 1), 1, [], 1) := rfl
theorem k94_53 : px_cod 94 53 = some (.iadd, 1, [], 0) := rfl
theorem k94_54 : px_cod 94 54 = some ((.invokestatic 67), 3, [0, 42, 33], 0) := rfl
theorem k94_57 : px_cod 94 57 = some ((.bipush 61), 2, [], 61) := rfl
theorem k94_59 : px_cod 94 59 = some ((.if_icmp .ne 7), 3, [66], 0) := rfl
theorem k94_62 : px_cod 94 62 = some ((.iconst 1), 1, [], 1) := rfl
theorem k94_63 : px_cod 94 63 = some ((.goto 4), 3, [67], 0) := rfl
theorem k94_66 : px_cod 94 66 = some ((.iconst 0), 1, [], 0) := rfl
theorem k94_67 : px_cod 94 67 = some ((.istore 4), 2, [], 4) := rfl
theorem k94_69 : px_cod 94 69 = some ((.iload 4), 2, [], 4) := rfl
theorem k94_71 : px_cod 94 71 = some ((.ifCond .eq 9), 3, [80], 0) := rfl
theorem k94_74 : px_cod 94 74 = some ((.iload_n 1), 1, [], 1) := rfl
theorem k94_75 : px_cod 94 75 = some ((.iconst 2), 1, [], 2) := rfl
theorem k94_76 : px_cod 94 76 = some (.iadd, 1, [], 0) := rfl
theorem k94_77 : px_cod 94 77 = some ((.goto 6), 3, [83], 0) := rfl
theorem k94_80 : px_cod 94 80 = some ((.iload_n 1), 1, [], 1) := rfl
theorem k94_81 : px_cod 94 81 = some ((.iconst 1), 1, [], 1) := rfl
theorem k94_82 : px_cod 94 82 = some (.iadd, 1, [], 0) := rfl
theorem k94_83 : px_cod 94 83 = some (.ireturn, 1, [], 0) := rfl
theorem k94_84 : px_cod 94 84 = some ((.iload_n 1), 1, [], 1) := rfl
theorem k94_85 : px_cod 94 85 = some ((.istore 4), 2, [], 4) := rfl
theorem k94_87 : px_cod 94 87 = some ((.iload 4), 2, [], 4) := rfl
theorem k94_89 : px_cod 94 89 = some ((.aload_n 0), 1, [], 0) := rfl
theorem k94_90 : px_cod 94 90 = some ((.getfield 18), 3, [128, 8, 0, 0], 1) := rfl
theorem k94_93 : px_cod 94 93 = some ((.if_icmp .ge 50), 3, [143], 0) := rfl
theorem k94_96 : px_cod 94 96 = some ((.iload_n 3), 1, [], 3) := rfl
theorem k94_97 : px_cod 94 97 = some ((.ifCond .eq 18), 3, [115], 0) := rfl
theorem k94_100 : px_cod 94 100 = some ((.aload_n 0), 1, [], 0) := rfl
theorem k94_101 : px_cod 94 101 = some ((.getfield 32), 3, [136, 8, 4, 1], 5) := rfl
theorem k94_104 : px_cod 94 104 = some ((.iload 4), 2, [], 4) := rfl
theorem k94_106 : px_cod 94 106 = some ((.invokestatic 67), 3, [0, 42, 33], 0) := rfl
theorem k94_109 : px_cod 94 109 = some ((.invokestatic 85), 3, [0, 44, 95], 0) := rfl
theorem k94_112 : px_cod 94 112 = some ((.goto 15), 3, [127], 0) := rfl
theorem k94_115 : px_cod 94 115 = some ((.aload_n 0), 1, [], 0) := rfl
theorem k94_116 : px_cod 94 116 = some ((.getfield 32), 3, [136, 8, 4, 1], 5) := rfl
theorem k94_119 : px_cod 94 119 = some ((.iload 4), 2, [], 4) := rfl
theorem k94_121 : px_cod 94 121 = some ((.invokestatic 67), 3, [0, 42, 33], 0) := rfl
theorem k94_124 : px_cod 94 124 = some ((.invokestatic 89), 3, [0, 46, 96], 0) := rfl
theorem k94_127 : px_cod 94 127 = some ((.istore 5), 2, [], 5) := rfl
theorem k94_129 : px_cod 94 129 = some ((.iload 5), 2, [], 5) := rfl
theorem k94_131 : px_cod 94 131 = some ((.ifCond .ne 6), 3, [137], 0) := rfl
theorem k94_134 : px_cod 94 134 = some ((.iload 4), 2, [], 4) := rfl
theorem k94_136 : px_cod 94 136 = some (.ireturn, 1, [], 0) := rfl
theorem k94_137 : px_cod 94 137 = some ((.iinc 4 1), 3, [4], 1) := rfl
theorem k94_140 : px_cod 94 140 = some ((.goto (-53)), 3, [87], 0) := rfl
theorem k94_143 : px_cod 94 143 = some ((.aload_n 0), 1, [], 0) := rfl
theorem k94_144 : px_cod 94 144 = some ((.getfield 18), 3, [128, 8, 0, 0], 1) := rfl
theorem k94_147 : px_cod 94 147 = some (.ireturn, 1, [], 0) := rfl
theorem k95_0 : px_cod 95 0 = some ((.iload_n 0), 1, [], 0) := rfl
theorem k95_1 : px_cod 95 1 = some ((.bipush 97), 2, [], 97) := rfl
theorem k95_3 : px_cod 95 3 = some ((.bipush 122), 2, [], 122) := rfl
theorem k95_5 : px_cod 95 5 = some ((.invokestatic 92), 3, [0, 45, 30], 0) := rfl
theorem k95_8 : px_cod 95 8 = some ((.ifCond .ne 14), 3, [22], 0) := rfl
theorem k95_11 : px_cod 95 11 = some ((.iload_n 0), 1, [], 0) := rfl
theorem k95_12 : px_cod 95 12 = some ((.bipush 65), 2, [], 65) := rfl
theorem k95_14 : px_cod 95 14 = some ((.bipush 90), 2, [], 90) := rfl
theorem k95_16 : px_cod 95 16 = some ((.invokestatic 92), 3, [0, 45, 30], 0) := rfl
theorem k95_19 : px_cod 95 19 = some ((.ifCond .eq 7), 3, [26], 0) := rfl
theorem k95_22 : px_cod 95 22 = some ((.iconst 1), 1, [], 1) := rfl
theorem k95_23 : px_cod 95 23 = some ((.goto 4), 3, [27], 0) := rfl
theorem k95_26 : px_cod 95 26 = some ((.iconst 0), 1, [], 0) := rfl
theorem k95_27 : px_cod 95 27 = some (.ireturn, 1, [], 0) := rfl
theorem k96_0 : px_cod 96 0 = some ((.iload_n 0), 1, [], 0) := rfl
theorem k96_1 : px_cod 96 1 = some ((.bipush 48), 2, [], 48) := rfl
theorem k96_3 : px_cod 96 3 = some ((.bipush 57), 2, [], 57) := rfl
theorem k96_5 : px_cod 96 5 = some ((.invokestatic 92), 3, [0, 45, 30], 0) := rfl
theorem k96_8 : px_cod 96 8 = some (.ireturn, 1, [], 0) := rfl
theorem k97_0 : px_cod 97 0 = some ((.aload_n 0), 1, [], 0) := rfl
theorem k97_1 : px_cod 97 1 = some ((.getfield 32), 3, [136, 8, 4, 1], 5) := rfl
theorem k97_4 : px_cod 97 4 = some ((.iload_n 1), 1, [], 1) := rfl
theorem k97_5 : px_cod 97 5 = some ((.invokestatic 67), 3, [0, 42, 33], 0) := rfl
theorem k97_8 : px_cod 97 8 = some ((.istore_n 3), 1, [], 3) := rfl
theorem k97_9 : px_cod 97 9 = some ((.iload_n 3), 1, [], 3) := rfl
theorem k97_10 : px_cod 97 10 = some ((.invokestatic 85), 3, [0, 44, 95], 0) := rfl
theorem k97_13 : px_cod 97 13 = some ((.ifCond .eq 10), 3, [23], 0) := rfl
theorem k97_16 : px_cod 97 16 = some ((.aload_n 0), 1, [], 0) := rfl
theorem k97_17 : px_cod 97 17 = some ((.iload_n 1), 1, [], 1) := rfl
theorem k97_18 : px_cod 97 18 = some ((.iload_n 2), 1, [], 2) := rfl
theorem k97_19 : px_cod 97 19 = some ((.invokevirtual 96), 3, [0, 48, 98], 0) := rfl
theorem k97_22 : px_cod 97 22 = some (.ireturn, 1, [], 0) := rfl
theorem k97_23 : px_cod 97 23 = some ((.iload_n 3), 1, [], 3) := rfl
theorem k97_24 : px_cod 97 24 = some ((.invokestatic 89), 3, [0, 46, 96], 0) := rfl
theorem k97_27 : px_cod 97 27 = some ((.ifCond .eq 5), 3, [32], 0) := rfl
theorem k97_30 : px_cod 97 30 = some ((.iconst 2), 1, [], 2) := rfl
theorem k97_31 : px_cod 97 31 = some (.ireturn, 1, [], 0) := rfl
theorem k97_32 : px_cod 97 32 = some ((.iload_n 3), 1, [], 3) := rfl
theorem k97_33 : px_cod 97 33 = some ((.tableswitch 181 35 62 #[160, 181, 181, 181, 181, 175, 177, 169, 163, 181, 166, 181, 172, 181, 181, 181, 181, 181, 181, 181, 181, 181, 181, 181, 179, 127, 157, 142]), 127, [214, 193, 214, 214, 214, 214, 208, 210, 202, 196, 214, 199, 214, 205, 214, 214, 214, 214, 214, 214, 214, 214, 214, 214, 214, 212, 160, 190, 175], 35) := rfl
theorem k97_160 : px_cod 97 160 = some ((.iload_n 2), 1, [], 2) := rfl
theorem k97_161 : px_cod 97 161 = some ((.iload_n 1), 1, [], 1) := rfl
theorem k97_162 : px_cod 97 162 = some (.isub, 1, [], 0) := rfl
theorem k97_163 : px_cod 97 163 = some ((.iconst 2), 1, [], 2) := rfl
theorem k97_164 : px_cod 97 164 = some ((.if_icmp .ne 8), 3, [172], 0) := rfl
theorem k97_167 : px_cod 97 167 = some ((.bipush 15), 2, [], 15) := rfl
theorem k97_169 : px_cod 97 169 = some ((.goto 5), 3, [174], 0) := rfl
theorem k97_172 : px_cod 97 172 = some ((.bipush 14), 2, [], 14) := rfl
theorem k97_174 : px_cod 97 174 = some (.ireturn, 1, [], 0) := rfl
theorem k97_175 : px_cod 97 175 = some ((.iload_n 2), 1, [], 2) := rfl
theorem k97_176 : px_cod 97 176 = some ((.iload_n 1), 1, [], 1) := rfl
theorem k97_177 : px_cod 97 177 = some (.isub, 1, [], 0) := rfl
theorem k97_178 : px_cod 97 178 = some ((.iconst 2), 1, [], 2) := rfl
theorem k97_179 : px_cod 97 179 = some ((.if_icmp .ne 8), 3, [187], 0) := rfl
theorem k97_182 : px_cod 97 182 = some ((.bipush 17), 2, [], 17) := rfl
theorem k97_184 : px_cod 97 184 = some ((.goto 5), 3, [189], 0) := rfl
theorem k97_187 : px_cod 97 187 = some ((.bipush 16), 2, [], 16) := rfl
theorem k97_189 : px_cod 97 189 = some (.ireturn, 1, [], 0) := rfl
theorem k97_190 : px_cod 97 190 = some ((.bipush 18), 2, [], 18) := rfl
theorem k97_192 : px_cod 97 192 = some (.ireturn, 1, [], 0) := rfl
theorem k97_193 : px_cod 97 193 = some ((.bipush 19), 2, [], 19) := rfl
theorem k97_195 : px_cod 97 195 = some (.ireturn, 1, [], 0) := rfl
theorem k97_196 : px_cod 97 196 = some ((.bipush 10), 2, [], 10) := rfl
theorem k97_198 : px_cod 97 198 = some (.ireturn, 1, [], 0) := rfl
theorem k97_199 : px_cod 97 199 = some ((.bipush 11), 2, [], 11) := rfl
theorem k97_201 : px_cod 97 201 = some (.ireturn, 1, [], 0) := rfl
theorem k97_202 : px_cod 97 202 = some ((.bipush 12), 2, [], 12) := rfl
theorem k97_204 : px_cod 97 204 = some (.ireturn, 1, [], 0) := rfl
theorem k97_205 : px_cod 97 205 = some ((.bipush 13), 2, [], 13) := rfl
theorem k97_207 : px_cod 97 207 = some (.ireturn, 1, [], 0) := rfl
theorem k97_208 : px_cod 97 208 = some ((.iconst 3), 1, [], 3) := rfl
theorem k97_209 : px_cod 97 209 = some (.ireturn, 1, [], 0) := rfl
theorem k97_210 : px_cod 97 210 = some ((.iconst 4), 1, [], 4) := rfl
theorem k97_211 : px_cod 97 211 = some (.ireturn, 1, [], 0) := rfl
theorem k97_212 : px_cod 97 212 = some ((.iconst 5), 1, [], 5) := rfl
theorem k97_213 : px_cod 97 213 = some (.ireturn, 1, [], 0) := rfl
theorem k97_214 : px_cod 97 214 = some ((.iconst 1), 1, [], 1) := rfl
theorem k97_215 : px_cod 97 215 = some (.ireturn, 1, [], 0) := rfl
theorem k98_0 : px_cod 98 0 = some ((.bipush 24), 2, [], 24) := rfl
theorem k98_2 : px_cod 98 2 = some ((.istore_n 3), 1, [], 3) := rfl
theorem k98_3 : px_cod 98 3 = some ((.iconst 0), 1, [], 0) := rfl
theorem k98_4 : px_cod 98 4 = some ((.istore 4), 2, [], 4) := rfl
theorem k98_6 : px_cod 98 6 = some ((.iconst 0), 1, [], 0) := rfl
theorem k98_7 : px_cod 98 7 = some ((.istore 5), 2, [], 5) := rfl
theorem k98_9 : px_cod 98 9 = some ((.iload 5), 2, [], 5) := rfl
theorem k98_11 : px_cod 98 11 = some ((.ldc 99), 2, [20], 0) := rfl
theorem k98_13 : px_cod 98 13 = some ((.invokevirtual 101), 3, [3, 21], 0) := rfl
theorem k98_16 : px_cod 98 16 = some ((.if_icmp .ge 55), 3, [71], 0) := rfl
theorem k98_19 : px_cod 98 19 = some ((.ldc 99), 2, [20], 0) := rfl
theorem k98_21 : px_cod 98 21 = some ((.iload 5), 2, [], 5) := rfl
theorem k98_23 : px_cod 98 23 = some ((.invokevirtual 106), 3, [4, 22], 0) := rfl
theorem k98_26 : px_cod 98 26 = some ((.bipush 32), 2, [], 32) := rfl
theorem k98_28 : px_cod 98 28 = some ((.if_icmp .ne 37), 3, [65], 0) := rfl
theorem k98_31 : px_cod 98 31 = some ((.iload 5), 2, [], 5) := rfl
theorem k98_33 : px_cod 98 33 = some ((.iload 4), 2, [], 4) := rfl
theorem k98_35 : px_cod 98 35 = some (.isub, 1, [], 0) := rfl
theorem k98_36 : px_cod 98 36 = some ((.iload_n 2), 1, [], 2) := rfl
theorem k98_37 : px_cod 98 37 = some ((.iload_n 1), 1, [], 1) := rfl
theorem k98_38 : px_cod 98 38 = some (.isub, 1, [], 0) := rfl
theorem k98_39 : px_cod 98 39 = some ((.if_icmp .ne 17), 3, [56], 0) := rfl
theorem k98_42 : px_cod 98 42 = some ((.aload_n 0), 1, [], 0) := rfl
theorem k98_43 : px_cod 98 43 = some ((.iload 4), 2, [], 4) := rfl
theorem k98_45 : px_cod 98 45 = some ((.iload 5), 2, [], 5) := rfl
theorem k98_47 : px_cod 98 47 = some ((.iload_n 1), 1, [], 1) := rfl
theorem k98_48 : px_cod 98 48 = some ((.invokevirtual 110), 3, [0, 49, 99], 0) := rfl
theorem k98_51 : px_cod 98 51 = some ((.ifCond .eq 5), 3, [56], 0) := rfl
theorem k98_54 : px_cod 98 54 = some ((.iload_n 3), 1, [], 3) := rfl
theorem k98_55 : px_cod 98 55 = some (.ireturn, 1, [], 0) := rfl
theorem k98_56 : px_cod 98 56 = some ((.iinc 3 1), 3, [3], 1) := rfl
theorem k98_59 : px_cod 98 59 = some ((.iload 5), 2, [], 5) := rfl
theorem k98_61 : px_cod 98 61 = some ((.iconst 1), 1, [], 1) := rfl
theorem k98_62 : px_cod 98 62 = some (.iadd, 1, [], 0) := rfl
theorem k98_63 : px_cod 98 63 = some ((.istore 4), 2, [], 4) := rfl
theorem k98_65 : px_cod 98 65 = some ((.iinc 5 1), 3, [5], 1) := rfl
theorem k98_68 : px_cod 98 68 = some ((.goto (-59)), 3, [9], 0) := rfl
theorem k98_71 : px_cod 98 71 = some ((.iconst 1), 1, [], 1) := rfl
theorem k98_72 : px_cod 98 72 = some (.ireturn, 1, [], 0) := rfl
theorem k99_0 : px_cod 99 0 = some ((.iload_n 1), 1, [], 1) := rfl
theorem k99_1 : px_cod 99 1 = some ((.istore 4), 2, [], 4) := rfl
theorem k99_3 : px_cod 99 3 = some ((.iload 4), 2, [], 4) := rfl
theorem k99_5 : px_cod 99 5 = some ((.ifCond .lt 50), 3, [55], 0) := rfl
theorem k99_8 : px_cod 99 8 = some ((.iload 4), 2, [], 4) := rfl
theorem k99_10 : px_cod 99 10 = some ((.iload_n 2), 1, [], 2) := rfl
theorem k99_11 : px_cod 99 11 = some ((.if_icmp .ge 44), 3, [55], 0) := rfl
theorem k99_14 : px_cod 99 14 = some ((.iload 4), 2, [], 4) := rfl
theorem k99_16 : px_cod 99 16 = some ((.ldc 99), 2, [20], 0) := rfl
theorem k99_18 : px_cod 99 18 = some ((.invokevirtual 101), 3, [3, 21], 0) := rfl
theorem k99_21 : px_cod 99 21 = some ((.if_icmp .ge 34), 3, [55], 0) := rfl
theorem k99_24 : px_cod 99 24 = some ((.ldc 99), 2, [20], 0) := rfl
theorem k99_26 : px_cod 99 26 = some ((.iload 4), 2, [], 4) := rfl
theorem k99_28 : px_cod 99 28 = some ((.invokevirtual 106), 3, [4, 22], 0) := rfl
theorem k99_31 : px_cod 99 31 = some ((.aload_n 0), 1, [], 0) := rfl
theorem k99_32 : px_cod 99 32 = some ((.getfield 32), 3, [136, 8, 4, 1], 5) := rfl
theorem k99_35 : px_cod 99 35 = some ((.iload_n 3), 1, [], 3) := rfl
theorem k99_36 : px_cod 99 36 = some ((.iload 4), 2, [], 4) := rfl
theorem k99_38 : px_cod 99 38 = some (.iadd, 1, [], 0) := rfl
theorem k99_39 : px_cod 99 39 = some ((.iload_n 1), 1, [], 1) := rfl
theorem k99_40 : px_cod 99 40 = some (.isub, 1, [], 0) := rfl
theorem k99_41 : px_cod 99 41 = some ((.invokestatic 67), 3, [0, 42, 33], 0) := rfl
theorem k99_44 : px_cod 99 44 = some ((.if_icmp .eq 5), 3, [49], 0) := rfl
theorem k99_47 : px_cod 99 47 = some ((.iconst 0), 1, [], 0) := rfl
theorem k99_48 : px_cod 99 48 = some (.ireturn, 1, [], 0) := rfl
theorem k99_49 : px_cod 99 49 = some ((.iinc 4 1), 3, [4], 1) := rfl
theorem k99_52 : px_cod 99 52 = some ((.goto (-49)), 3, [3], 0) := rfl
theorem k99_55 : px_cod 99 55 = some ((.iconst 1), 1, [], 1) := rfl
theorem k99_56 : px_cod 99 56 = some (.ireturn, 1, [], 0) := rfl
theorem k100_0 : px_cod 100 0 = some ((.iconst 0), 1, [], 0) := rfl
theorem k100_1 : px_cod 100 1 = some ((.istore_n 3), 1, [], 3) := rfl
theorem k100_2 : px_cod 100 2 = some ((.iload_n 1), 1, [], 1) := rfl
theorem k100_3 : px_cod 100 3 = some ((.istore 4), 2, [], 4) := rfl
theorem k100_5 : px_cod 100 5 = some ((.iload 4), 2, [], 4) := rfl
theorem k100_7 : px_cod 100 7 = some ((.iload_n 2), 1, [], 2) := rfl
theorem k100_8 : px_cod 100 8 = some ((.if_icmp .ge 33), 3, [41], 0) := rfl
theorem k100_11 : px_cod 100 11 = some ((.sipush 10000), 3, [], 10000) := rfl
theorem k100_14 : px_cod 100 14 = some ((.iload_n 3), 1, [], 3) := rfl
theorem k100_15 : px_cod 100 15 = some ((.bipush 10), 2, [], 10) := rfl
theorem k100_17 : px_cod 100 17 = some (.imul, 1, [], 0) := rfl
theorem k100_18 : px_cod 100 18 = some ((.aload_n 0), 1, [], 0) := rfl
theorem k100_19 : px_cod 100 19 = some ((.getfield 32), 3, [136, 8, 4, 1], 5) := rfl
theorem k100_22 : px_cod 100 22 = some ((.iload 4), 2, [], 4) := rfl
theorem k100_24 : px_cod 100 24 = some ((.invokestatic 67), 3, [0, 42, 33], 0) := rfl
theorem k100_27 : px_cod 100 27 = some (.iadd, 1, [], 0) := rfl
theorem k100_28 : px_cod 100 28 = some ((.bipush 48), 2, [], 48) := rfl
theorem k100_30 : px_cod 100 30 = some (.isub, 1, [], 0) := rfl
theorem k100_31 : px_cod 100 31 = some ((.invokestatic 113), 3, [6, 23], 0) := rfl
theorem k100_34 : px_cod 100 34 = some ((.istore_n 3), 1, [], 3) := rfl
theorem k100_35 : px_cod 100 35 = some ((.iinc 4 1), 3, [4], 1) := rfl
theorem k100_38 : px_cod 100 38 = some ((.goto (-33)), 3, [5], 0) := rfl
theorem k100_41 : px_cod 100 41 = some ((.iload_n 3), 1, [], 3) := rfl
theorem k100_42 : px_cod 100 42 = some (.ireturn, 1, [], 0) := rfl
theorem k101_0 : px_cod 101 0 = some ((.aload_n 0), 1, [], 0) := rfl
theorem k101_1 : px_cod 101 1 = some ((.getfield 26), 3, [132, 8, 0, 0], 3) := rfl
theorem k101_4 : px_cod 101 4 = some ((.ifCond .ne 44), 3, [48], 0) := rfl
theorem k101_7 : px_cod 101 7 = some ((.aload_n 0), 1, [], 0) := rfl
theorem k101_8 : px_cod 101 8 = some ((.iload_n 1), 1, [], 1) := rfl
theorem k101_9 : px_cod 101 9 = some ((.putfield 26), 3, [132, 8, 0, 0], 3) := rfl
theorem k101_12 : px_cod 101 12 = some ((.aload_n 0), 1, [], 0) := rfl
theorem k101_13 : px_cod 101 13 = some ((.aload_n 0), 1, [], 0) := rfl
theorem k101_14 : px_cod 101 14 = some ((.getfield 45), 3, [140, 8, 0, 0], 9) := rfl
theorem k101_17 : px_cod 101 17 = some ((.ifCond .lt 27), 3, [44], 0) := rfl
theorem k101_20 : px_cod 101 20 = some ((.aload_n 0), 1, [], 0) := rfl
theorem k101_21 : px_cod 101 21 = some ((.getfield 45), 3, [140, 8, 0, 0], 9) := rfl
theorem k101_24 : px_cod 101 24 = some ((.aload_n 0), 1, [], 0) := rfl
theorem k101_25 : px_cod 101 25 = some ((.getfield 39), 3, [138, 8, 4, 1], 7) := rfl
theorem k101_28 : px_cod 101 28 = some (.arraylength, 1, [], 0) := rfl
theorem k101_29 : px_cod 101 29 = some ((.if_icmp .ge 15), 3, [44], 0) := rfl
theorem k101_32 : px_cod 101 32 = some ((.aload_n 0), 1, [], 0) := rfl
theorem k101_33 : px_cod 101 33 = some ((.getfield 39), 3, [138, 8, 4, 1], 7) := rfl
theorem k101_36 : px_cod 101 36 = some ((.aload_n 0), 1, [], 0) := rfl
theorem k101_37 : px_cod 101 37 = some ((.getfield 45), 3, [140, 8, 0, 0], 9) := rfl
theorem k101_40 : px_cod 101 40 = some (.iaload, 1, [], 0) := rfl
theorem k101_41 : px_cod 101 41 = some ((.goto 4), 3, [45], 0) := rfl
theorem k101_44 : px_cod 101 44 = some ((.iconst (-1)), 1, [], (-1)) := rfl
theorem k101_45 : px_cod 101 45 = some ((.putfield 29), 3, [134, 8, 0, 0], 4) := rfl
theorem k101_48 : px_cod 101 48 = some (.return_, 1, [], 0) := rfl
theorem k102_0 : px_cod 102 0 = some ((.aload_n 0), 1, [], 0) := rfl
theorem k102_1 : px_cod 102 1 = some ((.getfield 36), 3, [137, 8, 4, 1], 6) := rfl
theorem k102_4 : px_cod 102 4 = some ((.aload_n 0), 1, [], 0) := rfl
theorem k102_5 : px_cod 102 5 = some ((.getfield 45), 3, [140, 8, 0, 0], 9) := rfl
theorem k102_8 : px_cod 102 8 = some ((.invokestatic 67), 3, [0, 42, 33], 0) := rfl
theorem k102_11 : px_cod 102 11 = some ((.bipush 24), 2, [], 24) := rfl
theorem k102_13 : px_cod 102 13 = some (.isub, 1, [], 0) := rfl
theorem k102_14 : px_cod 102 14 = some ((.istore_n 1), 1, [], 1) := rfl
theorem k102_15 : px_cod 102 15 = some ((.iload_n 1), 1, [], 1) := rfl
theorem k102_16 : px_cod 102 16 = some ((.iconst 4), 1, [], 4) := rfl
theorem k102_17 : px_cod 102 17 = some ((.if_icmp .ge 7), 3, [24], 0) := rfl
theorem k102_20 : px_cod 102 20 = some ((.iconst 1), 1, [], 1) := rfl
theorem k102_21 : px_cod 102 21 = some ((.goto 4), 3, [25], 0) := rfl
theorem k102_24 : px_cod 102 24 = some ((.iconst 0), 1, [], 0) := rfl
theorem k102_25 : px_cod 102 25 = some ((.istore_n 2), 1, [], 2) := rfl
theorem k102_26 : px_cod 102 26 = some ((.iload_n 1), 1, [], 1) := rfl
theorem k102_27 : px_cod 102 27 = some ((.ifCond .lt 16), 3, [43], 0) := rfl
theorem k102_30 : px_cod 102 30 = some ((.iload_n 1), 1, [], 1) := rfl
theorem k102_31 : px_cod 102 31 = some ((.iconst 5), 1, [], 5) := rfl
theorem k102_32 : px_cod 102 32 = some ((.if_icmp .gt 11), 3, [43], 0) := rfl
theorem k102_35 : px_cod 102 35 = some ((.iload_n 1), 1, [], 1) := rfl
theorem k102_36 : px_cod 102 36 = some ((.getstatic 118), 3, [], 0) := rfl
theorem k102_39 : px_cod 102 39 = some (.arraylength, 1, [], 0) := rfl
theorem k102_40 : px_cod 102 40 = some ((.if_icmp .lt 11), 3, [51], 0) := rfl
theorem k102_43 : px_cod 102 43 = some ((.aload_n 0), 1, [], 0) := rfl
theorem k102_44 : px_cod 102 44 = some ((.iconst 1), 1, [], 1) := rfl
theorem k102_45 : px_cod 102 45 = some ((.invokevirtual 121), 3, [0, 53, 101], 0) := rfl
theorem k102_48 : px_cod 102 48 = some ((.goto 138), 3, [186], 0) := rfl
theorem k102_51 : px_cod 102 51 = some ((.iload_n 2), 1, [], 2) := rfl
theorem k102_52 : px_cod 102 52 = some ((.ifCond .eq 22), 3, [74], 0) := rfl
theorem k102_55 : px_cod 102 55 = some ((.aload_n 0), 1, [], 0) := rfl
theorem k102_56 : px_cod 102 56 = some ((.getfield 54), 3, [143, 8, 0, 0], 12) := rfl
theorem k102_59 : px_cod 102 59 = some ((.iload_n 1), 1, [], 1) := rfl
theorem k102_60 : px_cod 102 60 = some ((.invokestatic 125), 3, [0, 54, 32], 0) := rfl
theorem k102_63 : px_cod 102 63 = some ((.ifCond .eq 11), 3, [74], 0) := rfl
theorem k102_66 : px_cod 102 66 = some ((.aload_n 0), 1, [], 0) := rfl
theorem k102_67 : px_cod 102 67 = some ((.iconst 4), 1, [], 4) := rfl
theorem k102_68 : px_cod 102 68 = some ((.invokevirtual 121), 3, [0, 53, 101], 0) := rfl
theorem k102_71 : px_cod 102 71 = some ((.goto 115), 3, [186], 0) := rfl
theorem k102_74 : px_cod 102 74 = some ((.aload_n 0), 1, [], 0) := rfl
theorem k102_75 : px_cod 102 75 = some ((.getfield 12), 3, [126, 8, 4, 1], 0) := rfl
theorem k102_78 : px_cod 102 78 = some ((.getfield 129), 3, [117, 11, 0, 0], 1) := rfl
theorem k102_81 : px_cod 102 81 = some ((.bipush 10), 2, [], 10) := rfl
theorem k102_83 : px_cod 102 83 = some ((.if_icmp .lt 12), 3, [95], 0) := rfl
theorem k102_86 : px_cod 102 86 = some ((.aload_n 0), 1, [], 0) := rfl
theorem k102_87 : px_cod 102 87 = some ((.bipush 6), 2, [], 6) := rfl
theorem k102_89 : px_cod 102 89 = some ((.invokevirtual 121), 3, [0, 53, 101], 0) := rfl
theorem k102_92 : px_cod 102 92 = some ((.goto 94), 3, [186], 0) := rfl
theorem k102_95 : px_cod 102 95 = some ((.aload_n 0), 1, [], 0) := rfl
theorem k102_96 : px_cod 102 96 = some ((.aload_n 0), 1, [], 0) := rfl
theorem k102_97 : px_cod 102 97 = some ((.getfield 54), 3, [143, 8, 0, 0], 12) := rfl
theorem k102_100 : px_cod 102 100 = some ((.iconst 1), 1, [], 1) := rfl
theorem k102_101 : px_cod 102 101 = some ((.iload_n 1), 1, [], 1) := rfl
theorem k102_102 : px_cod 102 102 = some (.ishl, 1, [], 0) := rfl
theorem k102_103 : px_cod 102 103 = some (.ior, 1, [], 0) := rfl
theorem k102_104 : px_cod 102 104 = some ((.putfield 54), 3, [143, 8, 0, 0], 12) := rfl
theorem k102_107 : px_cod 102 107 = some ((.aload_n 0), 1, [], 0) := rfl
theorem k102_108 : px_cod 102 108 = some ((.getstatic 118), 3, [], 0) := rfl
theorem k102_111 : px_cod 102 111 = some ((.iload_n 1), 1, [], 1) := rfl
theorem k102_112 : px_cod 102 112 = some (.iaload, 1, [], 0) := rfl
theorem k102_113 : px_cod 102 113 = some ((.putfield 51), 3, [142, 8, 0, 0], 11) := rfl
theorem k102_116 : px_cod 102 116 = some ((.aload_n 0), 1, [], 0) := rfl
theorem k102_117 : px_cod 102 117 = some ((.getfield 12), 3, [126, 8, 4, 1], 0) := rfl
theorem k102_120 : px_cod 102 120 = some ((.iload_n 1), 1, [], 1) := rfl
theorem k102_121 : px_cod 102 121 = some ((.invokevirtual 132), 3, [0, 55, 136], 0) := rfl
theorem k102_124 : px_cod 102 124 = some ((.aload_n 0), 1, [], 0) := rfl
theorem k102_125 : px_cod 102 125 = some (.dup, 1, [], 0) := rfl
theorem k102_126 : px_cod 102 126 = some ((.getfield 45), 3, [140, 8, 0, 0], 9) := rfl
theorem k102_129 : px_cod 102 129 = some ((.iconst 1), 1, [], 1) := rfl
theorem k102_130 : px_cod 102 130 = some (.iadd, 1, [], 0) := rfl
theorem k102_131 : px_cod 102 131 = some ((.putfield 45), 3, [140, 8, 0, 0], 9) := rfl
theorem k102_134 : px_cod 102 134 = some ((.iload_n 2), 1, [], 2) := rfl
theorem k102_135 : px_cod 102 135 = some ((.ifCond .eq 10), 3, [145], 0) := rfl
theorem k102_138 : px_cod 102 138 = some ((.aload_n 0), 1, [], 0) := rfl
theorem k102_139 : px_cod 102 139 = some ((.invokevirtual 135), 3, [0, 57, 105], 0) := rfl
theorem k102_142 : px_cod 102 142 = some ((.goto 7), 3, [149], 0) := rfl
theorem k102_145 : px_cod 102 145 = some ((.aload_n 0), 1, [], 0) := rfl
theorem k102_146 : px_cod 102 146 = some ((.invokevirtual 138), 3, [0, 60, 103], 0) := rfl
theorem k102_149 : px_cod 102 149 = some ((.aload_n 0), 1, [], 0) := rfl
theorem k102_150 : px_cod 102 150 = some ((.getfield 36), 3, [137, 8, 4, 1], 6) := rfl
theorem k102_153 : px_cod 102 153 = some ((.aload_n 0), 1, [], 0) := rfl
theorem k102_154 : px_cod 102 154 = some ((.getfield 45), 3, [140, 8, 0, 0], 9) := rfl
theorem k102_157 : px_cod 102 157 = some ((.invokestatic 67), 3, [0, 42, 33], 0) := rfl
theorem k102_160 : px_cod 102 160 = some ((.iconst 5), 1, [], 5) := rfl
theorem k102_161 : px_cod 102 161 = some ((.if_icmp .eq 8), 3, [169], 0) := rfl
theorem k102_164 : px_cod 102 164 = some ((.aload_n 0), 1, [], 0) := rfl
theorem k102_165 : px_cod 102 165 = some ((.iconst 1), 1, [], 1) := rfl
theorem k102_166 : px_cod 102 166 = some ((.invokevirtual 121), 3, [0, 53, 101], 0) := rfl
theorem k102_169 : px_cod 102 169 = some ((.aload_n 0), 1, [], 0) := rfl
theorem k102_170 : px_cod 102 170 = some ((.getfield 12), 3, [126, 8, 4, 1], 0) := rfl
theorem k102_173 : px_cod 102 173 = some ((.invokevirtual 141), 3, [0, 62, 137], 0) := rfl
theorem k102_176 : px_cod 102 176 = some ((.aload_n 0), 1, [], 0) := rfl
theorem k102_177 : px_cod 102 177 = some (.dup, 1, [], 0) := rfl
theorem k102_178 : px_cod 102 178 = some ((.getfield 45), 3, [140, 8, 0, 0], 9) := rfl
theorem k102_181 : px_cod 102 181 = some ((.iconst 1), 1, [], 1) := rfl
theorem k102_182 : px_cod 102 182 = some (.iadd, 1, [], 0) := rfl
theorem k102_183 : px_cod 102 183 = some ((.putfield 45), 3, [140, 8, 0, 0], 9) := rfl
theorem k102_186 : px_cod 102 186 = some (.return_, 1, [], 0) := rfl
theorem k103_0 : px_cod 103 0 = some ((.iconst 0), 1, [], 0) := rfl
theorem k103_1 : px_cod 103 1 = some ((.istore_n 1), 1, [], 1) := rfl
theorem k103_2 : px_cod 103 2 = some ((.iconst 0), 1, [], 0) := rfl
theorem k103_3 : px_cod 103 3 = some ((.istore_n 2), 1, [], 2) := rfl
theorem k103_4 : px_cod 103 4 = some ((.iconst 0), 1, [], 0) := rfl
theorem k103_5 : px_cod 103 5 = some ((.istore_n 3), 1, [], 3) := rfl
theorem k103_6 : px_cod 103 6 = some ((.iload_n 3), 1, [], 3) := rfl
theorem k103_7 : px_cod 103 7 = some ((.sipush 300), 3, [], 300) := rfl
theorem k103_10 : px_cod 103 10 = some ((.if_icmp .gt 115), 3, [125], 0) := rfl
theorem k103_13 : px_cod 103 13 = some ((.aload_n 0), 1, [], 0) := rfl
theorem k103_14 : px_cod 103 14 = some ((.getfield 26), 3, [132, 8, 0, 0], 3) := rfl
theorem k103_17 : px_cod 103 17 = some ((.ifCond .ne 108), 3, [125], 0) := rfl
theorem k103_20 : px_cod 103 20 = some ((.aload_n 0), 1, [], 0) := rfl
theorem k103_21 : px_cod 103 21 = some ((.invokevirtual 144), 3, [0, 61, 104], 0) := rfl
theorem k103_24 : px_cod 103 24 = some ((.iload_n 2), 1, [], 2) := rfl
theorem k103_25 : px_cod 103 25 = some ((.ifCond .eq 13), 3, [38], 0) := rfl
theorem k103_28 : px_cod 103 28 = some ((.aload_n 0), 1, [], 0) := rfl
theorem k103_29 : px_cod 103 29 = some ((.getfield 12), 3, [126, 8, 4, 1], 0) := rfl
theorem k103_32 : px_cod 103 32 = some ((.sipush 10031), 3, [], 10031) := rfl
theorem k103_35 : px_cod 103 35 = some ((.invokevirtual 147), 3, [0, 59, 135], 0) := rfl
theorem k103_38 : px_cod 103 38 = some ((.aload_n 0), 1, [], 0) := rfl
theorem k103_39 : px_cod 103 39 = some ((.getfield 36), 3, [137, 8, 4, 1], 6) := rfl
theorem k103_42 : px_cod 103 42 = some ((.aload_n 0), 1, [], 0) := rfl
theorem k103_43 : px_cod 103 43 = some ((.getfield 45), 3, [140, 8, 0, 0], 9) := rfl
theorem k103_46 : px_cod 103 46 = some ((.invokestatic 67), 3, [0, 42, 33], 0) := rfl
theorem k103_49 : px_cod 103 49 = some ((.bipush 31), 2, [], 31) := rfl
theorem k103_51 : px_cod 103 51 = some ((.if_icmp .ne 7), 3, [58], 0) := rfl
theorem k103_54 : px_cod 103 54 = some ((.iconst 1), 1, [], 1) := rfl
theorem k103_55 : px_cod 103 55 = some ((.goto 4), 3, [59], 0) := rfl
theorem k103_58 : px_cod 103 58 = some ((.iconst 0), 1, [], 0) := rfl
theorem k103_59 : px_cod 103 59 = some ((.istore_n 2), 1, [], 2) := rfl
theorem k103_60 : px_cod 103 60 = some ((.iload_n 2), 1, [], 2) := rfl
theorem k103_61 : px_cod 103 61 = some ((.ifCond .ne 39), 3, [100], 0) := rfl
theorem k103_64 : px_cod 103 64 = some ((.iload_n 1), 1, [], 1) := rfl
theorem k103_65 : px_cod 103 65 = some ((.ifCond .eq 13), 3, [78], 0) := rfl
theorem k103_68 : px_cod 103 68 = some ((.aload_n 0), 1, [], 0) := rfl
theorem k103_69 : px_cod 103 69 = some ((.getfield 12), 3, [126, 8, 4, 1], 0) := rfl
theorem k103_72 : px_cod 103 72 = some ((.sipush 10030), 3, [], 10030) := rfl
theorem k103_75 : px_cod 103 75 = some ((.invokevirtual 147), 3, [0, 59, 135], 0) := rfl
theorem k103_78 : px_cod 103 78 = some ((.aload_n 0), 1, [], 0) := rfl
theorem k103_79 : px_cod 103 79 = some ((.getfield 36), 3, [137, 8, 4, 1], 6) := rfl
theorem k103_82 : px_cod 103 82 = some ((.aload_n 0), 1, [], 0) := rfl
theorem k103_83 : px_cod 103 83 = some ((.getfield 45), 3, [140, 8, 0, 0], 9) := rfl
theorem k103_86 : px_cod 103 86 = some ((.invokestatic 67), 3, [0, 42, 33], 0) := rfl
theorem k103_89 : px_cod 103 89 = some ((.bipush 30), 2, [], 30) := rfl
theorem k103_91 : px_cod 103 91 = some ((.if_icmp .ne 7), 3, [98], 0) := rfl
theorem k103_94 : px_cod 103 94 = some ((.iconst 1), 1, [], 1) := rfl
theorem k103_95 : px_cod 103 95 = some ((.goto 4), 3, [99], 0) := rfl
theorem k103_98 : px_cod 103 98 = some ((.iconst 0), 1, [], 0) := rfl
theorem k103_99 : px_cod 103 99 = some ((.istore_n 1), 1, [], 1) := rfl
theorem k103_100 : px_cod 103 100 = some ((.iload_n 2), 1, [], 2) := rfl
theorem k103_101 : px_cod 103 101 = some ((.ifCond .ne 8), 3, [109], 0) := rfl
theorem k103_104 : px_cod 103 104 = some ((.iload_n 1), 1, [], 1) := rfl
theorem k103_105 : px_cod 103 105 = some ((.ifCond .ne 4), 3, [109], 0) := rfl
theorem k103_108 : px_cod 103 108 = some (.return_, 1, [], 0) := rfl
theorem k103_109 : px_cod 103 109 = some ((.aload_n 0), 1, [], 0) := rfl
theorem k103_110 : px_cod 103 110 = some (.dup, 1, [], 0) := rfl
theorem k103_111 : px_cod 103 111 = some ((.getfield 45), 3, [140, 8, 0, 0], 9) := rfl
theorem k103_114 : px_cod 103 114 = some ((.iconst 1), 1, [], 1) := rfl
theorem k103_115 : px_cod 103 115 = some (.iadd, 1, [], 0) := rfl
theorem k103_116 : px_cod 103 116 = some ((.putfield 45), 3, [140, 8, 0, 0], 9) := rfl
theorem k103_119 : px_cod 103 119 = some ((.iinc 3 1), 3, [3], 1) := rfl
theorem k103_122 : px_cod 103 122 = some ((.goto (-116)), 3, [6], 0) := rfl
theorem k103_125 : px_cod 103 125 = some (.return_, 1, [], 0) := rfl
theorem k104_0 : px_cod 104 0 = some ((.iconst 0), 1, [], 0) := rfl
theorem k104_1 : px_cod 104 1 = some ((.istore_n 1), 1, [], 1) := rfl
theorem k104_2 : px_cod 104 2 = some ((.iconst 0), 1, [], 0) := rfl
theorem k104_3 : px_cod 104 3 = some ((.istore_n 2), 1, [], 2) := rfl
theorem k104_4 : px_cod 104 4 = some ((.iload_n 2), 1, [], 2) := rfl
theorem k104_5 : px_cod 104 5 = some ((.bipush 8), 2, [], 8) := rfl
theorem k104_7 : px_cod 104 7 = some ((.if_icmp .gt 63), 3, [70], 0) := rfl
theorem k104_10 : px_cod 104 10 = some ((.aload_n 0), 1, [], 0) := rfl
theorem k104_11 : px_cod 104 11 = some ((.getfield 36), 3, [137, 8, 4, 1], 6) := rfl
theorem k104_14 : px_cod 104 14 = some ((.aload_n 0), 1, [], 0) := rfl
theorem k104_15 : px_cod 104 15 = some ((.getfield 45), 3, [140, 8, 0, 0], 9) := rfl
theorem k104_18 : px_cod 104 18 = some ((.invokestatic 67), 3, [0, 42, 33], 0) := rfl
theorem k104_21 : px_cod 104 21 = some ((.bipush 32), 2, [], 32) := rfl
theorem k104_23 : px_cod 104 23 = some ((.if_icmp .ne 47), 3, [70], 0) := rfl
theorem k104_26 : px_cod 104 26 = some ((.aload_n 0), 1, [], 0) := rfl
theorem k104_27 : px_cod 104 27 = some ((.getfield 48), 3, [141, 8, 0, 0], 10) := rfl
theorem k104_30 : px_cod 104 30 = some ((.bipush 8), 2, [], 8) := rfl
theorem k104_32 : px_cod 104 32 = some ((.if_icmp .lt 9), 3, [41], 0) := rfl
theorem k104_35 : px_cod 104 35 = some ((.aload_n 0), 1, [], 0) := rfl
theorem k104_36 : px_cod 104 36 = some ((.iconst 3), 1, [], 3) := rfl
theorem k104_37 : px_cod 104 37 = some ((.invokevirtual 121), 3, [0, 53, 101], 0) := rfl
theorem k104_40 : px_cod 104 40 = some (.return_, 1, [], 0) := rfl
theorem k104_41 : px_cod 104 41 = some ((.aload_n 0), 1, [], 0) := rfl
theorem k104_42 : px_cod 104 42 = some (.dup, 1, [], 0) := rfl
theorem k104_43 : px_cod 104 43 = some ((.getfield 48), 3, [141, 8, 0, 0], 10) := rfl
theorem k104_46 : px_cod 104 46 = some ((.iconst 1), 1, [], 1) := rfl
theorem k104_47 : px_cod 104 47 = some (.iadd, 1, [], 0) := rfl
theorem k104_48 : px_cod 104 48 = some ((.putfield 48), 3, [141, 8, 0, 0], 10) := rfl
theorem k104_51 : px_cod 104 51 = some ((.iinc 1 1), 3, [1], 1) := rfl
theorem k104_54 : px_cod 104 54 = some ((.aload_n 0), 1, [], 0) := rfl
theorem k104_55 : px_cod 104 55 = some (.dup, 1, [], 0) := rfl
theorem k104_56 : px_cod 104 56 = some ((.getfield 45), 3, [140, 8, 0, 0], 9) := rfl
theorem k104_59 : px_cod 104 59 = some ((.iconst 1), 1, [], 1) := rfl
theorem k104_60 : px_cod 104 60 = some (.iadd, 1, [], 0) := rfl
theorem k104_61 : px_cod 104 61 = some ((.putfield 45), 3, [140, 8, 0, 0], 9) := rfl
theorem k104_64 : px_cod 104 64 = some ((.iinc 2 1), 3, [2], 1) := rfl
theorem k104_67 : px_cod 104 67 = some ((.goto (-63)), 3, [4], 0) := rfl
theorem k104_70 : px_cod 104 70 = some ((.aload_n 0), 1, [], 0) := rfl
theorem k104_71 : px_cod 104 71 = some ((.invokevirtual 135), 3, [0, 57, 105], 0) := rfl
theorem k104_74 : px_cod 104 74 = some ((.aload_n 0), 1, [], 0) := rfl
theorem k104_75 : px_cod 104 75 = some ((.getfield 36), 3, [137, 8, 4, 1], 6) := rfl
theorem k104_78 : px_cod 104 78 = some ((.aload_n 0), 1, [], 0) := rfl
theorem k104_79 : px_cod 104 79 = some ((.getfield 45), 3, [140, 8, 0, 0], 9) := rfl
theorem k104_82 : px_cod 104 82 = some ((.invokestatic 67), 3, [0, 42, 33], 0) := rfl
theorem k104_85 : px_cod 104 85 = some ((.istore_n 2), 1, [], 2) := rfl
theorem k104_86 : px_cod 104 86 = some ((.iload_n 2), 1, [], 2) := rfl
theorem k104_87 : px_cod 104 87 = some ((.bipush 14), 2, [], 14) := rfl
theorem k104_89 : px_cod 104 89 = some ((.bipush 19), 2, [], 19) := rfl
theorem k104_91 : px_cod 104 91 = some ((.invokestatic 92), 3, [0, 45, 30], 0) := rfl
theorem k104_94 : px_cod 104 94 = some ((.ifCond .ne 8), 3, [102], 0) := rfl
theorem k104_97 : px_cod 104 97 = some ((.aload_n 0), 1, [], 0) := rfl
theorem k104_98 : px_cod 104 98 = some ((.iconst 1), 1, [], 1) := rfl
theorem k104_99 : px_cod 104 99 = some ((.invokevirtual 121), 3, [0, 53, 101], 0) := rfl
theorem k104_102 : px_cod 104 102 = some ((.aload_n 0), 1, [], 0) := rfl
theorem k104_103 : px_cod 104 103 = some ((.getfield 26), 3, [132, 8, 0, 0], 3) := rfl
theorem k104_106 : px_cod 104 106 = some ((.ifCond .eq 4), 3, [110], 0) := rfl
theorem k104_109 : px_cod 104 109 = some (.return_, 1, [], 0) := rfl
theorem k104_110 : px_cod 104 110 = some ((.aload_n 0), 1, [], 0) := rfl
theorem k104_111 : px_cod 104 111 = some (.dup, 1, [], 0) := rfl
theorem k104_112 : px_cod 104 112 = some ((.getfield 45), 3, [140, 8, 0, 0], 9) := rfl
theorem k104_115 : px_cod 104 115 = some ((.iconst 1), 1, [], 1) := rfl
theorem k104_116 : px_cod 104 116 = some (.iadd, 1, [], 0) := rfl
theorem k104_117 : px_cod 104 117 = some ((.putfield 45), 3, [140, 8, 0, 0], 9) := rfl
theorem k104_120 : px_cod 104 120 = some ((.aload_n 0), 1, [], 0) := rfl
theorem k104_121 : px_cod 104 121 = some ((.invokevirtual 135), 3, [0, 57, 105], 0) := rfl
theorem k104_124 : px_cod 104 124 = some ((.aload_n 0), 1, [], 0) := rfl
theorem k104_125 : px_cod 104 125 = some ((.getfield 12), 3, [126, 8, 4, 1], 0) := rfl
theorem k104_128 : px_cod 104 128 = some ((.sipush 10000), 3, [], 10000) := rfl
theorem k104_131 : px_cod 104 131 = some ((.iload_n 2), 1, [], 2) := rfl
theorem k104_132 : px_cod 104 132 = some (.iadd, 1, [], 0) := rfl
theorem k104_133 : px_cod 104 133 = some ((.invokevirtual 147), 3, [0, 59, 135], 0) := rfl
theorem k104_136 : px_cod 104 136 = some ((.iconst 0), 1, [], 0) := rfl
theorem k104_137 : px_cod 104 137 = some ((.istore_n 3), 1, [], 3) := rfl
theorem k104_138 : px_cod 104 138 = some ((.iload_n 3), 1, [], 3) := rfl
theorem k104_139 : px_cod 104 139 = some ((.iload_n 1), 1, [], 1) := rfl
theorem k104_140 : px_cod 104 140 = some ((.if_icmp .ge 19), 3, [159], 0) := rfl
theorem k104_143 : px_cod 104 143 = some ((.aload_n 0), 1, [], 0) := rfl
theorem k104_144 : px_cod 104 144 = some ((.getfield 12), 3, [126, 8, 4, 1], 0) := rfl
theorem k104_147 : px_cod 104 147 = some ((.sipush 10032), 3, [], 10032) := rfl
theorem k104_150 : px_cod 104 150 = some ((.invokevirtual 147), 3, [0, 59, 135], 0) := rfl
theorem k104_153 : px_cod 104 153 = some ((.iinc 3 1), 3, [3], 1) := rfl
theorem k104_156 : px_cod 104 156 = some ((.goto (-18)), 3, [138], 0) := rfl
theorem k104_159 : px_cod 104 159 = some ((.aload_n 0), 1, [], 0) := rfl
theorem k104_160 : px_cod 104 160 = some (.dup, 1, [], 0) := rfl
theorem k104_161 : px_cod 104 161 = some ((.getfield 48), 3, [141, 8, 0, 0], 10) := rfl
theorem k104_164 : px_cod 104 164 = some ((.iload_n 1), 1, [], 1) := rfl
theorem k104_165 : px_cod 104 165 = some (.isub, 1, [], 0) := rfl
theorem k104_166 : px_cod 104 166 = some ((.putfield 48), 3, [141, 8, 0, 0], 10) := rfl
theorem k104_169 : px_cod 104 169 = some (.return_, 1, [], 0) := rfl
theorem k105_0 : px_cod 105 0 = some ((.iconst 0), 1, [], 0) := rfl
theorem k105_1 : px_cod 105 1 = some ((.istore_n 1), 1, [], 1) := rfl
theorem k105_2 : px_cod 105 2 = some ((.iconst 0), 1, [], 0) := rfl
theorem k105_3 : px_cod 105 3 = some ((.istore_n 2), 1, [], 2) := rfl
theorem k105_4 : px_cod 105 4 = some ((.iconst 0), 1, [], 0) := rfl
theorem k105_5 : px_cod 105 5 = some ((.istore_n 3), 1, [], 3) := rfl
theorem k105_6 : px_cod 105 6 = some ((.iload_n 3), 1, [], 3) := rfl
theorem k105_7 : px_cod 105 7 = some ((.sipush 300), 3, [], 300) := rfl
theorem k105_10 : px_cod 105 10 = some ((.if_icmp .gt 130), 3, [140], 0) := rfl
theorem k105_13 : px_cod 105 13 = some ((.aload_n 0), 1, [], 0) := rfl
theorem k105_14 : px_cod 105 14 = some ((.getfield 26), 3, [132, 8, 0, 0], 3) := rfl
theorem k105_17 : px_cod 105 17 = some ((.ifCond .ne 123), 3, [140], 0) := rfl
theorem k105_20 : px_cod 105 20 = some ((.aload_n 0), 1, [], 0) := rfl
theorem k105_21 : px_cod 105 21 = some ((.invokevirtual 150), 3, [0, 58, 106], 0) := rfl
theorem k105_24 : px_cod 105 24 = some ((.iload_n 2), 1, [], 2) := rfl
theorem k105_25 : px_cod 105 25 = some ((.ifCond .eq 15), 3, [40], 0) := rfl
theorem k105_28 : px_cod 105 28 = some ((.aload_n 0), 1, [], 0) := rfl
theorem k105_29 : px_cod 105 29 = some ((.getfield 12), 3, [126, 8, 4, 1], 0) := rfl
theorem k105_32 : px_cod 105 32 = some ((.sipush 10000), 3, [], 10000) := rfl
theorem k105_35 : px_cod 105 35 = some ((.iload_n 2), 1, [], 2) := rfl
theorem k105_36 : px_cod 105 36 = some (.iadd, 1, [], 0) := rfl
theorem k105_37 : px_cod 105 37 = some ((.invokevirtual 147), 3, [0, 59, 135], 0) := rfl
theorem k105_40 : px_cod 105 40 = some ((.aload_n 0), 1, [], 0) := rfl
theorem k105_41 : px_cod 105 41 = some ((.getfield 36), 3, [137, 8, 4, 1], 6) := rfl
theorem k105_44 : px_cod 105 44 = some ((.aload_n 0), 1, [], 0) := rfl
theorem k105_45 : px_cod 105 45 = some ((.getfield 45), 3, [140, 8, 0, 0], 9) := rfl
theorem k105_48 : px_cod 105 48 = some ((.invokestatic 67), 3, [0, 42, 33], 0) := rfl
theorem k105_51 : px_cod 105 51 = some ((.istore 4), 2, [], 4) := rfl
theorem k105_53 : px_cod 105 53 = some ((.iload 4), 2, [], 4) := rfl
theorem k105_55 : px_cod 105 55 = some ((.bipush 12), 2, [], 12) := rfl
theorem k105_57 : px_cod 105 57 = some ((.if_icmp .eq 10), 3, [67], 0) := rfl
theorem k105_60 : px_cod 105 60 = some ((.iload 4), 2, [], 4) := rfl
theorem k105_62 : px_cod 105 62 = some ((.bipush 13), 2, [], 13) := rfl
theorem k105_64 : px_cod 105 64 = some ((.if_icmp .ne 8), 3, [72], 0) := rfl
theorem k105_67 : px_cod 105 67 = some ((.iload 4), 2, [], 4) := rfl
theorem k105_69 : px_cod 105 69 = some ((.goto 4), 3, [73], 0) := rfl
theorem k105_72 : px_cod 105 72 = some ((.iconst 0), 1, [], 0) := rfl
theorem k105_73 : px_cod 105 73 = some ((.istore_n 2), 1, [], 2) := rfl
theorem k105_74 : px_cod 105 74 = some ((.iload_n 2), 1, [], 2) := rfl
theorem k105_75 : px_cod 105 75 = some ((.ifCond .ne 40), 3, [115], 0) := rfl
theorem k105_78 : px_cod 105 78 = some ((.iload_n 1), 1, [], 1) := rfl
theorem k105_79 : px_cod 105 79 = some ((.ifCond .eq 15), 3, [94], 0) := rfl
theorem k105_82 : px_cod 105 82 = some ((.aload_n 0), 1, [], 0) := rfl
theorem k105_83 : px_cod 105 83 = some ((.getfield 12), 3, [126, 8, 4, 1], 0) := rfl
theorem k105_86 : px_cod 105 86 = some ((.sipush 10000), 3, [], 10000) := rfl
theorem k105_89 : px_cod 105 89 = some ((.iload_n 1), 1, [], 1) := rfl
theorem k105_90 : px_cod 105 90 = some (.iadd, 1, [], 0) := rfl
theorem k105_91 : px_cod 105 91 = some ((.invokevirtual 147), 3, [0, 59, 135], 0) := rfl
theorem k105_94 : px_cod 105 94 = some ((.iload 4), 2, [], 4) := rfl
theorem k105_96 : px_cod 105 96 = some ((.bipush 10), 2, [], 10) := rfl
theorem k105_98 : px_cod 105 98 = some ((.if_icmp .eq 10), 3, [108], 0) := rfl
theorem k105_101 : px_cod 105 101 = some ((.iload 4), 2, [], 4) := rfl
theorem k105_103 : px_cod 105 103 = some ((.bipush 11), 2, [], 11) := rfl
theorem k105_105 : px_cod 105 105 = some ((.if_icmp .ne 8), 3, [113], 0) := rfl
theorem k105_108 : px_cod 105 108 = some ((.iload 4), 2, [], 4) := rfl
theorem k105_110 : px_cod 105 110 = some ((.goto 4), 3, [114], 0) := rfl
theorem k105_113 : px_cod 105 113 = some ((.iconst 0), 1, [], 0) := rfl
theorem k105_114 : px_cod 105 114 = some ((.istore_n 1), 1, [], 1) := rfl
theorem k105_115 : px_cod 105 115 = some ((.iload_n 2), 1, [], 2) := rfl
theorem k105_116 : px_cod 105 116 = some ((.ifCond .ne 8), 3, [124], 0) := rfl
theorem k105_119 : px_cod 105 119 = some ((.iload_n 1), 1, [], 1) := rfl
theorem k105_120 : px_cod 105 120 = some ((.ifCond .ne 4), 3, [124], 0) := rfl
theorem k105_123 : px_cod 105 123 = some (.return_, 1, [], 0) := rfl
theorem k105_124 : px_cod 105 124 = some ((.aload_n 0), 1, [], 0) := rfl
theorem k105_125 : px_cod 105 125 = some (.dup, 1, [], 0) := rfl
theorem k105_126 : px_cod 105 126 = some ((.getfield 45), 3, [140, 8, 0, 0], 9) := rfl
theorem k105_129 : px_cod 105 129 = some ((.iconst 1), 1, [], 1) := rfl
theorem k105_130 : px_cod 105 130 = some (.iadd, 1, [], 0) := rfl
theorem k105_131 : px_cod 105 131 = some ((.putfield 45), 3, [140, 8, 0, 0], 9) := rfl
theorem k105_134 : px_cod 105 134 = some ((.iinc 3 1), 3, [3], 1) := rfl
theorem k105_137 : px_cod 105 137 = some ((.goto (-131)), 3, [6], 0) := rfl
theorem k105_140 : px_cod 105 140 = some (.return_, 1, [], 0) := rfl
theorem k106_0 : px_cod 106 0 = some ((.iconst 0), 1, [], 0) := rfl
theorem k106_1 : px_cod 106 1 = some ((.istore_n 1), 1, [], 1) := rfl
theorem k106_2 : px_cod 106 2 = some ((.iconst 0), 1, [], 0) := rfl
theorem k106_3 : px_cod 106 3 = some ((.istore_n 2), 1, [], 2) := rfl
theorem k106_4 : px_cod 106 4 = some ((.iload_n 2), 1, [], 2) := rfl
theorem k106_5 : px_cod 106 5 = some ((.bipush 8), 2, [], 8) := rfl
theorem k106_7 : px_cod 106 7 = some ((.if_icmp .gt 63), 3, [70], 0) := rfl
theorem k106_10 : px_cod 106 10 = some ((.aload_n 0), 1, [], 0) := rfl
theorem k106_11 : px_cod 106 11 = some ((.getfield 36), 3, [137, 8, 4, 1], 6) := rfl
theorem k106_14 : px_cod 106 14 = some ((.aload_n 0), 1, [], 0) := rfl
theorem k106_15 : px_cod 106 15 = some ((.getfield 45), 3, [140, 8, 0, 0], 9) := rfl
theorem k106_18 : px_cod 106 18 = some ((.invokestatic 67), 3, [0, 42, 33], 0) := rfl
theorem k106_21 : px_cod 106 21 = some ((.bipush 11), 2, [], 11) := rfl
theorem k106_23 : px_cod 106 23 = some ((.if_icmp .ne 47), 3, [70], 0) := rfl
theorem k106_26 : px_cod 106 26 = some ((.aload_n 0), 1, [], 0) := rfl
theorem k106_27 : px_cod 106 27 = some ((.getfield 48), 3, [141, 8, 0, 0], 10) := rfl
theorem k106_30 : px_cod 106 30 = some ((.bipush 8), 2, [], 8) := rfl
theorem k106_32 : px_cod 106 32 = some ((.if_icmp .lt 9), 3, [41], 0) := rfl
theorem k106_35 : px_cod 106 35 = some ((.aload_n 0), 1, [], 0) := rfl
theorem k106_36 : px_cod 106 36 = some ((.iconst 3), 1, [], 3) := rfl
theorem k106_37 : px_cod 106 37 = some ((.invokevirtual 121), 3, [0, 53, 101], 0) := rfl
theorem k106_40 : px_cod 106 40 = some (.return_, 1, [], 0) := rfl
theorem k106_41 : px_cod 106 41 = some ((.aload_n 0), 1, [], 0) := rfl
theorem k106_42 : px_cod 106 42 = some (.dup, 1, [], 0) := rfl
theorem k106_43 : px_cod 106 43 = some ((.getfield 48), 3, [141, 8, 0, 0], 10) := rfl
theorem k106_46 : px_cod 106 46 = some ((.iconst 1), 1, [], 1) := rfl
theorem k106_47 : px_cod 106 47 = some (.iadd, 1, [], 0) := rfl
theorem k106_48 : px_cod 106 48 = some ((.putfield 48), 3, [141, 8, 0, 0], 10) := rfl
theorem k106_51 : px_cod 106 51 = some ((.iinc 1 1), 3, [1], 1) := rfl
theorem k106_54 : px_cod 106 54 = some ((.aload_n 0), 1, [], 0) := rfl
theorem k106_55 : px_cod 106 55 = some (.dup, 1, [], 0) := rfl
theorem k106_56 : px_cod 106 56 = some ((.getfield 45), 3, [140, 8, 0, 0], 9) := rfl
theorem k106_59 : px_cod 106 59 = some ((.iconst 1), 1, [], 1) := rfl
theorem k106_60 : px_cod 106 60 = some (.iadd, 1, [], 0) := rfl
theorem k106_61 : px_cod 106 61 = some ((.putfield 45), 3, [140, 8, 0, 0], 9) := rfl
theorem k106_64 : px_cod 106 64 = some ((.iinc 2 1), 3, [2], 1) := rfl
theorem k106_67 : px_cod 106 67 = some ((.goto (-63)), 3, [4], 0) := rfl
theorem k106_70 : px_cod 106 70 = some ((.aload_n 0), 1, [], 0) := rfl
theorem k106_71 : px_cod 106 71 = some ((.getfield 36), 3, [137, 8, 4, 1], 6) := rfl
theorem k106_74 : px_cod 106 74 = some ((.aload_n 0), 1, [], 0) := rfl
theorem k106_75 : px_cod 106 75 = some ((.getfield 45), 3, [140, 8, 0, 0], 9) := rfl
theorem k106_78 : px_cod 106 78 = some ((.invokestatic 67), 3, [0, 42, 33], 0) := rfl
theorem k106_81 : px_cod 106 81 = some ((.istore_n 2), 1, [], 2) := rfl
theorem k106_82 : px_cod 106 82 = some ((.iload_n 2), 1, [], 2) := rfl
theorem k106_83 : px_cod 106 83 = some ((.iconst 3), 1, [], 3) := rfl
theorem k106_84 : px_cod 106 84 = some ((.if_icmp .ne 20), 3, [104], 0) := rfl
theorem k106_87 : px_cod 106 87 = some ((.aload_n 0), 1, [], 0) := rfl
theorem k106_88 : px_cod 106 88 = some ((.getfield 48), 3, [141, 8, 0, 0], 10) := rfl
theorem k106_91 : px_cod 106 91 = some ((.bipush 8), 2, [], 8) := rfl
theorem k106_93 : px_cod 106 93 = some ((.if_icmp .lt 11), 3, [104], 0) := rfl
theorem k106_96 : px_cod 106 96 = some ((.aload_n 0), 1, [], 0) := rfl
theorem k106_97 : px_cod 106 97 = some ((.iconst 3), 1, [], 3) := rfl
theorem k106_98 : px_cod 106 98 = some ((.invokevirtual 121), 3, [0, 53, 101], 0) := rfl
theorem k106_101 : px_cod 106 101 = some ((.goto 169), 3, [270], 0) := rfl
theorem k106_104 : px_cod 106 104 = some ((.iload_n 2), 1, [], 2) := rfl
theorem k106_105 : px_cod 106 105 = some ((.iconst 3), 1, [], 3) := rfl
theorem k106_106 : px_cod 106 106 = some ((.if_icmp .ne 60), 3, [166], 0) := rfl
theorem k106_109 : px_cod 106 109 = some ((.aload_n 0), 1, [], 0) := rfl
theorem k106_110 : px_cod 106 110 = some (.dup, 1, [], 0) := rfl
theorem k106_111 : px_cod 106 111 = some ((.getfield 48), 3, [141, 8, 0, 0], 10) := rfl
theorem k106_114 : px_cod 106 114 = some ((.iconst 1), 1, [], 1) := rfl
theorem k106_115 : px_cod 106 115 = some (.iadd, 1, [], 0) := rfl
theorem k106_116 : px_cod 106 116 = some ((.putfield 48), 3, [141, 8, 0, 0], 10) := rfl
theorem k106_119 : px_cod 106 119 = some ((.aload_n 0), 1, [], 0) := rfl
theorem k106_120 : px_cod 106 120 = some (.dup, 1, [], 0) := rfl
theorem k106_121 : px_cod 106 121 = some ((.getfield 45), 3, [140, 8, 0, 0], 9) := rfl
theorem k106_124 : px_cod 106 124 = some ((.iconst 1), 1, [], 1) := rfl
theorem k106_125 : px_cod 106 125 = some (.iadd, 1, [], 0) := rfl
theorem k106_126 : px_cod 106 126 = some ((.putfield 45), 3, [140, 8, 0, 0], 9) := rfl
theorem k106_129 : px_cod 106 129 = some ((.aload_n 0), 1, [], 0) := rfl
theorem k106_130 : px_cod 106 130 = some ((.invokevirtual 135), 3, [0, 57, 105], 0) := rfl
theorem k106_133 : px_cod 106 133 = some ((.aload_n 0), 1, [], 0) := rfl
theorem k106_134 : px_cod 106 134 = some ((.getfield 36), 3, [137, 8, 4, 1], 6) := rfl
theorem k106_137 : px_cod 106 137 = some ((.aload_n 0), 1, [], 0) := rfl
theorem k106_138 : px_cod 106 138 = some ((.getfield 45), 3, [140, 8, 0, 0], 9) := rfl
theorem k106_141 : px_cod 106 141 = some ((.invokestatic 67), 3, [0, 42, 33], 0) := rfl
theorem k106_144 : px_cod 106 144 = some ((.iconst 4), 1, [], 4) := rfl
theorem k106_145 : px_cod 106 145 = some ((.if_icmp .eq 8), 3, [153], 0) := rfl
theorem k106_148 : px_cod 106 148 = some ((.aload_n 0), 1, [], 0) := rfl
theorem k106_149 : px_cod 106 149 = some ((.iconst 1), 1, [], 1) := rfl
theorem k106_150 : px_cod 106 150 = some ((.invokevirtual 121), 3, [0, 53, 101], 0) := rfl
theorem k106_153 : px_cod 106 153 = some ((.aload_n 0), 1, [], 0) := rfl
theorem k106_154 : px_cod 106 154 = some (.dup, 1, [], 0) := rfl
theorem k106_155 : px_cod 106 155 = some ((.getfield 48), 3, [141, 8, 0, 0], 10) := rfl
theorem k106_158 : px_cod 106 158 = some ((.iconst 1), 1, [], 1) := rfl
theorem k106_159 : px_cod 106 159 = some (.isub, 1, [], 0) := rfl
theorem k106_160 : px_cod 106 160 = some ((.putfield 48), 3, [141, 8, 0, 0], 10) := rfl
theorem k106_163 : px_cod 106 163 = some ((.goto 107), 3, [270], 0) := rfl
theorem k106_166 : px_cod 106 166 = some ((.iload_n 2), 1, [], 2) := rfl
theorem k106_167 : px_cod 106 167 = some ((.iconst 2), 1, [], 2) := rfl
theorem k106_168 : px_cod 106 168 = some ((.if_icmp .ne 28), 3, [196], 0) := rfl
theorem k106_171 : px_cod 106 171 = some ((.aload_n 0), 1, [], 0) := rfl
theorem k106_172 : px_cod 106 172 = some ((.getfield 42), 3, [139, 8, 4, 1], 8) := rfl
theorem k106_175 : px_cod 106 175 = some ((.aload_n 0), 1, [], 0) := rfl
theorem k106_176 : px_cod 106 176 = some ((.getfield 45), 3, [140, 8, 0, 0], 9) := rfl
theorem k106_179 : px_cod 106 179 = some ((.invokestatic 67), 3, [0, 42, 33], 0) := rfl
theorem k106_182 : px_cod 106 182 = some ((.sipush 9999), 3, [], 9999) := rfl
theorem k106_185 : px_cod 106 185 = some ((.if_icmp .le 11), 3, [196], 0) := rfl
theorem k106_188 : px_cod 106 188 = some ((.aload_n 0), 1, [], 0) := rfl
theorem k106_189 : px_cod 106 189 = some ((.iconst 2), 1, [], 2) := rfl
theorem k106_190 : px_cod 106 190 = some ((.invokevirtual 121), 3, [0, 53, 101], 0) := rfl
theorem k106_193 : px_cod 106 193 = some ((.goto 77), 3, [270], 0) := rfl
theorem k106_196 : px_cod 106 196 = some ((.iload_n 2), 1, [], 2) := rfl
theorem k106_197 : px_cod 106 197 = some ((.iconst 2), 1, [], 2) := rfl
theorem k106_198 : px_cod 106 198 = some ((.if_icmp .ne 24), 3, [222], 0) := rfl
theorem k106_201 : px_cod 106 201 = some ((.aload_n 0), 1, [], 0) := rfl
theorem k106_202 : px_cod 106 202 = some ((.getfield 12), 3, [126, 8, 4, 1], 0) := rfl
theorem k106_205 : px_cod 106 205 = some ((.aload_n 0), 1, [], 0) := rfl
theorem k106_206 : px_cod 106 206 = some ((.getfield 42), 3, [139, 8, 4, 1], 8) := rfl
theorem k106_209 : px_cod 106 209 = some ((.aload_n 0), 1, [], 0) := rfl
theorem k106_210 : px_cod 106 210 = some ((.getfield 45), 3, [140, 8, 0, 0], 9) := rfl
theorem k106_213 : px_cod 106 213 = some ((.invokestatic 67), 3, [0, 42, 33], 0) := rfl
theorem k106_216 : px_cod 106 216 = some ((.invokevirtual 147), 3, [0, 59, 135], 0) := rfl
theorem k106_219 : px_cod 106 219 = some ((.goto 51), 3, [270], 0) := rfl
theorem k106_222 : px_cod 106 222 = some ((.iload_n 2), 1, [], 2) := rfl
theorem k106_223 : px_cod 106 223 = some ((.bipush 33), 2, [], 33) := rfl
theorem k106_225 : px_cod 106 225 = some ((.if_icmp .ge 11), 3, [236], 0) := rfl
theorem k106_228 : px_cod 106 228 = some ((.aload_n 0), 1, [], 0) := rfl
theorem k106_229 : px_cod 106 229 = some ((.iconst 1), 1, [], 1) := rfl
theorem k106_230 : px_cod 106 230 = some ((.invokevirtual 121), 3, [0, 53, 101], 0) := rfl
theorem k106_233 : px_cod 106 233 = some ((.goto 37), 3, [270], 0) := rfl
theorem k106_236 : px_cod 106 236 = some ((.aload_n 0), 1, [], 0) := rfl
theorem k106_237 : px_cod 106 237 = some ((.getfield 51), 3, [142, 8, 0, 0], 11) := rfl
theorem k106_240 : px_cod 106 240 = some ((.iload_n 2), 1, [], 2) := rfl
theorem k106_241 : px_cod 106 241 = some ((.bipush 33), 2, [], 33) := rfl
theorem k106_243 : px_cod 106 243 = some (.isub, 1, [], 0) := rfl
theorem k106_244 : px_cod 106 244 = some ((.invokestatic 125), 3, [0, 54, 32], 0) := rfl
theorem k106_247 : px_cod 106 247 = some ((.ifCond .ne 11), 3, [258], 0) := rfl
theorem k106_250 : px_cod 106 250 = some ((.aload_n 0), 1, [], 0) := rfl
theorem k106_251 : px_cod 106 251 = some ((.iconst 5), 1, [], 5) := rfl
theorem k106_252 : px_cod 106 252 = some ((.invokevirtual 121), 3, [0, 53, 101], 0) := rfl
theorem k106_255 : px_cod 106 255 = some ((.goto 15), 3, [270], 0) := rfl
theorem k106_258 : px_cod 106 258 = some ((.aload_n 0), 1, [], 0) := rfl
theorem k106_259 : px_cod 106 259 = some ((.getfield 12), 3, [126, 8, 4, 1], 0) := rfl
theorem k106_262 : px_cod 106 262 = some ((.sipush 10000), 3, [], 10000) := rfl
theorem k106_265 : px_cod 106 265 = some ((.iload_n 2), 1, [], 2) := rfl
theorem k106_266 : px_cod 106 266 = some (.iadd, 1, [], 0) := rfl
theorem k106_267 : px_cod 106 267 = some ((.invokevirtual 147), 3, [0, 59, 135], 0) := rfl
theorem k106_270 : px_cod 106 270 = some ((.aload_n 0), 1, [], 0) := rfl
theorem k106_271 : px_cod 106 271 = some (.dup, 1, [], 0) := rfl
theorem k106_272 : px_cod 106 272 = some ((.getfield 45), 3, [140, 8, 0, 0], 9) := rfl
theorem k106_275 : px_cod 106 275 = some ((.iconst 1), 1, [], 1) := rfl
theorem k106_276 : px_cod 106 276 = some (.iadd, 1, [], 0) := rfl
theorem k106_277 : px_cod 106 277 = some ((.putfield 45), 3, [140, 8, 0, 0], 9) := rfl
theorem k106_280 : px_cod 106 280 = some ((.iconst 0), 1, [], 0) := rfl
theorem k106_281 : px_cod 106 281 = some ((.istore_n 3), 1, [], 3) := rfl
theorem k106_282 : px_cod 106 282 = some ((.iload_n 3), 1, [], 3) := rfl
theorem k106_283 : px_cod 106 283 = some ((.iload_n 1), 1, [], 1) := rfl
theorem k106_284 : px_cod 106 284 = some ((.if_icmp .ge 19), 3, [303], 0) := rfl
theorem k106_287 : px_cod 106 287 = some ((.aload_n 0), 1, [], 0) := rfl
theorem k106_288 : px_cod 106 288 = some ((.getfield 12), 3, [126, 8, 4, 1], 0) := rfl
theorem k106_291 : px_cod 106 291 = some ((.sipush 10020), 3, [], 10020) := rfl
theorem k106_294 : px_cod 106 294 = some ((.invokevirtual 147), 3, [0, 59, 135], 0) := rfl
theorem k106_297 : px_cod 106 297 = some ((.iinc 3 1), 3, [3], 1) := rfl
theorem k106_300 : px_cod 106 300 = some ((.goto (-18)), 3, [282], 0) := rfl
theorem k106_303 : px_cod 106 303 = some ((.aload_n 0), 1, [], 0) := rfl
theorem k106_304 : px_cod 106 304 = some (.dup, 1, [], 0) := rfl
theorem k106_305 : px_cod 106 305 = some ((.getfield 48), 3, [141, 8, 0, 0], 10) := rfl
theorem k106_308 : px_cod 106 308 = some ((.iload_n 1), 1, [], 1) := rfl
theorem k106_309 : px_cod 106 309 = some (.isub, 1, [], 0) := rfl
theorem k106_310 : px_cod 106 310 = some ((.putfield 48), 3, [141, 8, 0, 0], 10) := rfl
theorem k106_313 : px_cod 106 313 = some (.return_, 1, [], 0) := rfl
section PXL
variable {L t : Nat} {r : MR}
-- Reader.hasRoom ('R58', 'I')
theorem b90_0 (hr : px_hr r) (d : Nat) (i l : MI) (x1 : Int) : px_X d 90 (0, [vR 58, vI x1], []) (px_sh L, i, l, r, t) = if 300 < (px_w32 ((i 58 1) + x1)) then some (some (vI 0), (px_sh L, i, l, r, t)) else some (some (vI 1), (px_sh L, i, l, r, t)) := ((xs_aldn k90_0 rfl).trans ((xs_get0 k90_1 (px_s58 L) (Nat.le_of_ble_eq_true rfl)).trans ((xs_ildn k90_4 rfl).trans ((xs_iadd k90_5).trans ((xs_si k90_6 (by omega)).trans ((xs_jgt k90_9).trans (px_ite (fun c1 => ((xs_ic k90_16 (by omega)).trans (xs_rz k90_17 rfl (by omega)))) (fun c1 => ((xs_ic k90_12 (by omega)).trans ((xs_goto k90_13).trans (xs_rz k90_17 rfl (by omega))))))))))))
-- Reader.addFour ('R58', 'I')
theorem b91_0 (hr : px_hr r) (d : Nat) (i l : MI) (x1 : Int) : px_X d 91 (0, [vR 58, vI x1, vJ], []) (px_sh L, i, l, r, t) = px_X d 91 (3, [vR 58, vI x1, vI 24], []) (px_sh L, i, l, r, t) := ((xs_bi k91_0 (by omega)).trans (xs_istn k91_2 (Nat.le_of_ble_eq_true rfl) (ls' := [vR 58, vI x1, vI 24]) rfl))
theorem b91_3 (hr : px_hr r) (d : Nat) (i l : MI) (x1 : Int) (x2 : Int) : px_X (d + 1) 91 (3, [vR 58, vI x1, vI x2], []) (px_sh L, i, l, r, t) = if x2 < 0 then some (none, (px_sh L, i, l, r, t)) else (px_C d 34 [vR 64, vI (i 58 1), vI (px_and (px_ushr x1 x2) 255)] (px_sh L, i, l, r, t)).bind (fun q => px_X (d + 1) 91 (px_psh (25, [vR 58, vI x1, vI x2], []) q.1) q.2) := ((xs_ildn k91_3 rfl).trans ((xs_ilt k91_4).trans (px_ite (fun c1 => (xs_rv k91_41 rfl)) (fun c1 => ((xs_aldn k91_7 rfl).trans ((xs_get4 k91_8 (px_s58 L) (Nat.le_of_ble_eq_true rfl) (px_r58_5 hr)).trans ((xs_aldn k91_11 rfl).trans ((xs_get0 k91_12 (px_s58 L) (Nat.le_of_ble_eq_true rfl)).trans ((xs_ildn k91_15 rfl).trans ((xs_ildn k91_16 rfl).trans ((xs_iushr k91_17).trans ((xs_si k91_18 (by omega)).trans ((xs_iand k91_21).trans (xs_callsB k91_22 (as := [vR 64, vI (i 58 1), vI (px_and (px_ushr x1 x2) 255)]) rfl rfl (Nat.le_of_ble_eq_true rfl) (Nat.le_of_ble_eq_true rfl) (Nat.le_of_ble_eq_true rfl)))))))))))))))
theorem b91_25 (hr : px_hr r) (d : Nat) (i l : MI) (x1 : Int) (x2 : Int) : px_X d 91 (25, [vR 58, vI x1, vI x2], []) (px_sh L, i, l, r, t) = px_X d 91 (3, [vR 58, vI x1, vI (px_w32 (x2 + (-8)))], []) (px_sh L, (px_up i 58 1 (px_w32 ((i 58 1) + 1))), l, r, t) := ((xs_aldn k91_25 rfl).trans ((xs_dup k91_26 rfl).trans ((xs_get0 k91_27 (px_s58 L) (Nat.le_of_ble_eq_true rfl)).trans ((xs_ic k91_30 (by omega)).trans ((xs_iadd k91_31).trans ((xs_put0 k91_32 (Or.inl rfl) (px_s58 L) (Nat.le_of_ble_eq_true rfl)).trans ((xs_iinc k91_35 rfl (by omega) (ls' := [vR 58, vI x1, vI (px_w32 (x2 + (-8)))]) rfl).trans (xs_goto k91_38))))))))
-- Reader.read ('R58',)
theorem b92_0 (hr : px_hr r) (d : Nat) (i l : MI)  : px_X (d + 1) 92 (0, [vR 58, vJ], []) (px_sh L, i, l, r, t) = (px_C d 93 [vR 58] (px_sh L, i, l, r, t)).bind (fun q => px_X (d + 1) 92 (px_psh (4, [vR 58, vJ], []) q.1) q.2) := ((xs_aldn k92_0 rfl).trans (xs_callvB k92_1 (as := []) rfl rfl (Nat.le_of_ble_eq_true rfl) (Nat.le_of_ble_eq_true rfl) (Nat.le_of_ble_eq_true rfl) (px_s58 L) (Nat.le_of_ble_eq_true rfl)))
theorem b92_4 (hr : px_hr r) (d : Nat) (i l : MI)  : px_X (d + 1) 92 (4, [vR 58, vJ], []) (px_sh L, i, l, r, t) = (px_C d 134 [vR 59] (px_sh L, (px_up (px_up (px_up (px_up (px_up (px_up i 58 2 1) 58 3 0) 58 4 (-1)) 58 9 0) 58 10 0) 58 12 0), l, r, t)).bind (fun q => px_X (d + 1) 92 (px_psh (41, [vR 58, vJ], []) q.1) q.2) := ((xs_aldn k92_4 rfl).trans ((xs_ic k92_5 (by omega)).trans ((xs_put1 k92_6 (Or.inl rfl) (px_s58 L) (Nat.le_of_ble_eq_true rfl) (by omega)).trans ((xs_aldn k92_9 rfl).trans ((xs_ic k92_10 (by omega)).trans ((xs_put0 k92_11 (Or.inl rfl) (px_s58 L) (Nat.le_of_ble_eq_true rfl)).trans ((xs_aldn k92_14 rfl).trans ((xs_ic k92_15 (by omega)).trans ((xs_put0 k92_16 (Or.inl rfl) (px_s58 L) (Nat.le_of_ble_eq_true rfl)).trans ((xs_aldn k92_19 rfl).trans ((xs_ic k92_20 (by omega)).trans ((xs_put0 k92_21 (Or.inl rfl) (px_s58 L) (Nat.le_of_ble_eq_true rfl)).trans ((xs_aldn k92_24 rfl).trans ((xs_ic k92_25 (by omega)).trans ((xs_put0 k92_26 (Or.inl rfl) (px_s58 L) (Nat.le_of_ble_eq_true rfl)).trans ((xs_aldn k92_29 rfl).trans ((xs_ic k92_30 (by omega)).trans ((xs_put0 k92_31 (Or.inl rfl) (px_s58 L) (Nat.le_of_ble_eq_true rfl)).trans ((xs_aldn k92_34 rfl).trans ((xs_get4 k92_35 (px_s58 L) (Nat.le_of_ble_eq_true rfl) (px_r58_0 hr)).trans (xs_callvB k92_38 (as := []) rfl rfl (Nat.le_of_ble_eq_true rfl) (Nat.le_of_ble_eq_true rfl) (Nat.le_of_ble_eq_true rfl) (px_s59 L) (Nat.le_of_ble_eq_true rfl))))))))))))))))))))))
theorem b92_41 (hr : px_hr r) (d : Nat) (i l : MI)  : px_X d 92 (41, [vR 58, vJ], []) (px_sh L, i, l, r, t) = px_X d 92 (43, [vR 58, vI 0], []) (px_sh L, i, l, r, t) := ((xs_ic k92_41 (by omega)).trans (xs_istn k92_42 (Nat.le_of_ble_eq_true rfl) (ls' := [vR 58, vI 0]) rfl))
theorem b92_43 (hr : px_hr r) (d : Nat) (i l : MI) (x1 : Int) : px_X (d + 1) 92 (43, [vR 58, vI x1], []) (px_sh L, i, l, r, t) = if 300 < x1 then some (none, (px_sh L, (px_up i 58 1 0), l, r, t)) else if (i 58 3) = 0 then (px_C d 33 [vR 65, vI (i 58 9)] (px_sh L, i, l, r, t)).bind (fun q => px_X (d + 1) 92 (px_psh (68, [vR 58, vI x1], []) q.1) q.2) else some (none, (px_sh L, (px_up i 58 1 0), l, r, t)) := ((xs_ildn k92_43 rfl).trans ((xs_si k92_44 (by omega)).trans ((xs_jgt k92_47).trans (px_ite (fun c1 => ((xs_aldn k92_81 rfl).trans ((xs_ic k92_82 (by omega)).trans ((xs_put0 k92_83 (Or.inl rfl) (px_s58 L) (Nat.le_of_ble_eq_true rfl)).trans (xs_rv k92_86 rfl))))) (fun c1 => ((xs_aldn k92_50 rfl).trans ((xs_get0 k92_51 (px_s58 L) (Nat.le_of_ble_eq_true rfl)).trans ((xs_ine k92_54).trans (px_ite (fun c2 => ((xs_aldn k92_57 rfl).trans ((xs_get4 k92_58 (px_s58 L) (Nat.le_of_ble_eq_true rfl) (px_r58_6 hr)).trans ((xs_aldn k92_61 rfl).trans ((xs_get0 k92_62 (px_s58 L) (Nat.le_of_ble_eq_true rfl)).trans (xs_callsB k92_65 (as := [vR 65, vI (i 58 9)]) rfl rfl (Nat.le_of_ble_eq_true rfl) (Nat.le_of_ble_eq_true rfl) (Nat.le_of_ble_eq_true rfl))))))) (fun c2 => ((xs_aldn k92_81 rfl).trans ((xs_ic k92_82 (by omega)).trans ((xs_put0 k92_83 (Or.inl rfl) (px_s58 L) (Nat.le_of_ble_eq_true rfl)).trans (xs_rv k92_86 rfl))))))))))))))
theorem b92_68 (hr : px_hr r) (d : Nat) (i l : MI) (x1 : Int) (xs0 : Int) : px_X (d + 1) 92 (68, [vR 58, vI x1], [vI xs0]) (px_sh L, i, l, r, t) = if xs0 = 0 then some (none, (px_sh L, (px_up i 58 1 0), l, r, t)) else (px_C d 102 [vR 58] (px_sh L, i, l, r, t)).bind (fun q => px_X (d + 1) 92 (px_psh (75, [vR 58, vI x1], []) q.1) q.2) := ((xs_ieq k92_68).trans (px_ite (fun c1 => ((xs_aldn k92_81 rfl).trans ((xs_ic k92_82 (by omega)).trans ((xs_put0 k92_83 (Or.inl rfl) (px_s58 L) (Nat.le_of_ble_eq_true rfl)).trans (xs_rv k92_86 rfl))))) (fun c1 => ((xs_aldn k92_71 rfl).trans (xs_callvB k92_72 (as := []) rfl rfl (Nat.le_of_ble_eq_true rfl) (Nat.le_of_ble_eq_true rfl) (Nat.le_of_ble_eq_true rfl) (px_s58 L) (Nat.le_of_ble_eq_true rfl))))))
theorem b92_75 (hr : px_hr r) (d : Nat) (i l : MI) (x1 : Int) : px_X d 92 (75, [vR 58, vI x1], []) (px_sh L, i, l, r, t) = px_X d 92 (43, [vR 58, vI (px_w32 (x1 + 1))], []) (px_sh L, i, l, r, t) := ((xs_iinc k92_75 rfl (by omega) (ls' := [vR 58, vI (px_w32 (x1 + 1))]) rfl).trans (xs_goto k92_78))
-- Reader.cutTokens ('R58',)
theorem b93_0 (hr : px_hr r) (d : Nat) (i l : MI)  : px_X d 93 (0, [vR 58, vJ, vJ, vJ, vJ], []) (px_sh L, i, l, r, t) = px_X d 93 (6, [vR 58, vI 0, vI 0, vI 0, vJ], []) (px_sh L, i, l, r, t) := ((xs_ic k93_0 (by omega)).trans ((xs_istn k93_1 (Nat.le_of_ble_eq_true rfl) (ls' := [vR 58, vI 0, vJ, vJ, vJ]) rfl).trans ((xs_ic k93_2 (by omega)).trans ((xs_istn k93_3 (Nat.le_of_ble_eq_true rfl) (ls' := [vR 58, vI 0, vI 0, vJ, vJ]) rfl).trans ((xs_ic k93_4 (by omega)).trans (xs_istn k93_5 (Nat.le_of_ble_eq_true rfl) (ls' := [vR 58, vI 0, vI 0, vI 0, vJ]) rfl))))))
theorem b93_6 (hr : px_hr r) (d : Nat) (i l : MI) (x1 : Int) (x2 : Int) (x3 : Int) {v4 : PV} (hn4 : px_nl v4) : px_X (d + 1) 93 (6, [vR 58, vI x1, vI x2, vI x3, v4], []) (px_sh L, i, l, r, t) = if (i 58 1) ≤ x3 then (px_C d 34 [vR 65, vI x1, vI 0] (px_sh L, i, l, r, t)).bind (fun q => px_X (d + 1) 93 (px_psh (107, [vR 58, vI x1, vI x2, vI x3, v4], []) q.1) q.2) else (px_C d 33 [vR 64, vI x3] (px_sh L, i, l, r, t)).bind (fun q => px_X (d + 1) 93 (px_psh (22, [vR 58, vI x1, vI x2, vI x3, v4], []) q.1) q.2) := ((xs_ildn k93_6 rfl).trans ((xs_aldn k93_7 rfl).trans ((xs_get0 k93_8 (px_s58 L) (Nat.le_of_ble_eq_true rfl)).trans ((xs_jge k93_11).trans (px_ite (fun c1 => ((xs_aldn k93_98 rfl).trans ((xs_get4 k93_99 (px_s58 L) (Nat.le_of_ble_eq_true rfl) (px_r58_6 hr)).trans ((xs_ildn k93_102 rfl).trans ((xs_ic k93_103 (by omega)).trans (xs_callsB k93_104 (as := [vR 65, vI x1, vI 0]) rfl rfl (Nat.le_of_ble_eq_true rfl) (Nat.le_of_ble_eq_true rfl) (Nat.le_of_ble_eq_true rfl))))))) (fun c1 => ((xs_aldn k93_14 rfl).trans ((xs_get4 k93_15 (px_s58 L) (Nat.le_of_ble_eq_true rfl) (px_r58_5 hr)).trans ((xs_ildn k93_18 rfl).trans (xs_callsB k93_19 (as := [vR 64, vI x3]) rfl rfl (Nat.le_of_ble_eq_true rfl) (Nat.le_of_ble_eq_true rfl) (Nat.le_of_ble_eq_true rfl)))))))))))
theorem b93_22 (hr : px_hr r) (d : Nat) (i l : MI) (x1 : Int) (x2 : Int) (x3 : Int) {v4 : PV} (hn4 : px_nl v4) (xs0 : Int) : px_X (d + 1) 93 (22, [vR 58, vI x1, vI x2, vI x3, v4], [vI xs0]) (px_sh L, i, l, r, t) = if x3 < x2 then px_X (d + 1) 93 (6, [vR 58, vI x1, vI x2, vI (px_w32 (x3 + 1)), vI xs0], []) (px_sh L, i, l, r, t) else if xs0 = 32 then px_X (d + 1) 93 (6, [vR 58, vI x1, vI x2, vI (px_w32 (x3 + 1)), vI xs0], []) (px_sh L, i, l, r, t) else if xs0 = 10 then px_X (d + 1) 93 (6, [vR 58, vI x1, vI x2, vI (px_w32 (x3 + 1)), vI xs0], []) (px_sh L, i, l, r, t) else (px_C d 94 [vR 58, vI x3] (px_sh L, i, l, r, t)).bind (fun q => px_X (d + 1) 93 (px_psh (51, [vR 58, vI x1, vI x2, vI x3, vI xs0], []) q.1) q.2) := ((xs_ist k93_22 (Nat.le_of_ble_eq_true rfl) (ls' := [vR 58, vI x1, vI x2, vI x3, vI xs0]) rfl).trans ((xs_ildn k93_24 rfl).trans ((xs_ildn k93_25 rfl).trans ((xs_jlt k93_26).trans (px_ite (fun c1 => ((xs_iinc k93_92 rfl (by omega) (ls' := [vR 58, vI x1, vI x2, vI (px_w32 (x3 + 1)), vI xs0]) rfl).trans (xs_goto k93_95))) (fun c1 => ((xs_ild k93_29 rfl).trans ((xs_bi k93_31 (by omega)).trans ((xs_jeq k93_33).trans (px_ite (fun c2 => ((xs_iinc k93_92 rfl (by omega) (ls' := [vR 58, vI x1, vI x2, vI (px_w32 (x3 + 1)), vI xs0]) rfl).trans (xs_goto k93_95))) (fun c2 => ((xs_ild k93_36 rfl).trans ((xs_bi k93_38 (by omega)).trans ((xs_jne k93_40).trans (px_ite (fun c3 => ((xs_goto k93_43).trans ((xs_iinc k93_92 rfl (by omega) (ls' := [vR 58, vI x1, vI x2, vI (px_w32 (x3 + 1)), vI xs0]) rfl).trans (xs_goto k93_95)))) (fun c3 => ((xs_aldn k93_46 rfl).trans ((xs_ildn k93_47 rfl).trans (xs_callvB k93_48 (as := [vI x3]) rfl rfl (Nat.le_of_ble_eq_true rfl) (Nat.le_of_ble_eq_true rfl) (Nat.le_of_ble_eq_true rfl) (px_s58 L) (Nat.le_of_ble_eq_true rfl))))))))))))))))))))
theorem b93_51 (hr : px_hr r) (d : Nat) (i l : MI) (x1 : Int) (x2 : Int) (x3 : Int) (x4 : Int) (xs0 : Int) : px_X (d + 1) 93 (51, [vR 58, vI x1, vI x2, vI x3, vI x4], [vI xs0]) (px_sh L, i, l, r, t) = (px_C d 97 [vR 58, vI x3, vI xs0] (px_sh L, i, l, r, t)).bind (fun q => px_X (d + 1) 93 (px_psh (63, [vR 58, vI x1, vI xs0, vI x3, vI x4], [vI x1, vR 65]) q.1) q.2) := ((xs_istn k93_51 (Nat.le_of_ble_eq_true rfl) (ls' := [vR 58, vI x1, vI xs0, vI x3, vI x4]) rfl).trans ((xs_aldn k93_52 rfl).trans ((xs_get4 k93_53 (px_s58 L) (Nat.le_of_ble_eq_true rfl) (px_r58_6 hr)).trans ((xs_ildn k93_56 rfl).trans ((xs_aldn k93_57 rfl).trans ((xs_ildn k93_58 rfl).trans ((xs_ildn k93_59 rfl).trans (xs_callvB k93_60 (as := [vI x3, vI xs0]) rfl rfl (Nat.le_of_ble_eq_true rfl) (Nat.le_of_ble_eq_true rfl) (Nat.le_of_ble_eq_true rfl) (px_s58 L) (Nat.le_of_ble_eq_true rfl)))))))))
theorem b93_63 (hr : px_hr r) (d : Nat) (i l : MI) (x1 : Int) (x2 : Int) (x3 : Int) (x4 : Int) (xs0 : Int) (xs1 : Int) : px_X (d + 1) 93 (63, [vR 58, vI x1, vI x2, vI x3, vI x4], [vI xs0, vI xs1, vR 65]) (px_sh L, i, l, r, t) = (px_C d 34 [vR 65, vI xs1, vI xs0] (px_sh L, i, l, r, t)).bind (fun q => px_X (d + 1) 93 (px_psh (66, [vR 58, vI x1, vI x2, vI x3, vI x4], []) q.1) q.2) := (xs_callsB k93_63 (as := [vR 65, vI xs1, vI xs0]) rfl rfl (Nat.le_of_ble_eq_true rfl) (Nat.le_of_ble_eq_true rfl) (Nat.le_of_ble_eq_true rfl))
theorem b93_66 (hr : px_hr r) (d : Nat) (i l : MI) (x1 : Int) (x2 : Int) (x3 : Int) (x4 : Int) : px_X (d + 1) 93 (66, [vR 58, vI x1, vI x2, vI x3, vI x4], []) (px_sh L, i, l, r, t) = (px_C d 34 [vR 66, vI x1, vI x3] (px_sh L, i, l, r, t)).bind (fun q => px_X (d + 1) 93 (px_psh (75, [vR 58, vI x1, vI x2, vI x3, vI x4], []) q.1) q.2) := ((xs_aldn k93_66 rfl).trans ((xs_get4 k93_67 (px_s58 L) (Nat.le_of_ble_eq_true rfl) (px_r58_7 hr)).trans ((xs_ildn k93_70 rfl).trans ((xs_ildn k93_71 rfl).trans (xs_callsB k93_72 (as := [vR 66, vI x1, vI x3]) rfl rfl (Nat.le_of_ble_eq_true rfl) (Nat.le_of_ble_eq_true rfl) (Nat.le_of_ble_eq_true rfl))))))
theorem b93_75 (hr : px_hr r) (d : Nat) (i l : MI) (x1 : Int) (x2 : Int) (x3 : Int) (x4 : Int) : px_X (d + 1) 93 (75, [vR 58, vI x1, vI x2, vI x3, vI x4], []) (px_sh L, i, l, r, t) = (px_C d 100 [vR 58, vI x3, vI x2] (px_sh L, i, l, r, t)).bind (fun q => px_X (d + 1) 93 (px_psh (86, [vR 58, vI x1, vI x2, vI x3, vI x4], [vI x1, vR 67]) q.1) q.2) := ((xs_aldn k93_75 rfl).trans ((xs_get4 k93_76 (px_s58 L) (Nat.le_of_ble_eq_true rfl) (px_r58_8 hr)).trans ((xs_ildn k93_79 rfl).trans ((xs_aldn k93_80 rfl).trans ((xs_ildn k93_81 rfl).trans ((xs_ildn k93_82 rfl).trans (xs_callvB k93_83 (as := [vI x3, vI x2]) rfl rfl (Nat.le_of_ble_eq_true rfl) (Nat.le_of_ble_eq_true rfl) (Nat.le_of_ble_eq_true rfl) (px_s58 L) (Nat.le_of_ble_eq_true rfl))))))))
theorem b93_86 (hr : px_hr r) (d : Nat) (i l : MI) (x1 : Int) (x2 : Int) (x3 : Int) (x4 : Int) (xs0 : Int) (xs1 : Int) : px_X (d + 1) 93 (86, [vR 58, vI x1, vI x2, vI x3, vI x4], [vI xs0, vI xs1, vR 67]) (px_sh L, i, l, r, t) = (px_C d 34 [vR 67, vI xs1, vI xs0] (px_sh L, i, l, r, t)).bind (fun q => px_X (d + 1) 93 (px_psh (89, [vR 58, vI x1, vI x2, vI x3, vI x4], []) q.1) q.2) := (xs_callsB k93_86 (as := [vR 67, vI xs1, vI xs0]) rfl rfl (Nat.le_of_ble_eq_true rfl) (Nat.le_of_ble_eq_true rfl) (Nat.le_of_ble_eq_true rfl))
theorem b93_89 (hr : px_hr r) (d : Nat) (i l : MI) (x1 : Int) (x2 : Int) (x3 : Int) (x4 : Int) : px_X d 93 (89, [vR 58, vI x1, vI x2, vI x3, vI x4], []) (px_sh L, i, l, r, t) = px_X d 93 (6, [vR 58, vI (px_w32 (x1 + 1)), vI x2, vI (px_w32 (x3 + 1)), vI x4], []) (px_sh L, i, l, r, t) := ((xs_iinc k93_89 rfl (by omega) (ls' := [vR 58, vI (px_w32 (x1 + 1)), vI x2, vI x3, vI x4]) rfl).trans ((xs_iinc k93_92 rfl (by omega) (ls' := [vR 58, vI (px_w32 (x1 + 1)), vI x2, vI (px_w32 (x3 + 1)), vI x4]) rfl).trans (xs_goto k93_95)))
theorem b93_107 (hr : px_hr r) (d : Nat) (i l : MI) (x1 : Int) (x2 : Int) (x3 : Int) {v4 : PV} (hn4 : px_nl v4) : px_X (d + 1) 93 (107, [vR 58, vI x1, vI x2, vI x3, v4], []) (px_sh L, i, l, r, t) = (px_C d 34 [vR 66, vI x1, vI (i 58 1)] (px_sh L, i, l, r, t)).bind (fun q => px_X (d + 1) 93 (px_psh (119, [vR 58, vI x1, vI x2, vI x3, v4], []) q.1) q.2) := ((xs_aldn k93_107 rfl).trans ((xs_get4 k93_108 (px_s58 L) (Nat.le_of_ble_eq_true rfl) (px_r58_7 hr)).trans ((xs_ildn k93_111 rfl).trans ((xs_aldn k93_112 rfl).trans ((xs_get0 k93_113 (px_s58 L) (Nat.le_of_ble_eq_true rfl)).trans (xs_callsB k93_116 (as := [vR 66, vI x1, vI (i 58 1)]) rfl rfl (Nat.le_of_ble_eq_true rfl) (Nat.le_of_ble_eq_true rfl) (Nat.le_of_ble_eq_true rfl)))))))
theorem b93_119 (hr : px_hr r) (d : Nat) (i l : MI) (x1 : Int) (x2 : Int) (x3 : Int) {v4 : PV} (hn4 : px_nl v4) : px_X d 93 (119, [vR 58, vI x1, vI x2, vI x3, v4], []) (px_sh L, i, l, r, t) = some (none, (px_sh L, i, l, r, t)) := (xs_rv k93_119 rfl)
-- Reader.behindToken ('R58', 'I')
theorem b94_0 (hr : px_hr r) (d : Nat) (i l : MI) (x1 : Int) : px_X (d + 1) 94 (0, [vR 58, vI x1, vJ, vJ, vJ, vJ], []) (px_sh L, i, l, r, t) = (px_C d 33 [vR 64, vI x1] (px_sh L, i, l, r, t)).bind (fun q => px_X (d + 1) 94 (px_psh (8, [vR 58, vI x1, vJ, vJ, vJ, vJ], []) q.1) q.2) := ((xs_aldn k94_0 rfl).trans ((xs_get4 k94_1 (px_s58 L) (Nat.le_of_ble_eq_true rfl) (px_r58_5 hr)).trans ((xs_ildn k94_4 rfl).trans (xs_callsB k94_5 (as := [vR 64, vI x1]) rfl rfl (Nat.le_of_ble_eq_true rfl) (Nat.le_of_ble_eq_true rfl) (Nat.le_of_ble_eq_true rfl)))))
theorem b94_8 (hr : px_hr r) (d : Nat) (i l : MI) (x1 : Int) (xs0 : Int) : px_X (d + 1) 94 (8, [vR 58, vI x1, vJ, vJ, vJ, vJ], [vI xs0]) (px_sh L, i, l, r, t) = (px_C d 95 [vI xs0] (px_sh L, i, l, r, t)).bind (fun q => px_X (d + 1) 94 (px_psh (13, [vR 58, vI x1, vI xs0, vJ, vJ, vJ], []) q.1) q.2) := ((xs_istn k94_8 (Nat.le_of_ble_eq_true rfl) (ls' := [vR 58, vI x1, vI xs0, vJ, vJ, vJ]) rfl).trans ((xs_ildn k94_9 rfl).trans (xs_callsB k94_10 (as := [vI xs0]) rfl rfl (Nat.le_of_ble_eq_true rfl) (Nat.le_of_ble_eq_true rfl) (Nat.le_of_ble_eq_true rfl))))
theorem b94_13 (hr : px_hr r) (d : Nat) (i l : MI) (x1 : Int) (x2 : Int) (xs0 : Int) : px_X (d + 1) 94 (13, [vR 58, vI x1, vI x2, vJ, vJ, vJ], [vI xs0]) (px_sh L, i, l, r, t) = if xs0 = 0 then (px_C d 96 [vI x2] (px_sh L, i, l, r, t)).bind (fun q => px_X (d + 1) 94 (px_psh (22, [vR 58, vI x1, vI x2, vI xs0, vJ, vJ], []) q.1) q.2) else px_X (d + 1) 94 (87, [vR 58, vI x1, vI x2, vI xs0, vI x1, vJ], []) (px_sh L, i, l, r, t) := ((xs_istn k94_13 (Nat.le_of_ble_eq_true rfl) (ls' := [vR 58, vI x1, vI x2, vI xs0, vJ, vJ]) rfl).trans ((xs_ildn k94_14 rfl).trans ((xs_ine k94_15).trans (px_ite (fun c1 => ((xs_ildn k94_18 rfl).trans (xs_callsB k94_19 (as := [vI x2]) rfl rfl (Nat.le_of_ble_eq_true rfl) (Nat.le_of_ble_eq_true rfl) (Nat.le_of_ble_eq_true rfl)))) (fun c1 => ((xs_ildn k94_84 rfl).trans (xs_ist k94_85 (Nat.le_of_ble_eq_true rfl) (ls' := [vR 58, vI x1, vI x2, vI xs0, vI x1, vJ]) rfl)))))))
theorem b94_22 (hr : px_hr r) (d : Nat) (i l : MI) (x1 : Int) (x2 : Int) (x3 : Int) (xs0 : Int) : px_X d 94 (22, [vR 58, vI x1, vI x2, vI x3, vJ, vJ], [vI xs0]) (px_sh L, i, l, r, t) = if xs0 = 0 then if x2 = 60 then px_X d 94 (37, [vR 58, vI x1, vI x2, vI x3, vJ, vJ], []) (px_sh L, i, l, r, t) else if x2 = 62 then px_X d 94 (37, [vR 58, vI x1, vI x2, vI x3, vJ, vJ], []) (px_sh L, i, l, r, t) else px_X d 94 (66, [vR 58, vI x1, vI x2, vI x3, vJ, vJ], []) (px_sh L, i, l, r, t) else px_X d 94 (87, [vR 58, vI x1, vI x2, vI x3, vI x1, vJ], []) (px_sh L, i, l, r, t) := ((xs_ine k94_22).trans (px_ite (fun c1 => ((xs_ildn k94_25 rfl).trans ((xs_bi k94_26 (by omega)).trans ((xs_jeq k94_28).trans (px_ite (fun c2 => rfl) (fun c2 => ((xs_ildn k94_31 rfl).trans ((xs_bi k94_32 (by omega)).trans ((xs_jne k94_34).trans (px_ite (fun c3 => rfl) (fun c3 => rfl))))))))))) (fun c1 => ((xs_ildn k94_84 rfl).trans (xs_ist k94_85 (Nat.le_of_ble_eq_true rfl) (ls' := [vR 58, vI x1, vI x2, vI x3, vI x1, vJ]) rfl)))))
theorem b94_37 (hr : px_hr r) (d : Nat) (i l : MI) (x1 : Int) (x2 : Int) (x3 : Int) : px_X (d + 1) 94 (37, [vR 58, vI x1, vI x2, vI x3, vJ, vJ], []) (px_sh L, i, l, r, t) = if (i 58 1) ≤ (px_w32 (x1 + 1)) then px_X (d + 1) 94 (66, [vR 58, vI x1, vI x2, vI x3, vJ, vJ], []) (px_sh L, i, l, r, t) else (px_C d 33 [vR 64, vI (px_w32 (x1 + 1))] (px_sh L, i, l, r, t)).bind (fun q => px_X (d + 1) 94 (px_psh (57, [vR 58, vI x1, vI x2, vI x3, vJ, vJ], []) q.1) q.2) := ((xs_ildn k94_37 rfl).trans ((xs_ic k94_38 (by omega)).trans ((xs_iadd k94_39).trans ((xs_aldn k94_40 rfl).trans ((xs_get0 k94_41 (px_s58 L) (Nat.le_of_ble_eq_true rfl)).trans ((xs_jge k94_44).trans (px_ite (fun c1 => rfl) (fun c1 => ((xs_aldn k94_47 rfl).trans ((xs_get4 k94_48 (px_s58 L) (Nat.le_of_ble_eq_true rfl) (px_r58_5 hr)).trans ((xs_ildn k94_51 rfl).trans ((xs_ic k94_52 (by omega)).trans ((xs_iadd k94_53).trans (xs_callsB k94_54 (as := [vR 64, vI (px_w32 (x1 + 1))]) rfl rfl (Nat.le_of_ble_eq_true rfl) (Nat.le_of_ble_eq_true rfl) (Nat.le_of_ble_eq_true rfl)))))))))))))))
theorem b94_57 (hr : px_hr r) (d : Nat) (i l : MI) (x1 : Int) (x2 : Int) (x3 : Int) (xs0 : Int) : px_X d 94 (57, [vR 58, vI x1, vI x2, vI x3, vJ, vJ], [vI xs0]) (px_sh L, i, l, r, t) = if xs0 = 61 then px_X d 94 (67, [vR 58, vI x1, vI x2, vI x3, vJ, vJ], [vI 1]) (px_sh L, i, l, r, t) else px_X d 94 (66, [vR 58, vI x1, vI x2, vI x3, vJ, vJ], []) (px_sh L, i, l, r, t) := ((xs_bi k94_57 (by omega)).trans ((xs_jne k94_59).trans (px_ite (fun c1 => ((xs_ic k94_62 (by omega)).trans (xs_goto k94_63))) (fun c1 => rfl))))
theorem b94_66 (hr : px_hr r) (d : Nat) (i l : MI) (x1 : Int) (x2 : Int) (x3 : Int) : px_X d 94 (66, [vR 58, vI x1, vI x2, vI x3, vJ, vJ], []) (px_sh L, i, l, r, t) = px_X d 94 (67, [vR 58, vI x1, vI x2, vI x3, vJ, vJ], [vI 0]) (px_sh L, i, l, r, t) := (xs_ic k94_66 (by omega))
theorem b94_67 (hr : px_hr r) (d : Nat) (i l : MI) (x1 : Int) (x2 : Int) (x3 : Int) (xs0 : Int) : px_X d 94 (67, [vR 58, vI x1, vI x2, vI x3, vJ, vJ], [vI xs0]) (px_sh L, i, l, r, t) = if xs0 = 0 then some (some (vI (px_w32 (x1 + 1))), (px_sh L, i, l, r, t)) else some (some (vI (px_w32 (x1 + 2))), (px_sh L, i, l, r, t)) := ((xs_ist k94_67 (Nat.le_of_ble_eq_true rfl) (ls' := [vR 58, vI x1, vI x2, vI x3, vI xs0, vJ]) rfl).trans ((xs_ild k94_69 rfl).trans ((xs_ieq k94_71).trans (px_ite (fun c1 => ((xs_ildn k94_80 rfl).trans ((xs_ic k94_81 (by omega)).trans ((xs_iadd k94_82).trans (xs_ri k94_83 rfl))))) (fun c1 => ((xs_ildn k94_74 rfl).trans ((xs_ic k94_75 (by omega)).trans ((xs_iadd k94_76).trans ((xs_goto k94_77).trans (xs_ri k94_83 rfl))))))))))
theorem b94_87 (hr : px_hr r) (d : Nat) (i l : MI) (x1 : Int) (x2 : Int) (x3 : Int) (x4 : Int) {v5 : PV} (hn5 : px_nl v5) : px_X (d + 1) 94 (87, [vR 58, vI x1, vI x2, vI x3, vI x4, v5], []) (px_sh L, i, l, r, t) = if (i 58 1) ≤ x4 then some (some (vI (i 58 1)), (px_sh L, i, l, r, t)) else if x3 = 0 then (px_C d 33 [vR 64, vI x4] (px_sh L, i, l, r, t)).bind (fun q => px_X (d + 1) 94 (px_psh (124, [vR 58, vI x1, vI x2, vI x3, vI x4, v5], []) q.1) q.2) else (px_C d 33 [vR 64, vI x4] (px_sh L, i, l, r, t)).bind (fun q => px_X (d + 1) 94 (px_psh (109, [vR 58, vI x1, vI x2, vI x3, vI x4, v5], []) q.1) q.2) := ((xs_ild k94_87 rfl).trans ((xs_aldn k94_89 rfl).trans ((xs_get0 k94_90 (px_s58 L) (Nat.le_of_ble_eq_true rfl)).trans ((xs_jge k94_93).trans (px_ite (fun c1 => ((xs_aldn k94_143 rfl).trans ((xs_get0 k94_144 (px_s58 L) (Nat.le_of_ble_eq_true rfl)).trans (xs_ri k94_147 rfl)))) (fun c1 => ((xs_ildn k94_96 rfl).trans ((xs_ieq k94_97).trans (px_ite (fun c2 => ((xs_aldn k94_115 rfl).trans ((xs_get4 k94_116 (px_s58 L) (Nat.le_of_ble_eq_true rfl) (px_r58_5 hr)).trans ((xs_ild k94_119 rfl).trans (xs_callsB k94_121 (as := [vR 64, vI x4]) rfl rfl (Nat.le_of_ble_eq_true rfl) (Nat.le_of_ble_eq_true rfl) (Nat.le_of_ble_eq_true rfl)))))) (fun c2 => ((xs_aldn k94_100 rfl).trans ((xs_get4 k94_101 (px_s58 L) (Nat.le_of_ble_eq_true rfl) (px_r58_5 hr)).trans ((xs_ild k94_104 rfl).trans (xs_callsB k94_106 (as := [vR 64, vI x4]) rfl rfl (Nat.le_of_ble_eq_true rfl) (Nat.le_of_ble_eq_true rfl) (Nat.le_of_ble_eq_true rfl)))))))))))))))
theorem b94_109 (hr : px_hr r) (d : Nat) (i l : MI) (x1 : Int) (x2 : Int) (x3 : Int) (x4 : Int) {v5 : PV} (hn5 : px_nl v5) (xs0 : Int) : px_X (d + 1) 94 (109, [vR 58, vI x1, vI x2, vI x3, vI x4, v5], [vI xs0]) (px_sh L, i, l, r, t) = (px_C d 95 [vI xs0] (px_sh L, i, l, r, t)).bind (fun q => px_X (d + 1) 94 (px_psh (112, [vR 58, vI x1, vI x2, vI x3, vI x4, v5], []) q.1) q.2) := (xs_callsB k94_109 (as := [vI xs0]) rfl rfl (Nat.le_of_ble_eq_true rfl) (Nat.le_of_ble_eq_true rfl) (Nat.le_of_ble_eq_true rfl))
theorem b94_112 (hr : px_hr r) (d : Nat) (i l : MI) (x1 : Int) (x2 : Int) (x3 : Int) (x4 : Int) {v5 : PV} (hn5 : px_nl v5) (xs0 : Int) : px_X d 94 (112, [vR 58, vI x1, vI x2, vI x3, vI x4, v5], [vI xs0]) (px_sh L, i, l, r, t) = px_X d 94 (127, [vR 58, vI x1, vI x2, vI x3, vI x4, v5], [vI xs0]) (px_sh L, i, l, r, t) := (xs_goto k94_112)
theorem b94_124 (hr : px_hr r) (d : Nat) (i l : MI) (x1 : Int) (x2 : Int) (x3 : Int) (x4 : Int) {v5 : PV} (hn5 : px_nl v5) (xs0 : Int) : px_X (d + 1) 94 (124, [vR 58, vI x1, vI x2, vI x3, vI x4, v5], [vI xs0]) (px_sh L, i, l, r, t) = (px_C d 96 [vI xs0] (px_sh L, i, l, r, t)).bind (fun q => px_X (d + 1) 94 (px_psh (127, [vR 58, vI x1, vI x2, vI x3, vI x4, v5], []) q.1) q.2) := (xs_callsB k94_124 (as := [vI xs0]) rfl rfl (Nat.le_of_ble_eq_true rfl) (Nat.le_of_ble_eq_true rfl) (Nat.le_of_ble_eq_true rfl))
theorem b94_127 (hr : px_hr r) (d : Nat) (i l : MI) (x1 : Int) (x2 : Int) (x3 : Int) (x4 : Int) {v5 : PV} (hn5 : px_nl v5) (xs0 : Int) : px_X d 94 (127, [vR 58, vI x1, vI x2, vI x3, vI x4, v5], [vI xs0]) (px_sh L, i, l, r, t) = if xs0 = 0 then some (some (vI x4), (px_sh L, i, l, r, t)) else px_X d 94 (87, [vR 58, vI x1, vI x2, vI x3, vI (px_w32 (x4 + 1)), vI xs0], []) (px_sh L, i, l, r, t) := ((xs_ist k94_127 (Nat.le_of_ble_eq_true rfl) (ls' := [vR 58, vI x1, vI x2, vI x3, vI x4, vI xs0]) rfl).trans ((xs_ild k94_129 rfl).trans ((xs_ine k94_131).trans (px_ite (fun c1 => ((xs_ild k94_134 rfl).trans (xs_ri k94_136 rfl))) (fun c1 => ((xs_iinc k94_137 rfl (by omega) (ls' := [vR 58, vI x1, vI x2, vI x3, vI (px_w32 (x4 + 1)), vI xs0]) rfl).trans (xs_goto k94_140)))))))
-- Reader.isLetter ('I',)
theorem b95_0 (hr : px_hr r) (d : Nat) (i l : MI) (x0 : Int) : px_X (d + 1) 95 (0, [vI x0], []) (px_sh L, i, l, r, t) = (px_C d 30 [vI x0, vI 97, vI 122] (px_sh L, i, l, r, t)).bind (fun q => px_X (d + 1) 95 (px_psh (8, [vI x0], []) q.1) q.2) := ((xs_ildn k95_0 rfl).trans ((xs_bi k95_1 (by omega)).trans ((xs_bi k95_3 (by omega)).trans (xs_callsB k95_5 (as := [vI x0, vI 97, vI 122]) rfl rfl (Nat.le_of_ble_eq_true rfl) (Nat.le_of_ble_eq_true rfl) (Nat.le_of_ble_eq_true rfl)))))
theorem b95_8 (hr : px_hr r) (d : Nat) (i l : MI) (x0 : Int) (xs0 : Int) : px_X (d + 1) 95 (8, [vI x0], [vI xs0]) (px_sh L, i, l, r, t) = if xs0 = 0 then (px_C d 30 [vI x0, vI 65, vI 90] (px_sh L, i, l, r, t)).bind (fun q => px_X (d + 1) 95 (px_psh (19, [vI x0], []) q.1) q.2) else some (some (vI 1), (px_sh L, i, l, r, t)) := ((xs_ine k95_8).trans (px_ite (fun c1 => ((xs_ildn k95_11 rfl).trans ((xs_bi k95_12 (by omega)).trans ((xs_bi k95_14 (by omega)).trans (xs_callsB k95_16 (as := [vI x0, vI 65, vI 90]) rfl rfl (Nat.le_of_ble_eq_true rfl) (Nat.le_of_ble_eq_true rfl) (Nat.le_of_ble_eq_true rfl)))))) (fun c1 => ((xs_ic k95_22 (by omega)).trans ((xs_goto k95_23).trans (xs_rz k95_27 rfl (by omega)))))))
theorem b95_19 (hr : px_hr r) (d : Nat) (i l : MI) (x0 : Int) (xs0 : Int) : px_X d 95 (19, [vI x0], [vI xs0]) (px_sh L, i, l, r, t) = if xs0 = 0 then some (some (vI 0), (px_sh L, i, l, r, t)) else some (some (vI 1), (px_sh L, i, l, r, t)) := ((xs_ieq k95_19).trans (px_ite (fun c1 => ((xs_ic k95_26 (by omega)).trans (xs_rz k95_27 rfl (by omega)))) (fun c1 => ((xs_ic k95_22 (by omega)).trans ((xs_goto k95_23).trans (xs_rz k95_27 rfl (by omega)))))))
-- Reader.isDigit ('I',)
theorem b96_0 (hr : px_hr r) (d : Nat) (i l : MI) (x0 : Int) : px_X (d + 1) 96 (0, [vI x0], []) (px_sh L, i, l, r, t) = (px_C d 30 [vI x0, vI 48, vI 57] (px_sh L, i, l, r, t)).bind (fun q => px_X (d + 1) 96 (px_psh (8, [vI x0], []) q.1) q.2) := ((xs_ildn k96_0 rfl).trans ((xs_bi k96_1 (by omega)).trans ((xs_bi k96_3 (by omega)).trans (xs_callsB k96_5 (as := [vI x0, vI 48, vI 57]) rfl rfl (Nat.le_of_ble_eq_true rfl) (Nat.le_of_ble_eq_true rfl) (Nat.le_of_ble_eq_true rfl)))))
theorem b96_8 (hr : px_hr r) (d : Nat) (i l : MI) (x0 : Int) (xs0 : Int) (h1 : xs0 = 0 ∨ xs0 = 1) : px_X d 96 (8, [vI x0], [vI xs0]) (px_sh L, i, l, r, t) = some (some (vI xs0), (px_sh L, i, l, r, t)) := (xs_rz k96_8 rfl (h1))
-- Reader.kindOf ('R58', 'I', 'I')
theorem b97_0 (hr : px_hr r) (d : Nat) (i l : MI) (x1 : Int) (x2 : Int) : px_X (d + 1) 97 (0, [vR 58, vI x1, vI x2, vJ], []) (px_sh L, i, l, r, t) = (px_C d 33 [vR 64, vI x1] (px_sh L, i, l, r, t)).bind (fun q => px_X (d + 1) 97 (px_psh (8, [vR 58, vI x1, vI x2, vJ], []) q.1) q.2) := ((xs_aldn k97_0 rfl).trans ((xs_get4 k97_1 (px_s58 L) (Nat.le_of_ble_eq_true rfl) (px_r58_5 hr)).trans ((xs_ildn k97_4 rfl).trans (xs_callsB k97_5 (as := [vR 64, vI x1]) rfl rfl (Nat.le_of_ble_eq_true rfl) (Nat.le_of_ble_eq_true rfl) (Nat.le_of_ble_eq_true rfl)))))
theorem b97_8 (hr : px_hr r) (d : Nat) (i l : MI) (x1 : Int) (x2 : Int) (xs0 : Int) : px_X (d + 1) 97 (8, [vR 58, vI x1, vI x2, vJ], [vI xs0]) (px_sh L, i, l, r, t) = (px_C d 95 [vI xs0] (px_sh L, i, l, r, t)).bind (fun q => px_X (d + 1) 97 (px_psh (13, [vR 58, vI x1, vI x2, vI xs0], []) q.1) q.2) := ((xs_istn k97_8 (Nat.le_of_ble_eq_true rfl) (ls' := [vR 58, vI x1, vI x2, vI xs0]) rfl).trans ((xs_ildn k97_9 rfl).trans (xs_callsB k97_10 (as := [vI xs0]) rfl rfl (Nat.le_of_ble_eq_true rfl) (Nat.le_of_ble_eq_true rfl) (Nat.le_of_ble_eq_true rfl))))
theorem b97_13 (hr : px_hr r) (d : Nat) (i l : MI) (x1 : Int) (x2 : Int) (x3 : Int) (xs0 : Int) : px_X (d + 1) 97 (13, [vR 58, vI x1, vI x2, vI x3], [vI xs0]) (px_sh L, i, l, r, t) = if xs0 = 0 then (px_C d 96 [vI x3] (px_sh L, i, l, r, t)).bind (fun q => px_X (d + 1) 97 (px_psh (27, [vR 58, vI x1, vI x2, vI x3], []) q.1) q.2) else (px_C d 98 [vR 58, vI x1, vI x2] (px_sh L, i, l, r, t)).bind (fun q => px_X (d + 1) 97 (px_psh (22, [vR 58, vI x1, vI x2, vI x3], []) q.1) q.2) := ((xs_ieq k97_13).trans (px_ite (fun c1 => ((xs_ildn k97_23 rfl).trans (xs_callsB k97_24 (as := [vI x3]) rfl rfl (Nat.le_of_ble_eq_true rfl) (Nat.le_of_ble_eq_true rfl) (Nat.le_of_ble_eq_true rfl)))) (fun c1 => ((xs_aldn k97_16 rfl).trans ((xs_ildn k97_17 rfl).trans ((xs_ildn k97_18 rfl).trans (xs_callvB k97_19 (as := [vI x1, vI x2]) rfl rfl (Nat.le_of_ble_eq_true rfl) (Nat.le_of_ble_eq_true rfl) (Nat.le_of_ble_eq_true rfl) (px_s58 L) (Nat.le_of_ble_eq_true rfl))))))))
theorem b97_22 (hr : px_hr r) (d : Nat) (i l : MI) (x1 : Int) (x2 : Int) (x3 : Int) (xs0 : Int) : px_X d 97 (22, [vR 58, vI x1, vI x2, vI x3], [vI xs0]) (px_sh L, i, l, r, t) = some (some (vI xs0), (px_sh L, i, l, r, t)) := (xs_ri k97_22 rfl)
theorem b97_27 (hr : px_hr r) (d : Nat) (i l : MI) (x1 : Int) (x2 : Int) (x3 : Int) (xs0 : Int) : px_X d 97 (27, [vR 58, vI x1, vI x2, vI x3], [vI xs0]) (px_sh L, i, l, r, t) = if xs0 = 0 then if x3 = 35 then some (some (vI 19), (px_sh L, i, l, r, t)) else if x3 = 36 then some (some (vI 1), (px_sh L, i, l, r, t)) else if x3 = 37 then some (some (vI 1), (px_sh L, i, l, r, t)) else if x3 = 38 then some (some (vI 1), (px_sh L, i, l, r, t)) else if x3 = 39 then some (some (vI 1), (px_sh L, i, l, r, t)) else if x3 = 40 then some (some (vI 3), (px_sh L, i, l, r, t)) else if x3 = 41 then some (some (vI 4), (px_sh L, i, l, r, t)) else if x3 = 42 then some (some (vI 12), (px_sh L, i, l, r, t)) else if x3 = 43 then some (some (vI 10), (px_sh L, i, l, r, t)) else if x3 = 44 then some (some (vI 1), (px_sh L, i, l, r, t)) else if x3 = 45 then some (some (vI 11), (px_sh L, i, l, r, t)) else if x3 = 46 then some (some (vI 1), (px_sh L, i, l, r, t)) else if x3 = 47 then some (some (vI 13), (px_sh L, i, l, r, t)) else if x3 = 48 then some (some (vI 1), (px_sh L, i, l, r, t)) else if x3 = 49 then some (some (vI 1), (px_sh L, i, l, r, t)) else if x3 = 50 then some (some (vI 1), (px_sh L, i, l, r, t)) else if x3 = 51 then some (some (vI 1), (px_sh L, i, l, r, t)) else if x3 = 52 then some (some (vI 1), (px_sh L, i, l, r, t)) else if x3 = 53 then some (some (vI 1), (px_sh L, i, l, r, t)) else if x3 = 54 then some (some (vI 1), (px_sh L, i, l, r, t)) else if x3 = 55 then some (some (vI 1), (px_sh L, i, l, r, t)) else if x3 = 56 then some (some (vI 1), (px_sh L, i, l, r, t)) else if x3 = 57 then some (some (vI 1), (px_sh L, i, l, r, t)) else if x3 = 58 then some (some (vI 1), (px_sh L, i, l, r, t)) else if x3 = 59 then some (some (vI 5), (px_sh L, i, l, r, t)) else if x3 = 60 then if (px_w32 (x2 - x1)) = 2 then some (some (vI 15), (px_sh L, i, l, r, t)) else some (some (vI 14), (px_sh L, i, l, r, t)) else if x3 = 61 then some (some (vI 18), (px_sh L, i, l, r, t)) else if x3 = 62 then if (px_w32 (x2 - x1)) = 2 then some (some (vI 17), (px_sh L, i, l, r, t)) else some (some (vI 16), (px_sh L, i, l, r, t)) else some (some (vI 1), (px_sh L, i, l, r, t)) else some (some (vI 2), (px_sh L, i, l, r, t)) := ((xs_ieq k97_27).trans (px_ite (fun c1 => ((xs_ildn k97_32 rfl).trans (px_swi (fun c2 => ((xs_tsw k97_33 (tg := 193) (by rw [c2]; omega) (by rw [c2]; rfl)).trans ((xs_bi k97_193 (by omega)).trans (xs_ri k97_195 rfl)))) (fun c2 => (px_swi (fun c3 => ((xs_tsw k97_33 (tg := 214) (by rw [c3]; omega) (by rw [c3]; rfl)).trans ((xs_ic k97_214 (by omega)).trans (xs_ri k97_215 rfl)))) (fun c3 => (px_swi (fun c4 => ((xs_tsw k97_33 (tg := 214) (by rw [c4]; omega) (by rw [c4]; rfl)).trans ((xs_ic k97_214 (by omega)).trans (xs_ri k97_215 rfl)))) (fun c4 => (px_swi (fun c5 => ((xs_tsw k97_33 (tg := 214) (by rw [c5]; omega) (by rw [c5]; rfl)).trans ((xs_ic k97_214 (by omega)).trans (xs_ri k97_215 rfl)))) (fun c5 => (px_swi (fun c6 => ((xs_tsw k97_33 (tg := 214) (by rw [c6]; omega) (by rw [c6]; rfl)).trans ((xs_ic k97_214 (by omega)).trans (xs_ri k97_215 rfl)))) (fun c6 => (px_swi (fun c7 => ((xs_tsw k97_33 (tg := 208) (by rw [c7]; omega) (by rw [c7]; rfl)).trans ((xs_ic k97_208 (by omega)).trans (xs_ri k97_209 rfl)))) (fun c7 => (px_swi (fun c8 => ((xs_tsw k97_33 (tg := 210) (by rw [c8]; omega) (by rw [c8]; rfl)).trans ((xs_ic k97_210 (by omega)).trans (xs_ri k97_211 rfl)))) (fun c8 => (px_swi (fun c9 => ((xs_tsw k97_33 (tg := 202) (by rw [c9]; omega) (by rw [c9]; rfl)).trans ((xs_bi k97_202 (by omega)).trans (xs_ri k97_204 rfl)))) (fun c9 => (px_swi (fun c10 => ((xs_tsw k97_33 (tg := 196) (by rw [c10]; omega) (by rw [c10]; rfl)).trans ((xs_bi k97_196 (by omega)).trans (xs_ri k97_198 rfl)))) (fun c10 => (px_swi (fun c11 => ((xs_tsw k97_33 (tg := 214) (by rw [c11]; omega) (by rw [c11]; rfl)).trans ((xs_ic k97_214 (by omega)).trans (xs_ri k97_215 rfl)))) (fun c11 => (px_swi (fun c12 => ((xs_tsw k97_33 (tg := 199) (by rw [c12]; omega) (by rw [c12]; rfl)).trans ((xs_bi k97_199 (by omega)).trans (xs_ri k97_201 rfl)))) (fun c12 => (px_swi (fun c13 => ((xs_tsw k97_33 (tg := 214) (by rw [c13]; omega) (by rw [c13]; rfl)).trans ((xs_ic k97_214 (by omega)).trans (xs_ri k97_215 rfl)))) (fun c13 => (px_swi (fun c14 => ((xs_tsw k97_33 (tg := 205) (by rw [c14]; omega) (by rw [c14]; rfl)).trans ((xs_bi k97_205 (by omega)).trans (xs_ri k97_207 rfl)))) (fun c14 => (px_swi (fun c15 => ((xs_tsw k97_33 (tg := 214) (by rw [c15]; omega) (by rw [c15]; rfl)).trans ((xs_ic k97_214 (by omega)).trans (xs_ri k97_215 rfl)))) (fun c15 => (px_swi (fun c16 => ((xs_tsw k97_33 (tg := 214) (by rw [c16]; omega) (by rw [c16]; rfl)).trans ((xs_ic k97_214 (by omega)).trans (xs_ri k97_215 rfl)))) (fun c16 => (px_swi (fun c17 => ((xs_tsw k97_33 (tg := 214) (by rw [c17]; omega) (by rw [c17]; rfl)).trans ((xs_ic k97_214 (by omega)).trans (xs_ri k97_215 rfl)))) (fun c17 => (px_swi (fun c18 => ((xs_tsw k97_33 (tg := 214) (by rw [c18]; omega) (by rw [c18]; rfl)).trans ((xs_ic k97_214 (by omega)).trans (xs_ri k97_215 rfl)))) (fun c18 => (px_swi (fun c19 => ((xs_tsw k97_33 (tg := 214) (by rw [c19]; omega) (by rw [c19]; rfl)).trans ((xs_ic k97_214 (by omega)).trans (xs_ri k97_215 rfl)))) (fun c19 => (px_swi (fun c20 => ((xs_tsw k97_33 (tg := 214) (by rw [c20]; omega) (by rw [c20]; rfl)).trans ((xs_ic k97_214 (by omega)).trans (xs_ri k97_215 rfl)))) (fun c20 => (px_swi (fun c21 => ((xs_tsw k97_33 (tg := 214) (by rw [c21]; omega) (by rw [c21]; rfl)).trans ((xs_ic k97_214 (by omega)).trans (xs_ri k97_215 rfl)))) (fun c21 => (px_swi (fun c22 => ((xs_tsw k97_33 (tg := 214) (by rw [c22]; omega) (by rw [c22]; rfl)).trans ((xs_ic k97_214 (by omega)).trans (xs_ri k97_215 rfl)))) (fun c22 => (px_swi (fun c23 => ((xs_tsw k97_33 (tg := 214) (by rw [c23]; omega) (by rw [c23]; rfl)).trans ((xs_ic k97_214 (by omega)).trans (xs_ri k97_215 rfl)))) (fun c23 => (px_swi (fun c24 => ((xs_tsw k97_33 (tg := 214) (by rw [c24]; omega) (by rw [c24]; rfl)).trans ((xs_ic k97_214 (by omega)).trans (xs_ri k97_215 rfl)))) (fun c24 => (px_swi (fun c25 => ((xs_tsw k97_33 (tg := 214) (by rw [c25]; omega) (by rw [c25]; rfl)).trans ((xs_ic k97_214 (by omega)).trans (xs_ri k97_215 rfl)))) (fun c25 => (px_swi (fun c26 => ((xs_tsw k97_33 (tg := 212) (by rw [c26]; omega) (by rw [c26]; rfl)).trans ((xs_ic k97_212 (by omega)).trans (xs_ri k97_213 rfl)))) (fun c26 => (px_swi (fun c27 => ((xs_tsw k97_33 (tg := 160) (by rw [c27]; omega) (by rw [c27]; rfl)).trans ((xs_ildn k97_160 rfl).trans ((xs_ildn k97_161 rfl).trans ((xs_isub k97_162).trans ((xs_ic k97_163 (by omega)).trans ((xs_jne k97_164).trans (px_ite (fun c28 => ((xs_bi k97_167 (by omega)).trans ((xs_goto k97_169).trans (xs_ri k97_174 rfl)))) (fun c28 => ((xs_bi k97_172 (by omega)).trans (xs_ri k97_174 rfl))))))))))) (fun c27 => (px_swi (fun c28 => ((xs_tsw k97_33 (tg := 190) (by rw [c28]; omega) (by rw [c28]; rfl)).trans ((xs_bi k97_190 (by omega)).trans (xs_ri k97_192 rfl)))) (fun c28 => (px_swi (fun c29 => ((xs_tsw k97_33 (tg := 175) (by rw [c29]; omega) (by rw [c29]; rfl)).trans ((xs_ildn k97_175 rfl).trans ((xs_ildn k97_176 rfl).trans ((xs_isub k97_177).trans ((xs_ic k97_178 (by omega)).trans ((xs_jne k97_179).trans (px_ite (fun c30 => ((xs_bi k97_182 (by omega)).trans ((xs_goto k97_184).trans (xs_ri k97_189 rfl)))) (fun c30 => ((xs_bi k97_187 (by omega)).trans (xs_ri k97_189 rfl))))))))))) (fun c29 => ((xs_tswd k97_33 (by omega)).trans ((xs_ic k97_214 (by omega)).trans (xs_ri k97_215 rfl))))))))))))))))))))))))))))))))))))))))))))))))))))))))))))) (fun c1 => ((xs_ic k97_30 (by omega)).trans (xs_ri k97_31 rfl)))))
-- Reader.wordKind ('R58', 'I', 'I')
theorem b98_0 (hr : px_hr r) (d : Nat) (i l : MI) (x1 : Int) (x2 : Int) : px_X d 98 (0, [vR 58, vI x1, vI x2, vJ, vJ, vJ], []) (px_sh L, i, l, r, t) = px_X d 98 (9, [vR 58, vI x1, vI x2, vI 24, vI 0, vI 0], []) (px_sh L, i, l, r, t) := ((xs_bi k98_0 (by omega)).trans ((xs_istn k98_2 (Nat.le_of_ble_eq_true rfl) (ls' := [vR 58, vI x1, vI x2, vI 24, vJ, vJ]) rfl).trans ((xs_ic k98_3 (by omega)).trans ((xs_ist k98_4 (Nat.le_of_ble_eq_true rfl) (ls' := [vR 58, vI x1, vI x2, vI 24, vI 0, vJ]) rfl).trans ((xs_ic k98_6 (by omega)).trans (xs_ist k98_7 (Nat.le_of_ble_eq_true rfl) (ls' := [vR 58, vI x1, vI x2, vI 24, vI 0, vI 0]) rfl))))))
theorem b98_9 (hr : px_hr r) (d : Nat) (i l : MI) (x1 : Int) (x2 : Int) (x3 : Int) (x4 : Int) (x5 : Int) (h1 : (¬ (124 ≤ x5)) → 0 ≤ x5 ∧ x5 < 124) : px_X (d + 1) 98 (9, [vR 58, vI x1, vI x2, vI x3, vI x4, vI x5], []) (px_sh L, i, l, r, t) = if 124 ≤ x5 then some (some (vI 1), (px_sh L, i, l, r, t)) else if ((px_words.getD x5.toNat 0 : Nat) : Int) = 32 then if (px_w32 (x5 - x4)) = (px_w32 (x2 - x1)) then (px_C d 99 [vR 58, vI x4, vI x5, vI x1] (px_sh L, i, l, r, t)).bind (fun q => px_X (d + 1) 98 (px_psh (51, [vR 58, vI x1, vI x2, vI x3, vI x4, vI x5], []) q.1) q.2) else px_X (d + 1) 98 (56, [vR 58, vI x1, vI x2, vI x3, vI x4, vI x5], []) (px_sh L, i, l, r, t) else px_X (d + 1) 98 (9, [vR 58, vI x1, vI x2, vI x3, vI x4, vI (px_w32 (x5 + 1))], []) (px_sh L, i, l, r, t) := ((xs_ild k98_9 rfl).trans ((xs_ldcs k98_11 ⟨rfl, rfl⟩).trans ((xs_sln k98_13 (Nat.le_of_ble_eq_true rfl)).trans ((xs_jge k98_16).trans (px_ite (fun c1 => ((xs_ic k98_71 (by omega)).trans (xs_ri k98_72 rfl))) (fun c1 => ((xs_ldcs k98_19 ⟨rfl, rfl⟩).trans ((xs_ild k98_21 rfl).trans ((xs_sch k98_23 (h1 c1) (Nat.le_of_ble_eq_true rfl)).trans ((xs_bi k98_26 (by omega)).trans ((xs_jne k98_28).trans (px_ite (fun c2 => ((xs_ild k98_31 rfl).trans ((xs_ild k98_33 rfl).trans ((xs_isub k98_35).trans ((xs_ildn k98_36 rfl).trans ((xs_ildn k98_37 rfl).trans ((xs_isub k98_38).trans ((xs_jne k98_39).trans (px_ite (fun c3 => ((xs_aldn k98_42 rfl).trans ((xs_ild k98_43 rfl).trans ((xs_ild k98_45 rfl).trans ((xs_ildn k98_47 rfl).trans (xs_callvB k98_48 (as := [vI x4, vI x5, vI x1]) rfl rfl (Nat.le_of_ble_eq_true rfl) (Nat.le_of_ble_eq_true rfl) (Nat.le_of_ble_eq_true rfl) (px_s58 L) (Nat.le_of_ble_eq_true rfl))))))) (fun c3 => rfl)))))))))) (fun c2 => ((xs_iinc k98_65 rfl (by omega) (ls' := [vR 58, vI x1, vI x2, vI x3, vI x4, vI (px_w32 (x5 + 1))]) rfl).trans (xs_goto k98_68)))))))))))))))
theorem b98_51 (hr : px_hr r) (d : Nat) (i l : MI) (x1 : Int) (x2 : Int) (x3 : Int) (x4 : Int) (x5 : Int) (xs0 : Int) : px_X d 98 (51, [vR 58, vI x1, vI x2, vI x3, vI x4, vI x5], [vI xs0]) (px_sh L, i, l, r, t) = if xs0 = 0 then px_X d 98 (56, [vR 58, vI x1, vI x2, vI x3, vI x4, vI x5], []) (px_sh L, i, l, r, t) else some (some (vI x3), (px_sh L, i, l, r, t)) := ((xs_ieq k98_51).trans (px_ite (fun c1 => rfl) (fun c1 => ((xs_ildn k98_54 rfl).trans (xs_ri k98_55 rfl)))))
theorem b98_56 (hr : px_hr r) (d : Nat) (i l : MI) (x1 : Int) (x2 : Int) (x3 : Int) (x4 : Int) (x5 : Int) : px_X d 98 (56, [vR 58, vI x1, vI x2, vI x3, vI x4, vI x5], []) (px_sh L, i, l, r, t) = px_X d 98 (9, [vR 58, vI x1, vI x2, vI (px_w32 (x3 + 1)), vI (px_w32 (x5 + 1)), vI (px_w32 (x5 + 1))], []) (px_sh L, i, l, r, t) := ((xs_iinc k98_56 rfl (by omega) (ls' := [vR 58, vI x1, vI x2, vI (px_w32 (x3 + 1)), vI x4, vI x5]) rfl).trans ((xs_ild k98_59 rfl).trans ((xs_ic k98_61 (by omega)).trans ((xs_iadd k98_62).trans ((xs_ist k98_63 (Nat.le_of_ble_eq_true rfl) (ls' := [vR 58, vI x1, vI x2, vI (px_w32 (x3 + 1)), vI (px_w32 (x5 + 1)), vI x5]) rfl).trans ((xs_iinc k98_65 rfl (by omega) (ls' := [vR 58, vI x1, vI x2, vI (px_w32 (x3 + 1)), vI (px_w32 (x5 + 1)), vI (px_w32 (x5 + 1))]) rfl).trans (xs_goto k98_68)))))))
-- Reader.isWord ('R58', 'I', 'I', 'I')
theorem b99_0 (hr : px_hr r) (d : Nat) (i l : MI) (x1 : Int) (x2 : Int) (x3 : Int) : px_X d 99 (0, [vR 58, vI x1, vI x2, vI x3, vJ], []) (px_sh L, i, l, r, t) = px_X d 99 (3, [vR 58, vI x1, vI x2, vI x3, vI x1], []) (px_sh L, i, l, r, t) := ((xs_ildn k99_0 rfl).trans (xs_ist k99_1 (Nat.le_of_ble_eq_true rfl) (ls' := [vR 58, vI x1, vI x2, vI x3, vI x1]) rfl))
theorem b99_3 (hr : px_hr r) (d : Nat) (i l : MI) (x1 : Int) (x2 : Int) (x3 : Int) (x4 : Int) (h1 : (¬ (x4 < 0)) → (¬ (x2 ≤ x4)) → (¬ (124 ≤ x4)) → 0 ≤ x4 ∧ x4 < 124) : px_X (d + 1) 99 (3, [vR 58, vI x1, vI x2, vI x3, vI x4], []) (px_sh L, i, l, r, t) = if x4 < 0 then some (some (vI 1), (px_sh L, i, l, r, t)) else if x2 ≤ x4 then some (some (vI 1), (px_sh L, i, l, r, t)) else if 124 ≤ x4 then some (some (vI 1), (px_sh L, i, l, r, t)) else (px_C d 33 [vR 64, vI (px_w32 ((px_w32 (x3 + x4)) - x1))] (px_sh L, i, l, r, t)).bind (fun q => px_X (d + 1) 99 (px_psh (44, [vR 58, vI x1, vI x2, vI x3, vI x4], [vI ((px_words.getD x4.toNat 0 : Nat) : Int)]) q.1) q.2) := ((xs_ild k99_3 rfl).trans ((xs_ilt k99_5).trans (px_ite (fun c1 => ((xs_ic k99_55 (by omega)).trans (xs_rz k99_56 rfl (by omega)))) (fun c1 => ((xs_ild k99_8 rfl).trans ((xs_ildn k99_10 rfl).trans ((xs_jge k99_11).trans (px_ite (fun c2 => ((xs_ic k99_55 (by omega)).trans (xs_rz k99_56 rfl (by omega)))) (fun c2 => ((xs_ild k99_14 rfl).trans ((xs_ldcs k99_16 ⟨rfl, rfl⟩).trans ((xs_sln k99_18 (Nat.le_of_ble_eq_true rfl)).trans ((xs_jge k99_21).trans (px_ite (fun c3 => ((xs_ic k99_55 (by omega)).trans (xs_rz k99_56 rfl (by omega)))) (fun c3 => ((xs_ldcs k99_24 ⟨rfl, rfl⟩).trans ((xs_ild k99_26 rfl).trans ((xs_sch k99_28 (h1 c1 c2 c3) (Nat.le_of_ble_eq_true rfl)).trans ((xs_aldn k99_31 rfl).trans ((xs_get4 k99_32 (px_s58 L) (Nat.le_of_ble_eq_true rfl) (px_r58_5 hr)).trans ((xs_ildn k99_35 rfl).trans ((xs_ild k99_36 rfl).trans ((xs_iadd k99_38).trans ((xs_ildn k99_39 rfl).trans ((xs_isub k99_40).trans (xs_callsB k99_41 (as := [vR 64, vI (px_w32 ((px_w32 (x3 + x4)) - x1))]) rfl rfl (Nat.le_of_ble_eq_true rfl) (Nat.le_of_ble_eq_true rfl) (Nat.le_of_ble_eq_true rfl)))))))))))))))))))))))))))
theorem b99_44 (hr : px_hr r) (d : Nat) (i l : MI) (x1 : Int) (x2 : Int) (x3 : Int) (x4 : Int) (xs0 : Int) (xs1 : Int) : px_X d 99 (44, [vR 58, vI x1, vI x2, vI x3, vI x4], [vI xs0, vI xs1]) (px_sh L, i, l, r, t) = if xs1 = xs0 then px_X d 99 (3, [vR 58, vI x1, vI x2, vI x3, vI (px_w32 (x4 + 1))], []) (px_sh L, i, l, r, t) else some (some (vI 0), (px_sh L, i, l, r, t)) := ((xs_jeq k99_44).trans (px_ite (fun c1 => ((xs_iinc k99_49 rfl (by omega) (ls' := [vR 58, vI x1, vI x2, vI x3, vI (px_w32 (x4 + 1))]) rfl).trans (xs_goto k99_52))) (fun c1 => ((xs_ic k99_47 (by omega)).trans (xs_rz k99_48 rfl (by omega))))))
-- Reader.numberOf ('R58', 'I', 'I')
theorem b100_0 (hr : px_hr r) (d : Nat) (i l : MI) (x1 : Int) (x2 : Int) : px_X d 100 (0, [vR 58, vI x1, vI x2, vJ, vJ], []) (px_sh L, i, l, r, t) = px_X d 100 (5, [vR 58, vI x1, vI x2, vI 0, vI x1], []) (px_sh L, i, l, r, t) := ((xs_ic k100_0 (by omega)).trans ((xs_istn k100_1 (Nat.le_of_ble_eq_true rfl) (ls' := [vR 58, vI x1, vI x2, vI 0, vJ]) rfl).trans ((xs_ildn k100_2 rfl).trans (xs_ist k100_3 (Nat.le_of_ble_eq_true rfl) (ls' := [vR 58, vI x1, vI x2, vI 0, vI x1]) rfl))))
theorem b100_5 (hr : px_hr r) (d : Nat) (i l : MI) (x1 : Int) (x2 : Int) (x3 : Int) (x4 : Int) : px_X (d + 1) 100 (5, [vR 58, vI x1, vI x2, vI x3, vI x4], []) (px_sh L, i, l, r, t) = if x2 ≤ x4 then some (some (vI x3), (px_sh L, i, l, r, t)) else (px_C d 33 [vR 64, vI x4] (px_sh L, i, l, r, t)).bind (fun q => px_X (d + 1) 100 (px_psh (27, [vR 58, vI x1, vI x2, vI x3, vI x4], [vI (px_w32 (x3 * 10)), vI 10000]) q.1) q.2) := ((xs_ild k100_5 rfl).trans ((xs_ildn k100_7 rfl).trans ((xs_jge k100_8).trans (px_ite (fun c1 => ((xs_ildn k100_41 rfl).trans (xs_ri k100_42 rfl))) (fun c1 => ((xs_si k100_11 (by omega)).trans ((xs_ildn k100_14 rfl).trans ((xs_bi k100_15 (by omega)).trans ((xs_imul k100_17).trans ((xs_aldn k100_18 rfl).trans ((xs_get4 k100_19 (px_s58 L) (Nat.le_of_ble_eq_true rfl) (px_r58_5 hr)).trans ((xs_ild k100_22 rfl).trans (xs_callsB k100_24 (as := [vR 64, vI x4]) rfl rfl (Nat.le_of_ble_eq_true rfl) (Nat.le_of_ble_eq_true rfl) (Nat.le_of_ble_eq_true rfl))))))))))))))
theorem b100_27 (hr : px_hr r) (d : Nat) (i l : MI) (x1 : Int) (x2 : Int) (x3 : Int) (x4 : Int) (xs0 : Int) (xs1 : Int) (xs2 : Int) : px_X d 100 (27, [vR 58, vI x1, vI x2, vI x3, vI x4], [vI xs0, vI xs1, vI xs2]) (px_sh L, i, l, r, t) = px_X d 100 (5, [vR 58, vI x1, vI x2, vI (if (px_w32 ((px_w32 (xs1 + xs0)) - 48)) < xs2 then (px_w32 ((px_w32 (xs1 + xs0)) - 48)) else xs2), vI (px_w32 (x4 + 1))], []) (px_sh L, i, l, r, t) := ((xs_iadd k100_27).trans ((xs_bi k100_28 (by omega)).trans ((xs_isub k100_30).trans ((xs_imin k100_31 (Nat.le_of_ble_eq_true rfl)).trans ((xs_istn k100_34 (Nat.le_of_ble_eq_true rfl) (ls' := [vR 58, vI x1, vI x2, vI (if (px_w32 ((px_w32 (xs1 + xs0)) - 48)) < xs2 then (px_w32 ((px_w32 (xs1 + xs0)) - 48)) else xs2), vI x4]) rfl).trans ((xs_iinc k100_35 rfl (by omega) (ls' := [vR 58, vI x1, vI x2, vI (if (px_w32 ((px_w32 (xs1 + xs0)) - 48)) < xs2 then (px_w32 ((px_w32 (xs1 + xs0)) - 48)) else xs2), vI (px_w32 (x4 + 1))]) rfl).trans (xs_goto k100_38)))))))
-- Reader.blame ('R58', 'I')
theorem b101_0 (hr : px_hr r) (d : Nat) (i l : MI) (x1 : Int) (h1 : ((i 58 3) = 0) → (¬ ((i 58 9) < 0)) → (¬ (301 ≤ (i 58 9))) → 0 ≤ (i 58 9) ∧ (i 58 9) < 301) : px_X d 101 (0, [vR 58, vI x1], []) (px_sh L, i, l, r, t) = if (i 58 3) = 0 then if (i 58 9) < 0 then some (none, (px_sh L, (px_up (px_up i 58 3 x1) 58 4 (-1)), l, r, t)) else if 301 ≤ (i 58 9) then some (none, (px_sh L, (px_up (px_up i 58 3 x1) 58 4 (-1)), l, r, t)) else some (none, (px_sh L, (px_up (px_up i 58 3 x1) 58 4 (i 66 (i 58 9))), l, r, t)) else some (none, (px_sh L, i, l, r, t)) := ((xs_aldn k101_0 rfl).trans ((xs_get0 k101_1 (px_s58 L) (Nat.le_of_ble_eq_true rfl)).trans ((xs_ine k101_4).trans (px_ite (fun c1 => ((xs_aldn k101_7 rfl).trans ((xs_ildn k101_8 rfl).trans ((xs_put0 k101_9 (Or.inl rfl) (px_s58 L) (Nat.le_of_ble_eq_true rfl)).trans ((xs_aldn k101_12 rfl).trans ((xs_aldn k101_13 rfl).trans ((xs_get0 k101_14 (px_s58 L) (Nat.le_of_ble_eq_true rfl)).trans ((xs_ilt k101_17).trans (px_ite (fun c2 => ((xs_ic k101_44 (by omega)).trans ((xs_put0 k101_45 (Or.inl rfl) (px_s58 L) (Nat.le_of_ble_eq_true rfl)).trans (xs_rv k101_48 rfl)))) (fun c2 => ((xs_aldn k101_20 rfl).trans ((xs_get0 k101_21 (px_s58 L) (Nat.le_of_ble_eq_true rfl)).trans ((xs_aldn k101_24 rfl).trans ((xs_get4 k101_25 (px_s58 L) (Nat.le_of_ble_eq_true rfl) (px_r58_7 hr)).trans ((xs_aln k101_28 (px_s66 L)).trans ((xs_jge k101_29).trans (px_ite (fun c3 => ((xs_ic k101_44 (by omega)).trans ((xs_put0 k101_45 (Or.inl rfl) (px_s58 L) (Nat.le_of_ble_eq_true rfl)).trans (xs_rv k101_48 rfl)))) (fun c3 => ((xs_aldn k101_32 rfl).trans ((xs_get4 k101_33 (px_s58 L) (Nat.le_of_ble_eq_true rfl) (px_r58_7 hr)).trans ((xs_aldn k101_36 rfl).trans ((xs_get0 k101_37 (px_s58 L) (Nat.le_of_ble_eq_true rfl)).trans ((xs_iald k101_40 (px_s66 L) (h1 c1 c2 c3)).trans ((xs_goto k101_41).trans ((xs_put0 k101_45 (Or.inl rfl) (px_s58 L) (Nat.le_of_ble_eq_true rfl)).trans (xs_rv k101_48 rfl)))))))))))))))))))))))))) (fun c1 => (xs_rv k101_48 rfl))))))
-- Reader.readClause ('R58',)
theorem b102_0 (hr : px_hr r) (d : Nat) (i l : MI)  : px_X (d + 1) 102 (0, [vR 58, vJ, vJ], []) (px_sh L, i, l, r, t) = (px_C d 33 [vR 65, vI (i 58 9)] (px_sh L, i, l, r, t)).bind (fun q => px_X (d + 1) 102 (px_psh (11, [vR 58, vJ, vJ], []) q.1) q.2) := ((xs_aldn k102_0 rfl).trans ((xs_get4 k102_1 (px_s58 L) (Nat.le_of_ble_eq_true rfl) (px_r58_6 hr)).trans ((xs_aldn k102_4 rfl).trans ((xs_get0 k102_5 (px_s58 L) (Nat.le_of_ble_eq_true rfl)).trans (xs_callsB k102_8 (as := [vR 65, vI (i 58 9)]) rfl rfl (Nat.le_of_ble_eq_true rfl) (Nat.le_of_ble_eq_true rfl) (Nat.le_of_ble_eq_true rfl))))))
theorem b102_11 (hr : px_hr r) (d : Nat) (i l : MI) (xs0 : Int) : px_X d 102 (11, [vR 58, vJ, vJ], [vI xs0]) (px_sh L, i, l, r, t) = if 4 ≤ (px_w32 (xs0 - 24)) then px_X d 102 (25, [vR 58, vI (px_w32 (xs0 - 24)), vJ], [vI 0]) (px_sh L, i, l, r, t) else px_X d 102 (25, [vR 58, vI (px_w32 (xs0 - 24)), vJ], [vI 1]) (px_sh L, i, l, r, t) := ((xs_bi k102_11 (by omega)).trans ((xs_isub k102_13).trans ((xs_istn k102_14 (Nat.le_of_ble_eq_true rfl) (ls' := [vR 58, vI (px_w32 (xs0 - 24)), vJ]) rfl).trans ((xs_ildn k102_15 rfl).trans ((xs_ic k102_16 (by omega)).trans ((xs_jge k102_17).trans (px_ite (fun c1 => (xs_ic k102_24 (by omega))) (fun c1 => ((xs_ic k102_20 (by omega)).trans (xs_goto k102_21))))))))))
theorem b102_25 (hr : px_hr r) (d : Nat) (i l : MI) (x1 : Int) (xs0 : Int) : px_X (d + 1) 102 (25, [vR 58, vI x1, vJ], [vI xs0]) (px_sh L, i, l, r, t) = if x1 < 0 then px_X (d + 1) 102 (43, [vR 58, vI x1, vI xs0], []) (px_sh L, i, l, r, t) else if 5 < x1 then px_X (d + 1) 102 (43, [vR 58, vI x1, vI xs0], []) (px_sh L, i, l, r, t) else if x1 < 6 then if xs0 = 0 then px_X (d + 1) 102 (74, [vR 58, vI x1, vI xs0], []) (px_sh L, i, l, r, t) else (px_C d 32 [vI (i 58 12), vI x1] (px_sh L, i, l, r, t)).bind (fun q => px_X (d + 1) 102 (px_psh (63, [vR 58, vI x1, vI xs0], []) q.1) q.2) else px_X (d + 1) 102 (43, [vR 58, vI x1, vI xs0], []) (px_sh L, i, l, r, t) := ((xs_istn k102_25 (Nat.le_of_ble_eq_true rfl) (ls' := [vR 58, vI x1, vI xs0]) rfl).trans ((xs_ildn k102_26 rfl).trans ((xs_ilt k102_27).trans (px_ite (fun c1 => rfl) (fun c1 => ((xs_ildn k102_30 rfl).trans ((xs_ic k102_31 (by omega)).trans ((xs_jgt k102_32).trans (px_ite (fun c2 => rfl) (fun c2 => ((xs_ildn k102_35 rfl).trans ((xs_gets k102_36 ⟨rfl, rfl⟩).trans ((xs_aln k102_39 (px_s1 L)).trans ((xs_jlt k102_40).trans (px_ite (fun c3 => ((xs_ildn k102_51 rfl).trans ((xs_ieq k102_52).trans (px_ite (fun c4 => rfl) (fun c4 => ((xs_aldn k102_55 rfl).trans ((xs_get0 k102_56 (px_s58 L) (Nat.le_of_ble_eq_true rfl)).trans ((xs_ildn k102_59 rfl).trans (xs_callsB k102_60 (as := [vI (i 58 12), vI x1]) rfl rfl (Nat.le_of_ble_eq_true rfl) (Nat.le_of_ble_eq_true rfl) (Nat.le_of_ble_eq_true rfl)))))))))) (fun c3 => rfl))))))))))))))))
theorem b102_43 (hr : px_hr r) (d : Nat) (i l : MI) (x1 : Int) (x2 : Int) : px_X (d + 1) 102 (43, [vR 58, vI x1, vI x2], []) (px_sh L, i, l, r, t) = (px_C d 101 [vR 58, vI 1] (px_sh L, i, l, r, t)).bind (fun q => px_X (d + 1) 102 (px_psh (48, [vR 58, vI x1, vI x2], []) q.1) q.2) := ((xs_aldn k102_43 rfl).trans ((xs_ic k102_44 (by omega)).trans (xs_callvB k102_45 (as := [vI 1]) rfl rfl (Nat.le_of_ble_eq_true rfl) (Nat.le_of_ble_eq_true rfl) (Nat.le_of_ble_eq_true rfl) (px_s58 L) (Nat.le_of_ble_eq_true rfl))))
theorem b102_48 (hr : px_hr r) (d : Nat) (i l : MI) (x1 : Int) (x2 : Int) : px_X d 102 (48, [vR 58, vI x1, vI x2], []) (px_sh L, i, l, r, t) = some (none, (px_sh L, i, l, r, t)) := ((xs_goto k102_48).trans (xs_rv k102_186 rfl))
theorem b102_63 (hr : px_hr r) (d : Nat) (i l : MI) (x1 : Int) (x2 : Int) (xs0 : Int) : px_X (d + 1) 102 (63, [vR 58, vI x1, vI x2], [vI xs0]) (px_sh L, i, l, r, t) = if xs0 = 0 then px_X (d + 1) 102 (74, [vR 58, vI x1, vI x2], []) (px_sh L, i, l, r, t) else (px_C d 101 [vR 58, vI 4] (px_sh L, i, l, r, t)).bind (fun q => px_X (d + 1) 102 (px_psh (71, [vR 58, vI x1, vI x2], []) q.1) q.2) := ((xs_ieq k102_63).trans (px_ite (fun c1 => rfl) (fun c1 => ((xs_aldn k102_66 rfl).trans ((xs_ic k102_67 (by omega)).trans (xs_callvB k102_68 (as := [vI 4]) rfl rfl (Nat.le_of_ble_eq_true rfl) (Nat.le_of_ble_eq_true rfl) (Nat.le_of_ble_eq_true rfl) (px_s58 L) (Nat.le_of_ble_eq_true rfl)))))))
theorem b102_71 (hr : px_hr r) (d : Nat) (i l : MI) (x1 : Int) (x2 : Int) : px_X d 102 (71, [vR 58, vI x1, vI x2], []) (px_sh L, i, l, r, t) = some (none, (px_sh L, i, l, r, t)) := ((xs_goto k102_71).trans (xs_rv k102_186 rfl))
theorem b102_74 (hr : px_hr r) (d : Nat) (i l : MI) (x1 : Int) (x2 : Int) (h1 : ((i 59 1) < 10) → 0 ≤ x1 ∧ x1 < 6) : px_X (d + 1) 102 (74, [vR 58, vI x1, vI x2], []) (px_sh L, i, l, r, t) = if (i 59 1) < 10 then (px_C d 136 [vR 59, vI x1] (px_sh L, (px_up (px_up i 58 12 (px_or (i 58 12) (px_shl 1 x1))) 58 11 (i 1 x1)), l, r, t)).bind (fun q => px_X (d + 1) 102 (px_psh (124, [vR 58, vI x1, vI x2], []) q.1) q.2) else (px_C d 101 [vR 58, vI 6] (px_sh L, i, l, r, t)).bind (fun q => px_X (d + 1) 102 (px_psh (92, [vR 58, vI x1, vI x2], []) q.1) q.2) := ((xs_aldn k102_74 rfl).trans ((xs_get4 k102_75 (px_s58 L) (Nat.le_of_ble_eq_true rfl) (px_r58_0 hr)).trans ((xs_get0 k102_78 (px_s59 L) (Nat.le_of_ble_eq_true rfl)).trans ((xs_bi k102_81 (by omega)).trans ((xs_jlt k102_83).trans (px_ite (fun c1 => ((xs_aldn k102_95 rfl).trans ((xs_aldn k102_96 rfl).trans ((xs_get0 k102_97 (px_s58 L) (Nat.le_of_ble_eq_true rfl)).trans ((xs_ic k102_100 (by omega)).trans ((xs_ildn k102_101 rfl).trans ((xs_ishl k102_102).trans ((xs_ior k102_103).trans ((xs_put0 k102_104 (Or.inl rfl) (px_s58 L) (Nat.le_of_ble_eq_true rfl)).trans ((xs_aldn k102_107 rfl).trans ((xs_gets k102_108 ⟨rfl, rfl⟩).trans ((xs_ildn k102_111 rfl).trans ((xs_iald k102_112 (px_s1 L) (h1 c1)).trans ((xs_put0 k102_113 (Or.inl rfl) (px_s58 L) (Nat.le_of_ble_eq_true rfl)).trans ((xs_aldn k102_116 rfl).trans ((xs_get4 k102_117 (px_s58 L) (Nat.le_of_ble_eq_true rfl) (px_r58_0 hr)).trans ((xs_ildn k102_120 rfl).trans (xs_callvB k102_121 (as := [vI x1]) rfl rfl (Nat.le_of_ble_eq_true rfl) (Nat.le_of_ble_eq_true rfl) (Nat.le_of_ble_eq_true rfl) (px_s59 L) (Nat.le_of_ble_eq_true rfl))))))))))))))))))) (fun c1 => ((xs_aldn k102_86 rfl).trans ((xs_bi k102_87 (by omega)).trans (xs_callvB k102_89 (as := [vI 6]) rfl rfl (Nat.le_of_ble_eq_true rfl) (Nat.le_of_ble_eq_true rfl) (Nat.le_of_ble_eq_true rfl) (px_s58 L) (Nat.le_of_ble_eq_true rfl)))))))))))
theorem b102_92 (hr : px_hr r) (d : Nat) (i l : MI) (x1 : Int) (x2 : Int) : px_X d 102 (92, [vR 58, vI x1, vI x2], []) (px_sh L, i, l, r, t) = some (none, (px_sh L, i, l, r, t)) := ((xs_goto k102_92).trans (xs_rv k102_186 rfl))
theorem b102_124 (hr : px_hr r) (d : Nat) (i l : MI) (x1 : Int) (x2 : Int) : px_X (d + 1) 102 (124, [vR 58, vI x1, vI x2], []) (px_sh L, i, l, r, t) = if x2 = 0 then (px_C d 103 [vR 58] (px_sh L, (px_up i 58 9 (px_w32 ((i 58 9) + 1))), l, r, t)).bind (fun q => px_X (d + 1) 102 (px_psh (149, [vR 58, vI x1, vI x2], []) q.1) q.2) else (px_C d 105 [vR 58] (px_sh L, (px_up i 58 9 (px_w32 ((i 58 9) + 1))), l, r, t)).bind (fun q => px_X (d + 1) 102 (px_psh (142, [vR 58, vI x1, vI x2], []) q.1) q.2) := ((xs_aldn k102_124 rfl).trans ((xs_dup k102_125 rfl).trans ((xs_get0 k102_126 (px_s58 L) (Nat.le_of_ble_eq_true rfl)).trans ((xs_ic k102_129 (by omega)).trans ((xs_iadd k102_130).trans ((xs_put0 k102_131 (Or.inl rfl) (px_s58 L) (Nat.le_of_ble_eq_true rfl)).trans ((xs_ildn k102_134 rfl).trans ((xs_ieq k102_135).trans (px_ite (fun c1 => ((xs_aldn k102_145 rfl).trans (xs_callvB k102_146 (as := []) rfl rfl (Nat.le_of_ble_eq_true rfl) (Nat.le_of_ble_eq_true rfl) (Nat.le_of_ble_eq_true rfl) (px_s58 L) (Nat.le_of_ble_eq_true rfl)))) (fun c1 => ((xs_aldn k102_138 rfl).trans (xs_callvB k102_139 (as := []) rfl rfl (Nat.le_of_ble_eq_true rfl) (Nat.le_of_ble_eq_true rfl) (Nat.le_of_ble_eq_true rfl) (px_s58 L) (Nat.le_of_ble_eq_true rfl)))))))))))))
theorem b102_142 (hr : px_hr r) (d : Nat) (i l : MI) (x1 : Int) (x2 : Int) : px_X d 102 (142, [vR 58, vI x1, vI x2], []) (px_sh L, i, l, r, t) = px_X d 102 (149, [vR 58, vI x1, vI x2], []) (px_sh L, i, l, r, t) := (xs_goto k102_142)
theorem b102_149 (hr : px_hr r) (d : Nat) (i l : MI) (x1 : Int) (x2 : Int) : px_X (d + 1) 102 (149, [vR 58, vI x1, vI x2], []) (px_sh L, i, l, r, t) = (px_C d 33 [vR 65, vI (i 58 9)] (px_sh L, i, l, r, t)).bind (fun q => px_X (d + 1) 102 (px_psh (160, [vR 58, vI x1, vI x2], []) q.1) q.2) := ((xs_aldn k102_149 rfl).trans ((xs_get4 k102_150 (px_s58 L) (Nat.le_of_ble_eq_true rfl) (px_r58_6 hr)).trans ((xs_aldn k102_153 rfl).trans ((xs_get0 k102_154 (px_s58 L) (Nat.le_of_ble_eq_true rfl)).trans (xs_callsB k102_157 (as := [vR 65, vI (i 58 9)]) rfl rfl (Nat.le_of_ble_eq_true rfl) (Nat.le_of_ble_eq_true rfl) (Nat.le_of_ble_eq_true rfl))))))
theorem b102_160 (hr : px_hr r) (d : Nat) (i l : MI) (x1 : Int) (x2 : Int) (xs0 : Int) : px_X (d + 1) 102 (160, [vR 58, vI x1, vI x2], [vI xs0]) (px_sh L, i, l, r, t) = if xs0 = 5 then px_X (d + 1) 102 (169, [vR 58, vI x1, vI x2], []) (px_sh L, i, l, r, t) else (px_C d 101 [vR 58, vI 1] (px_sh L, i, l, r, t)).bind (fun q => px_X (d + 1) 102 (px_psh (169, [vR 58, vI x1, vI x2], []) q.1) q.2) := ((xs_ic k102_160 (by omega)).trans ((xs_jeq k102_161).trans (px_ite (fun c1 => rfl) (fun c1 => ((xs_aldn k102_164 rfl).trans ((xs_ic k102_165 (by omega)).trans (xs_callvB k102_166 (as := [vI 1]) rfl rfl (Nat.le_of_ble_eq_true rfl) (Nat.le_of_ble_eq_true rfl) (Nat.le_of_ble_eq_true rfl) (px_s58 L) (Nat.le_of_ble_eq_true rfl))))))))
theorem b102_169 (hr : px_hr r) (d : Nat) (i l : MI) (x1 : Int) (x2 : Int) : px_X (d + 1) 102 (169, [vR 58, vI x1, vI x2], []) (px_sh L, i, l, r, t) = (px_C d 137 [vR 59] (px_sh L, i, l, r, t)).bind (fun q => px_X (d + 1) 102 (px_psh (176, [vR 58, vI x1, vI x2], []) q.1) q.2) := ((xs_aldn k102_169 rfl).trans ((xs_get4 k102_170 (px_s58 L) (Nat.le_of_ble_eq_true rfl) (px_r58_0 hr)).trans (xs_callvB k102_173 (as := []) rfl rfl (Nat.le_of_ble_eq_true rfl) (Nat.le_of_ble_eq_true rfl) (Nat.le_of_ble_eq_true rfl) (px_s59 L) (Nat.le_of_ble_eq_true rfl))))
theorem b102_176 (hr : px_hr r) (d : Nat) (i l : MI) (x1 : Int) (x2 : Int) : px_X d 102 (176, [vR 58, vI x1, vI x2], []) (px_sh L, i, l, r, t) = some (none, (px_sh L, (px_up i 58 9 (px_w32 ((i 58 9) + 1))), l, r, t)) := ((xs_aldn k102_176 rfl).trans ((xs_dup k102_177 rfl).trans ((xs_get0 k102_178 (px_s58 L) (Nat.le_of_ble_eq_true rfl)).trans ((xs_ic k102_181 (by omega)).trans ((xs_iadd k102_182).trans ((xs_put0 k102_183 (Or.inl rfl) (px_s58 L) (Nat.le_of_ble_eq_true rfl)).trans (xs_rv k102_186 rfl)))))))
-- Reader.readEither ('R58',)
theorem b103_0 (hr : px_hr r) (d : Nat) (i l : MI)  : px_X d 103 (0, [vR 58, vJ, vJ, vJ], []) (px_sh L, i, l, r, t) = px_X d 103 (6, [vR 58, vI 0, vI 0, vI 0], []) (px_sh L, i, l, r, t) := ((xs_ic k103_0 (by omega)).trans ((xs_istn k103_1 (Nat.le_of_ble_eq_true rfl) (ls' := [vR 58, vI 0, vJ, vJ]) rfl).trans ((xs_ic k103_2 (by omega)).trans ((xs_istn k103_3 (Nat.le_of_ble_eq_true rfl) (ls' := [vR 58, vI 0, vI 0, vJ]) rfl).trans ((xs_ic k103_4 (by omega)).trans (xs_istn k103_5 (Nat.le_of_ble_eq_true rfl) (ls' := [vR 58, vI 0, vI 0, vI 0]) rfl))))))
theorem b103_6 (hr : px_hr r) (d : Nat) (i l : MI) (x1 : Int) (x2 : Int) (x3 : Int) : px_X (d + 1) 103 (6, [vR 58, vI x1, vI x2, vI x3], []) (px_sh L, i, l, r, t) = if 300 < x3 then some (none, (px_sh L, i, l, r, t)) else if (i 58 3) = 0 then (px_C d 104 [vR 58] (px_sh L, i, l, r, t)).bind (fun q => px_X (d + 1) 103 (px_psh (24, [vR 58, vI x1, vI x2, vI x3], []) q.1) q.2) else some (none, (px_sh L, i, l, r, t)) := ((xs_ildn k103_6 rfl).trans ((xs_si k103_7 (by omega)).trans ((xs_jgt k103_10).trans (px_ite (fun c1 => (xs_rv k103_125 rfl)) (fun c1 => ((xs_aldn k103_13 rfl).trans ((xs_get0 k103_14 (px_s58 L) (Nat.le_of_ble_eq_true rfl)).trans ((xs_ine k103_17).trans (px_ite (fun c2 => ((xs_aldn k103_20 rfl).trans (xs_callvB k103_21 (as := []) rfl rfl (Nat.le_of_ble_eq_true rfl) (Nat.le_of_ble_eq_true rfl) (Nat.le_of_ble_eq_true rfl) (px_s58 L) (Nat.le_of_ble_eq_true rfl)))) (fun c2 => (xs_rv k103_125 rfl)))))))))))
theorem b103_24 (hr : px_hr r) (d : Nat) (i l : MI) (x1 : Int) (x2 : Int) (x3 : Int) : px_X (d + 1) 103 (24, [vR 58, vI x1, vI x2, vI x3], []) (px_sh L, i, l, r, t) = if x2 = 0 then px_X (d + 1) 103 (38, [vR 58, vI x1, vI x2, vI x3], []) (px_sh L, i, l, r, t) else (px_C d 135 [vR 59, vI 10031] (px_sh L, i, l, r, t)).bind (fun q => px_X (d + 1) 103 (px_psh (38, [vR 58, vI x1, vI x2, vI x3], []) q.1) q.2) := ((xs_ildn k103_24 rfl).trans ((xs_ieq k103_25).trans (px_ite (fun c1 => rfl) (fun c1 => ((xs_aldn k103_28 rfl).trans ((xs_get4 k103_29 (px_s58 L) (Nat.le_of_ble_eq_true rfl) (px_r58_0 hr)).trans ((xs_si k103_32 (by omega)).trans (xs_callvB k103_35 (as := [vI 10031]) rfl rfl (Nat.le_of_ble_eq_true rfl) (Nat.le_of_ble_eq_true rfl) (Nat.le_of_ble_eq_true rfl) (px_s59 L) (Nat.le_of_ble_eq_true rfl)))))))))
theorem b103_38 (hr : px_hr r) (d : Nat) (i l : MI) (x1 : Int) (x2 : Int) (x3 : Int) : px_X (d + 1) 103 (38, [vR 58, vI x1, vI x2, vI x3], []) (px_sh L, i, l, r, t) = (px_C d 33 [vR 65, vI (i 58 9)] (px_sh L, i, l, r, t)).bind (fun q => px_X (d + 1) 103 (px_psh (49, [vR 58, vI x1, vI x2, vI x3], []) q.1) q.2) := ((xs_aldn k103_38 rfl).trans ((xs_get4 k103_39 (px_s58 L) (Nat.le_of_ble_eq_true rfl) (px_r58_6 hr)).trans ((xs_aldn k103_42 rfl).trans ((xs_get0 k103_43 (px_s58 L) (Nat.le_of_ble_eq_true rfl)).trans (xs_callsB k103_46 (as := [vR 65, vI (i 58 9)]) rfl rfl (Nat.le_of_ble_eq_true rfl) (Nat.le_of_ble_eq_true rfl) (Nat.le_of_ble_eq_true rfl))))))
theorem b103_49 (hr : px_hr r) (d : Nat) (i l : MI) (x1 : Int) (x2 : Int) (x3 : Int) (xs0 : Int) : px_X d 103 (49, [vR 58, vI x1, vI x2, vI x3], [vI xs0]) (px_sh L, i, l, r, t) = if xs0 = 31 then px_X d 103 (59, [vR 58, vI x1, vI x2, vI x3], [vI 1]) (px_sh L, i, l, r, t) else px_X d 103 (59, [vR 58, vI x1, vI x2, vI x3], [vI 0]) (px_sh L, i, l, r, t) := ((xs_bi k103_49 (by omega)).trans ((xs_jne k103_51).trans (px_ite (fun c1 => ((xs_ic k103_54 (by omega)).trans (xs_goto k103_55))) (fun c1 => (xs_ic k103_58 (by omega))))))
theorem b103_59 (hr : px_hr r) (d : Nat) (i l : MI) (x1 : Int) (x2 : Int) (x3 : Int) (xs0 : Int) : px_X (d + 1) 103 (59, [vR 58, vI x1, vI x2, vI x3], [vI xs0]) (px_sh L, i, l, r, t) = if xs0 = 0 then if x1 = 0 then px_X (d + 1) 103 (78, [vR 58, vI x1, vI xs0, vI x3], []) (px_sh L, i, l, r, t) else (px_C d 135 [vR 59, vI 10030] (px_sh L, i, l, r, t)).bind (fun q => px_X (d + 1) 103 (px_psh (78, [vR 58, vI x1, vI xs0, vI x3], []) q.1) q.2) else if xs0 = 0 then if x1 = 0 then some (none, (px_sh L, i, l, r, t)) else px_X (d + 1) 103 (109, [vR 58, vI x1, vI xs0, vI x3], []) (px_sh L, i, l, r, t) else px_X (d + 1) 103 (109, [vR 58, vI x1, vI xs0, vI x3], []) (px_sh L, i, l, r, t) := ((xs_istn k103_59 (Nat.le_of_ble_eq_true rfl) (ls' := [vR 58, vI x1, vI xs0, vI x3]) rfl).trans ((xs_ildn k103_60 rfl).trans ((xs_ine k103_61).trans (px_ite (fun c1 => ((xs_ildn k103_64 rfl).trans ((xs_ieq k103_65).trans (px_ite (fun c2 => rfl) (fun c2 => ((xs_aldn k103_68 rfl).trans ((xs_get4 k103_69 (px_s58 L) (Nat.le_of_ble_eq_true rfl) (px_r58_0 hr)).trans ((xs_si k103_72 (by omega)).trans (xs_callvB k103_75 (as := [vI 10030]) rfl rfl (Nat.le_of_ble_eq_true rfl) (Nat.le_of_ble_eq_true rfl) (Nat.le_of_ble_eq_true rfl) (px_s59 L) (Nat.le_of_ble_eq_true rfl)))))))))) (fun c1 => ((xs_ildn k103_100 rfl).trans ((xs_ine k103_101).trans (px_ite (fun c2 => ((xs_ildn k103_104 rfl).trans ((xs_ine k103_105).trans (px_ite (fun c3 => (xs_rv k103_108 rfl)) (fun c3 => rfl))))) (fun c2 => rfl)))))))))
theorem b103_78 (hr : px_hr r) (d : Nat) (i l : MI) (x1 : Int) (x2 : Int) (x3 : Int) : px_X (d + 1) 103 (78, [vR 58, vI x1, vI x2, vI x3], []) (px_sh L, i, l, r, t) = (px_C d 33 [vR 65, vI (i 58 9)] (px_sh L, i, l, r, t)).bind (fun q => px_X (d + 1) 103 (px_psh (89, [vR 58, vI x1, vI x2, vI x3], []) q.1) q.2) := ((xs_aldn k103_78 rfl).trans ((xs_get4 k103_79 (px_s58 L) (Nat.le_of_ble_eq_true rfl) (px_r58_6 hr)).trans ((xs_aldn k103_82 rfl).trans ((xs_get0 k103_83 (px_s58 L) (Nat.le_of_ble_eq_true rfl)).trans (xs_callsB k103_86 (as := [vR 65, vI (i 58 9)]) rfl rfl (Nat.le_of_ble_eq_true rfl) (Nat.le_of_ble_eq_true rfl) (Nat.le_of_ble_eq_true rfl))))))
theorem b103_89 (hr : px_hr r) (d : Nat) (i l : MI) (x1 : Int) (x2 : Int) (x3 : Int) (xs0 : Int) : px_X d 103 (89, [vR 58, vI x1, vI x2, vI x3], [vI xs0]) (px_sh L, i, l, r, t) = if xs0 = 30 then px_X d 103 (99, [vR 58, vI x1, vI x2, vI x3], [vI 1]) (px_sh L, i, l, r, t) else px_X d 103 (99, [vR 58, vI x1, vI x2, vI x3], [vI 0]) (px_sh L, i, l, r, t) := ((xs_bi k103_89 (by omega)).trans ((xs_jne k103_91).trans (px_ite (fun c1 => ((xs_ic k103_94 (by omega)).trans (xs_goto k103_95))) (fun c1 => (xs_ic k103_98 (by omega))))))
theorem b103_99 (hr : px_hr r) (d : Nat) (i l : MI) (x1 : Int) (x2 : Int) (x3 : Int) (xs0 : Int) : px_X d 103 (99, [vR 58, vI x1, vI x2, vI x3], [vI xs0]) (px_sh L, i, l, r, t) = if x2 = 0 then if xs0 = 0 then some (none, (px_sh L, i, l, r, t)) else px_X d 103 (109, [vR 58, vI xs0, vI x2, vI x3], []) (px_sh L, i, l, r, t) else px_X d 103 (109, [vR 58, vI xs0, vI x2, vI x3], []) (px_sh L, i, l, r, t) := ((xs_istn k103_99 (Nat.le_of_ble_eq_true rfl) (ls' := [vR 58, vI xs0, vI x2, vI x3]) rfl).trans ((xs_ildn k103_100 rfl).trans ((xs_ine k103_101).trans (px_ite (fun c1 => ((xs_ildn k103_104 rfl).trans ((xs_ine k103_105).trans (px_ite (fun c2 => (xs_rv k103_108 rfl)) (fun c2 => rfl))))) (fun c1 => rfl)))))
theorem b103_109 (hr : px_hr r) (d : Nat) (i l : MI) (x1 : Int) (x2 : Int) (x3 : Int) : px_X d 103 (109, [vR 58, vI x1, vI x2, vI x3], []) (px_sh L, i, l, r, t) = px_X d 103 (6, [vR 58, vI x1, vI x2, vI (px_w32 (x3 + 1))], []) (px_sh L, (px_up i 58 9 (px_w32 ((i 58 9) + 1))), l, r, t) := ((xs_aldn k103_109 rfl).trans ((xs_dup k103_110 rfl).trans ((xs_get0 k103_111 (px_s58 L) (Nat.le_of_ble_eq_true rfl)).trans ((xs_ic k103_114 (by omega)).trans ((xs_iadd k103_115).trans ((xs_put0 k103_116 (Or.inl rfl) (px_s58 L) (Nat.le_of_ble_eq_true rfl)).trans ((xs_iinc k103_119 rfl (by omega) (ls' := [vR 58, vI x1, vI x2, vI (px_w32 (x3 + 1))]) rfl).trans (xs_goto k103_122))))))))
-- Reader.readAsk ('R58',)
theorem b104_0 (hr : px_hr r) (d : Nat) (i l : MI)  : px_X d 104 (0, [vR 58, vJ, vJ, vJ], []) (px_sh L, i, l, r, t) = px_X d 104 (4, [vR 58, vI 0, vI 0, vJ], []) (px_sh L, i, l, r, t) := ((xs_ic k104_0 (by omega)).trans ((xs_istn k104_1 (Nat.le_of_ble_eq_true rfl) (ls' := [vR 58, vI 0, vJ, vJ]) rfl).trans ((xs_ic k104_2 (by omega)).trans (xs_istn k104_3 (Nat.le_of_ble_eq_true rfl) (ls' := [vR 58, vI 0, vI 0, vJ]) rfl))))
theorem b104_4 (hr : px_hr r) (d : Nat) (i l : MI) (x1 : Int) (x2 : Int) : px_X (d + 1) 104 (4, [vR 58, vI x1, vI x2, vJ], []) (px_sh L, i, l, r, t) = if 8 < x2 then px_X (d + 1) 104 (70, [vR 58, vI x1, vI x2, vJ], []) (px_sh L, i, l, r, t) else (px_C d 33 [vR 65, vI (i 58 9)] (px_sh L, i, l, r, t)).bind (fun q => px_X (d + 1) 104 (px_psh (21, [vR 58, vI x1, vI x2, vJ], []) q.1) q.2) := ((xs_ildn k104_4 rfl).trans ((xs_bi k104_5 (by omega)).trans ((xs_jgt k104_7).trans (px_ite (fun c1 => rfl) (fun c1 => ((xs_aldn k104_10 rfl).trans ((xs_get4 k104_11 (px_s58 L) (Nat.le_of_ble_eq_true rfl) (px_r58_6 hr)).trans ((xs_aldn k104_14 rfl).trans ((xs_get0 k104_15 (px_s58 L) (Nat.le_of_ble_eq_true rfl)).trans (xs_callsB k104_18 (as := [vR 65, vI (i 58 9)]) rfl rfl (Nat.le_of_ble_eq_true rfl) (Nat.le_of_ble_eq_true rfl) (Nat.le_of_ble_eq_true rfl)))))))))))
theorem b104_21 (hr : px_hr r) (d : Nat) (i l : MI) (x1 : Int) (x2 : Int) (xs0 : Int) : px_X (d + 1) 104 (21, [vR 58, vI x1, vI x2, vJ], [vI xs0]) (px_sh L, i, l, r, t) = if xs0 = 32 then if (i 58 10) < 8 then px_X (d + 1) 104 (4, [vR 58, vI (px_w32 (x1 + 1)), vI (px_w32 (x2 + 1)), vJ], []) (px_sh L, (px_up (px_up i 58 10 (px_w32 ((i 58 10) + 1))) 58 9 (px_w32 ((i 58 9) + 1))), l, r, t) else (px_C d 101 [vR 58, vI 3] (px_sh L, i, l, r, t)).bind (fun q => px_X (d + 1) 104 (px_psh (40, [vR 58, vI x1, vI x2, vJ], []) q.1) q.2) else px_X (d + 1) 104 (70, [vR 58, vI x1, vI x2, vJ], []) (px_sh L, i, l, r, t) := ((xs_bi k104_21 (by omega)).trans ((xs_jne k104_23).trans (px_ite (fun c1 => ((xs_aldn k104_26 rfl).trans ((xs_get0 k104_27 (px_s58 L) (Nat.le_of_ble_eq_true rfl)).trans ((xs_bi k104_30 (by omega)).trans ((xs_jlt k104_32).trans (px_ite (fun c2 => ((xs_aldn k104_41 rfl).trans ((xs_dup k104_42 rfl).trans ((xs_get0 k104_43 (px_s58 L) (Nat.le_of_ble_eq_true rfl)).trans ((xs_ic k104_46 (by omega)).trans ((xs_iadd k104_47).trans ((xs_put0 k104_48 (Or.inl rfl) (px_s58 L) (Nat.le_of_ble_eq_true rfl)).trans ((xs_iinc k104_51 rfl (by omega) (ls' := [vR 58, vI (px_w32 (x1 + 1)), vI x2, vJ]) rfl).trans ((xs_aldn k104_54 rfl).trans ((xs_dup k104_55 rfl).trans ((xs_get0 k104_56 (px_s58 L) (Nat.le_of_ble_eq_true rfl)).trans ((xs_ic k104_59 (by omega)).trans ((xs_iadd k104_60).trans ((xs_put0 k104_61 (Or.inl rfl) (px_s58 L) (Nat.le_of_ble_eq_true rfl)).trans ((xs_iinc k104_64 rfl (by omega) (ls' := [vR 58, vI (px_w32 (x1 + 1)), vI (px_w32 (x2 + 1)), vJ]) rfl).trans (xs_goto k104_67)))))))))))))))) (fun c2 => ((xs_aldn k104_35 rfl).trans ((xs_ic k104_36 (by omega)).trans (xs_callvB k104_37 (as := [vI 3]) rfl rfl (Nat.le_of_ble_eq_true rfl) (Nat.le_of_ble_eq_true rfl) (Nat.le_of_ble_eq_true rfl) (px_s58 L) (Nat.le_of_ble_eq_true rfl))))))))))) (fun c1 => rfl))))
theorem b104_40 (hr : px_hr r) (d : Nat) (i l : MI) (x1 : Int) (x2 : Int) : px_X d 104 (40, [vR 58, vI x1, vI x2, vJ], []) (px_sh L, i, l, r, t) = some (none, (px_sh L, i, l, r, t)) := (xs_rv k104_40 rfl)
theorem b104_70 (hr : px_hr r) (d : Nat) (i l : MI) (x1 : Int) (x2 : Int) : px_X (d + 1) 104 (70, [vR 58, vI x1, vI x2, vJ], []) (px_sh L, i, l, r, t) = (px_C d 105 [vR 58] (px_sh L, i, l, r, t)).bind (fun q => px_X (d + 1) 104 (px_psh (74, [vR 58, vI x1, vI x2, vJ], []) q.1) q.2) := ((xs_aldn k104_70 rfl).trans (xs_callvB k104_71 (as := []) rfl rfl (Nat.le_of_ble_eq_true rfl) (Nat.le_of_ble_eq_true rfl) (Nat.le_of_ble_eq_true rfl) (px_s58 L) (Nat.le_of_ble_eq_true rfl)))
theorem b104_74 (hr : px_hr r) (d : Nat) (i l : MI) (x1 : Int) (x2 : Int) : px_X (d + 1) 104 (74, [vR 58, vI x1, vI x2, vJ], []) (px_sh L, i, l, r, t) = (px_C d 33 [vR 65, vI (i 58 9)] (px_sh L, i, l, r, t)).bind (fun q => px_X (d + 1) 104 (px_psh (85, [vR 58, vI x1, vI x2, vJ], []) q.1) q.2) := ((xs_aldn k104_74 rfl).trans ((xs_get4 k104_75 (px_s58 L) (Nat.le_of_ble_eq_true rfl) (px_r58_6 hr)).trans ((xs_aldn k104_78 rfl).trans ((xs_get0 k104_79 (px_s58 L) (Nat.le_of_ble_eq_true rfl)).trans (xs_callsB k104_82 (as := [vR 65, vI (i 58 9)]) rfl rfl (Nat.le_of_ble_eq_true rfl) (Nat.le_of_ble_eq_true rfl) (Nat.le_of_ble_eq_true rfl))))))
theorem b104_85 (hr : px_hr r) (d : Nat) (i l : MI) (x1 : Int) (x2 : Int) (xs0 : Int) : px_X (d + 1) 104 (85, [vR 58, vI x1, vI x2, vJ], [vI xs0]) (px_sh L, i, l, r, t) = (px_C d 30 [vI xs0, vI 14, vI 19] (px_sh L, i, l, r, t)).bind (fun q => px_X (d + 1) 104 (px_psh (94, [vR 58, vI x1, vI xs0, vJ], []) q.1) q.2) := ((xs_istn k104_85 (Nat.le_of_ble_eq_true rfl) (ls' := [vR 58, vI x1, vI xs0, vJ]) rfl).trans ((xs_ildn k104_86 rfl).trans ((xs_bi k104_87 (by omega)).trans ((xs_bi k104_89 (by omega)).trans (xs_callsB k104_91 (as := [vI xs0, vI 14, vI 19]) rfl rfl (Nat.le_of_ble_eq_true rfl) (Nat.le_of_ble_eq_true rfl) (Nat.le_of_ble_eq_true rfl))))))
theorem b104_94 (hr : px_hr r) (d : Nat) (i l : MI) (x1 : Int) (x2 : Int) (xs0 : Int) : px_X (d + 1) 104 (94, [vR 58, vI x1, vI x2, vJ], [vI xs0]) (px_sh L, i, l, r, t) = if xs0 = 0 then (px_C d 101 [vR 58, vI 1] (px_sh L, i, l, r, t)).bind (fun q => px_X (d + 1) 104 (px_psh (102, [vR 58, vI x1, vI x2, vJ], []) q.1) q.2) else px_X (d + 1) 104 (102, [vR 58, vI x1, vI x2, vJ], []) (px_sh L, i, l, r, t) := ((xs_ine k104_94).trans (px_ite (fun c1 => ((xs_aldn k104_97 rfl).trans ((xs_ic k104_98 (by omega)).trans (xs_callvB k104_99 (as := [vI 1]) rfl rfl (Nat.le_of_ble_eq_true rfl) (Nat.le_of_ble_eq_true rfl) (Nat.le_of_ble_eq_true rfl) (px_s58 L) (Nat.le_of_ble_eq_true rfl))))) (fun c1 => rfl)))
theorem b104_102 (hr : px_hr r) (d : Nat) (i l : MI) (x1 : Int) (x2 : Int) : px_X (d + 1) 104 (102, [vR 58, vI x1, vI x2, vJ], []) (px_sh L, i, l, r, t) = if (i 58 3) = 0 then (px_C d 105 [vR 58] (px_sh L, (px_up i 58 9 (px_w32 ((i 58 9) + 1))), l, r, t)).bind (fun q => px_X (d + 1) 104 (px_psh (124, [vR 58, vI x1, vI x2, vJ], []) q.1) q.2) else some (none, (px_sh L, i, l, r, t)) := ((xs_aldn k104_102 rfl).trans ((xs_get0 k104_103 (px_s58 L) (Nat.le_of_ble_eq_true rfl)).trans ((xs_ieq k104_106).trans (px_ite (fun c1 => ((xs_aldn k104_110 rfl).trans ((xs_dup k104_111 rfl).trans ((xs_get0 k104_112 (px_s58 L) (Nat.le_of_ble_eq_true rfl)).trans ((xs_ic k104_115 (by omega)).trans ((xs_iadd k104_116).trans ((xs_put0 k104_117 (Or.inl rfl) (px_s58 L) (Nat.le_of_ble_eq_true rfl)).trans ((xs_aldn k104_120 rfl).trans (xs_callvB k104_121 (as := []) rfl rfl (Nat.le_of_ble_eq_true rfl) (Nat.le_of_ble_eq_true rfl) (Nat.le_of_ble_eq_true rfl) (px_s58 L) (Nat.le_of_ble_eq_true rfl)))))))))) (fun c1 => (xs_rv k104_109 rfl))))))
theorem b104_124 (hr : px_hr r) (d : Nat) (i l : MI) (x1 : Int) (x2 : Int) : px_X (d + 1) 104 (124, [vR 58, vI x1, vI x2, vJ], []) (px_sh L, i, l, r, t) = (px_C d 135 [vR 59, vI (px_w32 (10000 + x2))] (px_sh L, i, l, r, t)).bind (fun q => px_X (d + 1) 104 (px_psh (136, [vR 58, vI x1, vI x2, vJ], []) q.1) q.2) := ((xs_aldn k104_124 rfl).trans ((xs_get4 k104_125 (px_s58 L) (Nat.le_of_ble_eq_true rfl) (px_r58_0 hr)).trans ((xs_si k104_128 (by omega)).trans ((xs_ildn k104_131 rfl).trans ((xs_iadd k104_132).trans (xs_callvB k104_133 (as := [vI (px_w32 (10000 + x2))]) rfl rfl (Nat.le_of_ble_eq_true rfl) (Nat.le_of_ble_eq_true rfl) (Nat.le_of_ble_eq_true rfl) (px_s59 L) (Nat.le_of_ble_eq_true rfl)))))))
theorem b104_136 (hr : px_hr r) (d : Nat) (i l : MI) (x1 : Int) (x2 : Int) : px_X d 104 (136, [vR 58, vI x1, vI x2, vJ], []) (px_sh L, i, l, r, t) = px_X d 104 (138, [vR 58, vI x1, vI x2, vI 0], []) (px_sh L, i, l, r, t) := ((xs_ic k104_136 (by omega)).trans (xs_istn k104_137 (Nat.le_of_ble_eq_true rfl) (ls' := [vR 58, vI x1, vI x2, vI 0]) rfl))
theorem b104_138 (hr : px_hr r) (d : Nat) (i l : MI) (x1 : Int) (x2 : Int) (x3 : Int) : px_X (d + 1) 104 (138, [vR 58, vI x1, vI x2, vI x3], []) (px_sh L, i, l, r, t) = if x1 ≤ x3 then some (none, (px_sh L, (px_up i 58 10 (px_w32 ((i 58 10) - x1))), l, r, t)) else (px_C d 135 [vR 59, vI 10032] (px_sh L, i, l, r, t)).bind (fun q => px_X (d + 1) 104 (px_psh (153, [vR 58, vI x1, vI x2, vI x3], []) q.1) q.2) := ((xs_ildn k104_138 rfl).trans ((xs_ildn k104_139 rfl).trans ((xs_jge k104_140).trans (px_ite (fun c1 => ((xs_aldn k104_159 rfl).trans ((xs_dup k104_160 rfl).trans ((xs_get0 k104_161 (px_s58 L) (Nat.le_of_ble_eq_true rfl)).trans ((xs_ildn k104_164 rfl).trans ((xs_isub k104_165).trans ((xs_put0 k104_166 (Or.inl rfl) (px_s58 L) (Nat.le_of_ble_eq_true rfl)).trans (xs_rv k104_169 rfl)))))))) (fun c1 => ((xs_aldn k104_143 rfl).trans ((xs_get4 k104_144 (px_s58 L) (Nat.le_of_ble_eq_true rfl) (px_r58_0 hr)).trans ((xs_si k104_147 (by omega)).trans (xs_callvB k104_150 (as := [vI 10032]) rfl rfl (Nat.le_of_ble_eq_true rfl) (Nat.le_of_ble_eq_true rfl) (Nat.le_of_ble_eq_true rfl) (px_s59 L) (Nat.le_of_ble_eq_true rfl))))))))))
theorem b104_153 (hr : px_hr r) (d : Nat) (i l : MI) (x1 : Int) (x2 : Int) (x3 : Int) : px_X d 104 (153, [vR 58, vI x1, vI x2, vI x3], []) (px_sh L, i, l, r, t) = px_X d 104 (138, [vR 58, vI x1, vI x2, vI (px_w32 (x3 + 1))], []) (px_sh L, i, l, r, t) := ((xs_iinc k104_153 rfl (by omega) (ls' := [vR 58, vI x1, vI x2, vI (px_w32 (x3 + 1))]) rfl).trans (xs_goto k104_156))
-- Reader.readSum ('R58',)
theorem b105_0 (hr : px_hr r) (d : Nat) (i l : MI)  : px_X d 105 (0, [vR 58, vJ, vJ, vJ, vJ], []) (px_sh L, i, l, r, t) = px_X d 105 (6, [vR 58, vI 0, vI 0, vI 0, vJ], []) (px_sh L, i, l, r, t) := ((xs_ic k105_0 (by omega)).trans ((xs_istn k105_1 (Nat.le_of_ble_eq_true rfl) (ls' := [vR 58, vI 0, vJ, vJ, vJ]) rfl).trans ((xs_ic k105_2 (by omega)).trans ((xs_istn k105_3 (Nat.le_of_ble_eq_true rfl) (ls' := [vR 58, vI 0, vI 0, vJ, vJ]) rfl).trans ((xs_ic k105_4 (by omega)).trans (xs_istn k105_5 (Nat.le_of_ble_eq_true rfl) (ls' := [vR 58, vI 0, vI 0, vI 0, vJ]) rfl))))))
theorem b105_6 (hr : px_hr r) (d : Nat) (i l : MI) (x1 : Int) (x2 : Int) (x3 : Int) {v4 : PV} (hn4 : px_nl v4) : px_X (d + 1) 105 (6, [vR 58, vI x1, vI x2, vI x3, v4], []) (px_sh L, i, l, r, t) = if 300 < x3 then some (none, (px_sh L, i, l, r, t)) else if (i 58 3) = 0 then (px_C d 106 [vR 58] (px_sh L, i, l, r, t)).bind (fun q => px_X (d + 1) 105 (px_psh (24, [vR 58, vI x1, vI x2, vI x3, v4], []) q.1) q.2) else some (none, (px_sh L, i, l, r, t)) := ((xs_ildn k105_6 rfl).trans ((xs_si k105_7 (by omega)).trans ((xs_jgt k105_10).trans (px_ite (fun c1 => (xs_rv k105_140 rfl)) (fun c1 => ((xs_aldn k105_13 rfl).trans ((xs_get0 k105_14 (px_s58 L) (Nat.le_of_ble_eq_true rfl)).trans ((xs_ine k105_17).trans (px_ite (fun c2 => ((xs_aldn k105_20 rfl).trans (xs_callvB k105_21 (as := []) rfl rfl (Nat.le_of_ble_eq_true rfl) (Nat.le_of_ble_eq_true rfl) (Nat.le_of_ble_eq_true rfl) (px_s58 L) (Nat.le_of_ble_eq_true rfl)))) (fun c2 => (xs_rv k105_140 rfl)))))))))))
theorem b105_24 (hr : px_hr r) (d : Nat) (i l : MI) (x1 : Int) (x2 : Int) (x3 : Int) {v4 : PV} (hn4 : px_nl v4) : px_X (d + 1) 105 (24, [vR 58, vI x1, vI x2, vI x3, v4], []) (px_sh L, i, l, r, t) = if x2 = 0 then px_X (d + 1) 105 (40, [vR 58, vI x1, vI x2, vI x3, v4], []) (px_sh L, i, l, r, t) else (px_C d 135 [vR 59, vI (px_w32 (10000 + x2))] (px_sh L, i, l, r, t)).bind (fun q => px_X (d + 1) 105 (px_psh (40, [vR 58, vI x1, vI x2, vI x3, v4], []) q.1) q.2) := ((xs_ildn k105_24 rfl).trans ((xs_ieq k105_25).trans (px_ite (fun c1 => rfl) (fun c1 => ((xs_aldn k105_28 rfl).trans ((xs_get4 k105_29 (px_s58 L) (Nat.le_of_ble_eq_true rfl) (px_r58_0 hr)).trans ((xs_si k105_32 (by omega)).trans ((xs_ildn k105_35 rfl).trans ((xs_iadd k105_36).trans (xs_callvB k105_37 (as := [vI (px_w32 (10000 + x2))]) rfl rfl (Nat.le_of_ble_eq_true rfl) (Nat.le_of_ble_eq_true rfl) (Nat.le_of_ble_eq_true rfl) (px_s59 L) (Nat.le_of_ble_eq_true rfl)))))))))))
theorem b105_40 (hr : px_hr r) (d : Nat) (i l : MI) (x1 : Int) (x2 : Int) (x3 : Int) {v4 : PV} (hn4 : px_nl v4) : px_X (d + 1) 105 (40, [vR 58, vI x1, vI x2, vI x3, v4], []) (px_sh L, i, l, r, t) = (px_C d 33 [vR 65, vI (i 58 9)] (px_sh L, i, l, r, t)).bind (fun q => px_X (d + 1) 105 (px_psh (51, [vR 58, vI x1, vI x2, vI x3, v4], []) q.1) q.2) := ((xs_aldn k105_40 rfl).trans ((xs_get4 k105_41 (px_s58 L) (Nat.le_of_ble_eq_true rfl) (px_r58_6 hr)).trans ((xs_aldn k105_44 rfl).trans ((xs_get0 k105_45 (px_s58 L) (Nat.le_of_ble_eq_true rfl)).trans (xs_callsB k105_48 (as := [vR 65, vI (i 58 9)]) rfl rfl (Nat.le_of_ble_eq_true rfl) (Nat.le_of_ble_eq_true rfl) (Nat.le_of_ble_eq_true rfl))))))
theorem b105_51 (hr : px_hr r) (d : Nat) (i l : MI) (x1 : Int) (x2 : Int) (x3 : Int) {v4 : PV} (hn4 : px_nl v4) (xs0 : Int) : px_X d 105 (51, [vR 58, vI x1, vI x2, vI x3, v4], [vI xs0]) (px_sh L, i, l, r, t) = if xs0 = 12 then px_X d 105 (67, [vR 58, vI x1, vI x2, vI x3, vI xs0], []) (px_sh L, i, l, r, t) else if xs0 = 13 then px_X d 105 (67, [vR 58, vI x1, vI x2, vI x3, vI xs0], []) (px_sh L, i, l, r, t) else px_X d 105 (73, [vR 58, vI x1, vI x2, vI x3, vI xs0], [vI 0]) (px_sh L, i, l, r, t) := ((xs_ist k105_51 (Nat.le_of_ble_eq_true rfl) (ls' := [vR 58, vI x1, vI x2, vI x3, vI xs0]) rfl).trans ((xs_ild k105_53 rfl).trans ((xs_bi k105_55 (by omega)).trans ((xs_jeq k105_57).trans (px_ite (fun c1 => rfl) (fun c1 => ((xs_ild k105_60 rfl).trans ((xs_bi k105_62 (by omega)).trans ((xs_jne k105_64).trans (px_ite (fun c2 => rfl) (fun c2 => (xs_ic k105_72 (by omega)))))))))))))
theorem b105_67 (hr : px_hr r) (d : Nat) (i l : MI) (x1 : Int) (x2 : Int) (x3 : Int) (x4 : Int) : px_X d 105 (67, [vR 58, vI x1, vI x2, vI x3, vI x4], []) (px_sh L, i, l, r, t) = px_X d 105 (73, [vR 58, vI x1, vI x2, vI x3, vI x4], [vI x4]) (px_sh L, i, l, r, t) := ((xs_ild k105_67 rfl).trans (xs_goto k105_69))
theorem b105_73 (hr : px_hr r) (d : Nat) (i l : MI) (x1 : Int) (x2 : Int) (x3 : Int) (x4 : Int) (xs0 : Int) : px_X (d + 1) 105 (73, [vR 58, vI x1, vI x2, vI x3, vI x4], [vI xs0]) (px_sh L, i, l, r, t) = if xs0 = 0 then if x1 = 0 then px_X (d + 1) 105 (94, [vR 58, vI x1, vI xs0, vI x3, vI x4], []) (px_sh L, i, l, r, t) else (px_C d 135 [vR 59, vI (px_w32 (10000 + x1))] (px_sh L, i, l, r, t)).bind (fun q => px_X (d + 1) 105 (px_psh (94, [vR 58, vI x1, vI xs0, vI x3, vI x4], []) q.1) q.2) else if xs0 = 0 then if x1 = 0 then some (none, (px_sh L, i, l, r, t)) else px_X (d + 1) 105 (124, [vR 58, vI x1, vI xs0, vI x3, vI x4], []) (px_sh L, i, l, r, t) else px_X (d + 1) 105 (124, [vR 58, vI x1, vI xs0, vI x3, vI x4], []) (px_sh L, i, l, r, t) := ((xs_istn k105_73 (Nat.le_of_ble_eq_true rfl) (ls' := [vR 58, vI x1, vI xs0, vI x3, vI x4]) rfl).trans ((xs_ildn k105_74 rfl).trans ((xs_ine k105_75).trans (px_ite (fun c1 => ((xs_ildn k105_78 rfl).trans ((xs_ieq k105_79).trans (px_ite (fun c2 => rfl) (fun c2 => ((xs_aldn k105_82 rfl).trans ((xs_get4 k105_83 (px_s58 L) (Nat.le_of_ble_eq_true rfl) (px_r58_0 hr)).trans ((xs_si k105_86 (by omega)).trans ((xs_ildn k105_89 rfl).trans ((xs_iadd k105_90).trans (xs_callvB k105_91 (as := [vI (px_w32 (10000 + x1))]) rfl rfl (Nat.le_of_ble_eq_true rfl) (Nat.le_of_ble_eq_true rfl) (Nat.le_of_ble_eq_true rfl) (px_s59 L) (Nat.le_of_ble_eq_true rfl)))))))))))) (fun c1 => ((xs_ildn k105_115 rfl).trans ((xs_ine k105_116).trans (px_ite (fun c2 => ((xs_ildn k105_119 rfl).trans ((xs_ine k105_120).trans (px_ite (fun c3 => (xs_rv k105_123 rfl)) (fun c3 => rfl))))) (fun c2 => rfl)))))))))
theorem b105_94 (hr : px_hr r) (d : Nat) (i l : MI) (x1 : Int) (x2 : Int) (x3 : Int) (x4 : Int) : px_X d 105 (94, [vR 58, vI x1, vI x2, vI x3, vI x4], []) (px_sh L, i, l, r, t) = if x4 = 10 then px_X d 105 (108, [vR 58, vI x1, vI x2, vI x3, vI x4], []) (px_sh L, i, l, r, t) else if x4 = 11 then px_X d 105 (108, [vR 58, vI x1, vI x2, vI x3, vI x4], []) (px_sh L, i, l, r, t) else px_X d 105 (114, [vR 58, vI x1, vI x2, vI x3, vI x4], [vI 0]) (px_sh L, i, l, r, t) := ((xs_ild k105_94 rfl).trans ((xs_bi k105_96 (by omega)).trans ((xs_jeq k105_98).trans (px_ite (fun c1 => rfl) (fun c1 => ((xs_ild k105_101 rfl).trans ((xs_bi k105_103 (by omega)).trans ((xs_jne k105_105).trans (px_ite (fun c2 => rfl) (fun c2 => (xs_ic k105_113 (by omega))))))))))))
theorem b105_108 (hr : px_hr r) (d : Nat) (i l : MI) (x1 : Int) (x2 : Int) (x3 : Int) (x4 : Int) : px_X d 105 (108, [vR 58, vI x1, vI x2, vI x3, vI x4], []) (px_sh L, i, l, r, t) = px_X d 105 (114, [vR 58, vI x1, vI x2, vI x3, vI x4], [vI x4]) (px_sh L, i, l, r, t) := ((xs_ild k105_108 rfl).trans (xs_goto k105_110))
theorem b105_114 (hr : px_hr r) (d : Nat) (i l : MI) (x1 : Int) (x2 : Int) (x3 : Int) (x4 : Int) (xs0 : Int) : px_X d 105 (114, [vR 58, vI x1, vI x2, vI x3, vI x4], [vI xs0]) (px_sh L, i, l, r, t) = if x2 = 0 then if xs0 = 0 then some (none, (px_sh L, i, l, r, t)) else px_X d 105 (124, [vR 58, vI xs0, vI x2, vI x3, vI x4], []) (px_sh L, i, l, r, t) else px_X d 105 (124, [vR 58, vI xs0, vI x2, vI x3, vI x4], []) (px_sh L, i, l, r, t) := ((xs_istn k105_114 (Nat.le_of_ble_eq_true rfl) (ls' := [vR 58, vI xs0, vI x2, vI x3, vI x4]) rfl).trans ((xs_ildn k105_115 rfl).trans ((xs_ine k105_116).trans (px_ite (fun c1 => ((xs_ildn k105_119 rfl).trans ((xs_ine k105_120).trans (px_ite (fun c2 => (xs_rv k105_123 rfl)) (fun c2 => rfl))))) (fun c1 => rfl)))))
theorem b105_124 (hr : px_hr r) (d : Nat) (i l : MI) (x1 : Int) (x2 : Int) (x3 : Int) (x4 : Int) : px_X d 105 (124, [vR 58, vI x1, vI x2, vI x3, vI x4], []) (px_sh L, i, l, r, t) = px_X d 105 (6, [vR 58, vI x1, vI x2, vI (px_w32 (x3 + 1)), vI x4], []) (px_sh L, (px_up i 58 9 (px_w32 ((i 58 9) + 1))), l, r, t) := ((xs_aldn k105_124 rfl).trans ((xs_dup k105_125 rfl).trans ((xs_get0 k105_126 (px_s58 L) (Nat.le_of_ble_eq_true rfl)).trans ((xs_ic k105_129 (by omega)).trans ((xs_iadd k105_130).trans ((xs_put0 k105_131 (Or.inl rfl) (px_s58 L) (Nat.le_of_ble_eq_true rfl)).trans ((xs_iinc k105_134 rfl (by omega) (ls' := [vR 58, vI x1, vI x2, vI (px_w32 (x3 + 1)), vI x4]) rfl).trans (xs_goto k105_137))))))))
-- Reader.readOne ('R58',)
theorem b106_0 (hr : px_hr r) (d : Nat) (i l : MI)  : px_X d 106 (0, [vR 58, vJ, vJ, vJ], []) (px_sh L, i, l, r, t) = px_X d 106 (4, [vR 58, vI 0, vI 0, vJ], []) (px_sh L, i, l, r, t) := ((xs_ic k106_0 (by omega)).trans ((xs_istn k106_1 (Nat.le_of_ble_eq_true rfl) (ls' := [vR 58, vI 0, vJ, vJ]) rfl).trans ((xs_ic k106_2 (by omega)).trans (xs_istn k106_3 (Nat.le_of_ble_eq_true rfl) (ls' := [vR 58, vI 0, vI 0, vJ]) rfl))))
theorem b106_4 (hr : px_hr r) (d : Nat) (i l : MI) (x1 : Int) (x2 : Int) : px_X (d + 1) 106 (4, [vR 58, vI x1, vI x2, vJ], []) (px_sh L, i, l, r, t) = if 8 < x2 then px_X (d + 1) 106 (70, [vR 58, vI x1, vI x2, vJ], []) (px_sh L, i, l, r, t) else (px_C d 33 [vR 65, vI (i 58 9)] (px_sh L, i, l, r, t)).bind (fun q => px_X (d + 1) 106 (px_psh (21, [vR 58, vI x1, vI x2, vJ], []) q.1) q.2) := ((xs_ildn k106_4 rfl).trans ((xs_bi k106_5 (by omega)).trans ((xs_jgt k106_7).trans (px_ite (fun c1 => rfl) (fun c1 => ((xs_aldn k106_10 rfl).trans ((xs_get4 k106_11 (px_s58 L) (Nat.le_of_ble_eq_true rfl) (px_r58_6 hr)).trans ((xs_aldn k106_14 rfl).trans ((xs_get0 k106_15 (px_s58 L) (Nat.le_of_ble_eq_true rfl)).trans (xs_callsB k106_18 (as := [vR 65, vI (i 58 9)]) rfl rfl (Nat.le_of_ble_eq_true rfl) (Nat.le_of_ble_eq_true rfl) (Nat.le_of_ble_eq_true rfl)))))))))))
theorem b106_21 (hr : px_hr r) (d : Nat) (i l : MI) (x1 : Int) (x2 : Int) (xs0 : Int) : px_X (d + 1) 106 (21, [vR 58, vI x1, vI x2, vJ], [vI xs0]) (px_sh L, i, l, r, t) = if xs0 = 11 then if (i 58 10) < 8 then px_X (d + 1) 106 (4, [vR 58, vI (px_w32 (x1 + 1)), vI (px_w32 (x2 + 1)), vJ], []) (px_sh L, (px_up (px_up i 58 10 (px_w32 ((i 58 10) + 1))) 58 9 (px_w32 ((i 58 9) + 1))), l, r, t) else (px_C d 101 [vR 58, vI 3] (px_sh L, i, l, r, t)).bind (fun q => px_X (d + 1) 106 (px_psh (40, [vR 58, vI x1, vI x2, vJ], []) q.1) q.2) else px_X (d + 1) 106 (70, [vR 58, vI x1, vI x2, vJ], []) (px_sh L, i, l, r, t) := ((xs_bi k106_21 (by omega)).trans ((xs_jne k106_23).trans (px_ite (fun c1 => ((xs_aldn k106_26 rfl).trans ((xs_get0 k106_27 (px_s58 L) (Nat.le_of_ble_eq_true rfl)).trans ((xs_bi k106_30 (by omega)).trans ((xs_jlt k106_32).trans (px_ite (fun c2 => ((xs_aldn k106_41 rfl).trans ((xs_dup k106_42 rfl).trans ((xs_get0 k106_43 (px_s58 L) (Nat.le_of_ble_eq_true rfl)).trans ((xs_ic k106_46 (by omega)).trans ((xs_iadd k106_47).trans ((xs_put0 k106_48 (Or.inl rfl) (px_s58 L) (Nat.le_of_ble_eq_true rfl)).trans ((xs_iinc k106_51 rfl (by omega) (ls' := [vR 58, vI (px_w32 (x1 + 1)), vI x2, vJ]) rfl).trans ((xs_aldn k106_54 rfl).trans ((xs_dup k106_55 rfl).trans ((xs_get0 k106_56 (px_s58 L) (Nat.le_of_ble_eq_true rfl)).trans ((xs_ic k106_59 (by omega)).trans ((xs_iadd k106_60).trans ((xs_put0 k106_61 (Or.inl rfl) (px_s58 L) (Nat.le_of_ble_eq_true rfl)).trans ((xs_iinc k106_64 rfl (by omega) (ls' := [vR 58, vI (px_w32 (x1 + 1)), vI (px_w32 (x2 + 1)), vJ]) rfl).trans (xs_goto k106_67)))))))))))))))) (fun c2 => ((xs_aldn k106_35 rfl).trans ((xs_ic k106_36 (by omega)).trans (xs_callvB k106_37 (as := [vI 3]) rfl rfl (Nat.le_of_ble_eq_true rfl) (Nat.le_of_ble_eq_true rfl) (Nat.le_of_ble_eq_true rfl) (px_s58 L) (Nat.le_of_ble_eq_true rfl))))))))))) (fun c1 => rfl))))
theorem b106_40 (hr : px_hr r) (d : Nat) (i l : MI) (x1 : Int) (x2 : Int) : px_X d 106 (40, [vR 58, vI x1, vI x2, vJ], []) (px_sh L, i, l, r, t) = some (none, (px_sh L, i, l, r, t)) := (xs_rv k106_40 rfl)
theorem b106_70 (hr : px_hr r) (d : Nat) (i l : MI) (x1 : Int) (x2 : Int) : px_X (d + 1) 106 (70, [vR 58, vI x1, vI x2, vJ], []) (px_sh L, i, l, r, t) = (px_C d 33 [vR 65, vI (i 58 9)] (px_sh L, i, l, r, t)).bind (fun q => px_X (d + 1) 106 (px_psh (81, [vR 58, vI x1, vI x2, vJ], []) q.1) q.2) := ((xs_aldn k106_70 rfl).trans ((xs_get4 k106_71 (px_s58 L) (Nat.le_of_ble_eq_true rfl) (px_r58_6 hr)).trans ((xs_aldn k106_74 rfl).trans ((xs_get0 k106_75 (px_s58 L) (Nat.le_of_ble_eq_true rfl)).trans (xs_callsB k106_78 (as := [vR 65, vI (i 58 9)]) rfl rfl (Nat.le_of_ble_eq_true rfl) (Nat.le_of_ble_eq_true rfl) (Nat.le_of_ble_eq_true rfl))))))
theorem b106_81 (hr : px_hr r) (d : Nat) (i l : MI) (x1 : Int) (x2 : Int) (xs0 : Int) : px_X (d + 1) 106 (81, [vR 58, vI x1, vI x2, vJ], [vI xs0]) (px_sh L, i, l, r, t) = if xs0 = 3 then if (i 58 10) < 8 then px_X (d + 1) 106 (104, [vR 58, vI x1, vI xs0, vJ], []) (px_sh L, i, l, r, t) else (px_C d 101 [vR 58, vI 3] (px_sh L, i, l, r, t)).bind (fun q => px_X (d + 1) 106 (px_psh (101, [vR 58, vI x1, vI xs0, vJ], []) q.1) q.2) else px_X (d + 1) 106 (104, [vR 58, vI x1, vI xs0, vJ], []) (px_sh L, i, l, r, t) := ((xs_istn k106_81 (Nat.le_of_ble_eq_true rfl) (ls' := [vR 58, vI x1, vI xs0, vJ]) rfl).trans ((xs_ildn k106_82 rfl).trans ((xs_ic k106_83 (by omega)).trans ((xs_jne k106_84).trans (px_ite (fun c1 => ((xs_aldn k106_87 rfl).trans ((xs_get0 k106_88 (px_s58 L) (Nat.le_of_ble_eq_true rfl)).trans ((xs_bi k106_91 (by omega)).trans ((xs_jlt k106_93).trans (px_ite (fun c2 => rfl) (fun c2 => ((xs_aldn k106_96 rfl).trans ((xs_ic k106_97 (by omega)).trans (xs_callvB k106_98 (as := [vI 3]) rfl rfl (Nat.le_of_ble_eq_true rfl) (Nat.le_of_ble_eq_true rfl) (Nat.le_of_ble_eq_true rfl) (px_s58 L) (Nat.le_of_ble_eq_true rfl))))))))))) (fun c1 => rfl))))))
theorem b106_101 (hr : px_hr r) (d : Nat) (i l : MI) (x1 : Int) (x2 : Int) : px_X d 106 (101, [vR 58, vI x1, vI x2, vJ], []) (px_sh L, i, l, r, t) = px_X d 106 (270, [vR 58, vI x1, vI x2, vJ], []) (px_sh L, i, l, r, t) := (xs_goto k106_101)
theorem b106_104 (hr : px_hr r) (d : Nat) (i l : MI) (x1 : Int) (x2 : Int) : px_X (d + 1) 106 (104, [vR 58, vI x1, vI x2, vJ], []) (px_sh L, i, l, r, t) = if x2 = 3 then (px_C d 105 [vR 58] (px_sh L, (px_up (px_up i 58 10 (px_w32 ((i 58 10) + 1))) 58 9 (px_w32 ((i 58 9) + 1))), l, r, t)).bind (fun q => px_X (d + 1) 106 (px_psh (133, [vR 58, vI x1, vI x2, vJ], []) q.1) q.2) else if x2 = 2 then (px_C d 33 [vR 67, vI (i 58 9)] (px_sh L, i, l, r, t)).bind (fun q => px_X (d + 1) 106 (px_psh (182, [vR 58, vI x1, vI x2, vJ], []) q.1) q.2) else px_X (d + 1) 106 (196, [vR 58, vI x1, vI x2, vJ], []) (px_sh L, i, l, r, t) := ((xs_ildn k106_104 rfl).trans ((xs_ic k106_105 (by omega)).trans ((xs_jne k106_106).trans (px_ite (fun c1 => ((xs_aldn k106_109 rfl).trans ((xs_dup k106_110 rfl).trans ((xs_get0 k106_111 (px_s58 L) (Nat.le_of_ble_eq_true rfl)).trans ((xs_ic k106_114 (by omega)).trans ((xs_iadd k106_115).trans ((xs_put0 k106_116 (Or.inl rfl) (px_s58 L) (Nat.le_of_ble_eq_true rfl)).trans ((xs_aldn k106_119 rfl).trans ((xs_dup k106_120 rfl).trans ((xs_get0 k106_121 (px_s58 L) (Nat.le_of_ble_eq_true rfl)).trans ((xs_ic k106_124 (by omega)).trans ((xs_iadd k106_125).trans ((xs_put0 k106_126 (Or.inl rfl) (px_s58 L) (Nat.le_of_ble_eq_true rfl)).trans ((xs_aldn k106_129 rfl).trans (xs_callvB k106_130 (as := []) rfl rfl (Nat.le_of_ble_eq_true rfl) (Nat.le_of_ble_eq_true rfl) (Nat.le_of_ble_eq_true rfl) (px_s58 L) (Nat.le_of_ble_eq_true rfl)))))))))))))))) (fun c1 => ((xs_ildn k106_166 rfl).trans ((xs_ic k106_167 (by omega)).trans ((xs_jne k106_168).trans (px_ite (fun c2 => ((xs_aldn k106_171 rfl).trans ((xs_get4 k106_172 (px_s58 L) (Nat.le_of_ble_eq_true rfl) (px_r58_8 hr)).trans ((xs_aldn k106_175 rfl).trans ((xs_get0 k106_176 (px_s58 L) (Nat.le_of_ble_eq_true rfl)).trans (xs_callsB k106_179 (as := [vR 67, vI (i 58 9)]) rfl rfl (Nat.le_of_ble_eq_true rfl) (Nat.le_of_ble_eq_true rfl) (Nat.le_of_ble_eq_true rfl))))))) (fun c2 => rfl))))))))))
theorem b106_133 (hr : px_hr r) (d : Nat) (i l : MI) (x1 : Int) (x2 : Int) : px_X (d + 1) 106 (133, [vR 58, vI x1, vI x2, vJ], []) (px_sh L, i, l, r, t) = (px_C d 33 [vR 65, vI (i 58 9)] (px_sh L, i, l, r, t)).bind (fun q => px_X (d + 1) 106 (px_psh (144, [vR 58, vI x1, vI x2, vJ], []) q.1) q.2) := ((xs_aldn k106_133 rfl).trans ((xs_get4 k106_134 (px_s58 L) (Nat.le_of_ble_eq_true rfl) (px_r58_6 hr)).trans ((xs_aldn k106_137 rfl).trans ((xs_get0 k106_138 (px_s58 L) (Nat.le_of_ble_eq_true rfl)).trans (xs_callsB k106_141 (as := [vR 65, vI (i 58 9)]) rfl rfl (Nat.le_of_ble_eq_true rfl) (Nat.le_of_ble_eq_true rfl) (Nat.le_of_ble_eq_true rfl))))))
theorem b106_144 (hr : px_hr r) (d : Nat) (i l : MI) (x1 : Int) (x2 : Int) (xs0 : Int) : px_X (d + 1) 106 (144, [vR 58, vI x1, vI x2, vJ], [vI xs0]) (px_sh L, i, l, r, t) = if xs0 = 4 then px_X (d + 1) 106 (153, [vR 58, vI x1, vI x2, vJ], []) (px_sh L, i, l, r, t) else (px_C d 101 [vR 58, vI 1] (px_sh L, i, l, r, t)).bind (fun q => px_X (d + 1) 106 (px_psh (153, [vR 58, vI x1, vI x2, vJ], []) q.1) q.2) := ((xs_ic k106_144 (by omega)).trans ((xs_jeq k106_145).trans (px_ite (fun c1 => rfl) (fun c1 => ((xs_aldn k106_148 rfl).trans ((xs_ic k106_149 (by omega)).trans (xs_callvB k106_150 (as := [vI 1]) rfl rfl (Nat.le_of_ble_eq_true rfl) (Nat.le_of_ble_eq_true rfl) (Nat.le_of_ble_eq_true rfl) (px_s58 L) (Nat.le_of_ble_eq_true rfl))))))))
theorem b106_153 (hr : px_hr r) (d : Nat) (i l : MI) (x1 : Int) (x2 : Int) : px_X d 106 (153, [vR 58, vI x1, vI x2, vJ], []) (px_sh L, i, l, r, t) = px_X d 106 (270, [vR 58, vI x1, vI x2, vJ], []) (px_sh L, (px_up i 58 10 (px_w32 ((i 58 10) - 1))), l, r, t) := ((xs_aldn k106_153 rfl).trans ((xs_dup k106_154 rfl).trans ((xs_get0 k106_155 (px_s58 L) (Nat.le_of_ble_eq_true rfl)).trans ((xs_ic k106_158 (by omega)).trans ((xs_isub k106_159).trans ((xs_put0 k106_160 (Or.inl rfl) (px_s58 L) (Nat.le_of_ble_eq_true rfl)).trans (xs_goto k106_163)))))))
theorem b106_182 (hr : px_hr r) (d : Nat) (i l : MI) (x1 : Int) (x2 : Int) (xs0 : Int) : px_X (d + 1) 106 (182, [vR 58, vI x1, vI x2, vJ], [vI xs0]) (px_sh L, i, l, r, t) = if xs0 ≤ 9999 then px_X (d + 1) 106 (196, [vR 58, vI x1, vI x2, vJ], []) (px_sh L, i, l, r, t) else (px_C d 101 [vR 58, vI 2] (px_sh L, i, l, r, t)).bind (fun q => px_X (d + 1) 106 (px_psh (193, [vR 58, vI x1, vI x2, vJ], []) q.1) q.2) := ((xs_si k106_182 (by omega)).trans ((xs_jle k106_185).trans (px_ite (fun c1 => rfl) (fun c1 => ((xs_aldn k106_188 rfl).trans ((xs_ic k106_189 (by omega)).trans (xs_callvB k106_190 (as := [vI 2]) rfl rfl (Nat.le_of_ble_eq_true rfl) (Nat.le_of_ble_eq_true rfl) (Nat.le_of_ble_eq_true rfl) (px_s58 L) (Nat.le_of_ble_eq_true rfl))))))))
theorem b106_193 (hr : px_hr r) (d : Nat) (i l : MI) (x1 : Int) (x2 : Int) : px_X d 106 (193, [vR 58, vI x1, vI x2, vJ], []) (px_sh L, i, l, r, t) = px_X d 106 (270, [vR 58, vI x1, vI x2, vJ], []) (px_sh L, i, l, r, t) := (xs_goto k106_193)
theorem b106_196 (hr : px_hr r) (d : Nat) (i l : MI) (x1 : Int) (x2 : Int) : px_X (d + 1) 106 (196, [vR 58, vI x1, vI x2, vJ], []) (px_sh L, i, l, r, t) = if x2 = 2 then (px_C d 33 [vR 67, vI (i 58 9)] (px_sh L, i, l, r, t)).bind (fun q => px_X (d + 1) 106 (px_psh (216, [vR 58, vI x1, vI x2, vJ], [vR 59]) q.1) q.2) else if 33 ≤ x2 then (px_C d 32 [vI (i 58 11), vI (px_w32 (x2 - 33))] (px_sh L, i, l, r, t)).bind (fun q => px_X (d + 1) 106 (px_psh (247, [vR 58, vI x1, vI x2, vJ], []) q.1) q.2) else (px_C d 101 [vR 58, vI 1] (px_sh L, i, l, r, t)).bind (fun q => px_X (d + 1) 106 (px_psh (233, [vR 58, vI x1, vI x2, vJ], []) q.1) q.2) := ((xs_ildn k106_196 rfl).trans ((xs_ic k106_197 (by omega)).trans ((xs_jne k106_198).trans (px_ite (fun c1 => ((xs_aldn k106_201 rfl).trans ((xs_get4 k106_202 (px_s58 L) (Nat.le_of_ble_eq_true rfl) (px_r58_0 hr)).trans ((xs_aldn k106_205 rfl).trans ((xs_get4 k106_206 (px_s58 L) (Nat.le_of_ble_eq_true rfl) (px_r58_8 hr)).trans ((xs_aldn k106_209 rfl).trans ((xs_get0 k106_210 (px_s58 L) (Nat.le_of_ble_eq_true rfl)).trans (xs_callsB k106_213 (as := [vR 67, vI (i 58 9)]) rfl rfl (Nat.le_of_ble_eq_true rfl) (Nat.le_of_ble_eq_true rfl) (Nat.le_of_ble_eq_true rfl))))))))) (fun c1 => ((xs_ildn k106_222 rfl).trans ((xs_bi k106_223 (by omega)).trans ((xs_jge k106_225).trans (px_ite (fun c2 => ((xs_aldn k106_236 rfl).trans ((xs_get0 k106_237 (px_s58 L) (Nat.le_of_ble_eq_true rfl)).trans ((xs_ildn k106_240 rfl).trans ((xs_bi k106_241 (by omega)).trans ((xs_isub k106_243).trans (xs_callsB k106_244 (as := [vI (i 58 11), vI (px_w32 (x2 - 33))]) rfl rfl (Nat.le_of_ble_eq_true rfl) (Nat.le_of_ble_eq_true rfl) (Nat.le_of_ble_eq_true rfl)))))))) (fun c2 => ((xs_aldn k106_228 rfl).trans ((xs_ic k106_229 (by omega)).trans (xs_callvB k106_230 (as := [vI 1]) rfl rfl (Nat.le_of_ble_eq_true rfl) (Nat.le_of_ble_eq_true rfl) (Nat.le_of_ble_eq_true rfl) (px_s58 L) (Nat.le_of_ble_eq_true rfl))))))))))))))
theorem b106_216 (hr : px_hr r) (d : Nat) (i l : MI) (x1 : Int) (x2 : Int) (xs0 : Int) : px_X (d + 1) 106 (216, [vR 58, vI x1, vI x2, vJ], [vI xs0, vR 59]) (px_sh L, i, l, r, t) = (px_C d 135 [vR 59, vI xs0] (px_sh L, i, l, r, t)).bind (fun q => px_X (d + 1) 106 (px_psh (219, [vR 58, vI x1, vI x2, vJ], []) q.1) q.2) := (xs_callvB k106_216 (as := [vI xs0]) rfl rfl (Nat.le_of_ble_eq_true rfl) (Nat.le_of_ble_eq_true rfl) (Nat.le_of_ble_eq_true rfl) (px_s59 L) (Nat.le_of_ble_eq_true rfl))
theorem b106_219 (hr : px_hr r) (d : Nat) (i l : MI) (x1 : Int) (x2 : Int) : px_X d 106 (219, [vR 58, vI x1, vI x2, vJ], []) (px_sh L, i, l, r, t) = px_X d 106 (270, [vR 58, vI x1, vI x2, vJ], []) (px_sh L, i, l, r, t) := (xs_goto k106_219)
theorem b106_233 (hr : px_hr r) (d : Nat) (i l : MI) (x1 : Int) (x2 : Int) : px_X d 106 (233, [vR 58, vI x1, vI x2, vJ], []) (px_sh L, i, l, r, t) = px_X d 106 (270, [vR 58, vI x1, vI x2, vJ], []) (px_sh L, i, l, r, t) := (xs_goto k106_233)
theorem b106_247 (hr : px_hr r) (d : Nat) (i l : MI) (x1 : Int) (x2 : Int) (xs0 : Int) : px_X (d + 1) 106 (247, [vR 58, vI x1, vI x2, vJ], [vI xs0]) (px_sh L, i, l, r, t) = if xs0 = 0 then (px_C d 101 [vR 58, vI 5] (px_sh L, i, l, r, t)).bind (fun q => px_X (d + 1) 106 (px_psh (255, [vR 58, vI x1, vI x2, vJ], []) q.1) q.2) else (px_C d 135 [vR 59, vI (px_w32 (10000 + x2))] (px_sh L, i, l, r, t)).bind (fun q => px_X (d + 1) 106 (px_psh (270, [vR 58, vI x1, vI x2, vJ], []) q.1) q.2) := ((xs_ine k106_247).trans (px_ite (fun c1 => ((xs_aldn k106_250 rfl).trans ((xs_ic k106_251 (by omega)).trans (xs_callvB k106_252 (as := [vI 5]) rfl rfl (Nat.le_of_ble_eq_true rfl) (Nat.le_of_ble_eq_true rfl) (Nat.le_of_ble_eq_true rfl) (px_s58 L) (Nat.le_of_ble_eq_true rfl))))) (fun c1 => ((xs_aldn k106_258 rfl).trans ((xs_get4 k106_259 (px_s58 L) (Nat.le_of_ble_eq_true rfl) (px_r58_0 hr)).trans ((xs_si k106_262 (by omega)).trans ((xs_ildn k106_265 rfl).trans ((xs_iadd k106_266).trans (xs_callvB k106_267 (as := [vI (px_w32 (10000 + x2))]) rfl rfl (Nat.le_of_ble_eq_true rfl) (Nat.le_of_ble_eq_true rfl) (Nat.le_of_ble_eq_true rfl) (px_s59 L) (Nat.le_of_ble_eq_true rfl))))))))))
theorem b106_255 (hr : px_hr r) (d : Nat) (i l : MI) (x1 : Int) (x2 : Int) : px_X d 106 (255, [vR 58, vI x1, vI x2, vJ], []) (px_sh L, i, l, r, t) = px_X d 106 (270, [vR 58, vI x1, vI x2, vJ], []) (px_sh L, i, l, r, t) := (xs_goto k106_255)
theorem b106_270 (hr : px_hr r) (d : Nat) (i l : MI) (x1 : Int) (x2 : Int) : px_X d 106 (270, [vR 58, vI x1, vI x2, vJ], []) (px_sh L, i, l, r, t) = px_X d 106 (282, [vR 58, vI x1, vI x2, vI 0], []) (px_sh L, (px_up i 58 9 (px_w32 ((i 58 9) + 1))), l, r, t) := ((xs_aldn k106_270 rfl).trans ((xs_dup k106_271 rfl).trans ((xs_get0 k106_272 (px_s58 L) (Nat.le_of_ble_eq_true rfl)).trans ((xs_ic k106_275 (by omega)).trans ((xs_iadd k106_276).trans ((xs_put0 k106_277 (Or.inl rfl) (px_s58 L) (Nat.le_of_ble_eq_true rfl)).trans ((xs_ic k106_280 (by omega)).trans (xs_istn k106_281 (Nat.le_of_ble_eq_true rfl) (ls' := [vR 58, vI x1, vI x2, vI 0]) rfl))))))))
theorem b106_282 (hr : px_hr r) (d : Nat) (i l : MI) (x1 : Int) (x2 : Int) (x3 : Int) : px_X (d + 1) 106 (282, [vR 58, vI x1, vI x2, vI x3], []) (px_sh L, i, l, r, t) = if x1 ≤ x3 then some (none, (px_sh L, (px_up i 58 10 (px_w32 ((i 58 10) - x1))), l, r, t)) else (px_C d 135 [vR 59, vI 10020] (px_sh L, i, l, r, t)).bind (fun q => px_X (d + 1) 106 (px_psh (297, [vR 58, vI x1, vI x2, vI x3], []) q.1) q.2) := ((xs_ildn k106_282 rfl).trans ((xs_ildn k106_283 rfl).trans ((xs_jge k106_284).trans (px_ite (fun c1 => ((xs_aldn k106_303 rfl).trans ((xs_dup k106_304 rfl).trans ((xs_get0 k106_305 (px_s58 L) (Nat.le_of_ble_eq_true rfl)).trans ((xs_ildn k106_308 rfl).trans ((xs_isub k106_309).trans ((xs_put0 k106_310 (Or.inl rfl) (px_s58 L) (Nat.le_of_ble_eq_true rfl)).trans (xs_rv k106_313 rfl)))))))) (fun c1 => ((xs_aldn k106_287 rfl).trans ((xs_get4 k106_288 (px_s58 L) (Nat.le_of_ble_eq_true rfl) (px_r58_0 hr)).trans ((xs_si k106_291 (by omega)).trans (xs_callvB k106_294 (as := [vI 10020]) rfl rfl (Nat.le_of_ble_eq_true rfl) (Nat.le_of_ble_eq_true rfl) (Nat.le_of_ble_eq_true rfl) (px_s59 L) (Nat.le_of_ble_eq_true rfl))))))))))
theorem b106_297 (hr : px_hr r) (d : Nat) (i l : MI) (x1 : Int) (x2 : Int) (x3 : Int) : px_X d 106 (297, [vR 58, vI x1, vI x2, vI x3], []) (px_sh L, i, l, r, t) = px_X d 106 (282, [vR 58, vI x1, vI x2, vI (px_w32 (x3 + 1))], []) (px_sh L, i, l, r, t) := ((xs_iinc k106_297 rfl (by omega) (ls' := [vR 58, vI x1, vI x2, vI (px_w32 (x3 + 1))]) rfl).trans (xs_goto k106_300))
end PXL
