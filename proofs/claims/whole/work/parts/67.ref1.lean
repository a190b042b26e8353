/-! Block lemmas, by program (wip/whole/gen_blk.py). -/
theorem k141_0 : px_cod 141 0 = some ((.iload_n 0), 1, [], 0) := rfl
theorem k141_1 : px_cod 141 1 = some ((.iload_n 1), 1, [], 1) := rfl
theorem k141_2 : px_cod 141 2 = some ((.if_icmp .lt 12), 3, [14], 0) := rfl
theorem k141_5 : px_cod 141 5 = some ((.iload_n 0), 1, [], 0) := rfl
theorem k141_6 : px_cod 141 6 = some ((.iload_n 2), 1, [], 2) := rfl
theorem k141_7 : px_cod 141 7 = some ((.if_icmp .gt 7), 3, [14], 0) := rfl
theorem k141_10 : px_cod 141 10 = some ((.iconst 1), 1, [], 1) := rfl
theorem k141_11 : px_cod 141 11 = some ((.goto 4), 3, [15], 0) := rfl
theorem k141_14 : px_cod 141 14 = some ((.iconst 0), 1, [], 0) := rfl
theorem k141_15 : px_cod 141 15 = some (.ireturn, 1, [], 0) := rfl
theorem k142_0 : px_cod 142 0 = some ((.iconst 0), 1, [], 0) := rfl
theorem k142_1 : px_cod 142 1 = some ((.istore_n 2), 1, [], 2) := rfl
theorem k142_2 : px_cod 142 2 = some ((.iload_n 2), 1, [], 2) := rfl
theorem k142_3 : px_cod 142 3 = some ((.sipush 820), 3, [], 820) := rfl
theorem k142_6 : px_cod 142 6 = some ((.if_icmp .ge 40), 3, [46], 0) := rfl
theorem k142_9 : px_cod 142 9 = some ((.iload_n 1), 1, [], 1) := rfl
theorem k142_10 : px_cod 142 10 = some ((.ifCond .eq 18), 3, [28], 0) := rfl
theorem k142_13 : px_cod 142 13 = some ((.aload_n 0), 1, [], 0) := rfl
theorem k142_14 : px_cod 142 14 = some ((.getfield 13), 3, [188, 12, 4, 1], 4) := rfl
theorem k142_17 : px_cod 142 17 = some ((.iload_n 2), 1, [], 2) := rfl
theorem k142_18 : px_cod 142 18 = some ((.aload_n 0), 1, [], 0) := rfl
theorem k142_19 : px_cod 142 19 = some ((.getfield 7), 3, [187, 12, 4, 1], 3) := rfl
theorem k142_22 : px_cod 142 22 = some ((.iload_n 2), 1, [], 2) := rfl
theorem k142_23 : px_cod 142 23 = some (.iaload, 1, [], 0) := rfl
theorem k142_24 : px_cod 142 24 = some (.iastore, 1, [], 0) := rfl
theorem k142_25 : px_cod 142 25 = some ((.goto 15), 3, [40], 0) := rfl
theorem k142_28 : px_cod 142 28 = some ((.aload_n 0), 1, [], 0) := rfl
theorem k142_29 : px_cod 142 29 = some ((.getfield 7), 3, [187, 12, 4, 1], 3) := rfl
theorem k142_32 : px_cod 142 32 = some ((.iload_n 2), 1, [], 2) := rfl
theorem k142_33 : px_cod 142 33 = some ((.aload_n 0), 1, [], 0) := rfl
theorem k142_34 : px_cod 142 34 = some ((.getfield 13), 3, [188, 12, 4, 1], 4) := rfl
theorem k142_37 : px_cod 142 37 = some ((.iload_n 2), 1, [], 2) := rfl
theorem k142_38 : px_cod 142 38 = some (.iaload, 1, [], 0) := rfl
theorem k142_39 : px_cod 142 39 = some (.iastore, 1, [], 0) := rfl
theorem k142_40 : px_cod 142 40 = some ((.iinc 2 1), 3, [2], 1) := rfl
theorem k142_43 : px_cod 142 43 = some ((.goto (-41)), 3, [2], 0) := rfl
theorem k142_46 : px_cod 142 46 = some (.return_, 1, [], 0) := rfl
theorem k143_0 : px_cod 143 0 = some ((.iload_n 1), 1, [], 1) := rfl
theorem k143_1 : px_cod 143 1 = some ((.iconst 0), 1, [], 0) := rfl
theorem k143_2 : px_cod 143 2 = some ((.aload_n 0), 1, [], 0) := rfl
theorem k143_3 : px_cod 143 3 = some ((.getfield 131), 3, [186, 12, 0, 1], 2) := rfl
theorem k143_6 : px_cod 143 6 = some ((.iconst 1), 1, [], 1) := rfl
theorem k143_7 : px_cod 143 7 = some (.isub, 1, [], 0) := rfl
theorem k143_8 : px_cod 143 8 = some ((.invokestatic 138), 3, [0, 209, 141], 0) := rfl
theorem k143_11 : px_cod 143 11 = some (.ireturn, 1, [], 0) := rfl
theorem k144_0 : px_cod 144 0 = some ((.iload_n 1), 1, [], 1) := rfl
theorem k144_1 : px_cod 144 1 = some ((.iconst 0), 1, [], 0) := rfl
theorem k144_2 : px_cod 144 2 = some ((.aload_n 0), 1, [], 0) := rfl
theorem k144_3 : px_cod 144 3 = some ((.getfield 7), 3, [187, 12, 4, 1], 3) := rfl
theorem k144_6 : px_cod 144 6 = some ((.iconst 4), 1, [], 4) := rfl
theorem k144_7 : px_cod 144 7 = some (.iaload, 1, [], 0) := rfl
theorem k144_8 : px_cod 144 8 = some ((.iconst 1), 1, [], 1) := rfl
theorem k144_9 : px_cod 144 9 = some (.isub, 1, [], 0) := rfl
theorem k144_10 : px_cod 144 10 = some ((.invokestatic 138), 3, [0, 209, 141], 0) := rfl
theorem k144_13 : px_cod 144 13 = some (.ireturn, 1, [], 0) := rfl
theorem k145_0 : px_cod 145 0 = some ((.iload_n 0), 1, [], 0) := rfl
theorem k145_1 : px_cod 145 1 = some ((.iconst 0), 1, [], 0) := rfl
theorem k145_2 : px_cod 145 2 = some ((.sipush 1439), 3, [], 1439) := rfl
theorem k145_5 : px_cod 145 5 = some ((.invokestatic 138), 3, [0, 209, 141], 0) := rfl
theorem k145_8 : px_cod 145 8 = some (.ireturn, 1, [], 0) := rfl
theorem k146_0 : px_cod 146 0 = some ((.aload_n 0), 1, [], 0) := rfl
theorem k146_1 : px_cod 146 1 = some ((.getfield 7), 3, [187, 12, 4, 1], 3) := rfl
theorem k146_4 : px_cod 146 4 = some ((.bipush 120), 2, [], 120) := rfl
theorem k146_6 : px_cod 146 6 = some ((.bipush 14), 2, [], 14) := rfl
theorem k146_8 : px_cod 146 8 = some ((.iload_n 1), 1, [], 1) := rfl
theorem k146_9 : px_cod 146 9 = some (.imul, 1, [], 0) := rfl
theorem k146_10 : px_cod 146 10 = some (.iadd, 1, [], 0) := rfl
theorem k146_11 : px_cod 146 11 = some ((.iload_n 2), 1, [], 2) := rfl
theorem k146_12 : px_cod 146 12 = some (.iadd, 1, [], 0) := rfl
theorem k146_13 : px_cod 146 13 = some (.iaload, 1, [], 0) := rfl
theorem k146_14 : px_cod 146 14 = some (.ireturn, 1, [], 0) := rfl
theorem k147_0 : px_cod 147 0 = some ((.aload_n 0), 1, [], 0) := rfl
theorem k147_1 : px_cod 147 1 = some ((.iload_n 1), 1, [], 1) := rfl
theorem k147_2 : px_cod 147 2 = some ((.invokevirtual 142), 3, [0, 208, 143], 0) := rfl
theorem k147_5 : px_cod 147 5 = some ((.ifCond .eq 13), 3, [18], 0) := rfl
theorem k147_8 : px_cod 147 8 = some ((.iload_n 2), 1, [], 2) := rfl
theorem k147_9 : px_cod 147 9 = some ((.iconst 0), 1, [], 0) := rfl
theorem k147_10 : px_cod 147 10 = some ((.bipush 99), 2, [], 99) := rfl
theorem k147_12 : px_cod 147 12 = some ((.invokestatic 138), 3, [0, 209, 141], 0) := rfl
theorem k147_15 : px_cod 147 15 = some ((.ifCond .ne 5), 3, [20], 0) := rfl
theorem k147_18 : px_cod 147 18 = some ((.iconst 0), 1, [], 0) := rfl
theorem k147_19 : px_cod 147 19 = some (.ireturn, 1, [], 0) := rfl
theorem k147_20 : px_cod 147 20 = some ((.aload_n 0), 1, [], 0) := rfl
theorem k147_21 : px_cod 147 21 = some ((.getfield 7), 3, [187, 12, 4, 1], 3) := rfl
theorem k147_24 : px_cod 147 24 = some ((.bipush 20), 2, [], 20) := rfl
theorem k147_26 : px_cod 147 26 = some ((.iconst 2), 1, [], 2) := rfl
theorem k147_27 : px_cod 147 27 = some ((.iload_n 1), 1, [], 1) := rfl
theorem k147_28 : px_cod 147 28 = some (.imul, 1, [], 0) := rfl
theorem k147_29 : px_cod 147 29 = some (.iadd, 1, [], 0) := rfl
theorem k147_30 : px_cod 147 30 = some ((.iload_n 2), 1, [], 2) := rfl
theorem k147_31 : px_cod 147 31 = some (.iastore, 1, [], 0) := rfl
theorem k147_32 : px_cod 147 32 = some ((.aload_n 0), 1, [], 0) := rfl
theorem k147_33 : px_cod 147 33 = some ((.getfield 7), 3, [187, 12, 4, 1], 3) := rfl
theorem k147_36 : px_cod 147 36 = some ((.bipush 20), 2, [], 20) := rfl
theorem k147_38 : px_cod 147 38 = some ((.iconst 2), 1, [], 2) := rfl
theorem k147_39 : px_cod 147 39 = some ((.iload_n 1), 1, [], 1) := rfl
theorem k147_40 : px_cod 147 40 = some (.imul, 1, [], 0) := rfl
theorem k147_41 : px_cod 147 41 = some (.iadd, 1, [], 0) := rfl
theorem k147_42 : px_cod 147 42 = some ((.iconst 1), 1, [], 1) := rfl
theorem k147_43 : px_cod 147 43 = some (.iadd, 1, [], 0) := rfl
theorem k147_44 : px_cod 147 44 = some ((.iload_n 3), 1, [], 3) := rfl
theorem k147_45 : px_cod 147 45 = some ((.ifCond .eq 7), 3, [52], 0) := rfl
theorem k147_48 : px_cod 147 48 = some ((.iconst 1), 1, [], 1) := rfl
theorem k147_49 : px_cod 147 49 = some ((.goto 4), 3, [53], 0) := rfl
theorem k147_52 : px_cod 147 52 = some ((.iconst 0), 1, [], 0) := rfl
theorem k147_53 : px_cod 147 53 = some (.iastore, 1, [], 0) := rfl
theorem k147_54 : px_cod 147 54 = some ((.iconst 1), 1, [], 1) := rfl
theorem k147_55 : px_cod 147 55 = some (.ireturn, 1, [], 0) := rfl
theorem k148_0 : px_cod 148 0 = some ((.aload_n 0), 1, [], 0) := rfl
theorem k148_1 : px_cod 148 1 = some ((.iload_n 1), 1, [], 1) := rfl
theorem k148_2 : px_cod 148 2 = some ((.invokevirtual 142), 3, [0, 208, 143], 0) := rfl
theorem k148_5 : px_cod 148 5 = some ((.ifCond .ne 5), 3, [10], 0) := rfl
theorem k148_8 : px_cod 148 8 = some ((.iconst 0), 1, [], 0) := rfl
theorem k148_9 : px_cod 148 9 = some (.ireturn, 1, [], 0) := rfl
theorem k148_10 : px_cod 148 10 = some ((.aload_n 0), 1, [], 0) := rfl
theorem k148_11 : px_cod 148 11 = some ((.getfield 7), 3, [187, 12, 4, 1], 3) := rfl
theorem k148_14 : px_cod 148 14 = some ((.iconst 0), 1, [], 0) := rfl
theorem k148_15 : px_cod 148 15 = some ((.iload_n 1), 1, [], 1) := rfl
theorem k148_16 : px_cod 148 16 = some (.iastore, 1, [], 0) := rfl
theorem k148_17 : px_cod 148 17 = some ((.iconst 1), 1, [], 1) := rfl
theorem k148_18 : px_cod 148 18 = some (.ireturn, 1, [], 0) := rfl
theorem k149_0 : px_cod 149 0 = some ((.iload_n 1), 1, [], 1) := rfl
theorem k149_1 : px_cod 149 1 = some ((.bipush (-9)), 2, [], (-9)) := rfl
theorem k149_3 : px_cod 149 3 = some ((.bipush 9), 2, [], 9) := rfl
theorem k149_5 : px_cod 149 5 = some ((.invokestatic 138), 3, [0, 209, 141], 0) := rfl
theorem k149_8 : px_cod 149 8 = some ((.ifCond .eq 13), 3, [21], 0) := rfl
theorem k149_11 : px_cod 149 11 = some ((.iload_n 2), 1, [], 2) := rfl
theorem k149_12 : px_cod 149 12 = some ((.iconst 0), 1, [], 0) := rfl
theorem k149_13 : px_cod 149 13 = some ((.bipush 9), 2, [], 9) := rfl
theorem k149_15 : px_cod 149 15 = some ((.invokestatic 138), 3, [0, 209, 141], 0) := rfl
theorem k149_18 : px_cod 149 18 = some ((.ifCond .ne 5), 3, [23], 0) := rfl
theorem k149_21 : px_cod 149 21 = some ((.iconst 0), 1, [], 0) := rfl
theorem k149_22 : px_cod 149 22 = some (.ireturn, 1, [], 0) := rfl
theorem k149_23 : px_cod 149 23 = some ((.aload_n 0), 1, [], 0) := rfl
theorem k149_24 : px_cod 149 24 = some ((.getfield 7), 3, [187, 12, 4, 1], 3) := rfl
theorem k149_27 : px_cod 149 27 = some ((.iconst 1), 1, [], 1) := rfl
theorem k149_28 : px_cod 149 28 = some ((.iload_n 1), 1, [], 1) := rfl
theorem k149_29 : px_cod 149 29 = some (.iastore, 1, [], 0) := rfl
theorem k149_30 : px_cod 149 30 = some ((.aload_n 0), 1, [], 0) := rfl
theorem k149_31 : px_cod 149 31 = some ((.getfield 7), 3, [187, 12, 4, 1], 3) := rfl
theorem k149_34 : px_cod 149 34 = some ((.iconst 2), 1, [], 2) := rfl
theorem k149_35 : px_cod 149 35 = some ((.iload_n 2), 1, [], 2) := rfl
theorem k149_36 : px_cod 149 36 = some (.iastore, 1, [], 0) := rfl
theorem k149_37 : px_cod 149 37 = some ((.iconst 1), 1, [], 1) := rfl
theorem k149_38 : px_cod 149 38 = some (.ireturn, 1, [], 0) := rfl
theorem k150_0 : px_cod 150 0 = some ((.iload_n 1), 1, [], 1) := rfl
theorem k150_1 : px_cod 150 1 = some ((.iconst 0), 1, [], 0) := rfl
theorem k150_2 : px_cod 150 2 = some ((.bipush 99), 2, [], 99) := rfl
theorem k150_4 : px_cod 150 4 = some ((.invokestatic 138), 3, [0, 209, 141], 0) := rfl
theorem k150_7 : px_cod 150 7 = some ((.ifCond .eq 23), 3, [30], 0) := rfl
theorem k150_10 : px_cod 150 10 = some ((.iload_n 2), 1, [], 2) := rfl
theorem k150_11 : px_cod 150 11 = some ((.iconst 1), 1, [], 1) := rfl
theorem k150_12 : px_cod 150 12 = some ((.iconst 4), 1, [], 4) := rfl
theorem k150_13 : px_cod 150 13 = some ((.invokestatic 138), 3, [0, 209, 141], 0) := rfl
theorem k150_16 : px_cod 150 16 = some ((.ifCond .eq 14), 3, [30], 0) := rfl
theorem k150_19 : px_cod 150 19 = some ((.aload_n 0), 1, [], 0) := rfl
theorem k150_20 : px_cod 150 20 = some ((.getfield 7), 3, [187, 12, 4, 1], 3) := rfl
theorem k150_23 : px_cod 150 23 = some ((.iconst 3), 1, [], 3) := rfl
theorem k150_24 : px_cod 150 24 = some (.iaload, 1, [], 0) := rfl
theorem k150_25 : px_cod 150 25 = some ((.bipush 8), 2, [], 8) := rfl
theorem k150_27 : px_cod 150 27 = some ((.if_icmp .ne 5), 3, [32], 0) := rfl
theorem k150_30 : px_cod 150 30 = some ((.iconst (-1)), 1, [], (-1)) := rfl
theorem k150_31 : px_cod 150 31 = some (.ireturn, 1, [], 0) := rfl
theorem k150_32 : px_cod 150 32 = some ((.aload_n 0), 1, [], 0) := rfl
theorem k150_33 : px_cod 150 33 = some ((.getfield 7), 3, [187, 12, 4, 1], 3) := rfl
theorem k150_36 : px_cod 150 36 = some ((.bipush 100), 2, [], 100) := rfl
theorem k150_38 : px_cod 150 38 = some ((.iconst 2), 1, [], 2) := rfl
theorem k150_39 : px_cod 150 39 = some ((.aload_n 0), 1, [], 0) := rfl
theorem k150_40 : px_cod 150 40 = some ((.getfield 7), 3, [187, 12, 4, 1], 3) := rfl
theorem k150_43 : px_cod 150 43 = some ((.iconst 3), 1, [], 3) := rfl
theorem k150_44 : px_cod 150 44 = some (.iaload, 1, [], 0) := rfl
theorem k150_45 : px_cod 150 45 = some (.imul, 1, [], 0) := rfl
theorem k150_46 : px_cod 150 46 = some (.iadd, 1, [], 0) := rfl
theorem k150_47 : px_cod 150 47 = some ((.iload_n 1), 1, [], 1) := rfl
theorem k150_48 : px_cod 150 48 = some (.iastore, 1, [], 0) := rfl
theorem k150_49 : px_cod 150 49 = some ((.aload_n 0), 1, [], 0) := rfl
theorem k150_50 : px_cod 150 50 = some ((.getfield 7), 3, [187, 12, 4, 1], 3) := rfl
theorem k150_53 : px_cod 150 53 = some ((.bipush 100), 2, [], 100) := rfl
theorem k150_55 : px_cod 150 55 = some ((.iconst 2), 1, [], 2) := rfl
theorem k150_56 : px_cod 150 56 = some ((.aload_n 0), 1, [], 0) := rfl
theorem k150_57 : px_cod 150 57 = some ((.getfield 7), 3, [187, 12, 4, 1], 3) := rfl
theorem k150_60 : px_cod 150 60 = some ((.iconst 3), 1, [], 3) := rfl
theorem k150_61 : px_cod 150 61 = some (.iaload, 1, [], 0) := rfl
theorem k150_62 : px_cod 150 62 = some (.imul, 1, [], 0) := rfl
theorem k150_63 : px_cod 150 63 = some (.iadd, 1, [], 0) := rfl
theorem k150_64 : px_cod 150 64 = some ((.iconst 1), 1, [], 1) := rfl
theorem k150_65 : px_cod 150 65 = some (.iadd, 1, [], 0) := rfl
theorem k150_66 : px_cod 150 66 = some ((.iload_n 2), 1, [], 2) := rfl
theorem k150_67 : px_cod 150 67 = some (.iastore, 1, [], 0) := rfl
theorem k150_68 : px_cod 150 68 = some ((.aload_n 0), 1, [], 0) := rfl
theorem k150_69 : px_cod 150 69 = some ((.getfield 7), 3, [187, 12, 4, 1], 3) := rfl
theorem k150_72 : px_cod 150 72 = some ((.iconst 3), 1, [], 3) := rfl
theorem k150_73 : px_cod 150 73 = some (.dup2, 1, [], 0) := rfl
theorem k150_74 : px_cod 150 74 = some (.iaload, 1, [], 0) := rfl
theorem k150_75 : px_cod 150 75 = some ((.iconst 1), 1, [], 1) := rfl
theorem k150_76 : px_cod 150 76 = some (.iadd, 1, [], 0) := rfl
theorem k150_77 : px_cod 150 77 = some (.iastore, 1, [], 0) := rfl
theorem k150_78 : px_cod 150 78 = some ((.aload_n 0), 1, [], 0) := rfl
theorem k150_79 : px_cod 150 79 = some ((.getfield 7), 3, [187, 12, 4, 1], 3) := rfl
theorem k150_82 : px_cod 150 82 = some ((.iconst 3), 1, [], 3) := rfl
theorem k150_83 : px_cod 150 83 = some (.iaload, 1, [], 0) := rfl
theorem k150_84 : px_cod 150 84 = some ((.iconst 1), 1, [], 1) := rfl
theorem k150_85 : px_cod 150 85 = some (.isub, 1, [], 0) := rfl
theorem k150_86 : px_cod 150 86 = some (.ireturn, 1, [], 0) := rfl
theorem k151_0 : px_cod 151 0 = some ((.iload_n 1), 1, [], 1) := rfl
theorem k151_1 : px_cod 151 1 = some ((.iconst 0), 1, [], 0) := rfl
theorem k151_2 : px_cod 151 2 = some ((.bipush 9), 2, [], 9) := rfl
theorem k151_4 : px_cod 151 4 = some ((.invokestatic 138), 3, [0, 209, 141], 0) := rfl
theorem k151_7 : px_cod 151 7 = some ((.ifCond .eq 61), 3, [68], 0) := rfl
theorem k151_10 : px_cod 151 10 = some ((.iload_n 2), 1, [], 2) := rfl
theorem k151_11 : px_cod 151 11 = some ((.iconst 0), 1, [], 0) := rfl
theorem k151_12 : px_cod 151 12 = some ((.bipush 30), 2, [], 30) := rfl
theorem k151_14 : px_cod 151 14 = some ((.invokestatic 138), 3, [0, 209, 141], 0) := rfl
theorem k151_17 : px_cod 151 17 = some ((.ifCond .eq 51), 3, [68], 0) := rfl
theorem k151_20 : px_cod 151 20 = some ((.iload 4), 2, [], 4) := rfl
theorem k151_22 : px_cod 151 22 = some ((.iconst 0), 1, [], 0) := rfl
theorem k151_23 : px_cod 151 23 = some ((.bipush 9), 2, [], 9) := rfl
theorem k151_25 : px_cod 151 25 = some ((.invokestatic 138), 3, [0, 209, 141], 0) := rfl
theorem k151_28 : px_cod 151 28 = some ((.ifCond .eq 40), 3, [68], 0) := rfl
theorem k151_31 : px_cod 151 31 = some ((.iload 5), 2, [], 5) := rfl
theorem k151_33 : px_cod 151 33 = some ((.iconst 0), 1, [], 0) := rfl
theorem k151_34 : px_cod 151 34 = some ((.bipush 9), 2, [], 9) := rfl
theorem k151_36 : px_cod 151 36 = some ((.invokestatic 138), 3, [0, 209, 141], 0) := rfl
theorem k151_39 : px_cod 151 39 = some ((.ifCond .eq 29), 3, [68], 0) := rfl
theorem k151_42 : px_cod 151 42 = some ((.iload 6), 2, [], 6) := rfl
theorem k151_44 : px_cod 151 44 = some ((.iconst 1), 1, [], 1) := rfl
theorem k151_45 : px_cod 151 45 = some ((.bipush 20), 2, [], 20) := rfl
theorem k151_47 : px_cod 151 47 = some ((.invokestatic 138), 3, [0, 209, 141], 0) := rfl
theorem k151_50 : px_cod 151 50 = some ((.ifCond .eq 18), 3, [68], 0) := rfl
theorem k151_53 : px_cod 151 53 = some ((.iload 7), 2, [], 7) := rfl
theorem k151_55 : px_cod 151 55 = some ((.iconst 0), 1, [], 0) := rfl
theorem k151_56 : px_cod 151 56 = some ((.bipush 30), 2, [], 30) := rfl
theorem k151_58 : px_cod 151 58 = some ((.invokestatic 138), 3, [0, 209, 141], 0) := rfl
theorem k151_61 : px_cod 151 61 = some ((.ifCond .eq 7), 3, [68], 0) := rfl
theorem k151_64 : px_cod 151 64 = some ((.iconst 1), 1, [], 1) := rfl
theorem k151_65 : px_cod 151 65 = some ((.goto 4), 3, [69], 0) := rfl
theorem k151_68 : px_cod 151 68 = some ((.iconst 0), 1, [], 0) := rfl
theorem k151_69 : px_cod 151 69 = some ((.istore 8), 2, [], 8) := rfl
theorem k151_71 : px_cod 151 71 = some ((.iload 8), 2, [], 8) := rfl
theorem k151_73 : px_cod 151 73 = some ((.ifCond .eq 14), 3, [87], 0) := rfl
theorem k151_76 : px_cod 151 76 = some ((.aload_n 0), 1, [], 0) := rfl
theorem k151_77 : px_cod 151 77 = some ((.getfield 7), 3, [187, 12, 4, 1], 3) := rfl
theorem k151_80 : px_cod 151 80 = some ((.iconst 4), 1, [], 4) := rfl
theorem k151_81 : px_cod 151 81 = some (.iaload, 1, [], 0) := rfl
theorem k151_82 : px_cod 151 82 = some ((.bipush 10), 2, [], 10) := rfl
theorem k151_84 : px_cod 151 84 = some ((.if_icmp .ne 5), 3, [89], 0) := rfl
theorem k151_87 : px_cod 151 87 = some ((.iconst (-1)), 1, [], (-1)) := rfl
theorem k151_88 : px_cod 151 88 = some (.ireturn, 1, [], 0) := rfl
theorem k151_89 : px_cod 151 89 = some ((.bipush 120), 2, [], 120) := rfl
theorem k151_91 : px_cod 151 91 = some ((.bipush 14), 2, [], 14) := rfl
theorem k151_93 : px_cod 151 93 = some ((.aload_n 0), 1, [], 0) := rfl
theorem k151_94 : px_cod 151 94 = some ((.getfield 7), 3, [187, 12, 4, 1], 3) := rfl
theorem k151_97 : px_cod 151 97 = some ((.iconst 4), 1, [], 4) := rfl
theorem k151_98 : px_cod 151 98 = some (.iaload, 1, [], 0) := rfl
theorem k151_99 : px_cod 151 99 = some (.imul, 1, [], 0) := rfl
theorem k151_100 : px_cod 151 100 = some (.iadd, 1, [], 0) := rfl
theorem k151_101 : px_cod 151 101 = some ((.istore 9), 2, [], 9) := rfl
theorem k151_103 : px_cod 151 103 = some ((.iconst 0), 1, [], 0) := rfl
theorem k151_104 : px_cod 151 104 = some ((.istore 10), 2, [], 10) := rfl
theorem k151_106 : px_cod 151 106 = some ((.iload 10), 2, [], 10) := rfl
theorem k151_108 : px_cod 151 108 = some ((.bipush 14), 2, [], 14) := rfl
theorem k151_110 : px_cod 151 110 = some ((.if_icmp .ge 20), 3, [130], 0) := rfl
theorem k151_113 : px_cod 151 113 = some ((.aload_n 0), 1, [], 0) := rfl
theorem k151_114 : px_cod 151 114 = some ((.getfield 7), 3, [187, 12, 4, 1], 3) := rfl
theorem k151_117 : px_cod 151 117 = some ((.iload 9), 2, [], 9) := rfl
theorem k151_119 : px_cod 151 119 = some ((.iload 10), 2, [], 10) := rfl
theorem k151_121 : px_cod 151 121 = some (.iadd, 1, [], 0) := rfl
theorem k151_122 : px_cod 151 122 = some ((.iconst 0), 1, [], 0) := rfl
theorem k151_123 : px_cod 151 123 = some (.iastore, 1, [], 0) := rfl
theorem k151_124 : px_cod 151 124 = some ((.iinc 10 1), 3, [10], 1) := rfl
theorem k151_127 : px_cod 151 127 = some ((.goto (-21)), 3, [106], 0) := rfl
theorem k151_130 : px_cod 151 130 = some ((.aload_n 0), 1, [], 0) := rfl
theorem k151_131 : px_cod 151 131 = some ((.getfield 7), 3, [187, 12, 4, 1], 3) := rfl
theorem k151_134 : px_cod 151 134 = some ((.iload 9), 2, [], 9) := rfl
theorem k151_136 : px_cod 151 136 = some ((.iconst 0), 1, [], 0) := rfl
theorem k151_137 : px_cod 151 137 = some (.iadd, 1, [], 0) := rfl
theorem k151_138 : px_cod 151 138 = some ((.iload_n 1), 1, [], 1) := rfl
theorem k151_139 : px_cod 151 139 = some (.iastore, 1, [], 0) := rfl
theorem k151_140 : px_cod 151 140 = some ((.aload_n 0), 1, [], 0) := rfl
theorem k151_141 : px_cod 151 141 = some ((.getfield 7), 3, [187, 12, 4, 1], 3) := rfl
theorem k151_144 : px_cod 151 144 = some ((.iload 9), 2, [], 9) := rfl
theorem k151_146 : px_cod 151 146 = some ((.iconst 1), 1, [], 1) := rfl
theorem k151_147 : px_cod 151 147 = some (.iadd, 1, [], 0) := rfl
theorem k151_148 : px_cod 151 148 = some ((.iload_n 2), 1, [], 2) := rfl
theorem k151_149 : px_cod 151 149 = some (.iastore, 1, [], 0) := rfl
theorem k151_150 : px_cod 151 150 = some ((.aload_n 0), 1, [], 0) := rfl
theorem k151_151 : px_cod 151 151 = some ((.getfield 7), 3, [187, 12, 4, 1], 3) := rfl
theorem k151_154 : px_cod 151 154 = some ((.iload 9), 2, [], 9) := rfl
theorem k151_156 : px_cod 151 156 = some ((.iconst 2), 1, [], 2) := rfl
theorem k151_157 : px_cod 151 157 = some (.iadd, 1, [], 0) := rfl
theorem k151_158 : px_cod 151 158 = some ((.iload_n 3), 1, [], 3) := rfl
theorem k151_159 : px_cod 151 159 = some ((.ifCond .eq 7), 3, [166], 0) := rfl
theorem k151_162 : px_cod 151 162 = some ((.iconst 1), 1, [], 1) := rfl
theorem k151_163 : px_cod 151 163 = some ((.goto 4), 3, [167], 0) := rfl
theorem k151_166 : px_cod 151 166 = some ((.iconst 0), 1, [], 0) := rfl
theorem k151_167 : px_cod 151 167 = some (.iastore, 1, [], 0) := rfl
theorem k151_168 : px_cod 151 168 = some ((.aload_n 0), 1, [], 0) := rfl
theorem k151_169 : px_cod 151 169 = some ((.getfield 7), 3, [187, 12, 4, 1], 3) := rfl
theorem k151_172 : px_cod 151 172 = some ((.iload 9), 2, [], 9) := rfl
theorem k151_174 : px_cod 151 174 = some ((.iconst 3), 1, [], 3) := rfl
theorem k151_175 : px_cod 151 175 = some (.iadd, 1, [], 0) := rfl
theorem k151_176 : px_cod 151 176 = some ((.iload 4), 2, [], 4) := rfl
theorem k151_178 : px_cod 151 178 = some (.iastore, 1, [], 0) := rfl
theorem k151_179 : px_cod 151 179 = some ((.aload_n 0), 1, [], 0) := rfl
theorem k151_180 : px_cod 151 180 = some ((.getfield 7), 3, [187, 12, 4, 1], 3) := rfl
theorem k151_183 : px_cod 151 183 = some ((.iload 9), 2, [], 9) := rfl
theorem k151_185 : px_cod 151 185 = some ((.iconst 4), 1, [], 4) := rfl
theorem k151_186 : px_cod 151 186 = some (.iadd, 1, [], 0) := rfl
theorem k151_187 : px_cod 151 187 = some ((.iload 5), 2, [], 5) := rfl
theorem k151_189 : px_cod 151 189 = some (.iastore, 1, [], 0) := rfl
theorem k151_190 : px_cod 151 190 = some ((.aload_n 0), 1, [], 0) := rfl
theorem k151_191 : px_cod 151 191 = some ((.getfield 7), 3, [187, 12, 4, 1], 3) := rfl
theorem k151_194 : px_cod 151 194 = some ((.iload 9), 2, [], 9) := rfl
theorem k151_196 : px_cod 151 196 = some ((.iconst 5), 1, [], 5) := rfl
theorem k151_197 : px_cod 151 197 = some (.iadd, 1, [], 0) := rfl
theorem k151_198 : px_cod 151 198 = some ((.iload 6), 2, [], 6) := rfl
theorem k151_200 : px_cod 151 200 = some (.iastore, 1, [], 0) := rfl
theorem k151_201 : px_cod 151 201 = some ((.aload_n 0), 1, [], 0) := rfl
theorem k151_202 : px_cod 151 202 = some ((.getfield 7), 3, [187, 12, 4, 1], 3) := rfl
theorem k151_205 : px_cod 151 205 = some ((.iload 9), 2, [], 9) := rfl
theorem k151_207 : px_cod 151 207 = some ((.bipush 6), 2, [], 6) := rfl
theorem k151_209 : px_cod 151 209 = some (.iadd, 1, [], 0) := rfl
theorem k151_210 : px_cod 151 210 = some ((.iload 7), 2, [], 7) := rfl
theorem k151_212 : px_cod 151 212 = some (.iastore, 1, [], 0) := rfl
theorem k151_213 : px_cod 151 213 = some ((.aload_n 0), 1, [], 0) := rfl
theorem k151_214 : px_cod 151 214 = some ((.getfield 7), 3, [187, 12, 4, 1], 3) := rfl
theorem k151_217 : px_cod 151 217 = some ((.iload 9), 2, [], 9) := rfl
theorem k151_219 : px_cod 151 219 = some ((.bipush 8), 2, [], 8) := rfl
theorem k151_221 : px_cod 151 221 = some (.iadd, 1, [], 0) := rfl
theorem k151_222 : px_cod 151 222 = some ((.iconst 1), 1, [], 1) := rfl
theorem k151_223 : px_cod 151 223 = some (.iastore, 1, [], 0) := rfl
theorem k151_224 : px_cod 151 224 = some ((.aload_n 0), 1, [], 0) := rfl
theorem k151_225 : px_cod 151 225 = some ((.getfield 7), 3, [187, 12, 4, 1], 3) := rfl
theorem k151_228 : px_cod 151 228 = some ((.iconst 4), 1, [], 4) := rfl
theorem k151_229 : px_cod 151 229 = some (.dup2, 1, [], 0) := rfl
theorem k151_230 : px_cod 151 230 = some (.iaload, 1, [], 0) := rfl
theorem k151_231 : px_cod 151 231 = some ((.iconst 1), 1, [], 1) := rfl
theorem k151_232 : px_cod 151 232 = some (.iadd, 1, [], 0) := rfl
theorem k151_233 : px_cod 151 233 = some (.iastore, 1, [], 0) := rfl
theorem k151_234 : px_cod 151 234 = some ((.aload_n 0), 1, [], 0) := rfl
theorem k151_235 : px_cod 151 235 = some ((.getfield 7), 3, [187, 12, 4, 1], 3) := rfl
theorem k151_238 : px_cod 151 238 = some ((.iconst 4), 1, [], 4) := rfl
theorem k151_239 : px_cod 151 239 = some (.iaload, 1, [], 0) := rfl
theorem k151_240 : px_cod 151 240 = some ((.iconst 1), 1, [], 1) := rfl
theorem k151_241 : px_cod 151 241 = some (.isub, 1, [], 0) := rfl
theorem k151_242 : px_cod 151 242 = some (.ireturn, 1, [], 0) := rfl
theorem k152_0 : px_cod 152 0 = some ((.aload_n 0), 1, [], 0) := rfl
theorem k152_1 : px_cod 152 1 = some ((.iload_n 1), 1, [], 1) := rfl
theorem k152_2 : px_cod 152 2 = some ((.invokevirtual 146), 3, [0, 215, 144], 0) := rfl
theorem k152_5 : px_cod 152 5 = some ((.ifCond .eq 13), 3, [18], 0) := rfl
theorem k152_8 : px_cod 152 8 = some ((.iload_n 2), 1, [], 2) := rfl
theorem k152_9 : px_cod 152 9 = some ((.iconst 0), 1, [], 0) := rfl
theorem k152_10 : px_cod 152 10 = some ((.bipush 99), 2, [], 99) := rfl
theorem k152_12 : px_cod 152 12 = some ((.invokestatic 138), 3, [0, 209, 141], 0) := rfl
theorem k152_15 : px_cod 152 15 = some ((.ifCond .ne 5), 3, [20], 0) := rfl
theorem k152_18 : px_cod 152 18 = some ((.iconst 0), 1, [], 0) := rfl
theorem k152_19 : px_cod 152 19 = some (.ireturn, 1, [], 0) := rfl
theorem k152_20 : px_cod 152 20 = some ((.aload_n 0), 1, [], 0) := rfl
theorem k152_21 : px_cod 152 21 = some ((.getfield 7), 3, [187, 12, 4, 1], 3) := rfl
theorem k152_24 : px_cod 152 24 = some ((.bipush 120), 2, [], 120) := rfl
theorem k152_26 : px_cod 152 26 = some ((.bipush 14), 2, [], 14) := rfl
theorem k152_28 : px_cod 152 28 = some ((.iload_n 1), 1, [], 1) := rfl
theorem k152_29 : px_cod 152 29 = some (.imul, 1, [], 0) := rfl
theorem k152_30 : px_cod 152 30 = some (.iadd, 1, [], 0) := rfl
theorem k152_31 : px_cod 152 31 = some ((.bipush 7), 2, [], 7) := rfl
theorem k152_33 : px_cod 152 33 = some (.iadd, 1, [], 0) := rfl
theorem k152_34 : px_cod 152 34 = some ((.iload_n 2), 1, [], 2) := rfl
theorem k152_35 : px_cod 152 35 = some (.iastore, 1, [], 0) := rfl
theorem k152_36 : px_cod 152 36 = some ((.aload_n 0), 1, [], 0) := rfl
theorem k152_37 : px_cod 152 37 = some ((.getfield 7), 3, [187, 12, 4, 1], 3) := rfl
theorem k152_40 : px_cod 152 40 = some ((.bipush 120), 2, [], 120) := rfl
theorem k152_42 : px_cod 152 42 = some ((.bipush 14), 2, [], 14) := rfl
theorem k152_44 : px_cod 152 44 = some ((.iload_n 1), 1, [], 1) := rfl
theorem k152_45 : px_cod 152 45 = some (.imul, 1, [], 0) := rfl
theorem k152_46 : px_cod 152 46 = some (.iadd, 1, [], 0) := rfl
theorem k152_47 : px_cod 152 47 = some ((.bipush 8), 2, [], 8) := rfl
theorem k152_49 : px_cod 152 49 = some (.iadd, 1, [], 0) := rfl
theorem k152_50 : px_cod 152 50 = some ((.iload_n 3), 1, [], 3) := rfl
theorem k152_51 : px_cod 152 51 = some ((.ifCond .eq 7), 3, [58], 0) := rfl
theorem k152_54 : px_cod 152 54 = some ((.iconst 1), 1, [], 1) := rfl
theorem k152_55 : px_cod 152 55 = some ((.goto 4), 3, [59], 0) := rfl
theorem k152_58 : px_cod 152 58 = some ((.iconst 0), 1, [], 0) := rfl
theorem k152_59 : px_cod 152 59 = some (.iastore, 1, [], 0) := rfl
theorem k152_60 : px_cod 152 60 = some ((.iconst 1), 1, [], 1) := rfl
theorem k152_61 : px_cod 152 61 = some (.ireturn, 1, [], 0) := rfl
theorem k153_0 : px_cod 153 0 = some ((.bipush 24), 2, [], 24) := rfl
theorem k153_2 : px_cod 153 2 = some ((.istore_n 2), 1, [], 2) := rfl
theorem k153_3 : px_cod 153 3 = some ((.iload_n 2), 1, [], 2) := rfl
theorem k153_4 : px_cod 153 4 = some ((.ifCond .lt 34), 3, [38], 0) := rfl
theorem k153_7 : px_cod 153 7 = some ((.aload_n 0), 1, [], 0) := rfl
theorem k153_8 : px_cod 153 8 = some ((.getfield 16), 3, [189, 12, 4, 1], 5) := rfl
theorem k153_11 : px_cod 153 11 = some ((.aload_n 0), 1, [], 0) := rfl
theorem k153_12 : px_cod 153 12 = some ((.getfield 149), 3, [190, 12, 0, 0], 6) := rfl
theorem k153_15 : px_cod 153 15 = some ((.iload_n 1), 1, [], 1) := rfl
theorem k153_16 : px_cod 153 16 = some ((.iload_n 2), 1, [], 2) := rfl
theorem k153_17 : px_cod 153 17 = some (.ishr, 1, [], 0) := rfl
theorem k153_18 : px_cod 153 18 = some (.i2b, 1, [], 0) := rfl
theorem k153_19 : px_cod 153 19 = some (.bastore, 1, [], 0) := rfl
theorem k153_20 : px_cod 153 20 = some ((.aload_n 0), 1, [], 0) := rfl
theorem k153_21 : px_cod 153 21 = some (.dup, 1, [], 0) := rfl
theorem k153_22 : px_cod 153 22 = some ((.getfield 149), 3, [190, 12, 0, 0], 6) := rfl
theorem k153_25 : px_cod 153 25 = some ((.iconst 1), 1, [], 1) := rfl
theorem k153_26 : px_cod 153 26 = some (.iadd, 1, [], 0) := rfl
theorem k153_27 : px_cod 153 27 = some ((.putfield 149), 3, [190, 12, 0, 0], 6) := rfl
theorem k153_30 : px_cod 153 30 = some ((.iload_n 2), 1, [], 2) := rfl
theorem k153_31 : px_cod 153 31 = some ((.bipush 8), 2, [], 8) := rfl
theorem k153_33 : px_cod 153 33 = some (.isub, 1, [], 0) := rfl
theorem k153_34 : px_cod 153 34 = some ((.istore_n 2), 1, [], 2) := rfl
theorem k153_35 : px_cod 153 35 = some ((.goto (-32)), 3, [3], 0) := rfl
theorem k153_38 : px_cod 153 38 = some (.return_, 1, [], 0) := rfl
theorem k154_0 : px_cod 154 0 = some ((.aload_n 0), 1, [], 0) := rfl
theorem k154_1 : px_cod 154 1 = some ((.getfield 149), 3, [190, 12, 0, 0], 6) := rfl
theorem k154_4 : px_cod 154 4 = some ((.bipush 20), 2, [], 20) := rfl
theorem k154_6 : px_cod 154 6 = some (.iadd, 1, [], 0) := rfl
theorem k154_7 : px_cod 154 7 = some ((.sipush 300), 3, [], 300) := rfl
theorem k154_10 : px_cod 154 10 = some ((.if_icmp .le 5), 3, [15], 0) := rfl
theorem k154_13 : px_cod 154 13 = some ((.iconst (-1)), 1, [], (-1)) := rfl
theorem k154_14 : px_cod 154 14 = some (.ireturn, 1, [], 0) := rfl
theorem k154_15 : px_cod 154 15 = some ((.aload_n 0), 1, [], 0) := rfl
theorem k154_16 : px_cod 154 16 = some ((.iload_n 1), 1, [], 1) := rfl
theorem k154_17 : px_cod 154 17 = some ((.invokevirtual 152), 3, [0, 217, 153], 0) := rfl
theorem k154_20 : px_cod 154 20 = some ((.aload_n 0), 1, [], 0) := rfl
theorem k154_21 : px_cod 154 21 = some ((.iload_n 2), 1, [], 2) := rfl
theorem k154_22 : px_cod 154 22 = some ((.invokevirtual 152), 3, [0, 217, 153], 0) := rfl
theorem k154_25 : px_cod 154 25 = some ((.aload_n 0), 1, [], 0) := rfl
theorem k154_26 : px_cod 154 26 = some ((.iload_n 3), 1, [], 3) := rfl
theorem k154_27 : px_cod 154 27 = some ((.invokevirtual 152), 3, [0, 217, 153], 0) := rfl
theorem k154_30 : px_cod 154 30 = some ((.aload_n 0), 1, [], 0) := rfl
theorem k154_31 : px_cod 154 31 = some ((.iload 4), 2, [], 4) := rfl
theorem k154_33 : px_cod 154 33 = some ((.invokevirtual 152), 3, [0, 217, 153], 0) := rfl
theorem k154_36 : px_cod 154 36 = some ((.aload_n 0), 1, [], 0) := rfl
theorem k154_37 : px_cod 154 37 = some ((.iload 5), 2, [], 5) := rfl
theorem k154_39 : px_cod 154 39 = some ((.invokevirtual 152), 3, [0, 217, 153], 0) := rfl
theorem k154_42 : px_cod 154 42 = some ((.aload_n 0), 1, [], 0) := rfl
theorem k154_43 : px_cod 154 43 = some ((.getfield 149), 3, [190, 12, 0, 0], 6) := rfl
theorem k154_46 : px_cod 154 46 = some (.ireturn, 1, [], 0) := rfl
theorem k155_0 : px_cod 155 0 = some ((.iload_n 1), 1, [], 1) := rfl
theorem k155_1 : px_cod 155 1 = some ((.iconst 0), 1, [], 0) := rfl
theorem k155_2 : px_cod 155 2 = some ((.aload_n 0), 1, [], 0) := rfl
theorem k155_3 : px_cod 155 3 = some ((.getfield 149), 3, [190, 12, 0, 0], 6) := rfl
theorem k155_6 : px_cod 155 6 = some ((.invokestatic 138), 3, [0, 209, 141], 0) := rfl
theorem k155_9 : px_cod 155 9 = some ((.ifCond .ne 5), 3, [14], 0) := rfl
theorem k155_12 : px_cod 155 12 = some ((.iconst (-1)), 1, [], (-1)) := rfl
theorem k155_13 : px_cod 155 13 = some (.ireturn, 1, [], 0) := rfl
theorem k155_14 : px_cod 155 14 = some ((.aload_n 0), 1, [], 0) := rfl
theorem k155_15 : px_cod 155 15 = some ((.iload_n 1), 1, [], 1) := rfl
theorem k155_16 : px_cod 155 16 = some ((.putfield 149), 3, [190, 12, 0, 0], 6) := rfl
theorem k155_19 : px_cod 155 19 = some ((.iload_n 1), 1, [], 1) := rfl
theorem k155_20 : px_cod 155 20 = some (.ireturn, 1, [], 0) := rfl
theorem k156_0 : px_cod 156 0 = some ((.iload_n 0), 1, [], 0) := rfl
theorem k156_1 : px_cod 156 1 = some ((.bipush 97), 2, [], 97) := rfl
theorem k156_3 : px_cod 156 3 = some ((.bipush 122), 2, [], 122) := rfl
theorem k156_5 : px_cod 156 5 = some ((.invokestatic 138), 3, [0, 209, 141], 0) := rfl
theorem k156_8 : px_cod 156 8 = some ((.ifCond .ne 14), 3, [22], 0) := rfl
theorem k156_11 : px_cod 156 11 = some ((.iload_n 0), 1, [], 0) := rfl
theorem k156_12 : px_cod 156 12 = some ((.bipush 65), 2, [], 65) := rfl
theorem k156_14 : px_cod 156 14 = some ((.bipush 90), 2, [], 90) := rfl
theorem k156_16 : px_cod 156 16 = some ((.invokestatic 138), 3, [0, 209, 141], 0) := rfl
theorem k156_19 : px_cod 156 19 = some ((.ifCond .eq 7), 3, [26], 0) := rfl
theorem k156_22 : px_cod 156 22 = some ((.iconst 1), 1, [], 1) := rfl
theorem k156_23 : px_cod 156 23 = some ((.goto 4), 3, [27], 0) := rfl
theorem k156_26 : px_cod 156 26 = some ((.iconst 0), 1, [], 0) := rfl
theorem k156_27 : px_cod 156 27 = some (.ireturn, 1, [], 0) := rfl
theorem k157_0 : px_cod 157 0 = some ((.lload_n 0), 1, [], 0) := rfl
theorem k157_1 : px_cod 157 1 = some ((.ldc2_w 156), 3, [0, 16], 13801765) := rfl
theorem k157_4 : px_cod 157 4 = some (.lcmp, 1, [], 0) := rfl
theorem k157_5 : px_cod 157 5 = some ((.ifCond .ne 5), 3, [10], 0) := rfl
theorem k157_8 : px_cod 157 8 = some ((.iconst 0), 1, [], 0) := rfl
theorem k157_9 : px_cod 157 9 = some (.ireturn, 1, [], 0) := rfl
theorem k157_10 : px_cod 157 10 = some ((.lload_n 0), 1, [], 0) := rfl
theorem k157_11 : px_cod 157 11 = some ((.ldc2_w 158), 3, [0, 17], 14589160) := rfl
theorem k157_14 : px_cod 157 14 = some (.lcmp, 1, [], 0) := rfl
theorem k157_15 : px_cod 157 15 = some ((.ifCond .ne 5), 3, [20], 0) := rfl
theorem k157_18 : px_cod 157 18 = some ((.iconst 1), 1, [], 1) := rfl
theorem k157_19 : px_cod 157 19 = some (.ireturn, 1, [], 0) := rfl
theorem k157_20 : px_cod 157 20 = some ((.lload_n 0), 1, [], 0) := rfl
theorem k157_21 : px_cod 157 21 = some ((.ldc2_w 160), 3, [0, 18], 9083692) := rfl
theorem k157_24 : px_cod 157 24 = some (.lcmp, 1, [], 0) := rfl
theorem k157_25 : px_cod 157 25 = some ((.ifCond .ne 5), 3, [30], 0) := rfl
theorem k157_28 : px_cod 157 28 = some ((.iconst 2), 1, [], 2) := rfl
theorem k157_29 : px_cod 157 29 = some (.ireturn, 1, [], 0) := rfl
theorem k157_30 : px_cod 157 30 = some ((.lload_n 0), 1, [], 0) := rfl
theorem k157_31 : px_cod 157 31 = some ((.ldc2_w 162), 3, [0, 19], 13244852) := rfl
theorem k157_34 : px_cod 157 34 = some (.lcmp, 1, [], 0) := rfl
theorem k157_35 : px_cod 157 35 = some ((.ifCond .ne 5), 3, [40], 0) := rfl
theorem k157_38 : px_cod 157 38 = some ((.iconst 3), 1, [], 3) := rfl
theorem k157_39 : px_cod 157 39 = some (.ireturn, 1, [], 0) := rfl
theorem k157_40 : px_cod 157 40 = some ((.lload_n 0), 1, [], 0) := rfl
theorem k157_41 : px_cod 157 41 = some ((.ldc2_w 164), 3, [0, 20], 9051315) := rfl
theorem k157_44 : px_cod 157 44 = some (.lcmp, 1, [], 0) := rfl
theorem k157_45 : px_cod 157 45 = some ((.ifCond .ne 5), 3, [50], 0) := rfl
theorem k157_48 : px_cod 157 48 = some ((.iconst 4), 1, [], 4) := rfl
theorem k157_49 : px_cod 157 49 = some (.ireturn, 1, [], 0) := rfl
theorem k157_50 : px_cod 157 50 = some ((.lload_n 0), 1, [], 0) := rfl
theorem k157_51 : px_cod 157 51 = some ((.ldc2_w 166), 3, [0, 21], 3424729639276) := rfl
theorem k157_54 : px_cod 157 54 = some (.lcmp, 1, [], 0) := rfl
theorem k157_55 : px_cod 157 55 = some ((.ifCond .ne 5), 3, [60], 0) := rfl
theorem k157_58 : px_cod 157 58 = some ((.iconst 5), 1, [], 5) := rfl
theorem k157_59 : px_cod 157 59 = some (.ireturn, 1, [], 0) := rfl
theorem k157_60 : px_cod 157 60 = some ((.lload_n 0), 1, [], 0) := rfl
theorem k157_61 : px_cod 157 61 = some ((.ldc2_w 168), 3, [0, 22], 3058) := rfl
theorem k157_64 : px_cod 157 64 = some (.lcmp, 1, [], 0) := rfl
theorem k157_65 : px_cod 157 65 = some ((.ifCond .ne 6), 3, [71], 0) := rfl
theorem k157_68 : px_cod 157 68 = some ((.bipush 6), 2, [], 6) := rfl
theorem k157_70 : px_cod 157 70 = some (.ireturn, 1, [], 0) := rfl
theorem k157_71 : px_cod 157 71 = some ((.lload_n 0), 1, [], 0) := rfl
theorem k157_72 : px_cod 157 72 = some ((.ldc2_w 170), 3, [0, 23], 138148) := rfl
theorem k157_75 : px_cod 157 75 = some (.lcmp, 1, [], 0) := rfl
theorem k157_76 : px_cod 157 76 = some ((.ifCond .ne 6), 3, [82], 0) := rfl
theorem k157_79 : px_cod 157 79 = some ((.bipush 7), 2, [], 7) := rfl
theorem k157_81 : px_cod 157 81 = some (.ireturn, 1, [], 0) := rfl
theorem k157_82 : px_cod 157 82 = some ((.lload_n 0), 1, [], 0) := rfl
theorem k157_83 : px_cod 157 83 = some ((.ldc2_w 172), 3, [0, 24], 191476) := rfl
theorem k157_86 : px_cod 157 86 = some (.lcmp, 1, [], 0) := rfl
theorem k157_87 : px_cod 157 87 = some ((.ifCond .ne 6), 3, [93], 0) := rfl
theorem k157_90 : px_cod 157 90 = some ((.bipush 8), 2, [], 8) := rfl
theorem k157_92 : px_cod 157 92 = some (.ireturn, 1, [], 0) := rfl
theorem k157_93 : px_cod 157 93 = some ((.lload_n 0), 1, [], 0) := rfl
theorem k157_94 : px_cod 157 94 = some ((.ldc2_w 174), 3, [0, 25], 49018527013) := rfl
theorem k157_97 : px_cod 157 97 = some (.lcmp, 1, [], 0) := rfl
theorem k157_98 : px_cod 157 98 = some ((.ifCond .ne 6), 3, [104], 0) := rfl
theorem k157_101 : px_cod 157 101 = some ((.bipush 9), 2, [], 9) := rfl
theorem k157_103 : px_cod 157 103 = some (.ireturn, 1, [], 0) := rfl
theorem k157_104 : px_cod 157 104 = some ((.lload_n 0), 1, [], 0) := rfl
theorem k157_105 : px_cod 157 105 = some ((.ldc2_w 176), 3, [0, 26], 14588836) := rfl
theorem k157_108 : px_cod 157 108 = some (.lcmp, 1, [], 0) := rfl
theorem k157_109 : px_cod 157 109 = some ((.ifCond .ne 6), 3, [115], 0) := rfl
theorem k157_112 : px_cod 157 112 = some ((.bipush 10), 2, [], 10) := rfl
theorem k157_114 : px_cod 157 114 = some (.ireturn, 1, [], 0) := rfl
theorem k157_115 : px_cod 157 115 = some ((.lload_n 0), 1, [], 0) := rfl
theorem k157_116 : px_cod 157 116 = some ((.ldc2_w 178), 3, [0, 27], 11992046) := rfl
theorem k157_119 : px_cod 157 119 = some (.lcmp, 1, [], 0) := rfl
theorem k157_120 : px_cod 157 120 = some ((.ifCond .ne 6), 3, [126], 0) := rfl
theorem k157_123 : px_cod 157 123 = some ((.bipush 11), 2, [], 11) := rfl
theorem k157_125 : px_cod 157 125 = some (.ireturn, 1, [], 0) := rfl
theorem k157_126 : px_cod 157 126 = some ((.lload_n 0), 1, [], 0) := rfl
theorem k157_127 : px_cod 157 127 = some ((.ldc2_w 180), 3, [0, 28], 13245355) := rfl
theorem k157_130 : px_cod 157 130 = some (.lcmp, 1, [], 0) := rfl
theorem k157_131 : px_cod 157 131 = some ((.ifCond .ne 6), 3, [137], 0) := rfl
theorem k157_134 : px_cod 157 134 = some ((.bipush 12), 2, [], 12) := rfl
theorem k157_136 : px_cod 157 136 = some (.ireturn, 1, [], 0) := rfl
theorem k157_137 : px_cod 157 137 = some ((.lload_n 0), 1, [], 0) := rfl
theorem k157_138 : px_cod 157 138 = some ((.ldc2_w 182), 3, [0, 29], 13597293) := rfl
theorem k157_141 : px_cod 157 141 = some (.lcmp, 1, [], 0) := rfl
theorem k157_142 : px_cod 157 142 = some ((.ifCond .ne 6), 3, [148], 0) := rfl
theorem k157_145 : px_cod 157 145 = some ((.bipush 13), 2, [], 13) := rfl
theorem k157_147 : px_cod 157 147 = some (.ireturn, 1, [], 0) := rfl
theorem k157_148 : px_cod 157 148 = some ((.lload_n 0), 1, [], 0) := rfl
theorem k157_149 : px_cod 157 149 = some ((.ldc2_w 184), 3, [0, 30], 10115186) := rfl
theorem k157_152 : px_cod 157 152 = some (.lcmp, 1, [], 0) := rfl
theorem k157_153 : px_cod 157 153 = some ((.ifCond .ne 6), 3, [159], 0) := rfl
theorem k157_156 : px_cod 157 156 = some ((.bipush 14), 2, [], 14) := rfl
theorem k157_158 : px_cod 157 158 = some (.ireturn, 1, [], 0) := rfl
theorem k157_159 : px_cod 157 159 = some ((.lload_n 0), 1, [], 0) := rfl
theorem k157_160 : px_cod 157 160 = some ((.ldc2_w 186), 3, [0, 31], 141415) := rfl
theorem k157_163 : px_cod 157 163 = some (.lcmp, 1, [], 0) := rfl
theorem k157_164 : px_cod 157 164 = some ((.ifCond .ne 6), 3, [170], 0) := rfl
theorem k157_167 : px_cod 157 167 = some ((.bipush 15), 2, [], 15) := rfl
theorem k157_169 : px_cod 157 169 = some (.ireturn, 1, [], 0) := rfl
theorem k157_170 : px_cod 157 170 = some ((.lload_n 0), 1, [], 0) := rfl
theorem k157_171 : px_cod 157 171 = some ((.ldc2_w 188), 3, [0, 32], 10656232) := rfl
theorem k157_174 : px_cod 157 174 = some (.lcmp, 1, [], 0) := rfl
theorem k157_175 : px_cod 157 175 = some ((.ifCond .ne 6), 3, [181], 0) := rfl
theorem k157_178 : px_cod 157 178 = some ((.bipush 16), 2, [], 16) := rfl
theorem k157_180 : px_cod 157 180 = some (.ireturn, 1, [], 0) := rfl
theorem k157_181 : px_cod 157 181 = some ((.lload_n 0), 1, [], 0) := rfl
theorem k157_182 : px_cod 157 182 = some ((.ldc2_w 190), 3, [0, 33], 748120428) := rfl
theorem k157_185 : px_cod 157 185 = some (.lcmp, 1, [], 0) := rfl
theorem k157_186 : px_cod 157 186 = some ((.ifCond .ne 6), 3, [192], 0) := rfl
theorem k157_189 : px_cod 157 189 = some ((.bipush 17), 2, [], 17) := rfl
theorem k157_191 : px_cod 157 191 = some (.ireturn, 1, [], 0) := rfl
theorem k157_192 : px_cod 157 192 = some ((.lload_n 0), 1, [], 0) := rfl
theorem k157_193 : px_cod 157 193 = some ((.ldc2_w 192), 3, [0, 34], 14589224) := rfl
theorem k157_196 : px_cod 157 196 = some (.lcmp, 1, [], 0) := rfl
theorem k157_197 : px_cod 157 197 = some ((.ifCond .ne 6), 3, [203], 0) := rfl
theorem k157_200 : px_cod 157 200 = some ((.bipush 18), 2, [], 18) := rfl
theorem k157_202 : px_cod 157 202 = some (.ireturn, 1, [], 0) := rfl
theorem k157_203 : px_cod 157 203 = some ((.lload_n 0), 1, [], 0) := rfl
theorem k157_204 : px_cod 157 204 = some ((.ldc2_w 194), 3, [0, 35], 802326898) := rfl
theorem k157_207 : px_cod 157 207 = some (.lcmp, 1, [], 0) := rfl
theorem k157_208 : px_cod 157 208 = some ((.ifCond .ne 6), 3, [214], 0) := rfl
theorem k157_211 : px_cod 157 211 = some ((.bipush 19), 2, [], 19) := rfl
theorem k157_213 : px_cod 157 213 = some (.ireturn, 1, [], 0) := rfl
theorem k157_214 : px_cod 157 214 = some ((.lload_n 0), 1, [], 0) := rfl
theorem k157_215 : px_cod 157 215 = some ((.ldc2_w 196), 3, [0, 36], 227700) := rfl
theorem k157_218 : px_cod 157 218 = some (.lcmp, 1, [], 0) := rfl
theorem k157_219 : px_cod 157 219 = some ((.ifCond .ne 6), 3, [225], 0) := rfl
theorem k157_222 : px_cod 157 222 = some ((.bipush 20), 2, [], 20) := rfl
theorem k157_224 : px_cod 157 224 = some (.ireturn, 1, [], 0) := rfl
theorem k157_225 : px_cod 157 225 = some ((.lload_n 0), 1, [], 0) := rfl
theorem k157_226 : px_cod 157 226 = some ((.ldc2_w 198), 3, [0, 37], 767519091) := rfl
theorem k157_229 : px_cod 157 229 = some (.lcmp, 1, [], 0) := rfl
theorem k157_230 : px_cod 157 230 = some ((.ifCond .ne 6), 3, [236], 0) := rfl
theorem k157_233 : px_cod 157 233 = some ((.bipush 21), 2, [], 21) := rfl
theorem k157_235 : px_cod 157 235 = some (.ireturn, 1, [], 0) := rfl
theorem k157_236 : px_cod 157 236 = some ((.lload_n 0), 1, [], 0) := rfl
theorem k157_237 : px_cod 157 237 = some ((.ldc2_w 200), 3, [0, 38], 600447155) := rfl
theorem k157_240 : px_cod 157 240 = some (.lcmp, 1, [], 0) := rfl
theorem k157_241 : px_cod 157 241 = some ((.ifCond .ne 6), 3, [247], 0) := rfl
theorem k157_244 : px_cod 157 244 = some ((.bipush 22), 2, [], 22) := rfl
theorem k157_246 : px_cod 157 246 = some (.ireturn, 1, [], 0) := rfl
theorem k157_247 : px_cod 157 247 = some ((.lload_n 0), 1, [], 0) := rfl
theorem k157_248 : px_cod 157 248 = some ((.ldc2_w 202), 3, [0, 39], 616496307) := rfl
theorem k157_251 : px_cod 157 251 = some (.lcmp, 1, [], 0) := rfl
theorem k157_252 : px_cod 157 252 = some ((.ifCond .ne 6), 3, [258], 0) := rfl
theorem k157_255 : px_cod 157 255 = some ((.bipush 23), 2, [], 23) := rfl
theorem k157_257 : px_cod 157 257 = some (.ireturn, 1, [], 0) := rfl
theorem k157_258 : px_cod 157 258 = some ((.iconst (-1)), 1, [], (-1)) := rfl
theorem k157_259 : px_cod 157 259 = some (.ireturn, 1, [], 0) := rfl
theorem k158_0 : px_cod 158 0 = some ((.aload_n 0), 1, [], 0) := rfl
theorem k158_1 : px_cod 158 1 = some ((.getfield 204), 3, [199, 12, 0, 0], 15) := rfl
theorem k158_4 : px_cod 158 4 = some ((.aload_n 0), 1, [], 0) := rfl
theorem k158_5 : px_cod 158 5 = some ((.getfield 207), 3, [198, 12, 0, 0], 14) := rfl
theorem k158_8 : px_cod 158 8 = some ((.if_icmp .ge 44), 3, [52], 0) := rfl
theorem k158_11 : px_cod 158 11 = some ((.aload_n 0), 1, [], 0) := rfl
theorem k158_12 : px_cod 158 12 = some ((.getfield 16), 3, [189, 12, 4, 1], 5) := rfl
theorem k158_15 : px_cod 158 15 = some ((.aload_n 0), 1, [], 0) := rfl
theorem k158_16 : px_cod 158 16 = some ((.getfield 204), 3, [199, 12, 0, 0], 15) := rfl
theorem k158_19 : px_cod 158 19 = some (.baload, 1, [], 0) := rfl
theorem k158_20 : px_cod 158 20 = some ((.bipush 32), 2, [], 32) := rfl
theorem k158_22 : px_cod 158 22 = some ((.if_icmp .eq 17), 3, [39], 0) := rfl
theorem k158_25 : px_cod 158 25 = some ((.aload_n 0), 1, [], 0) := rfl
theorem k158_26 : px_cod 158 26 = some ((.getfield 16), 3, [189, 12, 4, 1], 5) := rfl
theorem k158_29 : px_cod 158 29 = some ((.aload_n 0), 1, [], 0) := rfl
theorem k158_30 : px_cod 158 30 = some ((.getfield 204), 3, [199, 12, 0, 0], 15) := rfl
theorem k158_33 : px_cod 158 33 = some (.baload, 1, [], 0) := rfl
theorem k158_34 : px_cod 158 34 = some ((.bipush 10), 2, [], 10) := rfl
theorem k158_36 : px_cod 158 36 = some ((.if_icmp .ne 16), 3, [52], 0) := rfl
theorem k158_39 : px_cod 158 39 = some ((.aload_n 0), 1, [], 0) := rfl
theorem k158_40 : px_cod 158 40 = some (.dup, 1, [], 0) := rfl
theorem k158_41 : px_cod 158 41 = some ((.getfield 204), 3, [199, 12, 0, 0], 15) := rfl
theorem k158_44 : px_cod 158 44 = some ((.iconst 1), 1, [], 1) := rfl
theorem k158_45 : px_cod 158 45 = some (.iadd, 1, [], 0) := rfl
theorem k158_46 : px_cod 158 46 = some ((.putfield 204), 3, [199, 12, 0, 0], 15) := rfl
theorem k158_49 : px_cod 158 49 = some ((.goto (-49)), 3, [0], 0) := rfl
theorem k158_52 : px_cod 158 52 = some ((.aload_n 0), 1, [], 0) := rfl
theorem k158_53 : px_cod 158 53 = some ((.aload_n 0), 1, [], 0) := rfl
theorem k158_54 : px_cod 158 54 = some ((.getfield 204), 3, [199, 12, 0, 0], 15) := rfl
theorem k158_57 : px_cod 158 57 = some ((.putfield 210), 3, [200, 12, 0, 0], 16) := rfl
theorem k158_60 : px_cod 158 60 = some ((.aload_n 0), 1, [], 0) := rfl
theorem k158_61 : px_cod 158 61 = some ((.getfield 204), 3, [199, 12, 0, 0], 15) := rfl
theorem k158_64 : px_cod 158 64 = some ((.aload_n 0), 1, [], 0) := rfl
theorem k158_65 : px_cod 158 65 = some ((.getfield 207), 3, [198, 12, 0, 0], 14) := rfl
theorem k158_68 : px_cod 158 68 = some ((.if_icmp .ne 9), 3, [77], 0) := rfl
theorem k158_71 : px_cod 158 71 = some ((.aload_n 0), 1, [], 0) := rfl
theorem k158_72 : px_cod 158 72 = some ((.iconst 0), 1, [], 0) := rfl
theorem k158_73 : px_cod 158 73 = some ((.putfield 213), 3, [201, 12, 0, 0], 17) := rfl
theorem k158_76 : px_cod 158 76 = some (.return_, 1, [], 0) := rfl
theorem k158_77 : px_cod 158 77 = some ((.aload_n 0), 1, [], 0) := rfl
theorem k158_78 : px_cod 158 78 = some ((.getfield 16), 3, [189, 12, 4, 1], 5) := rfl
theorem k158_81 : px_cod 158 81 = some ((.aload_n 0), 1, [], 0) := rfl
theorem k158_82 : px_cod 158 82 = some ((.getfield 204), 3, [199, 12, 0, 0], 15) := rfl
theorem k158_85 : px_cod 158 85 = some (.baload, 1, [], 0) := rfl
theorem k158_86 : px_cod 158 86 = some ((.istore_n 1), 1, [], 1) := rfl
theorem k158_87 : px_cod 158 87 = some ((.iload_n 1), 1, [], 1) := rfl
theorem k158_88 : px_cod 158 88 = some ((.invokestatic 216), 3, [0, 221, 156], 0) := rfl
theorem k158_91 : px_cod 158 91 = some ((.ifCond .eq 120), 3, [211], 0) := rfl
theorem k158_94 : px_cod 158 94 = some ((.lconst 0), 1, [], 0) := rfl
theorem k158_95 : px_cod 158 95 = some ((.lstore_n 2), 1, [], 2) := rfl
theorem k158_96 : px_cod 158 96 = some ((.iconst 0), 1, [], 0) := rfl
theorem k158_97 : px_cod 158 97 = some ((.istore 4), 2, [], 4) := rfl
theorem k158_99 : px_cod 158 99 = some ((.aload_n 0), 1, [], 0) := rfl
theorem k158_100 : px_cod 158 100 = some ((.getfield 204), 3, [199, 12, 0, 0], 15) := rfl
theorem k158_103 : px_cod 158 103 = some ((.aload_n 0), 1, [], 0) := rfl
theorem k158_104 : px_cod 158 104 = some ((.getfield 207), 3, [198, 12, 0, 0], 14) := rfl
theorem k158_107 : px_cod 158 107 = some ((.if_icmp .ge 66), 3, [173], 0) := rfl
theorem k158_110 : px_cod 158 110 = some ((.aload_n 0), 1, [], 0) := rfl
theorem k158_111 : px_cod 158 111 = some ((.getfield 16), 3, [189, 12, 4, 1], 5) := rfl
theorem k158_114 : px_cod 158 114 = some ((.aload_n 0), 1, [], 0) := rfl
theorem k158_115 : px_cod 158 115 = some ((.getfield 204), 3, [199, 12, 0, 0], 15) := rfl
theorem k158_118 : px_cod 158 118 = some (.baload, 1, [], 0) := rfl
theorem k158_119 : px_cod 158 119 = some ((.invokestatic 216), 3, [0, 221, 156], 0) := rfl
theorem k158_122 : px_cod 158 122 = some ((.ifCond .eq 51), 3, [173], 0) := rfl
theorem k158_125 : px_cod 158 125 = some ((.iload 4), 2, [], 4) := rfl
theorem k158_127 : px_cod 158 127 = some ((.bipush 8), 2, [], 8) := rfl
theorem k158_129 : px_cod 158 129 = some ((.if_icmp .ge 26), 3, [155], 0) := rfl
theorem k158_132 : px_cod 158 132 = some ((.ldc2_w 219), 3, [0, 15], 64) := rfl
theorem k158_135 : px_cod 158 135 = some ((.lload_n 2), 1, [], 2) := rfl
theorem k158_136 : px_cod 158 136 = some (.lmul, 1, [], 0) := rfl
theorem k158_137 : px_cod 158 137 = some ((.aload_n 0), 1, [], 0) := rfl
theorem k158_138 : px_cod 158 138 = some ((.getfield 16), 3, [189, 12, 4, 1], 5) := rfl
theorem k158_141 : px_cod 158 141 = some ((.aload_n 0), 1, [], 0) := rfl
theorem k158_142 : px_cod 158 142 = some ((.getfield 204), 3, [199, 12, 0, 0], 15) := rfl
theorem k158_145 : px_cod 158 145 = some (.baload, 1, [], 0) := rfl
theorem k158_146 : px_cod 158 146 = some (.i2l, 1, [], 0) := rfl
theorem k158_147 : px_cod 158 147 = some (.ladd, 1, [], 0) := rfl
theorem k158_148 : px_cod 158 148 = some ((.ldc2_w 219), 3, [0, 15], 64) := rfl
theorem k158_151 : px_cod 158 151 = some (.lsub, 1, [], 0) := rfl
theorem k158_152 : px_cod 158 152 = some ((.goto 4), 3, [156], 0) := rfl
theorem k158_155 : px_cod 158 155 = some ((.lload_n 2), 1, [], 2) := rfl
theorem k158_156 : px_cod 158 156 = some ((.lstore_n 2), 1, [], 2) := rfl
theorem k158_157 : px_cod 158 157 = some ((.iinc 4 1), 3, [4], 1) := rfl
theorem k158_160 : px_cod 158 160 = some ((.aload_n 0), 1, [], 0) := rfl
theorem k158_161 : px_cod 158 161 = some (.dup, 1, [], 0) := rfl
theorem k158_162 : px_cod 158 162 = some ((.getfield 204), 3, [199, 12, 0, 0], 15) := rfl
theorem k158_165 : px_cod 158 165 = some ((.iconst 1), 1, [], 1) := rfl
theorem k158_166 : px_cod 158 166 = some (.iadd, 1, [], 0) := rfl
theorem k158_167 : px_cod 158 167 = some ((.putfield 204), 3, [199, 12, 0, 0], 15) := rfl
theorem k158_170 : px_cod 158 170 = some ((.goto (-71)), 3, [99], 0) := rfl
theorem k158_173 : px_cod 158 173 = some ((.aload_n 0), 1, [], 0) := rfl
theorem k158_174 : px_cod 158 174 = some ((.iload 4), 2, [], 4) := rfl
theorem k158_176 : px_cod 158 176 = some ((.bipush 7), 2, [], 7) := rfl
theorem k158_178 : px_cod 158 178 = some ((.if_icmp .le 7), 3, [185], 0) := rfl
theorem k158_181 : px_cod 158 181 = some ((.iconst (-1)), 1, [], (-1)) := rfl
theorem k158_182 : px_cod 158 182 = some ((.goto 7), 3, [189], 0) := rfl
theorem k158_185 : px_cod 158 185 = some ((.lload_n 2), 1, [], 2) := rfl
theorem k158_186 : px_cod 158 186 = some ((.invokestatic 221), 3, [0, 222, 157], 0) := rfl
theorem k158_189 : px_cod 158 189 = some ((.putfield 225), 3, [202, 12, 0, 0], 18) := rfl
theorem k158_192 : px_cod 158 192 = some ((.aload_n 0), 1, [], 0) := rfl
theorem k158_193 : px_cod 158 193 = some ((.aload_n 0), 1, [], 0) := rfl
theorem k158_194 : px_cod 158 194 = some ((.getfield 225), 3, [202, 12, 0, 0], 18) := rfl
theorem k158_197 : px_cod 158 197 = some ((.ifCond .ge 7), 3, [204], 0) := rfl
theorem k158_200 : px_cod 158 200 = some ((.iconst 4), 1, [], 4) := rfl
theorem k158_201 : px_cod 158 201 = some ((.goto 4), 3, [205], 0) := rfl
theorem k158_204 : px_cod 158 204 = some ((.iconst 1), 1, [], 1) := rfl
theorem k158_205 : px_cod 158 205 = some ((.putfield 213), 3, [201, 12, 0, 0], 17) := rfl
theorem k158_208 : px_cod 158 208 = some ((.goto 231), 3, [439], 0) := rfl
theorem k158_211 : px_cod 158 211 = some ((.iload_n 1), 1, [], 1) := rfl
theorem k158_212 : px_cod 158 212 = some ((.bipush 48), 2, [], 48) := rfl
theorem k158_214 : px_cod 158 214 = some ((.bipush 57), 2, [], 57) := rfl
theorem k158_216 : px_cod 158 216 = some ((.invokestatic 138), 3, [0, 209, 141], 0) := rfl
theorem k158_219 : px_cod 158 219 = some ((.ifCond .eq 96), 3, [315], 0) := rfl
theorem k158_222 : px_cod 158 222 = some ((.aload_n 0), 1, [], 0) := rfl
theorem k158_223 : px_cod 158 223 = some ((.iconst 2), 1, [], 2) := rfl
theorem k158_224 : px_cod 158 224 = some ((.putfield 213), 3, [201, 12, 0, 0], 17) := rfl
theorem k158_227 : px_cod 158 227 = some ((.aload_n 0), 1, [], 0) := rfl
theorem k158_228 : px_cod 158 228 = some ((.iconst 0), 1, [], 0) := rfl
theorem k158_229 : px_cod 158 229 = some ((.putfield 225), 3, [202, 12, 0, 0], 18) := rfl
theorem k158_232 : px_cod 158 232 = some ((.aload_n 0), 1, [], 0) := rfl
theorem k158_233 : px_cod 158 233 = some ((.getfield 204), 3, [199, 12, 0, 0], 15) := rfl
theorem k158_236 : px_cod 158 236 = some ((.aload_n 0), 1, [], 0) := rfl
theorem k158_237 : px_cod 158 237 = some ((.getfield 207), 3, [198, 12, 0, 0], 14) := rfl
theorem k158_240 : px_cod 158 240 = some ((.if_icmp .ge 199), 3, [439], 0) := rfl
theorem k158_243 : px_cod 158 243 = some ((.aload_n 0), 1, [], 0) := rfl
theorem k158_244 : px_cod 158 244 = some ((.getfield 16), 3, [189, 12, 4, 1], 5) := rfl
theorem k158_247 : px_cod 158 247 = some ((.aload_n 0), 1, [], 0) := rfl
theorem k158_248 : px_cod 158 248 = some ((.getfield 204), 3, [199, 12, 0, 0], 15) := rfl
theorem k158_251 : px_cod 158 251 = some (.baload, 1, [], 0) := rfl
theorem k158_252 : px_cod 158 252 = some ((.bipush 48), 2, [], 48) := rfl
theorem k158_254 : px_cod 158 254 = some ((.bipush 57), 2, [], 57) := rfl
theorem k158_256 : px_cod 158 256 = some ((.invokestatic 138), 3, [0, 209, 141], 0) := rfl
theorem k158_259 : px_cod 158 259 = some ((.ifCond .eq 180), 3, [439], 0) := rfl
theorem k158_262 : px_cod 158 262 = some ((.aload_n 0), 1, [], 0) := rfl
theorem k158_263 : px_cod 158 263 = some ((.aload_n 0), 1, [], 0) := rfl
theorem k158_264 : px_cod 158 264 = some ((.getfield 225), 3, [202, 12, 0, 0], 18) := rfl
theorem k158_267 : px_cod 158 267 = some ((.ldc 228), 2, [0, 40], 99999) := rfl
theorem k158_269 : px_cod 158 269 = some ((.if_icmp .le 10), 3, [279], 0) := rfl
theorem k158_272 : px_cod 158 272 = some ((.aload_n 0), 1, [], 0) := rfl
theorem k158_273 : px_cod 158 273 = some ((.getfield 225), 3, [202, 12, 0, 0], 18) := rfl
theorem k158_276 : px_cod 158 276 = some ((.goto 23), 3, [299], 0) := rfl
theorem k158_279 : px_cod 158 279 = some ((.bipush 10), 2, [], 10) := rfl
theorem k158_281 : px_cod 158 281 = some ((.aload_n 0), 1, [], 0) := rfl
theorem k158_282 : px_cod 158 282 = some ((.getfield 225), 3, [202, 12, 0, 0], 18) := rfl
theorem k158_285 : px_cod 158 285 = some (.imul, 1, [], 0) := rfl
theorem k158_286 : px_cod 158 286 = some ((.aload_n 0), 1, [], 0) := rfl
theorem k158_287 : px_cod 158 287 = some ((.getfield 16), 3, [189, 12, 4, 1], 5) := rfl
theorem k158_290 : px_cod 158 290 = some ((.aload_n 0), 1, [], 0) := rfl
theorem k158_291 : px_cod 158 291 = some ((.getfield 204), 3, [199, 12, 0, 0], 15) := rfl
theorem k158_294 : px_cod 158 294 = some (.baload, 1, [], 0) := rfl
theorem k158_295 : px_cod 158 295 = some (.iadd, 1, [], 0) := rfl
theorem k158_296 : px_cod 158 296 = some ((.bipush 48), 2, [], 48) := rfl
theorem k158_298 : px_cod 158 298 = some (.isub, 1, [], 0) := rfl
theorem k158_299 : px_cod 158 299 = some ((.putfield 225), 3, [202, 12, 0, 0], 18) := rfl
theorem k158_302 : px_cod 158 302 = some ((.aload_n 0), 1, [], 0) := rfl
theorem k158_303 : px_cod 158 303 = some (.dup, 1, [], 0) := rfl
theorem k158_304 : px_cod 158 304 = some ((.getfield 204), 3, [199, 12, 0, 0], 15) := rfl
theorem k158_307 : px_cod 158 307 = some ((.iconst 1), 1, [], 1) := rfl
theorem k158_308 : px_cod 158 308 = some (.iadd, 1, [], 0) := rfl
theorem k158_309 : px_cod 158 309 = some ((.putfield 204), 3, [199, 12, 0, 0], 15) := rfl
theorem k158_312 : px_cod 158 312 = some ((.goto (-80)), 3, [232], 0) := rfl
theorem k158_315 : px_cod 158 315 = some ((.aload_n 0), 1, [], 0) := rfl
theorem k158_316 : px_cod 158 316 = some (.dup, 1, [], 0) := rfl
theorem k158_317 : px_cod 158 317 = some ((.getfield 204), 3, [199, 12, 0, 0], 15) := rfl
theorem k158_320 : px_cod 158 320 = some ((.iconst 1), 1, [], 1) := rfl
theorem k158_321 : px_cod 158 321 = some (.iadd, 1, [], 0) := rfl
theorem k158_322 : px_cod 158 322 = some ((.putfield 204), 3, [199, 12, 0, 0], 15) := rfl
theorem k158_325 : px_cod 158 325 = some ((.aload_n 0), 1, [], 0) := rfl
theorem k158_326 : px_cod 158 326 = some ((.iload_n 1), 1, [], 1) := rfl
theorem k158_327 : px_cod 158 327 = some ((.putfield 225), 3, [202, 12, 0, 0], 18) := rfl
theorem k158_330 : px_cod 158 330 = some ((.aload_n 0), 1, [], 0) := rfl
theorem k158_331 : px_cod 158 331 = some ((.iload_n 1), 1, [], 1) := rfl
theorem k158_332 : px_cod 158 332 = some ((.bipush 59), 2, [], 59) := rfl
theorem k158_334 : px_cod 158 334 = some ((.bipush 62), 2, [], 62) := rfl
theorem k158_336 : px_cod 158 336 = some ((.invokestatic 138), 3, [0, 209, 141], 0) := rfl
theorem k158_339 : px_cod 158 339 = some ((.ifCond .ne 26), 3, [365], 0) := rfl
theorem k158_342 : px_cod 158 342 = some ((.iload_n 1), 1, [], 1) := rfl
theorem k158_343 : px_cod 158 343 = some ((.bipush 40), 2, [], 40) := rfl
theorem k158_345 : px_cod 158 345 = some ((.bipush 45), 2, [], 45) := rfl
theorem k158_347 : px_cod 158 347 = some ((.invokestatic 138), 3, [0, 209, 141], 0) := rfl
theorem k158_350 : px_cod 158 350 = some ((.ifCond .ne 15), 3, [365], 0) := rfl
theorem k158_353 : px_cod 158 353 = some ((.iload_n 1), 1, [], 1) := rfl
theorem k158_354 : px_cod 158 354 = some ((.bipush 47), 2, [], 47) := rfl
theorem k158_356 : px_cod 158 356 = some ((.if_icmp .eq 9), 3, [365], 0) := rfl
theorem k158_359 : px_cod 158 359 = some ((.iload_n 1), 1, [], 1) := rfl
theorem k158_360 : px_cod 158 360 = some ((.bipush 35), 2, [], 35) := rfl
theorem k158_362 : px_cod 158 362 = some ((.if_icmp .ne 7), 3, [369], 0) := rfl
theorem k158_365 : px_cod 158 365 = some ((.iconst 3), 1, [], 3) := rfl
theorem k158_366 : px_cod 158 366 = some ((.goto 4), 3, [370], 0) := rfl
theorem k158_369 : px_cod 158 369 = some ((.iconst 4), 1, [], 4) := rfl
theorem k158_370 : px_cod 158 370 = some ((.putfield 213), 3, [201, 12, 0, 0], 17) := rfl
theorem k158_373 : px_cod 158 373 = some ((.iload_n 1), 1, [], 1) := rfl
theorem k158_374 : px_cod 158 374 = some ((.bipush 60), 2, [], 60) := rfl
theorem k158_376 : px_cod 158 376 = some ((.if_icmp .eq 9), 3, [385], 0) := rfl
theorem k158_379 : px_cod 158 379 = some ((.iload_n 1), 1, [], 1) := rfl
theorem k158_380 : px_cod 158 380 = some ((.bipush 62), 2, [], 62) := rfl
theorem k158_382 : px_cod 158 382 = some ((.if_icmp .ne 57), 3, [439], 0) := rfl
theorem k158_385 : px_cod 158 385 = some ((.aload_n 0), 1, [], 0) := rfl
theorem k158_386 : px_cod 158 386 = some ((.getfield 204), 3, [199, 12, 0, 0], 15) := rfl
theorem k158_389 : px_cod 158 389 = some ((.aload_n 0), 1, [], 0) := rfl
theorem k158_390 : px_cod 158 390 = some ((.getfield 207), 3, [198, 12, 0, 0], 14) := rfl
theorem k158_393 : px_cod 158 393 = some ((.if_icmp .ge 46), 3, [439], 0) := rfl
theorem k158_396 : px_cod 158 396 = some ((.aload_n 0), 1, [], 0) := rfl
theorem k158_397 : px_cod 158 397 = some ((.getfield 16), 3, [189, 12, 4, 1], 5) := rfl
theorem k158_400 : px_cod 158 400 = some ((.aload_n 0), 1, [], 0) := rfl
theorem k158_401 : px_cod 158 401 = some ((.getfield 204), 3, [199, 12, 0, 0], 15) := rfl
theorem k158_404 : px_cod 158 404 = some (.baload, 1, [], 0) := rfl
theorem k158_405 : px_cod 158 405 = some ((.bipush 61), 2, [], 61) := rfl
theorem k158_407 : px_cod 158 407 = some ((.if_icmp .ne 32), 3, [439], 0) := rfl
theorem k158_410 : px_cod 158 410 = some ((.aload_n 0), 1, [], 0) := rfl
theorem k158_411 : px_cod 158 411 = some ((.iload_n 1), 1, [], 1) := rfl
theorem k158_412 : px_cod 158 412 = some ((.bipush 60), 2, [], 60) := rfl
theorem k158_414 : px_cod 158 414 = some ((.if_icmp .ne 9), 3, [423], 0) := rfl
theorem k158_417 : px_cod 158 417 = some ((.sipush 300), 3, [], 300) := rfl
theorem k158_420 : px_cod 158 420 = some ((.goto 6), 3, [426], 0) := rfl
theorem k158_423 : px_cod 158 423 = some ((.sipush 301), 3, [], 301) := rfl
theorem k158_426 : px_cod 158 426 = some ((.putfield 225), 3, [202, 12, 0, 0], 18) := rfl
theorem k158_429 : px_cod 158 429 = some ((.aload_n 0), 1, [], 0) := rfl
theorem k158_430 : px_cod 158 430 = some (.dup, 1, [], 0) := rfl
theorem k158_431 : px_cod 158 431 = some ((.getfield 204), 3, [199, 12, 0, 0], 15) := rfl
theorem k158_434 : px_cod 158 434 = some ((.iconst 1), 1, [], 1) := rfl
theorem k158_435 : px_cod 158 435 = some (.iadd, 1, [], 0) := rfl
theorem k158_436 : px_cod 158 436 = some ((.putfield 204), 3, [199, 12, 0, 0], 15) := rfl
theorem k158_439 : px_cod 158 439 = some (.return_, 1, [], 0) := rfl
theorem k159_0 : px_cod 159 0 = some ((.aload_n 0), 1, [], 0) := rfl
theorem k159_1 : px_cod 159 1 = some ((.getfield 213), 3, [201, 12, 0, 0], 17) := rfl
theorem k159_4 : px_cod 159 4 = some ((.iconst 3), 1, [], 3) := rfl
theorem k159_5 : px_cod 159 5 = some ((.if_icmp .ne 15), 3, [20], 0) := rfl
theorem k159_8 : px_cod 159 8 = some ((.aload_n 0), 1, [], 0) := rfl
theorem k159_9 : px_cod 159 9 = some ((.getfield 225), 3, [202, 12, 0, 0], 18) := rfl
theorem k159_12 : px_cod 159 12 = some ((.iload_n 1), 1, [], 1) := rfl
theorem k159_13 : px_cod 159 13 = some ((.if_icmp .ne 7), 3, [20], 0) := rfl
theorem k159_16 : px_cod 159 16 = some ((.iconst 1), 1, [], 1) := rfl
theorem k159_17 : px_cod 159 17 = some ((.goto 4), 3, [21], 0) := rfl
theorem k159_20 : px_cod 159 20 = some ((.iconst 0), 1, [], 0) := rfl
theorem k159_21 : px_cod 159 21 = some (.ireturn, 1, [], 0) := rfl
theorem k160_0 : px_cod 160 0 = some ((.aload_n 0), 1, [], 0) := rfl
theorem k160_1 : px_cod 160 1 = some ((.getfield 213), 3, [201, 12, 0, 0], 17) := rfl
theorem k160_4 : px_cod 160 4 = some ((.iconst 1), 1, [], 1) := rfl
theorem k160_5 : px_cod 160 5 = some ((.if_icmp .ne 15), 3, [20], 0) := rfl
theorem k160_8 : px_cod 160 8 = some ((.aload_n 0), 1, [], 0) := rfl
theorem k160_9 : px_cod 160 9 = some ((.getfield 225), 3, [202, 12, 0, 0], 18) := rfl
theorem k160_12 : px_cod 160 12 = some ((.iload_n 1), 1, [], 1) := rfl
theorem k160_13 : px_cod 160 13 = some ((.if_icmp .ne 7), 3, [20], 0) := rfl
theorem k160_16 : px_cod 160 16 = some ((.iconst 1), 1, [], 1) := rfl
theorem k160_17 : px_cod 160 17 = some ((.goto 4), 3, [21], 0) := rfl
theorem k160_20 : px_cod 160 20 = some ((.iconst 0), 1, [], 0) := rfl
theorem k160_21 : px_cod 160 21 = some (.ireturn, 1, [], 0) := rfl
theorem k161_0 : px_cod 161 0 = some ((.aload_n 0), 1, [], 0) := rfl
theorem k161_1 : px_cod 161 1 = some ((.getfield 229), 3, [203, 12, 0, 0], 19) := rfl
theorem k161_4 : px_cod 161 4 = some ((.ifCond .ne 16), 3, [20], 0) := rfl
theorem k161_7 : px_cod 161 7 = some ((.aload_n 0), 1, [], 0) := rfl
theorem k161_8 : px_cod 161 8 = some ((.iload_n 1), 1, [], 1) := rfl
theorem k161_9 : px_cod 161 9 = some ((.putfield 229), 3, [203, 12, 0, 0], 19) := rfl
theorem k161_12 : px_cod 161 12 = some ((.aload_n 0), 1, [], 0) := rfl
theorem k161_13 : px_cod 161 13 = some ((.aload_n 0), 1, [], 0) := rfl
theorem k161_14 : px_cod 161 14 = some ((.getfield 210), 3, [200, 12, 0, 0], 16) := rfl
theorem k161_17 : px_cod 161 17 = some ((.putfield 232), 3, [204, 12, 0, 0], 20) := rfl
theorem k161_20 : px_cod 161 20 = some (.return_, 1, [], 0) := rfl
theorem k162_0 : px_cod 162 0 = some ((.aload_n 0), 1, [], 0) := rfl
theorem k162_1 : px_cod 162 1 = some ((.getfield 60), 3, [218, 12, 4, 1], 34) := rfl
theorem k162_4 : px_cod 162 4 = some ((.aload_n 0), 1, [], 0) := rfl
theorem k162_5 : px_cod 162 5 = some ((.getfield 235), 3, [217, 12, 0, 0], 33) := rfl
theorem k162_8 : px_cod 162 8 = some ((.iload_n 1), 1, [], 1) := rfl
theorem k162_9 : px_cod 162 9 = some (.iastore, 1, [], 0) := rfl
theorem k162_10 : px_cod 162 10 = some ((.aload_n 0), 1, [], 0) := rfl
theorem k162_11 : px_cod 162 11 = some ((.getfield 63), 3, [219, 12, 4, 1], 35) := rfl
theorem k162_14 : px_cod 162 14 = some ((.aload_n 0), 1, [], 0) := rfl
theorem k162_15 : px_cod 162 15 = some ((.getfield 235), 3, [217, 12, 0, 0], 33) := rfl
theorem k162_18 : px_cod 162 18 = some ((.iload_n 2), 1, [], 2) := rfl
theorem k162_19 : px_cod 162 19 = some (.iastore, 1, [], 0) := rfl
theorem k162_20 : px_cod 162 20 = some ((.aload_n 0), 1, [], 0) := rfl
theorem k162_21 : px_cod 162 21 = some (.dup, 1, [], 0) := rfl
theorem k162_22 : px_cod 162 22 = some ((.getfield 235), 3, [217, 12, 0, 0], 33) := rfl
theorem k162_25 : px_cod 162 25 = some ((.iconst 1), 1, [], 1) := rfl
theorem k162_26 : px_cod 162 26 = some (.iadd, 1, [], 0) := rfl
theorem k162_27 : px_cod 162 27 = some ((.putfield 235), 3, [217, 12, 0, 0], 33) := rfl
theorem k162_30 : px_cod 162 30 = some (.return_, 1, [], 0) := rfl
theorem k163_0 : px_cod 163 0 = some ((.aload_n 0), 1, [], 0) := rfl
theorem k163_1 : px_cod 163 1 = some ((.getfield 42), 3, [207, 12, 4, 1], 23) := rfl
theorem k163_4 : px_cod 163 4 = some ((.aload_n 0), 1, [], 0) := rfl
theorem k163_5 : px_cod 163 5 = some ((.getfield 238), 3, [206, 12, 0, 0], 22) := rfl
theorem k163_8 : px_cod 163 8 = some ((.iload_n 1), 1, [], 1) := rfl
theorem k163_9 : px_cod 163 9 = some (.iastore, 1, [], 0) := rfl
theorem k163_10 : px_cod 163 10 = some ((.aload_n 0), 1, [], 0) := rfl
theorem k163_11 : px_cod 163 11 = some (.dup, 1, [], 0) := rfl
theorem k163_12 : px_cod 163 12 = some ((.getfield 238), 3, [206, 12, 0, 0], 22) := rfl
theorem k163_15 : px_cod 163 15 = some ((.iconst 1), 1, [], 1) := rfl
theorem k163_16 : px_cod 163 16 = some (.iadd, 1, [], 0) := rfl
theorem k163_17 : px_cod 163 17 = some ((.putfield 238), 3, [206, 12, 0, 0], 22) := rfl
theorem k163_20 : px_cod 163 20 = some (.return_, 1, [], 0) := rfl
theorem k164_0 : px_cod 164 0 = some ((.aload_n 0), 1, [], 0) := rfl
theorem k164_1 : px_cod 164 1 = some ((.getfield 42), 3, [207, 12, 4, 1], 23) := rfl
theorem k164_4 : px_cod 164 4 = some ((.aload_n 0), 1, [], 0) := rfl
theorem k164_5 : px_cod 164 5 = some ((.getfield 238), 3, [206, 12, 0, 0], 22) := rfl
theorem k164_8 : px_cod 164 8 = some ((.iconst 1), 1, [], 1) := rfl
theorem k164_9 : px_cod 164 9 = some (.isub, 1, [], 0) := rfl
theorem k164_10 : px_cod 164 10 = some (.iaload, 1, [], 0) := rfl
theorem k164_11 : px_cod 164 11 = some (.ireturn, 1, [], 0) := rfl
theorem k165_0 : px_cod 165 0 = some ((.aload_n 0), 1, [], 0) := rfl
theorem k165_1 : px_cod 165 1 = some ((.getfield 241), 3, [205, 12, 0, 0], 21) := rfl
theorem k165_4 : px_cod 165 4 = some ((.bipush 8), 2, [], 8) := rfl
theorem k165_6 : px_cod 165 6 = some ((.if_icmp .ne 10), 3, [16], 0) := rfl
theorem k165_9 : px_cod 165 9 = some ((.aload_n 0), 1, [], 0) := rfl
theorem k165_10 : px_cod 165 10 = some ((.iconst 3), 1, [], 3) := rfl
theorem k165_11 : px_cod 165 11 = some ((.invokevirtual 244), 3, [0, 226, 161], 0) := rfl
theorem k165_14 : px_cod 165 14 = some ((.iconst 0), 1, [], 0) := rfl
theorem k165_15 : px_cod 165 15 = some (.ireturn, 1, [], 0) := rfl
theorem k165_16 : px_cod 165 16 = some ((.aload_n 0), 1, [], 0) := rfl
theorem k165_17 : px_cod 165 17 = some (.dup, 1, [], 0) := rfl
theorem k165_18 : px_cod 165 18 = some ((.getfield 241), 3, [205, 12, 0, 0], 21) := rfl
theorem k165_21 : px_cod 165 21 = some ((.iconst 1), 1, [], 1) := rfl
theorem k165_22 : px_cod 165 22 = some (.iadd, 1, [], 0) := rfl
theorem k165_23 : px_cod 165 23 = some ((.putfield 241), 3, [205, 12, 0, 0], 21) := rfl
theorem k165_26 : px_cod 165 26 = some ((.aload_n 0), 1, [], 0) := rfl
theorem k165_27 : px_cod 165 27 = some ((.iload_n 1), 1, [], 1) := rfl
theorem k165_28 : px_cod 165 28 = some ((.invokevirtual 247), 3, [0, 227, 163], 0) := rfl
theorem k165_31 : px_cod 165 31 = some ((.aload_n 0), 1, [], 0) := rfl
theorem k165_32 : px_cod 165 32 = some ((.invokevirtual 250), 3, [0, 220, 158], 0) := rfl
theorem k165_35 : px_cod 165 35 = some ((.iconst 1), 1, [], 1) := rfl
theorem k165_36 : px_cod 165 36 = some (.ireturn, 1, [], 0) := rfl
theorem k166_0 : px_cod 166 0 = some ((.iload_n 0), 1, [], 0) := rfl
theorem k166_1 : px_cod 166 1 = some ((.sipush 407), 3, [], 407) := rfl
theorem k166_4 : px_cod 166 4 = some ((.if_icmp .ne 7), 3, [11], 0) := rfl
theorem k166_7 : px_cod 166 7 = some ((.iconst 1), 1, [], 1) := rfl
theorem k166_8 : px_cod 166 8 = some ((.goto 31), 3, [39], 0) := rfl
theorem k166_11 : px_cod 166 11 = some ((.iload_n 0), 1, [], 0) := rfl
theorem k166_12 : px_cod 166 12 = some ((.sipush 406), 3, [], 406) := rfl
theorem k166_15 : px_cod 166 15 = some ((.if_icmp .ne 7), 3, [22], 0) := rfl
theorem k166_18 : px_cod 166 18 = some ((.iconst 2), 1, [], 2) := rfl
theorem k166_19 : px_cod 166 19 = some ((.goto 20), 3, [39], 0) := rfl
theorem k166_22 : px_cod 166 22 = some ((.iload_n 0), 1, [], 0) := rfl
theorem k166_23 : px_cod 166 23 = some ((.bipush 43), 2, [], 43) := rfl
theorem k166_25 : px_cod 166 25 = some ((.if_icmp .eq 9), 3, [34], 0) := rfl
theorem k166_28 : px_cod 166 28 = some ((.iload_n 0), 1, [], 0) := rfl
theorem k166_29 : px_cod 166 29 = some ((.bipush 45), 2, [], 45) := rfl
theorem k166_31 : px_cod 166 31 = some ((.if_icmp .ne 7), 3, [38], 0) := rfl
theorem k166_34 : px_cod 166 34 = some ((.iconst 3), 1, [], 3) := rfl
theorem k166_35 : px_cod 166 35 = some ((.goto 4), 3, [39], 0) := rfl
theorem k166_38 : px_cod 166 38 = some ((.iconst 4), 1, [], 4) := rfl
theorem k166_39 : px_cod 166 39 = some (.ireturn, 1, [], 0) := rfl
theorem k167_0 : px_cod 167 0 = some ((.aload_n 0), 1, [], 0) := rfl
theorem k167_1 : px_cod 167 1 = some ((.getfield 253), 3, [209, 12, 0, 0], 25) := rfl
theorem k167_4 : px_cod 167 4 = some ((.ifCond .le 66), 3, [70], 0) := rfl
theorem k167_7 : px_cod 167 7 = some ((.aload_n 0), 1, [], 0) := rfl
theorem k167_8 : px_cod 167 8 = some ((.getfield 51), 3, [211, 12, 4, 1], 27) := rfl
theorem k167_11 : px_cod 167 11 = some ((.aload_n 0), 1, [], 0) := rfl
theorem k167_12 : px_cod 167 12 = some ((.getfield 253), 3, [209, 12, 0, 0], 25) := rfl
theorem k167_15 : px_cod 167 15 = some ((.iconst 1), 1, [], 1) := rfl
theorem k167_16 : px_cod 167 16 = some (.isub, 1, [], 0) := rfl
theorem k167_17 : px_cod 167 17 = some (.iaload, 1, [], 0) := rfl
theorem k167_18 : px_cod 167 18 = some ((.aload_n 0), 1, [], 0) := rfl
theorem k167_19 : px_cod 167 19 = some ((.getfield 238), 3, [206, 12, 0, 0], 22) := rfl
theorem k167_22 : px_cod 167 22 = some ((.if_icmp .ne 48), 3, [70], 0) := rfl
theorem k167_25 : px_cod 167 25 = some ((.aload_n 0), 1, [], 0) := rfl
theorem k167_26 : px_cod 167 26 = some ((.getfield 48), 3, [210, 12, 4, 1], 26) := rfl
theorem k167_29 : px_cod 167 29 = some ((.aload_n 0), 1, [], 0) := rfl
theorem k167_30 : px_cod 167 30 = some ((.getfield 253), 3, [209, 12, 0, 0], 25) := rfl
theorem k167_33 : px_cod 167 33 = some ((.iconst 1), 1, [], 1) := rfl
theorem k167_34 : px_cod 167 34 = some (.isub, 1, [], 0) := rfl
theorem k167_35 : px_cod 167 35 = some (.iaload, 1, [], 0) := rfl
theorem k167_36 : px_cod 167 36 = some ((.invokestatic 256), 3, [0, 236, 166], 0) := rfl
theorem k167_39 : px_cod 167 39 = some ((.iload_n 1), 1, [], 1) := rfl
theorem k167_40 : px_cod 167 40 = some ((.if_icmp .lt 30), 3, [70], 0) := rfl
theorem k167_43 : px_cod 167 43 = some ((.aload_n 0), 1, [], 0) := rfl
theorem k167_44 : px_cod 167 44 = some (.dup, 1, [], 0) := rfl
theorem k167_45 : px_cod 167 45 = some ((.getfield 253), 3, [209, 12, 0, 0], 25) := rfl
theorem k167_48 : px_cod 167 48 = some ((.iconst 1), 1, [], 1) := rfl
theorem k167_49 : px_cod 167 49 = some (.isub, 1, [], 0) := rfl
theorem k167_50 : px_cod 167 50 = some ((.putfield 253), 3, [209, 12, 0, 0], 25) := rfl
theorem k167_53 : px_cod 167 53 = some ((.aload_n 0), 1, [], 0) := rfl
theorem k167_54 : px_cod 167 54 = some ((.aload_n 0), 1, [], 0) := rfl
theorem k167_55 : px_cod 167 55 = some ((.getfield 48), 3, [210, 12, 4, 1], 26) := rfl
theorem k167_58 : px_cod 167 58 = some ((.aload_n 0), 1, [], 0) := rfl
theorem k167_59 : px_cod 167 59 = some ((.getfield 253), 3, [209, 12, 0, 0], 25) := rfl
theorem k167_62 : px_cod 167 62 = some (.iaload, 1, [], 0) := rfl
theorem k167_63 : px_cod 167 63 = some ((.iconst 0), 1, [], 0) := rfl
theorem k167_64 : px_cod 167 64 = some ((.invokevirtual 260), 3, [0, 229, 162], 0) := rfl
theorem k167_67 : px_cod 167 67 = some ((.goto (-67)), 3, [0], 0) := rfl
theorem k167_70 : px_cod 167 70 = some (.return_, 1, [], 0) := rfl
theorem k168_0 : px_cod 168 0 = some ((.aload_n 0), 1, [], 0) := rfl
theorem k168_1 : px_cod 168 1 = some ((.iload_n 1), 1, [], 1) := rfl
theorem k168_2 : px_cod 168 2 = some ((.invokestatic 256), 3, [0, 236, 166], 0) := rfl
theorem k168_5 : px_cod 168 5 = some ((.invokevirtual 264), 3, [0, 237, 167], 0) := rfl
theorem k168_8 : px_cod 168 8 = some ((.aload_n 0), 1, [], 0) := rfl
theorem k168_9 : px_cod 168 9 = some ((.getfield 48), 3, [210, 12, 4, 1], 26) := rfl
theorem k168_12 : px_cod 168 12 = some ((.aload_n 0), 1, [], 0) := rfl
theorem k168_13 : px_cod 168 13 = some ((.getfield 253), 3, [209, 12, 0, 0], 25) := rfl
theorem k168_16 : px_cod 168 16 = some ((.iload_n 1), 1, [], 1) := rfl
theorem k168_17 : px_cod 168 17 = some (.iastore, 1, [], 0) := rfl
theorem k168_18 : px_cod 168 18 = some ((.aload_n 0), 1, [], 0) := rfl
theorem k168_19 : px_cod 168 19 = some ((.getfield 51), 3, [211, 12, 4, 1], 27) := rfl
theorem k168_22 : px_cod 168 22 = some ((.aload_n 0), 1, [], 0) := rfl
theorem k168_23 : px_cod 168 23 = some ((.getfield 253), 3, [209, 12, 0, 0], 25) := rfl
theorem k168_26 : px_cod 168 26 = some ((.aload_n 0), 1, [], 0) := rfl
theorem k168_27 : px_cod 168 27 = some ((.getfield 238), 3, [206, 12, 0, 0], 22) := rfl
theorem k168_30 : px_cod 168 30 = some (.iastore, 1, [], 0) := rfl
theorem k168_31 : px_cod 168 31 = some ((.aload_n 0), 1, [], 0) := rfl
theorem k168_32 : px_cod 168 32 = some (.dup, 1, [], 0) := rfl
theorem k168_33 : px_cod 168 33 = some ((.getfield 253), 3, [209, 12, 0, 0], 25) := rfl
theorem k168_36 : px_cod 168 36 = some ((.iconst 1), 1, [], 1) := rfl
theorem k168_37 : px_cod 168 37 = some (.iadd, 1, [], 0) := rfl
theorem k168_38 : px_cod 168 38 = some ((.putfield 253), 3, [209, 12, 0, 0], 25) := rfl
theorem k168_41 : px_cod 168 41 = some ((.aload_n 0), 1, [], 0) := rfl
theorem k168_42 : px_cod 168 42 = some ((.invokevirtual 250), 3, [0, 220, 158], 0) := rfl
theorem k168_45 : px_cod 168 45 = some (.return_, 1, [], 0) := rfl
theorem k169_0 : px_cod 169 0 = some ((.aload_n 0), 1, [], 0) := rfl
theorem k169_1 : px_cod 169 1 = some ((.bipush 8), 2, [], 8) := rfl
theorem k169_3 : px_cod 169 3 = some ((.invokevirtual 267), 3, [0, 224, 160], 0) := rfl
theorem k169_6 : px_cod 169 6 = some ((.ifCond .eq 12), 3, [18], 0) := rfl
theorem k169_9 : px_cod 169 9 = some ((.aload_n 0), 1, [], 0) := rfl
theorem k169_10 : px_cod 169 10 = some ((.iconst 3), 1, [], 3) := rfl
theorem k169_11 : px_cod 169 11 = some ((.invokevirtual 270), 3, [0, 225, 165], 0) := rfl
theorem k169_14 : px_cod 169 14 = some ((.istore_n 1), 1, [], 1) := rfl
theorem k169_15 : px_cod 169 15 = some ((.goto 13), 3, [28], 0) := rfl
theorem k169_18 : px_cod 169 18 = some ((.aload_n 0), 1, [], 0) := rfl
theorem k169_19 : px_cod 169 19 = some ((.iconst 4), 1, [], 4) := rfl
theorem k169_20 : px_cod 169 20 = some ((.invokevirtual 247), 3, [0, 227, 163], 0) := rfl
theorem k169_23 : px_cod 169 23 = some ((.aload_n 0), 1, [], 0) := rfl
theorem k169_24 : px_cod 169 24 = some ((.iconst 1), 1, [], 1) := rfl
theorem k169_25 : px_cod 169 25 = some ((.putfield 273), 3, [212, 12, 0, 0], 28) := rfl
theorem k169_28 : px_cod 169 28 = some (.return_, 1, [], 0) := rfl
theorem k170_0 : px_cod 170 0 = some ((.aload_n 0), 1, [], 0) := rfl
theorem k170_1 : px_cod 170 1 = some ((.getfield 276), 3, [214, 12, 0, 0], 30) := rfl
theorem k170_4 : px_cod 170 4 = some ((.tableswitch 117 0 5 #[40, 117, 51, 79, 117, 91]), 40, [121, 44, 121, 55, 83, 121, 95], 0) := rfl
theorem k170_44 : px_cod 170 44 = some ((.iload_n 1), 1, [], 1) := rfl
theorem k170_45 : px_cod 170 45 = some ((.iconst 3), 1, [], 3) := rfl
theorem k170_46 : px_cod 170 46 = some ((.if_icmp .ge 7), 3, [53], 0) := rfl
theorem k170_49 : px_cod 170 49 = some ((.iconst 1), 1, [], 1) := rfl
theorem k170_50 : px_cod 170 50 = some ((.goto 4), 3, [54], 0) := rfl
theorem k170_53 : px_cod 170 53 = some ((.iconst 0), 1, [], 0) := rfl
theorem k170_54 : px_cod 170 54 = some (.ireturn, 1, [], 0) := rfl
theorem k170_55 : px_cod 170 55 = some ((.iload_n 1), 1, [], 1) := rfl
theorem k170_56 : px_cod 170 56 = some ((.iconst 3), 1, [], 3) := rfl
theorem k170_57 : px_cod 170 57 = some ((.if_icmp .eq 20), 3, [77], 0) := rfl
theorem k170_60 : px_cod 170 60 = some ((.iload_n 1), 1, [], 1) := rfl
theorem k170_61 : px_cod 170 61 = some ((.bipush 6), 2, [], 6) := rfl
theorem k170_63 : px_cod 170 63 = some ((.if_icmp .eq 14), 3, [77], 0) := rfl
theorem k170_66 : px_cod 170 66 = some ((.iload_n 1), 1, [], 1) := rfl
theorem k170_67 : px_cod 170 67 = some ((.bipush 11), 2, [], 11) := rfl
theorem k170_69 : px_cod 170 69 = some ((.bipush 13), 2, [], 13) := rfl
theorem k170_71 : px_cod 170 71 = some ((.invokestatic 138), 3, [0, 209, 141], 0) := rfl
theorem k170_74 : px_cod 170 74 = some ((.ifCond .eq 7), 3, [81], 0) := rfl
theorem k170_77 : px_cod 170 77 = some ((.iconst 1), 1, [], 1) := rfl
theorem k170_78 : px_cod 170 78 = some ((.goto 4), 3, [82], 0) := rfl
theorem k170_81 : px_cod 170 81 = some ((.iconst 0), 1, [], 0) := rfl
theorem k170_82 : px_cod 170 82 = some (.ireturn, 1, [], 0) := rfl
theorem k170_83 : px_cod 170 83 = some ((.iload_n 1), 1, [], 1) := rfl
theorem k170_84 : px_cod 170 84 = some ((.bipush 14), 2, [], 14) := rfl
theorem k170_86 : px_cod 170 86 = some ((.if_icmp .ne 7), 3, [93], 0) := rfl
theorem k170_89 : px_cod 170 89 = some ((.iconst 1), 1, [], 1) := rfl
theorem k170_90 : px_cod 170 90 = some ((.goto 4), 3, [94], 0) := rfl
theorem k170_93 : px_cod 170 93 = some ((.iconst 0), 1, [], 0) := rfl
theorem k170_94 : px_cod 170 94 = some (.ireturn, 1, [], 0) := rfl
theorem k170_95 : px_cod 170 95 = some ((.iload_n 1), 1, [], 1) := rfl
theorem k170_96 : px_cod 170 96 = some ((.ifCond .eq 19), 3, [115], 0) := rfl
theorem k170_99 : px_cod 170 99 = some ((.iload_n 1), 1, [], 1) := rfl
theorem k170_100 : px_cod 170 100 = some ((.iconst 3), 1, [], 3) := rfl
theorem k170_101 : px_cod 170 101 = some ((.if_icmp .eq 14), 3, [115], 0) := rfl
theorem k170_104 : px_cod 170 104 = some ((.iload_n 1), 1, [], 1) := rfl
theorem k170_105 : px_cod 170 105 = some ((.iconst 5), 1, [], 5) := rfl
theorem k170_106 : px_cod 170 106 = some ((.if_icmp .eq 9), 3, [115], 0) := rfl
theorem k170_109 : px_cod 170 109 = some ((.iload_n 1), 1, [], 1) := rfl
theorem k170_110 : px_cod 170 110 = some ((.bipush 10), 2, [], 10) := rfl
theorem k170_112 : px_cod 170 112 = some ((.if_icmp .ne 7), 3, [119], 0) := rfl
theorem k170_115 : px_cod 170 115 = some ((.iconst 1), 1, [], 1) := rfl
theorem k170_116 : px_cod 170 116 = some ((.goto 4), 3, [120], 0) := rfl
theorem k170_119 : px_cod 170 119 = some ((.iconst 0), 1, [], 0) := rfl
theorem k170_120 : px_cod 170 120 = some (.ireturn, 1, [], 0) := rfl
theorem k170_121 : px_cod 170 121 = some ((.iload_n 1), 1, [], 1) := rfl
theorem k170_122 : px_cod 170 122 = some ((.ifCond .eq 13), 3, [135], 0) := rfl
theorem k170_125 : px_cod 170 125 = some ((.iload_n 1), 1, [], 1) := rfl
theorem k170_126 : px_cod 170 126 = some ((.iconst 3), 1, [], 3) := rfl
theorem k170_127 : px_cod 170 127 = some ((.bipush 9), 2, [], 9) := rfl
theorem k170_129 : px_cod 170 129 = some ((.invokestatic 138), 3, [0, 209, 141], 0) := rfl
theorem k170_132 : px_cod 170 132 = some ((.ifCond .eq 7), 3, [139], 0) := rfl
theorem k170_135 : px_cod 170 135 = some ((.iconst 1), 1, [], 1) := rfl
theorem k170_136 : px_cod 170 136 = some ((.goto 4), 3, [140], 0) := rfl
theorem k170_139 : px_cod 170 139 = some ((.iconst 0), 1, [], 0) := rfl
theorem k170_140 : px_cod 170 140 = some (.ireturn, 1, [], 0) := rfl
theorem k171_0 : px_cod 171 0 = some ((.aload_n 0), 1, [], 0) := rfl
theorem k171_1 : px_cod 171 1 = some ((.getfield 213), 3, [201, 12, 0, 0], 17) := rfl
theorem k171_4 : px_cod 171 4 = some ((.iconst 2), 1, [], 2) := rfl
theorem k171_5 : px_cod 171 5 = some ((.if_icmp .ne 41), 3, [46], 0) := rfl
theorem k171_8 : px_cod 171 8 = some ((.aload_n 0), 1, [], 0) := rfl
theorem k171_9 : px_cod 171 9 = some ((.getfield 225), 3, [202, 12, 0, 0], 18) := rfl
theorem k171_12 : px_cod 171 12 = some ((.sipush 9999), 3, [], 9999) := rfl
theorem k171_15 : px_cod 171 15 = some ((.if_icmp .le 9), 3, [24], 0) := rfl
theorem k171_18 : px_cod 171 18 = some ((.aload_n 0), 1, [], 0) := rfl
theorem k171_19 : px_cod 171 19 = some ((.iconst 2), 1, [], 2) := rfl
theorem k171_20 : px_cod 171 20 = some ((.invokevirtual 244), 3, [0, 226, 161], 0) := rfl
theorem k171_23 : px_cod 171 23 = some (.return_, 1, [], 0) := rfl
theorem k171_24 : px_cod 171 24 = some ((.aload_n 0), 1, [], 0) := rfl
theorem k171_25 : px_cod 171 25 = some ((.sipush 400), 3, [], 400) := rfl
theorem k171_28 : px_cod 171 28 = some ((.aload_n 0), 1, [], 0) := rfl
theorem k171_29 : px_cod 171 29 = some ((.getfield 225), 3, [202, 12, 0, 0], 18) := rfl
theorem k171_32 : px_cod 171 32 = some ((.invokevirtual 260), 3, [0, 229, 162], 0) := rfl
theorem k171_35 : px_cod 171 35 = some ((.aload_n 0), 1, [], 0) := rfl
theorem k171_36 : px_cod 171 36 = some ((.invokevirtual 250), 3, [0, 220, 158], 0) := rfl
theorem k171_39 : px_cod 171 39 = some ((.aload_n 0), 1, [], 0) := rfl
theorem k171_40 : px_cod 171 40 = some ((.invokevirtual 279), 3, [0, 230, 172], 0) := rfl
theorem k171_43 : px_cod 171 43 = some ((.goto 112), 3, [155], 0) := rfl
theorem k171_46 : px_cod 171 46 = some ((.aload_n 0), 1, [], 0) := rfl
theorem k171_47 : px_cod 171 47 = some ((.getfield 213), 3, [201, 12, 0, 0], 17) := rfl
theorem k171_50 : px_cod 171 50 = some ((.iconst 1), 1, [], 1) := rfl
theorem k171_51 : px_cod 171 51 = some ((.if_icmp .ne 61), 3, [112], 0) := rfl
theorem k171_54 : px_cod 171 54 = some ((.aload_n 0), 1, [], 0) := rfl
theorem k171_55 : px_cod 171 55 = some ((.getfield 225), 3, [202, 12, 0, 0], 18) := rfl
theorem k171_58 : px_cod 171 58 = some ((.bipush 8), 2, [], 8) := rfl
theorem k171_60 : px_cod 171 60 = some ((.if_icmp .le 52), 3, [112], 0) := rfl
theorem k171_63 : px_cod 171 63 = some ((.aload_n 0), 1, [], 0) := rfl
theorem k171_64 : px_cod 171 64 = some ((.aload_n 0), 1, [], 0) := rfl
theorem k171_65 : px_cod 171 65 = some ((.getfield 225), 3, [202, 12, 0, 0], 18) := rfl
theorem k171_68 : px_cod 171 68 = some ((.bipush 8), 2, [], 8) := rfl
theorem k171_70 : px_cod 171 70 = some (.isub, 1, [], 0) := rfl
theorem k171_71 : px_cod 171 71 = some ((.iconst 1), 1, [], 1) := rfl
theorem k171_72 : px_cod 171 72 = some (.isub, 1, [], 0) := rfl
theorem k171_73 : px_cod 171 73 = some ((.invokevirtual 282), 3, [0, 232, 170], 0) := rfl
theorem k171_76 : px_cod 171 76 = some ((.ifCond .ne 9), 3, [85], 0) := rfl
theorem k171_79 : px_cod 171 79 = some ((.aload_n 0), 1, [], 0) := rfl
theorem k171_80 : px_cod 171 80 = some ((.iconst 5), 1, [], 5) := rfl
theorem k171_81 : px_cod 171 81 = some ((.invokevirtual 244), 3, [0, 226, 161], 0) := rfl
theorem k171_84 : px_cod 171 84 = some (.return_, 1, [], 0) := rfl
theorem k171_85 : px_cod 171 85 = some ((.aload_n 0), 1, [], 0) := rfl
theorem k171_86 : px_cod 171 86 = some ((.sipush 401), 3, [], 401) := rfl
theorem k171_89 : px_cod 171 89 = some ((.aload_n 0), 1, [], 0) := rfl
theorem k171_90 : px_cod 171 90 = some ((.getfield 225), 3, [202, 12, 0, 0], 18) := rfl
theorem k171_93 : px_cod 171 93 = some ((.bipush 8), 2, [], 8) := rfl
theorem k171_95 : px_cod 171 95 = some (.isub, 1, [], 0) := rfl
theorem k171_96 : px_cod 171 96 = some ((.iconst 1), 1, [], 1) := rfl
theorem k171_97 : px_cod 171 97 = some (.isub, 1, [], 0) := rfl
theorem k171_98 : px_cod 171 98 = some ((.invokevirtual 260), 3, [0, 229, 162], 0) := rfl
theorem k171_101 : px_cod 171 101 = some ((.aload_n 0), 1, [], 0) := rfl
theorem k171_102 : px_cod 171 102 = some ((.invokevirtual 250), 3, [0, 220, 158], 0) := rfl
theorem k171_105 : px_cod 171 105 = some ((.aload_n 0), 1, [], 0) := rfl
theorem k171_106 : px_cod 171 106 = some ((.invokevirtual 279), 3, [0, 230, 172], 0) := rfl
theorem k171_109 : px_cod 171 109 = some ((.goto 46), 3, [155], 0) := rfl
theorem k171_112 : px_cod 171 112 = some ((.aload_n 0), 1, [], 0) := rfl
theorem k171_113 : px_cod 171 113 = some ((.bipush 40), 2, [], 40) := rfl
theorem k171_115 : px_cod 171 115 = some ((.invokevirtual 285), 3, [0, 233, 159], 0) := rfl
theorem k171_118 : px_cod 171 118 = some ((.ifCond .eq 13), 3, [131], 0) := rfl
theorem k171_121 : px_cod 171 121 = some ((.aload_n 0), 1, [], 0) := rfl
theorem k171_122 : px_cod 171 122 = some ((.bipush 6), 2, [], 6) := rfl
theorem k171_124 : px_cod 171 124 = some ((.invokevirtual 270), 3, [0, 225, 165], 0) := rfl
theorem k171_127 : px_cod 171 127 = some ((.istore_n 1), 1, [], 1) := rfl
theorem k171_128 : px_cod 171 128 = some ((.goto 27), 3, [155], 0) := rfl
theorem k171_131 : px_cod 171 131 = some ((.aload_n 0), 1, [], 0) := rfl
theorem k171_132 : px_cod 171 132 = some ((.bipush 45), 2, [], 45) := rfl
theorem k171_134 : px_cod 171 134 = some ((.invokevirtual 285), 3, [0, 233, 159], 0) := rfl
theorem k171_137 : px_cod 171 137 = some ((.ifCond .eq 13), 3, [150], 0) := rfl
theorem k171_140 : px_cod 171 140 = some ((.aload_n 0), 1, [], 0) := rfl
theorem k171_141 : px_cod 171 141 = some ((.bipush 7), 2, [], 7) := rfl
theorem k171_143 : px_cod 171 143 = some ((.invokevirtual 270), 3, [0, 225, 165], 0) := rfl
theorem k171_146 : px_cod 171 146 = some ((.istore_n 1), 1, [], 1) := rfl
theorem k171_147 : px_cod 171 147 = some ((.goto 8), 3, [155], 0) := rfl
theorem k171_150 : px_cod 171 150 = some ((.aload_n 0), 1, [], 0) := rfl
theorem k171_151 : px_cod 171 151 = some ((.iconst 1), 1, [], 1) := rfl
theorem k171_152 : px_cod 171 152 = some ((.invokevirtual 244), 3, [0, 226, 161], 0) := rfl
theorem k171_155 : px_cod 171 155 = some (.return_, 1, [], 0) := rfl
theorem k172_0 : px_cod 172 0 = some ((.aload_n 0), 1, [], 0) := rfl
theorem k172_1 : px_cod 172 1 = some ((.invokevirtual 288), 3, [0, 231, 164], 0) := rfl
theorem k172_4 : px_cod 172 4 = some ((.bipush 7), 2, [], 7) := rfl
theorem k172_6 : px_cod 172 6 = some ((.if_icmp .ne 34), 3, [40], 0) := rfl
theorem k172_9 : px_cod 172 9 = some ((.aload_n 0), 1, [], 0) := rfl
theorem k172_10 : px_cod 172 10 = some (.dup, 1, [], 0) := rfl
theorem k172_11 : px_cod 172 11 = some ((.getfield 238), 3, [206, 12, 0, 0], 22) := rfl
theorem k172_14 : px_cod 172 14 = some ((.iconst 1), 1, [], 1) := rfl
theorem k172_15 : px_cod 172 15 = some (.isub, 1, [], 0) := rfl
theorem k172_16 : px_cod 172 16 = some ((.putfield 238), 3, [206, 12, 0, 0], 22) := rfl
theorem k172_19 : px_cod 172 19 = some ((.aload_n 0), 1, [], 0) := rfl
theorem k172_20 : px_cod 172 20 = some (.dup, 1, [], 0) := rfl
theorem k172_21 : px_cod 172 21 = some ((.getfield 241), 3, [205, 12, 0, 0], 21) := rfl
theorem k172_24 : px_cod 172 24 = some ((.iconst 1), 1, [], 1) := rfl
theorem k172_25 : px_cod 172 25 = some (.isub, 1, [], 0) := rfl
theorem k172_26 : px_cod 172 26 = some ((.putfield 241), 3, [205, 12, 0, 0], 21) := rfl
theorem k172_29 : px_cod 172 29 = some ((.aload_n 0), 1, [], 0) := rfl
theorem k172_30 : px_cod 172 30 = some ((.sipush 402), 3, [], 402) := rfl
theorem k172_33 : px_cod 172 33 = some ((.iconst 0), 1, [], 0) := rfl
theorem k172_34 : px_cod 172 34 = some ((.invokevirtual 260), 3, [0, 229, 162], 0) := rfl
theorem k172_37 : px_cod 172 37 = some ((.goto (-37)), 3, [0], 0) := rfl
theorem k172_40 : px_cod 172 40 = some ((.aload_n 0), 1, [], 0) := rfl
theorem k172_41 : px_cod 172 41 = some ((.iconst 2), 1, [], 2) := rfl
theorem k172_42 : px_cod 172 42 = some ((.putfield 273), 3, [212, 12, 0, 0], 28) := rfl
theorem k172_45 : px_cod 172 45 = some (.return_, 1, [], 0) := rfl
theorem k173_0 : px_cod 173 0 = some ((.aload_n 0), 1, [], 0) := rfl
theorem k173_1 : px_cod 173 1 = some ((.invokevirtual 288), 3, [0, 231, 164], 0) := rfl
theorem k173_4 : px_cod 173 4 = some ((.iconst 3), 1, [], 3) := rfl
theorem k173_5 : px_cod 173 5 = some ((.if_icmp .ne 34), 3, [39], 0) := rfl
theorem k173_8 : px_cod 173 8 = some ((.aload_n 0), 1, [], 0) := rfl
theorem k173_9 : px_cod 173 9 = some (.dup, 1, [], 0) := rfl
theorem k173_10 : px_cod 173 10 = some ((.getfield 238), 3, [206, 12, 0, 0], 22) := rfl
theorem k173_13 : px_cod 173 13 = some ((.iconst 1), 1, [], 1) := rfl
theorem k173_14 : px_cod 173 14 = some (.isub, 1, [], 0) := rfl
theorem k173_15 : px_cod 173 15 = some ((.putfield 238), 3, [206, 12, 0, 0], 22) := rfl
theorem k173_18 : px_cod 173 18 = some ((.aload_n 0), 1, [], 0) := rfl
theorem k173_19 : px_cod 173 19 = some (.dup, 1, [], 0) := rfl
theorem k173_20 : px_cod 173 20 = some ((.getfield 241), 3, [205, 12, 0, 0], 21) := rfl
theorem k173_23 : px_cod 173 23 = some ((.iconst 1), 1, [], 1) := rfl
theorem k173_24 : px_cod 173 24 = some (.isub, 1, [], 0) := rfl
theorem k173_25 : px_cod 173 25 = some ((.putfield 241), 3, [205, 12, 0, 0], 21) := rfl
theorem k173_28 : px_cod 173 28 = some ((.aload_n 0), 1, [], 0) := rfl
theorem k173_29 : px_cod 173 29 = some ((.sipush 405), 3, [], 405) := rfl
theorem k173_32 : px_cod 173 32 = some ((.iconst 0), 1, [], 0) := rfl
theorem k173_33 : px_cod 173 33 = some ((.invokevirtual 260), 3, [0, 229, 162], 0) := rfl
theorem k173_36 : px_cod 173 36 = some ((.goto (-36)), 3, [0], 0) := rfl
theorem k173_39 : px_cod 173 39 = some ((.aload_n 0), 1, [], 0) := rfl
theorem k173_40 : px_cod 173 40 = some ((.iconst 3), 1, [], 3) := rfl
theorem k173_41 : px_cod 173 41 = some ((.putfield 273), 3, [212, 12, 0, 0], 28) := rfl
theorem k173_44 : px_cod 173 44 = some (.return_, 1, [], 0) := rfl
theorem k174_0 : px_cod 174 0 = some ((.iload_n 0), 1, [], 0) := rfl
theorem k174_1 : px_cod 174 1 = some ((.bipush 60), 2, [], 60) := rfl
theorem k174_3 : px_cod 174 3 = some ((.if_icmp .eq 35), 3, [38], 0) := rfl
theorem k174_6 : px_cod 174 6 = some ((.iload_n 0), 1, [], 0) := rfl
theorem k174_7 : px_cod 174 7 = some ((.bipush 62), 2, [], 62) := rfl
theorem k174_9 : px_cod 174 9 = some ((.if_icmp .eq 29), 3, [38], 0) := rfl
theorem k174_12 : px_cod 174 12 = some ((.iload_n 0), 1, [], 0) := rfl
theorem k174_13 : px_cod 174 13 = some ((.bipush 61), 2, [], 61) := rfl
theorem k174_15 : px_cod 174 15 = some ((.if_icmp .eq 23), 3, [38], 0) := rfl
theorem k174_18 : px_cod 174 18 = some ((.iload_n 0), 1, [], 0) := rfl
theorem k174_19 : px_cod 174 19 = some ((.bipush 35), 2, [], 35) := rfl
theorem k174_21 : px_cod 174 21 = some ((.if_icmp .eq 17), 3, [38], 0) := rfl
theorem k174_24 : px_cod 174 24 = some ((.iload_n 0), 1, [], 0) := rfl
theorem k174_25 : px_cod 174 25 = some ((.sipush 300), 3, [], 300) := rfl
theorem k174_28 : px_cod 174 28 = some ((.if_icmp .eq 10), 3, [38], 0) := rfl
theorem k174_31 : px_cod 174 31 = some ((.iload_n 0), 1, [], 0) := rfl
theorem k174_32 : px_cod 174 32 = some ((.sipush 301), 3, [], 301) := rfl
theorem k174_35 : px_cod 174 35 = some ((.if_icmp .ne 7), 3, [42], 0) := rfl
theorem k174_38 : px_cod 174 38 = some ((.iconst 1), 1, [], 1) := rfl
theorem k174_39 : px_cod 174 39 = some ((.goto 4), 3, [43], 0) := rfl
theorem k174_42 : px_cod 174 42 = some ((.iconst 0), 1, [], 0) := rfl
theorem k174_43 : px_cod 174 43 = some (.ireturn, 1, [], 0) := rfl
theorem k175_0 : px_cod 175 0 = some ((.aload_n 0), 1, [], 0) := rfl
theorem k175_1 : px_cod 175 1 = some ((.invokevirtual 288), 3, [0, 231, 164], 0) := rfl
theorem k175_4 : px_cod 175 4 = some ((.istore_n 1), 1, [], 1) := rfl
theorem k175_5 : px_cod 175 5 = some ((.aload_n 0), 1, [], 0) := rfl
theorem k175_6 : px_cod 175 6 = some ((.getfield 213), 3, [201, 12, 0, 0], 17) := rfl
theorem k175_9 : px_cod 175 9 = some ((.iconst 3), 1, [], 3) := rfl
theorem k175_10 : px_cod 175 10 = some ((.if_icmp .ne 55), 3, [65], 0) := rfl
theorem k175_13 : px_cod 175 13 = some ((.aload_n 0), 1, [], 0) := rfl
theorem k175_14 : px_cod 175 14 = some ((.getfield 225), 3, [202, 12, 0, 0], 18) := rfl
theorem k175_17 : px_cod 175 17 = some ((.bipush 43), 2, [], 43) := rfl
theorem k175_19 : px_cod 175 19 = some ((.if_icmp .eq 30), 3, [49], 0) := rfl
theorem k175_22 : px_cod 175 22 = some ((.aload_n 0), 1, [], 0) := rfl
theorem k175_23 : px_cod 175 23 = some ((.getfield 225), 3, [202, 12, 0, 0], 18) := rfl
theorem k175_26 : px_cod 175 26 = some ((.bipush 45), 2, [], 45) := rfl
theorem k175_28 : px_cod 175 28 = some ((.if_icmp .eq 21), 3, [49], 0) := rfl
theorem k175_31 : px_cod 175 31 = some ((.aload_n 0), 1, [], 0) := rfl
theorem k175_32 : px_cod 175 32 = some ((.getfield 225), 3, [202, 12, 0, 0], 18) := rfl
theorem k175_35 : px_cod 175 35 = some ((.bipush 42), 2, [], 42) := rfl
theorem k175_37 : px_cod 175 37 = some ((.if_icmp .eq 12), 3, [49], 0) := rfl
theorem k175_40 : px_cod 175 40 = some ((.aload_n 0), 1, [], 0) := rfl
theorem k175_41 : px_cod 175 41 = some ((.getfield 225), 3, [202, 12, 0, 0], 18) := rfl
theorem k175_44 : px_cod 175 44 = some ((.bipush 47), 2, [], 47) := rfl
theorem k175_46 : px_cod 175 46 = some ((.if_icmp .ne 19), 3, [65], 0) := rfl
theorem k175_49 : px_cod 175 49 = some ((.aload_n 0), 1, [], 0) := rfl
theorem k175_50 : px_cod 175 50 = some ((.aload_n 0), 1, [], 0) := rfl
theorem k175_51 : px_cod 175 51 = some ((.getfield 225), 3, [202, 12, 0, 0], 18) := rfl
theorem k175_54 : px_cod 175 54 = some ((.invokevirtual 292), 3, [0, 235, 168], 0) := rfl
theorem k175_57 : px_cod 175 57 = some ((.aload_n 0), 1, [], 0) := rfl
theorem k175_58 : px_cod 175 58 = some ((.iconst 1), 1, [], 1) := rfl
theorem k175_59 : px_cod 175 59 = some ((.putfield 273), 3, [212, 12, 0, 0], 28) := rfl
theorem k175_62 : px_cod 175 62 = some ((.goto 188), 3, [250], 0) := rfl
theorem k175_65 : px_cod 175 65 = some ((.iload_n 1), 1, [], 1) := rfl
theorem k175_66 : px_cod 175 66 = some ((.bipush 6), 2, [], 6) := rfl
theorem k175_68 : px_cod 175 68 = some ((.if_icmp .ne 48), 3, [116], 0) := rfl
theorem k175_71 : px_cod 175 71 = some ((.aload_n 0), 1, [], 0) := rfl
theorem k175_72 : px_cod 175 72 = some ((.bipush 41), 2, [], 41) := rfl
theorem k175_74 : px_cod 175 74 = some ((.invokevirtual 285), 3, [0, 233, 159], 0) := rfl
theorem k175_77 : px_cod 175 77 = some ((.ifCond .eq 39), 3, [116], 0) := rfl
theorem k175_80 : px_cod 175 80 = some ((.aload_n 0), 1, [], 0) := rfl
theorem k175_81 : px_cod 175 81 = some ((.iconst 3), 1, [], 3) := rfl
theorem k175_82 : px_cod 175 82 = some ((.invokevirtual 264), 3, [0, 237, 167], 0) := rfl
theorem k175_85 : px_cod 175 85 = some ((.aload_n 0), 1, [], 0) := rfl
theorem k175_86 : px_cod 175 86 = some (.dup, 1, [], 0) := rfl
theorem k175_87 : px_cod 175 87 = some ((.getfield 238), 3, [206, 12, 0, 0], 22) := rfl
theorem k175_90 : px_cod 175 90 = some ((.iconst 1), 1, [], 1) := rfl
theorem k175_91 : px_cod 175 91 = some (.isub, 1, [], 0) := rfl
theorem k175_92 : px_cod 175 92 = some ((.putfield 238), 3, [206, 12, 0, 0], 22) := rfl
theorem k175_95 : px_cod 175 95 = some ((.aload_n 0), 1, [], 0) := rfl
theorem k175_96 : px_cod 175 96 = some (.dup, 1, [], 0) := rfl
theorem k175_97 : px_cod 175 97 = some ((.getfield 241), 3, [205, 12, 0, 0], 21) := rfl
theorem k175_100 : px_cod 175 100 = some ((.iconst 1), 1, [], 1) := rfl
theorem k175_101 : px_cod 175 101 = some (.isub, 1, [], 0) := rfl
theorem k175_102 : px_cod 175 102 = some ((.putfield 241), 3, [205, 12, 0, 0], 21) := rfl
theorem k175_105 : px_cod 175 105 = some ((.aload_n 0), 1, [], 0) := rfl
theorem k175_106 : px_cod 175 106 = some ((.invokevirtual 250), 3, [0, 220, 158], 0) := rfl
theorem k175_109 : px_cod 175 109 = some ((.aload_n 0), 1, [], 0) := rfl
theorem k175_110 : px_cod 175 110 = some ((.invokevirtual 279), 3, [0, 230, 172], 0) := rfl
theorem k175_113 : px_cod 175 113 = some ((.goto 137), 3, [250], 0) := rfl
theorem k175_116 : px_cod 175 116 = some ((.iload_n 1), 1, [], 1) := rfl
theorem k175_117 : px_cod 175 117 = some ((.iconst 4), 1, [], 4) := rfl
theorem k175_118 : px_cod 175 118 = some ((.if_icmp .ne 63), 3, [181], 0) := rfl
theorem k175_121 : px_cod 175 121 = some ((.aload_n 0), 1, [], 0) := rfl
theorem k175_122 : px_cod 175 122 = some ((.getfield 213), 3, [201, 12, 0, 0], 17) := rfl
theorem k175_125 : px_cod 175 125 = some ((.iconst 3), 1, [], 3) := rfl
theorem k175_126 : px_cod 175 126 = some ((.if_icmp .ne 55), 3, [181], 0) := rfl
theorem k175_129 : px_cod 175 129 = some ((.aload_n 0), 1, [], 0) := rfl
theorem k175_130 : px_cod 175 130 = some ((.getfield 225), 3, [202, 12, 0, 0], 18) := rfl
theorem k175_133 : px_cod 175 133 = some ((.invokestatic 295), 3, [0, 238, 174], 0) := rfl
theorem k175_136 : px_cod 175 136 = some ((.ifCond .eq 45), 3, [181], 0) := rfl
theorem k175_139 : px_cod 175 139 = some ((.aload_n 0), 1, [], 0) := rfl
theorem k175_140 : px_cod 175 140 = some ((.iconst 3), 1, [], 3) := rfl
theorem k175_141 : px_cod 175 141 = some ((.invokevirtual 264), 3, [0, 237, 167], 0) := rfl
theorem k175_144 : px_cod 175 144 = some ((.aload_n 0), 1, [], 0) := rfl
theorem k175_145 : px_cod 175 145 = some ((.getfield 45), 3, [208, 12, 4, 1], 24) := rfl
theorem k175_148 : px_cod 175 148 = some ((.aload_n 0), 1, [], 0) := rfl
theorem k175_149 : px_cod 175 149 = some ((.getfield 238), 3, [206, 12, 0, 0], 22) := rfl
theorem k175_152 : px_cod 175 152 = some ((.aload_n 0), 1, [], 0) := rfl
theorem k175_153 : px_cod 175 153 = some ((.getfield 225), 3, [202, 12, 0, 0], 18) := rfl
theorem k175_156 : px_cod 175 156 = some (.iastore, 1, [], 0) := rfl
theorem k175_157 : px_cod 175 157 = some ((.aload_n 0), 1, [], 0) := rfl
theorem k175_158 : px_cod 175 158 = some ((.getfield 42), 3, [207, 12, 4, 1], 23) := rfl
theorem k175_161 : px_cod 175 161 = some ((.aload_n 0), 1, [], 0) := rfl
theorem k175_162 : px_cod 175 162 = some ((.getfield 238), 3, [206, 12, 0, 0], 22) := rfl
theorem k175_165 : px_cod 175 165 = some ((.iconst 1), 1, [], 1) := rfl
theorem k175_166 : px_cod 175 166 = some (.isub, 1, [], 0) := rfl
theorem k175_167 : px_cod 175 167 = some ((.iconst 5), 1, [], 5) := rfl
theorem k175_168 : px_cod 175 168 = some (.iastore, 1, [], 0) := rfl
theorem k175_169 : px_cod 175 169 = some ((.aload_n 0), 1, [], 0) := rfl
theorem k175_170 : px_cod 175 170 = some ((.invokevirtual 250), 3, [0, 220, 158], 0) := rfl
theorem k175_173 : px_cod 175 173 = some ((.aload_n 0), 1, [], 0) := rfl
theorem k175_174 : px_cod 175 174 = some ((.iconst 1), 1, [], 1) := rfl
theorem k175_175 : px_cod 175 175 = some ((.putfield 273), 3, [212, 12, 0, 0], 28) := rfl
theorem k175_178 : px_cod 175 178 = some ((.goto 72), 3, [250], 0) := rfl
theorem k175_181 : px_cod 175 181 = some ((.iload_n 1), 1, [], 1) := rfl
theorem k175_182 : px_cod 175 182 = some ((.iconst 5), 1, [], 5) := rfl
theorem k175_183 : px_cod 175 183 = some ((.if_icmp .ne 41), 3, [224], 0) := rfl
theorem k175_186 : px_cod 175 186 = some ((.aload_n 0), 1, [], 0) := rfl
theorem k175_187 : px_cod 175 187 = some ((.iconst 3), 1, [], 3) := rfl
theorem k175_188 : px_cod 175 188 = some ((.invokevirtual 264), 3, [0, 237, 167], 0) := rfl
theorem k175_191 : px_cod 175 191 = some ((.aload_n 0), 1, [], 0) := rfl
theorem k175_192 : px_cod 175 192 = some ((.getfield 45), 3, [208, 12, 4, 1], 24) := rfl
theorem k175_195 : px_cod 175 195 = some ((.aload_n 0), 1, [], 0) := rfl
theorem k175_196 : px_cod 175 196 = some ((.getfield 238), 3, [206, 12, 0, 0], 22) := rfl
theorem k175_199 : px_cod 175 199 = some (.iaload, 1, [], 0) := rfl
theorem k175_200 : px_cod 175 200 = some ((.istore_n 2), 1, [], 2) := rfl
theorem k175_201 : px_cod 175 201 = some ((.aload_n 0), 1, [], 0) := rfl
theorem k175_202 : px_cod 175 202 = some (.dup, 1, [], 0) := rfl
theorem k175_203 : px_cod 175 203 = some ((.getfield 238), 3, [206, 12, 0, 0], 22) := rfl
theorem k175_206 : px_cod 175 206 = some ((.iconst 1), 1, [], 1) := rfl
theorem k175_207 : px_cod 175 207 = some (.isub, 1, [], 0) := rfl
theorem k175_208 : px_cod 175 208 = some ((.putfield 238), 3, [206, 12, 0, 0], 22) := rfl
theorem k175_211 : px_cod 175 211 = some ((.aload_n 0), 1, [], 0) := rfl
theorem k175_212 : px_cod 175 212 = some ((.iload_n 2), 1, [], 2) := rfl
theorem k175_213 : px_cod 175 213 = some ((.iconst 0), 1, [], 0) := rfl
theorem k175_214 : px_cod 175 214 = some ((.invokevirtual 260), 3, [0, 229, 162], 0) := rfl
theorem k175_217 : px_cod 175 217 = some ((.aload_n 0), 1, [], 0) := rfl
theorem k175_218 : px_cod 175 218 = some ((.invokevirtual 298), 3, [0, 239, 173], 0) := rfl
theorem k175_221 : px_cod 175 221 = some ((.goto 29), 3, [250], 0) := rfl
theorem k175_224 : px_cod 175 224 = some ((.iload_n 1), 1, [], 1) := rfl
theorem k175_225 : px_cod 175 225 = some ((.iconst 1), 1, [], 1) := rfl
theorem k175_226 : px_cod 175 226 = some ((.if_icmp .ne 19), 3, [245], 0) := rfl
theorem k175_229 : px_cod 175 229 = some ((.aload_n 0), 1, [], 0) := rfl
theorem k175_230 : px_cod 175 230 = some ((.bipush 59), 2, [], 59) := rfl
theorem k175_232 : px_cod 175 232 = some ((.invokevirtual 285), 3, [0, 233, 159], 0) := rfl
theorem k175_235 : px_cod 175 235 = some ((.ifCond .eq 10), 3, [245], 0) := rfl
theorem k175_238 : px_cod 175 238 = some ((.aload_n 0), 1, [], 0) := rfl
theorem k175_239 : px_cod 175 239 = some ((.invokevirtual 301), 3, [0, 240, 177], 0) := rfl
theorem k175_242 : px_cod 175 242 = some ((.goto 8), 3, [250], 0) := rfl
theorem k175_245 : px_cod 175 245 = some ((.aload_n 0), 1, [], 0) := rfl
theorem k175_246 : px_cod 175 246 = some ((.iconst 1), 1, [], 1) := rfl
theorem k175_247 : px_cod 175 247 = some ((.invokevirtual 244), 3, [0, 226, 161], 0) := rfl
theorem k175_250 : px_cod 175 250 = some (.return_, 1, [], 0) := rfl
theorem k176_0 : px_cod 176 0 = some ((.aload_n 0), 1, [], 0) := rfl
theorem k176_1 : px_cod 176 1 = some ((.bipush 6), 2, [], 6) := rfl
theorem k176_3 : px_cod 176 3 = some ((.invokevirtual 267), 3, [0, 224, 160], 0) := rfl
theorem k176_6 : px_cod 176 6 = some ((.ifCond .ne 12), 3, [18], 0) := rfl
theorem k176_9 : px_cod 176 9 = some ((.aload_n 0), 1, [], 0) := rfl
theorem k176_10 : px_cod 176 10 = some ((.bipush 7), 2, [], 7) := rfl
theorem k176_12 : px_cod 176 12 = some ((.invokevirtual 267), 3, [0, 224, 160], 0) := rfl
theorem k176_15 : px_cod 176 15 = some ((.ifCond .eq 33), 3, [48], 0) := rfl
theorem k176_18 : px_cod 176 18 = some ((.aload_n 0), 1, [], 0) := rfl
theorem k176_19 : px_cod 176 19 = some ((.aload_n 0), 1, [], 0) := rfl
theorem k176_20 : px_cod 176 20 = some ((.bipush 6), 2, [], 6) := rfl
theorem k176_22 : px_cod 176 22 = some ((.invokevirtual 267), 3, [0, 224, 160], 0) := rfl
theorem k176_25 : px_cod 176 25 = some ((.ifCond .eq 9), 3, [34], 0) := rfl
theorem k176_28 : px_cod 176 28 = some ((.sipush 407), 3, [], 407) := rfl
theorem k176_31 : px_cod 176 31 = some ((.goto 6), 3, [37], 0) := rfl
theorem k176_34 : px_cod 176 34 = some ((.sipush 406), 3, [], 406) := rfl
theorem k176_37 : px_cod 176 37 = some ((.invokevirtual 292), 3, [0, 235, 168], 0) := rfl
theorem k176_40 : px_cod 176 40 = some ((.aload_n 0), 1, [], 0) := rfl
theorem k176_41 : px_cod 176 41 = some ((.iconst 0), 1, [], 0) := rfl
theorem k176_42 : px_cod 176 42 = some ((.putfield 273), 3, [212, 12, 0, 0], 28) := rfl
theorem k176_45 : px_cod 176 45 = some ((.goto 32), 3, [77], 0) := rfl
theorem k176_48 : px_cod 176 48 = some ((.aload_n 0), 1, [], 0) := rfl
theorem k176_49 : px_cod 176 49 = some ((.invokevirtual 288), 3, [0, 231, 164], 0) := rfl
theorem k176_52 : px_cod 176 52 = some ((.iconst 2), 1, [], 2) := rfl
theorem k176_53 : px_cod 176 53 = some ((.if_icmp .ne 19), 3, [72], 0) := rfl
theorem k176_56 : px_cod 176 56 = some ((.aload_n 0), 1, [], 0) := rfl
theorem k176_57 : px_cod 176 57 = some ((.bipush 59), 2, [], 59) := rfl
theorem k176_59 : px_cod 176 59 = some ((.invokevirtual 285), 3, [0, 233, 159], 0) := rfl
theorem k176_62 : px_cod 176 62 = some ((.ifCond .eq 10), 3, [72], 0) := rfl
theorem k176_65 : px_cod 176 65 = some ((.aload_n 0), 1, [], 0) := rfl
theorem k176_66 : px_cod 176 66 = some ((.invokevirtual 301), 3, [0, 240, 177], 0) := rfl
theorem k176_69 : px_cod 176 69 = some ((.goto 8), 3, [77], 0) := rfl
theorem k176_72 : px_cod 176 72 = some ((.aload_n 0), 1, [], 0) := rfl
theorem k176_73 : px_cod 176 73 = some ((.iconst 1), 1, [], 1) := rfl
theorem k176_74 : px_cod 176 74 = some ((.invokevirtual 244), 3, [0, 226, 161], 0) := rfl
theorem k176_77 : px_cod 176 77 = some (.return_, 1, [], 0) := rfl
theorem k177_0 : px_cod 177 0 = some ((.aload_n 0), 1, [], 0) := rfl
theorem k177_1 : px_cod 177 1 = some ((.iconst 1), 1, [], 1) := rfl
theorem k177_2 : px_cod 177 2 = some ((.invokevirtual 264), 3, [0, 237, 167], 0) := rfl
theorem k177_5 : px_cod 177 5 = some ((.aload_n 0), 1, [], 0) := rfl
theorem k177_6 : px_cod 177 6 = some ((.iconst 0), 1, [], 0) := rfl
theorem k177_7 : px_cod 177 7 = some ((.putfield 238), 3, [206, 12, 0, 0], 22) := rfl
theorem k177_10 : px_cod 177 10 = some ((.aload_n 0), 1, [], 0) := rfl
theorem k177_11 : px_cod 177 11 = some ((.sipush 408), 3, [], 408) := rfl
theorem k177_14 : px_cod 177 14 = some ((.iconst 0), 1, [], 0) := rfl
theorem k177_15 : px_cod 177 15 = some ((.invokevirtual 260), 3, [0, 229, 162], 0) := rfl
theorem k177_18 : px_cod 177 18 = some ((.aload_n 0), 1, [], 0) := rfl
theorem k177_19 : px_cod 177 19 = some (.dup, 1, [], 0) := rfl
theorem k177_20 : px_cod 177 20 = some ((.getfield 304), 3, [213, 12, 0, 0], 29) := rfl
theorem k177_23 : px_cod 177 23 = some ((.iconst 1), 1, [], 1) := rfl
theorem k177_24 : px_cod 177 24 = some (.iadd, 1, [], 0) := rfl
theorem k177_25 : px_cod 177 25 = some ((.putfield 304), 3, [213, 12, 0, 0], 29) := rfl
theorem k177_28 : px_cod 177 28 = some ((.aload_n 0), 1, [], 0) := rfl
theorem k177_29 : px_cod 177 29 = some ((.invokevirtual 250), 3, [0, 220, 158], 0) := rfl
theorem k177_32 : px_cod 177 32 = some ((.aload_n 0), 1, [], 0) := rfl
theorem k177_33 : px_cod 177 33 = some ((.iconst 4), 1, [], 4) := rfl
theorem k177_34 : px_cod 177 34 = some ((.putfield 273), 3, [212, 12, 0, 0], 28) := rfl
theorem k177_37 : px_cod 177 37 = some (.return_, 1, [], 0) := rfl
theorem k178_0 : px_cod 178 0 = some ((.iconst 0), 1, [], 0) := rfl
theorem k178_1 : px_cod 178 1 = some ((.istore_n 2), 1, [], 2) := rfl
theorem k178_2 : px_cod 178 2 = some ((.iconst 0), 1, [], 0) := rfl
theorem k178_3 : px_cod 178 3 = some ((.istore_n 3), 1, [], 3) := rfl
theorem k178_4 : px_cod 178 4 = some ((.iload_n 3), 1, [], 3) := rfl
theorem k178_5 : px_cod 178 5 = some ((.aload_n 0), 1, [], 0) := rfl
theorem k178_6 : px_cod 178 6 = some ((.getfield 304), 3, [213, 12, 0, 0], 29) := rfl
theorem k178_9 : px_cod 178 9 = some ((.if_icmp .ge 29), 3, [38], 0) := rfl
theorem k178_12 : px_cod 178 12 = some ((.iload_n 2), 1, [], 2) := rfl
theorem k178_13 : px_cod 178 13 = some ((.ifCond .ne 13), 3, [26], 0) := rfl
theorem k178_16 : px_cod 178 16 = some ((.aload_n 0), 1, [], 0) := rfl
theorem k178_17 : px_cod 178 17 = some ((.getfield 54), 3, [215, 12, 4, 1], 31) := rfl
theorem k178_20 : px_cod 178 20 = some ((.iload_n 3), 1, [], 3) := rfl
theorem k178_21 : px_cod 178 21 = some (.iaload, 1, [], 0) := rfl
theorem k178_22 : px_cod 178 22 = some ((.iload_n 1), 1, [], 1) := rfl
theorem k178_23 : px_cod 178 23 = some ((.if_icmp .ne 7), 3, [30], 0) := rfl
theorem k178_26 : px_cod 178 26 = some ((.iconst 1), 1, [], 1) := rfl
theorem k178_27 : px_cod 178 27 = some ((.goto 4), 3, [31], 0) := rfl
theorem k178_30 : px_cod 178 30 = some ((.iconst 0), 1, [], 0) := rfl
theorem k178_31 : px_cod 178 31 = some ((.istore_n 2), 1, [], 2) := rfl
theorem k178_32 : px_cod 178 32 = some ((.iinc 3 1), 3, [3], 1) := rfl
theorem k178_35 : px_cod 178 35 = some ((.goto (-31)), 3, [4], 0) := rfl
theorem k178_38 : px_cod 178 38 = some ((.iload_n 2), 1, [], 2) := rfl
theorem k178_39 : px_cod 178 39 = some (.ireturn, 1, [], 0) := rfl
theorem k179_0 : px_cod 179 0 = some ((.aload_n 0), 1, [], 0) := rfl
theorem k179_1 : px_cod 179 1 = some ((.getfield 213), 3, [201, 12, 0, 0], 17) := rfl
theorem k179_4 : px_cod 179 4 = some ((.iconst 1), 1, [], 1) := rfl
theorem k179_5 : px_cod 179 5 = some ((.if_icmp .ne 11), 3, [16], 0) := rfl
theorem k179_8 : px_cod 179 8 = some ((.aload_n 0), 1, [], 0) := rfl
theorem k179_9 : px_cod 179 9 = some ((.getfield 225), 3, [202, 12, 0, 0], 18) := rfl
theorem k179_12 : px_cod 179 12 = some ((.iconst 5), 1, [], 5) := rfl
theorem k179_13 : px_cod 179 13 = some ((.if_icmp .le 9), 3, [22], 0) := rfl
theorem k179_16 : px_cod 179 16 = some ((.aload_n 0), 1, [], 0) := rfl
theorem k179_17 : px_cod 179 17 = some ((.iconst 1), 1, [], 1) := rfl
theorem k179_18 : px_cod 179 18 = some ((.invokevirtual 244), 3, [0, 226, 161], 0) := rfl
theorem k179_21 : px_cod 179 21 = some (.return_, 1, [], 0) := rfl
theorem k179_22 : px_cod 179 22 = some ((.aload_n 0), 1, [], 0) := rfl
theorem k179_23 : px_cod 179 23 = some ((.aload_n 0), 1, [], 0) := rfl
theorem k179_24 : px_cod 179 24 = some ((.getfield 225), 3, [202, 12, 0, 0], 18) := rfl
theorem k179_27 : px_cod 179 27 = some ((.putfield 276), 3, [214, 12, 0, 0], 30) := rfl
theorem k179_30 : px_cod 179 30 = some ((.aload_n 0), 1, [], 0) := rfl
theorem k179_31 : px_cod 179 31 = some ((.getfield 276), 3, [214, 12, 0, 0], 30) := rfl
theorem k179_34 : px_cod 179 34 = some ((.iconst 3), 1, [], 3) := rfl
theorem k179_35 : px_cod 179 35 = some ((.if_icmp .gt 22), 3, [57], 0) := rfl
theorem k179_38 : px_cod 179 38 = some ((.aload_n 0), 1, [], 0) := rfl
theorem k179_39 : px_cod 179 39 = some ((.aload_n 0), 1, [], 0) := rfl
theorem k179_40 : px_cod 179 40 = some ((.getfield 276), 3, [214, 12, 0, 0], 30) := rfl
theorem k179_43 : px_cod 179 43 = some ((.invokevirtual 307), 3, [0, 243, 178], 0) := rfl
theorem k179_46 : px_cod 179 46 = some ((.ifCond .eq 11), 3, [57], 0) := rfl
theorem k179_49 : px_cod 179 49 = some ((.aload_n 0), 1, [], 0) := rfl
theorem k179_50 : px_cod 179 50 = some ((.iconst 4), 1, [], 4) := rfl
theorem k179_51 : px_cod 179 51 = some ((.invokevirtual 244), 3, [0, 226, 161], 0) := rfl
theorem k179_54 : px_cod 179 54 = some ((.goto 18), 3, [72], 0) := rfl
theorem k179_57 : px_cod 179 57 = some ((.aload_n 0), 1, [], 0) := rfl
theorem k179_58 : px_cod 179 58 = some ((.getfield 304), 3, [213, 12, 0, 0], 29) := rfl
theorem k179_61 : px_cod 179 61 = some ((.bipush 10), 2, [], 10) := rfl
theorem k179_63 : px_cod 179 63 = some ((.if_icmp .ne 9), 3, [72], 0) := rfl
theorem k179_66 : px_cod 179 66 = some ((.aload_n 0), 1, [], 0) := rfl
theorem k179_67 : px_cod 179 67 = some ((.bipush 6), 2, [], 6) := rfl
theorem k179_69 : px_cod 179 69 = some ((.invokevirtual 244), 3, [0, 226, 161], 0) := rfl
theorem k179_72 : px_cod 179 72 = some ((.aload_n 0), 1, [], 0) := rfl
theorem k179_73 : px_cod 179 73 = some ((.getfield 229), 3, [203, 12, 0, 0], 19) := rfl
theorem k179_76 : px_cod 179 76 = some ((.ifCond .le 4), 3, [80], 0) := rfl
theorem k179_79 : px_cod 179 79 = some (.return_, 1, [], 0) := rfl
theorem k179_80 : px_cod 179 80 = some ((.aload_n 0), 1, [], 0) := rfl
theorem k179_81 : px_cod 179 81 = some ((.getfield 54), 3, [215, 12, 4, 1], 31) := rfl
theorem k179_84 : px_cod 179 84 = some ((.aload_n 0), 1, [], 0) := rfl
theorem k179_85 : px_cod 179 85 = some ((.getfield 304), 3, [213, 12, 0, 0], 29) := rfl
theorem k179_88 : px_cod 179 88 = some ((.aload_n 0), 1, [], 0) := rfl
theorem k179_89 : px_cod 179 89 = some ((.getfield 276), 3, [214, 12, 0, 0], 30) := rfl
theorem k179_92 : px_cod 179 92 = some (.iastore, 1, [], 0) := rfl
theorem k179_93 : px_cod 179 93 = some ((.aload_n 0), 1, [], 0) := rfl
theorem k179_94 : px_cod 179 94 = some ((.getfield 57), 3, [216, 12, 4, 1], 32) := rfl
theorem k179_97 : px_cod 179 97 = some ((.aload_n 0), 1, [], 0) := rfl
theorem k179_98 : px_cod 179 98 = some ((.getfield 304), 3, [213, 12, 0, 0], 29) := rfl
theorem k179_101 : px_cod 179 101 = some ((.aload_n 0), 1, [], 0) := rfl
theorem k179_102 : px_cod 179 102 = some ((.getfield 235), 3, [217, 12, 0, 0], 33) := rfl
theorem k179_105 : px_cod 179 105 = some (.iastore, 1, [], 0) := rfl
theorem k179_106 : px_cod 179 106 = some ((.aload_n 0), 1, [], 0) := rfl
theorem k179_107 : px_cod 179 107 = some ((.invokevirtual 250), 3, [0, 220, 158], 0) := rfl
theorem k179_110 : px_cod 179 110 = some ((.aload_n 0), 1, [], 0) := rfl
theorem k179_111 : px_cod 179 111 = some ((.aload_n 0), 1, [], 0) := rfl
theorem k179_112 : px_cod 179 112 = some ((.getfield 276), 3, [214, 12, 0, 0], 30) := rfl
theorem k179_115 : px_cod 179 115 = some ((.iconst 3), 1, [], 3) := rfl
theorem k179_116 : px_cod 179 116 = some ((.if_icmp .le 7), 3, [123], 0) := rfl
theorem k179_119 : px_cod 179 119 = some ((.iconst 2), 1, [], 2) := rfl
theorem k179_120 : px_cod 179 120 = some ((.goto 4), 3, [124], 0) := rfl
theorem k179_123 : px_cod 179 123 = some ((.iconst 1), 1, [], 1) := rfl
theorem k179_124 : px_cod 179 124 = some ((.invokevirtual 247), 3, [0, 227, 163], 0) := rfl
theorem k179_127 : px_cod 179 127 = some ((.aload_n 0), 1, [], 0) := rfl
theorem k179_128 : px_cod 179 128 = some ((.aload_n 0), 1, [], 0) := rfl
theorem k179_129 : px_cod 179 129 = some ((.getfield 276), 3, [214, 12, 0, 0], 30) := rfl
theorem k179_132 : px_cod 179 132 = some ((.iconst 3), 1, [], 3) := rfl
theorem k179_133 : px_cod 179 133 = some ((.if_icmp .le 7), 3, [140], 0) := rfl
theorem k179_136 : px_cod 179 136 = some ((.iconst 0), 1, [], 0) := rfl
theorem k179_137 : px_cod 179 137 = some ((.goto 4), 3, [141], 0) := rfl
theorem k179_140 : px_cod 179 140 = some ((.iconst 1), 1, [], 1) := rfl
theorem k179_141 : px_cod 179 141 = some ((.putfield 273), 3, [212, 12, 0, 0], 28) := rfl
theorem k179_144 : px_cod 179 144 = some (.return_, 1, [], 0) := rfl
theorem k180_0 : px_cod 180 0 = some ((.aload_n 0), 1, [], 0) := rfl
theorem k180_1 : px_cod 180 1 = some ((.getfield 7), 3, [187, 12, 4, 1], 3) := rfl
theorem k180_4 : px_cod 180 4 = some ((.iconst 5), 1, [], 5) := rfl
theorem k180_5 : px_cod 180 5 = some (.iaload, 1, [], 0) := rfl
theorem k180_6 : px_cod 180 6 = some ((.bipush 6), 2, [], 6) := rfl
theorem k180_8 : px_cod 180 8 = some ((.if_icmp .ne 5), 3, [13], 0) := rfl
theorem k180_11 : px_cod 180 11 = some ((.iconst (-1)), 1, [], (-1)) := rfl
theorem k180_12 : px_cod 180 12 = some (.ireturn, 1, [], 0) := rfl
theorem k180_13 : px_cod 180 13 = some ((.aload_n 0), 1, [], 0) := rfl
theorem k180_14 : px_cod 180 14 = some ((.aload_n 0), 1, [], 0) := rfl
theorem k180_15 : px_cod 180 15 = some ((.getfield 149), 3, [190, 12, 0, 0], 6) := rfl
theorem k180_18 : px_cod 180 18 = some ((.putfield 207), 3, [198, 12, 0, 0], 14) := rfl
theorem k180_21 : px_cod 180 21 = some ((.aload_n 0), 1, [], 0) := rfl
theorem k180_22 : px_cod 180 22 = some ((.iconst 0), 1, [], 0) := rfl
theorem k180_23 : px_cod 180 23 = some ((.putfield 149), 3, [190, 12, 0, 0], 6) := rfl
theorem k180_26 : px_cod 180 26 = some ((.aload_n 0), 1, [], 0) := rfl
theorem k180_27 : px_cod 180 27 = some ((.iconst 0), 1, [], 0) := rfl
theorem k180_28 : px_cod 180 28 = some ((.putfield 204), 3, [199, 12, 0, 0], 15) := rfl
theorem k180_31 : px_cod 180 31 = some ((.aload_n 0), 1, [], 0) := rfl
theorem k180_32 : px_cod 180 32 = some ((.iconst 0), 1, [], 0) := rfl
theorem k180_33 : px_cod 180 33 = some ((.putfield 229), 3, [203, 12, 0, 0], 19) := rfl
theorem k180_36 : px_cod 180 36 = some ((.aload_n 0), 1, [], 0) := rfl
theorem k180_37 : px_cod 180 37 = some ((.iconst (-1)), 1, [], (-1)) := rfl
theorem k180_38 : px_cod 180 38 = some ((.putfield 232), 3, [204, 12, 0, 0], 20) := rfl
theorem k180_41 : px_cod 180 41 = some ((.aload_n 0), 1, [], 0) := rfl
theorem k180_42 : px_cod 180 42 = some ((.iconst 0), 1, [], 0) := rfl
theorem k180_43 : px_cod 180 43 = some ((.putfield 241), 3, [205, 12, 0, 0], 21) := rfl
theorem k180_46 : px_cod 180 46 = some ((.aload_n 0), 1, [], 0) := rfl
theorem k180_47 : px_cod 180 47 = some ((.iconst 0), 1, [], 0) := rfl
theorem k180_48 : px_cod 180 48 = some ((.putfield 238), 3, [206, 12, 0, 0], 22) := rfl
theorem k180_51 : px_cod 180 51 = some ((.aload_n 0), 1, [], 0) := rfl
theorem k180_52 : px_cod 180 52 = some ((.iconst 0), 1, [], 0) := rfl
theorem k180_53 : px_cod 180 53 = some ((.putfield 253), 3, [209, 12, 0, 0], 25) := rfl
theorem k180_56 : px_cod 180 56 = some ((.aload_n 0), 1, [], 0) := rfl
theorem k180_57 : px_cod 180 57 = some ((.iconst 4), 1, [], 4) := rfl
theorem k180_58 : px_cod 180 58 = some ((.putfield 273), 3, [212, 12, 0, 0], 28) := rfl
theorem k180_61 : px_cod 180 61 = some ((.aload_n 0), 1, [], 0) := rfl
theorem k180_62 : px_cod 180 62 = some ((.iconst 0), 1, [], 0) := rfl
theorem k180_63 : px_cod 180 63 = some ((.putfield 304), 3, [213, 12, 0, 0], 29) := rfl
theorem k180_66 : px_cod 180 66 = some ((.aload_n 0), 1, [], 0) := rfl
theorem k180_67 : px_cod 180 67 = some ((.iconst 0), 1, [], 0) := rfl
theorem k180_68 : px_cod 180 68 = some ((.putfield 235), 3, [217, 12, 0, 0], 33) := rfl
theorem k180_71 : px_cod 180 71 = some ((.aload_n 0), 1, [], 0) := rfl
theorem k180_72 : px_cod 180 72 = some ((.invokevirtual 250), 3, [0, 220, 158], 0) := rfl
theorem k180_75 : px_cod 180 75 = some ((.aload_n 0), 1, [], 0) := rfl
theorem k180_76 : px_cod 180 76 = some ((.getfield 229), 3, [203, 12, 0, 0], 19) := rfl
theorem k180_79 : px_cod 180 79 = some ((.ifCond .ne 88), 3, [167], 0) := rfl
theorem k180_82 : px_cod 180 82 = some ((.aload_n 0), 1, [], 0) := rfl
theorem k180_83 : px_cod 180 83 = some ((.getfield 273), 3, [212, 12, 0, 0], 28) := rfl
theorem k180_86 : px_cod 180 86 = some ((.iconst 4), 1, [], 4) := rfl
theorem k180_87 : px_cod 180 87 = some ((.if_icmp .ne 10), 3, [97], 0) := rfl
theorem k180_90 : px_cod 180 90 = some ((.aload_n 0), 1, [], 0) := rfl
theorem k180_91 : px_cod 180 91 = some ((.getfield 213), 3, [201, 12, 0, 0], 17) := rfl
theorem k180_94 : px_cod 180 94 = some ((.ifCond .eq 73), 3, [167], 0) := rfl
theorem k180_97 : px_cod 180 97 = some ((.aload_n 0), 1, [], 0) := rfl
theorem k180_98 : px_cod 180 98 = some ((.getfield 273), 3, [212, 12, 0, 0], 28) := rfl
theorem k180_101 : px_cod 180 101 = some ((.tableswitch 59 0 3 #[31, 38, 45, 52]), 31, [160, 132, 139, 146, 153], 0) := rfl
theorem k180_132 : px_cod 180 132 = some ((.aload_n 0), 1, [], 0) := rfl
theorem k180_133 : px_cod 180 133 = some ((.invokevirtual 310), 3, [0, 223, 169], 0) := rfl
theorem k180_136 : px_cod 180 136 = some ((.goto (-61)), 3, [75], 0) := rfl
theorem k180_139 : px_cod 180 139 = some ((.aload_n 0), 1, [], 0) := rfl
theorem k180_140 : px_cod 180 140 = some ((.invokevirtual 313), 3, [0, 228, 171], 0) := rfl
theorem k180_143 : px_cod 180 143 = some ((.goto (-68)), 3, [75], 0) := rfl
theorem k180_146 : px_cod 180 146 = some ((.aload_n 0), 1, [], 0) := rfl
theorem k180_147 : px_cod 180 147 = some ((.invokevirtual 316), 3, [0, 234, 175], 0) := rfl
theorem k180_150 : px_cod 180 150 = some ((.goto (-75)), 3, [75], 0) := rfl
theorem k180_153 : px_cod 180 153 = some ((.aload_n 0), 1, [], 0) := rfl
theorem k180_154 : px_cod 180 154 = some ((.invokevirtual 319), 3, [0, 241, 176], 0) := rfl
theorem k180_157 : px_cod 180 157 = some ((.goto (-82)), 3, [75], 0) := rfl
theorem k180_160 : px_cod 180 160 = some ((.aload_n 0), 1, [], 0) := rfl
theorem k180_161 : px_cod 180 161 = some ((.invokevirtual 322), 3, [0, 242, 179], 0) := rfl
theorem k180_164 : px_cod 180 164 = some ((.goto (-89)), 3, [75], 0) := rfl
theorem k180_167 : px_cod 180 167 = some ((.aload_n 0), 1, [], 0) := rfl
theorem k180_168 : px_cod 180 168 = some ((.aload_n 0), 1, [], 0) := rfl
theorem k180_169 : px_cod 180 169 = some ((.getfield 229), 3, [203, 12, 0, 0], 19) := rfl
theorem k180_172 : px_cod 180 172 = some ((.putfield 20), 3, [191, 12, 0, 0], 7) := rfl
theorem k180_175 : px_cod 180 175 = some ((.aload_n 0), 1, [], 0) := rfl
theorem k180_176 : px_cod 180 176 = some ((.aload_n 0), 1, [], 0) := rfl
theorem k180_177 : px_cod 180 177 = some ((.getfield 232), 3, [204, 12, 0, 0], 20) := rfl
theorem k180_180 : px_cod 180 180 = some ((.putfield 24), 3, [192, 12, 0, 0], 8) := rfl
theorem k180_183 : px_cod 180 183 = some ((.aload_n 0), 1, [], 0) := rfl
theorem k180_184 : px_cod 180 184 = some ((.getfield 229), 3, [203, 12, 0, 0], 19) := rfl
theorem k180_187 : px_cod 180 187 = some ((.ifCond .le 5), 3, [192], 0) := rfl
theorem k180_190 : px_cod 180 190 = some ((.iconst (-1)), 1, [], (-1)) := rfl
theorem k180_191 : px_cod 180 191 = some (.ireturn, 1, [], 0) := rfl
theorem k180_192 : px_cod 180 192 = some ((.aload_n 0), 1, [], 0) := rfl
theorem k180_193 : px_cod 180 193 = some ((.aload_n 0), 1, [], 0) := rfl
theorem k180_194 : px_cod 180 194 = some ((.getfield 7), 3, [187, 12, 4, 1], 3) := rfl
theorem k180_197 : px_cod 180 197 = some ((.iconst 5), 1, [], 5) := rfl
theorem k180_198 : px_cod 180 198 = some (.iaload, 1, [], 0) := rfl
theorem k180_199 : px_cod 180 199 = some ((.invokevirtual 325), 3, [0, 244, 181], 0) := rfl
theorem k180_202 : px_cod 180 202 = some ((.aload_n 0), 1, [], 0) := rfl
theorem k180_203 : px_cod 180 203 = some ((.getfield 7), 3, [187, 12, 4, 1], 3) := rfl
theorem k180_206 : px_cod 180 206 = some ((.iconst 5), 1, [], 5) := rfl
theorem k180_207 : px_cod 180 207 = some (.dup2, 1, [], 0) := rfl
theorem k180_208 : px_cod 180 208 = some (.iaload, 1, [], 0) := rfl
theorem k180_209 : px_cod 180 209 = some ((.iconst 1), 1, [], 1) := rfl
theorem k180_210 : px_cod 180 210 = some (.iadd, 1, [], 0) := rfl
theorem k180_211 : px_cod 180 211 = some (.iastore, 1, [], 0) := rfl
theorem k180_212 : px_cod 180 212 = some ((.aload_n 0), 1, [], 0) := rfl
theorem k180_213 : px_cod 180 213 = some ((.getfield 7), 3, [187, 12, 4, 1], 3) := rfl
theorem k180_216 : px_cod 180 216 = some ((.iconst 5), 1, [], 5) := rfl
theorem k180_217 : px_cod 180 217 = some (.iaload, 1, [], 0) := rfl
theorem k180_218 : px_cod 180 218 = some ((.iconst 1), 1, [], 1) := rfl
theorem k180_219 : px_cod 180 219 = some (.isub, 1, [], 0) := rfl
theorem k180_220 : px_cod 180 220 = some (.ireturn, 1, [], 0) := rfl
theorem k181_0 : px_cod 181 0 = some ((.aload_n 0), 1, [], 0) := rfl
theorem k181_1 : px_cod 181 1 = some ((.getfield 27), 3, [193, 12, 4, 1], 9) := rfl
theorem k181_4 : px_cod 181 4 = some ((.iload_n 1), 1, [], 1) := rfl
theorem k181_5 : px_cod 181 5 = some ((.aload_n 0), 1, [], 0) := rfl
theorem k181_6 : px_cod 181 6 = some ((.getfield 304), 3, [213, 12, 0, 0], 29) := rfl
theorem k181_9 : px_cod 181 9 = some (.iastore, 1, [], 0) := rfl
theorem k181_10 : px_cod 181 10 = some ((.iconst 0), 1, [], 0) := rfl
theorem k181_11 : px_cod 181 11 = some ((.istore_n 2), 1, [], 2) := rfl
theorem k181_12 : px_cod 181 12 = some ((.iload_n 2), 1, [], 2) := rfl
theorem k181_13 : px_cod 181 13 = some ((.aload_n 0), 1, [], 0) := rfl
theorem k181_14 : px_cod 181 14 = some ((.getfield 304), 3, [213, 12, 0, 0], 29) := rfl
theorem k181_17 : px_cod 181 17 = some ((.if_icmp .ge 49), 3, [66], 0) := rfl
theorem k181_20 : px_cod 181 20 = some ((.aload_n 0), 1, [], 0) := rfl
theorem k181_21 : px_cod 181 21 = some ((.getfield 30), 3, [194, 12, 4, 1], 10) := rfl
theorem k181_24 : px_cod 181 24 = some ((.bipush 10), 2, [], 10) := rfl
theorem k181_26 : px_cod 181 26 = some ((.iload_n 1), 1, [], 1) := rfl
theorem k181_27 : px_cod 181 27 = some (.imul, 1, [], 0) := rfl
theorem k181_28 : px_cod 181 28 = some ((.iload_n 2), 1, [], 2) := rfl
theorem k181_29 : px_cod 181 29 = some (.iadd, 1, [], 0) := rfl
theorem k181_30 : px_cod 181 30 = some ((.aload_n 0), 1, [], 0) := rfl
theorem k181_31 : px_cod 181 31 = some ((.getfield 54), 3, [215, 12, 4, 1], 31) := rfl
theorem k181_34 : px_cod 181 34 = some ((.iload_n 2), 1, [], 2) := rfl
theorem k181_35 : px_cod 181 35 = some (.iaload, 1, [], 0) := rfl
theorem k181_36 : px_cod 181 36 = some (.iastore, 1, [], 0) := rfl
theorem k181_37 : px_cod 181 37 = some ((.aload_n 0), 1, [], 0) := rfl
theorem k181_38 : px_cod 181 38 = some ((.getfield 33), 3, [195, 12, 4, 1], 11) := rfl
theorem k181_41 : px_cod 181 41 = some ((.bipush 10), 2, [], 10) := rfl
theorem k181_43 : px_cod 181 43 = some ((.iload_n 1), 1, [], 1) := rfl
theorem k181_44 : px_cod 181 44 = some (.imul, 1, [], 0) := rfl
theorem k181_45 : px_cod 181 45 = some ((.iload_n 2), 1, [], 2) := rfl
theorem k181_46 : px_cod 181 46 = some (.iadd, 1, [], 0) := rfl
theorem k181_47 : px_cod 181 47 = some ((.sipush 400), 3, [], 400) := rfl
theorem k181_50 : px_cod 181 50 = some ((.iload_n 1), 1, [], 1) := rfl
theorem k181_51 : px_cod 181 51 = some (.imul, 1, [], 0) := rfl
theorem k181_52 : px_cod 181 52 = some ((.aload_n 0), 1, [], 0) := rfl
theorem k181_53 : px_cod 181 53 = some ((.getfield 57), 3, [216, 12, 4, 1], 32) := rfl
theorem k181_56 : px_cod 181 56 = some ((.iload_n 2), 1, [], 2) := rfl
theorem k181_57 : px_cod 181 57 = some (.iaload, 1, [], 0) := rfl
theorem k181_58 : px_cod 181 58 = some (.iadd, 1, [], 0) := rfl
theorem k181_59 : px_cod 181 59 = some (.iastore, 1, [], 0) := rfl
theorem k181_60 : px_cod 181 60 = some ((.iinc 2 1), 3, [2], 1) := rfl
theorem k181_63 : px_cod 181 63 = some ((.goto (-51)), 3, [12], 0) := rfl
theorem k181_66 : px_cod 181 66 = some ((.iconst 0), 1, [], 0) := rfl
theorem k181_67 : px_cod 181 67 = some ((.istore_n 2), 1, [], 2) := rfl
theorem k181_68 : px_cod 181 68 = some ((.iload_n 2), 1, [], 2) := rfl
theorem k181_69 : px_cod 181 69 = some ((.aload_n 0), 1, [], 0) := rfl
theorem k181_70 : px_cod 181 70 = some ((.getfield 235), 3, [217, 12, 0, 0], 33) := rfl
theorem k181_73 : px_cod 181 73 = some ((.if_icmp .ge 45), 3, [118], 0) := rfl
theorem k181_76 : px_cod 181 76 = some ((.aload_n 0), 1, [], 0) := rfl
theorem k181_77 : px_cod 181 77 = some ((.getfield 36), 3, [196, 12, 4, 1], 12) := rfl
theorem k181_80 : px_cod 181 80 = some ((.sipush 400), 3, [], 400) := rfl
theorem k181_83 : px_cod 181 83 = some ((.iload_n 1), 1, [], 1) := rfl
theorem k181_84 : px_cod 181 84 = some (.imul, 1, [], 0) := rfl
theorem k181_85 : px_cod 181 85 = some ((.iload_n 2), 1, [], 2) := rfl
theorem k181_86 : px_cod 181 86 = some (.iadd, 1, [], 0) := rfl
theorem k181_87 : px_cod 181 87 = some ((.aload_n 0), 1, [], 0) := rfl
theorem k181_88 : px_cod 181 88 = some ((.getfield 60), 3, [218, 12, 4, 1], 34) := rfl
theorem k181_91 : px_cod 181 91 = some ((.iload_n 2), 1, [], 2) := rfl
theorem k181_92 : px_cod 181 92 = some (.iaload, 1, [], 0) := rfl
theorem k181_93 : px_cod 181 93 = some (.iastore, 1, [], 0) := rfl
theorem k181_94 : px_cod 181 94 = some ((.aload_n 0), 1, [], 0) := rfl
theorem k181_95 : px_cod 181 95 = some ((.getfield 39), 3, [197, 12, 4, 1], 13) := rfl
theorem k181_98 : px_cod 181 98 = some ((.sipush 400), 3, [], 400) := rfl
theorem k181_101 : px_cod 181 101 = some ((.iload_n 1), 1, [], 1) := rfl
theorem k181_102 : px_cod 181 102 = some (.imul, 1, [], 0) := rfl
theorem k181_103 : px_cod 181 103 = some ((.iload_n 2), 1, [], 2) := rfl
theorem k181_104 : px_cod 181 104 = some (.iadd, 1, [], 0) := rfl
theorem k181_105 : px_cod 181 105 = some ((.aload_n 0), 1, [], 0) := rfl
theorem k181_106 : px_cod 181 106 = some ((.getfield 63), 3, [219, 12, 4, 1], 35) := rfl
theorem k181_109 : px_cod 181 109 = some ((.iload_n 2), 1, [], 2) := rfl
theorem k181_110 : px_cod 181 110 = some (.iaload, 1, [], 0) := rfl
theorem k181_111 : px_cod 181 111 = some (.iastore, 1, [], 0) := rfl
theorem k181_112 : px_cod 181 112 = some ((.iinc 2 1), 3, [2], 1) := rfl
theorem k181_115 : px_cod 181 115 = some ((.goto (-47)), 3, [68], 0) := rfl
theorem k181_118 : px_cod 181 118 = some (.return_, 1, [], 0) := rfl
section PXL
variable {L t : Nat} {r : MR}
-- TideGuestsModel.in ('I', 'I', 'I')
theorem b141_0 (hr : px_hr r) (d : Nat) (i l : MI) (x0 : Int) (x1 : Int) (x2 : Int) : px_X d 141 (0, [vI x0, vI x1, vI x2], []) (px_sh L, i, l, r, t) = if x0 < x1 then some (some (vI 0), (px_sh L, i, l, r, t)) else if x2 < x0 then some (some (vI 0), (px_sh L, i, l, r, t)) else some (some (vI 1), (px_sh L, i, l, r, t)) := ((xs_ildn k141_0 rfl).trans ((xs_ildn k141_1 rfl).trans ((xs_jlt k141_2).trans (px_ite (fun c1 => ((xs_ic k141_14 (by omega)).trans (xs_rz k141_15 rfl (by omega)))) (fun c1 => ((xs_ildn k141_5 rfl).trans ((xs_ildn k141_6 rfl).trans ((xs_jgt k141_7).trans (px_ite (fun c2 => ((xs_ic k141_14 (by omega)).trans (xs_rz k141_15 rfl (by omega)))) (fun c2 => ((xs_ic k141_10 (by omega)).trans ((xs_goto k141_11).trans (xs_rz k141_15 rfl (by omega))))))))))))))
-- TideGuestsModel.copies ('R123', 'I')
theorem b142_0 (hr : px_hr r) (d : Nat) (i l : MI) (x1 : Int) : px_X d 142 (0, [vR 123, vI x1, vJ], []) (px_sh L, i, l, r, t) = px_X d 142 (2, [vR 123, vI x1, vI 0], []) (px_sh L, i, l, r, t) := ((xs_ic k142_0 (by omega)).trans (xs_istn k142_1 (Nat.le_of_ble_eq_true rfl) (ls' := [vR 123, vI x1, vI 0]) rfl))
theorem b142_2 (hr : px_hr r) (d : Nat) (i l : MI) (x1 : Int) (x2 : Int) (h1 : (¬ (820 ≤ x2)) → (x1 = 0) → 0 ≤ x2 ∧ x2 < 820) (h2 : (¬ (820 ≤ x2)) → (¬ (x1 = 0)) → 0 ≤ x2 ∧ x2 < 820) : px_X d 142 (2, [vR 123, vI x1, vI x2], []) (px_sh L, i, l, r, t) = if 820 ≤ x2 then some (none, (px_sh L, i, l, r, t)) else if x1 = 0 then px_X d 142 (2, [vR 123, vI x1, vI (px_w32 (x2 + 1))], []) (px_sh L, (px_up i 124 x2 (i 125 x2)), l, r, t) else px_X d 142 (2, [vR 123, vI x1, vI (px_w32 (x2 + 1))], []) (px_sh L, (px_up i 125 x2 (i 124 x2)), l, r, t) := ((xs_ildn k142_2 rfl).trans ((xs_si k142_3 (by omega)).trans ((xs_jge k142_6).trans (px_ite (fun c1 => (xs_rv k142_46 rfl)) (fun c1 => ((xs_ildn k142_9 rfl).trans ((xs_ieq k142_10).trans (px_ite (fun c2 => ((xs_aldn k142_28 rfl).trans ((xs_get4 k142_29 (px_s123 L) (Nat.le_of_ble_eq_true rfl) (px_r123_3 hr)).trans ((xs_ildn k142_32 rfl).trans ((xs_aldn k142_33 rfl).trans ((xs_get4 k142_34 (px_s123 L) (Nat.le_of_ble_eq_true rfl) (px_r123_4 hr)).trans ((xs_ildn k142_37 rfl).trans ((xs_iald k142_38 (px_s125 L) (h1 c1 c2)).trans ((xs_iast k142_39 (px_s124 L) (h1 c1 c2) (Nat.le_of_ble_eq_true rfl)).trans ((xs_iinc k142_40 rfl (by omega) (ls' := [vR 123, vI x1, vI (px_w32 (x2 + 1))]) rfl).trans (xs_goto k142_43))))))))))) (fun c2 => ((xs_aldn k142_13 rfl).trans ((xs_get4 k142_14 (px_s123 L) (Nat.le_of_ble_eq_true rfl) (px_r123_4 hr)).trans ((xs_ildn k142_17 rfl).trans ((xs_aldn k142_18 rfl).trans ((xs_get4 k142_19 (px_s123 L) (Nat.le_of_ble_eq_true rfl) (px_r123_3 hr)).trans ((xs_ildn k142_22 rfl).trans ((xs_iald k142_23 (px_s124 L) (h2 c1 c2)).trans ((xs_iast k142_24 (px_s125 L) (h2 c1 c2) (Nat.le_of_ble_eq_true rfl)).trans ((xs_goto k142_25).trans ((xs_iinc k142_40 rfl (by omega) (ls' := [vR 123, vI x1, vI (px_w32 (x2 + 1))]) rfl).trans (xs_goto k142_43))))))))))))))))))))
-- TideGuestsModel.isCell ('R123', 'I')
theorem b143_0 (hr : px_hr r) (d : Nat) (i l : MI) (x1 : Int) : px_X (d + 1) 143 (0, [vR 123, vI x1], []) (px_sh L, i, l, r, t) = (px_C d 141 [vI x1, vI 0, vI (px_w32 ((i 123 2) - 1))] (px_sh L, i, l, r, t)).bind (fun q => px_X (d + 1) 143 (px_psh (11, [vR 123, vI x1], []) q.1) q.2) := ((xs_ildn k143_0 rfl).trans ((xs_ic k143_1 (by omega)).trans ((xs_aldn k143_2 rfl).trans ((xs_get0 k143_3 (px_s123 L) (Nat.le_of_ble_eq_true rfl)).trans ((xs_ic k143_6 (by omega)).trans ((xs_isub k143_7).trans (xs_callsB k143_8 (as := [vI x1, vI 0, vI (px_w32 ((i 123 2) - 1))]) rfl rfl (Nat.le_of_ble_eq_true rfl) (Nat.le_of_ble_eq_true rfl) (Nat.le_of_ble_eq_true rfl))))))))
theorem b143_11 (hr : px_hr r) (d : Nat) (i l : MI) (x1 : Int) (xs0 : Int) (h1 : xs0 = 0 ∨ xs0 = 1) : px_X d 143 (11, [vR 123, vI x1], [vI xs0]) (px_sh L, i, l, r, t) = some (some (vI xs0), (px_sh L, i, l, r, t)) := (xs_rz k143_11 rfl (h1))
-- TideGuestsModel.isGuest ('R123', 'I')
theorem b144_0 (hr : px_hr r) (d : Nat) (i l : MI) (x1 : Int) : px_X (d + 1) 144 (0, [vR 123, vI x1], []) (px_sh L, i, l, r, t) = (px_C d 141 [vI x1, vI 0, vI (px_w32 ((i 124 4) - 1))] (px_sh L, i, l, r, t)).bind (fun q => px_X (d + 1) 144 (px_psh (13, [vR 123, vI x1], []) q.1) q.2) := ((xs_ildn k144_0 rfl).trans ((xs_ic k144_1 (by omega)).trans ((xs_aldn k144_2 rfl).trans ((xs_get4 k144_3 (px_s123 L) (Nat.le_of_ble_eq_true rfl) (px_r123_3 hr)).trans ((xs_ic k144_6 (by omega)).trans ((xs_iald k144_7 (px_s124 L) (by omega)).trans ((xs_ic k144_8 (by omega)).trans ((xs_isub k144_9).trans (xs_callsB k144_10 (as := [vI x1, vI 0, vI (px_w32 ((i 124 4) - 1))]) rfl rfl (Nat.le_of_ble_eq_true rfl) (Nat.le_of_ble_eq_true rfl) (Nat.le_of_ble_eq_true rfl))))))))))
theorem b144_13 (hr : px_hr r) (d : Nat) (i l : MI) (x1 : Int) (xs0 : Int) (h1 : xs0 = 0 ∨ xs0 = 1) : px_X d 144 (13, [vR 123, vI x1], [vI xs0]) (px_sh L, i, l, r, t) = some (some (vI xs0), (px_sh L, i, l, r, t)) := (xs_rz k144_13 rfl (h1))
-- TideGuestsModel.isMinute ('I',)
theorem b145_0 (hr : px_hr r) (d : Nat) (i l : MI) (x0 : Int) : px_X (d + 1) 145 (0, [vI x0], []) (px_sh L, i, l, r, t) = (px_C d 141 [vI x0, vI 0, vI 1439] (px_sh L, i, l, r, t)).bind (fun q => px_X (d + 1) 145 (px_psh (8, [vI x0], []) q.1) q.2) := ((xs_ildn k145_0 rfl).trans ((xs_ic k145_1 (by omega)).trans ((xs_si k145_2 (by omega)).trans (xs_callsB k145_5 (as := [vI x0, vI 0, vI 1439]) rfl rfl (Nat.le_of_ble_eq_true rfl) (Nat.le_of_ble_eq_true rfl) (Nat.le_of_ble_eq_true rfl)))))
theorem b145_8 (hr : px_hr r) (d : Nat) (i l : MI) (x0 : Int) (xs0 : Int) (h1 : xs0 = 0 ∨ xs0 = 1) : px_X d 145 (8, [vI x0], [vI xs0]) (px_sh L, i, l, r, t) = some (some (vI xs0), (px_sh L, i, l, r, t)) := (xs_rz k145_8 rfl (h1))
-- TideGuestsModel.of ('R123', 'I', 'I')
theorem b146_0 (hr : px_hr r) (d : Nat) (i l : MI) (x1 : Int) (x2 : Int) (h1 : 0 ≤ (px_w32 ((px_w32 (120 + (px_w32 (14 * x1)))) + x2)) ∧ (px_w32 ((px_w32 (120 + (px_w32 (14 * x1)))) + x2)) < 820) : px_X d 146 (0, [vR 123, vI x1, vI x2], []) (px_sh L, i, l, r, t) = some (some (vI (i 124 (px_w32 ((px_w32 (120 + (px_w32 (14 * x1)))) + x2)))), (px_sh L, i, l, r, t)) := ((xs_aldn k146_0 rfl).trans ((xs_get4 k146_1 (px_s123 L) (Nat.le_of_ble_eq_true rfl) (px_r123_3 hr)).trans ((xs_bi k146_4 (by omega)).trans ((xs_bi k146_6 (by omega)).trans ((xs_ildn k146_8 rfl).trans ((xs_imul k146_9).trans ((xs_iadd k146_10).trans ((xs_ildn k146_11 rfl).trans ((xs_iadd k146_12).trans ((xs_iald k146_13 (px_s124 L) (h1)).trans (xs_ri k146_14 rfl)))))))))))
-- TideGuestsModel.cell ('R123', 'I', 'I', 'I')
theorem b147_0 (hr : px_hr r) (d : Nat) (i l : MI) (x1 : Int) (x2 : Int) (x3 : Int) : px_X (d + 1) 147 (0, [vR 123, vI x1, vI x2, vI x3], []) (px_sh L, i, l, r, t) = (px_C d 143 [vR 123, vI x1] (px_sh L, i, l, r, t)).bind (fun q => px_X (d + 1) 147 (px_psh (5, [vR 123, vI x1, vI x2, vI x3], []) q.1) q.2) := ((xs_aldn k147_0 rfl).trans ((xs_ildn k147_1 rfl).trans (xs_callvB k147_2 (as := [vI x1]) rfl rfl (Nat.le_of_ble_eq_true rfl) (Nat.le_of_ble_eq_true rfl) (Nat.le_of_ble_eq_true rfl) (px_s123 L) (Nat.le_of_ble_eq_true rfl))))
theorem b147_5 (hr : px_hr r) (d : Nat) (i l : MI) (x1 : Int) (x2 : Int) (x3 : Int) (xs0 : Int) : px_X (d + 1) 147 (5, [vR 123, vI x1, vI x2, vI x3], [vI xs0]) (px_sh L, i, l, r, t) = if xs0 = 0 then some (some (vI 0), (px_sh L, i, l, r, t)) else (px_C d 141 [vI x2, vI 0, vI 99] (px_sh L, i, l, r, t)).bind (fun q => px_X (d + 1) 147 (px_psh (15, [vR 123, vI x1, vI x2, vI x3], []) q.1) q.2) := ((xs_ieq k147_5).trans (px_ite (fun c1 => ((xs_ic k147_18 (by omega)).trans (xs_rz k147_19 rfl (by omega)))) (fun c1 => ((xs_ildn k147_8 rfl).trans ((xs_ic k147_9 (by omega)).trans ((xs_bi k147_10 (by omega)).trans (xs_callsB k147_12 (as := [vI x2, vI 0, vI 99]) rfl rfl (Nat.le_of_ble_eq_true rfl) (Nat.le_of_ble_eq_true rfl) (Nat.le_of_ble_eq_true rfl))))))))
theorem b147_15 (hr : px_hr r) (d : Nat) (i l : MI) (x1 : Int) (x2 : Int) (x3 : Int) (xs0 : Int) (h1 : (¬ (xs0 = 0)) → 0 ≤ (px_w32 (20 + (px_w32 (2 * x1)))) ∧ (px_w32 (20 + (px_w32 (2 * x1)))) < 820) (h2 : (¬ (xs0 = 0)) → (x3 = 0) → 0 ≤ (px_w32 ((px_w32 (20 + (px_w32 (2 * x1)))) + 1)) ∧ (px_w32 ((px_w32 (20 + (px_w32 (2 * x1)))) + 1)) < 820) (h3 : (¬ (xs0 = 0)) → (¬ (x3 = 0)) → 0 ≤ (px_w32 ((px_w32 (20 + (px_w32 (2 * x1)))) + 1)) ∧ (px_w32 ((px_w32 (20 + (px_w32 (2 * x1)))) + 1)) < 820) : px_X d 147 (15, [vR 123, vI x1, vI x2, vI x3], [vI xs0]) (px_sh L, i, l, r, t) = if xs0 = 0 then some (some (vI 0), (px_sh L, i, l, r, t)) else if x3 = 0 then some (some (vI 1), (px_sh L, (px_up (px_up i 124 (px_w32 (20 + (px_w32 (2 * x1)))) x2) 124 (px_w32 ((px_w32 (20 + (px_w32 (2 * x1)))) + 1)) 0), l, r, t)) else some (some (vI 1), (px_sh L, (px_up (px_up i 124 (px_w32 (20 + (px_w32 (2 * x1)))) x2) 124 (px_w32 ((px_w32 (20 + (px_w32 (2 * x1)))) + 1)) 1), l, r, t)) := ((xs_ine k147_15).trans (px_ite (fun c1 => ((xs_ic k147_18 (by omega)).trans (xs_rz k147_19 rfl (by omega)))) (fun c1 => ((xs_aldn k147_20 rfl).trans ((xs_get4 k147_21 (px_s123 L) (Nat.le_of_ble_eq_true rfl) (px_r123_3 hr)).trans ((xs_bi k147_24 (by omega)).trans ((xs_ic k147_26 (by omega)).trans ((xs_ildn k147_27 rfl).trans ((xs_imul k147_28).trans ((xs_iadd k147_29).trans ((xs_ildn k147_30 rfl).trans ((xs_iast k147_31 (px_s124 L) (h1 c1) (Nat.le_of_ble_eq_true rfl)).trans ((xs_aldn k147_32 rfl).trans ((xs_get4 k147_33 (px_s123 L) (Nat.le_of_ble_eq_true rfl) (px_r123_3 hr)).trans ((xs_bi k147_36 (by omega)).trans ((xs_ic k147_38 (by omega)).trans ((xs_ildn k147_39 rfl).trans ((xs_imul k147_40).trans ((xs_iadd k147_41).trans ((xs_ic k147_42 (by omega)).trans ((xs_iadd k147_43).trans ((xs_ildn k147_44 rfl).trans ((xs_ieq k147_45).trans (px_ite (fun c2 => ((xs_ic k147_52 (by omega)).trans ((xs_iast k147_53 (px_s124 L) (h2 c1 c2) (Nat.le_of_ble_eq_true rfl)).trans ((xs_ic k147_54 (by omega)).trans (xs_rz k147_55 rfl (by omega)))))) (fun c2 => ((xs_ic k147_48 (by omega)).trans ((xs_goto k147_49).trans ((xs_iast k147_53 (px_s124 L) (h3 c1 c2) (Nat.le_of_ble_eq_true rfl)).trans ((xs_ic k147_54 (by omega)).trans (xs_rz k147_55 rfl (by omega)))))))))))))))))))))))))))))))
-- TideGuestsModel.inn ('R123', 'I')
theorem b148_0 (hr : px_hr r) (d : Nat) (i l : MI) (x1 : Int) : px_X (d + 1) 148 (0, [vR 123, vI x1], []) (px_sh L, i, l, r, t) = (px_C d 143 [vR 123, vI x1] (px_sh L, i, l, r, t)).bind (fun q => px_X (d + 1) 148 (px_psh (5, [vR 123, vI x1], []) q.1) q.2) := ((xs_aldn k148_0 rfl).trans ((xs_ildn k148_1 rfl).trans (xs_callvB k148_2 (as := [vI x1]) rfl rfl (Nat.le_of_ble_eq_true rfl) (Nat.le_of_ble_eq_true rfl) (Nat.le_of_ble_eq_true rfl) (px_s123 L) (Nat.le_of_ble_eq_true rfl))))
theorem b148_5 (hr : px_hr r) (d : Nat) (i l : MI) (x1 : Int) (xs0 : Int) : px_X d 148 (5, [vR 123, vI x1], [vI xs0]) (px_sh L, i, l, r, t) = if xs0 = 0 then some (some (vI 0), (px_sh L, i, l, r, t)) else some (some (vI 1), (px_sh L, (px_up i 124 0 x1), l, r, t)) := ((xs_ine k148_5).trans (px_ite (fun c1 => ((xs_ic k148_8 (by omega)).trans (xs_rz k148_9 rfl (by omega)))) (fun c1 => ((xs_aldn k148_10 rfl).trans ((xs_get4 k148_11 (px_s123 L) (Nat.le_of_ble_eq_true rfl) (px_r123_3 hr)).trans ((xs_ic k148_14 (by omega)).trans ((xs_ildn k148_15 rfl).trans ((xs_iast k148_16 (px_s124 L) (by omega) (Nat.le_of_ble_eq_true rfl)).trans ((xs_ic k148_17 (by omega)).trans (xs_rz k148_18 rfl (by omega)))))))))))
-- TideGuestsModel.sky ('R123', 'I', 'I')
theorem b149_0 (hr : px_hr r) (d : Nat) (i l : MI) (x1 : Int) (x2 : Int) : px_X (d + 1) 149 (0, [vR 123, vI x1, vI x2], []) (px_sh L, i, l, r, t) = (px_C d 141 [vI x1, vI (-9), vI 9] (px_sh L, i, l, r, t)).bind (fun q => px_X (d + 1) 149 (px_psh (8, [vR 123, vI x1, vI x2], []) q.1) q.2) := ((xs_ildn k149_0 rfl).trans ((xs_bi k149_1 (by omega)).trans ((xs_bi k149_3 (by omega)).trans (xs_callsB k149_5 (as := [vI x1, vI (-9), vI 9]) rfl rfl (Nat.le_of_ble_eq_true rfl) (Nat.le_of_ble_eq_true rfl) (Nat.le_of_ble_eq_true rfl)))))
theorem b149_8 (hr : px_hr r) (d : Nat) (i l : MI) (x1 : Int) (x2 : Int) (xs0 : Int) : px_X (d + 1) 149 (8, [vR 123, vI x1, vI x2], [vI xs0]) (px_sh L, i, l, r, t) = if xs0 = 0 then some (some (vI 0), (px_sh L, i, l, r, t)) else (px_C d 141 [vI x2, vI 0, vI 9] (px_sh L, i, l, r, t)).bind (fun q => px_X (d + 1) 149 (px_psh (18, [vR 123, vI x1, vI x2], []) q.1) q.2) := ((xs_ieq k149_8).trans (px_ite (fun c1 => ((xs_ic k149_21 (by omega)).trans (xs_rz k149_22 rfl (by omega)))) (fun c1 => ((xs_ildn k149_11 rfl).trans ((xs_ic k149_12 (by omega)).trans ((xs_bi k149_13 (by omega)).trans (xs_callsB k149_15 (as := [vI x2, vI 0, vI 9]) rfl rfl (Nat.le_of_ble_eq_true rfl) (Nat.le_of_ble_eq_true rfl) (Nat.le_of_ble_eq_true rfl))))))))
theorem b149_18 (hr : px_hr r) (d : Nat) (i l : MI) (x1 : Int) (x2 : Int) (xs0 : Int) : px_X d 149 (18, [vR 123, vI x1, vI x2], [vI xs0]) (px_sh L, i, l, r, t) = if xs0 = 0 then some (some (vI 0), (px_sh L, i, l, r, t)) else some (some (vI 1), (px_sh L, (px_up (px_up i 124 1 x1) 124 2 x2), l, r, t)) := ((xs_ine k149_18).trans (px_ite (fun c1 => ((xs_ic k149_21 (by omega)).trans (xs_rz k149_22 rfl (by omega)))) (fun c1 => ((xs_aldn k149_23 rfl).trans ((xs_get4 k149_24 (px_s123 L) (Nat.le_of_ble_eq_true rfl) (px_r123_3 hr)).trans ((xs_ic k149_27 (by omega)).trans ((xs_ildn k149_28 rfl).trans ((xs_iast k149_29 (px_s124 L) (by omega) (Nat.le_of_ble_eq_true rfl)).trans ((xs_aldn k149_30 rfl).trans ((xs_get4 k149_31 (px_s123 L) (Nat.le_of_ble_eq_true rfl) (px_r123_3 hr)).trans ((xs_ic k149_34 (by omega)).trans ((xs_ildn k149_35 rfl).trans ((xs_iast k149_36 (px_s124 L) (by omega) (Nat.le_of_ble_eq_true rfl)).trans ((xs_ic k149_37 (by omega)).trans (xs_rz k149_38 rfl (by omega))))))))))))))))
-- TideGuestsModel.perch ('R123', 'I', 'I')
theorem b150_0 (hr : px_hr r) (d : Nat) (i l : MI) (x1 : Int) (x2 : Int) : px_X (d + 1) 150 (0, [vR 123, vI x1, vI x2], []) (px_sh L, i, l, r, t) = (px_C d 141 [vI x1, vI 0, vI 99] (px_sh L, i, l, r, t)).bind (fun q => px_X (d + 1) 150 (px_psh (7, [vR 123, vI x1, vI x2], []) q.1) q.2) := ((xs_ildn k150_0 rfl).trans ((xs_ic k150_1 (by omega)).trans ((xs_bi k150_2 (by omega)).trans (xs_callsB k150_4 (as := [vI x1, vI 0, vI 99]) rfl rfl (Nat.le_of_ble_eq_true rfl) (Nat.le_of_ble_eq_true rfl) (Nat.le_of_ble_eq_true rfl)))))
theorem b150_7 (hr : px_hr r) (d : Nat) (i l : MI) (x1 : Int) (x2 : Int) (xs0 : Int) : px_X (d + 1) 150 (7, [vR 123, vI x1, vI x2], [vI xs0]) (px_sh L, i, l, r, t) = if xs0 = 0 then some (some (vI (-1)), (px_sh L, i, l, r, t)) else (px_C d 141 [vI x2, vI 1, vI 4] (px_sh L, i, l, r, t)).bind (fun q => px_X (d + 1) 150 (px_psh (16, [vR 123, vI x1, vI x2], []) q.1) q.2) := ((xs_ieq k150_7).trans (px_ite (fun c1 => ((xs_ic k150_30 (by omega)).trans (xs_ri k150_31 rfl))) (fun c1 => ((xs_ildn k150_10 rfl).trans ((xs_ic k150_11 (by omega)).trans ((xs_ic k150_12 (by omega)).trans (xs_callsB k150_13 (as := [vI x2, vI 1, vI 4]) rfl rfl (Nat.le_of_ble_eq_true rfl) (Nat.le_of_ble_eq_true rfl) (Nat.le_of_ble_eq_true rfl))))))))
theorem b150_16 (hr : px_hr r) (d : Nat) (i l : MI) (x1 : Int) (x2 : Int) (xs0 : Int) (h1 : (¬ (xs0 = 0)) → (¬ ((i 124 3) = 8)) → 0 ≤ (px_w32 (100 + (px_w32 (2 * (i 124 3))))) ∧ (px_w32 (100 + (px_w32 (2 * (i 124 3))))) < 820) (h2 : (¬ (xs0 = 0)) → (¬ ((i 124 3) = 8)) → 0 ≤ (px_w32 ((px_w32 (100 + (px_w32 (2 * ((px_up i 124 (px_w32 (100 + (px_w32 (2 * (i 124 3))))) x1) 124 3))))) + 1)) ∧ (px_w32 ((px_w32 (100 + (px_w32 (2 * ((px_up i 124 (px_w32 (100 + (px_w32 (2 * (i 124 3))))) x1) 124 3))))) + 1)) < 820) : px_X d 150 (16, [vR 123, vI x1, vI x2], [vI xs0]) (px_sh L, i, l, r, t) = if xs0 = 0 then some (some (vI (-1)), (px_sh L, i, l, r, t)) else if (i 124 3) = 8 then some (some (vI (-1)), (px_sh L, i, l, r, t)) else some (some (vI (px_w32 ((px_w32 (((px_up (px_up i 124 (px_w32 (100 + (px_w32 (2 * (i 124 3))))) x1) 124 (px_w32 ((px_w32 (100 + (px_w32 (2 * ((px_up i 124 (px_w32 (100 + (px_w32 (2 * (i 124 3))))) x1) 124 3))))) + 1)) x2) 124 3) + 1)) - 1))), (px_sh L, (px_up (px_up (px_up i 124 (px_w32 (100 + (px_w32 (2 * (i 124 3))))) x1) 124 (px_w32 ((px_w32 (100 + (px_w32 (2 * ((px_up i 124 (px_w32 (100 + (px_w32 (2 * (i 124 3))))) x1) 124 3))))) + 1)) x2) 124 3 (px_w32 (((px_up (px_up i 124 (px_w32 (100 + (px_w32 (2 * (i 124 3))))) x1) 124 (px_w32 ((px_w32 (100 + (px_w32 (2 * ((px_up i 124 (px_w32 (100 + (px_w32 (2 * (i 124 3))))) x1) 124 3))))) + 1)) x2) 124 3) + 1))), l, r, t)) := ((xs_ieq k150_16).trans (px_ite (fun c1 => ((xs_ic k150_30 (by omega)).trans (xs_ri k150_31 rfl))) (fun c1 => ((xs_aldn k150_19 rfl).trans ((xs_get4 k150_20 (px_s123 L) (Nat.le_of_ble_eq_true rfl) (px_r123_3 hr)).trans ((xs_ic k150_23 (by omega)).trans ((xs_iald k150_24 (px_s124 L) (by omega)).trans ((xs_bi k150_25 (by omega)).trans ((xs_jne k150_27).trans (px_ite (fun c2 => ((xs_ic k150_30 (by omega)).trans (xs_ri k150_31 rfl))) (fun c2 => ((xs_aldn k150_32 rfl).trans ((xs_get4 k150_33 (px_s123 L) (Nat.le_of_ble_eq_true rfl) (px_r123_3 hr)).trans ((xs_bi k150_36 (by omega)).trans ((xs_ic k150_38 (by omega)).trans ((xs_aldn k150_39 rfl).trans ((xs_get4 k150_40 (px_s123 L) (Nat.le_of_ble_eq_true rfl) (px_r123_3 hr)).trans ((xs_ic k150_43 (by omega)).trans ((xs_iald k150_44 (px_s124 L) (by omega)).trans ((xs_imul k150_45).trans ((xs_iadd k150_46).trans ((xs_ildn k150_47 rfl).trans ((xs_iast k150_48 (px_s124 L) (h1 c1 c2) (Nat.le_of_ble_eq_true rfl)).trans ((xs_aldn k150_49 rfl).trans ((xs_get4 k150_50 (px_s123 L) (Nat.le_of_ble_eq_true rfl) (px_r123_3 hr)).trans ((xs_bi k150_53 (by omega)).trans ((xs_ic k150_55 (by omega)).trans ((xs_aldn k150_56 rfl).trans ((xs_get4 k150_57 (px_s123 L) (Nat.le_of_ble_eq_true rfl) (px_r123_3 hr)).trans ((xs_ic k150_60 (by omega)).trans ((xs_iald k150_61 (px_s124 L) (by omega)).trans ((xs_imul k150_62).trans ((xs_iadd k150_63).trans ((xs_ic k150_64 (by omega)).trans ((xs_iadd k150_65).trans ((xs_ildn k150_66 rfl).trans ((xs_iast k150_67 (px_s124 L) (h2 c1 c2) (Nat.le_of_ble_eq_true rfl)).trans ((xs_aldn k150_68 rfl).trans ((xs_get4 k150_69 (px_s123 L) (Nat.le_of_ble_eq_true rfl) (px_r123_3 hr)).trans ((xs_ic k150_72 (by omega)).trans ((xs_dup2 k150_73 ⟨rfl, rfl⟩).trans ((xs_iald k150_74 (px_s124 L) (by omega)).trans ((xs_ic k150_75 (by omega)).trans ((xs_iadd k150_76).trans ((xs_iast k150_77 (px_s124 L) (by omega) (Nat.le_of_ble_eq_true rfl)).trans ((xs_aldn k150_78 rfl).trans ((xs_get4 k150_79 (px_s123 L) (Nat.le_of_ble_eq_true rfl) (px_r123_3 hr)).trans ((xs_ic k150_82 (by omega)).trans ((xs_iald k150_83 (px_s124 L) (by omega)).trans ((xs_ic k150_84 (by omega)).trans ((xs_isub k150_85).trans (xs_ri k150_86 rfl))))))))))))))))))))))))))))))))))))))))))))))))))))
-- TideGuestsModel.guest ('R123', 'I', 'I', 'I', 'I', 'I', 'I', 'I')
theorem b151_0 (hr : px_hr r) (d : Nat) (i l : MI) (x1 : Int) (x2 : Int) (x3 : Int) (x4 : Int) (x5 : Int) (x6 : Int) (x7 : Int) : px_X (d + 1) 151 (0, [vR 123, vI x1, vI x2, vI x3, vI x4, vI x5, vI x6, vI x7, vJ, vJ, vJ], []) (px_sh L, i, l, r, t) = (px_C d 141 [vI x1, vI 0, vI 9] (px_sh L, i, l, r, t)).bind (fun q => px_X (d + 1) 151 (px_psh (7, [vR 123, vI x1, vI x2, vI x3, vI x4, vI x5, vI x6, vI x7, vJ, vJ, vJ], []) q.1) q.2) := ((xs_ildn k151_0 rfl).trans ((xs_ic k151_1 (by omega)).trans ((xs_bi k151_2 (by omega)).trans (xs_callsB k151_4 (as := [vI x1, vI 0, vI 9]) rfl rfl (Nat.le_of_ble_eq_true rfl) (Nat.le_of_ble_eq_true rfl) (Nat.le_of_ble_eq_true rfl)))))
theorem b151_7 (hr : px_hr r) (d : Nat) (i l : MI) (x1 : Int) (x2 : Int) (x3 : Int) (x4 : Int) (x5 : Int) (x6 : Int) (x7 : Int) (xs0 : Int) : px_X (d + 1) 151 (7, [vR 123, vI x1, vI x2, vI x3, vI x4, vI x5, vI x6, vI x7, vJ, vJ, vJ], [vI xs0]) (px_sh L, i, l, r, t) = if xs0 = 0 then px_X (d + 1) 151 (68, [vR 123, vI x1, vI x2, vI x3, vI x4, vI x5, vI x6, vI x7, vJ, vJ, vJ], []) (px_sh L, i, l, r, t) else (px_C d 141 [vI x2, vI 0, vI 30] (px_sh L, i, l, r, t)).bind (fun q => px_X (d + 1) 151 (px_psh (17, [vR 123, vI x1, vI x2, vI x3, vI x4, vI x5, vI x6, vI x7, vJ, vJ, vJ], []) q.1) q.2) := ((xs_ieq k151_7).trans (px_ite (fun c1 => rfl) (fun c1 => ((xs_ildn k151_10 rfl).trans ((xs_ic k151_11 (by omega)).trans ((xs_bi k151_12 (by omega)).trans (xs_callsB k151_14 (as := [vI x2, vI 0, vI 30]) rfl rfl (Nat.le_of_ble_eq_true rfl) (Nat.le_of_ble_eq_true rfl) (Nat.le_of_ble_eq_true rfl))))))))
theorem b151_17 (hr : px_hr r) (d : Nat) (i l : MI) (x1 : Int) (x2 : Int) (x3 : Int) (x4 : Int) (x5 : Int) (x6 : Int) (x7 : Int) (xs0 : Int) : px_X (d + 1) 151 (17, [vR 123, vI x1, vI x2, vI x3, vI x4, vI x5, vI x6, vI x7, vJ, vJ, vJ], [vI xs0]) (px_sh L, i, l, r, t) = if xs0 = 0 then px_X (d + 1) 151 (68, [vR 123, vI x1, vI x2, vI x3, vI x4, vI x5, vI x6, vI x7, vJ, vJ, vJ], []) (px_sh L, i, l, r, t) else (px_C d 141 [vI x4, vI 0, vI 9] (px_sh L, i, l, r, t)).bind (fun q => px_X (d + 1) 151 (px_psh (28, [vR 123, vI x1, vI x2, vI x3, vI x4, vI x5, vI x6, vI x7, vJ, vJ, vJ], []) q.1) q.2) := ((xs_ieq k151_17).trans (px_ite (fun c1 => rfl) (fun c1 => ((xs_ild k151_20 rfl).trans ((xs_ic k151_22 (by omega)).trans ((xs_bi k151_23 (by omega)).trans (xs_callsB k151_25 (as := [vI x4, vI 0, vI 9]) rfl rfl (Nat.le_of_ble_eq_true rfl) (Nat.le_of_ble_eq_true rfl) (Nat.le_of_ble_eq_true rfl))))))))
theorem b151_28 (hr : px_hr r) (d : Nat) (i l : MI) (x1 : Int) (x2 : Int) (x3 : Int) (x4 : Int) (x5 : Int) (x6 : Int) (x7 : Int) (xs0 : Int) : px_X (d + 1) 151 (28, [vR 123, vI x1, vI x2, vI x3, vI x4, vI x5, vI x6, vI x7, vJ, vJ, vJ], [vI xs0]) (px_sh L, i, l, r, t) = if xs0 = 0 then px_X (d + 1) 151 (68, [vR 123, vI x1, vI x2, vI x3, vI x4, vI x5, vI x6, vI x7, vJ, vJ, vJ], []) (px_sh L, i, l, r, t) else (px_C d 141 [vI x5, vI 0, vI 9] (px_sh L, i, l, r, t)).bind (fun q => px_X (d + 1) 151 (px_psh (39, [vR 123, vI x1, vI x2, vI x3, vI x4, vI x5, vI x6, vI x7, vJ, vJ, vJ], []) q.1) q.2) := ((xs_ieq k151_28).trans (px_ite (fun c1 => rfl) (fun c1 => ((xs_ild k151_31 rfl).trans ((xs_ic k151_33 (by omega)).trans ((xs_bi k151_34 (by omega)).trans (xs_callsB k151_36 (as := [vI x5, vI 0, vI 9]) rfl rfl (Nat.le_of_ble_eq_true rfl) (Nat.le_of_ble_eq_true rfl) (Nat.le_of_ble_eq_true rfl))))))))
theorem b151_39 (hr : px_hr r) (d : Nat) (i l : MI) (x1 : Int) (x2 : Int) (x3 : Int) (x4 : Int) (x5 : Int) (x6 : Int) (x7 : Int) (xs0 : Int) : px_X (d + 1) 151 (39, [vR 123, vI x1, vI x2, vI x3, vI x4, vI x5, vI x6, vI x7, vJ, vJ, vJ], [vI xs0]) (px_sh L, i, l, r, t) = if xs0 = 0 then px_X (d + 1) 151 (68, [vR 123, vI x1, vI x2, vI x3, vI x4, vI x5, vI x6, vI x7, vJ, vJ, vJ], []) (px_sh L, i, l, r, t) else (px_C d 141 [vI x6, vI 1, vI 20] (px_sh L, i, l, r, t)).bind (fun q => px_X (d + 1) 151 (px_psh (50, [vR 123, vI x1, vI x2, vI x3, vI x4, vI x5, vI x6, vI x7, vJ, vJ, vJ], []) q.1) q.2) := ((xs_ieq k151_39).trans (px_ite (fun c1 => rfl) (fun c1 => ((xs_ild k151_42 rfl).trans ((xs_ic k151_44 (by omega)).trans ((xs_bi k151_45 (by omega)).trans (xs_callsB k151_47 (as := [vI x6, vI 1, vI 20]) rfl rfl (Nat.le_of_ble_eq_true rfl) (Nat.le_of_ble_eq_true rfl) (Nat.le_of_ble_eq_true rfl))))))))
theorem b151_50 (hr : px_hr r) (d : Nat) (i l : MI) (x1 : Int) (x2 : Int) (x3 : Int) (x4 : Int) (x5 : Int) (x6 : Int) (x7 : Int) (xs0 : Int) : px_X (d + 1) 151 (50, [vR 123, vI x1, vI x2, vI x3, vI x4, vI x5, vI x6, vI x7, vJ, vJ, vJ], [vI xs0]) (px_sh L, i, l, r, t) = if xs0 = 0 then px_X (d + 1) 151 (68, [vR 123, vI x1, vI x2, vI x3, vI x4, vI x5, vI x6, vI x7, vJ, vJ, vJ], []) (px_sh L, i, l, r, t) else (px_C d 141 [vI x7, vI 0, vI 30] (px_sh L, i, l, r, t)).bind (fun q => px_X (d + 1) 151 (px_psh (61, [vR 123, vI x1, vI x2, vI x3, vI x4, vI x5, vI x6, vI x7, vJ, vJ, vJ], []) q.1) q.2) := ((xs_ieq k151_50).trans (px_ite (fun c1 => rfl) (fun c1 => ((xs_ild k151_53 rfl).trans ((xs_ic k151_55 (by omega)).trans ((xs_bi k151_56 (by omega)).trans (xs_callsB k151_58 (as := [vI x7, vI 0, vI 30]) rfl rfl (Nat.le_of_ble_eq_true rfl) (Nat.le_of_ble_eq_true rfl) (Nat.le_of_ble_eq_true rfl))))))))
theorem b151_61 (hr : px_hr r) (d : Nat) (i l : MI) (x1 : Int) (x2 : Int) (x3 : Int) (x4 : Int) (x5 : Int) (x6 : Int) (x7 : Int) (xs0 : Int) : px_X d 151 (61, [vR 123, vI x1, vI x2, vI x3, vI x4, vI x5, vI x6, vI x7, vJ, vJ, vJ], [vI xs0]) (px_sh L, i, l, r, t) = if xs0 = 0 then px_X d 151 (68, [vR 123, vI x1, vI x2, vI x3, vI x4, vI x5, vI x6, vI x7, vJ, vJ, vJ], []) (px_sh L, i, l, r, t) else px_X d 151 (69, [vR 123, vI x1, vI x2, vI x3, vI x4, vI x5, vI x6, vI x7, vJ, vJ, vJ], [vI 1]) (px_sh L, i, l, r, t) := ((xs_ieq k151_61).trans (px_ite (fun c1 => rfl) (fun c1 => ((xs_ic k151_64 (by omega)).trans (xs_goto k151_65)))))
theorem b151_68 (hr : px_hr r) (d : Nat) (i l : MI) (x1 : Int) (x2 : Int) (x3 : Int) (x4 : Int) (x5 : Int) (x6 : Int) (x7 : Int) : px_X d 151 (68, [vR 123, vI x1, vI x2, vI x3, vI x4, vI x5, vI x6, vI x7, vJ, vJ, vJ], []) (px_sh L, i, l, r, t) = px_X d 151 (69, [vR 123, vI x1, vI x2, vI x3, vI x4, vI x5, vI x6, vI x7, vJ, vJ, vJ], [vI 0]) (px_sh L, i, l, r, t) := (xs_ic k151_68 (by omega))
theorem b151_69 (hr : px_hr r) (d : Nat) (i l : MI) (x1 : Int) (x2 : Int) (x3 : Int) (x4 : Int) (x5 : Int) (x6 : Int) (x7 : Int) (xs0 : Int) : px_X d 151 (69, [vR 123, vI x1, vI x2, vI x3, vI x4, vI x5, vI x6, vI x7, vJ, vJ, vJ], [vI xs0]) (px_sh L, i, l, r, t) = if xs0 = 0 then some (some (vI (-1)), (px_sh L, i, l, r, t)) else if (i 124 4) = 10 then some (some (vI (-1)), (px_sh L, i, l, r, t)) else px_X d 151 (106, [vR 123, vI x1, vI x2, vI x3, vI x4, vI x5, vI x6, vI x7, vI xs0, vI (px_w32 (120 + (px_w32 (14 * (i 124 4))))), vI 0], []) (px_sh L, i, l, r, t) := ((xs_ist k151_69 (Nat.le_of_ble_eq_true rfl) (ls' := [vR 123, vI x1, vI x2, vI x3, vI x4, vI x5, vI x6, vI x7, vI xs0, vJ, vJ]) rfl).trans ((xs_ild k151_71 rfl).trans ((xs_ieq k151_73).trans (px_ite (fun c1 => ((xs_ic k151_87 (by omega)).trans (xs_ri k151_88 rfl))) (fun c1 => ((xs_aldn k151_76 rfl).trans ((xs_get4 k151_77 (px_s123 L) (Nat.le_of_ble_eq_true rfl) (px_r123_3 hr)).trans ((xs_ic k151_80 (by omega)).trans ((xs_iald k151_81 (px_s124 L) (by omega)).trans ((xs_bi k151_82 (by omega)).trans ((xs_jne k151_84).trans (px_ite (fun c2 => ((xs_ic k151_87 (by omega)).trans (xs_ri k151_88 rfl))) (fun c2 => ((xs_bi k151_89 (by omega)).trans ((xs_bi k151_91 (by omega)).trans ((xs_aldn k151_93 rfl).trans ((xs_get4 k151_94 (px_s123 L) (Nat.le_of_ble_eq_true rfl) (px_r123_3 hr)).trans ((xs_ic k151_97 (by omega)).trans ((xs_iald k151_98 (px_s124 L) (by omega)).trans ((xs_imul k151_99).trans ((xs_iadd k151_100).trans ((xs_ist k151_101 (Nat.le_of_ble_eq_true rfl) (ls' := [vR 123, vI x1, vI x2, vI x3, vI x4, vI x5, vI x6, vI x7, vI xs0, vI (px_w32 (120 + (px_w32 (14 * (i 124 4))))), vJ]) rfl).trans ((xs_ic k151_103 (by omega)).trans (xs_ist k151_104 (Nat.le_of_ble_eq_true rfl) (ls' := [vR 123, vI x1, vI x2, vI x3, vI x4, vI x5, vI x6, vI x7, vI xs0, vI (px_w32 (120 + (px_w32 (14 * (i 124 4))))), vI 0]) rfl))))))))))))))))))))))))
theorem b151_106 (hr : px_hr r) (d : Nat) (i l : MI) (x1 : Int) (x2 : Int) (x3 : Int) (x4 : Int) (x5 : Int) (x6 : Int) (x7 : Int) (x8 : Int) (x9 : Int) (x10 : Int) (h1 : (14 ≤ x10) → 0 ≤ (px_w32 (x9 + 0)) ∧ (px_w32 (x9 + 0)) < 820) (h2 : (14 ≤ x10) → 0 ≤ (px_w32 (x9 + 1)) ∧ (px_w32 (x9 + 1)) < 820) (h3 : (¬ (14 ≤ x10)) → 0 ≤ (px_w32 (x9 + x10)) ∧ (px_w32 (x9 + x10)) < 820) : px_X d 151 (106, [vR 123, vI x1, vI x2, vI x3, vI x4, vI x5, vI x6, vI x7, vI x8, vI x9, vI x10], []) (px_sh L, i, l, r, t) = if 14 ≤ x10 then if x3 = 0 then px_X d 151 (167, [vR 123, vI x1, vI x2, vI x3, vI x4, vI x5, vI x6, vI x7, vI x8, vI x9, vI x10], [vI 0, vI (px_w32 (x9 + 2)), vR 124]) (px_sh L, (px_up (px_up i 124 (px_w32 (x9 + 0)) x1) 124 (px_w32 (x9 + 1)) x2), l, r, t) else px_X d 151 (167, [vR 123, vI x1, vI x2, vI x3, vI x4, vI x5, vI x6, vI x7, vI x8, vI x9, vI x10], [vI 1, vI (px_w32 (x9 + 2)), vR 124]) (px_sh L, (px_up (px_up i 124 (px_w32 (x9 + 0)) x1) 124 (px_w32 (x9 + 1)) x2), l, r, t) else px_X d 151 (106, [vR 123, vI x1, vI x2, vI x3, vI x4, vI x5, vI x6, vI x7, vI x8, vI x9, vI (px_w32 (x10 + 1))], []) (px_sh L, (px_up i 124 (px_w32 (x9 + x10)) 0), l, r, t) := ((xs_ild k151_106 rfl).trans ((xs_bi k151_108 (by omega)).trans ((xs_jge k151_110).trans (px_ite (fun c1 => ((xs_aldn k151_130 rfl).trans ((xs_get4 k151_131 (px_s123 L) (Nat.le_of_ble_eq_true rfl) (px_r123_3 hr)).trans ((xs_ild k151_134 rfl).trans ((xs_ic k151_136 (by omega)).trans ((xs_iadd k151_137).trans ((xs_ildn k151_138 rfl).trans ((xs_iast k151_139 (px_s124 L) (h1 c1) (Nat.le_of_ble_eq_true rfl)).trans ((xs_aldn k151_140 rfl).trans ((xs_get4 k151_141 (px_s123 L) (Nat.le_of_ble_eq_true rfl) (px_r123_3 hr)).trans ((xs_ild k151_144 rfl).trans ((xs_ic k151_146 (by omega)).trans ((xs_iadd k151_147).trans ((xs_ildn k151_148 rfl).trans ((xs_iast k151_149 (px_s124 L) (h2 c1) (Nat.le_of_ble_eq_true rfl)).trans ((xs_aldn k151_150 rfl).trans ((xs_get4 k151_151 (px_s123 L) (Nat.le_of_ble_eq_true rfl) (px_r123_3 hr)).trans ((xs_ild k151_154 rfl).trans ((xs_ic k151_156 (by omega)).trans ((xs_iadd k151_157).trans ((xs_ildn k151_158 rfl).trans ((xs_ieq k151_159).trans (px_ite (fun c2 => (xs_ic k151_166 (by omega))) (fun c2 => ((xs_ic k151_162 (by omega)).trans (xs_goto k151_163)))))))))))))))))))))))))) (fun c1 => ((xs_aldn k151_113 rfl).trans ((xs_get4 k151_114 (px_s123 L) (Nat.le_of_ble_eq_true rfl) (px_r123_3 hr)).trans ((xs_ild k151_117 rfl).trans ((xs_ild k151_119 rfl).trans ((xs_iadd k151_121).trans ((xs_ic k151_122 (by omega)).trans ((xs_iast k151_123 (px_s124 L) (h3 c1) (Nat.le_of_ble_eq_true rfl)).trans ((xs_iinc k151_124 rfl (by omega) (ls' := [vR 123, vI x1, vI x2, vI x3, vI x4, vI x5, vI x6, vI x7, vI x8, vI x9, vI (px_w32 (x10 + 1))]) rfl).trans (xs_goto k151_127))))))))))))))
theorem b151_167 (hr : px_hr r) (d : Nat) (i l : MI) (x1 : Int) (x2 : Int) (x3 : Int) (x4 : Int) (x5 : Int) (x6 : Int) (x7 : Int) (x8 : Int) (x9 : Int) (x10 : Int) (xs0 : Int) (xs1 : Int) (h1 : 0 ≤ xs1 ∧ xs1 < 820) (h2 : 0 ≤ (px_w32 (x9 + 3)) ∧ (px_w32 (x9 + 3)) < 820) (h3 : 0 ≤ (px_w32 (x9 + 4)) ∧ (px_w32 (x9 + 4)) < 820) (h4 : 0 ≤ (px_w32 (x9 + 5)) ∧ (px_w32 (x9 + 5)) < 820) (h5 : 0 ≤ (px_w32 (x9 + 6)) ∧ (px_w32 (x9 + 6)) < 820) (h6 : 0 ≤ (px_w32 (x9 + 8)) ∧ (px_w32 (x9 + 8)) < 820) : px_X d 151 (167, [vR 123, vI x1, vI x2, vI x3, vI x4, vI x5, vI x6, vI x7, vI x8, vI x9, vI x10], [vI xs0, vI xs1, vR 124]) (px_sh L, i, l, r, t) = some (some (vI (px_w32 ((px_w32 (((px_up (px_up (px_up (px_up (px_up (px_up i 124 xs1 xs0) 124 (px_w32 (x9 + 3)) x4) 124 (px_w32 (x9 + 4)) x5) 124 (px_w32 (x9 + 5)) x6) 124 (px_w32 (x9 + 6)) x7) 124 (px_w32 (x9 + 8)) 1) 124 4) + 1)) - 1))), (px_sh L, (px_up (px_up (px_up (px_up (px_up (px_up (px_up i 124 xs1 xs0) 124 (px_w32 (x9 + 3)) x4) 124 (px_w32 (x9 + 4)) x5) 124 (px_w32 (x9 + 5)) x6) 124 (px_w32 (x9 + 6)) x7) 124 (px_w32 (x9 + 8)) 1) 124 4 (px_w32 (((px_up (px_up (px_up (px_up (px_up (px_up i 124 xs1 xs0) 124 (px_w32 (x9 + 3)) x4) 124 (px_w32 (x9 + 4)) x5) 124 (px_w32 (x9 + 5)) x6) 124 (px_w32 (x9 + 6)) x7) 124 (px_w32 (x9 + 8)) 1) 124 4) + 1))), l, r, t)) := ((xs_iast k151_167 (px_s124 L) (h1) (Nat.le_of_ble_eq_true rfl)).trans ((xs_aldn k151_168 rfl).trans ((xs_get4 k151_169 (px_s123 L) (Nat.le_of_ble_eq_true rfl) (px_r123_3 hr)).trans ((xs_ild k151_172 rfl).trans ((xs_ic k151_174 (by omega)).trans ((xs_iadd k151_175).trans ((xs_ild k151_176 rfl).trans ((xs_iast k151_178 (px_s124 L) (h2) (Nat.le_of_ble_eq_true rfl)).trans ((xs_aldn k151_179 rfl).trans ((xs_get4 k151_180 (px_s123 L) (Nat.le_of_ble_eq_true rfl) (px_r123_3 hr)).trans ((xs_ild k151_183 rfl).trans ((xs_ic k151_185 (by omega)).trans ((xs_iadd k151_186).trans ((xs_ild k151_187 rfl).trans ((xs_iast k151_189 (px_s124 L) (h3) (Nat.le_of_ble_eq_true rfl)).trans ((xs_aldn k151_190 rfl).trans ((xs_get4 k151_191 (px_s123 L) (Nat.le_of_ble_eq_true rfl) (px_r123_3 hr)).trans ((xs_ild k151_194 rfl).trans ((xs_ic k151_196 (by omega)).trans ((xs_iadd k151_197).trans ((xs_ild k151_198 rfl).trans ((xs_iast k151_200 (px_s124 L) (h4) (Nat.le_of_ble_eq_true rfl)).trans ((xs_aldn k151_201 rfl).trans ((xs_get4 k151_202 (px_s123 L) (Nat.le_of_ble_eq_true rfl) (px_r123_3 hr)).trans ((xs_ild k151_205 rfl).trans ((xs_bi k151_207 (by omega)).trans ((xs_iadd k151_209).trans ((xs_ild k151_210 rfl).trans ((xs_iast k151_212 (px_s124 L) (h5) (Nat.le_of_ble_eq_true rfl)).trans ((xs_aldn k151_213 rfl).trans ((xs_get4 k151_214 (px_s123 L) (Nat.le_of_ble_eq_true rfl) (px_r123_3 hr)).trans ((xs_ild k151_217 rfl).trans ((xs_bi k151_219 (by omega)).trans ((xs_iadd k151_221).trans ((xs_ic k151_222 (by omega)).trans ((xs_iast k151_223 (px_s124 L) (h6) (Nat.le_of_ble_eq_true rfl)).trans ((xs_aldn k151_224 rfl).trans ((xs_get4 k151_225 (px_s123 L) (Nat.le_of_ble_eq_true rfl) (px_r123_3 hr)).trans ((xs_ic k151_228 (by omega)).trans ((xs_dup2 k151_229 ⟨rfl, rfl⟩).trans ((xs_iald k151_230 (px_s124 L) (by omega)).trans ((xs_ic k151_231 (by omega)).trans ((xs_iadd k151_232).trans ((xs_iast k151_233 (px_s124 L) (by omega) (Nat.le_of_ble_eq_true rfl)).trans ((xs_aldn k151_234 rfl).trans ((xs_get4 k151_235 (px_s123 L) (Nat.le_of_ble_eq_true rfl) (px_r123_3 hr)).trans ((xs_ic k151_238 (by omega)).trans ((xs_iald k151_239 (px_s124 L) (by omega)).trans ((xs_ic k151_240 (by omega)).trans ((xs_isub k151_241).trans (xs_ri k151_242 rfl)))))))))))))))))))))))))))))))))))))))))))))))))))
-- TideGuestsModel.here ('R123', 'I', 'I', 'I')
theorem b152_0 (hr : px_hr r) (d : Nat) (i l : MI) (x1 : Int) (x2 : Int) (x3 : Int) : px_X (d + 1) 152 (0, [vR 123, vI x1, vI x2, vI x3], []) (px_sh L, i, l, r, t) = (px_C d 144 [vR 123, vI x1] (px_sh L, i, l, r, t)).bind (fun q => px_X (d + 1) 152 (px_psh (5, [vR 123, vI x1, vI x2, vI x3], []) q.1) q.2) := ((xs_aldn k152_0 rfl).trans ((xs_ildn k152_1 rfl).trans (xs_callvB k152_2 (as := [vI x1]) rfl rfl (Nat.le_of_ble_eq_true rfl) (Nat.le_of_ble_eq_true rfl) (Nat.le_of_ble_eq_true rfl) (px_s123 L) (Nat.le_of_ble_eq_true rfl))))
theorem b152_5 (hr : px_hr r) (d : Nat) (i l : MI) (x1 : Int) (x2 : Int) (x3 : Int) (xs0 : Int) : px_X (d + 1) 152 (5, [vR 123, vI x1, vI x2, vI x3], [vI xs0]) (px_sh L, i, l, r, t) = if xs0 = 0 then some (some (vI 0), (px_sh L, i, l, r, t)) else (px_C d 141 [vI x2, vI 0, vI 99] (px_sh L, i, l, r, t)).bind (fun q => px_X (d + 1) 152 (px_psh (15, [vR 123, vI x1, vI x2, vI x3], []) q.1) q.2) := ((xs_ieq k152_5).trans (px_ite (fun c1 => ((xs_ic k152_18 (by omega)).trans (xs_rz k152_19 rfl (by omega)))) (fun c1 => ((xs_ildn k152_8 rfl).trans ((xs_ic k152_9 (by omega)).trans ((xs_bi k152_10 (by omega)).trans (xs_callsB k152_12 (as := [vI x2, vI 0, vI 99]) rfl rfl (Nat.le_of_ble_eq_true rfl) (Nat.le_of_ble_eq_true rfl) (Nat.le_of_ble_eq_true rfl))))))))
theorem b152_15 (hr : px_hr r) (d : Nat) (i l : MI) (x1 : Int) (x2 : Int) (x3 : Int) (xs0 : Int) (h1 : (¬ (xs0 = 0)) → 0 ≤ (px_w32 ((px_w32 (120 + (px_w32 (14 * x1)))) + 7)) ∧ (px_w32 ((px_w32 (120 + (px_w32 (14 * x1)))) + 7)) < 820) (h2 : (¬ (xs0 = 0)) → (x3 = 0) → 0 ≤ (px_w32 ((px_w32 (120 + (px_w32 (14 * x1)))) + 8)) ∧ (px_w32 ((px_w32 (120 + (px_w32 (14 * x1)))) + 8)) < 820) (h3 : (¬ (xs0 = 0)) → (¬ (x3 = 0)) → 0 ≤ (px_w32 ((px_w32 (120 + (px_w32 (14 * x1)))) + 8)) ∧ (px_w32 ((px_w32 (120 + (px_w32 (14 * x1)))) + 8)) < 820) : px_X d 152 (15, [vR 123, vI x1, vI x2, vI x3], [vI xs0]) (px_sh L, i, l, r, t) = if xs0 = 0 then some (some (vI 0), (px_sh L, i, l, r, t)) else if x3 = 0 then some (some (vI 1), (px_sh L, (px_up (px_up i 124 (px_w32 ((px_w32 (120 + (px_w32 (14 * x1)))) + 7)) x2) 124 (px_w32 ((px_w32 (120 + (px_w32 (14 * x1)))) + 8)) 0), l, r, t)) else some (some (vI 1), (px_sh L, (px_up (px_up i 124 (px_w32 ((px_w32 (120 + (px_w32 (14 * x1)))) + 7)) x2) 124 (px_w32 ((px_w32 (120 + (px_w32 (14 * x1)))) + 8)) 1), l, r, t)) := ((xs_ine k152_15).trans (px_ite (fun c1 => ((xs_ic k152_18 (by omega)).trans (xs_rz k152_19 rfl (by omega)))) (fun c1 => ((xs_aldn k152_20 rfl).trans ((xs_get4 k152_21 (px_s123 L) (Nat.le_of_ble_eq_true rfl) (px_r123_3 hr)).trans ((xs_bi k152_24 (by omega)).trans ((xs_bi k152_26 (by omega)).trans ((xs_ildn k152_28 rfl).trans ((xs_imul k152_29).trans ((xs_iadd k152_30).trans ((xs_bi k152_31 (by omega)).trans ((xs_iadd k152_33).trans ((xs_ildn k152_34 rfl).trans ((xs_iast k152_35 (px_s124 L) (h1 c1) (Nat.le_of_ble_eq_true rfl)).trans ((xs_aldn k152_36 rfl).trans ((xs_get4 k152_37 (px_s123 L) (Nat.le_of_ble_eq_true rfl) (px_r123_3 hr)).trans ((xs_bi k152_40 (by omega)).trans ((xs_bi k152_42 (by omega)).trans ((xs_ildn k152_44 rfl).trans ((xs_imul k152_45).trans ((xs_iadd k152_46).trans ((xs_bi k152_47 (by omega)).trans ((xs_iadd k152_49).trans ((xs_ildn k152_50 rfl).trans ((xs_ieq k152_51).trans (px_ite (fun c2 => ((xs_ic k152_58 (by omega)).trans ((xs_iast k152_59 (px_s124 L) (h2 c1 c2) (Nat.le_of_ble_eq_true rfl)).trans ((xs_ic k152_60 (by omega)).trans (xs_rz k152_61 rfl (by omega)))))) (fun c2 => ((xs_ic k152_54 (by omega)).trans ((xs_goto k152_55).trans ((xs_iast k152_59 (px_s124 L) (h3 c1 c2) (Nat.le_of_ble_eq_true rfl)).trans ((xs_ic k152_60 (by omega)).trans (xs_rz k152_61 rfl (by omega)))))))))))))))))))))))))))))))))
-- TideGuestsModel.put ('R123', 'I')
theorem b153_0 (hr : px_hr r) (d : Nat) (i l : MI) (x1 : Int) : px_X d 153 (0, [vR 123, vI x1, vJ], []) (px_sh L, i, l, r, t) = px_X d 153 (3, [vR 123, vI x1, vI 24], []) (px_sh L, i, l, r, t) := ((xs_bi k153_0 (by omega)).trans (xs_istn k153_2 (Nat.le_of_ble_eq_true rfl) (ls' := [vR 123, vI x1, vI 24]) rfl))
theorem b153_3 (hr : px_hr r) (d : Nat) (i l : MI) (x1 : Int) (x2 : Int) (h1 : (¬ (x2 < 0)) → 0 ≤ (i 123 6) ∧ (i 123 6) < 300) : px_X d 153 (3, [vR 123, vI x1, vI x2], []) (px_sh L, i, l, r, t) = if x2 < 0 then some (none, (px_sh L, i, l, r, t)) else px_X d 153 (3, [vR 123, vI x1, vI (px_w32 (x2 - 8))], []) (px_sh L, (px_up (px_up i 126 (i 123 6) (px_i2b (px_i2b (px_shr x1 x2)))) 123 6 (px_w32 ((i 123 6) + 1))), l, r, t) := ((xs_ildn k153_3 rfl).trans ((xs_ilt k153_4).trans (px_ite (fun c1 => (xs_rv k153_38 rfl)) (fun c1 => ((xs_aldn k153_7 rfl).trans ((xs_get4 k153_8 (px_s123 L) (Nat.le_of_ble_eq_true rfl) (px_r123_5 hr)).trans ((xs_aldn k153_11 rfl).trans ((xs_get0 k153_12 (px_s123 L) (Nat.le_of_ble_eq_true rfl)).trans ((xs_ildn k153_15 rfl).trans ((xs_ildn k153_16 rfl).trans ((xs_ishr k153_17).trans ((xs_i2b k153_18).trans ((xs_bast1 k153_19 (px_s126 L) (h1 c1) (Nat.le_of_ble_eq_true rfl)).trans ((xs_aldn k153_20 rfl).trans ((xs_dup k153_21 rfl).trans ((xs_get0 k153_22 (px_s123 L) (Nat.le_of_ble_eq_true rfl)).trans ((xs_ic k153_25 (by omega)).trans ((xs_iadd k153_26).trans ((xs_put0 k153_27 (Or.inl rfl) (px_s123 L) (Nat.le_of_ble_eq_true rfl)).trans ((xs_ildn k153_30 rfl).trans ((xs_bi k153_31 (by omega)).trans ((xs_isub k153_33).trans ((xs_istn k153_34 (Nat.le_of_ble_eq_true rfl) (ls' := [vR 123, vI x1, vI (px_w32 (x2 - 8))]) rfl).trans (xs_goto k153_35))))))))))))))))))))))))
-- TideGuestsModel.feed ('R123', 'I', 'I', 'I', 'I', 'I')
theorem b154_0 (hr : px_hr r) (d : Nat) (i l : MI) (x1 : Int) (x2 : Int) (x3 : Int) (x4 : Int) (x5 : Int) : px_X (d + 1) 154 (0, [vR 123, vI x1, vI x2, vI x3, vI x4, vI x5], []) (px_sh L, i, l, r, t) = if (px_w32 ((i 123 6) + 20)) ≤ 300 then (px_C d 153 [vR 123, vI x1] (px_sh L, i, l, r, t)).bind (fun q => px_X (d + 1) 154 (px_psh (20, [vR 123, vI x1, vI x2, vI x3, vI x4, vI x5], []) q.1) q.2) else some (some (vI (-1)), (px_sh L, i, l, r, t)) := ((xs_aldn k154_0 rfl).trans ((xs_get0 k154_1 (px_s123 L) (Nat.le_of_ble_eq_true rfl)).trans ((xs_bi k154_4 (by omega)).trans ((xs_iadd k154_6).trans ((xs_si k154_7 (by omega)).trans ((xs_jle k154_10).trans (px_ite (fun c1 => ((xs_aldn k154_15 rfl).trans ((xs_ildn k154_16 rfl).trans (xs_callvB k154_17 (as := [vI x1]) rfl rfl (Nat.le_of_ble_eq_true rfl) (Nat.le_of_ble_eq_true rfl) (Nat.le_of_ble_eq_true rfl) (px_s123 L) (Nat.le_of_ble_eq_true rfl))))) (fun c1 => ((xs_ic k154_13 (by omega)).trans (xs_ri k154_14 rfl))))))))))
theorem b154_20 (hr : px_hr r) (d : Nat) (i l : MI) (x1 : Int) (x2 : Int) (x3 : Int) (x4 : Int) (x5 : Int) : px_X (d + 1) 154 (20, [vR 123, vI x1, vI x2, vI x3, vI x4, vI x5], []) (px_sh L, i, l, r, t) = (px_C d 153 [vR 123, vI x2] (px_sh L, i, l, r, t)).bind (fun q => px_X (d + 1) 154 (px_psh (25, [vR 123, vI x1, vI x2, vI x3, vI x4, vI x5], []) q.1) q.2) := ((xs_aldn k154_20 rfl).trans ((xs_ildn k154_21 rfl).trans (xs_callvB k154_22 (as := [vI x2]) rfl rfl (Nat.le_of_ble_eq_true rfl) (Nat.le_of_ble_eq_true rfl) (Nat.le_of_ble_eq_true rfl) (px_s123 L) (Nat.le_of_ble_eq_true rfl))))
theorem b154_25 (hr : px_hr r) (d : Nat) (i l : MI) (x1 : Int) (x2 : Int) (x3 : Int) (x4 : Int) (x5 : Int) : px_X (d + 1) 154 (25, [vR 123, vI x1, vI x2, vI x3, vI x4, vI x5], []) (px_sh L, i, l, r, t) = (px_C d 153 [vR 123, vI x3] (px_sh L, i, l, r, t)).bind (fun q => px_X (d + 1) 154 (px_psh (30, [vR 123, vI x1, vI x2, vI x3, vI x4, vI x5], []) q.1) q.2) := ((xs_aldn k154_25 rfl).trans ((xs_ildn k154_26 rfl).trans (xs_callvB k154_27 (as := [vI x3]) rfl rfl (Nat.le_of_ble_eq_true rfl) (Nat.le_of_ble_eq_true rfl) (Nat.le_of_ble_eq_true rfl) (px_s123 L) (Nat.le_of_ble_eq_true rfl))))
theorem b154_30 (hr : px_hr r) (d : Nat) (i l : MI) (x1 : Int) (x2 : Int) (x3 : Int) (x4 : Int) (x5 : Int) : px_X (d + 1) 154 (30, [vR 123, vI x1, vI x2, vI x3, vI x4, vI x5], []) (px_sh L, i, l, r, t) = (px_C d 153 [vR 123, vI x4] (px_sh L, i, l, r, t)).bind (fun q => px_X (d + 1) 154 (px_psh (36, [vR 123, vI x1, vI x2, vI x3, vI x4, vI x5], []) q.1) q.2) := ((xs_aldn k154_30 rfl).trans ((xs_ild k154_31 rfl).trans (xs_callvB k154_33 (as := [vI x4]) rfl rfl (Nat.le_of_ble_eq_true rfl) (Nat.le_of_ble_eq_true rfl) (Nat.le_of_ble_eq_true rfl) (px_s123 L) (Nat.le_of_ble_eq_true rfl))))
theorem b154_36 (hr : px_hr r) (d : Nat) (i l : MI) (x1 : Int) (x2 : Int) (x3 : Int) (x4 : Int) (x5 : Int) : px_X (d + 1) 154 (36, [vR 123, vI x1, vI x2, vI x3, vI x4, vI x5], []) (px_sh L, i, l, r, t) = (px_C d 153 [vR 123, vI x5] (px_sh L, i, l, r, t)).bind (fun q => px_X (d + 1) 154 (px_psh (42, [vR 123, vI x1, vI x2, vI x3, vI x4, vI x5], []) q.1) q.2) := ((xs_aldn k154_36 rfl).trans ((xs_ild k154_37 rfl).trans (xs_callvB k154_39 (as := [vI x5]) rfl rfl (Nat.le_of_ble_eq_true rfl) (Nat.le_of_ble_eq_true rfl) (Nat.le_of_ble_eq_true rfl) (px_s123 L) (Nat.le_of_ble_eq_true rfl))))
theorem b154_42 (hr : px_hr r) (d : Nat) (i l : MI) (x1 : Int) (x2 : Int) (x3 : Int) (x4 : Int) (x5 : Int) : px_X d 154 (42, [vR 123, vI x1, vI x2, vI x3, vI x4, vI x5], []) (px_sh L, i, l, r, t) = some (some (vI (i 123 6)), (px_sh L, i, l, r, t)) := ((xs_aldn k154_42 rfl).trans ((xs_get0 k154_43 (px_s123 L) (Nat.le_of_ble_eq_true rfl)).trans (xs_ri k154_46 rfl)))
-- TideGuestsModel.end ('R123', 'I')
theorem b155_0 (hr : px_hr r) (d : Nat) (i l : MI) (x1 : Int) : px_X (d + 1) 155 (0, [vR 123, vI x1], []) (px_sh L, i, l, r, t) = (px_C d 141 [vI x1, vI 0, vI (i 123 6)] (px_sh L, i, l, r, t)).bind (fun q => px_X (d + 1) 155 (px_psh (9, [vR 123, vI x1], []) q.1) q.2) := ((xs_ildn k155_0 rfl).trans ((xs_ic k155_1 (by omega)).trans ((xs_aldn k155_2 rfl).trans ((xs_get0 k155_3 (px_s123 L) (Nat.le_of_ble_eq_true rfl)).trans (xs_callsB k155_6 (as := [vI x1, vI 0, vI (i 123 6)]) rfl rfl (Nat.le_of_ble_eq_true rfl) (Nat.le_of_ble_eq_true rfl) (Nat.le_of_ble_eq_true rfl))))))
theorem b155_9 (hr : px_hr r) (d : Nat) (i l : MI) (x1 : Int) (xs0 : Int) : px_X d 155 (9, [vR 123, vI x1], [vI xs0]) (px_sh L, i, l, r, t) = if xs0 = 0 then some (some (vI (-1)), (px_sh L, i, l, r, t)) else some (some (vI x1), (px_sh L, (px_up i 123 6 x1), l, r, t)) := ((xs_ine k155_9).trans (px_ite (fun c1 => ((xs_ic k155_12 (by omega)).trans (xs_ri k155_13 rfl))) (fun c1 => ((xs_aldn k155_14 rfl).trans ((xs_ildn k155_15 rfl).trans ((xs_put0 k155_16 (Or.inl rfl) (px_s123 L) (Nat.le_of_ble_eq_true rfl)).trans ((xs_ildn k155_19 rfl).trans (xs_ri k155_20 rfl))))))))
-- TideGuestsModel.isLetter ('I',)
theorem b156_0 (hr : px_hr r) (d : Nat) (i l : MI) (x0 : Int) : px_X (d + 1) 156 (0, [vI x0], []) (px_sh L, i, l, r, t) = (px_C d 141 [vI x0, vI 97, vI 122] (px_sh L, i, l, r, t)).bind (fun q => px_X (d + 1) 156 (px_psh (8, [vI x0], []) q.1) q.2) := ((xs_ildn k156_0 rfl).trans ((xs_bi k156_1 (by omega)).trans ((xs_bi k156_3 (by omega)).trans (xs_callsB k156_5 (as := [vI x0, vI 97, vI 122]) rfl rfl (Nat.le_of_ble_eq_true rfl) (Nat.le_of_ble_eq_true rfl) (Nat.le_of_ble_eq_true rfl)))))
theorem b156_8 (hr : px_hr r) (d : Nat) (i l : MI) (x0 : Int) (xs0 : Int) : px_X (d + 1) 156 (8, [vI x0], [vI xs0]) (px_sh L, i, l, r, t) = if xs0 = 0 then (px_C d 141 [vI x0, vI 65, vI 90] (px_sh L, i, l, r, t)).bind (fun q => px_X (d + 1) 156 (px_psh (19, [vI x0], []) q.1) q.2) else some (some (vI 1), (px_sh L, i, l, r, t)) := ((xs_ine k156_8).trans (px_ite (fun c1 => ((xs_ildn k156_11 rfl).trans ((xs_bi k156_12 (by omega)).trans ((xs_bi k156_14 (by omega)).trans (xs_callsB k156_16 (as := [vI x0, vI 65, vI 90]) rfl rfl (Nat.le_of_ble_eq_true rfl) (Nat.le_of_ble_eq_true rfl) (Nat.le_of_ble_eq_true rfl)))))) (fun c1 => ((xs_ic k156_22 (by omega)).trans ((xs_goto k156_23).trans (xs_rz k156_27 rfl (by omega)))))))
theorem b156_19 (hr : px_hr r) (d : Nat) (i l : MI) (x0 : Int) (xs0 : Int) : px_X d 156 (19, [vI x0], [vI xs0]) (px_sh L, i, l, r, t) = if xs0 = 0 then some (some (vI 0), (px_sh L, i, l, r, t)) else some (some (vI 1), (px_sh L, i, l, r, t)) := ((xs_ieq k156_19).trans (px_ite (fun c1 => ((xs_ic k156_26 (by omega)).trans (xs_rz k156_27 rfl (by omega)))) (fun c1 => ((xs_ic k156_22 (by omega)).trans ((xs_goto k156_23).trans (xs_rz k156_27 rfl (by omega)))))))
-- TideGuestsModel.wordOf ('L',)
theorem b157_0 (hr : px_hr r) (d : Nat) (i l : MI) (x0 : Int) : px_X d 157 (0, [vL x0, vJ], []) (px_sh L, i, l, r, t) = if (px_cmp x0 13801765) = 0 then some (some (vI 0), (px_sh L, i, l, r, t)) else if (px_cmp x0 14589160) = 0 then some (some (vI 1), (px_sh L, i, l, r, t)) else if (px_cmp x0 9083692) = 0 then some (some (vI 2), (px_sh L, i, l, r, t)) else if (px_cmp x0 13244852) = 0 then some (some (vI 3), (px_sh L, i, l, r, t)) else if (px_cmp x0 9051315) = 0 then some (some (vI 4), (px_sh L, i, l, r, t)) else if (px_cmp x0 3424729639276) = 0 then some (some (vI 5), (px_sh L, i, l, r, t)) else if (px_cmp x0 3058) = 0 then some (some (vI 6), (px_sh L, i, l, r, t)) else if (px_cmp x0 138148) = 0 then some (some (vI 7), (px_sh L, i, l, r, t)) else if (px_cmp x0 191476) = 0 then some (some (vI 8), (px_sh L, i, l, r, t)) else if (px_cmp x0 49018527013) = 0 then some (some (vI 9), (px_sh L, i, l, r, t)) else if (px_cmp x0 14588836) = 0 then some (some (vI 10), (px_sh L, i, l, r, t)) else if (px_cmp x0 11992046) = 0 then some (some (vI 11), (px_sh L, i, l, r, t)) else if (px_cmp x0 13245355) = 0 then some (some (vI 12), (px_sh L, i, l, r, t)) else if (px_cmp x0 13597293) = 0 then some (some (vI 13), (px_sh L, i, l, r, t)) else if (px_cmp x0 10115186) = 0 then some (some (vI 14), (px_sh L, i, l, r, t)) else if (px_cmp x0 141415) = 0 then some (some (vI 15), (px_sh L, i, l, r, t)) else if (px_cmp x0 10656232) = 0 then some (some (vI 16), (px_sh L, i, l, r, t)) else if (px_cmp x0 748120428) = 0 then some (some (vI 17), (px_sh L, i, l, r, t)) else if (px_cmp x0 14589224) = 0 then some (some (vI 18), (px_sh L, i, l, r, t)) else if (px_cmp x0 802326898) = 0 then some (some (vI 19), (px_sh L, i, l, r, t)) else if (px_cmp x0 227700) = 0 then some (some (vI 20), (px_sh L, i, l, r, t)) else if (px_cmp x0 767519091) = 0 then some (some (vI 21), (px_sh L, i, l, r, t)) else if (px_cmp x0 600447155) = 0 then some (some (vI 22), (px_sh L, i, l, r, t)) else if (px_cmp x0 616496307) = 0 then some (some (vI 23), (px_sh L, i, l, r, t)) else some (some (vI (-1)), (px_sh L, i, l, r, t)) := ((xs_lldn k157_0 rfl).trans ((xs_ldc2 k157_1).trans ((xs_lcmp k157_4).trans ((xs_ine k157_5).trans (px_ite (fun c1 => ((xs_ic k157_8 (by omega)).trans (xs_ri k157_9 rfl))) (fun c1 => ((xs_lldn k157_10 rfl).trans ((xs_ldc2 k157_11).trans ((xs_lcmp k157_14).trans ((xs_ine k157_15).trans (px_ite (fun c2 => ((xs_ic k157_18 (by omega)).trans (xs_ri k157_19 rfl))) (fun c2 => ((xs_lldn k157_20 rfl).trans ((xs_ldc2 k157_21).trans ((xs_lcmp k157_24).trans ((xs_ine k157_25).trans (px_ite (fun c3 => ((xs_ic k157_28 (by omega)).trans (xs_ri k157_29 rfl))) (fun c3 => ((xs_lldn k157_30 rfl).trans ((xs_ldc2 k157_31).trans ((xs_lcmp k157_34).trans ((xs_ine k157_35).trans (px_ite (fun c4 => ((xs_ic k157_38 (by omega)).trans (xs_ri k157_39 rfl))) (fun c4 => ((xs_lldn k157_40 rfl).trans ((xs_ldc2 k157_41).trans ((xs_lcmp k157_44).trans ((xs_ine k157_45).trans (px_ite (fun c5 => ((xs_ic k157_48 (by omega)).trans (xs_ri k157_49 rfl))) (fun c5 => ((xs_lldn k157_50 rfl).trans ((xs_ldc2 k157_51).trans ((xs_lcmp k157_54).trans ((xs_ine k157_55).trans (px_ite (fun c6 => ((xs_ic k157_58 (by omega)).trans (xs_ri k157_59 rfl))) (fun c6 => ((xs_lldn k157_60 rfl).trans ((xs_ldc2 k157_61).trans ((xs_lcmp k157_64).trans ((xs_ine k157_65).trans (px_ite (fun c7 => ((xs_bi k157_68 (by omega)).trans (xs_ri k157_70 rfl))) (fun c7 => ((xs_lldn k157_71 rfl).trans ((xs_ldc2 k157_72).trans ((xs_lcmp k157_75).trans ((xs_ine k157_76).trans (px_ite (fun c8 => ((xs_bi k157_79 (by omega)).trans (xs_ri k157_81 rfl))) (fun c8 => ((xs_lldn k157_82 rfl).trans ((xs_ldc2 k157_83).trans ((xs_lcmp k157_86).trans ((xs_ine k157_87).trans (px_ite (fun c9 => ((xs_bi k157_90 (by omega)).trans (xs_ri k157_92 rfl))) (fun c9 => ((xs_lldn k157_93 rfl).trans ((xs_ldc2 k157_94).trans ((xs_lcmp k157_97).trans ((xs_ine k157_98).trans (px_ite (fun c10 => ((xs_bi k157_101 (by omega)).trans (xs_ri k157_103 rfl))) (fun c10 => ((xs_lldn k157_104 rfl).trans ((xs_ldc2 k157_105).trans ((xs_lcmp k157_108).trans ((xs_ine k157_109).trans (px_ite (fun c11 => ((xs_bi k157_112 (by omega)).trans (xs_ri k157_114 rfl))) (fun c11 => ((xs_lldn k157_115 rfl).trans ((xs_ldc2 k157_116).trans ((xs_lcmp k157_119).trans ((xs_ine k157_120).trans (px_ite (fun c12 => ((xs_bi k157_123 (by omega)).trans (xs_ri k157_125 rfl))) (fun c12 => ((xs_lldn k157_126 rfl).trans ((xs_ldc2 k157_127).trans ((xs_lcmp k157_130).trans ((xs_ine k157_131).trans (px_ite (fun c13 => ((xs_bi k157_134 (by omega)).trans (xs_ri k157_136 rfl))) (fun c13 => ((xs_lldn k157_137 rfl).trans ((xs_ldc2 k157_138).trans ((xs_lcmp k157_141).trans ((xs_ine k157_142).trans (px_ite (fun c14 => ((xs_bi k157_145 (by omega)).trans (xs_ri k157_147 rfl))) (fun c14 => ((xs_lldn k157_148 rfl).trans ((xs_ldc2 k157_149).trans ((xs_lcmp k157_152).trans ((xs_ine k157_153).trans (px_ite (fun c15 => ((xs_bi k157_156 (by omega)).trans (xs_ri k157_158 rfl))) (fun c15 => ((xs_lldn k157_159 rfl).trans ((xs_ldc2 k157_160).trans ((xs_lcmp k157_163).trans ((xs_ine k157_164).trans (px_ite (fun c16 => ((xs_bi k157_167 (by omega)).trans (xs_ri k157_169 rfl))) (fun c16 => ((xs_lldn k157_170 rfl).trans ((xs_ldc2 k157_171).trans ((xs_lcmp k157_174).trans ((xs_ine k157_175).trans (px_ite (fun c17 => ((xs_bi k157_178 (by omega)).trans (xs_ri k157_180 rfl))) (fun c17 => ((xs_lldn k157_181 rfl).trans ((xs_ldc2 k157_182).trans ((xs_lcmp k157_185).trans ((xs_ine k157_186).trans (px_ite (fun c18 => ((xs_bi k157_189 (by omega)).trans (xs_ri k157_191 rfl))) (fun c18 => ((xs_lldn k157_192 rfl).trans ((xs_ldc2 k157_193).trans ((xs_lcmp k157_196).trans ((xs_ine k157_197).trans (px_ite (fun c19 => ((xs_bi k157_200 (by omega)).trans (xs_ri k157_202 rfl))) (fun c19 => ((xs_lldn k157_203 rfl).trans ((xs_ldc2 k157_204).trans ((xs_lcmp k157_207).trans ((xs_ine k157_208).trans (px_ite (fun c20 => ((xs_bi k157_211 (by omega)).trans (xs_ri k157_213 rfl))) (fun c20 => ((xs_lldn k157_214 rfl).trans ((xs_ldc2 k157_215).trans ((xs_lcmp k157_218).trans ((xs_ine k157_219).trans (px_ite (fun c21 => ((xs_bi k157_222 (by omega)).trans (xs_ri k157_224 rfl))) (fun c21 => ((xs_lldn k157_225 rfl).trans ((xs_ldc2 k157_226).trans ((xs_lcmp k157_229).trans ((xs_ine k157_230).trans (px_ite (fun c22 => ((xs_bi k157_233 (by omega)).trans (xs_ri k157_235 rfl))) (fun c22 => ((xs_lldn k157_236 rfl).trans ((xs_ldc2 k157_237).trans ((xs_lcmp k157_240).trans ((xs_ine k157_241).trans (px_ite (fun c23 => ((xs_bi k157_244 (by omega)).trans (xs_ri k157_246 rfl))) (fun c23 => ((xs_lldn k157_247 rfl).trans ((xs_ldc2 k157_248).trans ((xs_lcmp k157_251).trans ((xs_ine k157_252).trans (px_ite (fun c24 => ((xs_bi k157_255 (by omega)).trans (xs_ri k157_257 rfl))) (fun c24 => ((xs_ic k157_258 (by omega)).trans (xs_ri k157_259 rfl))))))))))))))))))))))))))))))))))))))))))))))))))))))))))))))))))))))))))))))))))))))))))))))))))))))))))))))))))))))))))))))))))))))))))))))))))
-- TideGuestsModel.next ('R123',)
theorem b158_0 (hr : px_hr r) (d : Nat) (i l : MI)  (h1 : (¬ ((i 123 14) ≤ (i 123 15))) → 0 ≤ (i 123 15) ∧ (i 123 15) < 300) (h2 : (¬ ((i 123 14) ≤ (i 123 15))) → (¬ ((i 126 (i 123 15)) = 32)) → 0 ≤ (i 123 15) ∧ (i 123 15) < 300) : px_X d 158 (0, [vR 123, vJ, vJ, vJ, vJ], []) (px_sh L, i, l, r, t) = if (i 123 14) ≤ (i 123 15) then px_X d 158 (52, [vR 123, vJ, vJ, vJ, vJ], []) (px_sh L, i, l, r, t) else if (i 126 (i 123 15)) = 32 then px_X d 158 (39, [vR 123, vJ, vJ, vJ, vJ], []) (px_sh L, i, l, r, t) else if (i 126 (i 123 15)) = 10 then px_X d 158 (39, [vR 123, vJ, vJ, vJ, vJ], []) (px_sh L, i, l, r, t) else px_X d 158 (52, [vR 123, vJ, vJ, vJ, vJ], []) (px_sh L, i, l, r, t) := ((xs_aldn k158_0 rfl).trans ((xs_get0 k158_1 (px_s123 L) (Nat.le_of_ble_eq_true rfl)).trans ((xs_aldn k158_4 rfl).trans ((xs_get0 k158_5 (px_s123 L) (Nat.le_of_ble_eq_true rfl)).trans ((xs_jge k158_8).trans (px_ite (fun c1 => rfl) (fun c1 => ((xs_aldn k158_11 rfl).trans ((xs_get4 k158_12 (px_s123 L) (Nat.le_of_ble_eq_true rfl) (px_r123_5 hr)).trans ((xs_aldn k158_15 rfl).trans ((xs_get0 k158_16 (px_s123 L) (Nat.le_of_ble_eq_true rfl)).trans ((xs_bald1 k158_19 (px_s126 L) (h1 c1)).trans ((xs_bi k158_20 (by omega)).trans ((xs_jeq k158_22).trans (px_ite (fun c2 => rfl) (fun c2 => ((xs_aldn k158_25 rfl).trans ((xs_get4 k158_26 (px_s123 L) (Nat.le_of_ble_eq_true rfl) (px_r123_5 hr)).trans ((xs_aldn k158_29 rfl).trans ((xs_get0 k158_30 (px_s123 L) (Nat.le_of_ble_eq_true rfl)).trans ((xs_bald1 k158_33 (px_s126 L) (h2 c1 c2)).trans ((xs_bi k158_34 (by omega)).trans ((xs_jne k158_36).trans (px_ite (fun c3 => rfl) (fun c3 => rfl)))))))))))))))))))))))))
theorem b158_39 (hr : px_hr r) (d : Nat) (i l : MI)  : px_X d 158 (39, [vR 123, vJ, vJ, vJ, vJ], []) (px_sh L, i, l, r, t) = px_X d 158 (0, [vR 123, vJ, vJ, vJ, vJ], []) (px_sh L, (px_up i 123 15 (px_w32 ((i 123 15) + 1))), l, r, t) := ((xs_aldn k158_39 rfl).trans ((xs_dup k158_40 rfl).trans ((xs_get0 k158_41 (px_s123 L) (Nat.le_of_ble_eq_true rfl)).trans ((xs_ic k158_44 (by omega)).trans ((xs_iadd k158_45).trans ((xs_put0 k158_46 (Or.inl rfl) (px_s123 L) (Nat.le_of_ble_eq_true rfl)).trans (xs_goto k158_49)))))))
theorem b158_52 (hr : px_hr r) (d : Nat) (i l : MI)  (h1 : (¬ ((i 123 15) = (i 123 14))) → 0 ≤ (i 123 15) ∧ (i 123 15) < 300) : px_X (d + 1) 158 (52, [vR 123, vJ, vJ, vJ, vJ], []) (px_sh L, i, l, r, t) = if (i 123 15) = (i 123 14) then some (none, (px_sh L, (px_up (px_up i 123 16 (i 123 15)) 123 17 0), l, r, t)) else (px_C d 156 [vI (i 126 (i 123 15))] (px_sh L, (px_up i 123 16 (i 123 15)), l, r, t)).bind (fun q => px_X (d + 1) 158 (px_psh (91, [vR 123, vI (i 126 (i 123 15)), vJ, vJ, vJ], []) q.1) q.2) := ((xs_aldn k158_52 rfl).trans ((xs_aldn k158_53 rfl).trans ((xs_get0 k158_54 (px_s123 L) (Nat.le_of_ble_eq_true rfl)).trans ((xs_put0 k158_57 (Or.inl rfl) (px_s123 L) (Nat.le_of_ble_eq_true rfl)).trans ((xs_aldn k158_60 rfl).trans ((xs_get0 k158_61 (px_s123 L) (Nat.le_of_ble_eq_true rfl)).trans ((xs_aldn k158_64 rfl).trans ((xs_get0 k158_65 (px_s123 L) (Nat.le_of_ble_eq_true rfl)).trans ((xs_jne k158_68).trans (px_ite (fun c1 => ((xs_aldn k158_71 rfl).trans ((xs_ic k158_72 (by omega)).trans ((xs_put0 k158_73 (Or.inl rfl) (px_s123 L) (Nat.le_of_ble_eq_true rfl)).trans (xs_rv k158_76 rfl))))) (fun c1 => ((xs_aldn k158_77 rfl).trans ((xs_get4 k158_78 (px_s123 L) (Nat.le_of_ble_eq_true rfl) (px_r123_5 hr)).trans ((xs_aldn k158_81 rfl).trans ((xs_get0 k158_82 (px_s123 L) (Nat.le_of_ble_eq_true rfl)).trans ((xs_bald1 k158_85 (px_s126 L) (h1 c1)).trans ((xs_istn k158_86 (Nat.le_of_ble_eq_true rfl) (ls' := [vR 123, vI (i 126 (i 123 15)), vJ, vJ, vJ]) rfl).trans ((xs_ildn k158_87 rfl).trans (xs_callsB k158_88 (as := [vI (i 126 (i 123 15))]) rfl rfl (Nat.le_of_ble_eq_true rfl) (Nat.le_of_ble_eq_true rfl) (Nat.le_of_ble_eq_true rfl))))))))))))))))))))
theorem b158_91 (hr : px_hr r) (d : Nat) (i l : MI) (x1 : Int) (xs0 : Int) : px_X (d + 1) 158 (91, [vR 123, vI x1, vJ, vJ, vJ], [vI xs0]) (px_sh L, i, l, r, t) = if xs0 = 0 then (px_C d 141 [vI x1, vI 48, vI 57] (px_sh L, i, l, r, t)).bind (fun q => px_X (d + 1) 158 (px_psh (219, [vR 123, vI x1, vJ, vJ, vJ], []) q.1) q.2) else px_X (d + 1) 158 (99, [vR 123, vI x1, vL 0, vJ, vI 0], []) (px_sh L, i, l, r, t) := ((xs_ieq k158_91).trans (px_ite (fun c1 => ((xs_ildn k158_211 rfl).trans ((xs_bi k158_212 (by omega)).trans ((xs_bi k158_214 (by omega)).trans (xs_callsB k158_216 (as := [vI x1, vI 48, vI 57]) rfl rfl (Nat.le_of_ble_eq_true rfl) (Nat.le_of_ble_eq_true rfl) (Nat.le_of_ble_eq_true rfl)))))) (fun c1 => ((xs_lc0 k158_94).trans ((xs_lstn k158_95 (Nat.le_of_ble_eq_true rfl) (ls' := [vR 123, vI x1, vL 0, vJ, vJ]) rfl).trans ((xs_ic k158_96 (by omega)).trans (xs_ist k158_97 (Nat.le_of_ble_eq_true rfl) (ls' := [vR 123, vI x1, vL 0, vJ, vI 0]) rfl)))))))
theorem b158_99 (hr : px_hr r) (d : Nat) (i l : MI) (x1 : Int) (x2 : Int) (x4 : Int) (h1 : (¬ ((i 123 14) ≤ (i 123 15))) → 0 ≤ (i 123 15) ∧ (i 123 15) < 300) : px_X (d + 1) 158 (99, [vR 123, vI x1, vL x2, vJ, vI x4], []) (px_sh L, i, l, r, t) = if (i 123 14) ≤ (i 123 15) then px_X (d + 1) 158 (173, [vR 123, vI x1, vL x2, vJ, vI x4], []) (px_sh L, i, l, r, t) else (px_C d 156 [vI (i 126 (i 123 15))] (px_sh L, i, l, r, t)).bind (fun q => px_X (d + 1) 158 (px_psh (122, [vR 123, vI x1, vL x2, vJ, vI x4], []) q.1) q.2) := ((xs_aldn k158_99 rfl).trans ((xs_get0 k158_100 (px_s123 L) (Nat.le_of_ble_eq_true rfl)).trans ((xs_aldn k158_103 rfl).trans ((xs_get0 k158_104 (px_s123 L) (Nat.le_of_ble_eq_true rfl)).trans ((xs_jge k158_107).trans (px_ite (fun c1 => rfl) (fun c1 => ((xs_aldn k158_110 rfl).trans ((xs_get4 k158_111 (px_s123 L) (Nat.le_of_ble_eq_true rfl) (px_r123_5 hr)).trans ((xs_aldn k158_114 rfl).trans ((xs_get0 k158_115 (px_s123 L) (Nat.le_of_ble_eq_true rfl)).trans ((xs_bald1 k158_118 (px_s126 L) (h1 c1)).trans (xs_callsB k158_119 (as := [vI (i 126 (i 123 15))]) rfl rfl (Nat.le_of_ble_eq_true rfl) (Nat.le_of_ble_eq_true rfl) (Nat.le_of_ble_eq_true rfl))))))))))))))
theorem b158_122 (hr : px_hr r) (d : Nat) (i l : MI) (x1 : Int) (x2 : Int) (x4 : Int) (xs0 : Int) (h1 : (¬ (xs0 = 0)) → (¬ (8 ≤ x4)) → 0 ≤ (i 123 15) ∧ (i 123 15) < 300) : px_X d 158 (122, [vR 123, vI x1, vL x2, vJ, vI x4], [vI xs0]) (px_sh L, i, l, r, t) = if xs0 = 0 then px_X d 158 (173, [vR 123, vI x1, vL x2, vJ, vI x4], []) (px_sh L, i, l, r, t) else if 8 ≤ x4 then px_X d 158 (156, [vR 123, vI x1, vL x2, vJ, vI x4], [vL x2]) (px_sh L, i, l, r, t) else px_X d 158 (156, [vR 123, vI x1, vL x2, vJ, vI x4], [vL (px_w64 ((px_w64 ((px_w64 (64 * x2)) + (i 126 (i 123 15)))) - 64))]) (px_sh L, i, l, r, t) := ((xs_ieq k158_122).trans (px_ite (fun c1 => rfl) (fun c1 => ((xs_ild k158_125 rfl).trans ((xs_bi k158_127 (by omega)).trans ((xs_jge k158_129).trans (px_ite (fun c2 => (xs_lldn k158_155 rfl)) (fun c2 => ((xs_ldc2 k158_132).trans ((xs_lldn k158_135 rfl).trans ((xs_lmul k158_136).trans ((xs_aldn k158_137 rfl).trans ((xs_get4 k158_138 (px_s123 L) (Nat.le_of_ble_eq_true rfl) (px_r123_5 hr)).trans ((xs_aldn k158_141 rfl).trans ((xs_get0 k158_142 (px_s123 L) (Nat.le_of_ble_eq_true rfl)).trans ((xs_bald1 k158_145 (px_s126 L) (h1 c1 c2)).trans ((xs_i2l k158_146).trans ((xs_ladd k158_147).trans ((xs_ldc2 k158_148).trans ((xs_lsub k158_151).trans (xs_goto k158_152)))))))))))))))))))))
theorem b158_156 (hr : px_hr r) (d : Nat) (i l : MI) (x1 : Int) (x2 : Int) (x4 : Int) (xs0 : Int) : px_X d 158 (156, [vR 123, vI x1, vL x2, vJ, vI x4], [vL xs0]) (px_sh L, i, l, r, t) = px_X d 158 (99, [vR 123, vI x1, vL xs0, vJ, vI (px_w32 (x4 + 1))], []) (px_sh L, (px_up i 123 15 (px_w32 ((i 123 15) + 1))), l, r, t) := ((xs_lstn k158_156 (Nat.le_of_ble_eq_true rfl) (ls' := [vR 123, vI x1, vL xs0, vJ, vI x4]) rfl).trans ((xs_iinc k158_157 rfl (by omega) (ls' := [vR 123, vI x1, vL xs0, vJ, vI (px_w32 (x4 + 1))]) rfl).trans ((xs_aldn k158_160 rfl).trans ((xs_dup k158_161 rfl).trans ((xs_get0 k158_162 (px_s123 L) (Nat.le_of_ble_eq_true rfl)).trans ((xs_ic k158_165 (by omega)).trans ((xs_iadd k158_166).trans ((xs_put0 k158_167 (Or.inl rfl) (px_s123 L) (Nat.le_of_ble_eq_true rfl)).trans (xs_goto k158_170)))))))))
theorem b158_173 (hr : px_hr r) (d : Nat) (i l : MI) (x1 : Int) (x2 : Int) (x4 : Int) : px_X (d + 1) 158 (173, [vR 123, vI x1, vL x2, vJ, vI x4], []) (px_sh L, i, l, r, t) = if x4 ≤ 7 then (px_C d 157 [vL x2] (px_sh L, i, l, r, t)).bind (fun q => px_X (d + 1) 158 (px_psh (189, [vR 123, vI x1, vL x2, vJ, vI x4], [vR 123]) q.1) q.2) else px_X (d + 1) 158 (189, [vR 123, vI x1, vL x2, vJ, vI x4], [vI (-1), vR 123]) (px_sh L, i, l, r, t) := ((xs_aldn k158_173 rfl).trans ((xs_ild k158_174 rfl).trans ((xs_bi k158_176 (by omega)).trans ((xs_jle k158_178).trans (px_ite (fun c1 => ((xs_lldn k158_185 rfl).trans (xs_callsB k158_186 (as := [vL x2]) rfl rfl (Nat.le_of_ble_eq_true rfl) (Nat.le_of_ble_eq_true rfl) (Nat.le_of_ble_eq_true rfl)))) (fun c1 => ((xs_ic k158_181 (by omega)).trans (xs_goto k158_182))))))))
theorem b158_189 (hr : px_hr r) (d : Nat) (i l : MI) (x1 : Int) (x2 : Int) (x4 : Int) (xs0 : Int) : px_X d 158 (189, [vR 123, vI x1, vL x2, vJ, vI x4], [vI xs0, vR 123]) (px_sh L, i, l, r, t) = if 0 ≤ xs0 then some (none, (px_sh L, (px_up (px_up i 123 18 xs0) 123 17 1), l, r, t)) else some (none, (px_sh L, (px_up (px_up i 123 18 xs0) 123 17 4), l, r, t)) := ((xs_put0 k158_189 (Or.inl rfl) (px_s123 L) (Nat.le_of_ble_eq_true rfl)).trans ((xs_aldn k158_192 rfl).trans ((xs_aldn k158_193 rfl).trans ((xs_get0 k158_194 (px_s123 L) (Nat.le_of_ble_eq_true rfl)).trans ((xs_ige k158_197).trans (px_ite (fun c1 => ((xs_ic k158_204 (by omega)).trans ((xs_put0 k158_205 (Or.inl rfl) (px_s123 L) (Nat.le_of_ble_eq_true rfl)).trans ((xs_goto k158_208).trans (xs_rv k158_439 rfl))))) (fun c1 => ((xs_ic k158_200 (by omega)).trans ((xs_goto k158_201).trans ((xs_put0 k158_205 (Or.inl rfl) (px_s123 L) (Nat.le_of_ble_eq_true rfl)).trans ((xs_goto k158_208).trans (xs_rv k158_439 rfl))))))))))))
theorem b158_219 (hr : px_hr r) (d : Nat) (i l : MI) (x1 : Int) (xs0 : Int) : px_X (d + 1) 158 (219, [vR 123, vI x1, vJ, vJ, vJ], [vI xs0]) (px_sh L, i, l, r, t) = if xs0 = 0 then (px_C d 141 [vI x1, vI 59, vI 62] (px_sh L, (px_up (px_up i 123 15 (px_w32 ((i 123 15) + 1))) 123 18 x1), l, r, t)).bind (fun q => px_X (d + 1) 158 (px_psh (339, [vR 123, vI x1, vJ, vJ, vJ], [vR 123]) q.1) q.2) else px_X (d + 1) 158 (232, [vR 123, vI x1, vJ, vJ, vJ], []) (px_sh L, (px_up (px_up i 123 17 2) 123 18 0), l, r, t) := ((xs_ieq k158_219).trans (px_ite (fun c1 => ((xs_aldn k158_315 rfl).trans ((xs_dup k158_316 rfl).trans ((xs_get0 k158_317 (px_s123 L) (Nat.le_of_ble_eq_true rfl)).trans ((xs_ic k158_320 (by omega)).trans ((xs_iadd k158_321).trans ((xs_put0 k158_322 (Or.inl rfl) (px_s123 L) (Nat.le_of_ble_eq_true rfl)).trans ((xs_aldn k158_325 rfl).trans ((xs_ildn k158_326 rfl).trans ((xs_put0 k158_327 (Or.inl rfl) (px_s123 L) (Nat.le_of_ble_eq_true rfl)).trans ((xs_aldn k158_330 rfl).trans ((xs_ildn k158_331 rfl).trans ((xs_bi k158_332 (by omega)).trans ((xs_bi k158_334 (by omega)).trans (xs_callsB k158_336 (as := [vI x1, vI 59, vI 62]) rfl rfl (Nat.le_of_ble_eq_true rfl) (Nat.le_of_ble_eq_true rfl) (Nat.le_of_ble_eq_true rfl)))))))))))))))) (fun c1 => ((xs_aldn k158_222 rfl).trans ((xs_ic k158_223 (by omega)).trans ((xs_put0 k158_224 (Or.inl rfl) (px_s123 L) (Nat.le_of_ble_eq_true rfl)).trans ((xs_aldn k158_227 rfl).trans ((xs_ic k158_228 (by omega)).trans (xs_put0 k158_229 (Or.inl rfl) (px_s123 L) (Nat.le_of_ble_eq_true rfl))))))))))
theorem b158_232 (hr : px_hr r) (d : Nat) (i l : MI) (x1 : Int) (h1 : (¬ ((i 123 14) ≤ (i 123 15))) → 0 ≤ (i 123 15) ∧ (i 123 15) < 300) : px_X (d + 1) 158 (232, [vR 123, vI x1, vJ, vJ, vJ], []) (px_sh L, i, l, r, t) = if (i 123 14) ≤ (i 123 15) then some (none, (px_sh L, i, l, r, t)) else (px_C d 141 [vI (i 126 (i 123 15)), vI 48, vI 57] (px_sh L, i, l, r, t)).bind (fun q => px_X (d + 1) 158 (px_psh (259, [vR 123, vI x1, vJ, vJ, vJ], []) q.1) q.2) := ((xs_aldn k158_232 rfl).trans ((xs_get0 k158_233 (px_s123 L) (Nat.le_of_ble_eq_true rfl)).trans ((xs_aldn k158_236 rfl).trans ((xs_get0 k158_237 (px_s123 L) (Nat.le_of_ble_eq_true rfl)).trans ((xs_jge k158_240).trans (px_ite (fun c1 => (xs_rv k158_439 rfl)) (fun c1 => ((xs_aldn k158_243 rfl).trans ((xs_get4 k158_244 (px_s123 L) (Nat.le_of_ble_eq_true rfl) (px_r123_5 hr)).trans ((xs_aldn k158_247 rfl).trans ((xs_get0 k158_248 (px_s123 L) (Nat.le_of_ble_eq_true rfl)).trans ((xs_bald1 k158_251 (px_s126 L) (h1 c1)).trans ((xs_bi k158_252 (by omega)).trans ((xs_bi k158_254 (by omega)).trans (xs_callsB k158_256 (as := [vI (i 126 (i 123 15)), vI 48, vI 57]) rfl rfl (Nat.le_of_ble_eq_true rfl) (Nat.le_of_ble_eq_true rfl) (Nat.le_of_ble_eq_true rfl))))))))))))))))
theorem b158_259 (hr : px_hr r) (d : Nat) (i l : MI) (x1 : Int) (xs0 : Int) (h1 : (¬ (xs0 = 0)) → ((i 123 18) ≤ 99999) → 0 ≤ (i 123 15) ∧ (i 123 15) < 300) : px_X d 158 (259, [vR 123, vI x1, vJ, vJ, vJ], [vI xs0]) (px_sh L, i, l, r, t) = if xs0 = 0 then some (none, (px_sh L, i, l, r, t)) else if (i 123 18) ≤ 99999 then px_X d 158 (299, [vR 123, vI x1, vJ, vJ, vJ], [vI (px_w32 ((px_w32 ((px_w32 (10 * (i 123 18))) + (i 126 (i 123 15)))) - 48)), vR 123]) (px_sh L, i, l, r, t) else px_X d 158 (299, [vR 123, vI x1, vJ, vJ, vJ], [vI (i 123 18), vR 123]) (px_sh L, i, l, r, t) := ((xs_ieq k158_259).trans (px_ite (fun c1 => (xs_rv k158_439 rfl)) (fun c1 => ((xs_aldn k158_262 rfl).trans ((xs_aldn k158_263 rfl).trans ((xs_get0 k158_264 (px_s123 L) (Nat.le_of_ble_eq_true rfl)).trans ((xs_ldc k158_267).trans ((xs_jle k158_269).trans (px_ite (fun c2 => ((xs_bi k158_279 (by omega)).trans ((xs_aldn k158_281 rfl).trans ((xs_get0 k158_282 (px_s123 L) (Nat.le_of_ble_eq_true rfl)).trans ((xs_imul k158_285).trans ((xs_aldn k158_286 rfl).trans ((xs_get4 k158_287 (px_s123 L) (Nat.le_of_ble_eq_true rfl) (px_r123_5 hr)).trans ((xs_aldn k158_290 rfl).trans ((xs_get0 k158_291 (px_s123 L) (Nat.le_of_ble_eq_true rfl)).trans ((xs_bald1 k158_294 (px_s126 L) (h1 c1 c2)).trans ((xs_iadd k158_295).trans ((xs_bi k158_296 (by omega)).trans (xs_isub k158_298))))))))))))) (fun c2 => ((xs_aldn k158_272 rfl).trans ((xs_get0 k158_273 (px_s123 L) (Nat.le_of_ble_eq_true rfl)).trans (xs_goto k158_276)))))))))))))
theorem b158_299 (hr : px_hr r) (d : Nat) (i l : MI) (x1 : Int) (xs0 : Int) : px_X d 158 (299, [vR 123, vI x1, vJ, vJ, vJ], [vI xs0, vR 123]) (px_sh L, i, l, r, t) = px_X d 158 (232, [vR 123, vI x1, vJ, vJ, vJ], []) (px_sh L, (px_up (px_up i 123 18 xs0) 123 15 (px_w32 ((i 123 15) + 1))), l, r, t) := ((xs_put0 k158_299 (Or.inl rfl) (px_s123 L) (Nat.le_of_ble_eq_true rfl)).trans ((xs_aldn k158_302 rfl).trans ((xs_dup k158_303 rfl).trans ((xs_get0 k158_304 (px_s123 L) (Nat.le_of_ble_eq_true rfl)).trans ((xs_ic k158_307 (by omega)).trans ((xs_iadd k158_308).trans ((xs_put0 k158_309 (Or.inl rfl) (px_s123 L) (Nat.le_of_ble_eq_true rfl)).trans (xs_goto k158_312))))))))
theorem b158_339 (hr : px_hr r) (d : Nat) (i l : MI) (x1 : Int) (xs0 : Int) : px_X (d + 1) 158 (339, [vR 123, vI x1, vJ, vJ, vJ], [vI xs0, vR 123]) (px_sh L, i, l, r, t) = if xs0 = 0 then (px_C d 141 [vI x1, vI 40, vI 45] (px_sh L, i, l, r, t)).bind (fun q => px_X (d + 1) 158 (px_psh (350, [vR 123, vI x1, vJ, vJ, vJ], [vR 123]) q.1) q.2) else px_X (d + 1) 158 (365, [vR 123, vI x1, vJ, vJ, vJ], [vR 123]) (px_sh L, i, l, r, t) := ((xs_ine k158_339).trans (px_ite (fun c1 => ((xs_ildn k158_342 rfl).trans ((xs_bi k158_343 (by omega)).trans ((xs_bi k158_345 (by omega)).trans (xs_callsB k158_347 (as := [vI x1, vI 40, vI 45]) rfl rfl (Nat.le_of_ble_eq_true rfl) (Nat.le_of_ble_eq_true rfl) (Nat.le_of_ble_eq_true rfl)))))) (fun c1 => rfl)))
theorem b158_350 (hr : px_hr r) (d : Nat) (i l : MI) (x1 : Int) (xs0 : Int) : px_X d 158 (350, [vR 123, vI x1, vJ, vJ, vJ], [vI xs0, vR 123]) (px_sh L, i, l, r, t) = if xs0 = 0 then if x1 = 47 then px_X d 158 (365, [vR 123, vI x1, vJ, vJ, vJ], [vR 123]) (px_sh L, i, l, r, t) else if x1 = 35 then px_X d 158 (365, [vR 123, vI x1, vJ, vJ, vJ], [vR 123]) (px_sh L, i, l, r, t) else px_X d 158 (370, [vR 123, vI x1, vJ, vJ, vJ], [vI 4, vR 123]) (px_sh L, i, l, r, t) else px_X d 158 (365, [vR 123, vI x1, vJ, vJ, vJ], [vR 123]) (px_sh L, i, l, r, t) := ((xs_ine k158_350).trans (px_ite (fun c1 => ((xs_ildn k158_353 rfl).trans ((xs_bi k158_354 (by omega)).trans ((xs_jeq k158_356).trans (px_ite (fun c2 => rfl) (fun c2 => ((xs_ildn k158_359 rfl).trans ((xs_bi k158_360 (by omega)).trans ((xs_jne k158_362).trans (px_ite (fun c3 => rfl) (fun c3 => (xs_ic k158_369 (by omega))))))))))))) (fun c1 => rfl)))
theorem b158_365 (hr : px_hr r) (d : Nat) (i l : MI) (x1 : Int) : px_X d 158 (365, [vR 123, vI x1, vJ, vJ, vJ], [vR 123]) (px_sh L, i, l, r, t) = px_X d 158 (370, [vR 123, vI x1, vJ, vJ, vJ], [vI 3, vR 123]) (px_sh L, i, l, r, t) := ((xs_ic k158_365 (by omega)).trans (xs_goto k158_366))
theorem b158_370 (hr : px_hr r) (d : Nat) (i l : MI) (x1 : Int) (xs0 : Int) : px_X d 158 (370, [vR 123, vI x1, vJ, vJ, vJ], [vI xs0, vR 123]) (px_sh L, i, l, r, t) = if x1 = 60 then px_X d 158 (385, [vR 123, vI x1, vJ, vJ, vJ], []) (px_sh L, (px_up i 123 17 xs0), l, r, t) else if x1 = 62 then px_X d 158 (385, [vR 123, vI x1, vJ, vJ, vJ], []) (px_sh L, (px_up i 123 17 xs0), l, r, t) else some (none, (px_sh L, (px_up i 123 17 xs0), l, r, t)) := ((xs_put0 k158_370 (Or.inl rfl) (px_s123 L) (Nat.le_of_ble_eq_true rfl)).trans ((xs_ildn k158_373 rfl).trans ((xs_bi k158_374 (by omega)).trans ((xs_jeq k158_376).trans (px_ite (fun c1 => rfl) (fun c1 => ((xs_ildn k158_379 rfl).trans ((xs_bi k158_380 (by omega)).trans ((xs_jne k158_382).trans (px_ite (fun c2 => rfl) (fun c2 => (xs_rv k158_439 rfl))))))))))))
theorem b158_385 (hr : px_hr r) (d : Nat) (i l : MI) (x1 : Int) (h1 : (¬ ((i 123 14) ≤ (i 123 15))) → 0 ≤ (i 123 15) ∧ (i 123 15) < 300) : px_X d 158 (385, [vR 123, vI x1, vJ, vJ, vJ], []) (px_sh L, i, l, r, t) = if (i 123 14) ≤ (i 123 15) then some (none, (px_sh L, i, l, r, t)) else if (i 126 (i 123 15)) = 61 then if x1 = 60 then px_X d 158 (426, [vR 123, vI x1, vJ, vJ, vJ], [vI 300, vR 123]) (px_sh L, i, l, r, t) else px_X d 158 (426, [vR 123, vI x1, vJ, vJ, vJ], [vI 301, vR 123]) (px_sh L, i, l, r, t) else some (none, (px_sh L, i, l, r, t)) := ((xs_aldn k158_385 rfl).trans ((xs_get0 k158_386 (px_s123 L) (Nat.le_of_ble_eq_true rfl)).trans ((xs_aldn k158_389 rfl).trans ((xs_get0 k158_390 (px_s123 L) (Nat.le_of_ble_eq_true rfl)).trans ((xs_jge k158_393).trans (px_ite (fun c1 => (xs_rv k158_439 rfl)) (fun c1 => ((xs_aldn k158_396 rfl).trans ((xs_get4 k158_397 (px_s123 L) (Nat.le_of_ble_eq_true rfl) (px_r123_5 hr)).trans ((xs_aldn k158_400 rfl).trans ((xs_get0 k158_401 (px_s123 L) (Nat.le_of_ble_eq_true rfl)).trans ((xs_bald1 k158_404 (px_s126 L) (h1 c1)).trans ((xs_bi k158_405 (by omega)).trans ((xs_jne k158_407).trans (px_ite (fun c2 => ((xs_aldn k158_410 rfl).trans ((xs_ildn k158_411 rfl).trans ((xs_bi k158_412 (by omega)).trans ((xs_jne k158_414).trans (px_ite (fun c3 => ((xs_si k158_417 (by omega)).trans (xs_goto k158_420))) (fun c3 => (xs_si k158_423 (by omega))))))))) (fun c2 => (xs_rv k158_439 rfl)))))))))))))))))
theorem b158_426 (hr : px_hr r) (d : Nat) (i l : MI) (x1 : Int) (xs0 : Int) : px_X d 158 (426, [vR 123, vI x1, vJ, vJ, vJ], [vI xs0, vR 123]) (px_sh L, i, l, r, t) = some (none, (px_sh L, (px_up (px_up i 123 18 xs0) 123 15 (px_w32 ((i 123 15) + 1))), l, r, t)) := ((xs_put0 k158_426 (Or.inl rfl) (px_s123 L) (Nat.le_of_ble_eq_true rfl)).trans ((xs_aldn k158_429 rfl).trans ((xs_dup k158_430 rfl).trans ((xs_get0 k158_431 (px_s123 L) (Nat.le_of_ble_eq_true rfl)).trans ((xs_ic k158_434 (by omega)).trans ((xs_iadd k158_435).trans ((xs_put0 k158_436 (Or.inl rfl) (px_s123 L) (Nat.le_of_ble_eq_true rfl)).trans (xs_rv k158_439 rfl))))))))
-- TideGuestsModel.isSign ('R123', 'I')
theorem b159_0 (hr : px_hr r) (d : Nat) (i l : MI) (x1 : Int) : px_X d 159 (0, [vR 123, vI x1], []) (px_sh L, i, l, r, t) = if (i 123 17) = 3 then if (i 123 18) = x1 then some (some (vI 1), (px_sh L, i, l, r, t)) else some (some (vI 0), (px_sh L, i, l, r, t)) else some (some (vI 0), (px_sh L, i, l, r, t)) := ((xs_aldn k159_0 rfl).trans ((xs_get0 k159_1 (px_s123 L) (Nat.le_of_ble_eq_true rfl)).trans ((xs_ic k159_4 (by omega)).trans ((xs_jne k159_5).trans (px_ite (fun c1 => ((xs_aldn k159_8 rfl).trans ((xs_get0 k159_9 (px_s123 L) (Nat.le_of_ble_eq_true rfl)).trans ((xs_ildn k159_12 rfl).trans ((xs_jne k159_13).trans (px_ite (fun c2 => ((xs_ic k159_16 (by omega)).trans ((xs_goto k159_17).trans (xs_rz k159_21 rfl (by omega))))) (fun c2 => ((xs_ic k159_20 (by omega)).trans (xs_rz k159_21 rfl (by omega)))))))))) (fun c1 => ((xs_ic k159_20 (by omega)).trans (xs_rz k159_21 rfl (by omega)))))))))
-- TideGuestsModel.isWord ('R123', 'I')
theorem b160_0 (hr : px_hr r) (d : Nat) (i l : MI) (x1 : Int) : px_X d 160 (0, [vR 123, vI x1], []) (px_sh L, i, l, r, t) = if (i 123 17) = 1 then if (i 123 18) = x1 then some (some (vI 1), (px_sh L, i, l, r, t)) else some (some (vI 0), (px_sh L, i, l, r, t)) else some (some (vI 0), (px_sh L, i, l, r, t)) := ((xs_aldn k160_0 rfl).trans ((xs_get0 k160_1 (px_s123 L) (Nat.le_of_ble_eq_true rfl)).trans ((xs_ic k160_4 (by omega)).trans ((xs_jne k160_5).trans (px_ite (fun c1 => ((xs_aldn k160_8 rfl).trans ((xs_get0 k160_9 (px_s123 L) (Nat.le_of_ble_eq_true rfl)).trans ((xs_ildn k160_12 rfl).trans ((xs_jne k160_13).trans (px_ite (fun c2 => ((xs_ic k160_16 (by omega)).trans ((xs_goto k160_17).trans (xs_rz k160_21 rfl (by omega))))) (fun c2 => ((xs_ic k160_20 (by omega)).trans (xs_rz k160_21 rfl (by omega)))))))))) (fun c1 => ((xs_ic k160_20 (by omega)).trans (xs_rz k160_21 rfl (by omega)))))))))
-- TideGuestsModel.errs ('R123', 'I')
theorem b161_0 (hr : px_hr r) (d : Nat) (i l : MI) (x1 : Int) : px_X d 161 (0, [vR 123, vI x1], []) (px_sh L, i, l, r, t) = if (i 123 19) = 0 then some (none, (px_sh L, (px_up (px_up i 123 19 x1) 123 20 (i 123 16)), l, r, t)) else some (none, (px_sh L, i, l, r, t)) := ((xs_aldn k161_0 rfl).trans ((xs_get0 k161_1 (px_s123 L) (Nat.le_of_ble_eq_true rfl)).trans ((xs_ine k161_4).trans (px_ite (fun c1 => ((xs_aldn k161_7 rfl).trans ((xs_ildn k161_8 rfl).trans ((xs_put0 k161_9 (Or.inl rfl) (px_s123 L) (Nat.le_of_ble_eq_true rfl)).trans ((xs_aldn k161_12 rfl).trans ((xs_aldn k161_13 rfl).trans ((xs_get0 k161_14 (px_s123 L) (Nat.le_of_ble_eq_true rfl)).trans ((xs_put0 k161_17 (Or.inl rfl) (px_s123 L) (Nat.le_of_ble_eq_true rfl)).trans (xs_rv k161_20 rfl))))))))) (fun c1 => (xs_rv k161_20 rfl))))))
-- TideGuestsModel.emits ('R123', 'I', 'I')
theorem b162_0 (hr : px_hr r) (d : Nat) (i l : MI) (x1 : Int) (x2 : Int) (h1 : 0 ≤ (i 123 33) ∧ (i 123 33) < 400) : px_X d 162 (0, [vR 123, vI x1, vI x2], []) (px_sh L, i, l, r, t) = some (none, (px_sh L, (px_up (px_up (px_up i 138 (i 123 33) x1) 139 (i 123 33) x2) 123 33 (px_w32 ((i 123 33) + 1))), l, r, t)) := ((xs_aldn k162_0 rfl).trans ((xs_get4 k162_1 (px_s123 L) (Nat.le_of_ble_eq_true rfl) (px_r123_34 hr)).trans ((xs_aldn k162_4 rfl).trans ((xs_get0 k162_5 (px_s123 L) (Nat.le_of_ble_eq_true rfl)).trans ((xs_ildn k162_8 rfl).trans ((xs_iast k162_9 (px_s138 L) (h1) (Nat.le_of_ble_eq_true rfl)).trans ((xs_aldn k162_10 rfl).trans ((xs_get4 k162_11 (px_s123 L) (Nat.le_of_ble_eq_true rfl) (px_r123_35 hr)).trans ((xs_aldn k162_14 rfl).trans ((xs_get0 k162_15 (px_s123 L) (Nat.le_of_ble_eq_true rfl)).trans ((xs_ildn k162_18 rfl).trans ((xs_iast k162_19 (px_s139 L) (h1) (Nat.le_of_ble_eq_true rfl)).trans ((xs_aldn k162_20 rfl).trans ((xs_dup k162_21 rfl).trans ((xs_get0 k162_22 (px_s123 L) (Nat.le_of_ble_eq_true rfl)).trans ((xs_ic k162_25 (by omega)).trans ((xs_iadd k162_26).trans ((xs_put0 k162_27 (Or.inl rfl) (px_s123 L) (Nat.le_of_ble_eq_true rfl)).trans (xs_rv k162_30 rfl)))))))))))))))))))
-- TideGuestsModel.opensFrame ('R123', 'I')
theorem b163_0 (hr : px_hr r) (d : Nat) (i l : MI) (x1 : Int) (h1 : 0 ≤ (i 123 22) ∧ (i 123 22) < 40) : px_X d 163 (0, [vR 123, vI x1], []) (px_sh L, i, l, r, t) = some (none, (px_sh L, (px_up (px_up i 132 (i 123 22) x1) 123 22 (px_w32 ((i 123 22) + 1))), l, r, t)) := ((xs_aldn k163_0 rfl).trans ((xs_get4 k163_1 (px_s123 L) (Nat.le_of_ble_eq_true rfl) (px_r123_23 hr)).trans ((xs_aldn k163_4 rfl).trans ((xs_get0 k163_5 (px_s123 L) (Nat.le_of_ble_eq_true rfl)).trans ((xs_ildn k163_8 rfl).trans ((xs_iast k163_9 (px_s132 L) (h1) (Nat.le_of_ble_eq_true rfl)).trans ((xs_aldn k163_10 rfl).trans ((xs_dup k163_11 rfl).trans ((xs_get0 k163_12 (px_s123 L) (Nat.le_of_ble_eq_true rfl)).trans ((xs_ic k163_15 (by omega)).trans ((xs_iadd k163_16).trans ((xs_put0 k163_17 (Or.inl rfl) (px_s123 L) (Nat.le_of_ble_eq_true rfl)).trans (xs_rv k163_20 rfl)))))))))))))
-- TideGuestsModel.top ('R123',)
theorem b164_0 (hr : px_hr r) (d : Nat) (i l : MI)  (h1 : 0 ≤ (px_w32 ((i 123 22) - 1)) ∧ (px_w32 ((i 123 22) - 1)) < 40) : px_X d 164 (0, [vR 123], []) (px_sh L, i, l, r, t) = some (some (vI (i 132 (px_w32 ((i 123 22) - 1)))), (px_sh L, i, l, r, t)) := ((xs_aldn k164_0 rfl).trans ((xs_get4 k164_1 (px_s123 L) (Nat.le_of_ble_eq_true rfl) (px_r123_23 hr)).trans ((xs_aldn k164_4 rfl).trans ((xs_get0 k164_5 (px_s123 L) (Nat.le_of_ble_eq_true rfl)).trans ((xs_ic k164_8 (by omega)).trans ((xs_isub k164_9).trans ((xs_iald k164_10 (px_s132 L) (h1)).trans (xs_ri k164_11 rfl))))))))
-- TideGuestsModel.opensSign ('R123', 'I')
theorem b165_0 (hr : px_hr r) (d : Nat) (i l : MI) (x1 : Int) : px_X (d + 1) 165 (0, [vR 123, vI x1], []) (px_sh L, i, l, r, t) = if (i 123 21) = 8 then (px_C d 161 [vR 123, vI 3] (px_sh L, i, l, r, t)).bind (fun q => px_X (d + 1) 165 (px_psh (14, [vR 123, vI x1], []) q.1) q.2) else (px_C d 163 [vR 123, vI x1] (px_sh L, (px_up i 123 21 (px_w32 ((i 123 21) + 1))), l, r, t)).bind (fun q => px_X (d + 1) 165 (px_psh (31, [vR 123, vI x1], []) q.1) q.2) := ((xs_aldn k165_0 rfl).trans ((xs_get0 k165_1 (px_s123 L) (Nat.le_of_ble_eq_true rfl)).trans ((xs_bi k165_4 (by omega)).trans ((xs_jne k165_6).trans (px_ite (fun c1 => ((xs_aldn k165_9 rfl).trans ((xs_ic k165_10 (by omega)).trans (xs_callvB k165_11 (as := [vI 3]) rfl rfl (Nat.le_of_ble_eq_true rfl) (Nat.le_of_ble_eq_true rfl) (Nat.le_of_ble_eq_true rfl) (px_s123 L) (Nat.le_of_ble_eq_true rfl))))) (fun c1 => ((xs_aldn k165_16 rfl).trans ((xs_dup k165_17 rfl).trans ((xs_get0 k165_18 (px_s123 L) (Nat.le_of_ble_eq_true rfl)).trans ((xs_ic k165_21 (by omega)).trans ((xs_iadd k165_22).trans ((xs_put0 k165_23 (Or.inl rfl) (px_s123 L) (Nat.le_of_ble_eq_true rfl)).trans ((xs_aldn k165_26 rfl).trans ((xs_ildn k165_27 rfl).trans (xs_callvB k165_28 (as := [vI x1]) rfl rfl (Nat.le_of_ble_eq_true rfl) (Nat.le_of_ble_eq_true rfl) (Nat.le_of_ble_eq_true rfl) (px_s123 L) (Nat.le_of_ble_eq_true rfl))))))))))))))))
theorem b165_14 (hr : px_hr r) (d : Nat) (i l : MI) (x1 : Int) : px_X d 165 (14, [vR 123, vI x1], []) (px_sh L, i, l, r, t) = some (some (vI 0), (px_sh L, i, l, r, t)) := ((xs_ic k165_14 (by omega)).trans (xs_rz k165_15 rfl (by omega)))
theorem b165_31 (hr : px_hr r) (d : Nat) (i l : MI) (x1 : Int) : px_X (d + 1) 165 (31, [vR 123, vI x1], []) (px_sh L, i, l, r, t) = (px_C d 158 [vR 123] (px_sh L, i, l, r, t)).bind (fun q => px_X (d + 1) 165 (px_psh (35, [vR 123, vI x1], []) q.1) q.2) := ((xs_aldn k165_31 rfl).trans (xs_callvB k165_32 (as := []) rfl rfl (Nat.le_of_ble_eq_true rfl) (Nat.le_of_ble_eq_true rfl) (Nat.le_of_ble_eq_true rfl) (px_s123 L) (Nat.le_of_ble_eq_true rfl)))
theorem b165_35 (hr : px_hr r) (d : Nat) (i l : MI) (x1 : Int) : px_X d 165 (35, [vR 123, vI x1], []) (px_sh L, i, l, r, t) = some (some (vI 1), (px_sh L, i, l, r, t)) := ((xs_ic k165_35 (by omega)).trans (xs_rz k165_36 rfl (by omega)))
-- TideGuestsModel.rank ('I',)
theorem b166_0 (hr : px_hr r) (d : Nat) (i l : MI) (x0 : Int) : px_X d 166 (0, [vI x0], []) (px_sh L, i, l, r, t) = if x0 = 407 then some (some (vI 1), (px_sh L, i, l, r, t)) else if x0 = 406 then some (some (vI 2), (px_sh L, i, l, r, t)) else if x0 = 43 then some (some (vI 3), (px_sh L, i, l, r, t)) else if x0 = 45 then some (some (vI 3), (px_sh L, i, l, r, t)) else some (some (vI 4), (px_sh L, i, l, r, t)) := ((xs_ildn k166_0 rfl).trans ((xs_si k166_1 (by omega)).trans ((xs_jne k166_4).trans (px_ite (fun c1 => ((xs_ic k166_7 (by omega)).trans ((xs_goto k166_8).trans (xs_ri k166_39 rfl)))) (fun c1 => ((xs_ildn k166_11 rfl).trans ((xs_si k166_12 (by omega)).trans ((xs_jne k166_15).trans (px_ite (fun c2 => ((xs_ic k166_18 (by omega)).trans ((xs_goto k166_19).trans (xs_ri k166_39 rfl)))) (fun c2 => ((xs_ildn k166_22 rfl).trans ((xs_bi k166_23 (by omega)).trans ((xs_jeq k166_25).trans (px_ite (fun c3 => ((xs_ic k166_34 (by omega)).trans ((xs_goto k166_35).trans (xs_ri k166_39 rfl)))) (fun c3 => ((xs_ildn k166_28 rfl).trans ((xs_bi k166_29 (by omega)).trans ((xs_jne k166_31).trans (px_ite (fun c4 => ((xs_ic k166_34 (by omega)).trans ((xs_goto k166_35).trans (xs_ri k166_39 rfl)))) (fun c4 => ((xs_ic k166_38 (by omega)).trans (xs_ri k166_39 rfl))))))))))))))))))))))
-- TideGuestsModel.works ('R123', 'I')
theorem b167_0 (hr : px_hr r) (d : Nat) (i l : MI) (x1 : Int) (h1 : (¬ ((i 123 25) ≤ 0)) → 0 ≤ (px_w32 ((i 123 25) - 1)) ∧ (px_w32 ((i 123 25) - 1)) < 80) (h2 : (¬ ((i 123 25) ≤ 0)) → ((i 135 (px_w32 ((i 123 25) - 1))) = (i 123 22)) → 0 ≤ (px_w32 ((i 123 25) - 1)) ∧ (px_w32 ((i 123 25) - 1)) < 80) : px_X (d + 1) 167 (0, [vR 123, vI x1], []) (px_sh L, i, l, r, t) = if (i 123 25) ≤ 0 then some (none, (px_sh L, i, l, r, t)) else if (i 135 (px_w32 ((i 123 25) - 1))) = (i 123 22) then (px_C d 166 [vI (i 134 (px_w32 ((i 123 25) - 1)))] (px_sh L, i, l, r, t)).bind (fun q => px_X (d + 1) 167 (px_psh (39, [vR 123, vI x1], []) q.1) q.2) else some (none, (px_sh L, i, l, r, t)) := ((xs_aldn k167_0 rfl).trans ((xs_get0 k167_1 (px_s123 L) (Nat.le_of_ble_eq_true rfl)).trans ((xs_ile k167_4).trans (px_ite (fun c1 => (xs_rv k167_70 rfl)) (fun c1 => ((xs_aldn k167_7 rfl).trans ((xs_get4 k167_8 (px_s123 L) (Nat.le_of_ble_eq_true rfl) (px_r123_27 hr)).trans ((xs_aldn k167_11 rfl).trans ((xs_get0 k167_12 (px_s123 L) (Nat.le_of_ble_eq_true rfl)).trans ((xs_ic k167_15 (by omega)).trans ((xs_isub k167_16).trans ((xs_iald k167_17 (px_s135 L) (h1 c1)).trans ((xs_aldn k167_18 rfl).trans ((xs_get0 k167_19 (px_s123 L) (Nat.le_of_ble_eq_true rfl)).trans ((xs_jne k167_22).trans (px_ite (fun c2 => ((xs_aldn k167_25 rfl).trans ((xs_get4 k167_26 (px_s123 L) (Nat.le_of_ble_eq_true rfl) (px_r123_26 hr)).trans ((xs_aldn k167_29 rfl).trans ((xs_get0 k167_30 (px_s123 L) (Nat.le_of_ble_eq_true rfl)).trans ((xs_ic k167_33 (by omega)).trans ((xs_isub k167_34).trans ((xs_iald k167_35 (px_s134 L) (h2 c1 c2)).trans (xs_callsB k167_36 (as := [vI (i 134 (px_w32 ((i 123 25) - 1)))]) rfl rfl (Nat.le_of_ble_eq_true rfl) (Nat.le_of_ble_eq_true rfl) (Nat.le_of_ble_eq_true rfl)))))))))) (fun c2 => (xs_rv k167_70 rfl))))))))))))))))))
theorem b167_39 (hr : px_hr r) (d : Nat) (i l : MI) (x1 : Int) (xs0 : Int) (h1 : (¬ (xs0 < x1)) → 0 ≤ (px_w32 ((i 123 25) - 1)) ∧ (px_w32 ((i 123 25) - 1)) < 80) : px_X (d + 1) 167 (39, [vR 123, vI x1], [vI xs0]) (px_sh L, i, l, r, t) = if xs0 < x1 then some (none, (px_sh L, i, l, r, t)) else (px_C d 162 [vR 123, vI (i 134 (px_w32 ((i 123 25) - 1))), vI 0] (px_sh L, (px_up i 123 25 (px_w32 ((i 123 25) - 1))), l, r, t)).bind (fun q => px_X (d + 1) 167 (px_psh (67, [vR 123, vI x1], []) q.1) q.2) := ((xs_ildn k167_39 rfl).trans ((xs_jlt k167_40).trans (px_ite (fun c1 => (xs_rv k167_70 rfl)) (fun c1 => ((xs_aldn k167_43 rfl).trans ((xs_dup k167_44 rfl).trans ((xs_get0 k167_45 (px_s123 L) (Nat.le_of_ble_eq_true rfl)).trans ((xs_ic k167_48 (by omega)).trans ((xs_isub k167_49).trans ((xs_put0 k167_50 (Or.inl rfl) (px_s123 L) (Nat.le_of_ble_eq_true rfl)).trans ((xs_aldn k167_53 rfl).trans ((xs_aldn k167_54 rfl).trans ((xs_get4 k167_55 (px_s123 L) (Nat.le_of_ble_eq_true rfl) (px_r123_26 hr)).trans ((xs_aldn k167_58 rfl).trans ((xs_get0 k167_59 (px_s123 L) (Nat.le_of_ble_eq_true rfl)).trans ((xs_iald k167_62 (px_s134 L) (h1 c1)).trans ((xs_ic k167_63 (by omega)).trans (xs_callvB k167_64 (as := [vI (i 134 (px_w32 ((i 123 25) - 1))), vI 0]) rfl rfl (Nat.le_of_ble_eq_true rfl) (Nat.le_of_ble_eq_true rfl) (Nat.le_of_ble_eq_true rfl) (px_s123 L) (Nat.le_of_ble_eq_true rfl)))))))))))))))))))
theorem b167_67 (hr : px_hr r) (d : Nat) (i l : MI) (x1 : Int) : px_X d 167 (67, [vR 123, vI x1], []) (px_sh L, i, l, r, t) = px_X d 167 (0, [vR 123, vI x1], []) (px_sh L, i, l, r, t) := (xs_goto k167_67)
-- TideGuestsModel.waitsFor ('R123', 'I')
theorem b168_0 (hr : px_hr r) (d : Nat) (i l : MI) (x1 : Int) : px_X (d + 1) 168 (0, [vR 123, vI x1], []) (px_sh L, i, l, r, t) = (px_C d 166 [vI x1] (px_sh L, i, l, r, t)).bind (fun q => px_X (d + 1) 168 (px_psh (5, [vR 123, vI x1], [vR 123]) q.1) q.2) := ((xs_aldn k168_0 rfl).trans ((xs_ildn k168_1 rfl).trans (xs_callsB k168_2 (as := [vI x1]) rfl rfl (Nat.le_of_ble_eq_true rfl) (Nat.le_of_ble_eq_true rfl) (Nat.le_of_ble_eq_true rfl))))
theorem b168_5 (hr : px_hr r) (d : Nat) (i l : MI) (x1 : Int) (xs0 : Int) : px_X (d + 1) 168 (5, [vR 123, vI x1], [vI xs0, vR 123]) (px_sh L, i, l, r, t) = (px_C d 167 [vR 123, vI xs0] (px_sh L, i, l, r, t)).bind (fun q => px_X (d + 1) 168 (px_psh (8, [vR 123, vI x1], []) q.1) q.2) := (xs_callvB k168_5 (as := [vI xs0]) rfl rfl (Nat.le_of_ble_eq_true rfl) (Nat.le_of_ble_eq_true rfl) (Nat.le_of_ble_eq_true rfl) (px_s123 L) (Nat.le_of_ble_eq_true rfl))
theorem b168_8 (hr : px_hr r) (d : Nat) (i l : MI) (x1 : Int) (h1 : 0 ≤ (i 123 25) ∧ (i 123 25) < 80) : px_X (d + 1) 168 (8, [vR 123, vI x1], []) (px_sh L, i, l, r, t) = (px_C d 158 [vR 123] (px_sh L, (px_up (px_up (px_up i 134 (i 123 25) x1) 135 (i 123 25) (i 123 22)) 123 25 (px_w32 ((i 123 25) + 1))), l, r, t)).bind (fun q => px_X (d + 1) 168 (px_psh (45, [vR 123, vI x1], []) q.1) q.2) := ((xs_aldn k168_8 rfl).trans ((xs_get4 k168_9 (px_s123 L) (Nat.le_of_ble_eq_true rfl) (px_r123_26 hr)).trans ((xs_aldn k168_12 rfl).trans ((xs_get0 k168_13 (px_s123 L) (Nat.le_of_ble_eq_true rfl)).trans ((xs_ildn k168_16 rfl).trans ((xs_iast k168_17 (px_s134 L) (h1) (Nat.le_of_ble_eq_true rfl)).trans ((xs_aldn k168_18 rfl).trans ((xs_get4 k168_19 (px_s123 L) (Nat.le_of_ble_eq_true rfl) (px_r123_27 hr)).trans ((xs_aldn k168_22 rfl).trans ((xs_get0 k168_23 (px_s123 L) (Nat.le_of_ble_eq_true rfl)).trans ((xs_aldn k168_26 rfl).trans ((xs_get0 k168_27 (px_s123 L) (Nat.le_of_ble_eq_true rfl)).trans ((xs_iast k168_30 (px_s135 L) (h1) (Nat.le_of_ble_eq_true rfl)).trans ((xs_aldn k168_31 rfl).trans ((xs_dup k168_32 rfl).trans ((xs_get0 k168_33 (px_s123 L) (Nat.le_of_ble_eq_true rfl)).trans ((xs_ic k168_36 (by omega)).trans ((xs_iadd k168_37).trans ((xs_put0 k168_38 (Or.inl rfl) (px_s123 L) (Nat.le_of_ble_eq_true rfl)).trans ((xs_aldn k168_41 rfl).trans (xs_callvB k168_42 (as := []) rfl rfl (Nat.le_of_ble_eq_true rfl) (Nat.le_of_ble_eq_true rfl) (Nat.le_of_ble_eq_true rfl) (px_s123 L) (Nat.le_of_ble_eq_true rfl))))))))))))))))))))))
theorem b168_45 (hr : px_hr r) (d : Nat) (i l : MI) (x1 : Int) : px_X d 168 (45, [vR 123, vI x1], []) (px_sh L, i, l, r, t) = some (none, (px_sh L, i, l, r, t)) := (xs_rv k168_45 rfl)
-- TideGuestsModel.asks ('R123',)
theorem b169_0 (hr : px_hr r) (d : Nat) (i l : MI)  : px_X (d + 1) 169 (0, [vR 123, vJ], []) (px_sh L, i, l, r, t) = (px_C d 160 [vR 123, vI 8] (px_sh L, i, l, r, t)).bind (fun q => px_X (d + 1) 169 (px_psh (6, [vR 123, vJ], []) q.1) q.2) := ((xs_aldn k169_0 rfl).trans ((xs_bi k169_1 (by omega)).trans (xs_callvB k169_3 (as := [vI 8]) rfl rfl (Nat.le_of_ble_eq_true rfl) (Nat.le_of_ble_eq_true rfl) (Nat.le_of_ble_eq_true rfl) (px_s123 L) (Nat.le_of_ble_eq_true rfl))))
theorem b169_6 (hr : px_hr r) (d : Nat) (i l : MI) (xs0 : Int) : px_X (d + 1) 169 (6, [vR 123, vJ], [vI xs0]) (px_sh L, i, l, r, t) = if xs0 = 0 then (px_C d 163 [vR 123, vI 4] (px_sh L, i, l, r, t)).bind (fun q => px_X (d + 1) 169 (px_psh (23, [vR 123, vJ], []) q.1) q.2) else (px_C d 165 [vR 123, vI 3] (px_sh L, i, l, r, t)).bind (fun q => px_X (d + 1) 169 (px_psh (14, [vR 123, vJ], []) q.1) q.2) := ((xs_ieq k169_6).trans (px_ite (fun c1 => ((xs_aldn k169_18 rfl).trans ((xs_ic k169_19 (by omega)).trans (xs_callvB k169_20 (as := [vI 4]) rfl rfl (Nat.le_of_ble_eq_true rfl) (Nat.le_of_ble_eq_true rfl) (Nat.le_of_ble_eq_true rfl) (px_s123 L) (Nat.le_of_ble_eq_true rfl))))) (fun c1 => ((xs_aldn k169_9 rfl).trans ((xs_ic k169_10 (by omega)).trans (xs_callvB k169_11 (as := [vI 3]) rfl rfl (Nat.le_of_ble_eq_true rfl) (Nat.le_of_ble_eq_true rfl) (Nat.le_of_ble_eq_true rfl) (px_s123 L) (Nat.le_of_ble_eq_true rfl)))))))
theorem b169_14 (hr : px_hr r) (d : Nat) (i l : MI) (xs0 : Int) : px_X d 169 (14, [vR 123, vJ], [vI xs0]) (px_sh L, i, l, r, t) = some (none, (px_sh L, i, l, r, t)) := ((xs_istn k169_14 (Nat.le_of_ble_eq_true rfl) (ls' := [vR 123, vI xs0]) rfl).trans ((xs_goto k169_15).trans (xs_rv k169_28 rfl)))
theorem b169_23 (hr : px_hr r) (d : Nat) (i l : MI)  : px_X d 169 (23, [vR 123, vJ], []) (px_sh L, i, l, r, t) = some (none, (px_sh L, (px_up i 123 28 1), l, r, t)) := ((xs_aldn k169_23 rfl).trans ((xs_ic k169_24 (by omega)).trans ((xs_put0 k169_25 (Or.inl rfl) (px_s123 L) (Nat.le_of_ble_eq_true rfl)).trans (xs_rv k169_28 rfl))))
-- TideGuestsModel.mayName ('R123', 'I')
theorem b170_0 (hr : px_hr r) (d : Nat) (i l : MI) (x1 : Int) : px_X (d + 1) 170 (0, [vR 123, vI x1], []) (px_sh L, i, l, r, t) = if (i 123 30) = 0 then if 3 ≤ x1 then some (some (vI 0), (px_sh L, i, l, r, t)) else some (some (vI 1), (px_sh L, i, l, r, t)) else if (i 123 30) = 1 then if x1 = 0 then some (some (vI 1), (px_sh L, i, l, r, t)) else (px_C d 141 [vI x1, vI 3, vI 9] (px_sh L, i, l, r, t)).bind (fun q => px_X (d + 1) 170 (px_psh (132, [vR 123, vI x1], []) q.1) q.2) else if (i 123 30) = 2 then if x1 = 3 then some (some (vI 1), (px_sh L, i, l, r, t)) else if x1 = 6 then some (some (vI 1), (px_sh L, i, l, r, t)) else (px_C d 141 [vI x1, vI 11, vI 13] (px_sh L, i, l, r, t)).bind (fun q => px_X (d + 1) 170 (px_psh (74, [vR 123, vI x1], []) q.1) q.2) else if (i 123 30) = 3 then if x1 = 14 then some (some (vI 1), (px_sh L, i, l, r, t)) else some (some (vI 0), (px_sh L, i, l, r, t)) else if (i 123 30) = 4 then if x1 = 0 then some (some (vI 1), (px_sh L, i, l, r, t)) else (px_C d 141 [vI x1, vI 3, vI 9] (px_sh L, i, l, r, t)).bind (fun q => px_X (d + 1) 170 (px_psh (132, [vR 123, vI x1], []) q.1) q.2) else if (i 123 30) = 5 then if x1 = 0 then some (some (vI 1), (px_sh L, i, l, r, t)) else if x1 = 3 then some (some (vI 1), (px_sh L, i, l, r, t)) else if x1 = 5 then some (some (vI 1), (px_sh L, i, l, r, t)) else if x1 = 10 then some (some (vI 1), (px_sh L, i, l, r, t)) else some (some (vI 0), (px_sh L, i, l, r, t)) else if x1 = 0 then some (some (vI 1), (px_sh L, i, l, r, t)) else (px_C d 141 [vI x1, vI 3, vI 9] (px_sh L, i, l, r, t)).bind (fun q => px_X (d + 1) 170 (px_psh (132, [vR 123, vI x1], []) q.1) q.2) := ((xs_aldn k170_0 rfl).trans ((xs_get0 k170_1 (px_s123 L) (Nat.le_of_ble_eq_true rfl)).trans (px_swi (fun c1 => ((xs_tsw k170_4 (tg := 44) (by rw [c1]; omega) (by rw [c1]; rfl)).trans ((xs_ildn k170_44 rfl).trans ((xs_ic k170_45 (by omega)).trans ((xs_jge k170_46).trans (px_ite (fun c2 => ((xs_ic k170_53 (by omega)).trans (xs_rz k170_54 rfl (by omega)))) (fun c2 => ((xs_ic k170_49 (by omega)).trans ((xs_goto k170_50).trans (xs_rz k170_54 rfl (by omega))))))))))) (fun c1 => (px_swi (fun c2 => ((xs_tsw k170_4 (tg := 121) (by rw [c2]; omega) (by rw [c2]; rfl)).trans ((xs_ildn k170_121 rfl).trans ((xs_ieq k170_122).trans (px_ite (fun c3 => ((xs_ic k170_135 (by omega)).trans ((xs_goto k170_136).trans (xs_rz k170_140 rfl (by omega))))) (fun c3 => ((xs_ildn k170_125 rfl).trans ((xs_ic k170_126 (by omega)).trans ((xs_bi k170_127 (by omega)).trans (xs_callsB k170_129 (as := [vI x1, vI 3, vI 9]) rfl rfl (Nat.le_of_ble_eq_true rfl) (Nat.le_of_ble_eq_true rfl) (Nat.le_of_ble_eq_true rfl))))))))))) (fun c2 => (px_swi (fun c3 => ((xs_tsw k170_4 (tg := 55) (by rw [c3]; omega) (by rw [c3]; rfl)).trans ((xs_ildn k170_55 rfl).trans ((xs_ic k170_56 (by omega)).trans ((xs_jeq k170_57).trans (px_ite (fun c4 => ((xs_ic k170_77 (by omega)).trans ((xs_goto k170_78).trans (xs_rz k170_82 rfl (by omega))))) (fun c4 => ((xs_ildn k170_60 rfl).trans ((xs_bi k170_61 (by omega)).trans ((xs_jeq k170_63).trans (px_ite (fun c5 => ((xs_ic k170_77 (by omega)).trans ((xs_goto k170_78).trans (xs_rz k170_82 rfl (by omega))))) (fun c5 => ((xs_ildn k170_66 rfl).trans ((xs_bi k170_67 (by omega)).trans ((xs_bi k170_69 (by omega)).trans (xs_callsB k170_71 (as := [vI x1, vI 11, vI 13]) rfl rfl (Nat.le_of_ble_eq_true rfl) (Nat.le_of_ble_eq_true rfl) (Nat.le_of_ble_eq_true rfl))))))))))))))))) (fun c3 => (px_swi (fun c4 => ((xs_tsw k170_4 (tg := 83) (by rw [c4]; omega) (by rw [c4]; rfl)).trans ((xs_ildn k170_83 rfl).trans ((xs_bi k170_84 (by omega)).trans ((xs_jne k170_86).trans (px_ite (fun c5 => ((xs_ic k170_89 (by omega)).trans ((xs_goto k170_90).trans (xs_rz k170_94 rfl (by omega))))) (fun c5 => ((xs_ic k170_93 (by omega)).trans (xs_rz k170_94 rfl (by omega)))))))))) (fun c4 => (px_swi (fun c5 => ((xs_tsw k170_4 (tg := 121) (by rw [c5]; omega) (by rw [c5]; rfl)).trans ((xs_ildn k170_121 rfl).trans ((xs_ieq k170_122).trans (px_ite (fun c6 => ((xs_ic k170_135 (by omega)).trans ((xs_goto k170_136).trans (xs_rz k170_140 rfl (by omega))))) (fun c6 => ((xs_ildn k170_125 rfl).trans ((xs_ic k170_126 (by omega)).trans ((xs_bi k170_127 (by omega)).trans (xs_callsB k170_129 (as := [vI x1, vI 3, vI 9]) rfl rfl (Nat.le_of_ble_eq_true rfl) (Nat.le_of_ble_eq_true rfl) (Nat.le_of_ble_eq_true rfl))))))))))) (fun c5 => (px_swi (fun c6 => ((xs_tsw k170_4 (tg := 95) (by rw [c6]; omega) (by rw [c6]; rfl)).trans ((xs_ildn k170_95 rfl).trans ((xs_ieq k170_96).trans (px_ite (fun c7 => ((xs_ic k170_115 (by omega)).trans ((xs_goto k170_116).trans (xs_rz k170_120 rfl (by omega))))) (fun c7 => ((xs_ildn k170_99 rfl).trans ((xs_ic k170_100 (by omega)).trans ((xs_jeq k170_101).trans (px_ite (fun c8 => ((xs_ic k170_115 (by omega)).trans ((xs_goto k170_116).trans (xs_rz k170_120 rfl (by omega))))) (fun c8 => ((xs_ildn k170_104 rfl).trans ((xs_ic k170_105 (by omega)).trans ((xs_jeq k170_106).trans (px_ite (fun c9 => ((xs_ic k170_115 (by omega)).trans ((xs_goto k170_116).trans (xs_rz k170_120 rfl (by omega))))) (fun c9 => ((xs_ildn k170_109 rfl).trans ((xs_bi k170_110 (by omega)).trans ((xs_jne k170_112).trans (px_ite (fun c10 => ((xs_ic k170_115 (by omega)).trans ((xs_goto k170_116).trans (xs_rz k170_120 rfl (by omega))))) (fun c10 => ((xs_ic k170_119 (by omega)).trans (xs_rz k170_120 rfl (by omega)))))))))))))))))))))))) (fun c6 => ((xs_tswd k170_4 (by omega)).trans ((xs_ildn k170_121 rfl).trans ((xs_ieq k170_122).trans (px_ite (fun c7 => ((xs_ic k170_135 (by omega)).trans ((xs_goto k170_136).trans (xs_rz k170_140 rfl (by omega))))) (fun c7 => ((xs_ildn k170_125 rfl).trans ((xs_ic k170_126 (by omega)).trans ((xs_bi k170_127 (by omega)).trans (xs_callsB k170_129 (as := [vI x1, vI 3, vI 9]) rfl rfl (Nat.le_of_ble_eq_true rfl) (Nat.le_of_ble_eq_true rfl) (Nat.le_of_ble_eq_true rfl))))))))))))))))))))))))
theorem b170_74 (hr : px_hr r) (d : Nat) (i l : MI) (x1 : Int) (xs0 : Int) : px_X d 170 (74, [vR 123, vI x1], [vI xs0]) (px_sh L, i, l, r, t) = if xs0 = 0 then some (some (vI 0), (px_sh L, i, l, r, t)) else some (some (vI 1), (px_sh L, i, l, r, t)) := ((xs_ieq k170_74).trans (px_ite (fun c1 => ((xs_ic k170_81 (by omega)).trans (xs_rz k170_82 rfl (by omega)))) (fun c1 => ((xs_ic k170_77 (by omega)).trans ((xs_goto k170_78).trans (xs_rz k170_82 rfl (by omega)))))))
theorem b170_132 (hr : px_hr r) (d : Nat) (i l : MI) (x1 : Int) (xs0 : Int) : px_X d 170 (132, [vR 123, vI x1], [vI xs0]) (px_sh L, i, l, r, t) = if xs0 = 0 then some (some (vI 0), (px_sh L, i, l, r, t)) else some (some (vI 1), (px_sh L, i, l, r, t)) := ((xs_ieq k170_132).trans (px_ite (fun c1 => ((xs_ic k170_139 (by omega)).trans (xs_rz k170_140 rfl (by omega)))) (fun c1 => ((xs_ic k170_135 (by omega)).trans ((xs_goto k170_136).trans (xs_rz k170_140 rfl (by omega)))))))
-- TideGuestsModel.begins ('R123',)
theorem b171_0 (hr : px_hr r) (d : Nat) (i l : MI)  : px_X (d + 1) 171 (0, [vR 123, vJ], []) (px_sh L, i, l, r, t) = if (i 123 17) = 2 then if (i 123 18) ≤ 9999 then (px_C d 162 [vR 123, vI 400, vI (i 123 18)] (px_sh L, i, l, r, t)).bind (fun q => px_X (d + 1) 171 (px_psh (35, [vR 123, vJ], []) q.1) q.2) else (px_C d 161 [vR 123, vI 2] (px_sh L, i, l, r, t)).bind (fun q => px_X (d + 1) 171 (px_psh (23, [vR 123, vJ], []) q.1) q.2) else if (i 123 17) = 1 then if (i 123 18) ≤ 8 then px_X (d + 1) 171 (112, [vR 123, vJ], []) (px_sh L, i, l, r, t) else (px_C d 170 [vR 123, vI (px_w32 ((px_w32 ((i 123 18) - 8)) - 1))] (px_sh L, i, l, r, t)).bind (fun q => px_X (d + 1) 171 (px_psh (76, [vR 123, vJ], []) q.1) q.2) else px_X (d + 1) 171 (112, [vR 123, vJ], []) (px_sh L, i, l, r, t) := ((xs_aldn k171_0 rfl).trans ((xs_get0 k171_1 (px_s123 L) (Nat.le_of_ble_eq_true rfl)).trans ((xs_ic k171_4 (by omega)).trans ((xs_jne k171_5).trans (px_ite (fun c1 => ((xs_aldn k171_8 rfl).trans ((xs_get0 k171_9 (px_s123 L) (Nat.le_of_ble_eq_true rfl)).trans ((xs_si k171_12 (by omega)).trans ((xs_jle k171_15).trans (px_ite (fun c2 => ((xs_aldn k171_24 rfl).trans ((xs_si k171_25 (by omega)).trans ((xs_aldn k171_28 rfl).trans ((xs_get0 k171_29 (px_s123 L) (Nat.le_of_ble_eq_true rfl)).trans (xs_callvB k171_32 (as := [vI 400, vI (i 123 18)]) rfl rfl (Nat.le_of_ble_eq_true rfl) (Nat.le_of_ble_eq_true rfl) (Nat.le_of_ble_eq_true rfl) (px_s123 L) (Nat.le_of_ble_eq_true rfl))))))) (fun c2 => ((xs_aldn k171_18 rfl).trans ((xs_ic k171_19 (by omega)).trans (xs_callvB k171_20 (as := [vI 2]) rfl rfl (Nat.le_of_ble_eq_true rfl) (Nat.le_of_ble_eq_true rfl) (Nat.le_of_ble_eq_true rfl) (px_s123 L) (Nat.le_of_ble_eq_true rfl))))))))))) (fun c1 => ((xs_aldn k171_46 rfl).trans ((xs_get0 k171_47 (px_s123 L) (Nat.le_of_ble_eq_true rfl)).trans ((xs_ic k171_50 (by omega)).trans ((xs_jne k171_51).trans (px_ite (fun c2 => ((xs_aldn k171_54 rfl).trans ((xs_get0 k171_55 (px_s123 L) (Nat.le_of_ble_eq_true rfl)).trans ((xs_bi k171_58 (by omega)).trans ((xs_jle k171_60).trans (px_ite (fun c3 => rfl) (fun c3 => ((xs_aldn k171_63 rfl).trans ((xs_aldn k171_64 rfl).trans ((xs_get0 k171_65 (px_s123 L) (Nat.le_of_ble_eq_true rfl)).trans ((xs_bi k171_68 (by omega)).trans ((xs_isub k171_70).trans ((xs_ic k171_71 (by omega)).trans ((xs_isub k171_72).trans (xs_callvB k171_73 (as := [vI (px_w32 ((px_w32 ((i 123 18) - 8)) - 1))]) rfl rfl (Nat.le_of_ble_eq_true rfl) (Nat.le_of_ble_eq_true rfl) (Nat.le_of_ble_eq_true rfl) (px_s123 L) (Nat.le_of_ble_eq_true rfl)))))))))))))))) (fun c2 => rfl))))))))))))
theorem b171_23 (hr : px_hr r) (d : Nat) (i l : MI)  : px_X d 171 (23, [vR 123, vJ], []) (px_sh L, i, l, r, t) = some (none, (px_sh L, i, l, r, t)) := (xs_rv k171_23 rfl)
theorem b171_35 (hr : px_hr r) (d : Nat) (i l : MI)  : px_X (d + 1) 171 (35, [vR 123, vJ], []) (px_sh L, i, l, r, t) = (px_C d 158 [vR 123] (px_sh L, i, l, r, t)).bind (fun q => px_X (d + 1) 171 (px_psh (39, [vR 123, vJ], []) q.1) q.2) := ((xs_aldn k171_35 rfl).trans (xs_callvB k171_36 (as := []) rfl rfl (Nat.le_of_ble_eq_true rfl) (Nat.le_of_ble_eq_true rfl) (Nat.le_of_ble_eq_true rfl) (px_s123 L) (Nat.le_of_ble_eq_true rfl)))
theorem b171_39 (hr : px_hr r) (d : Nat) (i l : MI)  : px_X (d + 1) 171 (39, [vR 123, vJ], []) (px_sh L, i, l, r, t) = (px_C d 172 [vR 123] (px_sh L, i, l, r, t)).bind (fun q => px_X (d + 1) 171 (px_psh (43, [vR 123, vJ], []) q.1) q.2) := ((xs_aldn k171_39 rfl).trans (xs_callvB k171_40 (as := []) rfl rfl (Nat.le_of_ble_eq_true rfl) (Nat.le_of_ble_eq_true rfl) (Nat.le_of_ble_eq_true rfl) (px_s123 L) (Nat.le_of_ble_eq_true rfl)))
theorem b171_43 (hr : px_hr r) (d : Nat) (i l : MI)  : px_X d 171 (43, [vR 123, vJ], []) (px_sh L, i, l, r, t) = some (none, (px_sh L, i, l, r, t)) := ((xs_goto k171_43).trans (xs_rv k171_155 rfl))
theorem b171_76 (hr : px_hr r) (d : Nat) (i l : MI) (xs0 : Int) : px_X (d + 1) 171 (76, [vR 123, vJ], [vI xs0]) (px_sh L, i, l, r, t) = if xs0 = 0 then (px_C d 161 [vR 123, vI 5] (px_sh L, i, l, r, t)).bind (fun q => px_X (d + 1) 171 (px_psh (84, [vR 123, vJ], []) q.1) q.2) else (px_C d 162 [vR 123, vI 401, vI (px_w32 ((px_w32 ((i 123 18) - 8)) - 1))] (px_sh L, i, l, r, t)).bind (fun q => px_X (d + 1) 171 (px_psh (101, [vR 123, vJ], []) q.1) q.2) := ((xs_ine k171_76).trans (px_ite (fun c1 => ((xs_aldn k171_79 rfl).trans ((xs_ic k171_80 (by omega)).trans (xs_callvB k171_81 (as := [vI 5]) rfl rfl (Nat.le_of_ble_eq_true rfl) (Nat.le_of_ble_eq_true rfl) (Nat.le_of_ble_eq_true rfl) (px_s123 L) (Nat.le_of_ble_eq_true rfl))))) (fun c1 => ((xs_aldn k171_85 rfl).trans ((xs_si k171_86 (by omega)).trans ((xs_aldn k171_89 rfl).trans ((xs_get0 k171_90 (px_s123 L) (Nat.le_of_ble_eq_true rfl)).trans ((xs_bi k171_93 (by omega)).trans ((xs_isub k171_95).trans ((xs_ic k171_96 (by omega)).trans ((xs_isub k171_97).trans (xs_callvB k171_98 (as := [vI 401, vI (px_w32 ((px_w32 ((i 123 18) - 8)) - 1))]) rfl rfl (Nat.le_of_ble_eq_true rfl) (Nat.le_of_ble_eq_true rfl) (Nat.le_of_ble_eq_true rfl) (px_s123 L) (Nat.le_of_ble_eq_true rfl)))))))))))))
theorem b171_84 (hr : px_hr r) (d : Nat) (i l : MI)  : px_X d 171 (84, [vR 123, vJ], []) (px_sh L, i, l, r, t) = some (none, (px_sh L, i, l, r, t)) := (xs_rv k171_84 rfl)
theorem b171_101 (hr : px_hr r) (d : Nat) (i l : MI)  : px_X (d + 1) 171 (101, [vR 123, vJ], []) (px_sh L, i, l, r, t) = (px_C d 158 [vR 123] (px_sh L, i, l, r, t)).bind (fun q => px_X (d + 1) 171 (px_psh (105, [vR 123, vJ], []) q.1) q.2) := ((xs_aldn k171_101 rfl).trans (xs_callvB k171_102 (as := []) rfl rfl (Nat.le_of_ble_eq_true rfl) (Nat.le_of_ble_eq_true rfl) (Nat.le_of_ble_eq_true rfl) (px_s123 L) (Nat.le_of_ble_eq_true rfl)))
theorem b171_105 (hr : px_hr r) (d : Nat) (i l : MI)  : px_X (d + 1) 171 (105, [vR 123, vJ], []) (px_sh L, i, l, r, t) = (px_C d 172 [vR 123] (px_sh L, i, l, r, t)).bind (fun q => px_X (d + 1) 171 (px_psh (109, [vR 123, vJ], []) q.1) q.2) := ((xs_aldn k171_105 rfl).trans (xs_callvB k171_106 (as := []) rfl rfl (Nat.le_of_ble_eq_true rfl) (Nat.le_of_ble_eq_true rfl) (Nat.le_of_ble_eq_true rfl) (px_s123 L) (Nat.le_of_ble_eq_true rfl)))
theorem b171_109 (hr : px_hr r) (d : Nat) (i l : MI)  : px_X d 171 (109, [vR 123, vJ], []) (px_sh L, i, l, r, t) = some (none, (px_sh L, i, l, r, t)) := ((xs_goto k171_109).trans (xs_rv k171_155 rfl))
theorem b171_112 (hr : px_hr r) (d : Nat) (i l : MI)  : px_X (d + 1) 171 (112, [vR 123, vJ], []) (px_sh L, i, l, r, t) = (px_C d 159 [vR 123, vI 40] (px_sh L, i, l, r, t)).bind (fun q => px_X (d + 1) 171 (px_psh (118, [vR 123, vJ], []) q.1) q.2) := ((xs_aldn k171_112 rfl).trans ((xs_bi k171_113 (by omega)).trans (xs_callvB k171_115 (as := [vI 40]) rfl rfl (Nat.le_of_ble_eq_true rfl) (Nat.le_of_ble_eq_true rfl) (Nat.le_of_ble_eq_true rfl) (px_s123 L) (Nat.le_of_ble_eq_true rfl))))
theorem b171_118 (hr : px_hr r) (d : Nat) (i l : MI) (xs0 : Int) : px_X (d + 1) 171 (118, [vR 123, vJ], [vI xs0]) (px_sh L, i, l, r, t) = if xs0 = 0 then (px_C d 159 [vR 123, vI 45] (px_sh L, i, l, r, t)).bind (fun q => px_X (d + 1) 171 (px_psh (137, [vR 123, vJ], []) q.1) q.2) else (px_C d 165 [vR 123, vI 6] (px_sh L, i, l, r, t)).bind (fun q => px_X (d + 1) 171 (px_psh (127, [vR 123, vJ], []) q.1) q.2) := ((xs_ieq k171_118).trans (px_ite (fun c1 => ((xs_aldn k171_131 rfl).trans ((xs_bi k171_132 (by omega)).trans (xs_callvB k171_134 (as := [vI 45]) rfl rfl (Nat.le_of_ble_eq_true rfl) (Nat.le_of_ble_eq_true rfl) (Nat.le_of_ble_eq_true rfl) (px_s123 L) (Nat.le_of_ble_eq_true rfl))))) (fun c1 => ((xs_aldn k171_121 rfl).trans ((xs_bi k171_122 (by omega)).trans (xs_callvB k171_124 (as := [vI 6]) rfl rfl (Nat.le_of_ble_eq_true rfl) (Nat.le_of_ble_eq_true rfl) (Nat.le_of_ble_eq_true rfl) (px_s123 L) (Nat.le_of_ble_eq_true rfl)))))))
theorem b171_127 (hr : px_hr r) (d : Nat) (i l : MI) (xs0 : Int) : px_X d 171 (127, [vR 123, vJ], [vI xs0]) (px_sh L, i, l, r, t) = some (none, (px_sh L, i, l, r, t)) := ((xs_istn k171_127 (Nat.le_of_ble_eq_true rfl) (ls' := [vR 123, vI xs0]) rfl).trans ((xs_goto k171_128).trans (xs_rv k171_155 rfl)))
theorem b171_137 (hr : px_hr r) (d : Nat) (i l : MI) (xs0 : Int) : px_X (d + 1) 171 (137, [vR 123, vJ], [vI xs0]) (px_sh L, i, l, r, t) = if xs0 = 0 then (px_C d 161 [vR 123, vI 1] (px_sh L, i, l, r, t)).bind (fun q => px_X (d + 1) 171 (px_psh (155, [vR 123, vJ], []) q.1) q.2) else (px_C d 165 [vR 123, vI 7] (px_sh L, i, l, r, t)).bind (fun q => px_X (d + 1) 171 (px_psh (146, [vR 123, vJ], []) q.1) q.2) := ((xs_ieq k171_137).trans (px_ite (fun c1 => ((xs_aldn k171_150 rfl).trans ((xs_ic k171_151 (by omega)).trans (xs_callvB k171_152 (as := [vI 1]) rfl rfl (Nat.le_of_ble_eq_true rfl) (Nat.le_of_ble_eq_true rfl) (Nat.le_of_ble_eq_true rfl) (px_s123 L) (Nat.le_of_ble_eq_true rfl))))) (fun c1 => ((xs_aldn k171_140 rfl).trans ((xs_bi k171_141 (by omega)).trans (xs_callvB k171_143 (as := [vI 7]) rfl rfl (Nat.le_of_ble_eq_true rfl) (Nat.le_of_ble_eq_true rfl) (Nat.le_of_ble_eq_true rfl) (px_s123 L) (Nat.le_of_ble_eq_true rfl)))))))
theorem b171_146 (hr : px_hr r) (d : Nat) (i l : MI) (xs0 : Int) : px_X d 171 (146, [vR 123, vJ], [vI xs0]) (px_sh L, i, l, r, t) = some (none, (px_sh L, i, l, r, t)) := ((xs_istn k171_146 (Nat.le_of_ble_eq_true rfl) (ls' := [vR 123, vI xs0]) rfl).trans ((xs_goto k171_147).trans (xs_rv k171_155 rfl)))
theorem b171_155 (hr : px_hr r) (d : Nat) (i l : MI)  : px_X d 171 (155, [vR 123, vJ], []) (px_sh L, i, l, r, t) = some (none, (px_sh L, i, l, r, t)) := (xs_rv k171_155 rfl)
-- TideGuestsModel.oneIsOver ('R123',)
theorem b172_0 (hr : px_hr r) (d : Nat) (i l : MI)  : px_X (d + 1) 172 (0, [vR 123], []) (px_sh L, i, l, r, t) = (px_C d 164 [vR 123] (px_sh L, i, l, r, t)).bind (fun q => px_X (d + 1) 172 (px_psh (4, [vR 123], []) q.1) q.2) := ((xs_aldn k172_0 rfl).trans (xs_callvB k172_1 (as := []) rfl rfl (Nat.le_of_ble_eq_true rfl) (Nat.le_of_ble_eq_true rfl) (Nat.le_of_ble_eq_true rfl) (px_s123 L) (Nat.le_of_ble_eq_true rfl)))
theorem b172_4 (hr : px_hr r) (d : Nat) (i l : MI) (xs0 : Int) : px_X (d + 1) 172 (4, [vR 123], [vI xs0]) (px_sh L, i, l, r, t) = if xs0 = 7 then (px_C d 162 [vR 123, vI 402, vI 0] (px_sh L, (px_up (px_up i 123 22 (px_w32 ((i 123 22) - 1))) 123 21 (px_w32 ((i 123 21) - 1))), l, r, t)).bind (fun q => px_X (d + 1) 172 (px_psh (37, [vR 123], []) q.1) q.2) else some (none, (px_sh L, (px_up i 123 28 2), l, r, t)) := ((xs_bi k172_4 (by omega)).trans ((xs_jne k172_6).trans (px_ite (fun c1 => ((xs_aldn k172_9 rfl).trans ((xs_dup k172_10 rfl).trans ((xs_get0 k172_11 (px_s123 L) (Nat.le_of_ble_eq_true rfl)).trans ((xs_ic k172_14 (by omega)).trans ((xs_isub k172_15).trans ((xs_put0 k172_16 (Or.inl rfl) (px_s123 L) (Nat.le_of_ble_eq_true rfl)).trans ((xs_aldn k172_19 rfl).trans ((xs_dup k172_20 rfl).trans ((xs_get0 k172_21 (px_s123 L) (Nat.le_of_ble_eq_true rfl)).trans ((xs_ic k172_24 (by omega)).trans ((xs_isub k172_25).trans ((xs_put0 k172_26 (Or.inl rfl) (px_s123 L) (Nat.le_of_ble_eq_true rfl)).trans ((xs_aldn k172_29 rfl).trans ((xs_si k172_30 (by omega)).trans ((xs_ic k172_33 (by omega)).trans (xs_callvB k172_34 (as := [vI 402, vI 0]) rfl rfl (Nat.le_of_ble_eq_true rfl) (Nat.le_of_ble_eq_true rfl) (Nat.le_of_ble_eq_true rfl) (px_s123 L) (Nat.le_of_ble_eq_true rfl)))))))))))))))))) (fun c1 => ((xs_aldn k172_40 rfl).trans ((xs_ic k172_41 (by omega)).trans ((xs_put0 k172_42 (Or.inl rfl) (px_s123 L) (Nat.le_of_ble_eq_true rfl)).trans (xs_rv k172_45 rfl))))))))
theorem b172_37 (hr : px_hr r) (d : Nat) (i l : MI)  : px_X d 172 (37, [vR 123], []) (px_sh L, i, l, r, t) = px_X d 172 (0, [vR 123], []) (px_sh L, i, l, r, t) := (xs_goto k172_37)
-- TideGuestsModel.askIsOver ('R123',)
theorem b173_0 (hr : px_hr r) (d : Nat) (i l : MI)  : px_X (d + 1) 173 (0, [vR 123], []) (px_sh L, i, l, r, t) = (px_C d 164 [vR 123] (px_sh L, i, l, r, t)).bind (fun q => px_X (d + 1) 173 (px_psh (4, [vR 123], []) q.1) q.2) := ((xs_aldn k173_0 rfl).trans (xs_callvB k173_1 (as := []) rfl rfl (Nat.le_of_ble_eq_true rfl) (Nat.le_of_ble_eq_true rfl) (Nat.le_of_ble_eq_true rfl) (px_s123 L) (Nat.le_of_ble_eq_true rfl)))
theorem b173_4 (hr : px_hr r) (d : Nat) (i l : MI) (xs0 : Int) : px_X (d + 1) 173 (4, [vR 123], [vI xs0]) (px_sh L, i, l, r, t) = if xs0 = 3 then (px_C d 162 [vR 123, vI 405, vI 0] (px_sh L, (px_up (px_up i 123 22 (px_w32 ((i 123 22) - 1))) 123 21 (px_w32 ((i 123 21) - 1))), l, r, t)).bind (fun q => px_X (d + 1) 173 (px_psh (36, [vR 123], []) q.1) q.2) else some (none, (px_sh L, (px_up i 123 28 3), l, r, t)) := ((xs_ic k173_4 (by omega)).trans ((xs_jne k173_5).trans (px_ite (fun c1 => ((xs_aldn k173_8 rfl).trans ((xs_dup k173_9 rfl).trans ((xs_get0 k173_10 (px_s123 L) (Nat.le_of_ble_eq_true rfl)).trans ((xs_ic k173_13 (by omega)).trans ((xs_isub k173_14).trans ((xs_put0 k173_15 (Or.inl rfl) (px_s123 L) (Nat.le_of_ble_eq_true rfl)).trans ((xs_aldn k173_18 rfl).trans ((xs_dup k173_19 rfl).trans ((xs_get0 k173_20 (px_s123 L) (Nat.le_of_ble_eq_true rfl)).trans ((xs_ic k173_23 (by omega)).trans ((xs_isub k173_24).trans ((xs_put0 k173_25 (Or.inl rfl) (px_s123 L) (Nat.le_of_ble_eq_true rfl)).trans ((xs_aldn k173_28 rfl).trans ((xs_si k173_29 (by omega)).trans ((xs_ic k173_32 (by omega)).trans (xs_callvB k173_33 (as := [vI 405, vI 0]) rfl rfl (Nat.le_of_ble_eq_true rfl) (Nat.le_of_ble_eq_true rfl) (Nat.le_of_ble_eq_true rfl) (px_s123 L) (Nat.le_of_ble_eq_true rfl)))))))))))))))))) (fun c1 => ((xs_aldn k173_39 rfl).trans ((xs_ic k173_40 (by omega)).trans ((xs_put0 k173_41 (Or.inl rfl) (px_s123 L) (Nat.le_of_ble_eq_true rfl)).trans (xs_rv k173_44 rfl))))))))
theorem b173_36 (hr : px_hr r) (d : Nat) (i l : MI)  : px_X d 173 (36, [vR 123], []) (px_sh L, i, l, r, t) = px_X d 173 (0, [vR 123], []) (px_sh L, i, l, r, t) := (xs_goto k173_36)
-- TideGuestsModel.isAsking ('I',)
theorem b174_0 (hr : px_hr r) (d : Nat) (i l : MI) (x0 : Int) : px_X d 174 (0, [vI x0], []) (px_sh L, i, l, r, t) = if x0 = 60 then some (some (vI 1), (px_sh L, i, l, r, t)) else if x0 = 62 then some (some (vI 1), (px_sh L, i, l, r, t)) else if x0 = 61 then some (some (vI 1), (px_sh L, i, l, r, t)) else if x0 = 35 then some (some (vI 1), (px_sh L, i, l, r, t)) else if x0 = 300 then some (some (vI 1), (px_sh L, i, l, r, t)) else if x0 = 301 then some (some (vI 1), (px_sh L, i, l, r, t)) else some (some (vI 0), (px_sh L, i, l, r, t)) := ((xs_ildn k174_0 rfl).trans ((xs_bi k174_1 (by omega)).trans ((xs_jeq k174_3).trans (px_ite (fun c1 => ((xs_ic k174_38 (by omega)).trans ((xs_goto k174_39).trans (xs_rz k174_43 rfl (by omega))))) (fun c1 => ((xs_ildn k174_6 rfl).trans ((xs_bi k174_7 (by omega)).trans ((xs_jeq k174_9).trans (px_ite (fun c2 => ((xs_ic k174_38 (by omega)).trans ((xs_goto k174_39).trans (xs_rz k174_43 rfl (by omega))))) (fun c2 => ((xs_ildn k174_12 rfl).trans ((xs_bi k174_13 (by omega)).trans ((xs_jeq k174_15).trans (px_ite (fun c3 => ((xs_ic k174_38 (by omega)).trans ((xs_goto k174_39).trans (xs_rz k174_43 rfl (by omega))))) (fun c3 => ((xs_ildn k174_18 rfl).trans ((xs_bi k174_19 (by omega)).trans ((xs_jeq k174_21).trans (px_ite (fun c4 => ((xs_ic k174_38 (by omega)).trans ((xs_goto k174_39).trans (xs_rz k174_43 rfl (by omega))))) (fun c4 => ((xs_ildn k174_24 rfl).trans ((xs_si k174_25 (by omega)).trans ((xs_jeq k174_28).trans (px_ite (fun c5 => ((xs_ic k174_38 (by omega)).trans ((xs_goto k174_39).trans (xs_rz k174_43 rfl (by omega))))) (fun c5 => ((xs_ildn k174_31 rfl).trans ((xs_si k174_32 (by omega)).trans ((xs_jne k174_35).trans (px_ite (fun c6 => ((xs_ic k174_38 (by omega)).trans ((xs_goto k174_39).trans (xs_rz k174_43 rfl (by omega))))) (fun c6 => ((xs_ic k174_42 (by omega)).trans (xs_rz k174_43 rfl (by omega)))))))))))))))))))))))))))))))))
-- TideGuestsModel.goesOn ('R123',)
theorem b175_0 (hr : px_hr r) (d : Nat) (i l : MI)  : px_X (d + 1) 175 (0, [vR 123, vJ, vJ], []) (px_sh L, i, l, r, t) = (px_C d 164 [vR 123] (px_sh L, i, l, r, t)).bind (fun q => px_X (d + 1) 175 (px_psh (4, [vR 123, vJ, vJ], []) q.1) q.2) := ((xs_aldn k175_0 rfl).trans (xs_callvB k175_1 (as := []) rfl rfl (Nat.le_of_ble_eq_true rfl) (Nat.le_of_ble_eq_true rfl) (Nat.le_of_ble_eq_true rfl) (px_s123 L) (Nat.le_of_ble_eq_true rfl)))
theorem b175_4 (hr : px_hr r) (d : Nat) (i l : MI) (xs0 : Int) : px_X d 175 (4, [vR 123, vJ, vJ], [vI xs0]) (px_sh L, i, l, r, t) = if (i 123 17) = 3 then if (i 123 18) = 43 then px_X d 175 (49, [vR 123, vI xs0, vJ], []) (px_sh L, i, l, r, t) else if (i 123 18) = 45 then px_X d 175 (49, [vR 123, vI xs0, vJ], []) (px_sh L, i, l, r, t) else if (i 123 18) = 42 then px_X d 175 (49, [vR 123, vI xs0, vJ], []) (px_sh L, i, l, r, t) else if (i 123 18) = 47 then px_X d 175 (49, [vR 123, vI xs0, vJ], []) (px_sh L, i, l, r, t) else px_X d 175 (65, [vR 123, vI xs0, vJ], []) (px_sh L, i, l, r, t) else px_X d 175 (65, [vR 123, vI xs0, vJ], []) (px_sh L, i, l, r, t) := ((xs_istn k175_4 (Nat.le_of_ble_eq_true rfl) (ls' := [vR 123, vI xs0, vJ]) rfl).trans ((xs_aldn k175_5 rfl).trans ((xs_get0 k175_6 (px_s123 L) (Nat.le_of_ble_eq_true rfl)).trans ((xs_ic k175_9 (by omega)).trans ((xs_jne k175_10).trans (px_ite (fun c1 => ((xs_aldn k175_13 rfl).trans ((xs_get0 k175_14 (px_s123 L) (Nat.le_of_ble_eq_true rfl)).trans ((xs_bi k175_17 (by omega)).trans ((xs_jeq k175_19).trans (px_ite (fun c2 => rfl) (fun c2 => ((xs_aldn k175_22 rfl).trans ((xs_get0 k175_23 (px_s123 L) (Nat.le_of_ble_eq_true rfl)).trans ((xs_bi k175_26 (by omega)).trans ((xs_jeq k175_28).trans (px_ite (fun c3 => rfl) (fun c3 => ((xs_aldn k175_31 rfl).trans ((xs_get0 k175_32 (px_s123 L) (Nat.le_of_ble_eq_true rfl)).trans ((xs_bi k175_35 (by omega)).trans ((xs_jeq k175_37).trans (px_ite (fun c4 => rfl) (fun c4 => ((xs_aldn k175_40 rfl).trans ((xs_get0 k175_41 (px_s123 L) (Nat.le_of_ble_eq_true rfl)).trans ((xs_bi k175_44 (by omega)).trans ((xs_jne k175_46).trans (px_ite (fun c5 => rfl) (fun c5 => rfl))))))))))))))))))))))))) (fun c1 => rfl)))))))
theorem b175_49 (hr : px_hr r) (d : Nat) (i l : MI) (x1 : Int) : px_X (d + 1) 175 (49, [vR 123, vI x1, vJ], []) (px_sh L, i, l, r, t) = (px_C d 168 [vR 123, vI (i 123 18)] (px_sh L, i, l, r, t)).bind (fun q => px_X (d + 1) 175 (px_psh (57, [vR 123, vI x1, vJ], []) q.1) q.2) := ((xs_aldn k175_49 rfl).trans ((xs_aldn k175_50 rfl).trans ((xs_get0 k175_51 (px_s123 L) (Nat.le_of_ble_eq_true rfl)).trans (xs_callvB k175_54 (as := [vI (i 123 18)]) rfl rfl (Nat.le_of_ble_eq_true rfl) (Nat.le_of_ble_eq_true rfl) (Nat.le_of_ble_eq_true rfl) (px_s123 L) (Nat.le_of_ble_eq_true rfl)))))
theorem b175_57 (hr : px_hr r) (d : Nat) (i l : MI) (x1 : Int) : px_X d 175 (57, [vR 123, vI x1, vJ], []) (px_sh L, i, l, r, t) = some (none, (px_sh L, (px_up i 123 28 1), l, r, t)) := ((xs_aldn k175_57 rfl).trans ((xs_ic k175_58 (by omega)).trans ((xs_put0 k175_59 (Or.inl rfl) (px_s123 L) (Nat.le_of_ble_eq_true rfl)).trans ((xs_goto k175_62).trans (xs_rv k175_250 rfl)))))
theorem b175_65 (hr : px_hr r) (d : Nat) (i l : MI) (x1 : Int) : px_X (d + 1) 175 (65, [vR 123, vI x1, vJ], []) (px_sh L, i, l, r, t) = if x1 = 6 then (px_C d 159 [vR 123, vI 41] (px_sh L, i, l, r, t)).bind (fun q => px_X (d + 1) 175 (px_psh (77, [vR 123, vI x1, vJ], []) q.1) q.2) else px_X (d + 1) 175 (116, [vR 123, vI x1, vJ], []) (px_sh L, i, l, r, t) := ((xs_ildn k175_65 rfl).trans ((xs_bi k175_66 (by omega)).trans ((xs_jne k175_68).trans (px_ite (fun c1 => ((xs_aldn k175_71 rfl).trans ((xs_bi k175_72 (by omega)).trans (xs_callvB k175_74 (as := [vI 41]) rfl rfl (Nat.le_of_ble_eq_true rfl) (Nat.le_of_ble_eq_true rfl) (Nat.le_of_ble_eq_true rfl) (px_s123 L) (Nat.le_of_ble_eq_true rfl))))) (fun c1 => rfl)))))
theorem b175_77 (hr : px_hr r) (d : Nat) (i l : MI) (x1 : Int) (xs0 : Int) : px_X (d + 1) 175 (77, [vR 123, vI x1, vJ], [vI xs0]) (px_sh L, i, l, r, t) = if xs0 = 0 then px_X (d + 1) 175 (116, [vR 123, vI x1, vJ], []) (px_sh L, i, l, r, t) else (px_C d 167 [vR 123, vI 3] (px_sh L, i, l, r, t)).bind (fun q => px_X (d + 1) 175 (px_psh (85, [vR 123, vI x1, vJ], []) q.1) q.2) := ((xs_ieq k175_77).trans (px_ite (fun c1 => rfl) (fun c1 => ((xs_aldn k175_80 rfl).trans ((xs_ic k175_81 (by omega)).trans (xs_callvB k175_82 (as := [vI 3]) rfl rfl (Nat.le_of_ble_eq_true rfl) (Nat.le_of_ble_eq_true rfl) (Nat.le_of_ble_eq_true rfl) (px_s123 L) (Nat.le_of_ble_eq_true rfl)))))))
theorem b175_85 (hr : px_hr r) (d : Nat) (i l : MI) (x1 : Int) : px_X (d + 1) 175 (85, [vR 123, vI x1, vJ], []) (px_sh L, i, l, r, t) = (px_C d 158 [vR 123] (px_sh L, (px_up (px_up i 123 22 (px_w32 ((i 123 22) - 1))) 123 21 (px_w32 ((i 123 21) - 1))), l, r, t)).bind (fun q => px_X (d + 1) 175 (px_psh (109, [vR 123, vI x1, vJ], []) q.1) q.2) := ((xs_aldn k175_85 rfl).trans ((xs_dup k175_86 rfl).trans ((xs_get0 k175_87 (px_s123 L) (Nat.le_of_ble_eq_true rfl)).trans ((xs_ic k175_90 (by omega)).trans ((xs_isub k175_91).trans ((xs_put0 k175_92 (Or.inl rfl) (px_s123 L) (Nat.le_of_ble_eq_true rfl)).trans ((xs_aldn k175_95 rfl).trans ((xs_dup k175_96 rfl).trans ((xs_get0 k175_97 (px_s123 L) (Nat.le_of_ble_eq_true rfl)).trans ((xs_ic k175_100 (by omega)).trans ((xs_isub k175_101).trans ((xs_put0 k175_102 (Or.inl rfl) (px_s123 L) (Nat.le_of_ble_eq_true rfl)).trans ((xs_aldn k175_105 rfl).trans (xs_callvB k175_106 (as := []) rfl rfl (Nat.le_of_ble_eq_true rfl) (Nat.le_of_ble_eq_true rfl) (Nat.le_of_ble_eq_true rfl) (px_s123 L) (Nat.le_of_ble_eq_true rfl)))))))))))))))
theorem b175_109 (hr : px_hr r) (d : Nat) (i l : MI) (x1 : Int) : px_X (d + 1) 175 (109, [vR 123, vI x1, vJ], []) (px_sh L, i, l, r, t) = (px_C d 172 [vR 123] (px_sh L, i, l, r, t)).bind (fun q => px_X (d + 1) 175 (px_psh (113, [vR 123, vI x1, vJ], []) q.1) q.2) := ((xs_aldn k175_109 rfl).trans (xs_callvB k175_110 (as := []) rfl rfl (Nat.le_of_ble_eq_true rfl) (Nat.le_of_ble_eq_true rfl) (Nat.le_of_ble_eq_true rfl) (px_s123 L) (Nat.le_of_ble_eq_true rfl)))
theorem b175_113 (hr : px_hr r) (d : Nat) (i l : MI) (x1 : Int) : px_X d 175 (113, [vR 123, vI x1, vJ], []) (px_sh L, i, l, r, t) = some (none, (px_sh L, i, l, r, t)) := ((xs_goto k175_113).trans (xs_rv k175_250 rfl))
theorem b175_116 (hr : px_hr r) (d : Nat) (i l : MI) (x1 : Int) : px_X (d + 1) 175 (116, [vR 123, vI x1, vJ], []) (px_sh L, i, l, r, t) = if x1 = 4 then if (i 123 17) = 3 then (px_C d 174 [vI (i 123 18)] (px_sh L, i, l, r, t)).bind (fun q => px_X (d + 1) 175 (px_psh (136, [vR 123, vI x1, vJ], []) q.1) q.2) else px_X (d + 1) 175 (181, [vR 123, vI x1, vJ], []) (px_sh L, i, l, r, t) else px_X (d + 1) 175 (181, [vR 123, vI x1, vJ], []) (px_sh L, i, l, r, t) := ((xs_ildn k175_116 rfl).trans ((xs_ic k175_117 (by omega)).trans ((xs_jne k175_118).trans (px_ite (fun c1 => ((xs_aldn k175_121 rfl).trans ((xs_get0 k175_122 (px_s123 L) (Nat.le_of_ble_eq_true rfl)).trans ((xs_ic k175_125 (by omega)).trans ((xs_jne k175_126).trans (px_ite (fun c2 => ((xs_aldn k175_129 rfl).trans ((xs_get0 k175_130 (px_s123 L) (Nat.le_of_ble_eq_true rfl)).trans (xs_callsB k175_133 (as := [vI (i 123 18)]) rfl rfl (Nat.le_of_ble_eq_true rfl) (Nat.le_of_ble_eq_true rfl) (Nat.le_of_ble_eq_true rfl))))) (fun c2 => rfl))))))) (fun c1 => rfl)))))
theorem b175_136 (hr : px_hr r) (d : Nat) (i l : MI) (x1 : Int) (xs0 : Int) : px_X (d + 1) 175 (136, [vR 123, vI x1, vJ], [vI xs0]) (px_sh L, i, l, r, t) = if xs0 = 0 then px_X (d + 1) 175 (181, [vR 123, vI x1, vJ], []) (px_sh L, i, l, r, t) else (px_C d 167 [vR 123, vI 3] (px_sh L, i, l, r, t)).bind (fun q => px_X (d + 1) 175 (px_psh (144, [vR 123, vI x1, vJ], []) q.1) q.2) := ((xs_ieq k175_136).trans (px_ite (fun c1 => rfl) (fun c1 => ((xs_aldn k175_139 rfl).trans ((xs_ic k175_140 (by omega)).trans (xs_callvB k175_141 (as := [vI 3]) rfl rfl (Nat.le_of_ble_eq_true rfl) (Nat.le_of_ble_eq_true rfl) (Nat.le_of_ble_eq_true rfl) (px_s123 L) (Nat.le_of_ble_eq_true rfl)))))))
theorem b175_144 (hr : px_hr r) (d : Nat) (i l : MI) (x1 : Int) (h1 : 0 ≤ (i 123 22) ∧ (i 123 22) < 41) (h2 : 0 ≤ (px_w32 ((i 123 22) - 1)) ∧ (px_w32 ((i 123 22) - 1)) < 40) : px_X (d + 1) 175 (144, [vR 123, vI x1, vJ], []) (px_sh L, i, l, r, t) = (px_C d 158 [vR 123] (px_sh L, (px_up (px_up i 133 (i 123 22) (i 123 18)) 132 (px_w32 ((i 123 22) - 1)) 5), l, r, t)).bind (fun q => px_X (d + 1) 175 (px_psh (173, [vR 123, vI x1, vJ], []) q.1) q.2) := ((xs_aldn k175_144 rfl).trans ((xs_get4 k175_145 (px_s123 L) (Nat.le_of_ble_eq_true rfl) (px_r123_24 hr)).trans ((xs_aldn k175_148 rfl).trans ((xs_get0 k175_149 (px_s123 L) (Nat.le_of_ble_eq_true rfl)).trans ((xs_aldn k175_152 rfl).trans ((xs_get0 k175_153 (px_s123 L) (Nat.le_of_ble_eq_true rfl)).trans ((xs_iast k175_156 (px_s133 L) (h1) (Nat.le_of_ble_eq_true rfl)).trans ((xs_aldn k175_157 rfl).trans ((xs_get4 k175_158 (px_s123 L) (Nat.le_of_ble_eq_true rfl) (px_r123_23 hr)).trans ((xs_aldn k175_161 rfl).trans ((xs_get0 k175_162 (px_s123 L) (Nat.le_of_ble_eq_true rfl)).trans ((xs_ic k175_165 (by omega)).trans ((xs_isub k175_166).trans ((xs_ic k175_167 (by omega)).trans ((xs_iast k175_168 (px_s132 L) (h2) (Nat.le_of_ble_eq_true rfl)).trans ((xs_aldn k175_169 rfl).trans (xs_callvB k175_170 (as := []) rfl rfl (Nat.le_of_ble_eq_true rfl) (Nat.le_of_ble_eq_true rfl) (Nat.le_of_ble_eq_true rfl) (px_s123 L) (Nat.le_of_ble_eq_true rfl))))))))))))))))))
theorem b175_173 (hr : px_hr r) (d : Nat) (i l : MI) (x1 : Int) : px_X d 175 (173, [vR 123, vI x1, vJ], []) (px_sh L, i, l, r, t) = some (none, (px_sh L, (px_up i 123 28 1), l, r, t)) := ((xs_aldn k175_173 rfl).trans ((xs_ic k175_174 (by omega)).trans ((xs_put0 k175_175 (Or.inl rfl) (px_s123 L) (Nat.le_of_ble_eq_true rfl)).trans ((xs_goto k175_178).trans (xs_rv k175_250 rfl)))))
theorem b175_181 (hr : px_hr r) (d : Nat) (i l : MI) (x1 : Int) : px_X (d + 1) 175 (181, [vR 123, vI x1, vJ], []) (px_sh L, i, l, r, t) = if x1 = 5 then (px_C d 167 [vR 123, vI 3] (px_sh L, i, l, r, t)).bind (fun q => px_X (d + 1) 175 (px_psh (191, [vR 123, vI x1, vJ], []) q.1) q.2) else if x1 = 1 then (px_C d 159 [vR 123, vI 59] (px_sh L, i, l, r, t)).bind (fun q => px_X (d + 1) 175 (px_psh (235, [vR 123, vI x1, vJ], []) q.1) q.2) else px_X (d + 1) 175 (245, [vR 123, vI x1, vJ], []) (px_sh L, i, l, r, t) := ((xs_ildn k175_181 rfl).trans ((xs_ic k175_182 (by omega)).trans ((xs_jne k175_183).trans (px_ite (fun c1 => ((xs_aldn k175_186 rfl).trans ((xs_ic k175_187 (by omega)).trans (xs_callvB k175_188 (as := [vI 3]) rfl rfl (Nat.le_of_ble_eq_true rfl) (Nat.le_of_ble_eq_true rfl) (Nat.le_of_ble_eq_true rfl) (px_s123 L) (Nat.le_of_ble_eq_true rfl))))) (fun c1 => ((xs_ildn k175_224 rfl).trans ((xs_ic k175_225 (by omega)).trans ((xs_jne k175_226).trans (px_ite (fun c2 => ((xs_aldn k175_229 rfl).trans ((xs_bi k175_230 (by omega)).trans (xs_callvB k175_232 (as := [vI 59]) rfl rfl (Nat.le_of_ble_eq_true rfl) (Nat.le_of_ble_eq_true rfl) (Nat.le_of_ble_eq_true rfl) (px_s123 L) (Nat.le_of_ble_eq_true rfl))))) (fun c2 => rfl))))))))))
theorem b175_191 (hr : px_hr r) (d : Nat) (i l : MI) (x1 : Int) (h1 : 0 ≤ (i 123 22) ∧ (i 123 22) < 41) : px_X (d + 1) 175 (191, [vR 123, vI x1, vJ], []) (px_sh L, i, l, r, t) = (px_C d 162 [vR 123, vI (i 133 (i 123 22)), vI 0] (px_sh L, (px_up i 123 22 (px_w32 ((i 123 22) - 1))), l, r, t)).bind (fun q => px_X (d + 1) 175 (px_psh (217, [vR 123, vI x1, vI (i 133 (i 123 22))], []) q.1) q.2) := ((xs_aldn k175_191 rfl).trans ((xs_get4 k175_192 (px_s123 L) (Nat.le_of_ble_eq_true rfl) (px_r123_24 hr)).trans ((xs_aldn k175_195 rfl).trans ((xs_get0 k175_196 (px_s123 L) (Nat.le_of_ble_eq_true rfl)).trans ((xs_iald k175_199 (px_s133 L) (h1)).trans ((xs_istn k175_200 (Nat.le_of_ble_eq_true rfl) (ls' := [vR 123, vI x1, vI (i 133 (i 123 22))]) rfl).trans ((xs_aldn k175_201 rfl).trans ((xs_dup k175_202 rfl).trans ((xs_get0 k175_203 (px_s123 L) (Nat.le_of_ble_eq_true rfl)).trans ((xs_ic k175_206 (by omega)).trans ((xs_isub k175_207).trans ((xs_put0 k175_208 (Or.inl rfl) (px_s123 L) (Nat.le_of_ble_eq_true rfl)).trans ((xs_aldn k175_211 rfl).trans ((xs_ildn k175_212 rfl).trans ((xs_ic k175_213 (by omega)).trans (xs_callvB k175_214 (as := [vI (i 133 (i 123 22)), vI 0]) rfl rfl (Nat.le_of_ble_eq_true rfl) (Nat.le_of_ble_eq_true rfl) (Nat.le_of_ble_eq_true rfl) (px_s123 L) (Nat.le_of_ble_eq_true rfl)))))))))))))))))
theorem b175_217 (hr : px_hr r) (d : Nat) (i l : MI) (x1 : Int) (x2 : Int) : px_X (d + 1) 175 (217, [vR 123, vI x1, vI x2], []) (px_sh L, i, l, r, t) = (px_C d 173 [vR 123] (px_sh L, i, l, r, t)).bind (fun q => px_X (d + 1) 175 (px_psh (221, [vR 123, vI x1, vI x2], []) q.1) q.2) := ((xs_aldn k175_217 rfl).trans (xs_callvB k175_218 (as := []) rfl rfl (Nat.le_of_ble_eq_true rfl) (Nat.le_of_ble_eq_true rfl) (Nat.le_of_ble_eq_true rfl) (px_s123 L) (Nat.le_of_ble_eq_true rfl)))
theorem b175_221 (hr : px_hr r) (d : Nat) (i l : MI) (x1 : Int) (x2 : Int) : px_X d 175 (221, [vR 123, vI x1, vI x2], []) (px_sh L, i, l, r, t) = some (none, (px_sh L, i, l, r, t)) := ((xs_goto k175_221).trans (xs_rv k175_250 rfl))
theorem b175_235 (hr : px_hr r) (d : Nat) (i l : MI) (x1 : Int) (xs0 : Int) : px_X (d + 1) 175 (235, [vR 123, vI x1, vJ], [vI xs0]) (px_sh L, i, l, r, t) = if xs0 = 0 then px_X (d + 1) 175 (245, [vR 123, vI x1, vJ], []) (px_sh L, i, l, r, t) else (px_C d 177 [vR 123] (px_sh L, i, l, r, t)).bind (fun q => px_X (d + 1) 175 (px_psh (242, [vR 123, vI x1, vJ], []) q.1) q.2) := ((xs_ieq k175_235).trans (px_ite (fun c1 => rfl) (fun c1 => ((xs_aldn k175_238 rfl).trans (xs_callvB k175_239 (as := []) rfl rfl (Nat.le_of_ble_eq_true rfl) (Nat.le_of_ble_eq_true rfl) (Nat.le_of_ble_eq_true rfl) (px_s123 L) (Nat.le_of_ble_eq_true rfl))))))
theorem b175_242 (hr : px_hr r) (d : Nat) (i l : MI) (x1 : Int) : px_X d 175 (242, [vR 123, vI x1, vJ], []) (px_sh L, i, l, r, t) = some (none, (px_sh L, i, l, r, t)) := ((xs_goto k175_242).trans (xs_rv k175_250 rfl))
theorem b175_245 (hr : px_hr r) (d : Nat) (i l : MI) (x1 : Int) : px_X (d + 1) 175 (245, [vR 123, vI x1, vJ], []) (px_sh L, i, l, r, t) = (px_C d 161 [vR 123, vI 1] (px_sh L, i, l, r, t)).bind (fun q => px_X (d + 1) 175 (px_psh (250, [vR 123, vI x1, vJ], []) q.1) q.2) := ((xs_aldn k175_245 rfl).trans ((xs_ic k175_246 (by omega)).trans (xs_callvB k175_247 (as := [vI 1]) rfl rfl (Nat.le_of_ble_eq_true rfl) (Nat.le_of_ble_eq_true rfl) (Nat.le_of_ble_eq_true rfl) (px_s123 L) (Nat.le_of_ble_eq_true rfl))))
theorem b175_250 (hr : px_hr r) (d : Nat) (i l : MI) (x1 : Int) : px_X d 175 (250, [vR 123, vI x1, vJ], []) (px_sh L, i, l, r, t) = some (none, (px_sh L, i, l, r, t)) := (xs_rv k175_250 rfl)
-- TideGuestsModel.asksOn ('R123',)
theorem b176_0 (hr : px_hr r) (d : Nat) (i l : MI)  : px_X (d + 1) 176 (0, [vR 123], []) (px_sh L, i, l, r, t) = (px_C d 160 [vR 123, vI 6] (px_sh L, i, l, r, t)).bind (fun q => px_X (d + 1) 176 (px_psh (6, [vR 123], []) q.1) q.2) := ((xs_aldn k176_0 rfl).trans ((xs_bi k176_1 (by omega)).trans (xs_callvB k176_3 (as := [vI 6]) rfl rfl (Nat.le_of_ble_eq_true rfl) (Nat.le_of_ble_eq_true rfl) (Nat.le_of_ble_eq_true rfl) (px_s123 L) (Nat.le_of_ble_eq_true rfl))))
theorem b176_6 (hr : px_hr r) (d : Nat) (i l : MI) (xs0 : Int) : px_X (d + 1) 176 (6, [vR 123], [vI xs0]) (px_sh L, i, l, r, t) = if xs0 = 0 then (px_C d 160 [vR 123, vI 7] (px_sh L, i, l, r, t)).bind (fun q => px_X (d + 1) 176 (px_psh (15, [vR 123], []) q.1) q.2) else px_X (d + 1) 176 (18, [vR 123], []) (px_sh L, i, l, r, t) := ((xs_ine k176_6).trans (px_ite (fun c1 => ((xs_aldn k176_9 rfl).trans ((xs_bi k176_10 (by omega)).trans (xs_callvB k176_12 (as := [vI 7]) rfl rfl (Nat.le_of_ble_eq_true rfl) (Nat.le_of_ble_eq_true rfl) (Nat.le_of_ble_eq_true rfl) (px_s123 L) (Nat.le_of_ble_eq_true rfl))))) (fun c1 => rfl)))
theorem b176_15 (hr : px_hr r) (d : Nat) (i l : MI) (xs0 : Int) : px_X (d + 1) 176 (15, [vR 123], [vI xs0]) (px_sh L, i, l, r, t) = if xs0 = 0 then (px_C d 164 [vR 123] (px_sh L, i, l, r, t)).bind (fun q => px_X (d + 1) 176 (px_psh (52, [vR 123], []) q.1) q.2) else px_X (d + 1) 176 (18, [vR 123], []) (px_sh L, i, l, r, t) := ((xs_ieq k176_15).trans (px_ite (fun c1 => ((xs_aldn k176_48 rfl).trans (xs_callvB k176_49 (as := []) rfl rfl (Nat.le_of_ble_eq_true rfl) (Nat.le_of_ble_eq_true rfl) (Nat.le_of_ble_eq_true rfl) (px_s123 L) (Nat.le_of_ble_eq_true rfl)))) (fun c1 => rfl)))
theorem b176_18 (hr : px_hr r) (d : Nat) (i l : MI)  : px_X (d + 1) 176 (18, [vR 123], []) (px_sh L, i, l, r, t) = (px_C d 160 [vR 123, vI 6] (px_sh L, i, l, r, t)).bind (fun q => px_X (d + 1) 176 (px_psh (25, [vR 123], [vR 123]) q.1) q.2) := ((xs_aldn k176_18 rfl).trans ((xs_aldn k176_19 rfl).trans ((xs_bi k176_20 (by omega)).trans (xs_callvB k176_22 (as := [vI 6]) rfl rfl (Nat.le_of_ble_eq_true rfl) (Nat.le_of_ble_eq_true rfl) (Nat.le_of_ble_eq_true rfl) (px_s123 L) (Nat.le_of_ble_eq_true rfl)))))
theorem b176_25 (hr : px_hr r) (d : Nat) (i l : MI) (xs0 : Int) : px_X d 176 (25, [vR 123], [vI xs0, vR 123]) (px_sh L, i, l, r, t) = if xs0 = 0 then px_X d 176 (37, [vR 123], [vI 406, vR 123]) (px_sh L, i, l, r, t) else px_X d 176 (37, [vR 123], [vI 407, vR 123]) (px_sh L, i, l, r, t) := ((xs_ieq k176_25).trans (px_ite (fun c1 => (xs_si k176_34 (by omega))) (fun c1 => ((xs_si k176_28 (by omega)).trans (xs_goto k176_31)))))
theorem b176_37 (hr : px_hr r) (d : Nat) (i l : MI) (xs0 : Int) : px_X (d + 1) 176 (37, [vR 123], [vI xs0, vR 123]) (px_sh L, i, l, r, t) = (px_C d 168 [vR 123, vI xs0] (px_sh L, i, l, r, t)).bind (fun q => px_X (d + 1) 176 (px_psh (40, [vR 123], []) q.1) q.2) := (xs_callvB k176_37 (as := [vI xs0]) rfl rfl (Nat.le_of_ble_eq_true rfl) (Nat.le_of_ble_eq_true rfl) (Nat.le_of_ble_eq_true rfl) (px_s123 L) (Nat.le_of_ble_eq_true rfl))
theorem b176_40 (hr : px_hr r) (d : Nat) (i l : MI)  : px_X d 176 (40, [vR 123], []) (px_sh L, i, l, r, t) = some (none, (px_sh L, (px_up i 123 28 0), l, r, t)) := ((xs_aldn k176_40 rfl).trans ((xs_ic k176_41 (by omega)).trans ((xs_put0 k176_42 (Or.inl rfl) (px_s123 L) (Nat.le_of_ble_eq_true rfl)).trans ((xs_goto k176_45).trans (xs_rv k176_77 rfl)))))
theorem b176_52 (hr : px_hr r) (d : Nat) (i l : MI) (xs0 : Int) : px_X (d + 1) 176 (52, [vR 123], [vI xs0]) (px_sh L, i, l, r, t) = if xs0 = 2 then (px_C d 159 [vR 123, vI 59] (px_sh L, i, l, r, t)).bind (fun q => px_X (d + 1) 176 (px_psh (62, [vR 123], []) q.1) q.2) else px_X (d + 1) 176 (72, [vR 123], []) (px_sh L, i, l, r, t) := ((xs_ic k176_52 (by omega)).trans ((xs_jne k176_53).trans (px_ite (fun c1 => ((xs_aldn k176_56 rfl).trans ((xs_bi k176_57 (by omega)).trans (xs_callvB k176_59 (as := [vI 59]) rfl rfl (Nat.le_of_ble_eq_true rfl) (Nat.le_of_ble_eq_true rfl) (Nat.le_of_ble_eq_true rfl) (px_s123 L) (Nat.le_of_ble_eq_true rfl))))) (fun c1 => rfl))))
theorem b176_62 (hr : px_hr r) (d : Nat) (i l : MI) (xs0 : Int) : px_X (d + 1) 176 (62, [vR 123], [vI xs0]) (px_sh L, i, l, r, t) = if xs0 = 0 then px_X (d + 1) 176 (72, [vR 123], []) (px_sh L, i, l, r, t) else (px_C d 177 [vR 123] (px_sh L, i, l, r, t)).bind (fun q => px_X (d + 1) 176 (px_psh (69, [vR 123], []) q.1) q.2) := ((xs_ieq k176_62).trans (px_ite (fun c1 => rfl) (fun c1 => ((xs_aldn k176_65 rfl).trans (xs_callvB k176_66 (as := []) rfl rfl (Nat.le_of_ble_eq_true rfl) (Nat.le_of_ble_eq_true rfl) (Nat.le_of_ble_eq_true rfl) (px_s123 L) (Nat.le_of_ble_eq_true rfl))))))
theorem b176_69 (hr : px_hr r) (d : Nat) (i l : MI)  : px_X d 176 (69, [vR 123], []) (px_sh L, i, l, r, t) = some (none, (px_sh L, i, l, r, t)) := ((xs_goto k176_69).trans (xs_rv k176_77 rfl))
theorem b176_72 (hr : px_hr r) (d : Nat) (i l : MI)  : px_X (d + 1) 176 (72, [vR 123], []) (px_sh L, i, l, r, t) = (px_C d 161 [vR 123, vI 1] (px_sh L, i, l, r, t)).bind (fun q => px_X (d + 1) 176 (px_psh (77, [vR 123], []) q.1) q.2) := ((xs_aldn k176_72 rfl).trans ((xs_ic k176_73 (by omega)).trans (xs_callvB k176_74 (as := [vI 1]) rfl rfl (Nat.le_of_ble_eq_true rfl) (Nat.le_of_ble_eq_true rfl) (Nat.le_of_ble_eq_true rfl) (px_s123 L) (Nat.le_of_ble_eq_true rfl))))
theorem b176_77 (hr : px_hr r) (d : Nat) (i l : MI)  : px_X d 176 (77, [vR 123], []) (px_sh L, i, l, r, t) = some (none, (px_sh L, i, l, r, t)) := (xs_rv k176_77 rfl)
-- TideGuestsModel.clauseIsOver ('R123',)
theorem b177_0 (hr : px_hr r) (d : Nat) (i l : MI)  : px_X (d + 1) 177 (0, [vR 123], []) (px_sh L, i, l, r, t) = (px_C d 167 [vR 123, vI 1] (px_sh L, i, l, r, t)).bind (fun q => px_X (d + 1) 177 (px_psh (5, [vR 123], []) q.1) q.2) := ((xs_aldn k177_0 rfl).trans ((xs_ic k177_1 (by omega)).trans (xs_callvB k177_2 (as := [vI 1]) rfl rfl (Nat.le_of_ble_eq_true rfl) (Nat.le_of_ble_eq_true rfl) (Nat.le_of_ble_eq_true rfl) (px_s123 L) (Nat.le_of_ble_eq_true rfl))))
theorem b177_5 (hr : px_hr r) (d : Nat) (i l : MI)  : px_X (d + 1) 177 (5, [vR 123], []) (px_sh L, i, l, r, t) = (px_C d 162 [vR 123, vI 408, vI 0] (px_sh L, (px_up i 123 22 0), l, r, t)).bind (fun q => px_X (d + 1) 177 (px_psh (18, [vR 123], []) q.1) q.2) := ((xs_aldn k177_5 rfl).trans ((xs_ic k177_6 (by omega)).trans ((xs_put0 k177_7 (Or.inl rfl) (px_s123 L) (Nat.le_of_ble_eq_true rfl)).trans ((xs_aldn k177_10 rfl).trans ((xs_si k177_11 (by omega)).trans ((xs_ic k177_14 (by omega)).trans (xs_callvB k177_15 (as := [vI 408, vI 0]) rfl rfl (Nat.le_of_ble_eq_true rfl) (Nat.le_of_ble_eq_true rfl) (Nat.le_of_ble_eq_true rfl) (px_s123 L) (Nat.le_of_ble_eq_true rfl))))))))
theorem b177_18 (hr : px_hr r) (d : Nat) (i l : MI)  : px_X (d + 1) 177 (18, [vR 123], []) (px_sh L, i, l, r, t) = (px_C d 158 [vR 123] (px_sh L, (px_up i 123 29 (px_w32 ((i 123 29) + 1))), l, r, t)).bind (fun q => px_X (d + 1) 177 (px_psh (32, [vR 123], []) q.1) q.2) := ((xs_aldn k177_18 rfl).trans ((xs_dup k177_19 rfl).trans ((xs_get0 k177_20 (px_s123 L) (Nat.le_of_ble_eq_true rfl)).trans ((xs_ic k177_23 (by omega)).trans ((xs_iadd k177_24).trans ((xs_put0 k177_25 (Or.inl rfl) (px_s123 L) (Nat.le_of_ble_eq_true rfl)).trans ((xs_aldn k177_28 rfl).trans (xs_callvB k177_29 (as := []) rfl rfl (Nat.le_of_ble_eq_true rfl) (Nat.le_of_ble_eq_true rfl) (Nat.le_of_ble_eq_true rfl) (px_s123 L) (Nat.le_of_ble_eq_true rfl)))))))))
theorem b177_32 (hr : px_hr r) (d : Nat) (i l : MI)  : px_X d 177 (32, [vR 123], []) (px_sh L, i, l, r, t) = some (none, (px_sh L, (px_up i 123 28 4), l, r, t)) := ((xs_aldn k177_32 rfl).trans ((xs_ic k177_33 (by omega)).trans ((xs_put0 k177_34 (Or.inl rfl) (px_s123 L) (Nat.le_of_ble_eq_true rfl)).trans (xs_rv k177_37 rfl))))
-- TideGuestsModel.wasTold ('R123', 'I')
theorem b178_0 (hr : px_hr r) (d : Nat) (i l : MI) (x1 : Int) : px_X d 178 (0, [vR 123, vI x1, vJ, vJ], []) (px_sh L, i, l, r, t) = px_X d 178 (4, [vR 123, vI x1, vI 0, vI 0], []) (px_sh L, i, l, r, t) := ((xs_ic k178_0 (by omega)).trans ((xs_istn k178_1 (Nat.le_of_ble_eq_true rfl) (ls' := [vR 123, vI x1, vI 0, vJ]) rfl).trans ((xs_ic k178_2 (by omega)).trans (xs_istn k178_3 (Nat.le_of_ble_eq_true rfl) (ls' := [vR 123, vI x1, vI 0, vI 0]) rfl))))
theorem b178_4 (hr : px_hr r) (d : Nat) (i l : MI) (x1 : Int) (x2 : Int) (x3 : Int) (h1 : ((i 123 29) ≤ x3) → x2 = 0 ∨ x2 = 1) (h2 : (¬ ((i 123 29) ≤ x3)) → (x2 = 0) → 0 ≤ x3 ∧ x3 < 10) : px_X d 178 (4, [vR 123, vI x1, vI x2, vI x3], []) (px_sh L, i, l, r, t) = if (i 123 29) ≤ x3 then some (some (vI x2), (px_sh L, i, l, r, t)) else if x2 = 0 then if (i 136 x3) = x1 then px_X d 178 (4, [vR 123, vI x1, vI 1, vI (px_w32 (x3 + 1))], []) (px_sh L, i, l, r, t) else px_X d 178 (4, [vR 123, vI x1, vI 0, vI (px_w32 (x3 + 1))], []) (px_sh L, i, l, r, t) else px_X d 178 (4, [vR 123, vI x1, vI 1, vI (px_w32 (x3 + 1))], []) (px_sh L, i, l, r, t) := ((xs_ildn k178_4 rfl).trans ((xs_aldn k178_5 rfl).trans ((xs_get0 k178_6 (px_s123 L) (Nat.le_of_ble_eq_true rfl)).trans ((xs_jge k178_9).trans (px_ite (fun c1 => ((xs_ildn k178_38 rfl).trans (xs_rz k178_39 rfl (h1 c1)))) (fun c1 => ((xs_ildn k178_12 rfl).trans ((xs_ine k178_13).trans (px_ite (fun c2 => ((xs_aldn k178_16 rfl).trans ((xs_get4 k178_17 (px_s123 L) (Nat.le_of_ble_eq_true rfl) (px_r123_31 hr)).trans ((xs_ildn k178_20 rfl).trans ((xs_iald k178_21 (px_s136 L) (h2 c1 c2)).trans ((xs_ildn k178_22 rfl).trans ((xs_jne k178_23).trans (px_ite (fun c3 => ((xs_ic k178_26 (by omega)).trans ((xs_goto k178_27).trans ((xs_istn k178_31 (Nat.le_of_ble_eq_true rfl) (ls' := [vR 123, vI x1, vI 1, vI x3]) rfl).trans ((xs_iinc k178_32 rfl (by omega) (ls' := [vR 123, vI x1, vI 1, vI (px_w32 (x3 + 1))]) rfl).trans (xs_goto k178_35)))))) (fun c3 => ((xs_ic k178_30 (by omega)).trans ((xs_istn k178_31 (Nat.le_of_ble_eq_true rfl) (ls' := [vR 123, vI x1, vI 0, vI x3]) rfl).trans ((xs_iinc k178_32 rfl (by omega) (ls' := [vR 123, vI x1, vI 0, vI (px_w32 (x3 + 1))]) rfl).trans (xs_goto k178_35))))))))))))) (fun c2 => ((xs_ic k178_26 (by omega)).trans ((xs_goto k178_27).trans ((xs_istn k178_31 (Nat.le_of_ble_eq_true rfl) (ls' := [vR 123, vI x1, vI 1, vI x3]) rfl).trans ((xs_iinc k178_32 rfl (by omega) (ls' := [vR 123, vI x1, vI 1, vI (px_w32 (x3 + 1))]) rfl).trans (xs_goto k178_35)))))))))))))))
-- TideGuestsModel.clause ('R123',)
theorem b179_0 (hr : px_hr r) (d : Nat) (i l : MI)  : px_X (d + 1) 179 (0, [vR 123], []) (px_sh L, i, l, r, t) = if (i 123 17) = 1 then if (i 123 18) ≤ 5 then if 3 < (i 123 18) then px_X (d + 1) 179 (57, [vR 123], []) (px_sh L, (px_up i 123 30 (i 123 18)), l, r, t) else (px_C d 178 [vR 123, vI (i 123 18)] (px_sh L, (px_up i 123 30 (i 123 18)), l, r, t)).bind (fun q => px_X (d + 1) 179 (px_psh (46, [vR 123], []) q.1) q.2) else px_X (d + 1) 179 (16, [vR 123], []) (px_sh L, i, l, r, t) else px_X (d + 1) 179 (16, [vR 123], []) (px_sh L, i, l, r, t) := ((xs_aldn k179_0 rfl).trans ((xs_get0 k179_1 (px_s123 L) (Nat.le_of_ble_eq_true rfl)).trans ((xs_ic k179_4 (by omega)).trans ((xs_jne k179_5).trans (px_ite (fun c1 => ((xs_aldn k179_8 rfl).trans ((xs_get0 k179_9 (px_s123 L) (Nat.le_of_ble_eq_true rfl)).trans ((xs_ic k179_12 (by omega)).trans ((xs_jle k179_13).trans (px_ite (fun c2 => ((xs_aldn k179_22 rfl).trans ((xs_aldn k179_23 rfl).trans ((xs_get0 k179_24 (px_s123 L) (Nat.le_of_ble_eq_true rfl)).trans ((xs_put0 k179_27 (Or.inl rfl) (px_s123 L) (Nat.le_of_ble_eq_true rfl)).trans ((xs_aldn k179_30 rfl).trans ((xs_get0 k179_31 (px_s123 L) (Nat.le_of_ble_eq_true rfl)).trans ((xs_ic k179_34 (by omega)).trans ((xs_jgt k179_35).trans (px_ite (fun c3 => rfl) (fun c3 => ((xs_aldn k179_38 rfl).trans ((xs_aldn k179_39 rfl).trans ((xs_get0 k179_40 (px_s123 L) (Nat.le_of_ble_eq_true rfl)).trans (xs_callvB k179_43 (as := [vI (i 123 18)]) rfl rfl (Nat.le_of_ble_eq_true rfl) (Nat.le_of_ble_eq_true rfl) (Nat.le_of_ble_eq_true rfl) (px_s123 L) (Nat.le_of_ble_eq_true rfl)))))))))))))))) (fun c2 => rfl))))))) (fun c1 => rfl))))))
theorem b179_16 (hr : px_hr r) (d : Nat) (i l : MI)  : px_X (d + 1) 179 (16, [vR 123], []) (px_sh L, i, l, r, t) = (px_C d 161 [vR 123, vI 1] (px_sh L, i, l, r, t)).bind (fun q => px_X (d + 1) 179 (px_psh (21, [vR 123], []) q.1) q.2) := ((xs_aldn k179_16 rfl).trans ((xs_ic k179_17 (by omega)).trans (xs_callvB k179_18 (as := [vI 1]) rfl rfl (Nat.le_of_ble_eq_true rfl) (Nat.le_of_ble_eq_true rfl) (Nat.le_of_ble_eq_true rfl) (px_s123 L) (Nat.le_of_ble_eq_true rfl))))
theorem b179_21 (hr : px_hr r) (d : Nat) (i l : MI)  : px_X d 179 (21, [vR 123], []) (px_sh L, i, l, r, t) = some (none, (px_sh L, i, l, r, t)) := (xs_rv k179_21 rfl)
theorem b179_46 (hr : px_hr r) (d : Nat) (i l : MI) (xs0 : Int) : px_X (d + 1) 179 (46, [vR 123], [vI xs0]) (px_sh L, i, l, r, t) = if xs0 = 0 then px_X (d + 1) 179 (57, [vR 123], []) (px_sh L, i, l, r, t) else (px_C d 161 [vR 123, vI 4] (px_sh L, i, l, r, t)).bind (fun q => px_X (d + 1) 179 (px_psh (54, [vR 123], []) q.1) q.2) := ((xs_ieq k179_46).trans (px_ite (fun c1 => rfl) (fun c1 => ((xs_aldn k179_49 rfl).trans ((xs_ic k179_50 (by omega)).trans (xs_callvB k179_51 (as := [vI 4]) rfl rfl (Nat.le_of_ble_eq_true rfl) (Nat.le_of_ble_eq_true rfl) (Nat.le_of_ble_eq_true rfl) (px_s123 L) (Nat.le_of_ble_eq_true rfl)))))))
theorem b179_54 (hr : px_hr r) (d : Nat) (i l : MI)  : px_X d 179 (54, [vR 123], []) (px_sh L, i, l, r, t) = px_X d 179 (72, [vR 123], []) (px_sh L, i, l, r, t) := (xs_goto k179_54)
theorem b179_57 (hr : px_hr r) (d : Nat) (i l : MI)  : px_X (d + 1) 179 (57, [vR 123], []) (px_sh L, i, l, r, t) = if (i 123 29) = 10 then (px_C d 161 [vR 123, vI 6] (px_sh L, i, l, r, t)).bind (fun q => px_X (d + 1) 179 (px_psh (72, [vR 123], []) q.1) q.2) else px_X (d + 1) 179 (72, [vR 123], []) (px_sh L, i, l, r, t) := ((xs_aldn k179_57 rfl).trans ((xs_get0 k179_58 (px_s123 L) (Nat.le_of_ble_eq_true rfl)).trans ((xs_bi k179_61 (by omega)).trans ((xs_jne k179_63).trans (px_ite (fun c1 => ((xs_aldn k179_66 rfl).trans ((xs_bi k179_67 (by omega)).trans (xs_callvB k179_69 (as := [vI 6]) rfl rfl (Nat.le_of_ble_eq_true rfl) (Nat.le_of_ble_eq_true rfl) (Nat.le_of_ble_eq_true rfl) (px_s123 L) (Nat.le_of_ble_eq_true rfl))))) (fun c1 => rfl))))))
theorem b179_72 (hr : px_hr r) (d : Nat) (i l : MI)  (h1 : ((i 123 19) ≤ 0) → 0 ≤ (i 123 29) ∧ (i 123 29) < 10) : px_X (d + 1) 179 (72, [vR 123], []) (px_sh L, i, l, r, t) = if (i 123 19) ≤ 0 then (px_C d 158 [vR 123] (px_sh L, (px_up (px_up i 136 (i 123 29) (i 123 30)) 137 (i 123 29) (i 123 33)), l, r, t)).bind (fun q => px_X (d + 1) 179 (px_psh (110, [vR 123], []) q.1) q.2) else some (none, (px_sh L, i, l, r, t)) := ((xs_aldn k179_72 rfl).trans ((xs_get0 k179_73 (px_s123 L) (Nat.le_of_ble_eq_true rfl)).trans ((xs_ile k179_76).trans (px_ite (fun c1 => ((xs_aldn k179_80 rfl).trans ((xs_get4 k179_81 (px_s123 L) (Nat.le_of_ble_eq_true rfl) (px_r123_31 hr)).trans ((xs_aldn k179_84 rfl).trans ((xs_get0 k179_85 (px_s123 L) (Nat.le_of_ble_eq_true rfl)).trans ((xs_aldn k179_88 rfl).trans ((xs_get0 k179_89 (px_s123 L) (Nat.le_of_ble_eq_true rfl)).trans ((xs_iast k179_92 (px_s136 L) (h1 c1) (Nat.le_of_ble_eq_true rfl)).trans ((xs_aldn k179_93 rfl).trans ((xs_get4 k179_94 (px_s123 L) (Nat.le_of_ble_eq_true rfl) (px_r123_32 hr)).trans ((xs_aldn k179_97 rfl).trans ((xs_get0 k179_98 (px_s123 L) (Nat.le_of_ble_eq_true rfl)).trans ((xs_aldn k179_101 rfl).trans ((xs_get0 k179_102 (px_s123 L) (Nat.le_of_ble_eq_true rfl)).trans ((xs_iast k179_105 (px_s137 L) (h1 c1) (Nat.le_of_ble_eq_true rfl)).trans ((xs_aldn k179_106 rfl).trans (xs_callvB k179_107 (as := []) rfl rfl (Nat.le_of_ble_eq_true rfl) (Nat.le_of_ble_eq_true rfl) (Nat.le_of_ble_eq_true rfl) (px_s123 L) (Nat.le_of_ble_eq_true rfl)))))))))))))))))) (fun c1 => (xs_rv k179_79 rfl))))))
theorem b179_110 (hr : px_hr r) (d : Nat) (i l : MI)  : px_X d 179 (110, [vR 123], []) (px_sh L, i, l, r, t) = if (i 123 30) ≤ 3 then px_X d 179 (124, [vR 123], [vI 1, vR 123]) (px_sh L, i, l, r, t) else px_X d 179 (124, [vR 123], [vI 2, vR 123]) (px_sh L, i, l, r, t) := ((xs_aldn k179_110 rfl).trans ((xs_aldn k179_111 rfl).trans ((xs_get0 k179_112 (px_s123 L) (Nat.le_of_ble_eq_true rfl)).trans ((xs_ic k179_115 (by omega)).trans ((xs_jle k179_116).trans (px_ite (fun c1 => (xs_ic k179_123 (by omega))) (fun c1 => ((xs_ic k179_119 (by omega)).trans (xs_goto k179_120)))))))))
theorem b179_124 (hr : px_hr r) (d : Nat) (i l : MI) (xs0 : Int) : px_X (d + 1) 179 (124, [vR 123], [vI xs0, vR 123]) (px_sh L, i, l, r, t) = (px_C d 163 [vR 123, vI xs0] (px_sh L, i, l, r, t)).bind (fun q => px_X (d + 1) 179 (px_psh (127, [vR 123], []) q.1) q.2) := (xs_callvB k179_124 (as := [vI xs0]) rfl rfl (Nat.le_of_ble_eq_true rfl) (Nat.le_of_ble_eq_true rfl) (Nat.le_of_ble_eq_true rfl) (px_s123 L) (Nat.le_of_ble_eq_true rfl))
theorem b179_127 (hr : px_hr r) (d : Nat) (i l : MI)  : px_X d 179 (127, [vR 123], []) (px_sh L, i, l, r, t) = if (i 123 30) ≤ 3 then some (none, (px_sh L, (px_up i 123 28 1), l, r, t)) else some (none, (px_sh L, (px_up i 123 28 0), l, r, t)) := ((xs_aldn k179_127 rfl).trans ((xs_aldn k179_128 rfl).trans ((xs_get0 k179_129 (px_s123 L) (Nat.le_of_ble_eq_true rfl)).trans ((xs_ic k179_132 (by omega)).trans ((xs_jle k179_133).trans (px_ite (fun c1 => ((xs_ic k179_140 (by omega)).trans ((xs_put0 k179_141 (Or.inl rfl) (px_s123 L) (Nat.le_of_ble_eq_true rfl)).trans (xs_rv k179_144 rfl)))) (fun c1 => ((xs_ic k179_136 (by omega)).trans ((xs_goto k179_137).trans ((xs_put0 k179_141 (Or.inl rfl) (px_s123 L) (Nat.le_of_ble_eq_true rfl)).trans (xs_rv k179_144 rfl)))))))))))
-- TideGuestsModel.text ('R123',)
theorem b180_0 (hr : px_hr r) (d : Nat) (i l : MI)  : px_X (d + 1) 180 (0, [vR 123], []) (px_sh L, i, l, r, t) = if (i 124 5) = 6 then some (some (vI (-1)), (px_sh L, i, l, r, t)) else (px_C d 158 [vR 123] (px_sh L, (px_up (px_up (px_up (px_up (px_up (px_up (px_up (px_up (px_up (px_up (px_up i 123 14 (i 123 6)) 123 6 0) 123 15 0) 123 19 0) 123 20 (-1)) 123 21 0) 123 22 0) 123 25 0) 123 28 4) 123 29 0) 123 33 0), l, r, t)).bind (fun q => px_X (d + 1) 180 (px_psh (75, [vR 123], []) q.1) q.2) := ((xs_aldn k180_0 rfl).trans ((xs_get4 k180_1 (px_s123 L) (Nat.le_of_ble_eq_true rfl) (px_r123_3 hr)).trans ((xs_ic k180_4 (by omega)).trans ((xs_iald k180_5 (px_s124 L) (by omega)).trans ((xs_bi k180_6 (by omega)).trans ((xs_jne k180_8).trans (px_ite (fun c1 => ((xs_ic k180_11 (by omega)).trans (xs_ri k180_12 rfl))) (fun c1 => ((xs_aldn k180_13 rfl).trans ((xs_aldn k180_14 rfl).trans ((xs_get0 k180_15 (px_s123 L) (Nat.le_of_ble_eq_true rfl)).trans ((xs_put0 k180_18 (Or.inl rfl) (px_s123 L) (Nat.le_of_ble_eq_true rfl)).trans ((xs_aldn k180_21 rfl).trans ((xs_ic k180_22 (by omega)).trans ((xs_put0 k180_23 (Or.inl rfl) (px_s123 L) (Nat.le_of_ble_eq_true rfl)).trans ((xs_aldn k180_26 rfl).trans ((xs_ic k180_27 (by omega)).trans ((xs_put0 k180_28 (Or.inl rfl) (px_s123 L) (Nat.le_of_ble_eq_true rfl)).trans ((xs_aldn k180_31 rfl).trans ((xs_ic k180_32 (by omega)).trans ((xs_put0 k180_33 (Or.inl rfl) (px_s123 L) (Nat.le_of_ble_eq_true rfl)).trans ((xs_aldn k180_36 rfl).trans ((xs_ic k180_37 (by omega)).trans ((xs_put0 k180_38 (Or.inl rfl) (px_s123 L) (Nat.le_of_ble_eq_true rfl)).trans ((xs_aldn k180_41 rfl).trans ((xs_ic k180_42 (by omega)).trans ((xs_put0 k180_43 (Or.inl rfl) (px_s123 L) (Nat.le_of_ble_eq_true rfl)).trans ((xs_aldn k180_46 rfl).trans ((xs_ic k180_47 (by omega)).trans ((xs_put0 k180_48 (Or.inl rfl) (px_s123 L) (Nat.le_of_ble_eq_true rfl)).trans ((xs_aldn k180_51 rfl).trans ((xs_ic k180_52 (by omega)).trans ((xs_put0 k180_53 (Or.inl rfl) (px_s123 L) (Nat.le_of_ble_eq_true rfl)).trans ((xs_aldn k180_56 rfl).trans ((xs_ic k180_57 (by omega)).trans ((xs_put0 k180_58 (Or.inl rfl) (px_s123 L) (Nat.le_of_ble_eq_true rfl)).trans ((xs_aldn k180_61 rfl).trans ((xs_ic k180_62 (by omega)).trans ((xs_put0 k180_63 (Or.inl rfl) (px_s123 L) (Nat.le_of_ble_eq_true rfl)).trans ((xs_aldn k180_66 rfl).trans ((xs_ic k180_67 (by omega)).trans ((xs_put0 k180_68 (Or.inl rfl) (px_s123 L) (Nat.le_of_ble_eq_true rfl)).trans ((xs_aldn k180_71 rfl).trans (xs_callvB k180_72 (as := []) rfl rfl (Nat.le_of_ble_eq_true rfl) (Nat.le_of_ble_eq_true rfl) (Nat.le_of_ble_eq_true rfl) (px_s123 L) (Nat.le_of_ble_eq_true rfl)))))))))))))))))))))))))))))))))))))))))))))
theorem b180_75 (hr : px_hr r) (d : Nat) (i l : MI)  : px_X d 180 (75, [vR 123], []) (px_sh L, i, l, r, t) = if (i 123 19) = 0 then if (i 123 28) = 4 then if (i 123 17) = 0 then px_X d 180 (167, [vR 123], []) (px_sh L, i, l, r, t) else px_X d 180 (97, [vR 123], []) (px_sh L, i, l, r, t) else px_X d 180 (97, [vR 123], []) (px_sh L, i, l, r, t) else px_X d 180 (167, [vR 123], []) (px_sh L, i, l, r, t) := ((xs_aldn k180_75 rfl).trans ((xs_get0 k180_76 (px_s123 L) (Nat.le_of_ble_eq_true rfl)).trans ((xs_ine k180_79).trans (px_ite (fun c1 => ((xs_aldn k180_82 rfl).trans ((xs_get0 k180_83 (px_s123 L) (Nat.le_of_ble_eq_true rfl)).trans ((xs_ic k180_86 (by omega)).trans ((xs_jne k180_87).trans (px_ite (fun c2 => ((xs_aldn k180_90 rfl).trans ((xs_get0 k180_91 (px_s123 L) (Nat.le_of_ble_eq_true rfl)).trans ((xs_ieq k180_94).trans (px_ite (fun c3 => rfl) (fun c3 => rfl)))))) (fun c2 => rfl))))))) (fun c1 => rfl)))))
theorem b180_97 (hr : px_hr r) (d : Nat) (i l : MI)  : px_X (d + 1) 180 (97, [vR 123], []) (px_sh L, i, l, r, t) = if (i 123 28) = 0 then (px_C d 169 [vR 123] (px_sh L, i, l, r, t)).bind (fun q => px_X (d + 1) 180 (px_psh (136, [vR 123], []) q.1) q.2) else if (i 123 28) = 1 then (px_C d 171 [vR 123] (px_sh L, i, l, r, t)).bind (fun q => px_X (d + 1) 180 (px_psh (143, [vR 123], []) q.1) q.2) else if (i 123 28) = 2 then (px_C d 175 [vR 123] (px_sh L, i, l, r, t)).bind (fun q => px_X (d + 1) 180 (px_psh (150, [vR 123], []) q.1) q.2) else if (i 123 28) = 3 then (px_C d 176 [vR 123] (px_sh L, i, l, r, t)).bind (fun q => px_X (d + 1) 180 (px_psh (157, [vR 123], []) q.1) q.2) else (px_C d 179 [vR 123] (px_sh L, i, l, r, t)).bind (fun q => px_X (d + 1) 180 (px_psh (164, [vR 123], []) q.1) q.2) := ((xs_aldn k180_97 rfl).trans ((xs_get0 k180_98 (px_s123 L) (Nat.le_of_ble_eq_true rfl)).trans (px_swi (fun c1 => ((xs_tsw k180_101 (tg := 132) (by rw [c1]; omega) (by rw [c1]; rfl)).trans ((xs_aldn k180_132 rfl).trans (xs_callvB k180_133 (as := []) rfl rfl (Nat.le_of_ble_eq_true rfl) (Nat.le_of_ble_eq_true rfl) (Nat.le_of_ble_eq_true rfl) (px_s123 L) (Nat.le_of_ble_eq_true rfl))))) (fun c1 => (px_swi (fun c2 => ((xs_tsw k180_101 (tg := 139) (by rw [c2]; omega) (by rw [c2]; rfl)).trans ((xs_aldn k180_139 rfl).trans (xs_callvB k180_140 (as := []) rfl rfl (Nat.le_of_ble_eq_true rfl) (Nat.le_of_ble_eq_true rfl) (Nat.le_of_ble_eq_true rfl) (px_s123 L) (Nat.le_of_ble_eq_true rfl))))) (fun c2 => (px_swi (fun c3 => ((xs_tsw k180_101 (tg := 146) (by rw [c3]; omega) (by rw [c3]; rfl)).trans ((xs_aldn k180_146 rfl).trans (xs_callvB k180_147 (as := []) rfl rfl (Nat.le_of_ble_eq_true rfl) (Nat.le_of_ble_eq_true rfl) (Nat.le_of_ble_eq_true rfl) (px_s123 L) (Nat.le_of_ble_eq_true rfl))))) (fun c3 => (px_swi (fun c4 => ((xs_tsw k180_101 (tg := 153) (by rw [c4]; omega) (by rw [c4]; rfl)).trans ((xs_aldn k180_153 rfl).trans (xs_callvB k180_154 (as := []) rfl rfl (Nat.le_of_ble_eq_true rfl) (Nat.le_of_ble_eq_true rfl) (Nat.le_of_ble_eq_true rfl) (px_s123 L) (Nat.le_of_ble_eq_true rfl))))) (fun c4 => ((xs_tswd k180_101 (by omega)).trans ((xs_aldn k180_160 rfl).trans (xs_callvB k180_161 (as := []) rfl rfl (Nat.le_of_ble_eq_true rfl) (Nat.le_of_ble_eq_true rfl) (Nat.le_of_ble_eq_true rfl) (px_s123 L) (Nat.le_of_ble_eq_true rfl))))))))))))))
theorem b180_136 (hr : px_hr r) (d : Nat) (i l : MI)  : px_X d 180 (136, [vR 123], []) (px_sh L, i, l, r, t) = px_X d 180 (75, [vR 123], []) (px_sh L, i, l, r, t) := (xs_goto k180_136)
theorem b180_143 (hr : px_hr r) (d : Nat) (i l : MI)  : px_X d 180 (143, [vR 123], []) (px_sh L, i, l, r, t) = px_X d 180 (75, [vR 123], []) (px_sh L, i, l, r, t) := (xs_goto k180_143)
theorem b180_150 (hr : px_hr r) (d : Nat) (i l : MI)  : px_X d 180 (150, [vR 123], []) (px_sh L, i, l, r, t) = px_X d 180 (75, [vR 123], []) (px_sh L, i, l, r, t) := (xs_goto k180_150)
theorem b180_157 (hr : px_hr r) (d : Nat) (i l : MI)  : px_X d 180 (157, [vR 123], []) (px_sh L, i, l, r, t) = px_X d 180 (75, [vR 123], []) (px_sh L, i, l, r, t) := (xs_goto k180_157)
theorem b180_164 (hr : px_hr r) (d : Nat) (i l : MI)  : px_X d 180 (164, [vR 123], []) (px_sh L, i, l, r, t) = px_X d 180 (75, [vR 123], []) (px_sh L, i, l, r, t) := (xs_goto k180_164)
theorem b180_167 (hr : px_hr r) (d : Nat) (i l : MI)  : px_X (d + 1) 180 (167, [vR 123], []) (px_sh L, i, l, r, t) = if (i 123 19) ≤ 0 then (px_C d 181 [vR 123, vI (i 124 5)] (px_sh L, (px_up (px_up i 123 7 (i 123 19)) 123 8 (i 123 20)), l, r, t)).bind (fun q => px_X (d + 1) 180 (px_psh (202, [vR 123], []) q.1) q.2) else some (some (vI (-1)), (px_sh L, (px_up (px_up i 123 7 (i 123 19)) 123 8 (i 123 20)), l, r, t)) := ((xs_aldn k180_167 rfl).trans ((xs_aldn k180_168 rfl).trans ((xs_get0 k180_169 (px_s123 L) (Nat.le_of_ble_eq_true rfl)).trans ((xs_put0 k180_172 (Or.inl rfl) (px_s123 L) (Nat.le_of_ble_eq_true rfl)).trans ((xs_aldn k180_175 rfl).trans ((xs_aldn k180_176 rfl).trans ((xs_get0 k180_177 (px_s123 L) (Nat.le_of_ble_eq_true rfl)).trans ((xs_put0 k180_180 (Or.inl rfl) (px_s123 L) (Nat.le_of_ble_eq_true rfl)).trans ((xs_aldn k180_183 rfl).trans ((xs_get0 k180_184 (px_s123 L) (Nat.le_of_ble_eq_true rfl)).trans ((xs_ile k180_187).trans (px_ite (fun c1 => ((xs_aldn k180_192 rfl).trans ((xs_aldn k180_193 rfl).trans ((xs_get4 k180_194 (px_s123 L) (Nat.le_of_ble_eq_true rfl) (px_r123_3 hr)).trans ((xs_ic k180_197 (by omega)).trans ((xs_iald k180_198 (px_s124 L) (by omega)).trans (xs_callvB k180_199 (as := [vI (i 124 5)]) rfl rfl (Nat.le_of_ble_eq_true rfl) (Nat.le_of_ble_eq_true rfl) (Nat.le_of_ble_eq_true rfl) (px_s123 L) (Nat.le_of_ble_eq_true rfl)))))))) (fun c1 => ((xs_ic k180_190 (by omega)).trans (xs_ri k180_191 rfl)))))))))))))))
theorem b180_202 (hr : px_hr r) (d : Nat) (i l : MI)  : px_X d 180 (202, [vR 123], []) (px_sh L, i, l, r, t) = some (some (vI (px_w32 ((px_w32 ((i 124 5) + 1)) - 1))), (px_sh L, (px_up i 124 5 (px_w32 ((i 124 5) + 1))), l, r, t)) := ((xs_aldn k180_202 rfl).trans ((xs_get4 k180_203 (px_s123 L) (Nat.le_of_ble_eq_true rfl) (px_r123_3 hr)).trans ((xs_ic k180_206 (by omega)).trans ((xs_dup2 k180_207 ⟨rfl, rfl⟩).trans ((xs_iald k180_208 (px_s124 L) (by omega)).trans ((xs_ic k180_209 (by omega)).trans ((xs_iadd k180_210).trans ((xs_iast k180_211 (px_s124 L) (by omega) (Nat.le_of_ble_eq_true rfl)).trans ((xs_aldn k180_212 rfl).trans ((xs_get4 k180_213 (px_s123 L) (Nat.le_of_ble_eq_true rfl) (px_r123_3 hr)).trans ((xs_ic k180_216 (by omega)).trans ((xs_iald k180_217 (px_s124 L) (by omega)).trans ((xs_ic k180_218 (by omega)).trans ((xs_isub k180_219).trans (xs_ri k180_220 rfl)))))))))))))))
-- TideGuestsModel.keepsText ('R123', 'I')
theorem b181_0 (hr : px_hr r) (d : Nat) (i l : MI) (x1 : Int) (h1 : 0 ≤ x1 ∧ x1 < 6) : px_X d 181 (0, [vR 123, vI x1, vJ], []) (px_sh L, i, l, r, t) = px_X d 181 (12, [vR 123, vI x1, vI 0], []) (px_sh L, (px_up i 127 x1 (i 123 29)), l, r, t) := ((xs_aldn k181_0 rfl).trans ((xs_get4 k181_1 (px_s123 L) (Nat.le_of_ble_eq_true rfl) (px_r123_9 hr)).trans ((xs_ildn k181_4 rfl).trans ((xs_aldn k181_5 rfl).trans ((xs_get0 k181_6 (px_s123 L) (Nat.le_of_ble_eq_true rfl)).trans ((xs_iast k181_9 (px_s127 L) (h1) (Nat.le_of_ble_eq_true rfl)).trans ((xs_ic k181_10 (by omega)).trans (xs_istn k181_11 (Nat.le_of_ble_eq_true rfl) (ls' := [vR 123, vI x1, vI 0]) rfl))))))))
theorem b181_12 (hr : px_hr r) (d : Nat) (i l : MI) (x1 : Int) (x2 : Int) (h1 : (¬ ((i 123 29) ≤ x2)) → 0 ≤ x2 ∧ x2 < 10) (h2 : (¬ ((i 123 29) ≤ x2)) → 0 ≤ (px_w32 ((px_w32 (10 * x1)) + x2)) ∧ (px_w32 ((px_w32 (10 * x1)) + x2)) < 60) : px_X d 181 (12, [vR 123, vI x1, vI x2], []) (px_sh L, i, l, r, t) = if (i 123 29) ≤ x2 then px_X d 181 (68, [vR 123, vI x1, vI 0], []) (px_sh L, i, l, r, t) else px_X d 181 (12, [vR 123, vI x1, vI (px_w32 (x2 + 1))], []) (px_sh L, (px_up (px_up i 128 (px_w32 ((px_w32 (10 * x1)) + x2)) (i 136 x2)) 129 (px_w32 ((px_w32 (10 * x1)) + x2)) (px_w32 ((px_w32 (400 * x1)) + (i 137 x2)))), l, r, t) := ((xs_ildn k181_12 rfl).trans ((xs_aldn k181_13 rfl).trans ((xs_get0 k181_14 (px_s123 L) (Nat.le_of_ble_eq_true rfl)).trans ((xs_jge k181_17).trans (px_ite (fun c1 => ((xs_ic k181_66 (by omega)).trans (xs_istn k181_67 (Nat.le_of_ble_eq_true rfl) (ls' := [vR 123, vI x1, vI 0]) rfl))) (fun c1 => ((xs_aldn k181_20 rfl).trans ((xs_get4 k181_21 (px_s123 L) (Nat.le_of_ble_eq_true rfl) (px_r123_10 hr)).trans ((xs_bi k181_24 (by omega)).trans ((xs_ildn k181_26 rfl).trans ((xs_imul k181_27).trans ((xs_ildn k181_28 rfl).trans ((xs_iadd k181_29).trans ((xs_aldn k181_30 rfl).trans ((xs_get4 k181_31 (px_s123 L) (Nat.le_of_ble_eq_true rfl) (px_r123_31 hr)).trans ((xs_ildn k181_34 rfl).trans ((xs_iald k181_35 (px_s136 L) (h1 c1)).trans ((xs_iast k181_36 (px_s128 L) (h2 c1) (Nat.le_of_ble_eq_true rfl)).trans ((xs_aldn k181_37 rfl).trans ((xs_get4 k181_38 (px_s123 L) (Nat.le_of_ble_eq_true rfl) (px_r123_11 hr)).trans ((xs_bi k181_41 (by omega)).trans ((xs_ildn k181_43 rfl).trans ((xs_imul k181_44).trans ((xs_ildn k181_45 rfl).trans ((xs_iadd k181_46).trans ((xs_si k181_47 (by omega)).trans ((xs_ildn k181_50 rfl).trans ((xs_imul k181_51).trans ((xs_aldn k181_52 rfl).trans ((xs_get4 k181_53 (px_s123 L) (Nat.le_of_ble_eq_true rfl) (px_r123_32 hr)).trans ((xs_ildn k181_56 rfl).trans ((xs_iald k181_57 (px_s137 L) (h1 c1)).trans ((xs_iadd k181_58).trans ((xs_iast k181_59 (px_s129 L) (h2 c1) (Nat.le_of_ble_eq_true rfl)).trans ((xs_iinc k181_60 rfl (by omega) (ls' := [vR 123, vI x1, vI (px_w32 (x2 + 1))]) rfl).trans (xs_goto k181_63))))))))))))))))))))))))))))))))))))
theorem b181_68 (hr : px_hr r) (d : Nat) (i l : MI) (x1 : Int) (x2 : Int) (h1 : (¬ ((i 123 33) ≤ x2)) → 0 ≤ x2 ∧ x2 < 400) (h2 : (¬ ((i 123 33) ≤ x2)) → 0 ≤ (px_w32 ((px_w32 (400 * x1)) + x2)) ∧ (px_w32 ((px_w32 (400 * x1)) + x2)) < 2400) : px_X d 181 (68, [vR 123, vI x1, vI x2], []) (px_sh L, i, l, r, t) = if (i 123 33) ≤ x2 then some (none, (px_sh L, i, l, r, t)) else px_X d 181 (68, [vR 123, vI x1, vI (px_w32 (x2 + 1))], []) (px_sh L, (px_up (px_up i 130 (px_w32 ((px_w32 (400 * x1)) + x2)) (i 138 x2)) 131 (px_w32 ((px_w32 (400 * x1)) + x2)) (i 139 x2)), l, r, t) := ((xs_ildn k181_68 rfl).trans ((xs_aldn k181_69 rfl).trans ((xs_get0 k181_70 (px_s123 L) (Nat.le_of_ble_eq_true rfl)).trans ((xs_jge k181_73).trans (px_ite (fun c1 => (xs_rv k181_118 rfl)) (fun c1 => ((xs_aldn k181_76 rfl).trans ((xs_get4 k181_77 (px_s123 L) (Nat.le_of_ble_eq_true rfl) (px_r123_12 hr)).trans ((xs_si k181_80 (by omega)).trans ((xs_ildn k181_83 rfl).trans ((xs_imul k181_84).trans ((xs_ildn k181_85 rfl).trans ((xs_iadd k181_86).trans ((xs_aldn k181_87 rfl).trans ((xs_get4 k181_88 (px_s123 L) (Nat.le_of_ble_eq_true rfl) (px_r123_34 hr)).trans ((xs_ildn k181_91 rfl).trans ((xs_iald k181_92 (px_s138 L) (h1 c1)).trans ((xs_iast k181_93 (px_s130 L) (h2 c1) (Nat.le_of_ble_eq_true rfl)).trans ((xs_aldn k181_94 rfl).trans ((xs_get4 k181_95 (px_s123 L) (Nat.le_of_ble_eq_true rfl) (px_r123_13 hr)).trans ((xs_si k181_98 (by omega)).trans ((xs_ildn k181_101 rfl).trans ((xs_imul k181_102).trans ((xs_ildn k181_103 rfl).trans ((xs_iadd k181_104).trans ((xs_aldn k181_105 rfl).trans ((xs_get4 k181_106 (px_s123 L) (Nat.le_of_ble_eq_true rfl) (px_r123_35 hr)).trans ((xs_ildn k181_109 rfl).trans ((xs_iald k181_110 (px_s139 L) (h1 c1)).trans ((xs_iast k181_111 (px_s131 L) (h2 c1) (Nat.le_of_ble_eq_true rfl)).trans ((xs_iinc k181_112 rfl (by omega) (ls' := [vR 123, vI x1, vI (px_w32 (x2 + 1))]) rfl).trans (xs_goto k181_115))))))))))))))))))))))))))))))))
end PXL
