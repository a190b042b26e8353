/-! Block lemmas, by program (wip/whole/gen_blk.py). -/
theorem k1_0 : px_cod 1 0 = some ((.aload_n 0), 1, [], 0) := rfl
theorem k1_1 : px_cod 1 1 = some ((.getfield 21), 3, [177, 0, 4, 1], 0) := rfl
theorem k1_4 : px_cod 1 4 = some ((.getfield 57), 3, [72, 4, 4, 1], 0) := rfl
theorem k1_7 : px_cod 1 7 = some ((.iload_n 1), 1, [], 1) := rfl
theorem k1_8 : px_cod 1 8 = some ((.invokevirtual 77), 3, [0, 15, 37], 0) := rfl
theorem k1_11 : px_cod 1 11 = some ((.ifCond .eq 13), 3, [24], 0) := rfl
theorem k1_14 : px_cod 1 14 = some ((.iload_n 2), 1, [], 2) := rfl
theorem k1_15 : px_cod 1 15 = some ((.iconst 0), 1, [], 0) := rfl
theorem k1_16 : px_cod 1 16 = some ((.bipush 99), 2, [], 99) := rfl
theorem k1_18 : px_cod 1 18 = some ((.invokestatic 83), 3, [0, 16, 30], 0) := rfl
theorem k1_21 : px_cod 1 21 = some ((.ifCond .ne 5), 3, [26], 0) := rfl
theorem k1_24 : px_cod 1 24 = some ((.iconst 0), 1, [], 0) := rfl
theorem k1_25 : px_cod 1 25 = some (.ireturn, 1, [], 0) := rfl
theorem k1_26 : px_cod 1 26 = some ((.aload_n 0), 1, [], 0) := rfl
theorem k1_27 : px_cod 1 27 = some ((.getfield 21), 3, [177, 0, 4, 1], 0) := rfl
theorem k1_30 : px_cod 1 30 = some ((.getfield 57), 3, [72, 4, 4, 1], 0) := rfl
theorem k1_33 : px_cod 1 33 = some ((.iload_n 1), 1, [], 1) := rfl
theorem k1_34 : px_cod 1 34 = some ((.iload_n 2), 1, [], 2) := rfl
theorem k1_35 : px_cod 1 35 = some ((.iload_n 3), 1, [], 3) := rfl
theorem k1_36 : px_cod 1 36 = some ((.invokevirtual 87), 3, [0, 17, 40], 0) := rfl
theorem k1_39 : px_cod 1 39 = some ((.iconst 1), 1, [], 1) := rfl
theorem k1_40 : px_cod 1 40 = some (.ireturn, 1, [], 0) := rfl
theorem k2_0 : px_cod 2 0 = some ((.aload_n 0), 1, [], 0) := rfl
theorem k2_1 : px_cod 2 1 = some ((.getfield 21), 3, [177, 0, 4, 1], 0) := rfl
theorem k2_4 : px_cod 2 4 = some ((.getfield 57), 3, [72, 4, 4, 1], 0) := rfl
theorem k2_7 : px_cod 2 7 = some ((.iload_n 1), 1, [], 1) := rfl
theorem k2_8 : px_cod 2 8 = some ((.invokevirtual 77), 3, [0, 15, 37], 0) := rfl
theorem k2_11 : px_cod 2 11 = some ((.ifCond .ne 5), 3, [16], 0) := rfl
theorem k2_14 : px_cod 2 14 = some ((.iconst 0), 1, [], 0) := rfl
theorem k2_15 : px_cod 2 15 = some (.ireturn, 1, [], 0) := rfl
theorem k2_16 : px_cod 2 16 = some ((.aload_n 0), 1, [], 0) := rfl
theorem k2_17 : px_cod 2 17 = some ((.getfield 21), 3, [177, 0, 4, 1], 0) := rfl
theorem k2_20 : px_cod 2 20 = some ((.getfield 57), 3, [72, 4, 4, 1], 0) := rfl
theorem k2_23 : px_cod 2 23 = some ((.iload_n 1), 1, [], 1) := rfl
theorem k2_24 : px_cod 2 24 = some ((.putfield 91), 3, [44, 1, 0, 0], 8) := rfl
theorem k2_27 : px_cod 2 27 = some ((.iconst 1), 1, [], 1) := rfl
theorem k2_28 : px_cod 2 28 = some (.ireturn, 1, [], 0) := rfl
theorem k3_0 : px_cod 3 0 = some ((.iload_n 1), 1, [], 1) := rfl
theorem k3_1 : px_cod 3 1 = some ((.bipush (-9)), 2, [], (-9)) := rfl
theorem k3_3 : px_cod 3 3 = some ((.bipush 9), 2, [], 9) := rfl
theorem k3_5 : px_cod 3 5 = some ((.invokestatic 83), 3, [0, 16, 30], 0) := rfl
theorem k3_8 : px_cod 3 8 = some ((.ifCond .eq 13), 3, [21], 0) := rfl
theorem k3_11 : px_cod 3 11 = some ((.iload_n 2), 1, [], 2) := rfl
theorem k3_12 : px_cod 3 12 = some ((.iconst 0), 1, [], 0) := rfl
theorem k3_13 : px_cod 3 13 = some ((.bipush 9), 2, [], 9) := rfl
theorem k3_15 : px_cod 3 15 = some ((.invokestatic 83), 3, [0, 16, 30], 0) := rfl
theorem k3_18 : px_cod 3 18 = some ((.ifCond .ne 5), 3, [23], 0) := rfl
theorem k3_21 : px_cod 3 21 = some ((.iconst 0), 1, [], 0) := rfl
theorem k3_22 : px_cod 3 22 = some (.ireturn, 1, [], 0) := rfl
theorem k3_23 : px_cod 3 23 = some ((.aload_n 0), 1, [], 0) := rfl
theorem k3_24 : px_cod 3 24 = some ((.getfield 21), 3, [177, 0, 4, 1], 0) := rfl
theorem k3_27 : px_cod 3 27 = some ((.iload_n 1), 1, [], 1) := rfl
theorem k3_28 : px_cod 3 28 = some ((.putfield 95), 3, [82, 4, 0, 0], 3) := rfl
theorem k3_31 : px_cod 3 31 = some ((.aload_n 0), 1, [], 0) := rfl
theorem k3_32 : px_cod 3 32 = some ((.getfield 21), 3, [177, 0, 4, 1], 0) := rfl
theorem k3_35 : px_cod 3 35 = some ((.iload_n 2), 1, [], 2) := rfl
theorem k3_36 : px_cod 3 36 = some ((.putfield 98), 3, [85, 4, 0, 0], 4) := rfl
theorem k3_39 : px_cod 3 39 = some ((.aload_n 0), 1, [], 0) := rfl
theorem k3_40 : px_cod 3 40 = some ((.getfield 42), 3, [180, 0, 4, 1], 3) := rfl
theorem k3_43 : px_cod 3 43 = some ((.invokevirtual 101), 3, [0, 21, 63], 0) := rfl
theorem k3_46 : px_cod 3 46 = some ((.iconst 1), 1, [], 1) := rfl
theorem k3_47 : px_cod 3 47 = some (.ireturn, 1, [], 0) := rfl
theorem k4_0 : px_cod 4 0 = some ((.iload_n 1), 1, [], 1) := rfl
theorem k4_1 : px_cod 4 1 = some ((.iconst 0), 1, [], 0) := rfl
theorem k4_2 : px_cod 4 2 = some ((.bipush 99), 2, [], 99) := rfl
theorem k4_4 : px_cod 4 4 = some ((.invokestatic 83), 3, [0, 16, 30], 0) := rfl
theorem k4_7 : px_cod 4 7 = some ((.ifCond .eq 24), 3, [31], 0) := rfl
theorem k4_10 : px_cod 4 10 = some ((.iload_n 2), 1, [], 2) := rfl
theorem k4_11 : px_cod 4 11 = some ((.iconst 1), 1, [], 1) := rfl
theorem k4_12 : px_cod 4 12 = some ((.iconst 4), 1, [], 4) := rfl
theorem k4_13 : px_cod 4 13 = some ((.invokestatic 83), 3, [0, 16, 30], 0) := rfl
theorem k4_16 : px_cod 4 16 = some ((.ifCond .eq 15), 3, [31], 0) := rfl
theorem k4_19 : px_cod 4 19 = some ((.aload_n 0), 1, [], 0) := rfl
theorem k4_20 : px_cod 4 20 = some ((.getfield 21), 3, [177, 0, 4, 1], 0) := rfl
theorem k4_23 : px_cod 4 23 = some ((.getfield 104), 3, [90, 4, 0, 0], 5) := rfl
theorem k4_26 : px_cod 4 26 = some ((.bipush 8), 2, [], 8) := rfl
theorem k4_28 : px_cod 4 28 = some ((.if_icmp .lt 5), 3, [33], 0) := rfl
theorem k4_31 : px_cod 4 31 = some ((.iconst (-1)), 1, [], (-1)) := rfl
theorem k4_32 : px_cod 4 32 = some (.ireturn, 1, [], 0) := rfl
theorem k4_33 : px_cod 4 33 = some ((.aload_n 0), 1, [], 0) := rfl
theorem k4_34 : px_cod 4 34 = some ((.getfield 21), 3, [177, 0, 4, 1], 0) := rfl
theorem k4_37 : px_cod 4 37 = some ((.iload_n 1), 1, [], 1) := rfl
theorem k4_38 : px_cod 4 38 = some ((.iload_n 2), 1, [], 2) := rfl
theorem k4_39 : px_cod 4 39 = some ((.invokevirtual 107), 3, [0, 23, 55], 0) := rfl
theorem k4_42 : px_cod 4 42 = some (.ireturn, 1, [], 0) := rfl
theorem k5_0 : px_cod 5 0 = some ((.iload_n 1), 1, [], 1) := rfl
theorem k5_1 : px_cod 5 1 = some ((.iconst 0), 1, [], 0) := rfl
theorem k5_2 : px_cod 5 2 = some ((.bipush 9), 2, [], 9) := rfl
theorem k5_4 : px_cod 5 4 = some ((.invokestatic 83), 3, [0, 16, 30], 0) := rfl
theorem k5_7 : px_cod 5 7 = some ((.ifCond .eq 61), 3, [68], 0) := rfl
theorem k5_10 : px_cod 5 10 = some ((.iload_n 2), 1, [], 2) := rfl
theorem k5_11 : px_cod 5 11 = some ((.iconst 0), 1, [], 0) := rfl
theorem k5_12 : px_cod 5 12 = some ((.bipush 30), 2, [], 30) := rfl
theorem k5_14 : px_cod 5 14 = some ((.invokestatic 83), 3, [0, 16, 30], 0) := rfl
theorem k5_17 : px_cod 5 17 = some ((.ifCond .eq 51), 3, [68], 0) := rfl
theorem k5_20 : px_cod 5 20 = some ((.iload 4), 2, [], 4) := rfl
theorem k5_22 : px_cod 5 22 = some ((.iconst 0), 1, [], 0) := rfl
theorem k5_23 : px_cod 5 23 = some ((.bipush 9), 2, [], 9) := rfl
theorem k5_25 : px_cod 5 25 = some ((.invokestatic 83), 3, [0, 16, 30], 0) := rfl
theorem k5_28 : px_cod 5 28 = some ((.ifCond .eq 40), 3, [68], 0) := rfl
theorem k5_31 : px_cod 5 31 = some ((.iload 5), 2, [], 5) := rfl
theorem k5_33 : px_cod 5 33 = some ((.iconst 0), 1, [], 0) := rfl
theorem k5_34 : px_cod 5 34 = some ((.bipush 9), 2, [], 9) := rfl
theorem k5_36 : px_cod 5 36 = some ((.invokestatic 83), 3, [0, 16, 30], 0) := rfl
theorem k5_39 : px_cod 5 39 = some ((.ifCond .eq 29), 3, [68], 0) := rfl
theorem k5_42 : px_cod 5 42 = some ((.iload 6), 2, [], 6) := rfl
theorem k5_44 : px_cod 5 44 = some ((.iconst 1), 1, [], 1) := rfl
theorem k5_45 : px_cod 5 45 = some ((.bipush 20), 2, [], 20) := rfl
theorem k5_47 : px_cod 5 47 = some ((.invokestatic 83), 3, [0, 16, 30], 0) := rfl
theorem k5_50 : px_cod 5 50 = some ((.ifCond .eq 18), 3, [68], 0) := rfl
theorem k5_53 : px_cod 5 53 = some ((.iload 7), 2, [], 7) := rfl
theorem k5_55 : px_cod 5 55 = some ((.iconst 0), 1, [], 0) := rfl
theorem k5_56 : px_cod 5 56 = some ((.bipush 30), 2, [], 30) := rfl
theorem k5_58 : px_cod 5 58 = some ((.invokestatic 83), 3, [0, 16, 30], 0) := rfl
theorem k5_61 : px_cod 5 61 = some ((.ifCond .eq 7), 3, [68], 0) := rfl
theorem k5_64 : px_cod 5 64 = some ((.iconst 1), 1, [], 1) := rfl
theorem k5_65 : px_cod 5 65 = some ((.goto 4), 3, [69], 0) := rfl
theorem k5_68 : px_cod 5 68 = some ((.iconst 0), 1, [], 0) := rfl
theorem k5_69 : px_cod 5 69 = some ((.istore 8), 2, [], 8) := rfl
theorem k5_71 : px_cod 5 71 = some ((.aload_n 0), 1, [], 0) := rfl
theorem k5_72 : px_cod 5 72 = some ((.getfield 21), 3, [177, 0, 4, 1], 0) := rfl
theorem k5_75 : px_cod 5 75 = some ((.invokevirtual 110), 3, [0, 26, 53], 0) := rfl
theorem k5_78 : px_cod 5 78 = some ((.astore 9), 2, [], 9) := rfl
theorem k5_80 : px_cod 5 80 = some ((.iload 8), 2, [], 8) := rfl
theorem k5_82 : px_cod 5 82 = some ((.ifCond .eq 8), 3, [90], 0) := rfl
theorem k5_85 : px_cod 5 85 = some ((.aload 9), 2, [], 9) := rfl
theorem k5_87 : px_cod 5 87 = some ((.ifnonnull 5), 3, [92], 0) := rfl
theorem k5_90 : px_cod 5 90 = some ((.iconst (-1)), 1, [], (-1)) := rfl
theorem k5_91 : px_cod 5 91 = some (.ireturn, 1, [], 0) := rfl
theorem k5_92 : px_cod 5 92 = some ((.aload 9), 2, [], 9) := rfl
theorem k5_94 : px_cod 5 94 = some ((.iload_n 1), 1, [], 1) := rfl
theorem k5_95 : px_cod 5 95 = some ((.iload_n 2), 1, [], 2) := rfl
theorem k5_96 : px_cod 5 96 = some ((.iload_n 3), 1, [], 3) := rfl
theorem k5_97 : px_cod 5 97 = some ((.iload 4), 2, [], 4) := rfl
theorem k5_99 : px_cod 5 99 = some ((.iload 5), 2, [], 5) := rfl
theorem k5_101 : px_cod 5 101 = some ((.iload 6), 2, [], 6) := rfl
theorem k5_103 : px_cod 5 103 = some ((.iload 7), 2, [], 7) := rfl
theorem k5_105 : px_cod 5 105 = some ((.invokevirtual 114), 3, [0, 27, 49], 0) := rfl
theorem k5_108 : px_cod 5 108 = some ((.aload_n 0), 1, [], 0) := rfl
theorem k5_109 : px_cod 5 109 = some ((.getfield 21), 3, [177, 0, 4, 1], 0) := rfl
theorem k5_112 : px_cod 5 112 = some ((.invokevirtual 119), 3, [0, 28, 54], 0) := rfl
theorem k5_115 : px_cod 5 115 = some (.ireturn, 1, [], 0) := rfl
theorem k6_0 : px_cod 6 0 = some ((.aload_n 0), 1, [], 0) := rfl
theorem k6_1 : px_cod 6 1 = some ((.getfield 21), 3, [177, 0, 4, 1], 0) := rfl
theorem k6_4 : px_cod 6 4 = some ((.iload_n 1), 1, [], 1) := rfl
theorem k6_5 : px_cod 6 5 = some ((.invokevirtual 123), 3, [0, 32, 52], 0) := rfl
theorem k6_8 : px_cod 6 8 = some ((.astore 4), 2, [], 4) := rfl
theorem k6_10 : px_cod 6 10 = some ((.aload 4), 2, [], 4) := rfl
theorem k6_12 : px_cod 6 12 = some ((.ifnull 13), 3, [25], 0) := rfl
theorem k6_15 : px_cod 6 15 = some ((.iload_n 2), 1, [], 2) := rfl
theorem k6_16 : px_cod 6 16 = some ((.iconst 0), 1, [], 0) := rfl
theorem k6_17 : px_cod 6 17 = some ((.bipush 99), 2, [], 99) := rfl
theorem k6_19 : px_cod 6 19 = some ((.invokestatic 83), 3, [0, 16, 30], 0) := rfl
theorem k6_22 : px_cod 6 22 = some ((.ifCond .ne 5), 3, [27], 0) := rfl
theorem k6_25 : px_cod 6 25 = some ((.iconst 0), 1, [], 0) := rfl
theorem k6_26 : px_cod 6 26 = some (.ireturn, 1, [], 0) := rfl
theorem k6_27 : px_cod 6 27 = some ((.aload 4), 2, [], 4) := rfl
theorem k6_29 : px_cod 6 29 = some ((.iload_n 2), 1, [], 2) := rfl
theorem k6_30 : px_cod 6 30 = some ((.putfield 127), 3, [66, 3, 0, 0], 7) := rfl
theorem k6_33 : px_cod 6 33 = some ((.aload 4), 2, [], 4) := rfl
theorem k6_35 : px_cod 6 35 = some ((.iload_n 3), 1, [], 3) := rfl
theorem k6_36 : px_cod 6 36 = some ((.putfield 130), 3, [71, 3, 1, 0], 8) := rfl
theorem k6_39 : px_cod 6 39 = some ((.iconst 1), 1, [], 1) := rfl
theorem k6_40 : px_cod 6 40 = some (.ireturn, 1, [], 0) := rfl
theorem k7_0 : px_cod 7 0 = some ((.aload_n 0), 1, [], 0) := rfl
theorem k7_1 : px_cod 7 1 = some ((.getfield 33), 3, [179, 0, 4, 1], 2) := rfl
theorem k7_4 : px_cod 7 4 = some ((.bipush 20), 2, [], 20) := rfl
theorem k7_6 : px_cod 7 6 = some ((.invokevirtual 134), 3, [0, 34, 90], 0) := rfl
theorem k7_9 : px_cod 7 9 = some ((.ifCond .ne 5), 3, [14], 0) := rfl
theorem k7_12 : px_cod 7 12 = some ((.iconst (-1)), 1, [], (-1)) := rfl
theorem k7_13 : px_cod 7 13 = some (.ireturn, 1, [], 0) := rfl
theorem k7_14 : px_cod 7 14 = some ((.aload_n 0), 1, [], 0) := rfl
theorem k7_15 : px_cod 7 15 = some ((.getfield 33), 3, [179, 0, 4, 1], 2) := rfl
theorem k7_18 : px_cod 7 18 = some ((.iload_n 1), 1, [], 1) := rfl
theorem k7_19 : px_cod 7 19 = some ((.invokevirtual 137), 3, [0, 35, 91], 0) := rfl
theorem k7_22 : px_cod 7 22 = some ((.aload_n 0), 1, [], 0) := rfl
theorem k7_23 : px_cod 7 23 = some ((.getfield 33), 3, [179, 0, 4, 1], 2) := rfl
theorem k7_26 : px_cod 7 26 = some ((.iload_n 2), 1, [], 2) := rfl
theorem k7_27 : px_cod 7 27 = some ((.invokevirtual 137), 3, [0, 35, 91], 0) := rfl
theorem k7_30 : px_cod 7 30 = some ((.aload_n 0), 1, [], 0) := rfl
theorem k7_31 : px_cod 7 31 = some ((.getfield 33), 3, [179, 0, 4, 1], 2) := rfl
theorem k7_34 : px_cod 7 34 = some ((.iload_n 3), 1, [], 3) := rfl
theorem k7_35 : px_cod 7 35 = some ((.invokevirtual 137), 3, [0, 35, 91], 0) := rfl
theorem k7_38 : px_cod 7 38 = some ((.aload_n 0), 1, [], 0) := rfl
theorem k7_39 : px_cod 7 39 = some ((.getfield 33), 3, [179, 0, 4, 1], 2) := rfl
theorem k7_42 : px_cod 7 42 = some ((.iload 4), 2, [], 4) := rfl
theorem k7_44 : px_cod 7 44 = some ((.invokevirtual 137), 3, [0, 35, 91], 0) := rfl
theorem k7_47 : px_cod 7 47 = some ((.aload_n 0), 1, [], 0) := rfl
theorem k7_48 : px_cod 7 48 = some ((.getfield 33), 3, [179, 0, 4, 1], 2) := rfl
theorem k7_51 : px_cod 7 51 = some ((.iload 5), 2, [], 5) := rfl
theorem k7_53 : px_cod 7 53 = some ((.invokevirtual 137), 3, [0, 35, 91], 0) := rfl
theorem k7_56 : px_cod 7 56 = some ((.aload_n 0), 1, [], 0) := rfl
theorem k7_57 : px_cod 7 57 = some ((.getfield 33), 3, [179, 0, 4, 1], 2) := rfl
theorem k7_60 : px_cod 7 60 = some ((.getfield 141), 3, [129, 8, 0, 0], 1) := rfl
theorem k7_63 : px_cod 7 63 = some (.ireturn, 1, [], 0) := rfl
theorem k8_0 : px_cod 8 0 = some ((.iload_n 1), 1, [], 1) := rfl
theorem k8_1 : px_cod 8 1 = some ((.iconst 0), 1, [], 0) := rfl
theorem k8_2 : px_cod 8 2 = some ((.aload_n 0), 1, [], 0) := rfl
theorem k8_3 : px_cod 8 3 = some ((.getfield 33), 3, [179, 0, 4, 1], 2) := rfl
theorem k8_6 : px_cod 8 6 = some ((.getfield 141), 3, [129, 8, 0, 0], 1) := rfl
theorem k8_9 : px_cod 8 9 = some ((.invokestatic 83), 3, [0, 16, 30], 0) := rfl
theorem k8_12 : px_cod 8 12 = some ((.ifCond .ne 5), 3, [17], 0) := rfl
theorem k8_15 : px_cod 8 15 = some ((.iconst (-1)), 1, [], (-1)) := rfl
theorem k8_16 : px_cod 8 16 = some (.ireturn, 1, [], 0) := rfl
theorem k8_17 : px_cod 8 17 = some ((.aload_n 0), 1, [], 0) := rfl
theorem k8_18 : px_cod 8 18 = some ((.getfield 33), 3, [179, 0, 4, 1], 2) := rfl
theorem k8_21 : px_cod 8 21 = some ((.iload_n 1), 1, [], 1) := rfl
theorem k8_22 : px_cod 8 22 = some ((.putfield 141), 3, [129, 8, 0, 0], 1) := rfl
theorem k8_25 : px_cod 8 25 = some ((.iload_n 1), 1, [], 1) := rfl
theorem k8_26 : px_cod 8 26 = some (.ireturn, 1, [], 0) := rfl
theorem k9_0 : px_cod 9 0 = some ((.aload_n 0), 1, [], 0) := rfl
theorem k9_1 : px_cod 9 1 = some ((.getfield 42), 3, [180, 0, 4, 1], 3) := rfl
theorem k9_4 : px_cod 9 4 = some ((.aload_n 0), 1, [], 0) := rfl
theorem k9_5 : px_cod 9 5 = some ((.getfield 21), 3, [177, 0, 4, 1], 0) := rfl
theorem k9_8 : px_cod 9 8 = some ((.getfield 144), 3, [96, 4, 0, 0], 7) := rfl
theorem k9_11 : px_cod 9 11 = some ((.invokevirtual 147), 3, [0, 39, 64], 0) := rfl
theorem k9_14 : px_cod 9 14 = some ((.astore_n 1), 1, [], 1) := rfl
theorem k9_15 : px_cod 9 15 = some ((.aload_n 1), 1, [], 1) := rfl
theorem k9_16 : px_cod 9 16 = some ((.ifnonnull 5), 3, [21], 0) := rfl
theorem k9_19 : px_cod 9 19 = some ((.iconst (-1)), 1, [], (-1)) := rfl
theorem k9_20 : px_cod 9 20 = some (.ireturn, 1, [], 0) := rfl
theorem k9_21 : px_cod 9 21 = some ((.aload_n 0), 1, [], 0) := rfl
theorem k9_22 : px_cod 9 22 = some ((.getfield 33), 3, [179, 0, 4, 1], 2) := rfl
theorem k9_25 : px_cod 9 25 = some ((.invokevirtual 151), 3, [0, 40, 92], 0) := rfl
theorem k9_28 : px_cod 9 28 = some ((.aload_n 0), 1, [], 0) := rfl
theorem k9_29 : px_cod 9 29 = some ((.getfield 33), 3, [179, 0, 4, 1], 2) := rfl
theorem k9_32 : px_cod 9 32 = some ((.getfield 154), 3, [133, 8, 0, 0], 3) := rfl
theorem k9_35 : px_cod 9 35 = some ((.ifCond .eq 5), 3, [40], 0) := rfl
theorem k9_38 : px_cod 9 38 = some ((.iconst (-1)), 1, [], (-1)) := rfl
theorem k9_39 : px_cod 9 39 = some (.ireturn, 1, [], 0) := rfl
theorem k9_40 : px_cod 9 40 = some ((.aload_n 1), 1, [], 1) := rfl
theorem k9_41 : px_cod 9 41 = some ((.aload_n 0), 1, [], 0) := rfl
theorem k9_42 : px_cod 9 42 = some ((.getfield 33), 3, [179, 0, 4, 1], 2) := rfl
theorem k9_45 : px_cod 9 45 = some ((.getfield 157), 3, [127, 8, 4, 1], 0) := rfl
theorem k9_48 : px_cod 9 48 = some ((.invokevirtual 161), 3, [0, 63, 139], 0) := rfl
theorem k9_51 : px_cod 9 51 = some ((.aload_n 0), 1, [], 0) := rfl
theorem k9_52 : px_cod 9 52 = some ((.getfield 21), 3, [177, 0, 4, 1], 0) := rfl
theorem k9_55 : px_cod 9 55 = some (.dup, 1, [], 0) := rfl
theorem k9_56 : px_cod 9 56 = some ((.getfield 144), 3, [96, 4, 0, 0], 7) := rfl
theorem k9_59 : px_cod 9 59 = some ((.iconst 1), 1, [], 1) := rfl
theorem k9_60 : px_cod 9 60 = some (.iadd, 1, [], 0) := rfl
theorem k9_61 : px_cod 9 61 = some ((.putfield 144), 3, [96, 4, 0, 0], 7) := rfl
theorem k9_64 : px_cod 9 64 = some ((.aload_n 0), 1, [], 0) := rfl
theorem k9_65 : px_cod 9 65 = some ((.getfield 21), 3, [177, 0, 4, 1], 0) := rfl
theorem k9_68 : px_cod 9 68 = some ((.getfield 144), 3, [96, 4, 0, 0], 7) := rfl
theorem k9_71 : px_cod 9 71 = some ((.iconst 1), 1, [], 1) := rfl
theorem k9_72 : px_cod 9 72 = some (.isub, 1, [], 0) := rfl
theorem k9_73 : px_cod 9 73 = some (.ireturn, 1, [], 0) := rfl
theorem k10_0 : px_cod 10 0 = some ((.aload_n 0), 1, [], 0) := rfl
theorem k10_1 : px_cod 10 1 = some ((.getfield 33), 3, [179, 0, 4, 1], 2) := rfl
theorem k10_4 : px_cod 10 4 = some ((.getfield 167), 3, [131, 8, 1, 0], 2) := rfl
theorem k10_7 : px_cod 10 7 = some ((.ifCond .eq 12), 3, [19], 0) := rfl
theorem k10_10 : px_cod 10 10 = some ((.iload_n 1), 1, [], 1) := rfl
theorem k10_11 : px_cod 10 11 = some ((.iconst 0), 1, [], 0) := rfl
theorem k10_12 : px_cod 10 12 = some ((.iconst 1), 1, [], 1) := rfl
theorem k10_13 : px_cod 10 13 = some ((.invokestatic 83), 3, [0, 16, 30], 0) := rfl
theorem k10_16 : px_cod 10 16 = some ((.ifCond .ne 5), 3, [21], 0) := rfl
theorem k10_19 : px_cod 10 19 = some ((.iconst (-1)), 1, [], (-1)) := rfl
theorem k10_20 : px_cod 10 20 = some (.ireturn, 1, [], 0) := rfl
theorem k10_21 : px_cod 10 21 = some ((.iload_n 1), 1, [], 1) := rfl
theorem k10_22 : px_cod 10 22 = some ((.ifCond .ne 13), 3, [35], 0) := rfl
theorem k10_25 : px_cod 10 25 = some ((.aload_n 0), 1, [], 0) := rfl
theorem k10_26 : px_cod 10 26 = some ((.getfield 33), 3, [179, 0, 4, 1], 2) := rfl
theorem k10_29 : px_cod 10 29 = some ((.getfield 154), 3, [133, 8, 0, 0], 3) := rfl
theorem k10_32 : px_cod 10 32 = some ((.goto 10), 3, [42], 0) := rfl
theorem k10_35 : px_cod 10 35 = some ((.aload_n 0), 1, [], 0) := rfl
theorem k10_36 : px_cod 10 36 = some ((.getfield 33), 3, [179, 0, 4, 1], 2) := rfl
theorem k10_39 : px_cod 10 39 = some ((.getfield 170), 3, [135, 8, 0, 0], 4) := rfl
theorem k10_42 : px_cod 10 42 = some (.ireturn, 1, [], 0) := rfl
theorem k11_0 : px_cod 11 0 = some ((.iload_n 1), 1, [], 1) := rfl
theorem k11_1 : px_cod 11 1 = some ((.iconst (-1)), 1, [], (-1)) := rfl
theorem k11_2 : px_cod 11 2 = some ((.aload_n 0), 1, [], 0) := rfl
theorem k11_3 : px_cod 11 3 = some ((.getfield 21), 3, [177, 0, 4, 1], 0) := rfl
theorem k11_6 : px_cod 11 6 = some ((.getfield 144), 3, [96, 4, 0, 0], 7) := rfl
theorem k11_9 : px_cod 11 9 = some ((.iconst 1), 1, [], 1) := rfl
theorem k11_10 : px_cod 11 10 = some (.isub, 1, [], 0) := rfl
theorem k11_11 : px_cod 11 11 = some ((.invokestatic 83), 3, [0, 16, 30], 0) := rfl
theorem k11_14 : px_cod 11 14 = some ((.ifCond .ne 5), 3, [19], 0) := rfl
theorem k11_17 : px_cod 11 17 = some ((.iconst 0), 1, [], 0) := rfl
theorem k11_18 : px_cod 11 18 = some (.ireturn, 1, [], 0) := rfl
theorem k11_19 : px_cod 11 19 = some ((.aload_n 0), 1, [], 0) := rfl
theorem k11_20 : px_cod 11 20 = some ((.getfield 21), 3, [177, 0, 4, 1], 0) := rfl
theorem k11_23 : px_cod 11 23 = some ((.iload_n 1), 1, [], 1) := rfl
theorem k11_24 : px_cod 11 24 = some ((.putfield 173), 3, [99, 4, 0, 0], 8) := rfl
theorem k11_27 : px_cod 11 27 = some ((.aload_n 0), 1, [], 0) := rfl
theorem k11_28 : px_cod 11 28 = some ((.getfield 42), 3, [180, 0, 4, 1], 3) := rfl
theorem k11_31 : px_cod 11 31 = some ((.invokevirtual 101), 3, [0, 21, 63], 0) := rfl
theorem k11_34 : px_cod 11 34 = some ((.iconst 1), 1, [], 1) := rfl
theorem k11_35 : px_cod 11 35 = some (.ireturn, 1, [], 0) := rfl
theorem k12_0 : px_cod 12 0 = some ((.iload_n 1), 1, [], 1) := rfl
theorem k12_1 : px_cod 12 1 = some ((.invokestatic 176), 3, [0, 68, 31], 0) := rfl
theorem k12_4 : px_cod 12 4 = some ((.ifCond .eq 14), 3, [18], 0) := rfl
theorem k12_7 : px_cod 12 7 = some ((.aload_n 0), 1, [], 0) := rfl
theorem k12_8 : px_cod 12 8 = some ((.getfield 42), 3, [180, 0, 4, 1], 3) := rfl
theorem k12_11 : px_cod 12 11 = some ((.iload_n 1), 1, [], 1) := rfl
theorem k12_12 : px_cod 12 12 = some ((.invokevirtual 179), 3, [0, 69, 65], 0) := rfl
theorem k12_15 : px_cod 12 15 = some ((.goto 4), 3, [19], 0) := rfl
theorem k12_18 : px_cod 12 18 = some ((.iconst (-1)), 1, [], (-1)) := rfl
theorem k12_19 : px_cod 12 19 = some (.ireturn, 1, [], 0) := rfl
theorem k13_0 : px_cod 13 0 = some ((.aload_n 0), 1, [], 0) := rfl
theorem k13_1 : px_cod 13 1 = some ((.getfield 21), 3, [177, 0, 4, 1], 0) := rfl
theorem k13_4 : px_cod 13 4 = some ((.iload_n 2), 1, [], 2) := rfl
theorem k13_5 : px_cod 13 5 = some ((.invokevirtual 123), 3, [0, 32, 52], 0) := rfl
theorem k13_8 : px_cod 13 8 = some ((.astore_n 3), 1, [], 3) := rfl
theorem k13_9 : px_cod 13 9 = some ((.iload_n 1), 1, [], 1) := rfl
theorem k13_10 : px_cod 13 10 = some ((.invokestatic 176), 3, [0, 68, 31], 0) := rfl
theorem k13_13 : px_cod 13 13 = some ((.ifCond .eq 14), 3, [27], 0) := rfl
theorem k13_16 : px_cod 13 16 = some ((.aload_n 3), 1, [], 3) := rfl
theorem k13_17 : px_cod 13 17 = some ((.ifnull 10), 3, [27], 0) := rfl
theorem k13_20 : px_cod 13 20 = some ((.aload_n 3), 1, [], 3) := rfl
theorem k13_21 : px_cod 13 21 = some ((.getfield 130), 3, [71, 3, 1, 0], 8) := rfl
theorem k13_24 : px_cod 13 24 = some ((.ifCond .ne 6), 3, [30], 0) := rfl
theorem k13_27 : px_cod 13 27 = some ((.bipush (-2)), 2, [], (-2)) := rfl
theorem k13_29 : px_cod 13 29 = some (.ireturn, 1, [], 0) := rfl
theorem k13_30 : px_cod 13 30 = some ((.aload_n 0), 1, [], 0) := rfl
theorem k13_31 : px_cod 13 31 = some ((.getfield 51), 3, [181, 0, 4, 1], 4) := rfl
theorem k13_34 : px_cod 13 34 = some ((.iload_n 1), 1, [], 1) := rfl
theorem k13_35 : px_cod 13 35 = some ((.invokevirtual 183), 3, [0, 79, 121], 0) := rfl
theorem k13_38 : px_cod 13 38 = some ((.aload_n 0), 1, [], 0) := rfl
theorem k13_39 : px_cod 13 39 = some ((.getfield 51), 3, [181, 0, 4, 1], 4) := rfl
theorem k13_42 : px_cod 13 42 = some ((.aload_n 0), 1, [], 0) := rfl
theorem k13_43 : px_cod 13 43 = some ((.getfield 21), 3, [177, 0, 4, 1], 0) := rfl
theorem k13_46 : px_cod 13 46 = some ((.invokevirtual 186), 3, [0, 82, 57], 0) := rfl
theorem k13_49 : px_cod 13 49 = some ((.invokevirtual 189), 3, [0, 83, 122], 0) := rfl
theorem k13_52 : px_cod 13 52 = some ((.aload_n 0), 1, [], 0) := rfl
theorem k13_53 : px_cod 13 53 = some ((.getfield 51), 3, [181, 0, 4, 1], 4) := rfl
theorem k13_56 : px_cod 13 56 = some ((.iload_n 2), 1, [], 2) := rfl
theorem k13_57 : px_cod 13 57 = some ((.invokevirtual 192), 3, [0, 93, 123], 0) := rfl
theorem k13_60 : px_cod 13 60 = some (.ireturn, 1, [], 0) := rfl
theorem k14_0 : px_cod 14 0 = some ((.iload_n 1), 1, [], 1) := rfl
theorem k14_1 : px_cod 14 1 = some ((.invokestatic 176), 3, [0, 68, 31], 0) := rfl
theorem k14_4 : px_cod 14 4 = some ((.ifCond .eq 24), 3, [28], 0) := rfl
theorem k14_7 : px_cod 14 7 = some ((.iload_n 2), 1, [], 2) := rfl
theorem k14_8 : px_cod 14 8 = some ((.iload_n 1), 1, [], 1) := rfl
theorem k14_9 : px_cod 14 9 = some ((.sipush 1439), 3, [], 1439) := rfl
theorem k14_12 : px_cod 14 12 = some ((.invokestatic 83), 3, [0, 16, 30], 0) := rfl
theorem k14_15 : px_cod 14 15 = some ((.ifCond .eq 13), 3, [28], 0) := rfl
theorem k14_18 : px_cod 14 18 = some ((.iload_n 3), 1, [], 3) := rfl
theorem k14_19 : px_cod 14 19 = some ((.iconst 1), 1, [], 1) := rfl
theorem k14_20 : px_cod 14 20 = some ((.bipush 60), 2, [], 60) := rfl
theorem k14_22 : px_cod 14 22 = some ((.invokestatic 83), 3, [0, 16, 30], 0) := rfl
theorem k14_25 : px_cod 14 25 = some ((.ifCond .ne 5), 3, [30], 0) := rfl
theorem k14_28 : px_cod 14 28 = some ((.iconst (-1)), 1, [], (-1)) := rfl
theorem k14_29 : px_cod 14 29 = some (.ireturn, 1, [], 0) := rfl
theorem k14_30 : px_cod 14 30 = some ((.aload_n 0), 1, [], 0) := rfl
theorem k14_31 : px_cod 14 31 = some ((.getfield 51), 3, [181, 0, 4, 1], 4) := rfl
theorem k14_34 : px_cod 14 34 = some ((.iload_n 1), 1, [], 1) := rfl
theorem k14_35 : px_cod 14 35 = some ((.iload_n 2), 1, [], 2) := rfl
theorem k14_36 : px_cod 14 36 = some ((.iload_n 3), 1, [], 3) := rfl
theorem k14_37 : px_cod 14 37 = some ((.invokevirtual 195), 3, [0, 95, 126], 0) := rfl
theorem k14_40 : px_cod 14 40 = some ((.aload_n 0), 1, [], 0) := rfl
theorem k14_41 : px_cod 14 41 = some ((.getfield 21), 3, [177, 0, 4, 1], 0) := rfl
theorem k14_44 : px_cod 14 44 = some ((.getfield 199), 3, [80, 4, 4, 1], 2) := rfl
theorem k14_47 : px_cod 14 47 = some ((.getfield 203), 3, [12, 7, 0, 0], 0) := rfl
theorem k14_50 : px_cod 14 50 = some (.ireturn, 1, [], 0) := rfl
theorem k15_0 : px_cod 15 0 = some ((.iload_n 2), 1, [], 2) := rfl
theorem k15_1 : px_cod 15 1 = some ((.iconst 4), 1, [], 4) := rfl
theorem k15_2 : px_cod 15 2 = some ((.if_icmp .ne 14), 3, [16], 0) := rfl
theorem k15_5 : px_cod 15 5 = some ((.aload_n 0), 1, [], 0) := rfl
theorem k15_6 : px_cod 15 6 = some ((.getfield 21), 3, [177, 0, 4, 1], 0) := rfl
theorem k15_9 : px_cod 15 9 = some ((.getfield 199), 3, [80, 4, 4, 1], 2) := rfl
theorem k15_12 : px_cod 15 12 = some ((.getfield 208), 3, [15, 7, 0, 0], 1) := rfl
theorem k15_15 : px_cod 15 15 = some (.ireturn, 1, [], 0) := rfl
theorem k15_16 : px_cod 15 16 = some ((.aload_n 0), 1, [], 0) := rfl
theorem k15_17 : px_cod 15 17 = some ((.getfield 21), 3, [177, 0, 4, 1], 0) := rfl
theorem k15_20 : px_cod 15 20 = some ((.iload_n 1), 1, [], 1) := rfl
theorem k15_21 : px_cod 15 21 = some ((.invokevirtual 123), 3, [0, 32, 52], 0) := rfl
theorem k15_24 : px_cod 15 24 = some ((.ifnonnull 6), 3, [30], 0) := rfl
theorem k15_27 : px_cod 15 27 = some ((.bipush (-2)), 2, [], (-2)) := rfl
theorem k15_29 : px_cod 15 29 = some (.ireturn, 1, [], 0) := rfl
theorem k15_30 : px_cod 15 30 = some ((.iload_n 2), 1, [], 2) := rfl
theorem k15_31 : px_cod 15 31 = some ((.tableswitch 83 0 3 #[29, 44, 59, 74]), 29, [114, 60, 75, 90, 105], 0) := rfl
theorem k15_60 : px_cod 15 60 = some ((.aload_n 0), 1, [], 0) := rfl
theorem k15_61 : px_cod 15 61 = some ((.getfield 21), 3, [177, 0, 4, 1], 0) := rfl
theorem k15_64 : px_cod 15 64 = some ((.getfield 199), 3, [80, 4, 4, 1], 2) := rfl
theorem k15_67 : px_cod 15 67 = some ((.getfield 211), 3, [22, 7, 4, 1], 3) := rfl
theorem k15_70 : px_cod 15 70 = some ((.iload_n 1), 1, [], 1) := rfl
theorem k15_71 : px_cod 15 71 = some ((.invokestatic 215), 3, [0, 111, 33], 0) := rfl
theorem k15_74 : px_cod 15 74 = some (.ireturn, 1, [], 0) := rfl
theorem k15_75 : px_cod 15 75 = some ((.aload_n 0), 1, [], 0) := rfl
theorem k15_76 : px_cod 15 76 = some ((.getfield 21), 3, [177, 0, 4, 1], 0) := rfl
theorem k15_79 : px_cod 15 79 = some ((.getfield 199), 3, [80, 4, 4, 1], 2) := rfl
theorem k15_82 : px_cod 15 82 = some ((.getfield 219), 3, [25, 7, 4, 1], 4) := rfl
theorem k15_85 : px_cod 15 85 = some ((.iload_n 1), 1, [], 1) := rfl
theorem k15_86 : px_cod 15 86 = some ((.invokestatic 215), 3, [0, 111, 33], 0) := rfl
theorem k15_89 : px_cod 15 89 = some (.ireturn, 1, [], 0) := rfl
theorem k15_90 : px_cod 15 90 = some ((.aload_n 0), 1, [], 0) := rfl
theorem k15_91 : px_cod 15 91 = some ((.getfield 21), 3, [177, 0, 4, 1], 0) := rfl
theorem k15_94 : px_cod 15 94 = some ((.getfield 199), 3, [80, 4, 4, 1], 2) := rfl
theorem k15_97 : px_cod 15 97 = some ((.getfield 222), 3, [29, 7, 4, 1], 5) := rfl
theorem k15_100 : px_cod 15 100 = some ((.iload_n 1), 1, [], 1) := rfl
theorem k15_101 : px_cod 15 101 = some ((.invokestatic 215), 3, [0, 111, 33], 0) := rfl
theorem k15_104 : px_cod 15 104 = some (.ireturn, 1, [], 0) := rfl
theorem k15_105 : px_cod 15 105 = some ((.aload_n 0), 1, [], 0) := rfl
theorem k15_106 : px_cod 15 106 = some ((.getfield 42), 3, [180, 0, 4, 1], 3) := rfl
theorem k15_109 : px_cod 15 109 = some ((.iload_n 1), 1, [], 1) := rfl
theorem k15_110 : px_cod 15 110 = some ((.invokevirtual 225), 3, [0, 112, 69], 0) := rfl
theorem k15_113 : px_cod 15 113 = some (.ireturn, 1, [], 0) := rfl
theorem k15_114 : px_cod 15 114 = some ((.bipush (-2)), 2, [], (-2)) := rfl
theorem k15_116 : px_cod 15 116 = some (.ireturn, 1, [], 0) := rfl
theorem k16_0 : px_cod 16 0 = some ((.aload_n 0), 1, [], 0) := rfl
theorem k16_1 : px_cod 16 1 = some ((.getfield 21), 3, [177, 0, 4, 1], 0) := rfl
theorem k16_4 : px_cod 16 4 = some ((.iload_n 1), 1, [], 1) := rfl
theorem k16_5 : px_cod 16 5 = some ((.invokevirtual 123), 3, [0, 32, 52], 0) := rfl
theorem k16_8 : px_cod 16 8 = some ((.ifnonnull 8), 3, [16], 0) := rfl
theorem k16_11 : px_cod 16 11 = some ((.bipush (-2)), 2, [], (-2)) := rfl
theorem k16_13 : px_cod 16 13 = some ((.goto 15), 3, [28], 0) := rfl
theorem k16_16 : px_cod 16 16 = some ((.aload_n 0), 1, [], 0) := rfl
theorem k16_17 : px_cod 16 17 = some ((.getfield 21), 3, [177, 0, 4, 1], 0) := rfl
theorem k16_20 : px_cod 16 20 = some ((.getfield 199), 3, [80, 4, 4, 1], 2) := rfl
theorem k16_23 : px_cod 16 23 = some ((.iload_n 1), 1, [], 1) := rfl
theorem k16_24 : px_cod 16 24 = some ((.iload_n 2), 1, [], 2) := rfl
theorem k16_25 : px_cod 16 25 = some ((.invokevirtual 228), 3, [0, 115, 87], 0) := rfl
theorem k16_28 : px_cod 16 28 = some (.ireturn, 1, [], 0) := rfl
theorem k17_0 : px_cod 17 0 = some ((.aload_n 0), 1, [], 0) := rfl
theorem k17_1 : px_cod 17 1 = some ((.getfield 21), 3, [177, 0, 4, 1], 0) := rfl
theorem k17_4 : px_cod 17 4 = some ((.iload_n 1), 1, [], 1) := rfl
theorem k17_5 : px_cod 17 5 = some ((.invokevirtual 123), 3, [0, 32, 52], 0) := rfl
theorem k17_8 : px_cod 17 8 = some ((.astore 4), 2, [], 4) := rfl
theorem k17_10 : px_cod 17 10 = some ((.aload 4), 2, [], 4) := rfl
theorem k17_12 : px_cod 17 12 = some ((.ifnull 15), 3, [27], 0) := rfl
theorem k17_15 : px_cod 17 15 = some ((.iload_n 2), 1, [], 2) := rfl
theorem k17_16 : px_cod 17 16 = some ((.invokestatic 176), 3, [0, 68, 31], 0) := rfl
theorem k17_19 : px_cod 17 19 = some ((.ifCond .eq 8), 3, [27], 0) := rfl
theorem k17_22 : px_cod 17 22 = some ((.iload_n 3), 1, [], 3) := rfl
theorem k17_23 : px_cod 17 23 = some ((.iconst (-1)), 1, [], (-1)) := rfl
theorem k17_24 : px_cod 17 24 = some ((.if_icmp .ge 5), 3, [29], 0) := rfl
theorem k17_27 : px_cod 17 27 = some ((.iconst (-1)), 1, [], (-1)) := rfl
theorem k17_28 : px_cod 17 28 = some (.ireturn, 1, [], 0) := rfl
theorem k17_29 : px_cod 17 29 = some ((.aload_n 0), 1, [], 0) := rfl
theorem k17_30 : px_cod 17 30 = some ((.getfield 64), 3, [182, 0, 4, 1], 5) := rfl
theorem k17_33 : px_cod 17 33 = some ((.aload 4), 2, [], 4) := rfl
theorem k17_35 : px_cod 17 35 = some ((.invokevirtual 231), 3, [0, 120, 75], 0) := rfl
theorem k17_38 : px_cod 17 38 = some ((.aload_n 0), 1, [], 0) := rfl
theorem k17_39 : px_cod 17 39 = some ((.getfield 64), 3, [182, 0, 4, 1], 5) := rfl
theorem k17_42 : px_cod 17 42 = some ((.iload_n 2), 1, [], 2) := rfl
theorem k17_43 : px_cod 17 43 = some ((.invokevirtual 235), 3, [0, 123, 77], 0) := rfl
theorem k17_46 : px_cod 17 46 = some ((.istore 5), 2, [], 5) := rfl
theorem k17_48 : px_cod 17 48 = some ((.iload_n 3), 1, [], 3) := rfl
theorem k17_49 : px_cod 17 49 = some ((.iconst (-1)), 1, [], (-1)) := rfl
theorem k17_50 : px_cod 17 50 = some ((.if_icmp .ne 6), 3, [56], 0) := rfl
theorem k17_53 : px_cod 17 53 = some ((.iload 5), 2, [], 5) := rfl
theorem k17_55 : px_cod 17 55 = some (.ireturn, 1, [], 0) := rfl
theorem k17_56 : px_cod 17 56 = some ((.iload_n 3), 1, [], 3) := rfl
theorem k17_57 : px_cod 17 57 = some ((.iload 5), 2, [], 5) := rfl
theorem k17_59 : px_cod 17 59 = some ((.if_icmp .ge 16), 3, [75], 0) := rfl
theorem k17_62 : px_cod 17 62 = some ((.aload_n 0), 1, [], 0) := rfl
theorem k17_63 : px_cod 17 63 = some ((.getfield 64), 3, [182, 0, 4, 1], 5) := rfl
theorem k17_66 : px_cod 17 66 = some ((.iload 5), 2, [], 5) := rfl
theorem k17_68 : px_cod 17 68 = some ((.iload_n 3), 1, [], 3) := rfl
theorem k17_69 : px_cod 17 69 = some ((.invokevirtual 238), 3, [0, 128, 78], 0) := rfl
theorem k17_72 : px_cod 17 72 = some ((.goto 4), 3, [76], 0) := rfl
theorem k17_75 : px_cod 17 75 = some ((.iconst (-1)), 1, [], (-1)) := rfl
theorem k17_76 : px_cod 17 76 = some (.ireturn, 1, [], 0) := rfl
theorem k18_0 : px_cod 18 0 = some ((.aload_n 0), 1, [], 0) := rfl
theorem k18_1 : px_cod 18 1 = some ((.getfield 21), 3, [177, 0, 4, 1], 0) := rfl
theorem k18_4 : px_cod 18 4 = some ((.iload_n 1), 1, [], 1) := rfl
theorem k18_5 : px_cod 18 5 = some ((.invokevirtual 123), 3, [0, 32, 52], 0) := rfl
theorem k18_8 : px_cod 18 8 = some ((.astore_n 2), 1, [], 2) := rfl
theorem k18_9 : px_cod 18 9 = some ((.aload_n 2), 1, [], 2) := rfl
theorem k18_10 : px_cod 18 10 = some ((.ifnonnull 5), 3, [15], 0) := rfl
theorem k18_13 : px_cod 18 13 = some ((.iconst (-1)), 1, [], (-1)) := rfl
theorem k18_14 : px_cod 18 14 = some (.ireturn, 1, [], 0) := rfl
theorem k18_15 : px_cod 18 15 = some ((.aload_n 0), 1, [], 0) := rfl
theorem k18_16 : px_cod 18 16 = some ((.getfield 64), 3, [182, 0, 4, 1], 5) := rfl
theorem k18_19 : px_cod 18 19 = some ((.aload_n 2), 1, [], 2) := rfl
theorem k18_20 : px_cod 18 20 = some ((.invokevirtual 231), 3, [0, 120, 75], 0) := rfl
theorem k18_23 : px_cod 18 23 = some ((.aload_n 0), 1, [], 0) := rfl
theorem k18_24 : px_cod 18 24 = some ((.getfield 64), 3, [182, 0, 4, 1], 5) := rfl
theorem k18_27 : px_cod 18 27 = some ((.invokevirtual 241), 3, [0, 133, 79], 0) := rfl
theorem k18_30 : px_cod 18 30 = some (.ireturn, 1, [], 0) := rfl
theorem k19_0 : px_cod 19 0 = some ((.aload_n 0), 1, [], 0) := rfl
theorem k19_1 : px_cod 19 1 = some ((.getfield 21), 3, [177, 0, 4, 1], 0) := rfl
theorem k19_4 : px_cod 19 4 = some ((.iload_n 1), 1, [], 1) := rfl
theorem k19_5 : px_cod 19 5 = some ((.invokevirtual 123), 3, [0, 32, 52], 0) := rfl
theorem k19_8 : px_cod 19 8 = some ((.astore 5), 2, [], 5) := rfl
theorem k19_10 : px_cod 19 10 = some ((.aload 5), 2, [], 5) := rfl
theorem k19_12 : px_cod 19 12 = some ((.ifnull 30), 3, [42], 0) := rfl
theorem k19_15 : px_cod 19 15 = some ((.iload_n 2), 1, [], 2) := rfl
theorem k19_16 : px_cod 19 16 = some ((.invokestatic 176), 3, [0, 68, 31], 0) := rfl
theorem k19_19 : px_cod 19 19 = some ((.ifCond .eq 23), 3, [42], 0) := rfl
theorem k19_22 : px_cod 19 22 = some ((.iload_n 3), 1, [], 3) := rfl
theorem k19_23 : px_cod 19 23 = some ((.iconst 0), 1, [], 0) := rfl
theorem k19_24 : px_cod 19 24 = some ((.iconst 3), 1, [], 3) := rfl
theorem k19_25 : px_cod 19 25 = some ((.invokestatic 83), 3, [0, 16, 30], 0) := rfl
theorem k19_28 : px_cod 19 28 = some ((.ifCond .eq 14), 3, [42], 0) := rfl
theorem k19_31 : px_cod 19 31 = some ((.iload 4), 2, [], 4) := rfl
theorem k19_33 : px_cod 19 33 = some ((.iconst 1), 1, [], 1) := rfl
theorem k19_34 : px_cod 19 34 = some ((.bipush 10), 2, [], 10) := rfl
theorem k19_36 : px_cod 19 36 = some ((.invokestatic 83), 3, [0, 16, 30], 0) := rfl
theorem k19_39 : px_cod 19 39 = some ((.ifCond .ne 5), 3, [44], 0) := rfl
theorem k19_42 : px_cod 19 42 = some ((.iconst (-1)), 1, [], (-1)) := rfl
theorem k19_43 : px_cod 19 43 = some (.ireturn, 1, [], 0) := rfl
theorem k19_44 : px_cod 19 44 = some ((.aload_n 0), 1, [], 0) := rfl
theorem k19_45 : px_cod 19 45 = some ((.getfield 64), 3, [182, 0, 4, 1], 5) := rfl
theorem k19_48 : px_cod 19 48 = some ((.aload 5), 2, [], 5) := rfl
theorem k19_50 : px_cod 19 50 = some ((.invokevirtual 231), 3, [0, 120, 75], 0) := rfl
theorem k19_53 : px_cod 19 53 = some ((.aload_n 0), 1, [], 0) := rfl
theorem k19_54 : px_cod 19 54 = some ((.getfield 64), 3, [182, 0, 4, 1], 5) := rfl
theorem k19_57 : px_cod 19 57 = some ((.iload_n 2), 1, [], 2) := rfl
theorem k19_58 : px_cod 19 58 = some ((.iload_n 3), 1, [], 3) := rfl
theorem k19_59 : px_cod 19 59 = some ((.iload 4), 2, [], 4) := rfl
theorem k19_61 : px_cod 19 61 = some ((.invokevirtual 244), 3, [0, 136, 80], 0) := rfl
theorem k19_64 : px_cod 19 64 = some (.ireturn, 1, [], 0) := rfl
theorem k20_0 : px_cod 20 0 = some ((.iload_n 1), 1, [], 1) := rfl
theorem k20_1 : px_cod 20 1 = some ((.invokestatic 176), 3, [0, 68, 31], 0) := rfl
theorem k20_4 : px_cod 20 4 = some ((.ifCond .eq 17), 3, [21], 0) := rfl
theorem k20_7 : px_cod 20 7 = some ((.aload_n 0), 1, [], 0) := rfl
theorem k20_8 : px_cod 20 8 = some ((.getfield 21), 3, [177, 0, 4, 1], 0) := rfl
theorem k20_11 : px_cod 20 11 = some ((.invokevirtual 186), 3, [0, 82, 57], 0) := rfl
theorem k20_14 : px_cod 20 14 = some ((.invokestatic 248), 3, [0, 148, 237], 0) := rfl
theorem k20_17 : px_cod 20 17 = some ((.iconst 5), 1, [], 5) := rfl
theorem k20_18 : px_cod 20 18 = some ((.if_icmp .le 5), 3, [23], 0) := rfl
theorem k20_21 : px_cod 20 21 = some ((.iconst (-1)), 1, [], (-1)) := rfl
theorem k20_22 : px_cod 20 22 = some (.ireturn, 1, [], 0) := rfl
theorem k20_23 : px_cod 20 23 = some ((.aload_n 0), 1, [], 0) := rfl
theorem k20_24 : px_cod 20 24 = some ((.getfield 21), 3, [177, 0, 4, 1], 0) := rfl
theorem k20_27 : px_cod 20 27 = some ((.iload_n 2), 1, [], 2) := rfl
theorem k20_28 : px_cod 20 28 = some ((.invokevirtual 123), 3, [0, 32, 52], 0) := rfl
theorem k20_31 : px_cod 20 31 = some ((.astore_n 3), 1, [], 3) := rfl
theorem k20_32 : px_cod 20 32 = some ((.iload_n 2), 1, [], 2) := rfl
theorem k20_33 : px_cod 20 33 = some ((.iconst (-1)), 1, [], (-1)) := rfl
theorem k20_34 : px_cod 20 34 = some ((.if_icmp .eq 16), 3, [50], 0) := rfl
theorem k20_37 : px_cod 20 37 = some ((.aload_n 3), 1, [], 3) := rfl
theorem k20_38 : px_cod 20 38 = some ((.ifnull 10), 3, [48], 0) := rfl
theorem k20_41 : px_cod 20 41 = some ((.aload_n 3), 1, [], 3) := rfl
theorem k20_42 : px_cod 20 42 = some ((.getfield 130), 3, [71, 3, 1, 0], 8) := rfl
theorem k20_45 : px_cod 20 45 = some ((.ifCond .ne 5), 3, [50], 0) := rfl
theorem k20_48 : px_cod 20 48 = some ((.iconst (-1)), 1, [], (-1)) := rfl
theorem k20_49 : px_cod 20 49 = some (.ireturn, 1, [], 0) := rfl
theorem k20_50 : px_cod 20 50 = some ((.aload_n 0), 1, [], 0) := rfl
theorem k20_51 : px_cod 20 51 = some ((.getfield 73), 3, [183, 0, 4, 1], 6) := rfl
theorem k20_54 : px_cod 20 54 = some ((.iload_n 1), 1, [], 1) := rfl
theorem k20_55 : px_cod 20 55 = some ((.iload_n 2), 1, [], 2) := rfl
theorem k20_56 : px_cod 20 56 = some ((.invokevirtual 253), 3, [0, 149, 108], 0) := rfl
theorem k20_59 : px_cod 20 59 = some (.ireturn, 1, [], 0) := rfl
theorem k21_0 : px_cod 21 0 = some ((.iload_n 1), 1, [], 1) := rfl
theorem k21_1 : px_cod 21 1 = some ((.invokestatic 176), 3, [0, 68, 31], 0) := rfl
theorem k21_4 : px_cod 21 4 = some ((.ifCond .eq 12), 3, [16], 0) := rfl
theorem k21_7 : px_cod 21 7 = some ((.iload_n 2), 1, [], 2) := rfl
theorem k21_8 : px_cod 21 8 = some ((.iconst 0), 1, [], 0) := rfl
theorem k21_9 : px_cod 21 9 = some ((.iconst 2), 1, [], 2) := rfl
theorem k21_10 : px_cod 21 10 = some ((.invokestatic 83), 3, [0, 16, 30], 0) := rfl
theorem k21_13 : px_cod 21 13 = some ((.ifCond .ne 5), 3, [18], 0) := rfl
theorem k21_16 : px_cod 21 16 = some ((.iconst (-1)), 1, [], (-1)) := rfl
theorem k21_17 : px_cod 21 17 = some (.ireturn, 1, [], 0) := rfl
theorem k21_18 : px_cod 21 18 = some ((.aload_n 0), 1, [], 0) := rfl
theorem k21_19 : px_cod 21 19 = some ((.getfield 51), 3, [181, 0, 4, 1], 4) := rfl
theorem k21_22 : px_cod 21 22 = some ((.iload_n 1), 1, [], 1) := rfl
theorem k21_23 : px_cod 21 23 = some ((.invokevirtual 183), 3, [0, 79, 121], 0) := rfl
theorem k21_26 : px_cod 21 26 = some ((.aload_n 0), 1, [], 0) := rfl
theorem k21_27 : px_cod 21 27 = some ((.getfield 51), 3, [181, 0, 4, 1], 4) := rfl
theorem k21_30 : px_cod 21 30 = some ((.aload_n 0), 1, [], 0) := rfl
theorem k21_31 : px_cod 21 31 = some ((.getfield 21), 3, [177, 0, 4, 1], 0) := rfl
theorem k21_34 : px_cod 21 34 = some ((.invokevirtual 186), 3, [0, 82, 57], 0) := rfl
theorem k21_37 : px_cod 21 37 = some ((.invokevirtual 189), 3, [0, 83, 122], 0) := rfl
theorem k21_40 : px_cod 21 40 = some ((.aload_n 0), 1, [], 0) := rfl
theorem k21_41 : px_cod 21 41 = some ((.getfield 73), 3, [183, 0, 4, 1], 6) := rfl
theorem k21_44 : px_cod 21 44 = some ((.iload_n 1), 1, [], 1) := rfl
theorem k21_45 : px_cod 21 45 = some ((.invokevirtual 256), 3, [0, 162, 113], 0) := rfl
theorem k21_48 : px_cod 21 48 = some ((.istore_n 3), 1, [], 3) := rfl
theorem k21_49 : px_cod 21 49 = some ((.iload_n 2), 1, [], 2) := rfl
theorem k21_50 : px_cod 21 50 = some ((.lookupswitch 37 #[(0, 26), (1, 28)]), 26, [87, 76, 78], 0) := rfl
theorem k21_76 : px_cod 21 76 = some ((.iload_n 3), 1, [], 3) := rfl
theorem k21_77 : px_cod 21 77 = some (.ireturn, 1, [], 0) := rfl
theorem k21_78 : px_cod 21 78 = some ((.aload_n 0), 1, [], 0) := rfl
theorem k21_79 : px_cod 21 79 = some ((.getfield 73), 3, [183, 0, 4, 1], 6) := rfl
theorem k21_82 : px_cod 21 82 = some ((.iload_n 3), 1, [], 3) := rfl
theorem k21_83 : px_cod 21 83 = some ((.invokevirtual 259), 3, [0, 168, 112], 0) := rfl
theorem k21_86 : px_cod 21 86 = some (.ireturn, 1, [], 0) := rfl
theorem k21_87 : px_cod 21 87 = some ((.aload_n 0), 1, [], 0) := rfl
theorem k21_88 : px_cod 21 88 = some ((.getfield 21), 3, [177, 0, 4, 1], 0) := rfl
theorem k21_91 : px_cod 21 91 = some ((.invokevirtual 186), 3, [0, 82, 57], 0) := rfl
theorem k21_94 : px_cod 21 94 = some ((.invokestatic 248), 3, [0, 148, 237], 0) := rfl
theorem k21_97 : px_cod 21 97 = some ((.iload_n 3), 1, [], 3) := rfl
theorem k21_98 : px_cod 21 98 = some ((.invokestatic 248), 3, [0, 148, 237], 0) := rfl
theorem k21_101 : px_cod 21 101 = some (.isub, 1, [], 0) := rfl
theorem k21_102 : px_cod 21 102 = some (.ireturn, 1, [], 0) := rfl
theorem k22_0 : px_cod 22 0 = some ((.iload_n 1), 1, [], 1) := rfl
theorem k22_1 : px_cod 22 1 = some ((.iconst 1), 1, [], 1) := rfl
theorem k22_2 : px_cod 22 2 = some ((.sipush 999), 3, [], 999) := rfl
theorem k22_5 : px_cod 22 5 = some ((.invokestatic 83), 3, [0, 16, 30], 0) := rfl
theorem k22_8 : px_cod 22 8 = some ((.ifCond .eq 15), 3, [23], 0) := rfl
theorem k22_11 : px_cod 22 11 = some ((.aload_n 0), 1, [], 0) := rfl
theorem k22_12 : px_cod 22 12 = some ((.getfield 21), 3, [177, 0, 4, 1], 0) := rfl
theorem k22_15 : px_cod 22 15 = some ((.getfield 262), 3, [102, 4, 0, 0], 9) := rfl
theorem k22_18 : px_cod 22 18 = some ((.bipush 7), 2, [], 7) := rfl
theorem k22_20 : px_cod 22 20 = some ((.if_icmp .lt 5), 3, [25], 0) := rfl
theorem k22_23 : px_cod 22 23 = some ((.iconst (-1)), 1, [], (-1)) := rfl
theorem k22_24 : px_cod 22 24 = some (.ireturn, 1, [], 0) := rfl
theorem k22_25 : px_cod 22 25 = some ((.aload_n 0), 1, [], 0) := rfl
theorem k22_26 : px_cod 22 26 = some ((.getfield 21), 3, [177, 0, 4, 1], 0) := rfl
theorem k22_29 : px_cod 22 29 = some ((.getfield 265), 3, [109, 4, 4, 1], 12) := rfl
theorem k22_32 : px_cod 22 32 = some ((.aload_n 0), 1, [], 0) := rfl
theorem k22_33 : px_cod 22 33 = some ((.getfield 21), 3, [177, 0, 4, 1], 0) := rfl
theorem k22_36 : px_cod 22 36 = some ((.getfield 262), 3, [102, 4, 0, 0], 9) := rfl
theorem k22_39 : px_cod 22 39 = some ((.iload_n 1), 1, [], 1) := rfl
theorem k22_40 : px_cod 22 40 = some ((.invokestatic 268), 3, [0, 170, 34], 0) := rfl
theorem k22_43 : px_cod 22 43 = some ((.aload_n 0), 1, [], 0) := rfl
theorem k22_44 : px_cod 22 44 = some ((.getfield 21), 3, [177, 0, 4, 1], 0) := rfl
theorem k22_47 : px_cod 22 47 = some (.dup, 1, [], 0) := rfl
theorem k22_48 : px_cod 22 48 = some ((.getfield 262), 3, [102, 4, 0, 0], 9) := rfl
theorem k22_51 : px_cod 22 51 = some ((.iconst 1), 1, [], 1) := rfl
theorem k22_52 : px_cod 22 52 = some (.iadd, 1, [], 0) := rfl
theorem k22_53 : px_cod 22 53 = some ((.putfield 262), 3, [102, 4, 0, 0], 9) := rfl
theorem k22_56 : px_cod 22 56 = some ((.aload_n 0), 1, [], 0) := rfl
theorem k22_57 : px_cod 22 57 = some ((.getfield 21), 3, [177, 0, 4, 1], 0) := rfl
theorem k22_60 : px_cod 22 60 = some ((.getfield 262), 3, [102, 4, 0, 0], 9) := rfl
theorem k22_63 : px_cod 22 63 = some (.ireturn, 1, [], 0) := rfl
theorem k23_0 : px_cod 23 0 = some ((.aload_n 0), 1, [], 0) := rfl
theorem k23_1 : px_cod 23 1 = some ((.getfield 73), 3, [183, 0, 4, 1], 6) := rfl
theorem k23_4 : px_cod 23 4 = some ((.invokevirtual 272), 3, [0, 172, 117], 0) := rfl
theorem k23_7 : px_cod 23 7 = some (.ireturn, 1, [], 0) := rfl
theorem k24_0 : px_cod 24 0 = some ((.iload_n 1), 1, [], 1) := rfl
theorem k24_1 : px_cod 24 1 = some ((.invokestatic 176), 3, [0, 68, 31], 0) := rfl
theorem k24_4 : px_cod 24 4 = some ((.ifCond .eq 35), 3, [39], 0) := rfl
theorem k24_7 : px_cod 24 7 = some ((.aload_n 0), 1, [], 0) := rfl
theorem k24_8 : px_cod 24 8 = some ((.getfield 21), 3, [177, 0, 4, 1], 0) := rfl
theorem k24_11 : px_cod 24 11 = some ((.iload_n 2), 1, [], 2) := rfl
theorem k24_12 : px_cod 24 12 = some ((.invokevirtual 123), 3, [0, 32, 52], 0) := rfl
theorem k24_15 : px_cod 24 15 = some ((.ifnull 24), 3, [39], 0) := rfl
theorem k24_18 : px_cod 24 18 = some ((.iload_n 3), 1, [], 3) := rfl
theorem k24_19 : px_cod 24 19 = some ((.iconst (-1)), 1, [], (-1)) := rfl
theorem k24_20 : px_cod 24 20 = some ((.aload_n 0), 1, [], 0) := rfl
theorem k24_21 : px_cod 24 21 = some ((.getfield 21), 3, [177, 0, 4, 1], 0) := rfl
theorem k24_24 : px_cod 24 24 = some ((.getfield 104), 3, [90, 4, 0, 0], 5) := rfl
theorem k24_27 : px_cod 24 27 = some ((.iconst 1), 1, [], 1) := rfl
theorem k24_28 : px_cod 24 28 = some (.isub, 1, [], 0) := rfl
theorem k24_29 : px_cod 24 29 = some ((.invokestatic 83), 3, [0, 16, 30], 0) := rfl
theorem k24_32 : px_cod 24 32 = some ((.ifCond .eq 7), 3, [39], 0) := rfl
theorem k24_35 : px_cod 24 35 = some ((.iconst 1), 1, [], 1) := rfl
theorem k24_36 : px_cod 24 36 = some ((.goto 4), 3, [40], 0) := rfl
theorem k24_39 : px_cod 24 39 = some ((.iconst 0), 1, [], 0) := rfl
theorem k24_40 : px_cod 24 40 = some ((.istore 4), 2, [], 4) := rfl
theorem k24_42 : px_cod 24 42 = some ((.iload 4), 2, [], 4) := rfl
theorem k24_44 : px_cod 24 44 = some ((.ifCond .eq 18), 3, [62], 0) := rfl
theorem k24_47 : px_cod 24 47 = some ((.aload_n 0), 1, [], 0) := rfl
theorem k24_48 : px_cod 24 48 = some ((.getfield 21), 3, [177, 0, 4, 1], 0) := rfl
theorem k24_51 : px_cod 24 51 = some ((.getfield 275), 3, [76, 4, 4, 1], 1) := rfl
theorem k24_54 : px_cod 24 54 = some ((.getfield 279), 3, [3, 2, 0, 0], 0) := rfl
theorem k24_57 : px_cod 24 57 = some ((.bipush 12), 2, [], 12) := rfl
theorem k24_59 : px_cod 24 59 = some ((.if_icmp .lt 5), 3, [64], 0) := rfl
theorem k24_62 : px_cod 24 62 = some ((.iconst (-1)), 1, [], (-1)) := rfl
theorem k24_63 : px_cod 24 63 = some (.ireturn, 1, [], 0) := rfl
theorem k24_64 : px_cod 24 64 = some ((.aload_n 0), 1, [], 0) := rfl
theorem k24_65 : px_cod 24 65 = some ((.getfield 21), 3, [177, 0, 4, 1], 0) := rfl
theorem k24_68 : px_cod 24 68 = some ((.getfield 275), 3, [76, 4, 4, 1], 1) := rfl
theorem k24_71 : px_cod 24 71 = some ((.iload_n 1), 1, [], 1) := rfl
theorem k24_72 : px_cod 24 72 = some ((.iload_n 2), 1, [], 2) := rfl
theorem k24_73 : px_cod 24 73 = some ((.iload_n 3), 1, [], 3) := rfl
theorem k24_74 : px_cod 24 74 = some ((.invokevirtual 284), 3, [0, 177, 46], 0) := rfl
theorem k24_77 : px_cod 24 77 = some ((.aload_n 0), 1, [], 0) := rfl
theorem k24_78 : px_cod 24 78 = some ((.getfield 21), 3, [177, 0, 4, 1], 0) := rfl
theorem k24_81 : px_cod 24 81 = some ((.getfield 275), 3, [76, 4, 4, 1], 1) := rfl
theorem k24_84 : px_cod 24 84 = some ((.getfield 279), 3, [3, 2, 0, 0], 0) := rfl
theorem k24_87 : px_cod 24 87 = some (.ireturn, 1, [], 0) := rfl
theorem k25_0 : px_cod 25 0 = some ((.iload_n 1), 1, [], 1) := rfl
theorem k25_1 : px_cod 25 1 = some ((.iconst 0), 1, [], 0) := rfl
theorem k25_2 : px_cod 25 2 = some ((.iconst 3), 1, [], 3) := rfl
theorem k25_3 : px_cod 25 3 = some ((.invokestatic 83), 3, [0, 16, 30], 0) := rfl
theorem k25_6 : px_cod 25 6 = some ((.ifCond .ne 5), 3, [11], 0) := rfl
theorem k25_9 : px_cod 25 9 = some ((.iconst (-1)), 1, [], (-1)) := rfl
theorem k25_10 : px_cod 25 10 = some (.ireturn, 1, [], 0) := rfl
theorem k25_11 : px_cod 25 11 = some ((.aload_n 0), 1, [], 0) := rfl
theorem k25_12 : px_cod 25 12 = some ((.getfield 51), 3, [181, 0, 4, 1], 4) := rfl
theorem k25_15 : px_cod 25 15 = some ((.invokevirtual 287), 3, [0, 180, 130], 0) := rfl
theorem k25_18 : px_cod 25 18 = some ((.aload_n 0), 1, [], 0) := rfl
theorem k25_19 : px_cod 25 19 = some ((.getfield 51), 3, [181, 0, 4, 1], 4) := rfl
theorem k25_22 : px_cod 25 22 = some ((.iload_n 1), 1, [], 1) := rfl
theorem k25_23 : px_cod 25 23 = some ((.invokevirtual 290), 3, [0, 182, 132], 0) := rfl
theorem k25_26 : px_cod 25 26 = some (.ireturn, 1, [], 0) := rfl
theorem k26_0 : px_cod 26 0 = some ((.iload_n 1), 1, [], 1) := rfl
theorem k26_1 : px_cod 26 1 = some ((.iconst 0), 1, [], 0) := rfl
theorem k26_2 : px_cod 26 2 = some ((.sipush 9999), 3, [], 9999) := rfl
theorem k26_5 : px_cod 26 5 = some ((.invokestatic 83), 3, [0, 16, 30], 0) := rfl
theorem k26_8 : px_cod 26 8 = some ((.ifCond .eq 13), 3, [21], 0) := rfl
theorem k26_11 : px_cod 26 11 = some ((.iload_n 2), 1, [], 2) := rfl
theorem k26_12 : px_cod 26 12 = some ((.iconst 1), 1, [], 1) := rfl
theorem k26_13 : px_cod 26 13 = some ((.bipush 60), 2, [], 60) := rfl
theorem k26_15 : px_cod 26 15 = some ((.invokestatic 83), 3, [0, 16, 30], 0) := rfl
theorem k26_18 : px_cod 26 18 = some ((.ifCond .ne 5), 3, [23], 0) := rfl
theorem k26_21 : px_cod 26 21 = some ((.iconst (-1)), 1, [], (-1)) := rfl
theorem k26_22 : px_cod 26 22 = some (.ireturn, 1, [], 0) := rfl
theorem k26_23 : px_cod 26 23 = some ((.aload_n 0), 1, [], 0) := rfl
theorem k26_24 : px_cod 26 24 = some ((.getfield 21), 3, [177, 0, 4, 1], 0) := rfl
theorem k26_27 : px_cod 26 27 = some ((.getfield 57), 3, [72, 4, 4, 1], 0) := rfl
theorem k26_30 : px_cod 26 30 = some ((.iload_n 1), 1, [], 1) := rfl
theorem k26_31 : px_cod 26 31 = some ((.iload_n 2), 1, [], 2) := rfl
theorem k26_32 : px_cod 26 32 = some ((.invokevirtual 293), 3, [0, 184, 43], 0) := rfl
theorem k26_35 : px_cod 26 35 = some (.ireturn, 1, [], 0) := rfl
theorem k27_0 : px_cod 27 0 = some ((.aload_n 0), 1, [], 0) := rfl
theorem k27_1 : px_cod 27 1 = some ((.getfield 27), 3, [178, 0, 4, 1], 1) := rfl
theorem k27_4 : px_cod 27 4 = some ((.aload_n 0), 1, [], 0) := rfl
theorem k27_5 : px_cod 27 5 = some ((.getfield 21), 3, [177, 0, 4, 1], 0) := rfl
theorem k27_8 : px_cod 27 8 = some ((.invokevirtual 296), 3, [0, 187, 61], 0) := rfl
theorem k27_11 : px_cod 27 11 = some ((.aload_n 0), 1, [], 0) := rfl
theorem k27_12 : px_cod 27 12 = some ((.getfield 21), 3, [177, 0, 4, 1], 0) := rfl
theorem k27_15 : px_cod 27 15 = some ((.getfield 298), 3, [94, 4, 0, 0], 6) := rfl
theorem k27_18 : px_cod 27 18 = some (.ireturn, 1, [], 0) := rfl
theorem k28_0 : px_cod 28 0 = some ((.aload_n 0), 1, [], 0) := rfl
theorem k28_1 : px_cod 28 1 = some ((.getfield 21), 3, [177, 0, 4, 1], 0) := rfl
theorem k28_4 : px_cod 28 4 = some ((.aload_n 0), 1, [], 0) := rfl
theorem k28_5 : px_cod 28 5 = some ((.getfield 27), 3, [178, 0, 4, 1], 1) := rfl
theorem k28_8 : px_cod 28 8 = some ((.invokevirtual 296), 3, [0, 187, 61], 0) := rfl
theorem k28_11 : px_cod 28 11 = some ((.aload_n 0), 1, [], 0) := rfl
theorem k28_12 : px_cod 28 12 = some ((.getfield 42), 3, [180, 0, 4, 1], 3) := rfl
theorem k28_15 : px_cod 28 15 = some ((.invokevirtual 101), 3, [0, 21, 63], 0) := rfl
theorem k28_18 : px_cod 28 18 = some ((.aload_n 0), 1, [], 0) := rfl
theorem k28_19 : px_cod 28 19 = some ((.getfield 21), 3, [177, 0, 4, 1], 0) := rfl
theorem k28_22 : px_cod 28 22 = some ((.getfield 298), 3, [94, 4, 0, 0], 6) := rfl
theorem k28_25 : px_cod 28 25 = some (.ireturn, 1, [], 0) := rfl
theorem k29_0 : px_cod 29 0 = some ((.iload_n 1), 1, [], 1) := rfl
theorem k29_1 : px_cod 29 1 = some ((.bipush 11), 2, [], 11) := rfl
theorem k29_3 : px_cod 29 3 = some ((.if_icmp .ne 11), 3, [14], 0) := rfl
theorem k29_6 : px_cod 29 6 = some ((.aload_n 0), 1, [], 0) := rfl
theorem k29_7 : px_cod 29 7 = some ((.getfield 33), 3, [179, 0, 4, 1], 2) := rfl
theorem k29_10 : px_cod 29 10 = some ((.getfield 141), 3, [129, 8, 0, 0], 1) := rfl
theorem k29_13 : px_cod 29 13 = some (.ireturn, 1, [], 0) := rfl
theorem k29_14 : px_cod 29 14 = some ((.iload_n 1), 1, [], 1) := rfl
theorem k29_15 : px_cod 29 15 = some ((.iconst 0), 1, [], 0) := rfl
theorem k29_16 : px_cod 29 16 = some ((.bipush 10), 2, [], 10) := rfl
theorem k29_18 : px_cod 29 18 = some ((.invokestatic 83), 3, [0, 16, 30], 0) := rfl
theorem k29_21 : px_cod 29 21 = some ((.ifCond .eq 12), 3, [33], 0) := rfl
theorem k29_24 : px_cod 29 24 = some ((.aload_n 0), 1, [], 0) := rfl
theorem k29_25 : px_cod 29 25 = some ((.getfield 21), 3, [177, 0, 4, 1], 0) := rfl
theorem k29_28 : px_cod 29 28 = some ((.iload_n 1), 1, [], 1) := rfl
theorem k29_29 : px_cod 29 29 = some ((.invokevirtual 301), 3, [0, 199, 58], 0) := rfl
theorem k29_32 : px_cod 29 32 = some (.ireturn, 1, [], 0) := rfl
theorem k29_33 : px_cod 29 33 = some ((.iload_n 1), 1, [], 1) := rfl
theorem k29_34 : px_cod 29 34 = some ((.bipush 20), 2, [], 20) := rfl
theorem k29_36 : px_cod 29 36 = some ((.bipush 39), 2, [], 39) := rfl
theorem k29_38 : px_cod 29 38 = some ((.invokestatic 83), 3, [0, 16, 30], 0) := rfl
theorem k29_41 : px_cod 29 41 = some ((.ifCond .eq 12), 3, [53], 0) := rfl
theorem k29_44 : px_cod 29 44 = some ((.aload_n 0), 1, [], 0) := rfl
theorem k29_45 : px_cod 29 45 = some ((.getfield 21), 3, [177, 0, 4, 1], 0) := rfl
theorem k29_48 : px_cod 29 48 = some ((.iload_n 1), 1, [], 1) := rfl
theorem k29_49 : px_cod 29 49 = some ((.invokevirtual 304), 3, [0, 200, 59], 0) := rfl
theorem k29_52 : px_cod 29 52 = some (.ireturn, 1, [], 0) := rfl
theorem k29_53 : px_cod 29 53 = some ((.iload_n 1), 1, [], 1) := rfl
theorem k29_54 : px_cod 29 54 = some ((.bipush 40), 2, [], 40) := rfl
theorem k29_56 : px_cod 29 56 = some ((.bipush 69), 2, [], 69) := rfl
theorem k29_58 : px_cod 29 58 = some ((.invokestatic 83), 3, [0, 16, 30], 0) := rfl
theorem k29_61 : px_cod 29 61 = some ((.ifCond .eq 12), 3, [73], 0) := rfl
theorem k29_64 : px_cod 29 64 = some ((.aload_n 0), 1, [], 0) := rfl
theorem k29_65 : px_cod 29 65 = some ((.getfield 21), 3, [177, 0, 4, 1], 0) := rfl
theorem k29_68 : px_cod 29 68 = some ((.iload_n 1), 1, [], 1) := rfl
theorem k29_69 : px_cod 29 69 = some ((.invokevirtual 307), 3, [0, 201, 60], 0) := rfl
theorem k29_72 : px_cod 29 72 = some (.ireturn, 1, [], 0) := rfl
theorem k29_73 : px_cod 29 73 = some ((.aload_n 0), 1, [], 0) := rfl
theorem k29_74 : px_cod 29 74 = some ((.getfield 21), 3, [177, 0, 4, 1], 0) := rfl
theorem k29_77 : px_cod 29 77 = some ((.getfield 57), 3, [72, 4, 4, 1], 0) := rfl
theorem k29_80 : px_cod 29 80 = some ((.iload_n 1), 1, [], 1) := rfl
theorem k29_81 : px_cod 29 81 = some ((.bipush 100), 2, [], 100) := rfl
theorem k29_83 : px_cod 29 83 = some (.isub, 1, [], 0) := rfl
theorem k29_84 : px_cod 29 84 = some ((.invokevirtual 77), 3, [0, 15, 37], 0) := rfl
theorem k29_87 : px_cod 29 87 = some ((.ifCond .eq 18), 3, [105], 0) := rfl
theorem k29_90 : px_cod 29 90 = some ((.aload_n 0), 1, [], 0) := rfl
theorem k29_91 : px_cod 29 91 = some ((.getfield 21), 3, [177, 0, 4, 1], 0) := rfl
theorem k29_94 : px_cod 29 94 = some ((.getfield 57), 3, [72, 4, 4, 1], 0) := rfl
theorem k29_97 : px_cod 29 97 = some ((.iload_n 1), 1, [], 1) := rfl
theorem k29_98 : px_cod 29 98 = some ((.bipush 100), 2, [], 100) := rfl
theorem k29_100 : px_cod 29 100 = some (.isub, 1, [], 0) := rfl
theorem k29_101 : px_cod 29 101 = some ((.invokevirtual 310), 3, [0, 202, 38], 0) := rfl
theorem k29_104 : px_cod 29 104 = some (.ireturn, 1, [], 0) := rfl
theorem k29_105 : px_cod 29 105 = some ((.aload_n 0), 1, [], 0) := rfl
theorem k29_106 : px_cod 29 106 = some ((.getfield 21), 3, [177, 0, 4, 1], 0) := rfl
theorem k29_109 : px_cod 29 109 = some ((.getfield 57), 3, [72, 4, 4, 1], 0) := rfl
theorem k29_112 : px_cod 29 112 = some ((.iload_n 1), 1, [], 1) := rfl
theorem k29_113 : px_cod 29 113 = some ((.sipush 200), 3, [], 200) := rfl
theorem k29_116 : px_cod 29 116 = some (.isub, 1, [], 0) := rfl
theorem k29_117 : px_cod 29 117 = some ((.invokevirtual 77), 3, [0, 15, 37], 0) := rfl
theorem k29_120 : px_cod 29 120 = some ((.ifCond .eq 27), 3, [147], 0) := rfl
theorem k29_123 : px_cod 29 123 = some ((.aload_n 0), 1, [], 0) := rfl
theorem k29_124 : px_cod 29 124 = some ((.getfield 21), 3, [177, 0, 4, 1], 0) := rfl
theorem k29_127 : px_cod 29 127 = some ((.getfield 57), 3, [72, 4, 4, 1], 0) := rfl
theorem k29_130 : px_cod 29 130 = some ((.iload_n 1), 1, [], 1) := rfl
theorem k29_131 : px_cod 29 131 = some ((.sipush 200), 3, [], 200) := rfl
theorem k29_134 : px_cod 29 134 = some (.isub, 1, [], 0) := rfl
theorem k29_135 : px_cod 29 135 = some ((.invokevirtual 313), 3, [0, 203, 39], 0) := rfl
theorem k29_138 : px_cod 29 138 = some ((.ifCond .eq 7), 3, [145], 0) := rfl
theorem k29_141 : px_cod 29 141 = some ((.iconst 1), 1, [], 1) := rfl
theorem k29_142 : px_cod 29 142 = some ((.goto 4), 3, [146], 0) := rfl
theorem k29_145 : px_cod 29 145 = some ((.iconst 0), 1, [], 0) := rfl
theorem k29_146 : px_cod 29 146 = some (.ireturn, 1, [], 0) := rfl
theorem k29_147 : px_cod 29 147 = some ((.sipush (-1000)), 3, [], (-1000)) := rfl
theorem k29_150 : px_cod 29 150 = some (.ireturn, 1, [], 0) := rfl
theorem k30_0 : px_cod 30 0 = some ((.iload_n 0), 1, [], 0) := rfl
theorem k30_1 : px_cod 30 1 = some ((.iload_n 1), 1, [], 1) := rfl
theorem k30_2 : px_cod 30 2 = some ((.if_icmp .lt 12), 3, [14], 0) := rfl
theorem k30_5 : px_cod 30 5 = some ((.iload_n 0), 1, [], 0) := rfl
theorem k30_6 : px_cod 30 6 = some ((.iload_n 2), 1, [], 2) := rfl
theorem k30_7 : px_cod 30 7 = some ((.if_icmp .gt 7), 3, [14], 0) := rfl
theorem k30_10 : px_cod 30 10 = some ((.iconst 1), 1, [], 1) := rfl
theorem k30_11 : px_cod 30 11 = some ((.goto 4), 3, [15], 0) := rfl
theorem k30_14 : px_cod 30 14 = some ((.iconst 0), 1, [], 0) := rfl
theorem k30_15 : px_cod 30 15 = some (.ireturn, 1, [], 0) := rfl
theorem k31_0 : px_cod 31 0 = some ((.iload_n 0), 1, [], 0) := rfl
theorem k31_1 : px_cod 31 1 = some ((.iconst 0), 1, [], 0) := rfl
theorem k31_2 : px_cod 31 2 = some ((.sipush 1439), 3, [], 1439) := rfl
theorem k31_5 : px_cod 31 5 = some ((.invokestatic 83), 3, [0, 16, 30], 0) := rfl
theorem k31_8 : px_cod 31 8 = some (.ireturn, 1, [], 0) := rfl
theorem k32_0 : px_cod 32 0 = some ((.iload_n 1), 1, [], 1) := rfl
theorem k32_1 : px_cod 32 1 = some ((.ifCond .lt 22), 3, [23], 0) := rfl
theorem k32_4 : px_cod 32 4 = some ((.iload_n 1), 1, [], 1) := rfl
theorem k32_5 : px_cod 32 5 = some ((.bipush 31), 2, [], 31) := rfl
theorem k32_7 : px_cod 32 7 = some ((.if_icmp .ge 16), 3, [23], 0) := rfl
theorem k32_10 : px_cod 32 10 = some ((.iload_n 0), 1, [], 0) := rfl
theorem k32_11 : px_cod 32 11 = some ((.iload_n 1), 1, [], 1) := rfl
theorem k32_12 : px_cod 32 12 = some (.ishr, 1, [], 0) := rfl
theorem k32_13 : px_cod 32 13 = some ((.iconst 1), 1, [], 1) := rfl
theorem k32_14 : px_cod 32 14 = some (.iand, 1, [], 0) := rfl
theorem k32_15 : px_cod 32 15 = some ((.iconst 1), 1, [], 1) := rfl
theorem k32_16 : px_cod 32 16 = some ((.if_icmp .ne 7), 3, [23], 0) := rfl
theorem k32_19 : px_cod 32 19 = some ((.iconst 1), 1, [], 1) := rfl
theorem k32_20 : px_cod 32 20 = some ((.goto 4), 3, [24], 0) := rfl
theorem k32_23 : px_cod 32 23 = some ((.iconst 0), 1, [], 0) := rfl
theorem k32_24 : px_cod 32 24 = some (.ireturn, 1, [], 0) := rfl
theorem k33_0 : px_cod 33 0 = some ((.aload_n 0), 1, [], 0) := rfl
theorem k33_1 : px_cod 33 1 = some ((.ifnull 13), 3, [14], 0) := rfl
theorem k33_4 : px_cod 33 4 = some ((.iload_n 1), 1, [], 1) := rfl
theorem k33_5 : px_cod 33 5 = some ((.ifCond .lt 9), 3, [14], 0) := rfl
theorem k33_8 : px_cod 33 8 = some ((.iload_n 1), 1, [], 1) := rfl
theorem k33_9 : px_cod 33 9 = some ((.aload_n 0), 1, [], 0) := rfl
theorem k33_10 : px_cod 33 10 = some (.arraylength, 1, [], 0) := rfl
theorem k33_11 : px_cod 33 11 = some ((.if_icmp .lt 5), 3, [16], 0) := rfl
theorem k33_14 : px_cod 33 14 = some ((.iconst 0), 1, [], 0) := rfl
theorem k33_15 : px_cod 33 15 = some (.ireturn, 1, [], 0) := rfl
theorem k33_16 : px_cod 33 16 = some ((.aload_n 0), 1, [], 0) := rfl
theorem k33_17 : px_cod 33 17 = some ((.iload_n 1), 1, [], 1) := rfl
theorem k33_18 : px_cod 33 18 = some (.iaload, 1, [], 0) := rfl
theorem k33_19 : px_cod 33 19 = some (.ireturn, 1, [], 0) := rfl
theorem k34_0 : px_cod 34 0 = some ((.aload_n 0), 1, [], 0) := rfl
theorem k34_1 : px_cod 34 1 = some ((.ifnull 17), 3, [18], 0) := rfl
theorem k34_4 : px_cod 34 4 = some ((.iload_n 1), 1, [], 1) := rfl
theorem k34_5 : px_cod 34 5 = some ((.ifCond .lt 13), 3, [18], 0) := rfl
theorem k34_8 : px_cod 34 8 = some ((.iload_n 1), 1, [], 1) := rfl
theorem k34_9 : px_cod 34 9 = some ((.aload_n 0), 1, [], 0) := rfl
theorem k34_10 : px_cod 34 10 = some (.arraylength, 1, [], 0) := rfl
theorem k34_11 : px_cod 34 11 = some ((.if_icmp .ge 7), 3, [18], 0) := rfl
theorem k34_14 : px_cod 34 14 = some ((.aload_n 0), 1, [], 0) := rfl
theorem k34_15 : px_cod 34 15 = some ((.iload_n 1), 1, [], 1) := rfl
theorem k34_16 : px_cod 34 16 = some ((.iload_n 2), 1, [], 2) := rfl
theorem k34_17 : px_cod 34 17 = some (.iastore, 1, [], 0) := rfl
theorem k34_18 : px_cod 34 18 = some (.return_, 1, [], 0) := rfl
theorem k35_0 : px_cod 35 0 = some ((.aload_n 0), 1, [], 0) := rfl
theorem k35_1 : px_cod 35 1 = some ((.ifnull 21), 3, [22], 0) := rfl
theorem k35_4 : px_cod 35 4 = some ((.aload_n 1), 1, [], 1) := rfl
theorem k35_5 : px_cod 35 5 = some ((.ifnull 17), 3, [22], 0) := rfl
theorem k35_8 : px_cod 35 8 = some ((.aload_n 0), 1, [], 0) := rfl
theorem k35_9 : px_cod 35 9 = some ((.iconst 0), 1, [], 0) := rfl
theorem k35_10 : px_cod 35 10 = some ((.aload_n 1), 1, [], 1) := rfl
theorem k35_11 : px_cod 35 11 = some ((.iconst 0), 1, [], 0) := rfl
theorem k35_12 : px_cod 35 12 = some ((.aload_n 0), 1, [], 0) := rfl
theorem k35_13 : px_cod 35 13 = some (.arraylength, 1, [], 0) := rfl
theorem k35_14 : px_cod 35 14 = some ((.aload_n 1), 1, [], 1) := rfl
theorem k35_15 : px_cod 35 15 = some (.arraylength, 1, [], 0) := rfl
theorem k35_16 : px_cod 35 16 = some ((.invokestatic 7), 3, [6, 1], 0) := rfl
theorem k35_19 : px_cod 35 19 = some ((.invokestatic 316), 3, [2, 3], 0) := rfl
theorem k35_22 : px_cod 35 22 = some (.return_, 1, [], 0) := rfl
section PXL
variable {L t : Nat} {r : MR}
-- TideGuests.cell ('R3', 'I', 'I', 'I')
theorem b1_0 (hr : px_hr r) (d : Nat) (i l : MI) (x1 : Int) (x2 : Int) (x3 : Int) : px_X (d + 1) 1 (0, [vR 3, vI x1, vI x2, vI x3], []) (px_sh L, i, l, r, t) = (px_C d 37 [vR 19, vI x1] (px_sh L, i, l, r, t)).bind (fun q => px_X (d + 1) 1 (px_psh (11, [vR 3, vI x1, vI x2, vI x3], []) q.1) q.2) := ((xs_aldn k1_0 rfl).trans ((xs_get4 k1_1 (px_s3 L) (Nat.le_of_ble_eq_true rfl) (px_r3_0 hr)).trans ((xs_get4 k1_4 (px_s4 L) (Nat.le_of_ble_eq_true rfl) (px_r4_0 hr)).trans ((xs_ildn k1_7 rfl).trans (xs_callvB k1_8 (as := [vI x1]) rfl rfl (Nat.le_of_ble_eq_true rfl) (Nat.le_of_ble_eq_true rfl) (Nat.le_of_ble_eq_true rfl) (px_s19 L) (Nat.le_of_ble_eq_true rfl))))))
theorem b1_11 (hr : px_hr r) (d : Nat) (i l : MI) (x1 : Int) (x2 : Int) (x3 : Int) (xs0 : Int) : px_X (d + 1) 1 (11, [vR 3, vI x1, vI x2, vI x3], [vI xs0]) (px_sh L, i, l, r, t) = if xs0 = 0 then some (some (vI 0), (px_sh L, i, l, r, t)) else (px_C d 30 [vI x2, vI 0, vI 99] (px_sh L, i, l, r, t)).bind (fun q => px_X (d + 1) 1 (px_psh (21, [vR 3, vI x1, vI x2, vI x3], []) q.1) q.2) := ((xs_ieq k1_11).trans (px_ite (fun c1 => ((xs_ic k1_24 (by omega)).trans (xs_rz k1_25 rfl (by omega)))) (fun c1 => ((xs_ildn k1_14 rfl).trans ((xs_ic k1_15 (by omega)).trans ((xs_bi k1_16 (by omega)).trans (xs_callsB k1_18 (as := [vI x2, vI 0, vI 99]) rfl rfl (Nat.le_of_ble_eq_true rfl) (Nat.le_of_ble_eq_true rfl) (Nat.le_of_ble_eq_true rfl))))))))
theorem b1_21 (hr : px_hr r) (d : Nat) (i l : MI) (x1 : Int) (x2 : Int) (x3 : Int) (xs0 : Int) : px_X (d + 1) 1 (21, [vR 3, vI x1, vI x2, vI x3], [vI xs0]) (px_sh L, i, l, r, t) = if xs0 = 0 then some (some (vI 0), (px_sh L, i, l, r, t)) else (px_C d 40 [vR 19, vI x1, vI x2, vI x3] (px_sh L, i, l, r, t)).bind (fun q => px_X (d + 1) 1 (px_psh (39, [vR 3, vI x1, vI x2, vI x3], []) q.1) q.2) := ((xs_ine k1_21).trans (px_ite (fun c1 => ((xs_ic k1_24 (by omega)).trans (xs_rz k1_25 rfl (by omega)))) (fun c1 => ((xs_aldn k1_26 rfl).trans ((xs_get4 k1_27 (px_s3 L) (Nat.le_of_ble_eq_true rfl) (px_r3_0 hr)).trans ((xs_get4 k1_30 (px_s4 L) (Nat.le_of_ble_eq_true rfl) (px_r4_0 hr)).trans ((xs_ildn k1_33 rfl).trans ((xs_ildn k1_34 rfl).trans ((xs_ildn k1_35 rfl).trans (xs_callvB k1_36 (as := [vI x1, vI x2, vI x3]) rfl rfl (Nat.le_of_ble_eq_true rfl) (Nat.le_of_ble_eq_true rfl) (Nat.le_of_ble_eq_true rfl) (px_s19 L) (Nat.le_of_ble_eq_true rfl)))))))))))
theorem b1_39 (hr : px_hr r) (d : Nat) (i l : MI) (x1 : Int) (x2 : Int) (x3 : Int) : px_X d 1 (39, [vR 3, vI x1, vI x2, vI x3], []) (px_sh L, i, l, r, t) = some (some (vI 1), (px_sh L, i, l, r, t)) := ((xs_ic k1_39 (by omega)).trans (xs_rz k1_40 rfl (by omega)))
-- TideGuests.inn ('R3', 'I')
theorem b2_0 (hr : px_hr r) (d : Nat) (i l : MI) (x1 : Int) : px_X (d + 1) 2 (0, [vR 3, vI x1], []) (px_sh L, i, l, r, t) = (px_C d 37 [vR 19, vI x1] (px_sh L, i, l, r, t)).bind (fun q => px_X (d + 1) 2 (px_psh (11, [vR 3, vI x1], []) q.1) q.2) := ((xs_aldn k2_0 rfl).trans ((xs_get4 k2_1 (px_s3 L) (Nat.le_of_ble_eq_true rfl) (px_r3_0 hr)).trans ((xs_get4 k2_4 (px_s4 L) (Nat.le_of_ble_eq_true rfl) (px_r4_0 hr)).trans ((xs_ildn k2_7 rfl).trans (xs_callvB k2_8 (as := [vI x1]) rfl rfl (Nat.le_of_ble_eq_true rfl) (Nat.le_of_ble_eq_true rfl) (Nat.le_of_ble_eq_true rfl) (px_s19 L) (Nat.le_of_ble_eq_true rfl))))))
theorem b2_11 (hr : px_hr r) (d : Nat) (i l : MI) (x1 : Int) (xs0 : Int) : px_X d 2 (11, [vR 3, vI x1], [vI xs0]) (px_sh L, i, l, r, t) = if xs0 = 0 then some (some (vI 0), (px_sh L, i, l, r, t)) else some (some (vI 1), (px_sh L, (px_up i 19 8 x1), l, r, t)) := ((xs_ine k2_11).trans (px_ite (fun c1 => ((xs_ic k2_14 (by omega)).trans (xs_rz k2_15 rfl (by omega)))) (fun c1 => ((xs_aldn k2_16 rfl).trans ((xs_get4 k2_17 (px_s3 L) (Nat.le_of_ble_eq_true rfl) (px_r3_0 hr)).trans ((xs_get4 k2_20 (px_s4 L) (Nat.le_of_ble_eq_true rfl) (px_r4_0 hr)).trans ((xs_ildn k2_23 rfl).trans ((xs_put0 k2_24 (Or.inl rfl) (px_s19 L) (Nat.le_of_ble_eq_true rfl)).trans ((xs_ic k2_27 (by omega)).trans (xs_rz k2_28 rfl (by omega)))))))))))
-- TideGuests.sky ('R3', 'I', 'I')
theorem b3_0 (hr : px_hr r) (d : Nat) (i l : MI) (x1 : Int) (x2 : Int) : px_X (d + 1) 3 (0, [vR 3, vI x1, vI x2], []) (px_sh L, i, l, r, t) = (px_C d 30 [vI x1, vI (-9), vI 9] (px_sh L, i, l, r, t)).bind (fun q => px_X (d + 1) 3 (px_psh (8, [vR 3, vI x1, vI x2], []) q.1) q.2) := ((xs_ildn k3_0 rfl).trans ((xs_bi k3_1 (by omega)).trans ((xs_bi k3_3 (by omega)).trans (xs_callsB k3_5 (as := [vI x1, vI (-9), vI 9]) rfl rfl (Nat.le_of_ble_eq_true rfl) (Nat.le_of_ble_eq_true rfl) (Nat.le_of_ble_eq_true rfl)))))
theorem b3_8 (hr : px_hr r) (d : Nat) (i l : MI) (x1 : Int) (x2 : Int) (xs0 : Int) : px_X (d + 1) 3 (8, [vR 3, vI x1, vI x2], [vI xs0]) (px_sh L, i, l, r, t) = if xs0 = 0 then some (some (vI 0), (px_sh L, i, l, r, t)) else (px_C d 30 [vI x2, vI 0, vI 9] (px_sh L, i, l, r, t)).bind (fun q => px_X (d + 1) 3 (px_psh (18, [vR 3, vI x1, vI x2], []) q.1) q.2) := ((xs_ieq k3_8).trans (px_ite (fun c1 => ((xs_ic k3_21 (by omega)).trans (xs_rz k3_22 rfl (by omega)))) (fun c1 => ((xs_ildn k3_11 rfl).trans ((xs_ic k3_12 (by omega)).trans ((xs_bi k3_13 (by omega)).trans (xs_callsB k3_15 (as := [vI x2, vI 0, vI 9]) rfl rfl (Nat.le_of_ble_eq_true rfl) (Nat.le_of_ble_eq_true rfl) (Nat.le_of_ble_eq_true rfl))))))))
theorem b3_18 (hr : px_hr r) (d : Nat) (i l : MI) (x1 : Int) (x2 : Int) (xs0 : Int) : px_X (d + 1) 3 (18, [vR 3, vI x1, vI x2], [vI xs0]) (px_sh L, i, l, r, t) = if xs0 = 0 then some (some (vI 0), (px_sh L, i, l, r, t)) else (px_C d 63 [vR 68] (px_sh L, (px_up (px_up i 4 3 x1) 4 4 x2), l, r, t)).bind (fun q => px_X (d + 1) 3 (px_psh (46, [vR 3, vI x1, vI x2], []) q.1) q.2) := ((xs_ine k3_18).trans (px_ite (fun c1 => ((xs_ic k3_21 (by omega)).trans (xs_rz k3_22 rfl (by omega)))) (fun c1 => ((xs_aldn k3_23 rfl).trans ((xs_get4 k3_24 (px_s3 L) (Nat.le_of_ble_eq_true rfl) (px_r3_0 hr)).trans ((xs_ildn k3_27 rfl).trans ((xs_put0 k3_28 (Or.inl rfl) (px_s4 L) (Nat.le_of_ble_eq_true rfl)).trans ((xs_aldn k3_31 rfl).trans ((xs_get4 k3_32 (px_s3 L) (Nat.le_of_ble_eq_true rfl) (px_r3_0 hr)).trans ((xs_ildn k3_35 rfl).trans ((xs_put0 k3_36 (Or.inl rfl) (px_s4 L) (Nat.le_of_ble_eq_true rfl)).trans ((xs_aldn k3_39 rfl).trans ((xs_get4 k3_40 (px_s3 L) (Nat.le_of_ble_eq_true rfl) (px_r3_3 hr)).trans (xs_callvB k3_43 (as := []) rfl rfl (Nat.le_of_ble_eq_true rfl) (Nat.le_of_ble_eq_true rfl) (Nat.le_of_ble_eq_true rfl) (px_s68 L) (Nat.le_of_ble_eq_true rfl)))))))))))))))
theorem b3_46 (hr : px_hr r) (d : Nat) (i l : MI) (x1 : Int) (x2 : Int) : px_X d 3 (46, [vR 3, vI x1, vI x2], []) (px_sh L, i, l, r, t) = some (some (vI 1), (px_sh L, i, l, r, t)) := ((xs_ic k3_46 (by omega)).trans (xs_rz k3_47 rfl (by omega)))
-- TideGuests.perch ('R3', 'I', 'I')
theorem b4_0 (hr : px_hr r) (d : Nat) (i l : MI) (x1 : Int) (x2 : Int) : px_X (d + 1) 4 (0, [vR 3, vI x1, vI x2], []) (px_sh L, i, l, r, t) = (px_C d 30 [vI x1, vI 0, vI 99] (px_sh L, i, l, r, t)).bind (fun q => px_X (d + 1) 4 (px_psh (7, [vR 3, vI x1, vI x2], []) q.1) q.2) := ((xs_ildn k4_0 rfl).trans ((xs_ic k4_1 (by omega)).trans ((xs_bi k4_2 (by omega)).trans (xs_callsB k4_4 (as := [vI x1, vI 0, vI 99]) rfl rfl (Nat.le_of_ble_eq_true rfl) (Nat.le_of_ble_eq_true rfl) (Nat.le_of_ble_eq_true rfl)))))
theorem b4_7 (hr : px_hr r) (d : Nat) (i l : MI) (x1 : Int) (x2 : Int) (xs0 : Int) : px_X (d + 1) 4 (7, [vR 3, vI x1, vI x2], [vI xs0]) (px_sh L, i, l, r, t) = if xs0 = 0 then some (some (vI (-1)), (px_sh L, i, l, r, t)) else (px_C d 30 [vI x2, vI 1, vI 4] (px_sh L, i, l, r, t)).bind (fun q => px_X (d + 1) 4 (px_psh (16, [vR 3, vI x1, vI x2], []) q.1) q.2) := ((xs_ieq k4_7).trans (px_ite (fun c1 => ((xs_ic k4_31 (by omega)).trans (xs_ri k4_32 rfl))) (fun c1 => ((xs_ildn k4_10 rfl).trans ((xs_ic k4_11 (by omega)).trans ((xs_ic k4_12 (by omega)).trans (xs_callsB k4_13 (as := [vI x2, vI 1, vI 4]) rfl rfl (Nat.le_of_ble_eq_true rfl) (Nat.le_of_ble_eq_true rfl) (Nat.le_of_ble_eq_true rfl))))))))
theorem b4_16 (hr : px_hr r) (d : Nat) (i l : MI) (x1 : Int) (x2 : Int) (xs0 : Int) : px_X (d + 1) 4 (16, [vR 3, vI x1, vI x2], [vI xs0]) (px_sh L, i, l, r, t) = if xs0 = 0 then some (some (vI (-1)), (px_sh L, i, l, r, t)) else if (i 4 5) < 8 then (px_C d 55 [vR 4, vI x1, vI x2] (px_sh L, i, l, r, t)).bind (fun q => px_X (d + 1) 4 (px_psh (42, [vR 3, vI x1, vI x2], []) q.1) q.2) else some (some (vI (-1)), (px_sh L, i, l, r, t)) := ((xs_ieq k4_16).trans (px_ite (fun c1 => ((xs_ic k4_31 (by omega)).trans (xs_ri k4_32 rfl))) (fun c1 => ((xs_aldn k4_19 rfl).trans ((xs_get4 k4_20 (px_s3 L) (Nat.le_of_ble_eq_true rfl) (px_r3_0 hr)).trans ((xs_get0 k4_23 (px_s4 L) (Nat.le_of_ble_eq_true rfl)).trans ((xs_bi k4_26 (by omega)).trans ((xs_jlt k4_28).trans (px_ite (fun c2 => ((xs_aldn k4_33 rfl).trans ((xs_get4 k4_34 (px_s3 L) (Nat.le_of_ble_eq_true rfl) (px_r3_0 hr)).trans ((xs_ildn k4_37 rfl).trans ((xs_ildn k4_38 rfl).trans (xs_callvB k4_39 (as := [vI x1, vI x2]) rfl rfl (Nat.le_of_ble_eq_true rfl) (Nat.le_of_ble_eq_true rfl) (Nat.le_of_ble_eq_true rfl) (px_s4 L) (Nat.le_of_ble_eq_true rfl))))))) (fun c2 => ((xs_ic k4_31 (by omega)).trans (xs_ri k4_32 rfl))))))))))))
theorem b4_42 (hr : px_hr r) (d : Nat) (i l : MI) (x1 : Int) (x2 : Int) (xs0 : Int) : px_X d 4 (42, [vR 3, vI x1, vI x2], [vI xs0]) (px_sh L, i, l, r, t) = some (some (vI xs0), (px_sh L, i, l, r, t)) := (xs_ri k4_42 rfl)
-- TideGuests.guest ('R3', 'I', 'I', 'I', 'I', 'I', 'I', 'I')
theorem b5_0 (hr : px_hr r) (d : Nat) (i l : MI) (x1 : Int) (x2 : Int) (x3 : Int) (x4 : Int) (x5 : Int) (x6 : Int) (x7 : Int) : px_X (d + 1) 5 (0, [vR 3, vI x1, vI x2, vI x3, vI x4, vI x5, vI x6, vI x7, vJ, vJ], []) (px_sh L, i, l, r, t) = (px_C d 30 [vI x1, vI 0, vI 9] (px_sh L, i, l, r, t)).bind (fun q => px_X (d + 1) 5 (px_psh (7, [vR 3, vI x1, vI x2, vI x3, vI x4, vI x5, vI x6, vI x7, vJ, vJ], []) q.1) q.2) := ((xs_ildn k5_0 rfl).trans ((xs_ic k5_1 (by omega)).trans ((xs_bi k5_2 (by omega)).trans (xs_callsB k5_4 (as := [vI x1, vI 0, vI 9]) rfl rfl (Nat.le_of_ble_eq_true rfl) (Nat.le_of_ble_eq_true rfl) (Nat.le_of_ble_eq_true rfl)))))
theorem b5_7 (hr : px_hr r) (d : Nat) (i l : MI) (x1 : Int) (x2 : Int) (x3 : Int) (x4 : Int) (x5 : Int) (x6 : Int) (x7 : Int) (xs0 : Int) : px_X (d + 1) 5 (7, [vR 3, vI x1, vI x2, vI x3, vI x4, vI x5, vI x6, vI x7, vJ, vJ], [vI xs0]) (px_sh L, i, l, r, t) = if xs0 = 0 then px_X (d + 1) 5 (68, [vR 3, vI x1, vI x2, vI x3, vI x4, vI x5, vI x6, vI x7, vJ, vJ], []) (px_sh L, i, l, r, t) else (px_C d 30 [vI x2, vI 0, vI 30] (px_sh L, i, l, r, t)).bind (fun q => px_X (d + 1) 5 (px_psh (17, [vR 3, vI x1, vI x2, vI x3, vI x4, vI x5, vI x6, vI x7, vJ, vJ], []) q.1) q.2) := ((xs_ieq k5_7).trans (px_ite (fun c1 => rfl) (fun c1 => ((xs_ildn k5_10 rfl).trans ((xs_ic k5_11 (by omega)).trans ((xs_bi k5_12 (by omega)).trans (xs_callsB k5_14 (as := [vI x2, vI 0, vI 30]) rfl rfl (Nat.le_of_ble_eq_true rfl) (Nat.le_of_ble_eq_true rfl) (Nat.le_of_ble_eq_true rfl))))))))
theorem b5_17 (hr : px_hr r) (d : Nat) (i l : MI) (x1 : Int) (x2 : Int) (x3 : Int) (x4 : Int) (x5 : Int) (x6 : Int) (x7 : Int) (xs0 : Int) : px_X (d + 1) 5 (17, [vR 3, vI x1, vI x2, vI x3, vI x4, vI x5, vI x6, vI x7, vJ, vJ], [vI xs0]) (px_sh L, i, l, r, t) = if xs0 = 0 then px_X (d + 1) 5 (68, [vR 3, vI x1, vI x2, vI x3, vI x4, vI x5, vI x6, vI x7, vJ, vJ], []) (px_sh L, i, l, r, t) else (px_C d 30 [vI x4, vI 0, vI 9] (px_sh L, i, l, r, t)).bind (fun q => px_X (d + 1) 5 (px_psh (28, [vR 3, vI x1, vI x2, vI x3, vI x4, vI x5, vI x6, vI x7, vJ, vJ], []) q.1) q.2) := ((xs_ieq k5_17).trans (px_ite (fun c1 => rfl) (fun c1 => ((xs_ild k5_20 rfl).trans ((xs_ic k5_22 (by omega)).trans ((xs_bi k5_23 (by omega)).trans (xs_callsB k5_25 (as := [vI x4, vI 0, vI 9]) rfl rfl (Nat.le_of_ble_eq_true rfl) (Nat.le_of_ble_eq_true rfl) (Nat.le_of_ble_eq_true rfl))))))))
theorem b5_28 (hr : px_hr r) (d : Nat) (i l : MI) (x1 : Int) (x2 : Int) (x3 : Int) (x4 : Int) (x5 : Int) (x6 : Int) (x7 : Int) (xs0 : Int) : px_X (d + 1) 5 (28, [vR 3, vI x1, vI x2, vI x3, vI x4, vI x5, vI x6, vI x7, vJ, vJ], [vI xs0]) (px_sh L, i, l, r, t) = if xs0 = 0 then px_X (d + 1) 5 (68, [vR 3, vI x1, vI x2, vI x3, vI x4, vI x5, vI x6, vI x7, vJ, vJ], []) (px_sh L, i, l, r, t) else (px_C d 30 [vI x5, vI 0, vI 9] (px_sh L, i, l, r, t)).bind (fun q => px_X (d + 1) 5 (px_psh (39, [vR 3, vI x1, vI x2, vI x3, vI x4, vI x5, vI x6, vI x7, vJ, vJ], []) q.1) q.2) := ((xs_ieq k5_28).trans (px_ite (fun c1 => rfl) (fun c1 => ((xs_ild k5_31 rfl).trans ((xs_ic k5_33 (by omega)).trans ((xs_bi k5_34 (by omega)).trans (xs_callsB k5_36 (as := [vI x5, vI 0, vI 9]) rfl rfl (Nat.le_of_ble_eq_true rfl) (Nat.le_of_ble_eq_true rfl) (Nat.le_of_ble_eq_true rfl))))))))
theorem b5_39 (hr : px_hr r) (d : Nat) (i l : MI) (x1 : Int) (x2 : Int) (x3 : Int) (x4 : Int) (x5 : Int) (x6 : Int) (x7 : Int) (xs0 : Int) : px_X (d + 1) 5 (39, [vR 3, vI x1, vI x2, vI x3, vI x4, vI x5, vI x6, vI x7, vJ, vJ], [vI xs0]) (px_sh L, i, l, r, t) = if xs0 = 0 then px_X (d + 1) 5 (68, [vR 3, vI x1, vI x2, vI x3, vI x4, vI x5, vI x6, vI x7, vJ, vJ], []) (px_sh L, i, l, r, t) else (px_C d 30 [vI x6, vI 1, vI 20] (px_sh L, i, l, r, t)).bind (fun q => px_X (d + 1) 5 (px_psh (50, [vR 3, vI x1, vI x2, vI x3, vI x4, vI x5, vI x6, vI x7, vJ, vJ], []) q.1) q.2) := ((xs_ieq k5_39).trans (px_ite (fun c1 => rfl) (fun c1 => ((xs_ild k5_42 rfl).trans ((xs_ic k5_44 (by omega)).trans ((xs_bi k5_45 (by omega)).trans (xs_callsB k5_47 (as := [vI x6, vI 1, vI 20]) rfl rfl (Nat.le_of_ble_eq_true rfl) (Nat.le_of_ble_eq_true rfl) (Nat.le_of_ble_eq_true rfl))))))))
theorem b5_50 (hr : px_hr r) (d : Nat) (i l : MI) (x1 : Int) (x2 : Int) (x3 : Int) (x4 : Int) (x5 : Int) (x6 : Int) (x7 : Int) (xs0 : Int) : px_X (d + 1) 5 (50, [vR 3, vI x1, vI x2, vI x3, vI x4, vI x5, vI x6, vI x7, vJ, vJ], [vI xs0]) (px_sh L, i, l, r, t) = if xs0 = 0 then px_X (d + 1) 5 (68, [vR 3, vI x1, vI x2, vI x3, vI x4, vI x5, vI x6, vI x7, vJ, vJ], []) (px_sh L, i, l, r, t) else (px_C d 30 [vI x7, vI 0, vI 30] (px_sh L, i, l, r, t)).bind (fun q => px_X (d + 1) 5 (px_psh (61, [vR 3, vI x1, vI x2, vI x3, vI x4, vI x5, vI x6, vI x7, vJ, vJ], []) q.1) q.2) := ((xs_ieq k5_50).trans (px_ite (fun c1 => rfl) (fun c1 => ((xs_ild k5_53 rfl).trans ((xs_ic k5_55 (by omega)).trans ((xs_bi k5_56 (by omega)).trans (xs_callsB k5_58 (as := [vI x7, vI 0, vI 30]) rfl rfl (Nat.le_of_ble_eq_true rfl) (Nat.le_of_ble_eq_true rfl) (Nat.le_of_ble_eq_true rfl))))))))
theorem b5_61 (hr : px_hr r) (d : Nat) (i l : MI) (x1 : Int) (x2 : Int) (x3 : Int) (x4 : Int) (x5 : Int) (x6 : Int) (x7 : Int) (xs0 : Int) : px_X d 5 (61, [vR 3, vI x1, vI x2, vI x3, vI x4, vI x5, vI x6, vI x7, vJ, vJ], [vI xs0]) (px_sh L, i, l, r, t) = if xs0 = 0 then px_X d 5 (68, [vR 3, vI x1, vI x2, vI x3, vI x4, vI x5, vI x6, vI x7, vJ, vJ], []) (px_sh L, i, l, r, t) else px_X d 5 (69, [vR 3, vI x1, vI x2, vI x3, vI x4, vI x5, vI x6, vI x7, vJ, vJ], [vI 1]) (px_sh L, i, l, r, t) := ((xs_ieq k5_61).trans (px_ite (fun c1 => rfl) (fun c1 => ((xs_ic k5_64 (by omega)).trans (xs_goto k5_65)))))
theorem b5_68 (hr : px_hr r) (d : Nat) (i l : MI) (x1 : Int) (x2 : Int) (x3 : Int) (x4 : Int) (x5 : Int) (x6 : Int) (x7 : Int) : px_X d 5 (68, [vR 3, vI x1, vI x2, vI x3, vI x4, vI x5, vI x6, vI x7, vJ, vJ], []) (px_sh L, i, l, r, t) = px_X d 5 (69, [vR 3, vI x1, vI x2, vI x3, vI x4, vI x5, vI x6, vI x7, vJ, vJ], [vI 0]) (px_sh L, i, l, r, t) := (xs_ic k5_68 (by omega))
theorem b5_69 (hr : px_hr r) (d : Nat) (i l : MI) (x1 : Int) (x2 : Int) (x3 : Int) (x4 : Int) (x5 : Int) (x6 : Int) (x7 : Int) (xs0 : Int) : px_X (d + 1) 5 (69, [vR 3, vI x1, vI x2, vI x3, vI x4, vI x5, vI x6, vI x7, vJ, vJ], [vI xs0]) (px_sh L, i, l, r, t) = (px_C d 53 [vR 4] (px_sh L, i, l, r, t)).bind (fun q => px_X (d + 1) 5 (px_psh (78, [vR 3, vI x1, vI x2, vI x3, vI x4, vI x5, vI x6, vI x7, vI xs0, vJ], []) q.1) q.2) := ((xs_ist k5_69 (Nat.le_of_ble_eq_true rfl) (ls' := [vR 3, vI x1, vI x2, vI x3, vI x4, vI x5, vI x6, vI x7, vI xs0, vJ]) rfl).trans ((xs_aldn k5_71 rfl).trans ((xs_get4 k5_72 (px_s3 L) (Nat.le_of_ble_eq_true rfl) (px_r3_0 hr)).trans (xs_callvB k5_75 (as := []) rfl rfl (Nat.le_of_ble_eq_true rfl) (Nat.le_of_ble_eq_true rfl) (Nat.le_of_ble_eq_true rfl) (px_s4 L) (Nat.le_of_ble_eq_true rfl)))))
theorem b5_78_N (hr : px_hr r) (d : Nat) (i l : MI) (x1 : Int) (x2 : Int) (x3 : Int) (x4 : Int) (x5 : Int) (x6 : Int) (x7 : Int) (x8 : Int) : px_X d 5 (78, [vR 3, vI x1, vI x2, vI x3, vI x4, vI x5, vI x6, vI x7, vI x8, vJ], [vN]) (px_sh L, i, l, r, t) = if x8 = 0 then some (some (vI (-1)), (px_sh L, i, l, r, t)) else some (some (vI (-1)), (px_sh L, i, l, r, t)) := ((xs_ast k5_78 (Nat.le_of_ble_eq_true rfl) (ls' := [vR 3, vI x1, vI x2, vI x3, vI x4, vI x5, vI x6, vI x7, vI x8, vN]) rfl).trans ((xs_ild k5_80 rfl).trans ((xs_ieq k5_82).trans (px_ite (fun c1 => ((xs_ic k5_90 (by omega)).trans (xs_ri k5_91 rfl))) (fun c1 => ((xs_ald k5_85 rfl).trans ((xs_nnulN k5_87).trans ((xs_ic k5_90 (by omega)).trans (xs_ri k5_91 rfl)))))))))
theorem b5_78_g (hr : px_hr r) (d : Nat) (i l : MI) (x1 : Int) (x2 : Int) (x3 : Int) (x4 : Int) (x5 : Int) (x6 : Int) (x7 : Int) (x8 : Int) {ks0 : Nat} (hgs0 : px_gs ks0) : px_X (d + 1) 5 (78, [vR 3, vI x1, vI x2, vI x3, vI x4, vI x5, vI x6, vI x7, vI x8, vJ], [vR ks0]) (px_sh L, i, l, r, t) = if x8 = 0 then some (some (vI (-1)), (px_sh L, i, l, r, t)) else (px_C d 49 [vR ks0, vI x1, vI x2, vI x3, vI x4, vI x5, vI x6, vI x7] (px_sh L, i, l, r, t)).bind (fun q => px_X (d + 1) 5 (px_psh (108, [vR 3, vI x1, vI x2, vI x3, vI x4, vI x5, vI x6, vI x7, vI x8, vR ks0], []) q.1) q.2) := ((xs_ast k5_78 (Nat.le_of_ble_eq_true rfl) (ls' := [vR 3, vI x1, vI x2, vI x3, vI x4, vI x5, vI x6, vI x7, vI x8, vR ks0]) rfl).trans ((xs_ild k5_80 rfl).trans ((xs_ieq k5_82).trans (px_ite (fun c1 => ((xs_ic k5_90 (by omega)).trans (xs_ri k5_91 rfl))) (fun c1 => ((xs_ald k5_85 rfl).trans ((xs_nnulR k5_87).trans ((xs_ald k5_92 rfl).trans ((xs_ildn k5_94 rfl).trans ((xs_ildn k5_95 rfl).trans ((xs_ildn k5_96 rfl).trans ((xs_ild k5_97 rfl).trans ((xs_ild k5_99 rfl).trans ((xs_ild k5_101 rfl).trans ((xs_ild k5_103 rfl).trans (xs_callvB k5_105 (as := [vI x1, vI x2, vI x3, vI x4, vI x5, vI x6, vI x7]) rfl rfl (Nat.le_of_ble_eq_true rfl) (Nat.le_of_ble_eq_true rfl) (Nat.le_of_ble_eq_true rfl) (px_gs_sh hgs0) (px_gs_3 hgs0)))))))))))))))))
theorem b5_108 (hr : px_hr r) (d : Nat) (i l : MI) (x1 : Int) (x2 : Int) (x3 : Int) (x4 : Int) (x5 : Int) (x6 : Int) (x7 : Int) (x8 : Int) {v9 : PV} (hn9 : px_nl v9) : px_X (d + 1) 5 (108, [vR 3, vI x1, vI x2, vI x3, vI x4, vI x5, vI x6, vI x7, vI x8, v9], []) (px_sh L, i, l, r, t) = (px_C d 54 [vR 4] (px_sh L, i, l, r, t)).bind (fun q => px_X (d + 1) 5 (px_psh (115, [vR 3, vI x1, vI x2, vI x3, vI x4, vI x5, vI x6, vI x7, vI x8, v9], []) q.1) q.2) := ((xs_aldn k5_108 rfl).trans ((xs_get4 k5_109 (px_s3 L) (Nat.le_of_ble_eq_true rfl) (px_r3_0 hr)).trans (xs_callvB k5_112 (as := []) rfl rfl (Nat.le_of_ble_eq_true rfl) (Nat.le_of_ble_eq_true rfl) (Nat.le_of_ble_eq_true rfl) (px_s4 L) (Nat.le_of_ble_eq_true rfl))))
theorem b5_115 (hr : px_hr r) (d : Nat) (i l : MI) (x1 : Int) (x2 : Int) (x3 : Int) (x4 : Int) (x5 : Int) (x6 : Int) (x7 : Int) (x8 : Int) {v9 : PV} (hn9 : px_nl v9) (xs0 : Int) : px_X d 5 (115, [vR 3, vI x1, vI x2, vI x3, vI x4, vI x5, vI x6, vI x7, vI x8, v9], [vI xs0]) (px_sh L, i, l, r, t) = some (some (vI xs0), (px_sh L, i, l, r, t)) := (xs_ri k5_115 rfl)
-- TideGuests.here ('R3', 'I', 'I', 'I')
theorem b6_0 (hr : px_hr r) (d : Nat) (i l : MI) (x1 : Int) (x2 : Int) (x3 : Int) : px_X (d + 1) 6 (0, [vR 3, vI x1, vI x2, vI x3, vJ], []) (px_sh L, i, l, r, t) = (px_C d 52 [vR 4, vI x1] (px_sh L, i, l, r, t)).bind (fun q => px_X (d + 1) 6 (px_psh (8, [vR 3, vI x1, vI x2, vI x3, vJ], []) q.1) q.2) := ((xs_aldn k6_0 rfl).trans ((xs_get4 k6_1 (px_s3 L) (Nat.le_of_ble_eq_true rfl) (px_r3_0 hr)).trans ((xs_ildn k6_4 rfl).trans (xs_callvB k6_5 (as := [vI x1]) rfl rfl (Nat.le_of_ble_eq_true rfl) (Nat.le_of_ble_eq_true rfl) (Nat.le_of_ble_eq_true rfl) (px_s4 L) (Nat.le_of_ble_eq_true rfl)))))
theorem b6_8_N (hr : px_hr r) (d : Nat) (i l : MI) (x1 : Int) (x2 : Int) (x3 : Int) : px_X d 6 (8, [vR 3, vI x1, vI x2, vI x3, vJ], [vN]) (px_sh L, i, l, r, t) = some (some (vI 0), (px_sh L, i, l, r, t)) := ((xs_ast k6_8 (Nat.le_of_ble_eq_true rfl) (ls' := [vR 3, vI x1, vI x2, vI x3, vN]) rfl).trans ((xs_ald k6_10 rfl).trans ((xs_nullN k6_12).trans ((xs_ic k6_25 (by omega)).trans (xs_rz k6_26 rfl (by omega))))))
theorem b6_8_g (hr : px_hr r) (d : Nat) (i l : MI) (x1 : Int) (x2 : Int) (x3 : Int) {ks0 : Nat} (hgs0 : px_gs ks0) : px_X (d + 1) 6 (8, [vR 3, vI x1, vI x2, vI x3, vJ], [vR ks0]) (px_sh L, i, l, r, t) = (px_C d 30 [vI x2, vI 0, vI 99] (px_sh L, i, l, r, t)).bind (fun q => px_X (d + 1) 6 (px_psh (22, [vR 3, vI x1, vI x2, vI x3, vR ks0], []) q.1) q.2) := ((xs_ast k6_8 (Nat.le_of_ble_eq_true rfl) (ls' := [vR 3, vI x1, vI x2, vI x3, vR ks0]) rfl).trans ((xs_ald k6_10 rfl).trans ((xs_nullR k6_12).trans ((xs_ildn k6_15 rfl).trans ((xs_ic k6_16 (by omega)).trans ((xs_bi k6_17 (by omega)).trans (xs_callsB k6_19 (as := [vI x2, vI 0, vI 99]) rfl rfl (Nat.le_of_ble_eq_true rfl) (Nat.le_of_ble_eq_true rfl) (Nat.le_of_ble_eq_true rfl))))))))
theorem b6_22 (hr : px_hr r) (d : Nat) (i l : MI) (x1 : Int) (x2 : Int) (x3 : Int) {k4 : Nat} (hg4 : px_gs k4) (xs0 : Int) (h1 : (¬ (xs0 = 0)) → x3 = 0 ∨ x3 = 1) : px_X d 6 (22, [vR 3, vI x1, vI x2, vI x3, vR k4], [vI xs0]) (px_sh L, i, l, r, t) = if xs0 = 0 then some (some (vI 0), (px_sh L, i, l, r, t)) else some (some (vI 1), (px_sh L, (px_up (px_up i k4 7 x2) k4 8 x3), l, r, t)) := ((xs_ine k6_22).trans (px_ite (fun c1 => ((xs_ic k6_25 (by omega)).trans (xs_rz k6_26 rfl (by omega)))) (fun c1 => ((xs_ald k6_27 rfl).trans ((xs_ildn k6_29 rfl).trans ((xs_put0 k6_30 (Or.inl rfl) (px_gs_sh hg4) (px_gs_3 hg4)).trans ((xs_ald k6_33 rfl).trans ((xs_ildn k6_35 rfl).trans ((xs_put1 k6_36 (Or.inl rfl) (px_gs_sh hg4) (px_gs_3 hg4) (h1 c1)).trans ((xs_ic k6_39 (by omega)).trans (xs_rz k6_40 rfl (by omega))))))))))))
-- TideGuests.feed ('R3', 'I', 'I', 'I', 'I', 'I')
theorem b7_0 (hr : px_hr r) (d : Nat) (i l : MI) (x1 : Int) (x2 : Int) (x3 : Int) (x4 : Int) (x5 : Int) : px_X (d + 1) 7 (0, [vR 3, vI x1, vI x2, vI x3, vI x4, vI x5], []) (px_sh L, i, l, r, t) = (px_C d 90 [vR 58, vI 20] (px_sh L, i, l, r, t)).bind (fun q => px_X (d + 1) 7 (px_psh (9, [vR 3, vI x1, vI x2, vI x3, vI x4, vI x5], []) q.1) q.2) := ((xs_aldn k7_0 rfl).trans ((xs_get4 k7_1 (px_s3 L) (Nat.le_of_ble_eq_true rfl) (px_r3_2 hr)).trans ((xs_bi k7_4 (by omega)).trans (xs_callvB k7_6 (as := [vI 20]) rfl rfl (Nat.le_of_ble_eq_true rfl) (Nat.le_of_ble_eq_true rfl) (Nat.le_of_ble_eq_true rfl) (px_s58 L) (Nat.le_of_ble_eq_true rfl)))))
theorem b7_9 (hr : px_hr r) (d : Nat) (i l : MI) (x1 : Int) (x2 : Int) (x3 : Int) (x4 : Int) (x5 : Int) (xs0 : Int) : px_X (d + 1) 7 (9, [vR 3, vI x1, vI x2, vI x3, vI x4, vI x5], [vI xs0]) (px_sh L, i, l, r, t) = if xs0 = 0 then some (some (vI (-1)), (px_sh L, i, l, r, t)) else (px_C d 91 [vR 58, vI x1] (px_sh L, i, l, r, t)).bind (fun q => px_X (d + 1) 7 (px_psh (22, [vR 3, vI x1, vI x2, vI x3, vI x4, vI x5], []) q.1) q.2) := ((xs_ine k7_9).trans (px_ite (fun c1 => ((xs_ic k7_12 (by omega)).trans (xs_ri k7_13 rfl))) (fun c1 => ((xs_aldn k7_14 rfl).trans ((xs_get4 k7_15 (px_s3 L) (Nat.le_of_ble_eq_true rfl) (px_r3_2 hr)).trans ((xs_ildn k7_18 rfl).trans (xs_callvB k7_19 (as := [vI x1]) rfl rfl (Nat.le_of_ble_eq_true rfl) (Nat.le_of_ble_eq_true rfl) (Nat.le_of_ble_eq_true rfl) (px_s58 L) (Nat.le_of_ble_eq_true rfl))))))))
theorem b7_22 (hr : px_hr r) (d : Nat) (i l : MI) (x1 : Int) (x2 : Int) (x3 : Int) (x4 : Int) (x5 : Int) : px_X (d + 1) 7 (22, [vR 3, vI x1, vI x2, vI x3, vI x4, vI x5], []) (px_sh L, i, l, r, t) = (px_C d 91 [vR 58, vI x2] (px_sh L, i, l, r, t)).bind (fun q => px_X (d + 1) 7 (px_psh (30, [vR 3, vI x1, vI x2, vI x3, vI x4, vI x5], []) q.1) q.2) := ((xs_aldn k7_22 rfl).trans ((xs_get4 k7_23 (px_s3 L) (Nat.le_of_ble_eq_true rfl) (px_r3_2 hr)).trans ((xs_ildn k7_26 rfl).trans (xs_callvB k7_27 (as := [vI x2]) rfl rfl (Nat.le_of_ble_eq_true rfl) (Nat.le_of_ble_eq_true rfl) (Nat.le_of_ble_eq_true rfl) (px_s58 L) (Nat.le_of_ble_eq_true rfl)))))
theorem b7_30 (hr : px_hr r) (d : Nat) (i l : MI) (x1 : Int) (x2 : Int) (x3 : Int) (x4 : Int) (x5 : Int) : px_X (d + 1) 7 (30, [vR 3, vI x1, vI x2, vI x3, vI x4, vI x5], []) (px_sh L, i, l, r, t) = (px_C d 91 [vR 58, vI x3] (px_sh L, i, l, r, t)).bind (fun q => px_X (d + 1) 7 (px_psh (38, [vR 3, vI x1, vI x2, vI x3, vI x4, vI x5], []) q.1) q.2) := ((xs_aldn k7_30 rfl).trans ((xs_get4 k7_31 (px_s3 L) (Nat.le_of_ble_eq_true rfl) (px_r3_2 hr)).trans ((xs_ildn k7_34 rfl).trans (xs_callvB k7_35 (as := [vI x3]) rfl rfl (Nat.le_of_ble_eq_true rfl) (Nat.le_of_ble_eq_true rfl) (Nat.le_of_ble_eq_true rfl) (px_s58 L) (Nat.le_of_ble_eq_true rfl)))))
theorem b7_38 (hr : px_hr r) (d : Nat) (i l : MI) (x1 : Int) (x2 : Int) (x3 : Int) (x4 : Int) (x5 : Int) : px_X (d + 1) 7 (38, [vR 3, vI x1, vI x2, vI x3, vI x4, vI x5], []) (px_sh L, i, l, r, t) = (px_C d 91 [vR 58, vI x4] (px_sh L, i, l, r, t)).bind (fun q => px_X (d + 1) 7 (px_psh (47, [vR 3, vI x1, vI x2, vI x3, vI x4, vI x5], []) q.1) q.2) := ((xs_aldn k7_38 rfl).trans ((xs_get4 k7_39 (px_s3 L) (Nat.le_of_ble_eq_true rfl) (px_r3_2 hr)).trans ((xs_ild k7_42 rfl).trans (xs_callvB k7_44 (as := [vI x4]) rfl rfl (Nat.le_of_ble_eq_true rfl) (Nat.le_of_ble_eq_true rfl) (Nat.le_of_ble_eq_true rfl) (px_s58 L) (Nat.le_of_ble_eq_true rfl)))))
theorem b7_47 (hr : px_hr r) (d : Nat) (i l : MI) (x1 : Int) (x2 : Int) (x3 : Int) (x4 : Int) (x5 : Int) : px_X (d + 1) 7 (47, [vR 3, vI x1, vI x2, vI x3, vI x4, vI x5], []) (px_sh L, i, l, r, t) = (px_C d 91 [vR 58, vI x5] (px_sh L, i, l, r, t)).bind (fun q => px_X (d + 1) 7 (px_psh (56, [vR 3, vI x1, vI x2, vI x3, vI x4, vI x5], []) q.1) q.2) := ((xs_aldn k7_47 rfl).trans ((xs_get4 k7_48 (px_s3 L) (Nat.le_of_ble_eq_true rfl) (px_r3_2 hr)).trans ((xs_ild k7_51 rfl).trans (xs_callvB k7_53 (as := [vI x5]) rfl rfl (Nat.le_of_ble_eq_true rfl) (Nat.le_of_ble_eq_true rfl) (Nat.le_of_ble_eq_true rfl) (px_s58 L) (Nat.le_of_ble_eq_true rfl)))))
theorem b7_56 (hr : px_hr r) (d : Nat) (i l : MI) (x1 : Int) (x2 : Int) (x3 : Int) (x4 : Int) (x5 : Int) : px_X d 7 (56, [vR 3, vI x1, vI x2, vI x3, vI x4, vI x5], []) (px_sh L, i, l, r, t) = some (some (vI (i 58 1)), (px_sh L, i, l, r, t)) := ((xs_aldn k7_56 rfl).trans ((xs_get4 k7_57 (px_s3 L) (Nat.le_of_ble_eq_true rfl) (px_r3_2 hr)).trans ((xs_get0 k7_60 (px_s58 L) (Nat.le_of_ble_eq_true rfl)).trans (xs_ri k7_63 rfl))))
-- TideGuests.end ('R3', 'I')
theorem b8_0 (hr : px_hr r) (d : Nat) (i l : MI) (x1 : Int) : px_X (d + 1) 8 (0, [vR 3, vI x1], []) (px_sh L, i, l, r, t) = (px_C d 30 [vI x1, vI 0, vI (i 58 1)] (px_sh L, i, l, r, t)).bind (fun q => px_X (d + 1) 8 (px_psh (12, [vR 3, vI x1], []) q.1) q.2) := ((xs_ildn k8_0 rfl).trans ((xs_ic k8_1 (by omega)).trans ((xs_aldn k8_2 rfl).trans ((xs_get4 k8_3 (px_s3 L) (Nat.le_of_ble_eq_true rfl) (px_r3_2 hr)).trans ((xs_get0 k8_6 (px_s58 L) (Nat.le_of_ble_eq_true rfl)).trans (xs_callsB k8_9 (as := [vI x1, vI 0, vI (i 58 1)]) rfl rfl (Nat.le_of_ble_eq_true rfl) (Nat.le_of_ble_eq_true rfl) (Nat.le_of_ble_eq_true rfl)))))))
theorem b8_12 (hr : px_hr r) (d : Nat) (i l : MI) (x1 : Int) (xs0 : Int) : px_X d 8 (12, [vR 3, vI x1], [vI xs0]) (px_sh L, i, l, r, t) = if xs0 = 0 then some (some (vI (-1)), (px_sh L, i, l, r, t)) else some (some (vI x1), (px_sh L, (px_up i 58 1 x1), l, r, t)) := ((xs_ine k8_12).trans (px_ite (fun c1 => ((xs_ic k8_15 (by omega)).trans (xs_ri k8_16 rfl))) (fun c1 => ((xs_aldn k8_17 rfl).trans ((xs_get4 k8_18 (px_s3 L) (Nat.le_of_ble_eq_true rfl) (px_r3_2 hr)).trans ((xs_ildn k8_21 rfl).trans ((xs_put0 k8_22 (Or.inl rfl) (px_s58 L) (Nat.le_of_ble_eq_true rfl)).trans ((xs_ildn k8_25 rfl).trans (xs_ri k8_26 rfl)))))))))
-- TideGuests.text ('R3',)
theorem b9_0 (hr : px_hr r) (d : Nat) (i l : MI)  : px_X (d + 1) 9 (0, [vR 3, vJ], []) (px_sh L, i, l, r, t) = (px_C d 64 [vR 68, vI (i 4 7)] (px_sh L, i, l, r, t)).bind (fun q => px_X (d + 1) 9 (px_psh (14, [vR 3, vJ], []) q.1) q.2) := ((xs_aldn k9_0 rfl).trans ((xs_get4 k9_1 (px_s3 L) (Nat.le_of_ble_eq_true rfl) (px_r3_3 hr)).trans ((xs_aldn k9_4 rfl).trans ((xs_get4 k9_5 (px_s3 L) (Nat.le_of_ble_eq_true rfl) (px_r3_0 hr)).trans ((xs_get0 k9_8 (px_s4 L) (Nat.le_of_ble_eq_true rfl)).trans (xs_callvB k9_11 (as := [vI (i 4 7)]) rfl rfl (Nat.le_of_ble_eq_true rfl) (Nat.le_of_ble_eq_true rfl) (Nat.le_of_ble_eq_true rfl) (px_s68 L) (Nat.le_of_ble_eq_true rfl)))))))
theorem b9_14_N (hr : px_hr r) (d : Nat) (i l : MI)  : px_X d 9 (14, [vR 3, vJ], [vN]) (px_sh L, i, l, r, t) = some (some (vI (-1)), (px_sh L, i, l, r, t)) := ((xs_astn k9_14 (Nat.le_of_ble_eq_true rfl) (ls' := [vR 3, vN]) rfl).trans ((xs_aldn k9_15 rfl).trans ((xs_nnulN k9_16).trans ((xs_ic k9_19 (by omega)).trans (xs_ri k9_20 rfl)))))
theorem b9_14_t (hr : px_hr r) (d : Nat) (i l : MI) {ks0 : Nat} (hts0 : px_tx ks0) : px_X (d + 1) 9 (14, [vR 3, vJ], [vR ks0]) (px_sh L, i, l, r, t) = (px_C d 92 [vR 58] (px_sh L, i, l, r, t)).bind (fun q => px_X (d + 1) 9 (px_psh (28, [vR 3, vR ks0], []) q.1) q.2) := ((xs_astn k9_14 (Nat.le_of_ble_eq_true rfl) (ls' := [vR 3, vR ks0]) rfl).trans ((xs_aldn k9_15 rfl).trans ((xs_nnulR k9_16).trans ((xs_aldn k9_21 rfl).trans ((xs_get4 k9_22 (px_s3 L) (Nat.le_of_ble_eq_true rfl) (px_r3_2 hr)).trans (xs_callvB k9_25 (as := []) rfl rfl (Nat.le_of_ble_eq_true rfl) (Nat.le_of_ble_eq_true rfl) (Nat.le_of_ble_eq_true rfl) (px_s58 L) (Nat.le_of_ble_eq_true rfl)))))))
theorem b9_28 (hr : px_hr r) (d : Nat) (i l : MI) {k1 : Nat} (ht1 : px_tx k1) : px_X (d + 1) 9 (28, [vR 3, vR k1], []) (px_sh L, i, l, r, t) = if (i 58 3) = 0 then (px_C d 139 [vR k1, vR 59] (px_sh L, i, l, r, t)).bind (fun q => px_X (d + 1) 9 (px_psh (51, [vR 3, vR k1], []) q.1) q.2) else some (some (vI (-1)), (px_sh L, i, l, r, t)) := ((xs_aldn k9_28 rfl).trans ((xs_get4 k9_29 (px_s3 L) (Nat.le_of_ble_eq_true rfl) (px_r3_2 hr)).trans ((xs_get0 k9_32 (px_s58 L) (Nat.le_of_ble_eq_true rfl)).trans ((xs_ieq k9_35).trans (px_ite (fun c1 => ((xs_aldn k9_40 rfl).trans ((xs_aldn k9_41 rfl).trans ((xs_get4 k9_42 (px_s3 L) (Nat.le_of_ble_eq_true rfl) (px_r3_2 hr)).trans ((xs_get4 k9_45 (px_s58 L) (Nat.le_of_ble_eq_true rfl) (px_r58_0 hr)).trans (xs_callvB k9_48 (as := [vR 59]) rfl rfl (Nat.le_of_ble_eq_true rfl) (Nat.le_of_ble_eq_true rfl) (Nat.le_of_ble_eq_true rfl) (px_tx_sh ht1) (px_tx_3 ht1))))))) (fun c1 => ((xs_ic k9_38 (by omega)).trans (xs_ri k9_39 rfl))))))))
theorem b9_51 (hr : px_hr r) (d : Nat) (i l : MI) {v1 : PV} (hn1 : px_nl v1) : px_X d 9 (51, [vR 3, v1], []) (px_sh L, i, l, r, t) = some (some (vI (px_w32 ((px_w32 ((i 4 7) + 1)) - 1))), (px_sh L, (px_up i 4 7 (px_w32 ((i 4 7) + 1))), l, r, t)) := ((xs_aldn k9_51 rfl).trans ((xs_get4 k9_52 (px_s3 L) (Nat.le_of_ble_eq_true rfl) (px_r3_0 hr)).trans ((xs_dup k9_55 rfl).trans ((xs_get0 k9_56 (px_s4 L) (Nat.le_of_ble_eq_true rfl)).trans ((xs_ic k9_59 (by omega)).trans ((xs_iadd k9_60).trans ((xs_put0 k9_61 (Or.inl rfl) (px_s4 L) (Nat.le_of_ble_eq_true rfl)).trans ((xs_aldn k9_64 rfl).trans ((xs_get4 k9_65 (px_s3 L) (Nat.le_of_ble_eq_true rfl) (px_r3_0 hr)).trans ((xs_get0 k9_68 (px_s4 L) (Nat.le_of_ble_eq_true rfl)).trans ((xs_ic k9_71 (by omega)).trans ((xs_isub k9_72).trans (xs_ri k9_73 rfl)))))))))))))
-- TideGuests.fault ('R3', 'I')
theorem b10_0 (hr : px_hr r) (d : Nat) (i l : MI) (x1 : Int) : px_X (d + 1) 10 (0, [vR 3, vI x1], []) (px_sh L, i, l, r, t) = if (i 58 2) = 0 then some (some (vI (-1)), (px_sh L, i, l, r, t)) else (px_C d 30 [vI x1, vI 0, vI 1] (px_sh L, i, l, r, t)).bind (fun q => px_X (d + 1) 10 (px_psh (16, [vR 3, vI x1], []) q.1) q.2) := ((xs_aldn k10_0 rfl).trans ((xs_get4 k10_1 (px_s3 L) (Nat.le_of_ble_eq_true rfl) (px_r3_2 hr)).trans ((xs_get1 k10_4 (px_s58 L) (Nat.le_of_ble_eq_true rfl)).trans ((xs_ieq k10_7).trans (px_ite (fun c1 => ((xs_ic k10_19 (by omega)).trans (xs_ri k10_20 rfl))) (fun c1 => ((xs_ildn k10_10 rfl).trans ((xs_ic k10_11 (by omega)).trans ((xs_ic k10_12 (by omega)).trans (xs_callsB k10_13 (as := [vI x1, vI 0, vI 1]) rfl rfl (Nat.le_of_ble_eq_true rfl) (Nat.le_of_ble_eq_true rfl) (Nat.le_of_ble_eq_true rfl)))))))))))
theorem b10_16 (hr : px_hr r) (d : Nat) (i l : MI) (x1 : Int) (xs0 : Int) : px_X d 10 (16, [vR 3, vI x1], [vI xs0]) (px_sh L, i, l, r, t) = if xs0 = 0 then some (some (vI (-1)), (px_sh L, i, l, r, t)) else if x1 = 0 then some (some (vI (i 58 3)), (px_sh L, i, l, r, t)) else some (some (vI (i 58 4)), (px_sh L, i, l, r, t)) := ((xs_ine k10_16).trans (px_ite (fun c1 => ((xs_ic k10_19 (by omega)).trans (xs_ri k10_20 rfl))) (fun c1 => ((xs_ildn k10_21 rfl).trans ((xs_ine k10_22).trans (px_ite (fun c2 => ((xs_aldn k10_25 rfl).trans ((xs_get4 k10_26 (px_s3 L) (Nat.le_of_ble_eq_true rfl) (px_r3_2 hr)).trans ((xs_get0 k10_29 (px_s58 L) (Nat.le_of_ble_eq_true rfl)).trans ((xs_goto k10_32).trans (xs_ri k10_42 rfl)))))) (fun c2 => ((xs_aldn k10_35 rfl).trans ((xs_get4 k10_36 (px_s3 L) (Nat.le_of_ble_eq_true rfl) (px_r3_2 hr)).trans ((xs_get0 k10_39 (px_s58 L) (Nat.le_of_ble_eq_true rfl)).trans (xs_ri k10_42 rfl)))))))))))
-- TideGuests.by ('R3', 'I')
theorem b11_0 (hr : px_hr r) (d : Nat) (i l : MI) (x1 : Int) : px_X (d + 1) 11 (0, [vR 3, vI x1], []) (px_sh L, i, l, r, t) = (px_C d 30 [vI x1, vI (-1), vI (px_w32 ((i 4 7) - 1))] (px_sh L, i, l, r, t)).bind (fun q => px_X (d + 1) 11 (px_psh (14, [vR 3, vI x1], []) q.1) q.2) := ((xs_ildn k11_0 rfl).trans ((xs_ic k11_1 (by omega)).trans ((xs_aldn k11_2 rfl).trans ((xs_get4 k11_3 (px_s3 L) (Nat.le_of_ble_eq_true rfl) (px_r3_0 hr)).trans ((xs_get0 k11_6 (px_s4 L) (Nat.le_of_ble_eq_true rfl)).trans ((xs_ic k11_9 (by omega)).trans ((xs_isub k11_10).trans (xs_callsB k11_11 (as := [vI x1, vI (-1), vI (px_w32 ((i 4 7) - 1))]) rfl rfl (Nat.le_of_ble_eq_true rfl) (Nat.le_of_ble_eq_true rfl) (Nat.le_of_ble_eq_true rfl)))))))))
theorem b11_14 (hr : px_hr r) (d : Nat) (i l : MI) (x1 : Int) (xs0 : Int) : px_X (d + 1) 11 (14, [vR 3, vI x1], [vI xs0]) (px_sh L, i, l, r, t) = if xs0 = 0 then some (some (vI 0), (px_sh L, i, l, r, t)) else (px_C d 63 [vR 68] (px_sh L, (px_up i 4 8 x1), l, r, t)).bind (fun q => px_X (d + 1) 11 (px_psh (34, [vR 3, vI x1], []) q.1) q.2) := ((xs_ine k11_14).trans (px_ite (fun c1 => ((xs_ic k11_17 (by omega)).trans (xs_rz k11_18 rfl (by omega)))) (fun c1 => ((xs_aldn k11_19 rfl).trans ((xs_get4 k11_20 (px_s3 L) (Nat.le_of_ble_eq_true rfl) (px_r3_0 hr)).trans ((xs_ildn k11_23 rfl).trans ((xs_put0 k11_24 (Or.inl rfl) (px_s4 L) (Nat.le_of_ble_eq_true rfl)).trans ((xs_aldn k11_27 rfl).trans ((xs_get4 k11_28 (px_s3 L) (Nat.le_of_ble_eq_true rfl) (px_r3_3 hr)).trans (xs_callvB k11_31 (as := []) rfl rfl (Nat.le_of_ble_eq_true rfl) (Nat.le_of_ble_eq_true rfl) (Nat.le_of_ble_eq_true rfl) (px_s68 L) (Nat.le_of_ble_eq_true rfl)))))))))))
theorem b11_34 (hr : px_hr r) (d : Nat) (i l : MI) (x1 : Int) : px_X d 11 (34, [vR 3, vI x1], []) (px_sh L, i, l, r, t) = some (some (vI 1), (px_sh L, i, l, r, t)) := ((xs_ic k11_34 (by omega)).trans (xs_rz k11_35 rfl (by omega)))
-- TideGuests.level ('R3', 'I')
theorem b12_0 (hr : px_hr r) (d : Nat) (i l : MI) (x1 : Int) : px_X (d + 1) 12 (0, [vR 3, vI x1], []) (px_sh L, i, l, r, t) = (px_C d 31 [vI x1] (px_sh L, i, l, r, t)).bind (fun q => px_X (d + 1) 12 (px_psh (4, [vR 3, vI x1], []) q.1) q.2) := ((xs_ildn k12_0 rfl).trans (xs_callsB k12_1 (as := [vI x1]) rfl rfl (Nat.le_of_ble_eq_true rfl) (Nat.le_of_ble_eq_true rfl) (Nat.le_of_ble_eq_true rfl)))
theorem b12_4 (hr : px_hr r) (d : Nat) (i l : MI) (x1 : Int) (xs0 : Int) : px_X (d + 1) 12 (4, [vR 3, vI x1], [vI xs0]) (px_sh L, i, l, r, t) = if xs0 = 0 then some (some (vI (-1)), (px_sh L, i, l, r, t)) else (px_C d 65 [vR 68, vI x1] (px_sh L, i, l, r, t)).bind (fun q => px_X (d + 1) 12 (px_psh (15, [vR 3, vI x1], []) q.1) q.2) := ((xs_ieq k12_4).trans (px_ite (fun c1 => ((xs_ic k12_18 (by omega)).trans (xs_ri k12_19 rfl))) (fun c1 => ((xs_aldn k12_7 rfl).trans ((xs_get4 k12_8 (px_s3 L) (Nat.le_of_ble_eq_true rfl) (px_r3_3 hr)).trans ((xs_ildn k12_11 rfl).trans (xs_callvB k12_12 (as := [vI x1]) rfl rfl (Nat.le_of_ble_eq_true rfl) (Nat.le_of_ble_eq_true rfl) (Nat.le_of_ble_eq_true rfl) (px_s68 L) (Nat.le_of_ble_eq_true rfl))))))))
theorem b12_15 (hr : px_hr r) (d : Nat) (i l : MI) (x1 : Int) (xs0 : Int) : px_X d 12 (15, [vR 3, vI x1], [vI xs0]) (px_sh L, i, l, r, t) = some (some (vI xs0), (px_sh L, i, l, r, t)) := ((xs_goto k12_15).trans (xs_ri k12_19 rfl))
-- TideGuests.seat ('R3', 'I', 'I')
theorem b13_0 (hr : px_hr r) (d : Nat) (i l : MI) (x1 : Int) (x2 : Int) : px_X (d + 1) 13 (0, [vR 3, vI x1, vI x2, vJ], []) (px_sh L, i, l, r, t) = (px_C d 52 [vR 4, vI x2] (px_sh L, i, l, r, t)).bind (fun q => px_X (d + 1) 13 (px_psh (8, [vR 3, vI x1, vI x2, vJ], []) q.1) q.2) := ((xs_aldn k13_0 rfl).trans ((xs_get4 k13_1 (px_s3 L) (Nat.le_of_ble_eq_true rfl) (px_r3_0 hr)).trans ((xs_ildn k13_4 rfl).trans (xs_callvB k13_5 (as := [vI x2]) rfl rfl (Nat.le_of_ble_eq_true rfl) (Nat.le_of_ble_eq_true rfl) (Nat.le_of_ble_eq_true rfl) (px_s4 L) (Nat.le_of_ble_eq_true rfl)))))
theorem b13_8_N (hr : px_hr r) (d : Nat) (i l : MI) (x1 : Int) (x2 : Int) : px_X (d + 1) 13 (8, [vR 3, vI x1, vI x2, vJ], [vN]) (px_sh L, i, l, r, t) = (px_C d 31 [vI x1] (px_sh L, i, l, r, t)).bind (fun q => px_X (d + 1) 13 (px_psh (13, [vR 3, vI x1, vI x2, vN], []) q.1) q.2) := ((xs_astn k13_8 (Nat.le_of_ble_eq_true rfl) (ls' := [vR 3, vI x1, vI x2, vN]) rfl).trans ((xs_ildn k13_9 rfl).trans (xs_callsB k13_10 (as := [vI x1]) rfl rfl (Nat.le_of_ble_eq_true rfl) (Nat.le_of_ble_eq_true rfl) (Nat.le_of_ble_eq_true rfl))))
theorem b13_8_g (hr : px_hr r) (d : Nat) (i l : MI) (x1 : Int) (x2 : Int) {ks0 : Nat} (hgs0 : px_gs ks0) : px_X (d + 1) 13 (8, [vR 3, vI x1, vI x2, vJ], [vR ks0]) (px_sh L, i, l, r, t) = (px_C d 31 [vI x1] (px_sh L, i, l, r, t)).bind (fun q => px_X (d + 1) 13 (px_psh (13, [vR 3, vI x1, vI x2, vR ks0], []) q.1) q.2) := ((xs_astn k13_8 (Nat.le_of_ble_eq_true rfl) (ls' := [vR 3, vI x1, vI x2, vR ks0]) rfl).trans ((xs_ildn k13_9 rfl).trans (xs_callsB k13_10 (as := [vI x1]) rfl rfl (Nat.le_of_ble_eq_true rfl) (Nat.le_of_ble_eq_true rfl) (Nat.le_of_ble_eq_true rfl))))
theorem b13_13_i3N (hr : px_hr r) (d : Nat) (i l : MI) (x1 : Int) (x2 : Int) (xs0 : Int) : px_X d 13 (13, [vR 3, vI x1, vI x2, vN], [vI xs0]) (px_sh L, i, l, r, t) = if xs0 = 0 then some (some (vI (-2)), (px_sh L, i, l, r, t)) else some (some (vI (-2)), (px_sh L, i, l, r, t)) := ((xs_ieq k13_13).trans (px_ite (fun c1 => ((xs_bi k13_27 (by omega)).trans (xs_ri k13_29 rfl))) (fun c1 => ((xs_aldn k13_16 rfl).trans ((xs_nullN k13_17).trans ((xs_bi k13_27 (by omega)).trans (xs_ri k13_29 rfl)))))))
theorem b13_13_i3g (hr : px_hr r) (d : Nat) (i l : MI) (x1 : Int) (x2 : Int) {k3 : Nat} (hg3 : px_gs k3) (xs0 : Int) : px_X (d + 1) 13 (13, [vR 3, vI x1, vI x2, vR k3], [vI xs0]) (px_sh L, i, l, r, t) = if xs0 = 0 then some (some (vI (-2)), (px_sh L, i, l, r, t)) else if (i k3 8) = 0 then some (some (vI (-2)), (px_sh L, i, l, r, t)) else (px_C d 121 [vR 103, vI x1] (px_sh L, i, l, r, t)).bind (fun q => px_X (d + 1) 13 (px_psh (38, [vR 3, vI x1, vI x2, vR k3], []) q.1) q.2) := ((xs_ieq k13_13).trans (px_ite (fun c1 => ((xs_bi k13_27 (by omega)).trans (xs_ri k13_29 rfl))) (fun c1 => ((xs_aldn k13_16 rfl).trans ((xs_nullR k13_17).trans ((xs_aldn k13_20 rfl).trans ((xs_get1 k13_21 (px_gs_sh hg3) (px_gs_3 hg3)).trans ((xs_ine k13_24).trans (px_ite (fun c2 => ((xs_bi k13_27 (by omega)).trans (xs_ri k13_29 rfl))) (fun c2 => ((xs_aldn k13_30 rfl).trans ((xs_get4 k13_31 (px_s3 L) (Nat.le_of_ble_eq_true rfl) (px_r3_4 hr)).trans ((xs_ildn k13_34 rfl).trans (xs_callvB k13_35 (as := [vI x1]) rfl rfl (Nat.le_of_ble_eq_true rfl) (Nat.le_of_ble_eq_true rfl) (Nat.le_of_ble_eq_true rfl) (px_s103 L) (Nat.le_of_ble_eq_true rfl)))))))))))))))
theorem b13_38 (hr : px_hr r) (d : Nat) (i l : MI) (x1 : Int) (x2 : Int) {v3 : PV} (hn3 : px_nl v3) : px_X (d + 1) 13 (38, [vR 3, vI x1, vI x2, v3], []) (px_sh L, i, l, r, t) = (px_C d 57 [vR 4] (px_sh L, i, l, r, t)).bind (fun q => px_X (d + 1) 13 (px_psh (49, [vR 3, vI x1, vI x2, v3], [vR 103]) q.1) q.2) := ((xs_aldn k13_38 rfl).trans ((xs_get4 k13_39 (px_s3 L) (Nat.le_of_ble_eq_true rfl) (px_r3_4 hr)).trans ((xs_aldn k13_42 rfl).trans ((xs_get4 k13_43 (px_s3 L) (Nat.le_of_ble_eq_true rfl) (px_r3_0 hr)).trans (xs_callvB k13_46 (as := []) rfl rfl (Nat.le_of_ble_eq_true rfl) (Nat.le_of_ble_eq_true rfl) (Nat.le_of_ble_eq_true rfl) (px_s4 L) (Nat.le_of_ble_eq_true rfl))))))
theorem b13_49 (hr : px_hr r) (d : Nat) (i l : MI) (x1 : Int) (x2 : Int) {v3 : PV} (hn3 : px_nl v3) (xs0 : Int) : px_X (d + 1) 13 (49, [vR 3, vI x1, vI x2, v3], [vI xs0, vR 103]) (px_sh L, i, l, r, t) = (px_C d 122 [vR 103, vI xs0] (px_sh L, i, l, r, t)).bind (fun q => px_X (d + 1) 13 (px_psh (52, [vR 3, vI x1, vI x2, v3], []) q.1) q.2) := (xs_callvB k13_49 (as := [vI xs0]) rfl rfl (Nat.le_of_ble_eq_true rfl) (Nat.le_of_ble_eq_true rfl) (Nat.le_of_ble_eq_true rfl) (px_s103 L) (Nat.le_of_ble_eq_true rfl))
theorem b13_52 (hr : px_hr r) (d : Nat) (i l : MI) (x1 : Int) (x2 : Int) {v3 : PV} (hn3 : px_nl v3) : px_X (d + 1) 13 (52, [vR 3, vI x1, vI x2, v3], []) (px_sh L, i, l, r, t) = (px_C d 123 [vR 103, vI x2] (px_sh L, i, l, r, t)).bind (fun q => px_X (d + 1) 13 (px_psh (60, [vR 3, vI x1, vI x2, v3], []) q.1) q.2) := ((xs_aldn k13_52 rfl).trans ((xs_get4 k13_53 (px_s3 L) (Nat.le_of_ble_eq_true rfl) (px_r3_4 hr)).trans ((xs_ildn k13_56 rfl).trans (xs_callvB k13_57 (as := [vI x2]) rfl rfl (Nat.le_of_ble_eq_true rfl) (Nat.le_of_ble_eq_true rfl) (Nat.le_of_ble_eq_true rfl) (px_s103 L) (Nat.le_of_ble_eq_true rfl)))))
theorem b13_60 (hr : px_hr r) (d : Nat) (i l : MI) (x1 : Int) (x2 : Int) {v3 : PV} (hn3 : px_nl v3) (xs0 : Int) : px_X d 13 (60, [vR 3, vI x1, vI x2, v3], [vI xs0]) (px_sh L, i, l, r, t) = some (some (vI xs0), (px_sh L, i, l, r, t)) := (xs_ri k13_60 rfl)
-- TideGuests.night ('R3', 'I', 'I', 'I')
theorem b14_0 (hr : px_hr r) (d : Nat) (i l : MI) (x1 : Int) (x2 : Int) (x3 : Int) : px_X (d + 1) 14 (0, [vR 3, vI x1, vI x2, vI x3], []) (px_sh L, i, l, r, t) = (px_C d 31 [vI x1] (px_sh L, i, l, r, t)).bind (fun q => px_X (d + 1) 14 (px_psh (4, [vR 3, vI x1, vI x2, vI x3], []) q.1) q.2) := ((xs_ildn k14_0 rfl).trans (xs_callsB k14_1 (as := [vI x1]) rfl rfl (Nat.le_of_ble_eq_true rfl) (Nat.le_of_ble_eq_true rfl) (Nat.le_of_ble_eq_true rfl)))
theorem b14_4 (hr : px_hr r) (d : Nat) (i l : MI) (x1 : Int) (x2 : Int) (x3 : Int) (xs0 : Int) : px_X (d + 1) 14 (4, [vR 3, vI x1, vI x2, vI x3], [vI xs0]) (px_sh L, i, l, r, t) = if xs0 = 0 then some (some (vI (-1)), (px_sh L, i, l, r, t)) else (px_C d 30 [vI x2, vI x1, vI 1439] (px_sh L, i, l, r, t)).bind (fun q => px_X (d + 1) 14 (px_psh (15, [vR 3, vI x1, vI x2, vI x3], []) q.1) q.2) := ((xs_ieq k14_4).trans (px_ite (fun c1 => ((xs_ic k14_28 (by omega)).trans (xs_ri k14_29 rfl))) (fun c1 => ((xs_ildn k14_7 rfl).trans ((xs_ildn k14_8 rfl).trans ((xs_si k14_9 (by omega)).trans (xs_callsB k14_12 (as := [vI x2, vI x1, vI 1439]) rfl rfl (Nat.le_of_ble_eq_true rfl) (Nat.le_of_ble_eq_true rfl) (Nat.le_of_ble_eq_true rfl))))))))
theorem b14_15 (hr : px_hr r) (d : Nat) (i l : MI) (x1 : Int) (x2 : Int) (x3 : Int) (xs0 : Int) : px_X (d + 1) 14 (15, [vR 3, vI x1, vI x2, vI x3], [vI xs0]) (px_sh L, i, l, r, t) = if xs0 = 0 then some (some (vI (-1)), (px_sh L, i, l, r, t)) else (px_C d 30 [vI x3, vI 1, vI 60] (px_sh L, i, l, r, t)).bind (fun q => px_X (d + 1) 14 (px_psh (25, [vR 3, vI x1, vI x2, vI x3], []) q.1) q.2) := ((xs_ieq k14_15).trans (px_ite (fun c1 => ((xs_ic k14_28 (by omega)).trans (xs_ri k14_29 rfl))) (fun c1 => ((xs_ildn k14_18 rfl).trans ((xs_ic k14_19 (by omega)).trans ((xs_bi k14_20 (by omega)).trans (xs_callsB k14_22 (as := [vI x3, vI 1, vI 60]) rfl rfl (Nat.le_of_ble_eq_true rfl) (Nat.le_of_ble_eq_true rfl) (Nat.le_of_ble_eq_true rfl))))))))
theorem b14_25 (hr : px_hr r) (d : Nat) (i l : MI) (x1 : Int) (x2 : Int) (x3 : Int) (xs0 : Int) : px_X (d + 1) 14 (25, [vR 3, vI x1, vI x2, vI x3], [vI xs0]) (px_sh L, i, l, r, t) = if xs0 = 0 then some (some (vI (-1)), (px_sh L, i, l, r, t)) else (px_C d 126 [vR 103, vI x1, vI x2, vI x3] (px_sh L, i, l, r, t)).bind (fun q => px_X (d + 1) 14 (px_psh (40, [vR 3, vI x1, vI x2, vI x3], []) q.1) q.2) := ((xs_ine k14_25).trans (px_ite (fun c1 => ((xs_ic k14_28 (by omega)).trans (xs_ri k14_29 rfl))) (fun c1 => ((xs_aldn k14_30 rfl).trans ((xs_get4 k14_31 (px_s3 L) (Nat.le_of_ble_eq_true rfl) (px_r3_4 hr)).trans ((xs_ildn k14_34 rfl).trans ((xs_ildn k14_35 rfl).trans ((xs_ildn k14_36 rfl).trans (xs_callvB k14_37 (as := [vI x1, vI x2, vI x3]) rfl rfl (Nat.le_of_ble_eq_true rfl) (Nat.le_of_ble_eq_true rfl) (Nat.le_of_ble_eq_true rfl) (px_s103 L) (Nat.le_of_ble_eq_true rfl))))))))))
theorem b14_40 (hr : px_hr r) (d : Nat) (i l : MI) (x1 : Int) (x2 : Int) (x3 : Int) : px_X d 14 (40, [vR 3, vI x1, vI x2, vI x3], []) (px_sh L, i, l, r, t) = some (some (vI (i 9 0)), (px_sh L, i, l, r, t)) := ((xs_aldn k14_40 rfl).trans ((xs_get4 k14_41 (px_s3 L) (Nat.le_of_ble_eq_true rfl) (px_r3_0 hr)).trans ((xs_get4 k14_44 (px_s4 L) (Nat.le_of_ble_eq_true rfl) (px_r4_2 hr)).trans ((xs_get0 k14_47 (px_s9 L) (Nat.le_of_ble_eq_true rfl)).trans (xs_ri k14_50 rfl)))))
-- TideGuests.told ('R3', 'I', 'I')
theorem b15_0 (hr : px_hr r) (d : Nat) (i l : MI) (x1 : Int) (x2 : Int) : px_X (d + 1) 15 (0, [vR 3, vI x1, vI x2], []) (px_sh L, i, l, r, t) = if x2 = 4 then some (some (vI (i 9 1)), (px_sh L, i, l, r, t)) else (px_C d 52 [vR 4, vI x1] (px_sh L, i, l, r, t)).bind (fun q => px_X (d + 1) 15 (px_psh (24, [vR 3, vI x1, vI x2], []) q.1) q.2) := ((xs_ildn k15_0 rfl).trans ((xs_ic k15_1 (by omega)).trans ((xs_jne k15_2).trans (px_ite (fun c1 => ((xs_aldn k15_5 rfl).trans ((xs_get4 k15_6 (px_s3 L) (Nat.le_of_ble_eq_true rfl) (px_r3_0 hr)).trans ((xs_get4 k15_9 (px_s4 L) (Nat.le_of_ble_eq_true rfl) (px_r4_2 hr)).trans ((xs_get0 k15_12 (px_s9 L) (Nat.le_of_ble_eq_true rfl)).trans (xs_ri k15_15 rfl)))))) (fun c1 => ((xs_aldn k15_16 rfl).trans ((xs_get4 k15_17 (px_s3 L) (Nat.le_of_ble_eq_true rfl) (px_r3_0 hr)).trans ((xs_ildn k15_20 rfl).trans (xs_callvB k15_21 (as := [vI x1]) rfl rfl (Nat.le_of_ble_eq_true rfl) (Nat.le_of_ble_eq_true rfl) (Nat.le_of_ble_eq_true rfl) (px_s4 L) (Nat.le_of_ble_eq_true rfl))))))))))
theorem b15_24_N (hr : px_hr r) (d : Nat) (i l : MI) (x1 : Int) (x2 : Int) : px_X d 15 (24, [vR 3, vI x1, vI x2], [vN]) (px_sh L, i, l, r, t) = some (some (vI (-2)), (px_sh L, i, l, r, t)) := ((xs_nnulN k15_24).trans ((xs_bi k15_27 (by omega)).trans (xs_ri k15_29 rfl)))
theorem b15_24_g (hr : px_hr r) (d : Nat) (i l : MI) (x1 : Int) (x2 : Int) {ks0 : Nat} (hgs0 : px_gs ks0) : px_X (d + 1) 15 (24, [vR 3, vI x1, vI x2], [vR ks0]) (px_sh L, i, l, r, t) = if x2 = 0 then (px_C d 33 [vR 10, vI x1] (px_sh L, i, l, r, t)).bind (fun q => px_X (d + 1) 15 (px_psh (74, [vR 3, vI x1, vI x2], []) q.1) q.2) else if x2 = 1 then (px_C d 33 [vR 11, vI x1] (px_sh L, i, l, r, t)).bind (fun q => px_X (d + 1) 15 (px_psh (89, [vR 3, vI x1, vI x2], []) q.1) q.2) else if x2 = 2 then (px_C d 33 [vR 12, vI x1] (px_sh L, i, l, r, t)).bind (fun q => px_X (d + 1) 15 (px_psh (104, [vR 3, vI x1, vI x2], []) q.1) q.2) else if x2 = 3 then (px_C d 69 [vR 68, vI x1] (px_sh L, i, l, r, t)).bind (fun q => px_X (d + 1) 15 (px_psh (113, [vR 3, vI x1, vI x2], []) q.1) q.2) else some (some (vI (-2)), (px_sh L, i, l, r, t)) := ((xs_nnulR k15_24).trans ((xs_ildn k15_30 rfl).trans (px_swi (fun c1 => ((xs_tsw k15_31 (tg := 60) (by rw [c1]; omega) (by rw [c1]; rfl)).trans ((xs_aldn k15_60 rfl).trans ((xs_get4 k15_61 (px_s3 L) (Nat.le_of_ble_eq_true rfl) (px_r3_0 hr)).trans ((xs_get4 k15_64 (px_s4 L) (Nat.le_of_ble_eq_true rfl) (px_r4_2 hr)).trans ((xs_get4 k15_67 (px_s9 L) (Nat.le_of_ble_eq_true rfl) (px_r9_3 hr)).trans ((xs_ildn k15_70 rfl).trans (xs_callsB k15_71 (as := [vR 10, vI x1]) rfl rfl (Nat.le_of_ble_eq_true rfl) (Nat.le_of_ble_eq_true rfl) (Nat.le_of_ble_eq_true rfl))))))))) (fun c1 => (px_swi (fun c2 => ((xs_tsw k15_31 (tg := 75) (by rw [c2]; omega) (by rw [c2]; rfl)).trans ((xs_aldn k15_75 rfl).trans ((xs_get4 k15_76 (px_s3 L) (Nat.le_of_ble_eq_true rfl) (px_r3_0 hr)).trans ((xs_get4 k15_79 (px_s4 L) (Nat.le_of_ble_eq_true rfl) (px_r4_2 hr)).trans ((xs_get4 k15_82 (px_s9 L) (Nat.le_of_ble_eq_true rfl) (px_r9_4 hr)).trans ((xs_ildn k15_85 rfl).trans (xs_callsB k15_86 (as := [vR 11, vI x1]) rfl rfl (Nat.le_of_ble_eq_true rfl) (Nat.le_of_ble_eq_true rfl) (Nat.le_of_ble_eq_true rfl))))))))) (fun c2 => (px_swi (fun c3 => ((xs_tsw k15_31 (tg := 90) (by rw [c3]; omega) (by rw [c3]; rfl)).trans ((xs_aldn k15_90 rfl).trans ((xs_get4 k15_91 (px_s3 L) (Nat.le_of_ble_eq_true rfl) (px_r3_0 hr)).trans ((xs_get4 k15_94 (px_s4 L) (Nat.le_of_ble_eq_true rfl) (px_r4_2 hr)).trans ((xs_get4 k15_97 (px_s9 L) (Nat.le_of_ble_eq_true rfl) (px_r9_5 hr)).trans ((xs_ildn k15_100 rfl).trans (xs_callsB k15_101 (as := [vR 12, vI x1]) rfl rfl (Nat.le_of_ble_eq_true rfl) (Nat.le_of_ble_eq_true rfl) (Nat.le_of_ble_eq_true rfl))))))))) (fun c3 => (px_swi (fun c4 => ((xs_tsw k15_31 (tg := 105) (by rw [c4]; omega) (by rw [c4]; rfl)).trans ((xs_aldn k15_105 rfl).trans ((xs_get4 k15_106 (px_s3 L) (Nat.le_of_ble_eq_true rfl) (px_r3_3 hr)).trans ((xs_ildn k15_109 rfl).trans (xs_callvB k15_110 (as := [vI x1]) rfl rfl (Nat.le_of_ble_eq_true rfl) (Nat.le_of_ble_eq_true rfl) (Nat.le_of_ble_eq_true rfl) (px_s68 L) (Nat.le_of_ble_eq_true rfl))))))) (fun c4 => ((xs_tswd k15_31 (by omega)).trans ((xs_bi k15_114 (by omega)).trans (xs_ri k15_116 rfl)))))))))))))
theorem b15_74 (hr : px_hr r) (d : Nat) (i l : MI) (x1 : Int) (x2 : Int) (xs0 : Int) : px_X d 15 (74, [vR 3, vI x1, vI x2], [vI xs0]) (px_sh L, i, l, r, t) = some (some (vI xs0), (px_sh L, i, l, r, t)) := (xs_ri k15_74 rfl)
theorem b15_89 (hr : px_hr r) (d : Nat) (i l : MI) (x1 : Int) (x2 : Int) (xs0 : Int) : px_X d 15 (89, [vR 3, vI x1, vI x2], [vI xs0]) (px_sh L, i, l, r, t) = some (some (vI xs0), (px_sh L, i, l, r, t)) := (xs_ri k15_89 rfl)
theorem b15_104 (hr : px_hr r) (d : Nat) (i l : MI) (x1 : Int) (x2 : Int) (xs0 : Int) : px_X d 15 (104, [vR 3, vI x1, vI x2], [vI xs0]) (px_sh L, i, l, r, t) = some (some (vI xs0), (px_sh L, i, l, r, t)) := (xs_ri k15_104 rfl)
theorem b15_113 (hr : px_hr r) (d : Nat) (i l : MI) (x1 : Int) (x2 : Int) (xs0 : Int) : px_X d 15 (113, [vR 3, vI x1, vI x2], [vI xs0]) (px_sh L, i, l, r, t) = some (some (vI xs0), (px_sh L, i, l, r, t)) := (xs_ri k15_113 rfl)
-- TideGuests.sat ('R3', 'I', 'I')
theorem b16_0 (hr : px_hr r) (d : Nat) (i l : MI) (x1 : Int) (x2 : Int) : px_X (d + 1) 16 (0, [vR 3, vI x1, vI x2], []) (px_sh L, i, l, r, t) = (px_C d 52 [vR 4, vI x1] (px_sh L, i, l, r, t)).bind (fun q => px_X (d + 1) 16 (px_psh (8, [vR 3, vI x1, vI x2], []) q.1) q.2) := ((xs_aldn k16_0 rfl).trans ((xs_get4 k16_1 (px_s3 L) (Nat.le_of_ble_eq_true rfl) (px_r3_0 hr)).trans ((xs_ildn k16_4 rfl).trans (xs_callvB k16_5 (as := [vI x1]) rfl rfl (Nat.le_of_ble_eq_true rfl) (Nat.le_of_ble_eq_true rfl) (Nat.le_of_ble_eq_true rfl) (px_s4 L) (Nat.le_of_ble_eq_true rfl)))))
theorem b16_8_N (hr : px_hr r) (d : Nat) (i l : MI) (x1 : Int) (x2 : Int) : px_X d 16 (8, [vR 3, vI x1, vI x2], [vN]) (px_sh L, i, l, r, t) = some (some (vI (-2)), (px_sh L, i, l, r, t)) := ((xs_nnulN k16_8).trans ((xs_bi k16_11 (by omega)).trans ((xs_goto k16_13).trans (xs_ri k16_28 rfl))))
theorem b16_8_g (hr : px_hr r) (d : Nat) (i l : MI) (x1 : Int) (x2 : Int) {ks0 : Nat} (hgs0 : px_gs ks0) : px_X (d + 1) 16 (8, [vR 3, vI x1, vI x2], [vR ks0]) (px_sh L, i, l, r, t) = (px_C d 87 [vR 9, vI x1, vI x2] (px_sh L, i, l, r, t)).bind (fun q => px_X (d + 1) 16 (px_psh (28, [vR 3, vI x1, vI x2], []) q.1) q.2) := ((xs_nnulR k16_8).trans ((xs_aldn k16_16 rfl).trans ((xs_get4 k16_17 (px_s3 L) (Nat.le_of_ble_eq_true rfl) (px_r3_0 hr)).trans ((xs_get4 k16_20 (px_s4 L) (Nat.le_of_ble_eq_true rfl) (px_r4_2 hr)).trans ((xs_ildn k16_23 rfl).trans ((xs_ildn k16_24 rfl).trans (xs_callvB k16_25 (as := [vI x1, vI x2]) rfl rfl (Nat.le_of_ble_eq_true rfl) (Nat.le_of_ble_eq_true rfl) (Nat.le_of_ble_eq_true rfl) (px_s9 L) (Nat.le_of_ble_eq_true rfl))))))))
theorem b16_28 (hr : px_hr r) (d : Nat) (i l : MI) (x1 : Int) (x2 : Int) (xs0 : Int) : px_X d 16 (28, [vR 3, vI x1, vI x2], [vI xs0]) (px_sh L, i, l, r, t) = some (some (vI xs0), (px_sh L, i, l, r, t)) := (xs_ri k16_28 rfl)
-- TideGuests.way ('R3', 'I', 'I', 'I')
theorem b17_0 (hr : px_hr r) (d : Nat) (i l : MI) (x1 : Int) (x2 : Int) (x3 : Int) : px_X (d + 1) 17 (0, [vR 3, vI x1, vI x2, vI x3, vJ, vJ], []) (px_sh L, i, l, r, t) = (px_C d 52 [vR 4, vI x1] (px_sh L, i, l, r, t)).bind (fun q => px_X (d + 1) 17 (px_psh (8, [vR 3, vI x1, vI x2, vI x3, vJ, vJ], []) q.1) q.2) := ((xs_aldn k17_0 rfl).trans ((xs_get4 k17_1 (px_s3 L) (Nat.le_of_ble_eq_true rfl) (px_r3_0 hr)).trans ((xs_ildn k17_4 rfl).trans (xs_callvB k17_5 (as := [vI x1]) rfl rfl (Nat.le_of_ble_eq_true rfl) (Nat.le_of_ble_eq_true rfl) (Nat.le_of_ble_eq_true rfl) (px_s4 L) (Nat.le_of_ble_eq_true rfl)))))
theorem b17_8_N (hr : px_hr r) (d : Nat) (i l : MI) (x1 : Int) (x2 : Int) (x3 : Int) : px_X d 17 (8, [vR 3, vI x1, vI x2, vI x3, vJ, vJ], [vN]) (px_sh L, i, l, r, t) = some (some (vI (-1)), (px_sh L, i, l, r, t)) := ((xs_ast k17_8 (Nat.le_of_ble_eq_true rfl) (ls' := [vR 3, vI x1, vI x2, vI x3, vN, vJ]) rfl).trans ((xs_ald k17_10 rfl).trans ((xs_nullN k17_12).trans ((xs_ic k17_27 (by omega)).trans (xs_ri k17_28 rfl)))))
theorem b17_8_g (hr : px_hr r) (d : Nat) (i l : MI) (x1 : Int) (x2 : Int) (x3 : Int) {ks0 : Nat} (hgs0 : px_gs ks0) : px_X (d + 1) 17 (8, [vR 3, vI x1, vI x2, vI x3, vJ, vJ], [vR ks0]) (px_sh L, i, l, r, t) = (px_C d 31 [vI x2] (px_sh L, i, l, r, t)).bind (fun q => px_X (d + 1) 17 (px_psh (19, [vR 3, vI x1, vI x2, vI x3, vR ks0, vJ], []) q.1) q.2) := ((xs_ast k17_8 (Nat.le_of_ble_eq_true rfl) (ls' := [vR 3, vI x1, vI x2, vI x3, vR ks0, vJ]) rfl).trans ((xs_ald k17_10 rfl).trans ((xs_nullR k17_12).trans ((xs_ildn k17_15 rfl).trans (xs_callsB k17_16 (as := [vI x2]) rfl rfl (Nat.le_of_ble_eq_true rfl) (Nat.le_of_ble_eq_true rfl) (Nat.le_of_ble_eq_true rfl))))))
theorem b17_19 (hr : px_hr r) (d : Nat) (i l : MI) (x1 : Int) (x2 : Int) (x3 : Int) {k4 : Nat} (hg4 : px_gs k4) (xs0 : Int) : px_X (d + 1) 17 (19, [vR 3, vI x1, vI x2, vI x3, vR k4, vJ], [vI xs0]) (px_sh L, i, l, r, t) = if xs0 = 0 then some (some (vI (-1)), (px_sh L, i, l, r, t)) else if (-1) ≤ x3 then (px_C d 75 [vR 110, vR k4] (px_sh L, i, l, r, t)).bind (fun q => px_X (d + 1) 17 (px_psh (38, [vR 3, vI x1, vI x2, vI x3, vR k4, vJ], []) q.1) q.2) else some (some (vI (-1)), (px_sh L, i, l, r, t)) := ((xs_ieq k17_19).trans (px_ite (fun c1 => ((xs_ic k17_27 (by omega)).trans (xs_ri k17_28 rfl))) (fun c1 => ((xs_ildn k17_22 rfl).trans ((xs_ic k17_23 (by omega)).trans ((xs_jge k17_24).trans (px_ite (fun c2 => ((xs_aldn k17_29 rfl).trans ((xs_get4 k17_30 (px_s3 L) (Nat.le_of_ble_eq_true rfl) (px_r3_5 hr)).trans ((xs_ald k17_33 rfl).trans (xs_callvB k17_35 (as := [vR k4]) rfl rfl (Nat.le_of_ble_eq_true rfl) (Nat.le_of_ble_eq_true rfl) (Nat.le_of_ble_eq_true rfl) (px_s110 L) (Nat.le_of_ble_eq_true rfl)))))) (fun c2 => ((xs_ic k17_27 (by omega)).trans (xs_ri k17_28 rfl))))))))))
theorem b17_38 (hr : px_hr r) (d : Nat) (i l : MI) (x1 : Int) (x2 : Int) (x3 : Int) {v4 : PV} (hn4 : px_nl v4) : px_X (d + 1) 17 (38, [vR 3, vI x1, vI x2, vI x3, v4, vJ], []) (px_sh L, i, l, r, t) = (px_C d 77 [vR 110, vI x2] (px_sh L, i, l, r, t)).bind (fun q => px_X (d + 1) 17 (px_psh (46, [vR 3, vI x1, vI x2, vI x3, v4, vJ], []) q.1) q.2) := ((xs_aldn k17_38 rfl).trans ((xs_get4 k17_39 (px_s3 L) (Nat.le_of_ble_eq_true rfl) (px_r3_5 hr)).trans ((xs_ildn k17_42 rfl).trans (xs_callvB k17_43 (as := [vI x2]) rfl rfl (Nat.le_of_ble_eq_true rfl) (Nat.le_of_ble_eq_true rfl) (Nat.le_of_ble_eq_true rfl) (px_s110 L) (Nat.le_of_ble_eq_true rfl)))))
theorem b17_46 (hr : px_hr r) (d : Nat) (i l : MI) (x1 : Int) (x2 : Int) (x3 : Int) {v4 : PV} (hn4 : px_nl v4) (xs0 : Int) : px_X (d + 1) 17 (46, [vR 3, vI x1, vI x2, vI x3, v4, vJ], [vI xs0]) (px_sh L, i, l, r, t) = if x3 = (-1) then some (some (vI xs0), (px_sh L, i, l, r, t)) else if xs0 ≤ x3 then some (some (vI (-1)), (px_sh L, i, l, r, t)) else (px_C d 78 [vR 110, vI xs0, vI x3] (px_sh L, i, l, r, t)).bind (fun q => px_X (d + 1) 17 (px_psh (72, [vR 3, vI x1, vI x2, vI x3, v4, vI xs0], []) q.1) q.2) := ((xs_ist k17_46 (Nat.le_of_ble_eq_true rfl) (ls' := [vR 3, vI x1, vI x2, vI x3, v4, vI xs0]) (px_st1_nl hn4 rfl rfl)).trans ((xs_ildn k17_48 rfl).trans ((xs_ic k17_49 (by omega)).trans ((xs_jne k17_50).trans (px_ite (fun c1 => ((xs_ild k17_53 rfl).trans (xs_ri k17_55 rfl))) (fun c1 => ((xs_ildn k17_56 rfl).trans ((xs_ild k17_57 rfl).trans ((xs_jge k17_59).trans (px_ite (fun c2 => ((xs_ic k17_75 (by omega)).trans (xs_ri k17_76 rfl))) (fun c2 => ((xs_aldn k17_62 rfl).trans ((xs_get4 k17_63 (px_s3 L) (Nat.le_of_ble_eq_true rfl) (px_r3_5 hr)).trans ((xs_ild k17_66 rfl).trans ((xs_ildn k17_68 rfl).trans (xs_callvB k17_69 (as := [vI xs0, vI x3]) rfl rfl (Nat.le_of_ble_eq_true rfl) (Nat.le_of_ble_eq_true rfl) (Nat.le_of_ble_eq_true rfl) (px_s110 L) (Nat.le_of_ble_eq_true rfl)))))))))))))))))
theorem b17_72 (hr : px_hr r) (d : Nat) (i l : MI) (x1 : Int) (x2 : Int) (x3 : Int) {v4 : PV} (hn4 : px_nl v4) (x5 : Int) (xs0 : Int) : px_X d 17 (72, [vR 3, vI x1, vI x2, vI x3, v4, vI x5], [vI xs0]) (px_sh L, i, l, r, t) = some (some (vI xs0), (px_sh L, i, l, r, t)) := ((xs_goto k17_72).trans (xs_ri k17_76 rfl))
-- TideGuests.last ('R3', 'I')
theorem b18_0 (hr : px_hr r) (d : Nat) (i l : MI) (x1 : Int) : px_X (d + 1) 18 (0, [vR 3, vI x1, vJ], []) (px_sh L, i, l, r, t) = (px_C d 52 [vR 4, vI x1] (px_sh L, i, l, r, t)).bind (fun q => px_X (d + 1) 18 (px_psh (8, [vR 3, vI x1, vJ], []) q.1) q.2) := ((xs_aldn k18_0 rfl).trans ((xs_get4 k18_1 (px_s3 L) (Nat.le_of_ble_eq_true rfl) (px_r3_0 hr)).trans ((xs_ildn k18_4 rfl).trans (xs_callvB k18_5 (as := [vI x1]) rfl rfl (Nat.le_of_ble_eq_true rfl) (Nat.le_of_ble_eq_true rfl) (Nat.le_of_ble_eq_true rfl) (px_s4 L) (Nat.le_of_ble_eq_true rfl)))))
theorem b18_8_N (hr : px_hr r) (d : Nat) (i l : MI) (x1 : Int) : px_X d 18 (8, [vR 3, vI x1, vJ], [vN]) (px_sh L, i, l, r, t) = some (some (vI (-1)), (px_sh L, i, l, r, t)) := ((xs_astn k18_8 (Nat.le_of_ble_eq_true rfl) (ls' := [vR 3, vI x1, vN]) rfl).trans ((xs_aldn k18_9 rfl).trans ((xs_nnulN k18_10).trans ((xs_ic k18_13 (by omega)).trans (xs_ri k18_14 rfl)))))
theorem b18_8_g (hr : px_hr r) (d : Nat) (i l : MI) (x1 : Int) {ks0 : Nat} (hgs0 : px_gs ks0) : px_X (d + 1) 18 (8, [vR 3, vI x1, vJ], [vR ks0]) (px_sh L, i, l, r, t) = (px_C d 75 [vR 110, vR ks0] (px_sh L, i, l, r, t)).bind (fun q => px_X (d + 1) 18 (px_psh (23, [vR 3, vI x1, vR ks0], []) q.1) q.2) := ((xs_astn k18_8 (Nat.le_of_ble_eq_true rfl) (ls' := [vR 3, vI x1, vR ks0]) rfl).trans ((xs_aldn k18_9 rfl).trans ((xs_nnulR k18_10).trans ((xs_aldn k18_15 rfl).trans ((xs_get4 k18_16 (px_s3 L) (Nat.le_of_ble_eq_true rfl) (px_r3_5 hr)).trans ((xs_aldn k18_19 rfl).trans (xs_callvB k18_20 (as := [vR ks0]) rfl rfl (Nat.le_of_ble_eq_true rfl) (Nat.le_of_ble_eq_true rfl) (Nat.le_of_ble_eq_true rfl) (px_s110 L) (Nat.le_of_ble_eq_true rfl))))))))
theorem b18_23 (hr : px_hr r) (d : Nat) (i l : MI) (x1 : Int) {v2 : PV} (hn2 : px_nl v2) : px_X (d + 1) 18 (23, [vR 3, vI x1, v2], []) (px_sh L, i, l, r, t) = (px_C d 79 [vR 110] (px_sh L, i, l, r, t)).bind (fun q => px_X (d + 1) 18 (px_psh (30, [vR 3, vI x1, v2], []) q.1) q.2) := ((xs_aldn k18_23 rfl).trans ((xs_get4 k18_24 (px_s3 L) (Nat.le_of_ble_eq_true rfl) (px_r3_5 hr)).trans (xs_callvB k18_27 (as := []) rfl rfl (Nat.le_of_ble_eq_true rfl) (Nat.le_of_ble_eq_true rfl) (Nat.le_of_ble_eq_true rfl) (px_s110 L) (Nat.le_of_ble_eq_true rfl))))
theorem b18_30 (hr : px_hr r) (d : Nat) (i l : MI) (x1 : Int) {v2 : PV} (hn2 : px_nl v2) (xs0 : Int) : px_X d 18 (30, [vR 3, vI x1, v2], [vI xs0]) (px_sh L, i, l, r, t) = some (some (vI xs0), (px_sh L, i, l, r, t)) := (xs_ri k18_30 rfl)
-- TideGuests.pilot ('R3', 'I', 'I', 'I', 'I')
theorem b19_0 (hr : px_hr r) (d : Nat) (i l : MI) (x1 : Int) (x2 : Int) (x3 : Int) (x4 : Int) : px_X (d + 1) 19 (0, [vR 3, vI x1, vI x2, vI x3, vI x4, vJ], []) (px_sh L, i, l, r, t) = (px_C d 52 [vR 4, vI x1] (px_sh L, i, l, r, t)).bind (fun q => px_X (d + 1) 19 (px_psh (8, [vR 3, vI x1, vI x2, vI x3, vI x4, vJ], []) q.1) q.2) := ((xs_aldn k19_0 rfl).trans ((xs_get4 k19_1 (px_s3 L) (Nat.le_of_ble_eq_true rfl) (px_r3_0 hr)).trans ((xs_ildn k19_4 rfl).trans (xs_callvB k19_5 (as := [vI x1]) rfl rfl (Nat.le_of_ble_eq_true rfl) (Nat.le_of_ble_eq_true rfl) (Nat.le_of_ble_eq_true rfl) (px_s4 L) (Nat.le_of_ble_eq_true rfl)))))
theorem b19_8_N (hr : px_hr r) (d : Nat) (i l : MI) (x1 : Int) (x2 : Int) (x3 : Int) (x4 : Int) : px_X d 19 (8, [vR 3, vI x1, vI x2, vI x3, vI x4, vJ], [vN]) (px_sh L, i, l, r, t) = some (some (vI (-1)), (px_sh L, i, l, r, t)) := ((xs_ast k19_8 (Nat.le_of_ble_eq_true rfl) (ls' := [vR 3, vI x1, vI x2, vI x3, vI x4, vN]) rfl).trans ((xs_ald k19_10 rfl).trans ((xs_nullN k19_12).trans ((xs_ic k19_42 (by omega)).trans (xs_ri k19_43 rfl)))))
theorem b19_8_g (hr : px_hr r) (d : Nat) (i l : MI) (x1 : Int) (x2 : Int) (x3 : Int) (x4 : Int) {ks0 : Nat} (hgs0 : px_gs ks0) : px_X (d + 1) 19 (8, [vR 3, vI x1, vI x2, vI x3, vI x4, vJ], [vR ks0]) (px_sh L, i, l, r, t) = (px_C d 31 [vI x2] (px_sh L, i, l, r, t)).bind (fun q => px_X (d + 1) 19 (px_psh (19, [vR 3, vI x1, vI x2, vI x3, vI x4, vR ks0], []) q.1) q.2) := ((xs_ast k19_8 (Nat.le_of_ble_eq_true rfl) (ls' := [vR 3, vI x1, vI x2, vI x3, vI x4, vR ks0]) rfl).trans ((xs_ald k19_10 rfl).trans ((xs_nullR k19_12).trans ((xs_ildn k19_15 rfl).trans (xs_callsB k19_16 (as := [vI x2]) rfl rfl (Nat.le_of_ble_eq_true rfl) (Nat.le_of_ble_eq_true rfl) (Nat.le_of_ble_eq_true rfl))))))
theorem b19_19 (hr : px_hr r) (d : Nat) (i l : MI) (x1 : Int) (x2 : Int) (x3 : Int) (x4 : Int) {k5 : Nat} (hg5 : px_gs k5) (xs0 : Int) : px_X (d + 1) 19 (19, [vR 3, vI x1, vI x2, vI x3, vI x4, vR k5], [vI xs0]) (px_sh L, i, l, r, t) = if xs0 = 0 then some (some (vI (-1)), (px_sh L, i, l, r, t)) else (px_C d 30 [vI x3, vI 0, vI 3] (px_sh L, i, l, r, t)).bind (fun q => px_X (d + 1) 19 (px_psh (28, [vR 3, vI x1, vI x2, vI x3, vI x4, vR k5], []) q.1) q.2) := ((xs_ieq k19_19).trans (px_ite (fun c1 => ((xs_ic k19_42 (by omega)).trans (xs_ri k19_43 rfl))) (fun c1 => ((xs_ildn k19_22 rfl).trans ((xs_ic k19_23 (by omega)).trans ((xs_ic k19_24 (by omega)).trans (xs_callsB k19_25 (as := [vI x3, vI 0, vI 3]) rfl rfl (Nat.le_of_ble_eq_true rfl) (Nat.le_of_ble_eq_true rfl) (Nat.le_of_ble_eq_true rfl))))))))
theorem b19_28 (hr : px_hr r) (d : Nat) (i l : MI) (x1 : Int) (x2 : Int) (x3 : Int) (x4 : Int) {k5 : Nat} (hg5 : px_gs k5) (xs0 : Int) : px_X (d + 1) 19 (28, [vR 3, vI x1, vI x2, vI x3, vI x4, vR k5], [vI xs0]) (px_sh L, i, l, r, t) = if xs0 = 0 then some (some (vI (-1)), (px_sh L, i, l, r, t)) else (px_C d 30 [vI x4, vI 1, vI 10] (px_sh L, i, l, r, t)).bind (fun q => px_X (d + 1) 19 (px_psh (39, [vR 3, vI x1, vI x2, vI x3, vI x4, vR k5], []) q.1) q.2) := ((xs_ieq k19_28).trans (px_ite (fun c1 => ((xs_ic k19_42 (by omega)).trans (xs_ri k19_43 rfl))) (fun c1 => ((xs_ild k19_31 rfl).trans ((xs_ic k19_33 (by omega)).trans ((xs_bi k19_34 (by omega)).trans (xs_callsB k19_36 (as := [vI x4, vI 1, vI 10]) rfl rfl (Nat.le_of_ble_eq_true rfl) (Nat.le_of_ble_eq_true rfl) (Nat.le_of_ble_eq_true rfl))))))))
theorem b19_39 (hr : px_hr r) (d : Nat) (i l : MI) (x1 : Int) (x2 : Int) (x3 : Int) (x4 : Int) {k5 : Nat} (hg5 : px_gs k5) (xs0 : Int) : px_X (d + 1) 19 (39, [vR 3, vI x1, vI x2, vI x3, vI x4, vR k5], [vI xs0]) (px_sh L, i, l, r, t) = if xs0 = 0 then some (some (vI (-1)), (px_sh L, i, l, r, t)) else (px_C d 75 [vR 110, vR k5] (px_sh L, i, l, r, t)).bind (fun q => px_X (d + 1) 19 (px_psh (53, [vR 3, vI x1, vI x2, vI x3, vI x4, vR k5], []) q.1) q.2) := ((xs_ine k19_39).trans (px_ite (fun c1 => ((xs_ic k19_42 (by omega)).trans (xs_ri k19_43 rfl))) (fun c1 => ((xs_aldn k19_44 rfl).trans ((xs_get4 k19_45 (px_s3 L) (Nat.le_of_ble_eq_true rfl) (px_r3_5 hr)).trans ((xs_ald k19_48 rfl).trans (xs_callvB k19_50 (as := [vR k5]) rfl rfl (Nat.le_of_ble_eq_true rfl) (Nat.le_of_ble_eq_true rfl) (Nat.le_of_ble_eq_true rfl) (px_s110 L) (Nat.le_of_ble_eq_true rfl))))))))
theorem b19_53 (hr : px_hr r) (d : Nat) (i l : MI) (x1 : Int) (x2 : Int) (x3 : Int) (x4 : Int) {v5 : PV} (hn5 : px_nl v5) : px_X (d + 1) 19 (53, [vR 3, vI x1, vI x2, vI x3, vI x4, v5], []) (px_sh L, i, l, r, t) = (px_C d 80 [vR 110, vI x2, vI x3, vI x4] (px_sh L, i, l, r, t)).bind (fun q => px_X (d + 1) 19 (px_psh (64, [vR 3, vI x1, vI x2, vI x3, vI x4, v5], []) q.1) q.2) := ((xs_aldn k19_53 rfl).trans ((xs_get4 k19_54 (px_s3 L) (Nat.le_of_ble_eq_true rfl) (px_r3_5 hr)).trans ((xs_ildn k19_57 rfl).trans ((xs_ildn k19_58 rfl).trans ((xs_ild k19_59 rfl).trans (xs_callvB k19_61 (as := [vI x2, vI x3, vI x4]) rfl rfl (Nat.le_of_ble_eq_true rfl) (Nat.le_of_ble_eq_true rfl) (Nat.le_of_ble_eq_true rfl) (px_s110 L) (Nat.le_of_ble_eq_true rfl)))))))
theorem b19_64 (hr : px_hr r) (d : Nat) (i l : MI) (x1 : Int) (x2 : Int) (x3 : Int) (x4 : Int) {v5 : PV} (hn5 : px_nl v5) (xs0 : Int) : px_X d 19 (64, [vR 3, vI x1, vI x2, vI x3, vI x4, v5], [vI xs0]) (px_sh L, i, l, r, t) = some (some (vI xs0), (px_sh L, i, l, r, t)) := (xs_ri k19_64 rfl)
-- TideGuests.given ('R3', 'I', 'I')
theorem b20_0 (hr : px_hr r) (d : Nat) (i l : MI) (x1 : Int) (x2 : Int) : px_X (d + 1) 20 (0, [vR 3, vI x1, vI x2, vJ], []) (px_sh L, i, l, r, t) = (px_C d 31 [vI x1] (px_sh L, i, l, r, t)).bind (fun q => px_X (d + 1) 20 (px_psh (4, [vR 3, vI x1, vI x2, vJ], []) q.1) q.2) := ((xs_ildn k20_0 rfl).trans (xs_callsB k20_1 (as := [vI x1]) rfl rfl (Nat.le_of_ble_eq_true rfl) (Nat.le_of_ble_eq_true rfl) (Nat.le_of_ble_eq_true rfl)))
theorem b20_4 (hr : px_hr r) (d : Nat) (i l : MI) (x1 : Int) (x2 : Int) (xs0 : Int) : px_X (d + 1) 20 (4, [vR 3, vI x1, vI x2, vJ], [vI xs0]) (px_sh L, i, l, r, t) = if xs0 = 0 then some (some (vI (-1)), (px_sh L, i, l, r, t)) else (px_C d 57 [vR 4] (px_sh L, i, l, r, t)).bind (fun q => px_X (d + 1) 20 (px_psh (14, [vR 3, vI x1, vI x2, vJ], []) q.1) q.2) := ((xs_ieq k20_4).trans (px_ite (fun c1 => ((xs_ic k20_21 (by omega)).trans (xs_ri k20_22 rfl))) (fun c1 => ((xs_aldn k20_7 rfl).trans ((xs_get4 k20_8 (px_s3 L) (Nat.le_of_ble_eq_true rfl) (px_r3_0 hr)).trans (xs_callvB k20_11 (as := []) rfl rfl (Nat.le_of_ble_eq_true rfl) (Nat.le_of_ble_eq_true rfl) (Nat.le_of_ble_eq_true rfl) (px_s4 L) (Nat.le_of_ble_eq_true rfl)))))))
theorem b20_14 (hr : px_hr r) (d : Nat) (i l : MI) (x1 : Int) (x2 : Int) (xs0 : Int) : px_X (d + 1) 20 (14, [vR 3, vI x1, vI x2, vJ], [vI xs0]) (px_sh L, i, l, r, t) = (px_C d 237 [vI xs0] (px_sh L, i, l, r, t)).bind (fun q => px_X (d + 1) 20 (px_psh (17, [vR 3, vI x1, vI x2, vJ], []) q.1) q.2) := (xs_callsB k20_14 (as := [vI xs0]) rfl rfl (Nat.le_of_ble_eq_true rfl) (Nat.le_of_ble_eq_true rfl) (Nat.le_of_ble_eq_true rfl))
theorem b20_17 (hr : px_hr r) (d : Nat) (i l : MI) (x1 : Int) (x2 : Int) (xs0 : Int) : px_X (d + 1) 20 (17, [vR 3, vI x1, vI x2, vJ], [vI xs0]) (px_sh L, i, l, r, t) = if xs0 ≤ 5 then (px_C d 52 [vR 4, vI x2] (px_sh L, i, l, r, t)).bind (fun q => px_X (d + 1) 20 (px_psh (31, [vR 3, vI x1, vI x2, vJ], []) q.1) q.2) else some (some (vI (-1)), (px_sh L, i, l, r, t)) := ((xs_ic k20_17 (by omega)).trans ((xs_jle k20_18).trans (px_ite (fun c1 => ((xs_aldn k20_23 rfl).trans ((xs_get4 k20_24 (px_s3 L) (Nat.le_of_ble_eq_true rfl) (px_r3_0 hr)).trans ((xs_ildn k20_27 rfl).trans (xs_callvB k20_28 (as := [vI x2]) rfl rfl (Nat.le_of_ble_eq_true rfl) (Nat.le_of_ble_eq_true rfl) (Nat.le_of_ble_eq_true rfl) (px_s4 L) (Nat.le_of_ble_eq_true rfl)))))) (fun c1 => ((xs_ic k20_21 (by omega)).trans (xs_ri k20_22 rfl))))))
theorem b20_31_N (hr : px_hr r) (d : Nat) (i l : MI) (x1 : Int) (x2 : Int) : px_X d 20 (31, [vR 3, vI x1, vI x2, vJ], [vN]) (px_sh L, i, l, r, t) = if x2 = (-1) then px_X d 20 (50, [vR 3, vI x1, vI x2, vN], []) (px_sh L, i, l, r, t) else some (some (vI (-1)), (px_sh L, i, l, r, t)) := ((xs_astn k20_31 (Nat.le_of_ble_eq_true rfl) (ls' := [vR 3, vI x1, vI x2, vN]) rfl).trans ((xs_ildn k20_32 rfl).trans ((xs_ic k20_33 (by omega)).trans ((xs_jeq k20_34).trans (px_ite (fun c1 => rfl) (fun c1 => ((xs_aldn k20_37 rfl).trans ((xs_nullN k20_38).trans ((xs_ic k20_48 (by omega)).trans (xs_ri k20_49 rfl))))))))))
theorem b20_31_g (hr : px_hr r) (d : Nat) (i l : MI) (x1 : Int) (x2 : Int) {ks0 : Nat} (hgs0 : px_gs ks0) : px_X d 20 (31, [vR 3, vI x1, vI x2, vJ], [vR ks0]) (px_sh L, i, l, r, t) = if x2 = (-1) then px_X d 20 (50, [vR 3, vI x1, vI x2, vR ks0], []) (px_sh L, i, l, r, t) else if (i ks0 8) = 0 then some (some (vI (-1)), (px_sh L, i, l, r, t)) else px_X d 20 (50, [vR 3, vI x1, vI x2, vR ks0], []) (px_sh L, i, l, r, t) := ((xs_astn k20_31 (Nat.le_of_ble_eq_true rfl) (ls' := [vR 3, vI x1, vI x2, vR ks0]) rfl).trans ((xs_ildn k20_32 rfl).trans ((xs_ic k20_33 (by omega)).trans ((xs_jeq k20_34).trans (px_ite (fun c1 => rfl) (fun c1 => ((xs_aldn k20_37 rfl).trans ((xs_nullR k20_38).trans ((xs_aldn k20_41 rfl).trans ((xs_get1 k20_42 (px_gs_sh hgs0) (px_gs_3 hgs0)).trans ((xs_ine k20_45).trans (px_ite (fun c2 => ((xs_ic k20_48 (by omega)).trans (xs_ri k20_49 rfl))) (fun c2 => rfl)))))))))))))
theorem b20_50 (hr : px_hr r) (d : Nat) (i l : MI) (x1 : Int) (x2 : Int) {v3 : PV} (hn3 : px_nl v3) : px_X (d + 1) 20 (50, [vR 3, vI x1, vI x2, v3], []) (px_sh L, i, l, r, t) = (px_C d 108 [vR 116, vI x1, vI x2] (px_sh L, i, l, r, t)).bind (fun q => px_X (d + 1) 20 (px_psh (59, [vR 3, vI x1, vI x2, v3], []) q.1) q.2) := ((xs_aldn k20_50 rfl).trans ((xs_get4 k20_51 (px_s3 L) (Nat.le_of_ble_eq_true rfl) (px_r3_6 hr)).trans ((xs_ildn k20_54 rfl).trans ((xs_ildn k20_55 rfl).trans (xs_callvB k20_56 (as := [vI x1, vI x2]) rfl rfl (Nat.le_of_ble_eq_true rfl) (Nat.le_of_ble_eq_true rfl) (Nat.le_of_ble_eq_true rfl) (px_s116 L) (Nat.le_of_ble_eq_true rfl))))))
theorem b20_59 (hr : px_hr r) (d : Nat) (i l : MI) (x1 : Int) (x2 : Int) {v3 : PV} (hn3 : px_nl v3) (xs0 : Int) : px_X d 20 (59, [vR 3, vI x1, vI x2, v3], [vI xs0]) (px_sh L, i, l, r, t) = some (some (vI xs0), (px_sh L, i, l, r, t)) := (xs_ri k20_59 rfl)
-- TideGuests.hatch ('R3', 'I', 'I')
theorem b21_0 (hr : px_hr r) (d : Nat) (i l : MI) (x1 : Int) (x2 : Int) : px_X (d + 1) 21 (0, [vR 3, vI x1, vI x2, vJ], []) (px_sh L, i, l, r, t) = (px_C d 31 [vI x1] (px_sh L, i, l, r, t)).bind (fun q => px_X (d + 1) 21 (px_psh (4, [vR 3, vI x1, vI x2, vJ], []) q.1) q.2) := ((xs_ildn k21_0 rfl).trans (xs_callsB k21_1 (as := [vI x1]) rfl rfl (Nat.le_of_ble_eq_true rfl) (Nat.le_of_ble_eq_true rfl) (Nat.le_of_ble_eq_true rfl)))
theorem b21_4 (hr : px_hr r) (d : Nat) (i l : MI) (x1 : Int) (x2 : Int) (xs0 : Int) : px_X (d + 1) 21 (4, [vR 3, vI x1, vI x2, vJ], [vI xs0]) (px_sh L, i, l, r, t) = if xs0 = 0 then some (some (vI (-1)), (px_sh L, i, l, r, t)) else (px_C d 30 [vI x2, vI 0, vI 2] (px_sh L, i, l, r, t)).bind (fun q => px_X (d + 1) 21 (px_psh (13, [vR 3, vI x1, vI x2, vJ], []) q.1) q.2) := ((xs_ieq k21_4).trans (px_ite (fun c1 => ((xs_ic k21_16 (by omega)).trans (xs_ri k21_17 rfl))) (fun c1 => ((xs_ildn k21_7 rfl).trans ((xs_ic k21_8 (by omega)).trans ((xs_ic k21_9 (by omega)).trans (xs_callsB k21_10 (as := [vI x2, vI 0, vI 2]) rfl rfl (Nat.le_of_ble_eq_true rfl) (Nat.le_of_ble_eq_true rfl) (Nat.le_of_ble_eq_true rfl))))))))
theorem b21_13 (hr : px_hr r) (d : Nat) (i l : MI) (x1 : Int) (x2 : Int) (xs0 : Int) : px_X (d + 1) 21 (13, [vR 3, vI x1, vI x2, vJ], [vI xs0]) (px_sh L, i, l, r, t) = if xs0 = 0 then some (some (vI (-1)), (px_sh L, i, l, r, t)) else (px_C d 121 [vR 103, vI x1] (px_sh L, i, l, r, t)).bind (fun q => px_X (d + 1) 21 (px_psh (26, [vR 3, vI x1, vI x2, vJ], []) q.1) q.2) := ((xs_ine k21_13).trans (px_ite (fun c1 => ((xs_ic k21_16 (by omega)).trans (xs_ri k21_17 rfl))) (fun c1 => ((xs_aldn k21_18 rfl).trans ((xs_get4 k21_19 (px_s3 L) (Nat.le_of_ble_eq_true rfl) (px_r3_4 hr)).trans ((xs_ildn k21_22 rfl).trans (xs_callvB k21_23 (as := [vI x1]) rfl rfl (Nat.le_of_ble_eq_true rfl) (Nat.le_of_ble_eq_true rfl) (Nat.le_of_ble_eq_true rfl) (px_s103 L) (Nat.le_of_ble_eq_true rfl))))))))
theorem b21_26 (hr : px_hr r) (d : Nat) (i l : MI) (x1 : Int) (x2 : Int) : px_X (d + 1) 21 (26, [vR 3, vI x1, vI x2, vJ], []) (px_sh L, i, l, r, t) = (px_C d 57 [vR 4] (px_sh L, i, l, r, t)).bind (fun q => px_X (d + 1) 21 (px_psh (37, [vR 3, vI x1, vI x2, vJ], [vR 103]) q.1) q.2) := ((xs_aldn k21_26 rfl).trans ((xs_get4 k21_27 (px_s3 L) (Nat.le_of_ble_eq_true rfl) (px_r3_4 hr)).trans ((xs_aldn k21_30 rfl).trans ((xs_get4 k21_31 (px_s3 L) (Nat.le_of_ble_eq_true rfl) (px_r3_0 hr)).trans (xs_callvB k21_34 (as := []) rfl rfl (Nat.le_of_ble_eq_true rfl) (Nat.le_of_ble_eq_true rfl) (Nat.le_of_ble_eq_true rfl) (px_s4 L) (Nat.le_of_ble_eq_true rfl))))))
theorem b21_37 (hr : px_hr r) (d : Nat) (i l : MI) (x1 : Int) (x2 : Int) (xs0 : Int) : px_X (d + 1) 21 (37, [vR 3, vI x1, vI x2, vJ], [vI xs0, vR 103]) (px_sh L, i, l, r, t) = (px_C d 122 [vR 103, vI xs0] (px_sh L, i, l, r, t)).bind (fun q => px_X (d + 1) 21 (px_psh (40, [vR 3, vI x1, vI x2, vJ], []) q.1) q.2) := (xs_callvB k21_37 (as := [vI xs0]) rfl rfl (Nat.le_of_ble_eq_true rfl) (Nat.le_of_ble_eq_true rfl) (Nat.le_of_ble_eq_true rfl) (px_s103 L) (Nat.le_of_ble_eq_true rfl))
theorem b21_40 (hr : px_hr r) (d : Nat) (i l : MI) (x1 : Int) (x2 : Int) : px_X (d + 1) 21 (40, [vR 3, vI x1, vI x2, vJ], []) (px_sh L, i, l, r, t) = (px_C d 113 [vR 116, vI x1] (px_sh L, i, l, r, t)).bind (fun q => px_X (d + 1) 21 (px_psh (48, [vR 3, vI x1, vI x2, vJ], []) q.1) q.2) := ((xs_aldn k21_40 rfl).trans ((xs_get4 k21_41 (px_s3 L) (Nat.le_of_ble_eq_true rfl) (px_r3_6 hr)).trans ((xs_ildn k21_44 rfl).trans (xs_callvB k21_45 (as := [vI x1]) rfl rfl (Nat.le_of_ble_eq_true rfl) (Nat.le_of_ble_eq_true rfl) (Nat.le_of_ble_eq_true rfl) (px_s116 L) (Nat.le_of_ble_eq_true rfl)))))
theorem b21_48 (hr : px_hr r) (d : Nat) (i l : MI) (x1 : Int) (x2 : Int) (xs0 : Int) : px_X (d + 1) 21 (48, [vR 3, vI x1, vI x2, vJ], [vI xs0]) (px_sh L, i, l, r, t) = if x2 = 0 then some (some (vI xs0), (px_sh L, i, l, r, t)) else if x2 = 1 then (px_C d 112 [vR 116, vI xs0] (px_sh L, i, l, r, t)).bind (fun q => px_X (d + 1) 21 (px_psh (86, [vR 3, vI x1, vI x2, vI xs0], []) q.1) q.2) else (px_C d 57 [vR 4] (px_sh L, i, l, r, t)).bind (fun q => px_X (d + 1) 21 (px_psh (94, [vR 3, vI x1, vI x2, vI xs0], []) q.1) q.2) := ((xs_istn k21_48 (Nat.le_of_ble_eq_true rfl) (ls' := [vR 3, vI x1, vI x2, vI xs0]) rfl).trans ((xs_ildn k21_49 rfl).trans (px_swi (fun c1 => ((xs_lsw k21_50 (q := ((0, _), 76)) (by rw [c1]; rfl)).trans ((xs_ildn k21_76 rfl).trans (xs_ri k21_77 rfl)))) (fun c1 => (px_swi (fun c2 => ((xs_lsw k21_50 (q := ((1, _), 78)) (by rw [c2]; rfl)).trans ((xs_aldn k21_78 rfl).trans ((xs_get4 k21_79 (px_s3 L) (Nat.le_of_ble_eq_true rfl) (px_r3_6 hr)).trans ((xs_ildn k21_82 rfl).trans (xs_callvB k21_83 (as := [vI xs0]) rfl rfl (Nat.le_of_ble_eq_true rfl) (Nat.le_of_ble_eq_true rfl) (Nat.le_of_ble_eq_true rfl) (px_s116 L) (Nat.le_of_ble_eq_true rfl))))))) (fun c2 => ((xs_lswd k21_50 (by simp; omega)).trans ((xs_aldn k21_87 rfl).trans ((xs_get4 k21_88 (px_s3 L) (Nat.le_of_ble_eq_true rfl) (px_r3_0 hr)).trans (xs_callvB k21_91 (as := []) rfl rfl (Nat.le_of_ble_eq_true rfl) (Nat.le_of_ble_eq_true rfl) (Nat.le_of_ble_eq_true rfl) (px_s4 L) (Nat.le_of_ble_eq_true rfl)))))))))))
theorem b21_86 (hr : px_hr r) (d : Nat) (i l : MI) (x1 : Int) (x2 : Int) (x3 : Int) (xs0 : Int) : px_X d 21 (86, [vR 3, vI x1, vI x2, vI x3], [vI xs0]) (px_sh L, i, l, r, t) = some (some (vI xs0), (px_sh L, i, l, r, t)) := (xs_ri k21_86 rfl)
theorem b21_94 (hr : px_hr r) (d : Nat) (i l : MI) (x1 : Int) (x2 : Int) (x3 : Int) (xs0 : Int) : px_X (d + 1) 21 (94, [vR 3, vI x1, vI x2, vI x3], [vI xs0]) (px_sh L, i, l, r, t) = (px_C d 237 [vI xs0] (px_sh L, i, l, r, t)).bind (fun q => px_X (d + 1) 21 (px_psh (97, [vR 3, vI x1, vI x2, vI x3], []) q.1) q.2) := (xs_callsB k21_94 (as := [vI xs0]) rfl rfl (Nat.le_of_ble_eq_true rfl) (Nat.le_of_ble_eq_true rfl) (Nat.le_of_ble_eq_true rfl))
theorem b21_97 (hr : px_hr r) (d : Nat) (i l : MI) (x1 : Int) (x2 : Int) (x3 : Int) (xs0 : Int) : px_X (d + 1) 21 (97, [vR 3, vI x1, vI x2, vI x3], [vI xs0]) (px_sh L, i, l, r, t) = (px_C d 237 [vI x3] (px_sh L, i, l, r, t)).bind (fun q => px_X (d + 1) 21 (px_psh (101, [vR 3, vI x1, vI x2, vI x3], [vI xs0]) q.1) q.2) := ((xs_ildn k21_97 rfl).trans (xs_callsB k21_98 (as := [vI x3]) rfl rfl (Nat.le_of_ble_eq_true rfl) (Nat.le_of_ble_eq_true rfl) (Nat.le_of_ble_eq_true rfl)))
theorem b21_101 (hr : px_hr r) (d : Nat) (i l : MI) (x1 : Int) (x2 : Int) (x3 : Int) (xs0 : Int) (xs1 : Int) : px_X d 21 (101, [vR 3, vI x1, vI x2, vI x3], [vI xs0, vI xs1]) (px_sh L, i, l, r, t) = some (some (vI (px_w32 (xs1 - xs0))), (px_sh L, i, l, r, t)) := ((xs_isub k21_101).trans (xs_ri k21_102 rfl))
-- TideGuests.horse ('R3', 'I')
theorem b22_0 (hr : px_hr r) (d : Nat) (i l : MI) (x1 : Int) : px_X (d + 1) 22 (0, [vR 3, vI x1], []) (px_sh L, i, l, r, t) = (px_C d 30 [vI x1, vI 1, vI 999] (px_sh L, i, l, r, t)).bind (fun q => px_X (d + 1) 22 (px_psh (8, [vR 3, vI x1], []) q.1) q.2) := ((xs_ildn k22_0 rfl).trans ((xs_ic k22_1 (by omega)).trans ((xs_si k22_2 (by omega)).trans (xs_callsB k22_5 (as := [vI x1, vI 1, vI 999]) rfl rfl (Nat.le_of_ble_eq_true rfl) (Nat.le_of_ble_eq_true rfl) (Nat.le_of_ble_eq_true rfl)))))
theorem b22_8 (hr : px_hr r) (d : Nat) (i l : MI) (x1 : Int) (xs0 : Int) : px_X (d + 1) 22 (8, [vR 3, vI x1], [vI xs0]) (px_sh L, i, l, r, t) = if xs0 = 0 then some (some (vI (-1)), (px_sh L, i, l, r, t)) else if (i 4 9) < 7 then (px_C d 34 [vR 16, vI (i 4 9), vI x1] (px_sh L, i, l, r, t)).bind (fun q => px_X (d + 1) 22 (px_psh (43, [vR 3, vI x1], []) q.1) q.2) else some (some (vI (-1)), (px_sh L, i, l, r, t)) := ((xs_ieq k22_8).trans (px_ite (fun c1 => ((xs_ic k22_23 (by omega)).trans (xs_ri k22_24 rfl))) (fun c1 => ((xs_aldn k22_11 rfl).trans ((xs_get4 k22_12 (px_s3 L) (Nat.le_of_ble_eq_true rfl) (px_r3_0 hr)).trans ((xs_get0 k22_15 (px_s4 L) (Nat.le_of_ble_eq_true rfl)).trans ((xs_bi k22_18 (by omega)).trans ((xs_jlt k22_20).trans (px_ite (fun c2 => ((xs_aldn k22_25 rfl).trans ((xs_get4 k22_26 (px_s3 L) (Nat.le_of_ble_eq_true rfl) (px_r3_0 hr)).trans ((xs_get4 k22_29 (px_s4 L) (Nat.le_of_ble_eq_true rfl) (px_r4_12 hr)).trans ((xs_aldn k22_32 rfl).trans ((xs_get4 k22_33 (px_s3 L) (Nat.le_of_ble_eq_true rfl) (px_r3_0 hr)).trans ((xs_get0 k22_36 (px_s4 L) (Nat.le_of_ble_eq_true rfl)).trans ((xs_ildn k22_39 rfl).trans (xs_callsB k22_40 (as := [vR 16, vI (i 4 9), vI x1]) rfl rfl (Nat.le_of_ble_eq_true rfl) (Nat.le_of_ble_eq_true rfl) (Nat.le_of_ble_eq_true rfl)))))))))) (fun c2 => ((xs_ic k22_23 (by omega)).trans (xs_ri k22_24 rfl))))))))))))
theorem b22_43 (hr : px_hr r) (d : Nat) (i l : MI) (x1 : Int) : px_X d 22 (43, [vR 3, vI x1], []) (px_sh L, i, l, r, t) = some (some (vI (px_w32 ((i 4 9) + 1))), (px_sh L, (px_up i 4 9 (px_w32 ((i 4 9) + 1))), l, r, t)) := ((xs_aldn k22_43 rfl).trans ((xs_get4 k22_44 (px_s3 L) (Nat.le_of_ble_eq_true rfl) (px_r3_0 hr)).trans ((xs_dup k22_47 rfl).trans ((xs_get0 k22_48 (px_s4 L) (Nat.le_of_ble_eq_true rfl)).trans ((xs_ic k22_51 (by omega)).trans ((xs_iadd k22_52).trans ((xs_put0 k22_53 (Or.inl rfl) (px_s4 L) (Nat.le_of_ble_eq_true rfl)).trans ((xs_aldn k22_56 rfl).trans ((xs_get4 k22_57 (px_s3 L) (Nat.le_of_ble_eq_true rfl) (px_r3_0 hr)).trans ((xs_get0 k22_60 (px_s4 L) (Nat.le_of_ble_eq_true rfl)).trans (xs_ri k22_63 rfl)))))))))))
-- TideGuests.rafts ('R3',)
theorem b23_0 (hr : px_hr r) (d : Nat) (i l : MI)  : px_X (d + 1) 23 (0, [vR 3], []) (px_sh L, i, l, r, t) = (px_C d 117 [vR 116] (px_sh L, i, l, r, t)).bind (fun q => px_X (d + 1) 23 (px_psh (7, [vR 3], []) q.1) q.2) := ((xs_aldn k23_0 rfl).trans ((xs_get4 k23_1 (px_s3 L) (Nat.le_of_ble_eq_true rfl) (px_r3_6 hr)).trans (xs_callvB k23_4 (as := []) rfl rfl (Nat.le_of_ble_eq_true rfl) (Nat.le_of_ble_eq_true rfl) (Nat.le_of_ble_eq_true rfl) (px_s116 L) (Nat.le_of_ble_eq_true rfl))))
theorem b23_7 (hr : px_hr r) (d : Nat) (i l : MI) (xs0 : Int) : px_X d 23 (7, [vR 3], [vI xs0]) (px_sh L, i, l, r, t) = some (some (vI xs0), (px_sh L, i, l, r, t)) := (xs_ri k23_7 rfl)
-- TideGuests.line ('R3', 'I', 'I', 'I')
theorem b24_0 (hr : px_hr r) (d : Nat) (i l : MI) (x1 : Int) (x2 : Int) (x3 : Int) : px_X (d + 1) 24 (0, [vR 3, vI x1, vI x2, vI x3, vJ], []) (px_sh L, i, l, r, t) = (px_C d 31 [vI x1] (px_sh L, i, l, r, t)).bind (fun q => px_X (d + 1) 24 (px_psh (4, [vR 3, vI x1, vI x2, vI x3, vJ], []) q.1) q.2) := ((xs_ildn k24_0 rfl).trans (xs_callsB k24_1 (as := [vI x1]) rfl rfl (Nat.le_of_ble_eq_true rfl) (Nat.le_of_ble_eq_true rfl) (Nat.le_of_ble_eq_true rfl)))
theorem b24_4 (hr : px_hr r) (d : Nat) (i l : MI) (x1 : Int) (x2 : Int) (x3 : Int) (xs0 : Int) : px_X (d + 1) 24 (4, [vR 3, vI x1, vI x2, vI x3, vJ], [vI xs0]) (px_sh L, i, l, r, t) = if xs0 = 0 then px_X (d + 1) 24 (39, [vR 3, vI x1, vI x2, vI x3, vJ], []) (px_sh L, i, l, r, t) else (px_C d 52 [vR 4, vI x2] (px_sh L, i, l, r, t)).bind (fun q => px_X (d + 1) 24 (px_psh (15, [vR 3, vI x1, vI x2, vI x3, vJ], []) q.1) q.2) := ((xs_ieq k24_4).trans (px_ite (fun c1 => rfl) (fun c1 => ((xs_aldn k24_7 rfl).trans ((xs_get4 k24_8 (px_s3 L) (Nat.le_of_ble_eq_true rfl) (px_r3_0 hr)).trans ((xs_ildn k24_11 rfl).trans (xs_callvB k24_12 (as := [vI x2]) rfl rfl (Nat.le_of_ble_eq_true rfl) (Nat.le_of_ble_eq_true rfl) (Nat.le_of_ble_eq_true rfl) (px_s4 L) (Nat.le_of_ble_eq_true rfl))))))))
theorem b24_15_N (hr : px_hr r) (d : Nat) (i l : MI) (x1 : Int) (x2 : Int) (x3 : Int) : px_X d 24 (15, [vR 3, vI x1, vI x2, vI x3, vJ], [vN]) (px_sh L, i, l, r, t) = px_X d 24 (39, [vR 3, vI x1, vI x2, vI x3, vJ], []) (px_sh L, i, l, r, t) := (xs_nullN k24_15)
theorem b24_15_g (hr : px_hr r) (d : Nat) (i l : MI) (x1 : Int) (x2 : Int) (x3 : Int) {ks0 : Nat} (hgs0 : px_gs ks0) : px_X (d + 1) 24 (15, [vR 3, vI x1, vI x2, vI x3, vJ], [vR ks0]) (px_sh L, i, l, r, t) = (px_C d 30 [vI x3, vI (-1), vI (px_w32 ((i 4 5) - 1))] (px_sh L, i, l, r, t)).bind (fun q => px_X (d + 1) 24 (px_psh (32, [vR 3, vI x1, vI x2, vI x3, vJ], []) q.1) q.2) := ((xs_nullR k24_15).trans ((xs_ildn k24_18 rfl).trans ((xs_ic k24_19 (by omega)).trans ((xs_aldn k24_20 rfl).trans ((xs_get4 k24_21 (px_s3 L) (Nat.le_of_ble_eq_true rfl) (px_r3_0 hr)).trans ((xs_get0 k24_24 (px_s4 L) (Nat.le_of_ble_eq_true rfl)).trans ((xs_ic k24_27 (by omega)).trans ((xs_isub k24_28).trans (xs_callsB k24_29 (as := [vI x3, vI (-1), vI (px_w32 ((i 4 5) - 1))]) rfl rfl (Nat.le_of_ble_eq_true rfl) (Nat.le_of_ble_eq_true rfl) (Nat.le_of_ble_eq_true rfl))))))))))
theorem b24_32 (hr : px_hr r) (d : Nat) (i l : MI) (x1 : Int) (x2 : Int) (x3 : Int) (xs0 : Int) : px_X d 24 (32, [vR 3, vI x1, vI x2, vI x3, vJ], [vI xs0]) (px_sh L, i, l, r, t) = if xs0 = 0 then px_X d 24 (39, [vR 3, vI x1, vI x2, vI x3, vJ], []) (px_sh L, i, l, r, t) else px_X d 24 (40, [vR 3, vI x1, vI x2, vI x3, vJ], [vI 1]) (px_sh L, i, l, r, t) := ((xs_ieq k24_32).trans (px_ite (fun c1 => rfl) (fun c1 => ((xs_ic k24_35 (by omega)).trans (xs_goto k24_36)))))
theorem b24_39 (hr : px_hr r) (d : Nat) (i l : MI) (x1 : Int) (x2 : Int) (x3 : Int) : px_X d 24 (39, [vR 3, vI x1, vI x2, vI x3, vJ], []) (px_sh L, i, l, r, t) = px_X d 24 (40, [vR 3, vI x1, vI x2, vI x3, vJ], [vI 0]) (px_sh L, i, l, r, t) := (xs_ic k24_39 (by omega))
theorem b24_40 (hr : px_hr r) (d : Nat) (i l : MI) (x1 : Int) (x2 : Int) (x3 : Int) (xs0 : Int) : px_X (d + 1) 24 (40, [vR 3, vI x1, vI x2, vI x3, vJ], [vI xs0]) (px_sh L, i, l, r, t) = if xs0 = 0 then some (some (vI (-1)), (px_sh L, i, l, r, t)) else if (i 5 0) < 12 then (px_C d 46 [vR 5, vI x1, vI x2, vI x3] (px_sh L, i, l, r, t)).bind (fun q => px_X (d + 1) 24 (px_psh (77, [vR 3, vI x1, vI x2, vI x3, vI xs0], []) q.1) q.2) else some (some (vI (-1)), (px_sh L, i, l, r, t)) := ((xs_ist k24_40 (Nat.le_of_ble_eq_true rfl) (ls' := [vR 3, vI x1, vI x2, vI x3, vI xs0]) rfl).trans ((xs_ild k24_42 rfl).trans ((xs_ieq k24_44).trans (px_ite (fun c1 => ((xs_ic k24_62 (by omega)).trans (xs_ri k24_63 rfl))) (fun c1 => ((xs_aldn k24_47 rfl).trans ((xs_get4 k24_48 (px_s3 L) (Nat.le_of_ble_eq_true rfl) (px_r3_0 hr)).trans ((xs_get4 k24_51 (px_s4 L) (Nat.le_of_ble_eq_true rfl) (px_r4_1 hr)).trans ((xs_get0 k24_54 (px_s5 L) (Nat.le_of_ble_eq_true rfl)).trans ((xs_bi k24_57 (by omega)).trans ((xs_jlt k24_59).trans (px_ite (fun c2 => ((xs_aldn k24_64 rfl).trans ((xs_get4 k24_65 (px_s3 L) (Nat.le_of_ble_eq_true rfl) (px_r3_0 hr)).trans ((xs_get4 k24_68 (px_s4 L) (Nat.le_of_ble_eq_true rfl) (px_r4_1 hr)).trans ((xs_ildn k24_71 rfl).trans ((xs_ildn k24_72 rfl).trans ((xs_ildn k24_73 rfl).trans (xs_callvB k24_74 (as := [vI x1, vI x2, vI x3]) rfl rfl (Nat.le_of_ble_eq_true rfl) (Nat.le_of_ble_eq_true rfl) (Nat.le_of_ble_eq_true rfl) (px_s5 L) (Nat.le_of_ble_eq_true rfl))))))))) (fun c2 => ((xs_ic k24_62 (by omega)).trans (xs_ri k24_63 rfl)))))))))))))))
theorem b24_77 (hr : px_hr r) (d : Nat) (i l : MI) (x1 : Int) (x2 : Int) (x3 : Int) (x4 : Int) : px_X d 24 (77, [vR 3, vI x1, vI x2, vI x3, vI x4], []) (px_sh L, i, l, r, t) = some (some (vI (i 5 0)), (px_sh L, i, l, r, t)) := ((xs_aldn k24_77 rfl).trans ((xs_get4 k24_78 (px_s3 L) (Nat.le_of_ble_eq_true rfl) (px_r3_0 hr)).trans ((xs_get4 k24_81 (px_s4 L) (Nat.le_of_ble_eq_true rfl) (px_r4_1 hr)).trans ((xs_get0 k24_84 (px_s5 L) (Nat.le_of_ble_eq_true rfl)).trans (xs_ri k24_87 rfl)))))
-- TideGuests.there ('R3', 'I')
theorem b25_0 (hr : px_hr r) (d : Nat) (i l : MI) (x1 : Int) : px_X (d + 1) 25 (0, [vR 3, vI x1], []) (px_sh L, i, l, r, t) = (px_C d 30 [vI x1, vI 0, vI 3] (px_sh L, i, l, r, t)).bind (fun q => px_X (d + 1) 25 (px_psh (6, [vR 3, vI x1], []) q.1) q.2) := ((xs_ildn k25_0 rfl).trans ((xs_ic k25_1 (by omega)).trans ((xs_ic k25_2 (by omega)).trans (xs_callsB k25_3 (as := [vI x1, vI 0, vI 3]) rfl rfl (Nat.le_of_ble_eq_true rfl) (Nat.le_of_ble_eq_true rfl) (Nat.le_of_ble_eq_true rfl)))))
theorem b25_6 (hr : px_hr r) (d : Nat) (i l : MI) (x1 : Int) (xs0 : Int) : px_X (d + 1) 25 (6, [vR 3, vI x1], [vI xs0]) (px_sh L, i, l, r, t) = if xs0 = 0 then some (some (vI (-1)), (px_sh L, i, l, r, t)) else (px_C d 130 [vR 103] (px_sh L, i, l, r, t)).bind (fun q => px_X (d + 1) 25 (px_psh (18, [vR 3, vI x1], []) q.1) q.2) := ((xs_ine k25_6).trans (px_ite (fun c1 => ((xs_ic k25_9 (by omega)).trans (xs_ri k25_10 rfl))) (fun c1 => ((xs_aldn k25_11 rfl).trans ((xs_get4 k25_12 (px_s3 L) (Nat.le_of_ble_eq_true rfl) (px_r3_4 hr)).trans (xs_callvB k25_15 (as := []) rfl rfl (Nat.le_of_ble_eq_true rfl) (Nat.le_of_ble_eq_true rfl) (Nat.le_of_ble_eq_true rfl) (px_s103 L) (Nat.le_of_ble_eq_true rfl)))))))
theorem b25_18 (hr : px_hr r) (d : Nat) (i l : MI) (x1 : Int) : px_X (d + 1) 25 (18, [vR 3, vI x1], []) (px_sh L, i, l, r, t) = (px_C d 132 [vR 103, vI x1] (px_sh L, i, l, r, t)).bind (fun q => px_X (d + 1) 25 (px_psh (26, [vR 3, vI x1], []) q.1) q.2) := ((xs_aldn k25_18 rfl).trans ((xs_get4 k25_19 (px_s3 L) (Nat.le_of_ble_eq_true rfl) (px_r3_4 hr)).trans ((xs_ildn k25_22 rfl).trans (xs_callvB k25_23 (as := [vI x1]) rfl rfl (Nat.le_of_ble_eq_true rfl) (Nat.le_of_ble_eq_true rfl) (Nat.le_of_ble_eq_true rfl) (px_s103 L) (Nat.le_of_ble_eq_true rfl)))))
theorem b25_26 (hr : px_hr r) (d : Nat) (i l : MI) (x1 : Int) (xs0 : Int) : px_X d 25 (26, [vR 3, vI x1], [vI xs0]) (px_sh L, i, l, r, t) = some (some (vI xs0), (px_sh L, i, l, r, t)) := (xs_ri k25_26 rfl)
-- TideGuests.shift ('R3', 'I', 'I')
theorem b26_0 (hr : px_hr r) (d : Nat) (i l : MI) (x1 : Int) (x2 : Int) : px_X (d + 1) 26 (0, [vR 3, vI x1, vI x2], []) (px_sh L, i, l, r, t) = (px_C d 30 [vI x1, vI 0, vI 9999] (px_sh L, i, l, r, t)).bind (fun q => px_X (d + 1) 26 (px_psh (8, [vR 3, vI x1, vI x2], []) q.1) q.2) := ((xs_ildn k26_0 rfl).trans ((xs_ic k26_1 (by omega)).trans ((xs_si k26_2 (by omega)).trans (xs_callsB k26_5 (as := [vI x1, vI 0, vI 9999]) rfl rfl (Nat.le_of_ble_eq_true rfl) (Nat.le_of_ble_eq_true rfl) (Nat.le_of_ble_eq_true rfl)))))
theorem b26_8 (hr : px_hr r) (d : Nat) (i l : MI) (x1 : Int) (x2 : Int) (xs0 : Int) : px_X (d + 1) 26 (8, [vR 3, vI x1, vI x2], [vI xs0]) (px_sh L, i, l, r, t) = if xs0 = 0 then some (some (vI (-1)), (px_sh L, i, l, r, t)) else (px_C d 30 [vI x2, vI 1, vI 60] (px_sh L, i, l, r, t)).bind (fun q => px_X (d + 1) 26 (px_psh (18, [vR 3, vI x1, vI x2], []) q.1) q.2) := ((xs_ieq k26_8).trans (px_ite (fun c1 => ((xs_ic k26_21 (by omega)).trans (xs_ri k26_22 rfl))) (fun c1 => ((xs_ildn k26_11 rfl).trans ((xs_ic k26_12 (by omega)).trans ((xs_bi k26_13 (by omega)).trans (xs_callsB k26_15 (as := [vI x2, vI 1, vI 60]) rfl rfl (Nat.le_of_ble_eq_true rfl) (Nat.le_of_ble_eq_true rfl) (Nat.le_of_ble_eq_true rfl))))))))
theorem b26_18 (hr : px_hr r) (d : Nat) (i l : MI) (x1 : Int) (x2 : Int) (xs0 : Int) : px_X (d + 1) 26 (18, [vR 3, vI x1, vI x2], [vI xs0]) (px_sh L, i, l, r, t) = if xs0 = 0 then some (some (vI (-1)), (px_sh L, i, l, r, t)) else (px_C d 43 [vR 19, vI x1, vI x2] (px_sh L, i, l, r, t)).bind (fun q => px_X (d + 1) 26 (px_psh (35, [vR 3, vI x1, vI x2], []) q.1) q.2) := ((xs_ine k26_18).trans (px_ite (fun c1 => ((xs_ic k26_21 (by omega)).trans (xs_ri k26_22 rfl))) (fun c1 => ((xs_aldn k26_23 rfl).trans ((xs_get4 k26_24 (px_s3 L) (Nat.le_of_ble_eq_true rfl) (px_r3_0 hr)).trans ((xs_get4 k26_27 (px_s4 L) (Nat.le_of_ble_eq_true rfl) (px_r4_0 hr)).trans ((xs_ildn k26_30 rfl).trans ((xs_ildn k26_31 rfl).trans (xs_callvB k26_32 (as := [vI x1, vI x2]) rfl rfl (Nat.le_of_ble_eq_true rfl) (Nat.le_of_ble_eq_true rfl) (Nat.le_of_ble_eq_true rfl) (px_s19 L) (Nat.le_of_ble_eq_true rfl))))))))))
theorem b26_35 (hr : px_hr r) (d : Nat) (i l : MI) (x1 : Int) (x2 : Int) (xs0 : Int) : px_X d 26 (35, [vR 3, vI x1, vI x2], [vI xs0]) (px_sh L, i, l, r, t) = some (some (vI xs0), (px_sh L, i, l, r, t)) := (xs_ri k26_35 rfl)
-- TideGuests.image ('R3',)
theorem b27_0 (hr : px_hr r) (d : Nat) (i l : MI)  : px_X (d + 1) 27 (0, [vR 3], []) (px_sh L, i, l, r, t) = (px_C d 61 [vR 31, vR 4] (px_sh L, i, l, r, t)).bind (fun q => px_X (d + 1) 27 (px_psh (11, [vR 3], []) q.1) q.2) := ((xs_aldn k27_0 rfl).trans ((xs_get4 k27_1 (px_s3 L) (Nat.le_of_ble_eq_true rfl) (px_r3_1 hr)).trans ((xs_aldn k27_4 rfl).trans ((xs_get4 k27_5 (px_s3 L) (Nat.le_of_ble_eq_true rfl) (px_r3_0 hr)).trans (xs_callvB k27_8 (as := [vR 4]) rfl rfl (Nat.le_of_ble_eq_true rfl) (Nat.le_of_ble_eq_true rfl) (Nat.le_of_ble_eq_true rfl) (px_s31 L) (Nat.le_of_ble_eq_true rfl))))))
theorem b27_11 (hr : px_hr r) (d : Nat) (i l : MI)  : px_X d 27 (11, [vR 3], []) (px_sh L, i, l, r, t) = some (some (vI (i 4 6)), (px_sh L, i, l, r, t)) := ((xs_aldn k27_11 rfl).trans ((xs_get4 k27_12 (px_s3 L) (Nat.le_of_ble_eq_true rfl) (px_r3_0 hr)).trans ((xs_get0 k27_15 (px_s4 L) (Nat.le_of_ble_eq_true rfl)).trans (xs_ri k27_18 rfl))))
-- TideGuests.back ('R3',)
theorem b28_0 (hr : px_hr r) (d : Nat) (i l : MI)  : px_X (d + 1) 28 (0, [vR 3], []) (px_sh L, i, l, r, t) = (px_C d 61 [vR 4, vR 31] (px_sh L, i, l, r, t)).bind (fun q => px_X (d + 1) 28 (px_psh (11, [vR 3], []) q.1) q.2) := ((xs_aldn k28_0 rfl).trans ((xs_get4 k28_1 (px_s3 L) (Nat.le_of_ble_eq_true rfl) (px_r3_0 hr)).trans ((xs_aldn k28_4 rfl).trans ((xs_get4 k28_5 (px_s3 L) (Nat.le_of_ble_eq_true rfl) (px_r3_1 hr)).trans (xs_callvB k28_8 (as := [vR 31]) rfl rfl (Nat.le_of_ble_eq_true rfl) (Nat.le_of_ble_eq_true rfl) (Nat.le_of_ble_eq_true rfl) (px_s4 L) (Nat.le_of_ble_eq_true rfl))))))
theorem b28_11 (hr : px_hr r) (d : Nat) (i l : MI)  : px_X (d + 1) 28 (11, [vR 3], []) (px_sh L, i, l, r, t) = (px_C d 63 [vR 68] (px_sh L, i, l, r, t)).bind (fun q => px_X (d + 1) 28 (px_psh (18, [vR 3], []) q.1) q.2) := ((xs_aldn k28_11 rfl).trans ((xs_get4 k28_12 (px_s3 L) (Nat.le_of_ble_eq_true rfl) (px_r3_3 hr)).trans (xs_callvB k28_15 (as := []) rfl rfl (Nat.le_of_ble_eq_true rfl) (Nat.le_of_ble_eq_true rfl) (Nat.le_of_ble_eq_true rfl) (px_s68 L) (Nat.le_of_ble_eq_true rfl))))
theorem b28_18 (hr : px_hr r) (d : Nat) (i l : MI)  : px_X d 28 (18, [vR 3], []) (px_sh L, i, l, r, t) = some (some (vI (i 4 6)), (px_sh L, i, l, r, t)) := ((xs_aldn k28_18 rfl).trans ((xs_get4 k28_19 (px_s3 L) (Nat.le_of_ble_eq_true rfl) (px_r3_0 hr)).trans ((xs_get0 k28_22 (px_s4 L) (Nat.le_of_ble_eq_true rfl)).trans (xs_ri k28_25 rfl))))
-- TideGuests.about ('R3', 'I')
theorem b29_0 (hr : px_hr r) (d : Nat) (i l : MI) (x1 : Int) : px_X (d + 1) 29 (0, [vR 3, vI x1], []) (px_sh L, i, l, r, t) = if x1 = 11 then some (some (vI (i 58 1)), (px_sh L, i, l, r, t)) else (px_C d 30 [vI x1, vI 0, vI 10] (px_sh L, i, l, r, t)).bind (fun q => px_X (d + 1) 29 (px_psh (21, [vR 3, vI x1], []) q.1) q.2) := ((xs_ildn k29_0 rfl).trans ((xs_bi k29_1 (by omega)).trans ((xs_jne k29_3).trans (px_ite (fun c1 => ((xs_aldn k29_6 rfl).trans ((xs_get4 k29_7 (px_s3 L) (Nat.le_of_ble_eq_true rfl) (px_r3_2 hr)).trans ((xs_get0 k29_10 (px_s58 L) (Nat.le_of_ble_eq_true rfl)).trans (xs_ri k29_13 rfl))))) (fun c1 => ((xs_ildn k29_14 rfl).trans ((xs_ic k29_15 (by omega)).trans ((xs_bi k29_16 (by omega)).trans (xs_callsB k29_18 (as := [vI x1, vI 0, vI 10]) rfl rfl (Nat.le_of_ble_eq_true rfl) (Nat.le_of_ble_eq_true rfl) (Nat.le_of_ble_eq_true rfl))))))))))
theorem b29_21 (hr : px_hr r) (d : Nat) (i l : MI) (x1 : Int) (xs0 : Int) : px_X (d + 1) 29 (21, [vR 3, vI x1], [vI xs0]) (px_sh L, i, l, r, t) = if xs0 = 0 then (px_C d 30 [vI x1, vI 20, vI 39] (px_sh L, i, l, r, t)).bind (fun q => px_X (d + 1) 29 (px_psh (41, [vR 3, vI x1], []) q.1) q.2) else (px_C d 58 [vR 4, vI x1] (px_sh L, i, l, r, t)).bind (fun q => px_X (d + 1) 29 (px_psh (32, [vR 3, vI x1], []) q.1) q.2) := ((xs_ieq k29_21).trans (px_ite (fun c1 => ((xs_ildn k29_33 rfl).trans ((xs_bi k29_34 (by omega)).trans ((xs_bi k29_36 (by omega)).trans (xs_callsB k29_38 (as := [vI x1, vI 20, vI 39]) rfl rfl (Nat.le_of_ble_eq_true rfl) (Nat.le_of_ble_eq_true rfl) (Nat.le_of_ble_eq_true rfl)))))) (fun c1 => ((xs_aldn k29_24 rfl).trans ((xs_get4 k29_25 (px_s3 L) (Nat.le_of_ble_eq_true rfl) (px_r3_0 hr)).trans ((xs_ildn k29_28 rfl).trans (xs_callvB k29_29 (as := [vI x1]) rfl rfl (Nat.le_of_ble_eq_true rfl) (Nat.le_of_ble_eq_true rfl) (Nat.le_of_ble_eq_true rfl) (px_s4 L) (Nat.le_of_ble_eq_true rfl))))))))
theorem b29_32 (hr : px_hr r) (d : Nat) (i l : MI) (x1 : Int) (xs0 : Int) : px_X d 29 (32, [vR 3, vI x1], [vI xs0]) (px_sh L, i, l, r, t) = some (some (vI xs0), (px_sh L, i, l, r, t)) := (xs_ri k29_32 rfl)
theorem b29_41 (hr : px_hr r) (d : Nat) (i l : MI) (x1 : Int) (xs0 : Int) : px_X (d + 1) 29 (41, [vR 3, vI x1], [vI xs0]) (px_sh L, i, l, r, t) = if xs0 = 0 then (px_C d 30 [vI x1, vI 40, vI 69] (px_sh L, i, l, r, t)).bind (fun q => px_X (d + 1) 29 (px_psh (61, [vR 3, vI x1], []) q.1) q.2) else (px_C d 59 [vR 4, vI x1] (px_sh L, i, l, r, t)).bind (fun q => px_X (d + 1) 29 (px_psh (52, [vR 3, vI x1], []) q.1) q.2) := ((xs_ieq k29_41).trans (px_ite (fun c1 => ((xs_ildn k29_53 rfl).trans ((xs_bi k29_54 (by omega)).trans ((xs_bi k29_56 (by omega)).trans (xs_callsB k29_58 (as := [vI x1, vI 40, vI 69]) rfl rfl (Nat.le_of_ble_eq_true rfl) (Nat.le_of_ble_eq_true rfl) (Nat.le_of_ble_eq_true rfl)))))) (fun c1 => ((xs_aldn k29_44 rfl).trans ((xs_get4 k29_45 (px_s3 L) (Nat.le_of_ble_eq_true rfl) (px_r3_0 hr)).trans ((xs_ildn k29_48 rfl).trans (xs_callvB k29_49 (as := [vI x1]) rfl rfl (Nat.le_of_ble_eq_true rfl) (Nat.le_of_ble_eq_true rfl) (Nat.le_of_ble_eq_true rfl) (px_s4 L) (Nat.le_of_ble_eq_true rfl))))))))
theorem b29_52 (hr : px_hr r) (d : Nat) (i l : MI) (x1 : Int) (xs0 : Int) : px_X d 29 (52, [vR 3, vI x1], [vI xs0]) (px_sh L, i, l, r, t) = some (some (vI xs0), (px_sh L, i, l, r, t)) := (xs_ri k29_52 rfl)
theorem b29_61 (hr : px_hr r) (d : Nat) (i l : MI) (x1 : Int) (xs0 : Int) : px_X (d + 1) 29 (61, [vR 3, vI x1], [vI xs0]) (px_sh L, i, l, r, t) = if xs0 = 0 then (px_C d 37 [vR 19, vI (px_w32 (x1 - 100))] (px_sh L, i, l, r, t)).bind (fun q => px_X (d + 1) 29 (px_psh (87, [vR 3, vI x1], []) q.1) q.2) else (px_C d 60 [vR 4, vI x1] (px_sh L, i, l, r, t)).bind (fun q => px_X (d + 1) 29 (px_psh (72, [vR 3, vI x1], []) q.1) q.2) := ((xs_ieq k29_61).trans (px_ite (fun c1 => ((xs_aldn k29_73 rfl).trans ((xs_get4 k29_74 (px_s3 L) (Nat.le_of_ble_eq_true rfl) (px_r3_0 hr)).trans ((xs_get4 k29_77 (px_s4 L) (Nat.le_of_ble_eq_true rfl) (px_r4_0 hr)).trans ((xs_ildn k29_80 rfl).trans ((xs_bi k29_81 (by omega)).trans ((xs_isub k29_83).trans (xs_callvB k29_84 (as := [vI (px_w32 (x1 - 100))]) rfl rfl (Nat.le_of_ble_eq_true rfl) (Nat.le_of_ble_eq_true rfl) (Nat.le_of_ble_eq_true rfl) (px_s19 L) (Nat.le_of_ble_eq_true rfl))))))))) (fun c1 => ((xs_aldn k29_64 rfl).trans ((xs_get4 k29_65 (px_s3 L) (Nat.le_of_ble_eq_true rfl) (px_r3_0 hr)).trans ((xs_ildn k29_68 rfl).trans (xs_callvB k29_69 (as := [vI x1]) rfl rfl (Nat.le_of_ble_eq_true rfl) (Nat.le_of_ble_eq_true rfl) (Nat.le_of_ble_eq_true rfl) (px_s4 L) (Nat.le_of_ble_eq_true rfl))))))))
theorem b29_72 (hr : px_hr r) (d : Nat) (i l : MI) (x1 : Int) (xs0 : Int) : px_X d 29 (72, [vR 3, vI x1], [vI xs0]) (px_sh L, i, l, r, t) = some (some (vI xs0), (px_sh L, i, l, r, t)) := (xs_ri k29_72 rfl)
theorem b29_87 (hr : px_hr r) (d : Nat) (i l : MI) (x1 : Int) (xs0 : Int) : px_X (d + 1) 29 (87, [vR 3, vI x1], [vI xs0]) (px_sh L, i, l, r, t) = if xs0 = 0 then (px_C d 37 [vR 19, vI (px_w32 (x1 - 200))] (px_sh L, i, l, r, t)).bind (fun q => px_X (d + 1) 29 (px_psh (120, [vR 3, vI x1], []) q.1) q.2) else (px_C d 38 [vR 19, vI (px_w32 (x1 - 100))] (px_sh L, i, l, r, t)).bind (fun q => px_X (d + 1) 29 (px_psh (104, [vR 3, vI x1], []) q.1) q.2) := ((xs_ieq k29_87).trans (px_ite (fun c1 => ((xs_aldn k29_105 rfl).trans ((xs_get4 k29_106 (px_s3 L) (Nat.le_of_ble_eq_true rfl) (px_r3_0 hr)).trans ((xs_get4 k29_109 (px_s4 L) (Nat.le_of_ble_eq_true rfl) (px_r4_0 hr)).trans ((xs_ildn k29_112 rfl).trans ((xs_si k29_113 (by omega)).trans ((xs_isub k29_116).trans (xs_callvB k29_117 (as := [vI (px_w32 (x1 - 200))]) rfl rfl (Nat.le_of_ble_eq_true rfl) (Nat.le_of_ble_eq_true rfl) (Nat.le_of_ble_eq_true rfl) (px_s19 L) (Nat.le_of_ble_eq_true rfl))))))))) (fun c1 => ((xs_aldn k29_90 rfl).trans ((xs_get4 k29_91 (px_s3 L) (Nat.le_of_ble_eq_true rfl) (px_r3_0 hr)).trans ((xs_get4 k29_94 (px_s4 L) (Nat.le_of_ble_eq_true rfl) (px_r4_0 hr)).trans ((xs_ildn k29_97 rfl).trans ((xs_bi k29_98 (by omega)).trans ((xs_isub k29_100).trans (xs_callvB k29_101 (as := [vI (px_w32 (x1 - 100))]) rfl rfl (Nat.le_of_ble_eq_true rfl) (Nat.le_of_ble_eq_true rfl) (Nat.le_of_ble_eq_true rfl) (px_s19 L) (Nat.le_of_ble_eq_true rfl)))))))))))
theorem b29_104 (hr : px_hr r) (d : Nat) (i l : MI) (x1 : Int) (xs0 : Int) : px_X d 29 (104, [vR 3, vI x1], [vI xs0]) (px_sh L, i, l, r, t) = some (some (vI xs0), (px_sh L, i, l, r, t)) := (xs_ri k29_104 rfl)
theorem b29_120 (hr : px_hr r) (d : Nat) (i l : MI) (x1 : Int) (xs0 : Int) : px_X (d + 1) 29 (120, [vR 3, vI x1], [vI xs0]) (px_sh L, i, l, r, t) = if xs0 = 0 then some (some (vI (-1000)), (px_sh L, i, l, r, t)) else (px_C d 39 [vR 19, vI (px_w32 (x1 - 200))] (px_sh L, i, l, r, t)).bind (fun q => px_X (d + 1) 29 (px_psh (138, [vR 3, vI x1], []) q.1) q.2) := ((xs_ieq k29_120).trans (px_ite (fun c1 => ((xs_si k29_147 (by omega)).trans (xs_ri k29_150 rfl))) (fun c1 => ((xs_aldn k29_123 rfl).trans ((xs_get4 k29_124 (px_s3 L) (Nat.le_of_ble_eq_true rfl) (px_r3_0 hr)).trans ((xs_get4 k29_127 (px_s4 L) (Nat.le_of_ble_eq_true rfl) (px_r4_0 hr)).trans ((xs_ildn k29_130 rfl).trans ((xs_si k29_131 (by omega)).trans ((xs_isub k29_134).trans (xs_callvB k29_135 (as := [vI (px_w32 (x1 - 200))]) rfl rfl (Nat.le_of_ble_eq_true rfl) (Nat.le_of_ble_eq_true rfl) (Nat.le_of_ble_eq_true rfl) (px_s19 L) (Nat.le_of_ble_eq_true rfl)))))))))))
theorem b29_138 (hr : px_hr r) (d : Nat) (i l : MI) (x1 : Int) (xs0 : Int) : px_X d 29 (138, [vR 3, vI x1], [vI xs0]) (px_sh L, i, l, r, t) = if xs0 = 0 then some (some (vI 0), (px_sh L, i, l, r, t)) else some (some (vI 1), (px_sh L, i, l, r, t)) := ((xs_ieq k29_138).trans (px_ite (fun c1 => ((xs_ic k29_145 (by omega)).trans (xs_ri k29_146 rfl))) (fun c1 => ((xs_ic k29_141 (by omega)).trans ((xs_goto k29_142).trans (xs_ri k29_146 rfl))))))
-- TideGuests.within ('I', 'I', 'I')
theorem b30_0 (hr : px_hr r) (d : Nat) (i l : MI) (x0 : Int) (x1 : Int) (x2 : Int) : px_X d 30 (0, [vI x0, vI x1, vI x2], []) (px_sh L, i, l, r, t) = if x0 < x1 then some (some (vI 0), (px_sh L, i, l, r, t)) else if x2 < x0 then some (some (vI 0), (px_sh L, i, l, r, t)) else some (some (vI 1), (px_sh L, i, l, r, t)) := ((xs_ildn k30_0 rfl).trans ((xs_ildn k30_1 rfl).trans ((xs_jlt k30_2).trans (px_ite (fun c1 => ((xs_ic k30_14 (by omega)).trans (xs_rz k30_15 rfl (by omega)))) (fun c1 => ((xs_ildn k30_5 rfl).trans ((xs_ildn k30_6 rfl).trans ((xs_jgt k30_7).trans (px_ite (fun c2 => ((xs_ic k30_14 (by omega)).trans (xs_rz k30_15 rfl (by omega)))) (fun c2 => ((xs_ic k30_10 (by omega)).trans ((xs_goto k30_11).trans (xs_rz k30_15 rfl (by omega))))))))))))))
-- TideGuests.isMinute ('I',)
theorem b31_0 (hr : px_hr r) (d : Nat) (i l : MI) (x0 : Int) : px_X (d + 1) 31 (0, [vI x0], []) (px_sh L, i, l, r, t) = (px_C d 30 [vI x0, vI 0, vI 1439] (px_sh L, i, l, r, t)).bind (fun q => px_X (d + 1) 31 (px_psh (8, [vI x0], []) q.1) q.2) := ((xs_ildn k31_0 rfl).trans ((xs_ic k31_1 (by omega)).trans ((xs_si k31_2 (by omega)).trans (xs_callsB k31_5 (as := [vI x0, vI 0, vI 1439]) rfl rfl (Nat.le_of_ble_eq_true rfl) (Nat.le_of_ble_eq_true rfl) (Nat.le_of_ble_eq_true rfl)))))
theorem b31_8 (hr : px_hr r) (d : Nat) (i l : MI) (x0 : Int) (xs0 : Int) (h1 : xs0 = 0 ∨ xs0 = 1) : px_X d 31 (8, [vI x0], [vI xs0]) (px_sh L, i, l, r, t) = some (some (vI xs0), (px_sh L, i, l, r, t)) := (xs_rz k31_8 rfl (h1))
-- TideGuests.hasBit ('I', 'I')
theorem b32_0 (hr : px_hr r) (d : Nat) (i l : MI) (x0 : Int) (x1 : Int) : px_X d 32 (0, [vI x0, vI x1], []) (px_sh L, i, l, r, t) = if x1 < 0 then some (some (vI 0), (px_sh L, i, l, r, t)) else if 31 ≤ x1 then some (some (vI 0), (px_sh L, i, l, r, t)) else if (px_and (px_shr x0 x1) 1) = 1 then some (some (vI 1), (px_sh L, i, l, r, t)) else some (some (vI 0), (px_sh L, i, l, r, t)) := ((xs_ildn k32_0 rfl).trans ((xs_ilt k32_1).trans (px_ite (fun c1 => ((xs_ic k32_23 (by omega)).trans (xs_rz k32_24 rfl (by omega)))) (fun c1 => ((xs_ildn k32_4 rfl).trans ((xs_bi k32_5 (by omega)).trans ((xs_jge k32_7).trans (px_ite (fun c2 => ((xs_ic k32_23 (by omega)).trans (xs_rz k32_24 rfl (by omega)))) (fun c2 => ((xs_ildn k32_10 rfl).trans ((xs_ildn k32_11 rfl).trans ((xs_ishr k32_12).trans ((xs_ic k32_13 (by omega)).trans ((xs_iand k32_14).trans ((xs_ic k32_15 (by omega)).trans ((xs_jne k32_16).trans (px_ite (fun c3 => ((xs_ic k32_19 (by omega)).trans ((xs_goto k32_20).trans (xs_rz k32_24 rfl (by omega))))) (fun c3 => ((xs_ic k32_23 (by omega)).trans (xs_rz k32_24 rfl (by omega)))))))))))))))))))))
-- TideGuests.at ('a', 'I')
theorem b33_0 (hr : px_hr r) (d : Nat) (i l : MI) {k0 n0 : Nat} (hk0 : (px_sh L)[k0]? = some (.inr (0, n0))) (g0 : 3 ≤ k0) (x1 : Int) (h1 : (¬ (x1 < 0)) → (x1 < (n0 : Int)) → 0 ≤ x1 ∧ x1 < (n0 : Int)) : px_X d 33 (0, [vR k0, vI x1], []) (px_sh L, i, l, r, t) = if x1 < 0 then some (some (vI 0), (px_sh L, i, l, r, t)) else if x1 < (n0 : Int) then some (some (vI (i k0 x1)), (px_sh L, i, l, r, t)) else some (some (vI 0), (px_sh L, i, l, r, t)) := ((xs_aldn k33_0 rfl).trans ((xs_nullR k33_1).trans ((xs_ildn k33_4 rfl).trans ((xs_ilt k33_5).trans (px_ite (fun c1 => ((xs_ic k33_14 (by omega)).trans (xs_ri k33_15 rfl))) (fun c1 => ((xs_ildn k33_8 rfl).trans ((xs_aldn k33_9 rfl).trans ((xs_aln k33_10 hk0).trans ((xs_jlt k33_11).trans (px_ite (fun c2 => ((xs_aldn k33_16 rfl).trans ((xs_ildn k33_17 rfl).trans ((xs_iald k33_18 hk0 (h1 c1 c2)).trans (xs_ri k33_19 rfl))))) (fun c2 => ((xs_ic k33_14 (by omega)).trans (xs_ri k33_15 rfl))))))))))))))
-- TideGuests.put ('a', 'I', 'I')
theorem b34_0 (hr : px_hr r) (d : Nat) (i l : MI) {k0 n0 : Nat} (hk0 : (px_sh L)[k0]? = some (.inr (0, n0))) (g0 : 3 ≤ k0) (x1 : Int) (x2 : Int) (h1 : (¬ (x1 < 0)) → (¬ ((n0 : Int) ≤ x1)) → 0 ≤ x1 ∧ x1 < (n0 : Int)) : px_X d 34 (0, [vR k0, vI x1, vI x2], []) (px_sh L, i, l, r, t) = if x1 < 0 then some (none, (px_sh L, i, l, r, t)) else if (n0 : Int) ≤ x1 then some (none, (px_sh L, i, l, r, t)) else some (none, (px_sh L, (px_up i k0 x1 x2), l, r, t)) := ((xs_aldn k34_0 rfl).trans ((xs_nullR k34_1).trans ((xs_ildn k34_4 rfl).trans ((xs_ilt k34_5).trans (px_ite (fun c1 => (xs_rv k34_18 rfl)) (fun c1 => ((xs_ildn k34_8 rfl).trans ((xs_aldn k34_9 rfl).trans ((xs_aln k34_10 hk0).trans ((xs_jge k34_11).trans (px_ite (fun c2 => (xs_rv k34_18 rfl)) (fun c2 => ((xs_aldn k34_14 rfl).trans ((xs_ildn k34_15 rfl).trans ((xs_ildn k34_16 rfl).trans ((xs_iast k34_17 hk0 (h1 c1 c2) g0).trans (xs_rv k34_18 rfl)))))))))))))))))
-- TideGuests.copyRow ('a', 'a')
theorem b35_0 (hr : px_hr r) (d : Nat) (i l : MI) {k0 n0 : Nat} (hk0 : (px_sh L)[k0]? = some (.inr (0, n0))) (g0 : 3 ≤ k0) {k1 n1 : Nat} (hk1 : (px_sh L)[k1]? = some (.inr (0, n1))) (g1 : 3 ≤ k1) (h1 : (0 : Int) ≤ (if (n1 : Int) < (n0 : Int) then (n1 : Int) else (n0 : Int)) ∧ (0 : Int) ≤ 0 ∧ (0 : Int) ≤ 0 ∧ 0 + (if (n1 : Int) < (n0 : Int) then (n1 : Int) else (n0 : Int)) ≤ (n0 : Int) ∧ 0 + (if (n1 : Int) < (n0 : Int) then (n1 : Int) else (n0 : Int)) ≤ (n1 : Int)) : px_X d 35 (0, [vR k0, vR k1], []) (px_sh L, i, l, r, t) = some (none, (px_sh L, (px_un i k1 (fun j => if 0 ≤ j ∧ j < 0 + (if (n1 : Int) < (n0 : Int) then (n1 : Int) else (n0 : Int)) then i k0 (0 + (j - 0)) else i k1 j)), l, r, t)) := ((xs_aldn k35_0 rfl).trans ((xs_nullR k35_1).trans ((xs_aldn k35_4 rfl).trans ((xs_nullR k35_5).trans ((xs_aldn k35_8 rfl).trans ((xs_ic k35_9 (by omega)).trans ((xs_aldn k35_10 rfl).trans ((xs_ic k35_11 (by omega)).trans ((xs_aldn k35_12 rfl).trans ((xs_aln k35_13 hk0).trans ((xs_aldn k35_14 rfl).trans ((xs_aln k35_15 hk1).trans ((xs_imin k35_16 (Nat.le_of_ble_eq_true rfl)).trans ((xs_acpi k35_19 hk1 hk0 (h1) g1 g0 (Nat.le_of_ble_eq_true rfl)).trans (xs_rv k35_22 rfl)))))))))))))))
end PXL
