/-! Entries of methods, by program (wip/whole/gen_blk.py). -/
theorem e1 (d : Nat) (s : PM) (x1 : Int) (x2 : Int) (x3 : Int) : px_C d 1 [vR 3, vI x1, vI x2, vI x3] s = px_X d 1 (0, [vR 3, vI x1, vI x2, vI x3], []) s := rfl
theorem e2 (d : Nat) (s : PM) (x1 : Int) : px_C d 2 [vR 3, vI x1] s = px_X d 2 (0, [vR 3, vI x1], []) s := rfl
theorem e3 (d : Nat) (s : PM) (x1 : Int) (x2 : Int) : px_C d 3 [vR 3, vI x1, vI x2] s = px_X d 3 (0, [vR 3, vI x1, vI x2], []) s := rfl
theorem e4 (d : Nat) (s : PM) (x1 : Int) (x2 : Int) : px_C d 4 [vR 3, vI x1, vI x2] s = px_X d 4 (0, [vR 3, vI x1, vI x2], []) s := rfl
theorem e5 (d : Nat) (s : PM) (x1 : Int) (x2 : Int) (x3 : Int) (x4 : Int) (x5 : Int) (x6 : Int) (x7 : Int) : px_C d 5 [vR 3, vI x1, vI x2, vI x3, vI x4, vI x5, vI x6, vI x7] s = px_X d 5 (0, [vR 3, vI x1, vI x2, vI x3, vI x4, vI x5, vI x6, vI x7, vJ, vJ], []) s := rfl
theorem e6 (d : Nat) (s : PM) (x1 : Int) (x2 : Int) (x3 : Int) : px_C d 6 [vR 3, vI x1, vI x2, vI x3] s = px_X d 6 (0, [vR 3, vI x1, vI x2, vI x3, vJ], []) s := rfl
theorem e7 (d : Nat) (s : PM) (x1 : Int) (x2 : Int) (x3 : Int) (x4 : Int) (x5 : Int) : px_C d 7 [vR 3, vI x1, vI x2, vI x3, vI x4, vI x5] s = px_X d 7 (0, [vR 3, vI x1, vI x2, vI x3, vI x4, vI x5], []) s := rfl
theorem e8 (d : Nat) (s : PM) (x1 : Int) : px_C d 8 [vR 3, vI x1] s = px_X d 8 (0, [vR 3, vI x1], []) s := rfl
theorem e9 (d : Nat) (s : PM)  : px_C d 9 [vR 3] s = px_X d 9 (0, [vR 3, vJ], []) s := rfl
theorem e10 (d : Nat) (s : PM) (x1 : Int) : px_C d 10 [vR 3, vI x1] s = px_X d 10 (0, [vR 3, vI x1], []) s := rfl
theorem e11 (d : Nat) (s : PM) (x1 : Int) : px_C d 11 [vR 3, vI x1] s = px_X d 11 (0, [vR 3, vI x1], []) s := rfl
theorem e12 (d : Nat) (s : PM) (x1 : Int) : px_C d 12 [vR 3, vI x1] s = px_X d 12 (0, [vR 3, vI x1], []) s := rfl
theorem e13 (d : Nat) (s : PM) (x1 : Int) (x2 : Int) : px_C d 13 [vR 3, vI x1, vI x2] s = px_X d 13 (0, [vR 3, vI x1, vI x2, vJ], []) s := rfl
theorem e14 (d : Nat) (s : PM) (x1 : Int) (x2 : Int) (x3 : Int) : px_C d 14 [vR 3, vI x1, vI x2, vI x3] s = px_X d 14 (0, [vR 3, vI x1, vI x2, vI x3], []) s := rfl
theorem e15 (d : Nat) (s : PM) (x1 : Int) (x2 : Int) : px_C d 15 [vR 3, vI x1, vI x2] s = px_X d 15 (0, [vR 3, vI x1, vI x2], []) s := rfl
theorem e16 (d : Nat) (s : PM) (x1 : Int) (x2 : Int) : px_C d 16 [vR 3, vI x1, vI x2] s = px_X d 16 (0, [vR 3, vI x1, vI x2], []) s := rfl
theorem e17 (d : Nat) (s : PM) (x1 : Int) (x2 : Int) (x3 : Int) : px_C d 17 [vR 3, vI x1, vI x2, vI x3] s = px_X d 17 (0, [vR 3, vI x1, vI x2, vI x3, vJ, vJ], []) s := rfl
theorem e18 (d : Nat) (s : PM) (x1 : Int) : px_C d 18 [vR 3, vI x1] s = px_X d 18 (0, [vR 3, vI x1, vJ], []) s := rfl
theorem e19 (d : Nat) (s : PM) (x1 : Int) (x2 : Int) (x3 : Int) (x4 : Int) : px_C d 19 [vR 3, vI x1, vI x2, vI x3, vI x4] s = px_X d 19 (0, [vR 3, vI x1, vI x2, vI x3, vI x4, vJ], []) s := rfl
theorem e20 (d : Nat) (s : PM) (x1 : Int) (x2 : Int) : px_C d 20 [vR 3, vI x1, vI x2] s = px_X d 20 (0, [vR 3, vI x1, vI x2, vJ], []) s := rfl
theorem e21 (d : Nat) (s : PM) (x1 : Int) (x2 : Int) : px_C d 21 [vR 3, vI x1, vI x2] s = px_X d 21 (0, [vR 3, vI x1, vI x2, vJ], []) s := rfl
theorem e22 (d : Nat) (s : PM) (x1 : Int) : px_C d 22 [vR 3, vI x1] s = px_X d 22 (0, [vR 3, vI x1], []) s := rfl
theorem e23 (d : Nat) (s : PM)  : px_C d 23 [vR 3] s = px_X d 23 (0, [vR 3], []) s := rfl
theorem e24 (d : Nat) (s : PM) (x1 : Int) (x2 : Int) (x3 : Int) : px_C d 24 [vR 3, vI x1, vI x2, vI x3] s = px_X d 24 (0, [vR 3, vI x1, vI x2, vI x3, vJ], []) s := rfl
theorem e25 (d : Nat) (s : PM) (x1 : Int) : px_C d 25 [vR 3, vI x1] s = px_X d 25 (0, [vR 3, vI x1], []) s := rfl
theorem e26 (d : Nat) (s : PM) (x1 : Int) (x2 : Int) : px_C d 26 [vR 3, vI x1, vI x2] s = px_X d 26 (0, [vR 3, vI x1, vI x2], []) s := rfl
theorem e27 (d : Nat) (s : PM)  : px_C d 27 [vR 3] s = px_X d 27 (0, [vR 3], []) s := rfl
theorem e28 (d : Nat) (s : PM)  : px_C d 28 [vR 3] s = px_X d 28 (0, [vR 3], []) s := rfl
theorem e29 (d : Nat) (s : PM) (x1 : Int) : px_C d 29 [vR 3, vI x1] s = px_X d 29 (0, [vR 3, vI x1], []) s := rfl
theorem e30 (d : Nat) (s : PM) (x0 : Int) (x1 : Int) (x2 : Int) : px_C d 30 [vI x0, vI x1, vI x2] s = px_X d 30 (0, [vI x0, vI x1, vI x2], []) s := rfl
theorem e31 (d : Nat) (s : PM) (x0 : Int) : px_C d 31 [vI x0] s = px_X d 31 (0, [vI x0], []) s := rfl
theorem e32 (d : Nat) (s : PM) (x0 : Int) (x1 : Int) : px_C d 32 [vI x0, vI x1] s = px_X d 32 (0, [vI x0, vI x1], []) s := rfl
theorem e33 (d : Nat) (s : PM) (k0 : Nat) (x1 : Int) : px_C d 33 [vR k0, vI x1] s = px_X d 33 (0, [vR k0, vI x1], []) s := rfl
theorem e34 (d : Nat) (s : PM) (k0 : Nat) (x1 : Int) (x2 : Int) : px_C d 34 [vR k0, vI x1, vI x2] s = px_X d 34 (0, [vR k0, vI x1, vI x2], []) s := rfl
theorem e35 (d : Nat) (s : PM) (k0 : Nat) (k1 : Nat) : px_C d 35 [vR k0, vR k1] s = px_X d 35 (0, [vR k0, vR k1], []) s := rfl
theorem e37 (d : Nat) (s : PM) (x1 : Int) : px_C d 37 [vR 19, vI x1] s = px_X d 37 (0, [vR 19, vI x1], []) s := rfl
theorem e38 (d : Nat) (s : PM) (x1 : Int) : px_C d 38 [vR 19, vI x1] s = px_X d 38 (0, [vR 19, vI x1], []) s := rfl
theorem e39 (d : Nat) (s : PM) (x1 : Int) : px_C d 39 [vR 19, vI x1] s = px_X d 39 (0, [vR 19, vI x1], []) s := rfl
theorem e40 (d : Nat) (s : PM) (x1 : Int) (x2 : Int) (x3 : Int) : px_C d 40 [vR 19, vI x1, vI x2, vI x3] s = px_X d 40 (0, [vR 19, vI x1, vI x2, vI x3], []) s := rfl
theorem e41 (d : Nat) (s : PM) (x1 : Int) (x2 : Int) : px_C d 41 [vR 19, vI x1, vI x2] s = px_X d 41 (0, [vR 19, vI x1, vI x2], []) s := rfl
theorem e42 (d : Nat) (s : PM) (x1 : Int) : px_C d 42 [vR 19, vL x1] s = px_X d 42 (0, [vR 19, vL x1, vJ, vJ, vJ, vJ, vJ, vJ, vJ, vJ, vJ], []) s := rfl
theorem e43 (d : Nat) (s : PM) (x1 : Int) (x2 : Int) : px_C d 43 [vR 19, vI x1, vI x2] s = px_X d 43 (0, [vR 19, vI x1, vI x2, vJ, vJ, vJ, vJ], []) s := rfl
theorem e44_R19R46 (d : Nat) (s : PM)  : px_C d 44 [vR 19, vR 46] s = px_X d 44 (0, [vR 19, vR 46], []) s := rfl
theorem e44_R46R19 (d : Nat) (s : PM)  : px_C d 44 [vR 46, vR 19] s = px_X d 44 (0, [vR 46, vR 19], []) s := rfl
theorem e46 (d : Nat) (s : PM) (x1 : Int) (x2 : Int) (x3 : Int) : px_C d 46 [vR 5, vI x1, vI x2, vI x3] s = px_X d 46 (0, [vR 5, vI x1, vI x2, vI x3], []) s := rfl
theorem e47_R32R5 (d : Nat) (s : PM)  : px_C d 47 [vR 32, vR 5] s = px_X d 47 (0, [vR 32, vR 5], []) s := rfl
theorem e47_R5R32 (d : Nat) (s : PM)  : px_C d 47 [vR 5, vR 32] s = px_X d 47 (0, [vR 5, vR 32], []) s := rfl
theorem e49 (d : Nat) (s : PM) (k0 : Nat) (x1 : Int) (x2 : Int) (x3 : Int) (x4 : Int) (x5 : Int) (x6 : Int) (x7 : Int) : px_C d 49 [vR k0, vI x1, vI x2, vI x3, vI x4, vI x5, vI x6, vI x7] s = px_X d 49 (0, [vR k0, vI x1, vI x2, vI x3, vI x4, vI x5, vI x6, vI x7], []) s := rfl
theorem e50 (d : Nat) (s : PM) (k0 : Nat) (k1 : Nat) : px_C d 50 [vR k0, vR k1] s = px_X d 50 (0, [vR k0, vR k1], []) s := rfl
theorem e52 (d : Nat) (s : PM) (x1 : Int) : px_C d 52 [vR 4, vI x1] s = px_X d 52 (0, [vR 4, vI x1], []) s := rfl
theorem e53 (d : Nat) (s : PM)  : px_C d 53 [vR 4] s = px_X d 53 (0, [vR 4], []) s := rfl
theorem e54 (d : Nat) (s : PM)  : px_C d 54 [vR 4] s = px_X d 54 (0, [vR 4, vJ, vJ, vJ, vJ, vJ], []) s := rfl
theorem e55 (d : Nat) (s : PM) (x1 : Int) (x2 : Int) : px_C d 55 [vR 4, vI x1, vI x2] s = px_X d 55 (0, [vR 4, vI x1, vI x2], []) s := rfl
theorem e56 (d : Nat) (s : PM) (x1 : Int) : px_C d 56 [vR 4, vI x1] s = px_X d 56 (0, [vR 4, vI x1], []) s := rfl
theorem e57 (d : Nat) (s : PM)  : px_C d 57 [vR 4] s = px_X d 57 (0, [vR 4, vJ, vJ, vJ], []) s := rfl
theorem e58 (d : Nat) (s : PM) (x1 : Int) : px_C d 58 [vR 4, vI x1] s = px_X d 58 (0, [vR 4, vI x1], []) s := rfl
theorem e59 (d : Nat) (s : PM) (x1 : Int) : px_C d 59 [vR 4, vI x1] s = px_X d 59 (0, [vR 4, vI x1, vJ], []) s := rfl
theorem e60 (d : Nat) (s : PM) (x1 : Int) : px_C d 60 [vR 4, vI x1] s = px_X d 60 (0, [vR 4, vI x1, vJ], []) s := rfl
theorem e61_R31R4 (d : Nat) (s : PM)  : px_C d 61 [vR 31, vR 4] s = px_X d 61 (0, [vR 31, vR 4, vJ], []) s := rfl
theorem e61_R4R31 (d : Nat) (s : PM)  : px_C d 61 [vR 4, vR 31] s = px_X d 61 (0, [vR 4, vR 31, vJ], []) s := rfl
theorem e63 (d : Nat) (s : PM)  : px_C d 63 [vR 68] s = px_X d 63 (0, [vR 68], []) s := rfl
theorem e64 (d : Nat) (s : PM) (x1 : Int) : px_C d 64 [vR 68, vI x1] s = px_X d 64 (0, [vR 68, vI x1], []) s := rfl
theorem e65 (d : Nat) (s : PM) (x1 : Int) : px_C d 65 [vR 68, vI x1] s = px_X d 65 (0, [vR 68, vI x1, vJ, vJ], []) s := rfl
theorem e66 (d : Nat) (s : PM) (x1 : Int) : px_C d 66 [vR 68, vI x1] s = px_X d 66 (0, [vR 68, vI x1, vJ], []) s := rfl
theorem e67 (d : Nat) (s : PM) (x1 : Int) (x2 : Int) (x3 : Int) : px_C d 67 [vR 68, vI x1, vI x2, vI x3] s = px_X d 67 (0, [vR 68, vI x1, vI x2, vI x3, vJ, vJ, vJ, vJ, vJ], []) s := rfl
theorem e68 (d : Nat) (s : PM) (x1 : Int) (x2 : Int) : px_C d 68 [vR 68, vI x1, vI x2] s = px_X d 68 (0, [vR 68, vI x1, vI x2, vJ, vJ, vJ, vJ], []) s := rfl
theorem e69 (d : Nat) (s : PM) (x1 : Int) : px_C d 69 [vR 68, vI x1] s = px_X d 69 (0, [vR 68, vI x1, vJ, vJ, vJ], []) s := rfl
theorem e70 (d : Nat) (s : PM) (x1 : Int) : px_C d 70 [vR 68, vI x1] s = px_X d 70 (0, [vR 68, vI x1], []) s := rfl
theorem e71 (d : Nat) (s : PM) (x1 : Int) (x2 : Int) (x3 : Int) : px_C d 71 [vR 68, vI x1, vI x2, vI x3] s = px_X d 71 (0, [vR 68, vI x1, vI x2, vI x3, vJ, vJ], []) s := rfl
theorem e72_R68N (d : Nat) (s : PM) (x2 : Int) : px_C d 72 [vR 68, vN, vI x2] s = px_X d 72 (0, [vR 68, vN, vI x2, vJ, vJ, vJ, vJ, vJ], []) s := rfl
theorem e72_R68t (d : Nat) (s : PM) (k1 : Nat) (x2 : Int) : px_C d 72 [vR 68, vR k1, vI x2] s = px_X d 72 (0, [vR 68, vR k1, vI x2, vJ, vJ, vJ, vJ, vJ], []) s := rfl
theorem e73 (d : Nat) (s : PM) (x0 : Int) (x1 : Int) (x2 : Int) : px_C d 73 [vI x0, vI x1, vI x2] s = px_X d 73 (0, [vI x0, vI x1, vI x2, vJ, vJ], []) s := rfl
theorem e75 (d : Nat) (s : PM) (k1 : Nat) : px_C d 75 [vR 110, vR k1] s = px_X d 75 (0, [vR 110, vR k1, vJ, vJ, vJ, vJ], []) s := rfl
theorem e76 (d : Nat) (s : PM) (x1 : Int) : px_C d 76 [vR 110, vI x1] s = px_X d 76 (0, [vR 110, vI x1, vJ], []) s := rfl
theorem e77 (d : Nat) (s : PM) (x1 : Int) : px_C d 77 [vR 110, vI x1] s = px_X d 77 (0, [vR 110, vI x1, vJ, vJ, vJ], []) s := rfl
theorem e78 (d : Nat) (s : PM) (x1 : Int) (x2 : Int) : px_C d 78 [vR 110, vI x1, vI x2] s = px_X d 78 (0, [vR 110, vI x1, vI x2, vJ, vJ, vJ], []) s := rfl
theorem e79 (d : Nat) (s : PM)  : px_C d 79 [vR 110] s = px_X d 79 (0, [vR 110, vJ], []) s := rfl
theorem e80 (d : Nat) (s : PM) (x1 : Int) (x2 : Int) (x3 : Int) : px_C d 80 [vR 110, vI x1, vI x2, vI x3] s = px_X d 80 (0, [vR 110, vI x1, vI x2, vI x3, vJ, vJ, vJ, vJ, vJ, vJ, vJ], []) s := rfl
theorem e81 (d : Nat) (s : PM)  : px_C d 81 [vR 110] s = px_X d 81 (0, [vR 110, vJ, vJ, vJ, vJ, vJ, vJ], []) s := rfl
theorem e82 (d : Nat) (s : PM) (x1 : Int) (x2 : Int) (x3 : Int) : px_C d 82 [vR 110, vI x1, vI x2, vL x3] s = px_X d 82 (0, [vR 110, vI x1, vI x2, vL x3, vJ, vJ, vJ, vJ, vJ, vJ, vJ], []) s := rfl
theorem e83 (d : Nat) (s : PM) (x1 : Int) : px_C d 83 [vR 110, vI x1] s = px_X d 83 (0, [vR 110, vI x1, vJ, vJ], []) s := rfl
theorem e85 (d : Nat) (s : PM) (x1 : Int) : px_C d 85 [vR 9, vI x1] s = px_X d 85 (0, [vR 9, vI x1], []) s := rfl
theorem e86 (d : Nat) (s : PM) (x1 : Int) (x2 : Int) : px_C d 86 [vR 9, vI x1, vI x2] s = px_X d 86 (0, [vR 9, vI x1, vI x2], []) s := rfl
theorem e87 (d : Nat) (s : PM) (x1 : Int) (x2 : Int) : px_C d 87 [vR 9, vI x1, vI x2] s = px_X d 87 (0, [vR 9, vI x1, vI x2], []) s := rfl
theorem e88_R36R9 (d : Nat) (s : PM)  : px_C d 88 [vR 36, vR 9] s = px_X d 88 (0, [vR 36, vR 9], []) s := rfl
theorem e88_R9R36 (d : Nat) (s : PM)  : px_C d 88 [vR 9, vR 36] s = px_X d 88 (0, [vR 9, vR 36], []) s := rfl
theorem e90 (d : Nat) (s : PM) (x1 : Int) : px_C d 90 [vR 58, vI x1] s = px_X d 90 (0, [vR 58, vI x1], []) s := rfl
theorem e91 (d : Nat) (s : PM) (x1 : Int) : px_C d 91 [vR 58, vI x1] s = px_X d 91 (0, [vR 58, vI x1, vJ], []) s := rfl
theorem e92 (d : Nat) (s : PM)  : px_C d 92 [vR 58] s = px_X d 92 (0, [vR 58, vJ], []) s := rfl
theorem e93 (d : Nat) (s : PM)  : px_C d 93 [vR 58] s = px_X d 93 (0, [vR 58, vJ, vJ, vJ, vJ], []) s := rfl
theorem e94 (d : Nat) (s : PM) (x1 : Int) : px_C d 94 [vR 58, vI x1] s = px_X d 94 (0, [vR 58, vI x1, vJ, vJ, vJ, vJ], []) s := rfl
theorem e95 (d : Nat) (s : PM) (x0 : Int) : px_C d 95 [vI x0] s = px_X d 95 (0, [vI x0], []) s := rfl
theorem e96 (d : Nat) (s : PM) (x0 : Int) : px_C d 96 [vI x0] s = px_X d 96 (0, [vI x0], []) s := rfl
theorem e97 (d : Nat) (s : PM) (x1 : Int) (x2 : Int) : px_C d 97 [vR 58, vI x1, vI x2] s = px_X d 97 (0, [vR 58, vI x1, vI x2, vJ], []) s := rfl
theorem e98 (d : Nat) (s : PM) (x1 : Int) (x2 : Int) : px_C d 98 [vR 58, vI x1, vI x2] s = px_X d 98 (0, [vR 58, vI x1, vI x2, vJ, vJ, vJ], []) s := rfl
theorem e99 (d : Nat) (s : PM) (x1 : Int) (x2 : Int) (x3 : Int) : px_C d 99 [vR 58, vI x1, vI x2, vI x3] s = px_X d 99 (0, [vR 58, vI x1, vI x2, vI x3, vJ], []) s := rfl
theorem e100 (d : Nat) (s : PM) (x1 : Int) (x2 : Int) : px_C d 100 [vR 58, vI x1, vI x2] s = px_X d 100 (0, [vR 58, vI x1, vI x2, vJ, vJ], []) s := rfl
theorem e101 (d : Nat) (s : PM) (x1 : Int) : px_C d 101 [vR 58, vI x1] s = px_X d 101 (0, [vR 58, vI x1], []) s := rfl
theorem e102 (d : Nat) (s : PM)  : px_C d 102 [vR 58] s = px_X d 102 (0, [vR 58, vJ, vJ], []) s := rfl
theorem e103 (d : Nat) (s : PM)  : px_C d 103 [vR 58] s = px_X d 103 (0, [vR 58, vJ, vJ, vJ], []) s := rfl
theorem e104 (d : Nat) (s : PM)  : px_C d 104 [vR 58] s = px_X d 104 (0, [vR 58, vJ, vJ, vJ], []) s := rfl
theorem e105 (d : Nat) (s : PM)  : px_C d 105 [vR 58] s = px_X d 105 (0, [vR 58, vJ, vJ, vJ, vJ], []) s := rfl
theorem e106 (d : Nat) (s : PM)  : px_C d 106 [vR 58] s = px_X d 106 (0, [vR 58, vJ, vJ, vJ], []) s := rfl
theorem e108 (d : Nat) (s : PM) (x1 : Int) (x2 : Int) : px_C d 108 [vR 116, vI x1, vI x2] s = px_X d 108 (0, [vR 116, vI x1, vI x2, vJ, vJ, vJ, vJ, vJ, vJ], []) s := rfl
theorem e109 (d : Nat) (s : PM) (x1 : Int) : px_C d 109 [vR 116, vI x1] s = px_X d 109 (0, [vR 116, vI x1, vJ, vJ], []) s := rfl
theorem e110 (d : Nat) (s : PM) (x1 : Int) (x2 : Int) : px_C d 110 [vR 116, vI x1, vI x2] s = px_X d 110 (0, [vR 116, vI x1, vI x2, vJ, vJ, vJ, vJ], []) s := rfl
theorem e111 (d : Nat) (s : PM) (x1 : Int) (x2 : Int) (x3 : Int) (x4 : Int) : px_C d 111 [vR 116, vI x1, vI x2, vI x3, vI x4] s = px_X d 111 (0, [vR 116, vI x1, vI x2, vI x3, vI x4, vJ, vJ, vJ], []) s := rfl
theorem e112 (d : Nat) (s : PM) (x1 : Int) : px_C d 112 [vR 116, vI x1] s = px_X d 112 (0, [vR 116, vI x1, vJ, vJ, vJ], []) s := rfl
theorem e113 (d : Nat) (s : PM) (x1 : Int) : px_C d 113 [vR 116, vI x1] s = px_X d 113 (0, [vR 116, vI x1, vJ, vJ, vJ, vJ, vJ], []) s := rfl
theorem e114 (d : Nat) (s : PM) (x1 : Int) (x2 : Int) : px_C d 114 [vR 116, vI x1, vI x2] s = px_X d 114 (0, [vR 116, vI x1, vI x2, vJ, vJ, vJ, vJ, vJ, vJ], []) s := rfl
theorem e115 (d : Nat) (s : PM) (x1 : Int) : px_C d 115 [vR 116, vI x1] s = px_X d 115 (0, [vR 116, vI x1, vJ, vJ, vJ], []) s := rfl
theorem e116 (d : Nat) (s : PM) (x1 : Int) (x2 : Int) : px_C d 116 [vR 116, vI x1, vI x2] s = px_X d 116 (0, [vR 116, vI x1, vI x2, vJ, vJ, vJ, vJ], []) s := rfl
theorem e117 (d : Nat) (s : PM)  : px_C d 117 [vR 116] s = px_X d 117 (0, [vR 116, vJ, vJ], []) s := rfl
theorem e118 (d : Nat) (s : PM) (x1 : Int) : px_C d 118 [vR 116, vI x1] s = px_X d 118 (0, [vR 116, vI x1, vJ, vJ], []) s := rfl
theorem e119 (d : Nat) (s : PM) (x1 : Int) : px_C d 119 [vR 116, vI x1] s = px_X d 119 (0, [vR 116, vI x1, vJ, vJ, vJ], []) s := rfl
theorem e121 (d : Nat) (s : PM) (x1 : Int) : px_C d 121 [vR 103, vI x1] s = px_X d 121 (0, [vR 103, vI x1], []) s := rfl
theorem e122 (d : Nat) (s : PM) (x1 : Int) : px_C d 122 [vR 103, vI x1] s = px_X d 122 (0, [vR 103, vI x1, vJ, vJ, vJ], []) s := rfl
theorem e123 (d : Nat) (s : PM) (x1 : Int) : px_C d 123 [vR 103, vI x1] s = px_X d 123 (0, [vR 103, vI x1], []) s := rfl
theorem e124 (d : Nat) (s : PM) (x1 : Int) : px_C d 124 [vR 103, vI x1] s = px_X d 124 (0, [vR 103, vI x1, vJ, vJ, vJ, vJ, vJ], []) s := rfl
theorem e125 (d : Nat) (s : PM) (x1 : Int) (x2 : Int) (x3 : Int) : px_C d 125 [vR 103, vI x1, vI x2, vI x3] s = px_X d 125 (0, [vR 103, vI x1, vI x2, vI x3, vJ], []) s := rfl
theorem e126 (d : Nat) (s : PM) (x1 : Int) (x2 : Int) (x3 : Int) : px_C d 126 [vR 103, vI x1, vI x2, vI x3] s = px_X d 126 (0, [vR 103, vI x1, vI x2, vI x3, vJ, vJ, vJ, vJ], []) s := rfl
theorem e127 (d : Nat) (s : PM)  : px_C d 127 [vR 103, vR 9] s = px_X d 127 (0, [vR 103, vR 9, vJ], []) s := rfl
theorem e128 (d : Nat) (s : PM) (x1 : Int) : px_C d 128 [vR 103, vI x1] s = px_X d 128 (0, [vR 103, vI x1, vJ, vJ, vJ, vJ], []) s := rfl
theorem e129 (d : Nat) (s : PM) (x2 : Int) : px_C d 129 [vR 103, vR 9, vI x2] s = px_X d 129 (0, [vR 103, vR 9, vI x2, vJ, vJ, vJ, vJ], []) s := rfl
theorem e130 (d : Nat) (s : PM)  : px_C d 130 [vR 103] s = px_X d 130 (0, [vR 103, vJ, vJ, vJ, vJ], []) s := rfl
theorem e131 (d : Nat) (s : PM)  : px_C d 131 [vR 103] s = px_X d 131 (0, [vR 103], []) s := rfl
theorem e132 (d : Nat) (s : PM) (x1 : Int) : px_C d 132 [vR 103, vI x1] s = px_X d 132 (0, [vR 103, vI x1, vJ, vJ, vJ, vJ, vJ], []) s := rfl
theorem e134 (d : Nat) (s : PM)  : px_C d 134 [vR 59] s = px_X d 134 (0, [vR 59], []) s := rfl
theorem e135 (d : Nat) (s : PM) (x1 : Int) : px_C d 135 [vR 59, vI x1] s = px_X d 135 (0, [vR 59, vI x1], []) s := rfl
theorem e136 (d : Nat) (s : PM) (x1 : Int) : px_C d 136 [vR 59, vI x1] s = px_X d 136 (0, [vR 59, vI x1], []) s := rfl
theorem e137 (d : Nat) (s : PM)  : px_C d 137 [vR 59] s = px_X d 137 (0, [vR 59], []) s := rfl
theorem e138 (d : Nat) (s : PM) (k0 : Nat) (x1 : Int) : px_C d 138 [vR k0, vI x1] s = px_X d 138 (0, [vR k0, vI x1, vJ], []) s := rfl
theorem e139 (d : Nat) (s : PM) (k0 : Nat) : px_C d 139 [vR k0, vR 59] s = px_X d 139 (0, [vR k0, vR 59], []) s := rfl
theorem e141 (d : Nat) (s : PM) (x0 : Int) (x1 : Int) (x2 : Int) : px_C d 141 [vI x0, vI x1, vI x2] s = px_X d 141 (0, [vI x0, vI x1, vI x2], []) s := rfl
theorem e142 (d : Nat) (s : PM) (x1 : Int) : px_C d 142 [vR 123, vI x1] s = px_X d 142 (0, [vR 123, vI x1, vJ], []) s := rfl
theorem e143 (d : Nat) (s : PM) (x1 : Int) : px_C d 143 [vR 123, vI x1] s = px_X d 143 (0, [vR 123, vI x1], []) s := rfl
theorem e144 (d : Nat) (s : PM) (x1 : Int) : px_C d 144 [vR 123, vI x1] s = px_X d 144 (0, [vR 123, vI x1], []) s := rfl
theorem e145 (d : Nat) (s : PM) (x0 : Int) : px_C d 145 [vI x0] s = px_X d 145 (0, [vI x0], []) s := rfl
theorem e146 (d : Nat) (s : PM) (x1 : Int) (x2 : Int) : px_C d 146 [vR 123, vI x1, vI x2] s = px_X d 146 (0, [vR 123, vI x1, vI x2], []) s := rfl
theorem e147 (d : Nat) (s : PM) (x1 : Int) (x2 : Int) (x3 : Int) : px_C d 147 [vR 123, vI x1, vI x2, vI x3] s = px_X d 147 (0, [vR 123, vI x1, vI x2, vI x3], []) s := rfl
theorem e148 (d : Nat) (s : PM) (x1 : Int) : px_C d 148 [vR 123, vI x1] s = px_X d 148 (0, [vR 123, vI x1], []) s := rfl
theorem e149 (d : Nat) (s : PM) (x1 : Int) (x2 : Int) : px_C d 149 [vR 123, vI x1, vI x2] s = px_X d 149 (0, [vR 123, vI x1, vI x2], []) s := rfl
theorem e150 (d : Nat) (s : PM) (x1 : Int) (x2 : Int) : px_C d 150 [vR 123, vI x1, vI x2] s = px_X d 150 (0, [vR 123, vI x1, vI x2], []) s := rfl
theorem e151 (d : Nat) (s : PM) (x1 : Int) (x2 : Int) (x3 : Int) (x4 : Int) (x5 : Int) (x6 : Int) (x7 : Int) : px_C d 151 [vR 123, vI x1, vI x2, vI x3, vI x4, vI x5, vI x6, vI x7] s = px_X d 151 (0, [vR 123, vI x1, vI x2, vI x3, vI x4, vI x5, vI x6, vI x7, vJ, vJ, vJ], []) s := rfl
theorem e152 (d : Nat) (s : PM) (x1 : Int) (x2 : Int) (x3 : Int) : px_C d 152 [vR 123, vI x1, vI x2, vI x3] s = px_X d 152 (0, [vR 123, vI x1, vI x2, vI x3], []) s := rfl
theorem e153 (d : Nat) (s : PM) (x1 : Int) : px_C d 153 [vR 123, vI x1] s = px_X d 153 (0, [vR 123, vI x1, vJ], []) s := rfl
theorem e154 (d : Nat) (s : PM) (x1 : Int) (x2 : Int) (x3 : Int) (x4 : Int) (x5 : Int) : px_C d 154 [vR 123, vI x1, vI x2, vI x3, vI x4, vI x5] s = px_X d 154 (0, [vR 123, vI x1, vI x2, vI x3, vI x4, vI x5], []) s := rfl
theorem e155 (d : Nat) (s : PM) (x1 : Int) : px_C d 155 [vR 123, vI x1] s = px_X d 155 (0, [vR 123, vI x1], []) s := rfl
theorem e156 (d : Nat) (s : PM) (x0 : Int) : px_C d 156 [vI x0] s = px_X d 156 (0, [vI x0], []) s := rfl
theorem e157 (d : Nat) (s : PM) (x0 : Int) : px_C d 157 [vL x0] s = px_X d 157 (0, [vL x0, vJ], []) s := rfl
theorem e158 (d : Nat) (s : PM)  : px_C d 158 [vR 123] s = px_X d 158 (0, [vR 123, vJ, vJ, vJ, vJ], []) s := rfl
theorem e159 (d : Nat) (s : PM) (x1 : Int) : px_C d 159 [vR 123, vI x1] s = px_X d 159 (0, [vR 123, vI x1], []) s := rfl
theorem e160 (d : Nat) (s : PM) (x1 : Int) : px_C d 160 [vR 123, vI x1] s = px_X d 160 (0, [vR 123, vI x1], []) s := rfl
theorem e161 (d : Nat) (s : PM) (x1 : Int) : px_C d 161 [vR 123, vI x1] s = px_X d 161 (0, [vR 123, vI x1], []) s := rfl
theorem e162 (d : Nat) (s : PM) (x1 : Int) (x2 : Int) : px_C d 162 [vR 123, vI x1, vI x2] s = px_X d 162 (0, [vR 123, vI x1, vI x2], []) s := rfl
theorem e163 (d : Nat) (s : PM) (x1 : Int) : px_C d 163 [vR 123, vI x1] s = px_X d 163 (0, [vR 123, vI x1], []) s := rfl
theorem e164 (d : Nat) (s : PM)  : px_C d 164 [vR 123] s = px_X d 164 (0, [vR 123], []) s := rfl
theorem e165 (d : Nat) (s : PM) (x1 : Int) : px_C d 165 [vR 123, vI x1] s = px_X d 165 (0, [vR 123, vI x1], []) s := rfl
theorem e166 (d : Nat) (s : PM) (x0 : Int) : px_C d 166 [vI x0] s = px_X d 166 (0, [vI x0], []) s := rfl
theorem e167 (d : Nat) (s : PM) (x1 : Int) : px_C d 167 [vR 123, vI x1] s = px_X d 167 (0, [vR 123, vI x1], []) s := rfl
theorem e168 (d : Nat) (s : PM) (x1 : Int) : px_C d 168 [vR 123, vI x1] s = px_X d 168 (0, [vR 123, vI x1], []) s := rfl
theorem e169 (d : Nat) (s : PM)  : px_C d 169 [vR 123] s = px_X d 169 (0, [vR 123, vJ], []) s := rfl
theorem e170 (d : Nat) (s : PM) (x1 : Int) : px_C d 170 [vR 123, vI x1] s = px_X d 170 (0, [vR 123, vI x1], []) s := rfl
theorem e171 (d : Nat) (s : PM)  : px_C d 171 [vR 123] s = px_X d 171 (0, [vR 123, vJ], []) s := rfl
theorem e172 (d : Nat) (s : PM)  : px_C d 172 [vR 123] s = px_X d 172 (0, [vR 123], []) s := rfl
theorem e173 (d : Nat) (s : PM)  : px_C d 173 [vR 123] s = px_X d 173 (0, [vR 123], []) s := rfl
theorem e174 (d : Nat) (s : PM) (x0 : Int) : px_C d 174 [vI x0] s = px_X d 174 (0, [vI x0], []) s := rfl
theorem e175 (d : Nat) (s : PM)  : px_C d 175 [vR 123] s = px_X d 175 (0, [vR 123, vJ, vJ], []) s := rfl
theorem e176 (d : Nat) (s : PM)  : px_C d 176 [vR 123] s = px_X d 176 (0, [vR 123], []) s := rfl
theorem e177 (d : Nat) (s : PM)  : px_C d 177 [vR 123] s = px_X d 177 (0, [vR 123], []) s := rfl
theorem e178 (d : Nat) (s : PM) (x1 : Int) : px_C d 178 [vR 123, vI x1] s = px_X d 178 (0, [vR 123, vI x1, vJ, vJ], []) s := rfl
theorem e179 (d : Nat) (s : PM)  : px_C d 179 [vR 123] s = px_X d 179 (0, [vR 123], []) s := rfl
theorem e180 (d : Nat) (s : PM)  : px_C d 180 [vR 123] s = px_X d 180 (0, [vR 123], []) s := rfl
theorem e181 (d : Nat) (s : PM) (x1 : Int) : px_C d 181 [vR 123, vI x1] s = px_X d 181 (0, [vR 123, vI x1, vJ], []) s := rfl
theorem e182 (d : Nat) (s : PM) (x1 : Int) : px_C d 182 [vR 123, vI x1] s = px_X d 182 (0, [vR 123, vI x1], []) s := rfl
theorem e183 (d : Nat) (s : PM) (x0 : Int) : px_C d 183 [vL x0] s = px_X d 183 (0, [vL x0, vJ], []) s := rfl
theorem e184 (d : Nat) (s : PM) (x0 : Int) (x1 : Int) (x2 : Int) : px_C d 184 [vI x0, vL x1, vL x2] s = px_X d 184 (0, [vI x0, vL x1, vJ, vL x2, vJ], []) s := rfl
theorem e185 (d : Nat) (s : PM) (x1 : Int) : px_C d 185 [vR 123, vI x1] s = px_X d 185 (0, [vR 123, vI x1, vJ, vJ, vJ], []) s := rfl
theorem e186 (d : Nat) (s : PM) (x1 : Int) : px_C d 186 [vR 123, vI x1] s = px_X d 186 (0, [vR 123, vI x1], []) s := rfl
theorem e187 (d : Nat) (s : PM) (x1 : Int) : px_C d 187 [vR 123, vI x1] s = px_X d 187 (0, [vR 123, vI x1, vJ, vJ], []) s := rfl
theorem e188 (d : Nat) (s : PM) (x1 : Int) (x2 : Int) : px_C d 188 [vR 123, vI x1, vL x2] s = px_X d 188 (0, [vR 123, vI x1, vL x2, vJ, vJ, vJ, vJ], []) s := rfl
theorem e189 (d : Nat) (s : PM) (x1 : Int) : px_C d 189 [vR 123, vI x1] s = px_X d 189 (0, [vR 123, vI x1, vJ, vJ], []) s := rfl
theorem e190 (d : Nat) (s : PM) (x0 : Int) (x1 : Int) : px_C d 190 [vL x0, vI x1] s = px_X d 190 (0, [vL x0, vJ, vI x1], []) s := rfl
theorem e191 (d : Nat) (s : PM) (x0 : Int) : px_C d 191 [vI x0] s = px_X d 191 (0, [vI x0], []) s := rfl
theorem e192 (d : Nat) (s : PM) (x1 : Int) : px_C d 192 [vR 123, vI x1] s = px_X d 192 (0, [vR 123, vI x1], []) s := rfl
theorem e193 (d : Nat) (s : PM) (x1 : Int) : px_C d 193 [vR 123, vI x1] s = px_X d 193 (0, [vR 123, vI x1], []) s := rfl
theorem e194 (d : Nat) (s : PM) (x1 : Int) : px_C d 194 [vR 123, vI x1] s = px_X d 194 (0, [vR 123, vI x1], []) s := rfl
theorem e195 (d : Nat) (s : PM) (x1 : Int) : px_C d 195 [vR 123, vI x1] s = px_X d 195 (0, [vR 123, vI x1, vJ, vJ], []) s := rfl
theorem e196 (d : Nat) (s : PM) (x1 : Int) (x2 : Int) (x3 : Int) : px_C d 196 [vR 123, vI x1, vI x2, vI x3] s = px_X d 196 (0, [vR 123, vI x1, vI x2, vI x3, vJ, vJ, vJ, vJ, vJ, vJ], []) s := rfl
theorem e197 (d : Nat) (s : PM) (x1 : Int) (x2 : Int) : px_C d 197 [vR 123, vI x1, vI x2] s = px_X d 197 (0, [vR 123, vI x1, vI x2, vJ, vJ, vJ], []) s := rfl
theorem e198 (d : Nat) (s : PM)  : px_C d 198 [vR 123] s = px_X d 198 (0, [vR 123, vJ, vJ], []) s := rfl
theorem e199 (d : Nat) (s : PM) (x1 : Int) (x2 : Int) : px_C d 199 [vR 123, vI x1, vI x2] s = px_X d 199 (0, [vR 123, vI x1, vI x2], []) s := rfl
theorem e200 (d : Nat) (s : PM) (x1 : Int) (x2 : Int) (x3 : Int) : px_C d 200 [vR 123, vI x1, vI x2, vI x3] s = px_X d 200 (0, [vR 123, vI x1, vI x2, vI x3], []) s := rfl
theorem e201 (d : Nat) (s : PM) (x1 : Int) : px_C d 201 [vR 123, vI x1] s = px_X d 201 (0, [vR 123, vI x1, vJ, vJ, vJ], []) s := rfl
theorem e202 (d : Nat) (s : PM) (x1 : Int) (x2 : Int) : px_C d 202 [vR 123, vI x1, vI x2] s = px_X d 202 (0, [vR 123, vI x1, vI x2, vJ], []) s := rfl
theorem e203 (d : Nat) (s : PM) (x1 : Int) (x2 : Int) (x3 : Int) : px_C d 203 [vR 123, vI x1, vI x2, vI x3] s = px_X d 203 (0, [vR 123, vI x1, vI x2, vI x3, vJ, vJ, vJ, vJ, vJ], []) s := rfl
theorem e204 (d : Nat) (s : PM) (x1 : Int) : px_C d 204 [vR 123, vI x1] s = px_X d 204 (0, [vR 123, vI x1], []) s := rfl
theorem e205 (d : Nat) (s : PM) (x1 : Int) (x2 : Int) : px_C d 205 [vR 123, vI x1, vI x2] s = px_X d 205 (0, [vR 123, vI x1, vI x2], []) s := rfl
theorem e206 (d : Nat) (s : PM) (x1 : Int) (x2 : Int) : px_C d 206 [vR 123, vI x1, vI x2] s = px_X d 206 (0, [vR 123, vI x1, vI x2], []) s := rfl
theorem e207 (d : Nat) (s : PM)  : px_C d 207 [vR 123] s = px_X d 207 (0, [vR 123, vJ], []) s := rfl
theorem e208 (d : Nat) (s : PM) (x1 : Int) (x2 : Int) (x3 : Int) : px_C d 208 [vR 123, vI x1, vI x2, vI x3] s = px_X d 208 (0, [vR 123, vI x1, vI x2, vI x3], []) s := rfl
theorem e209 (d : Nat) (s : PM) (x1 : Int) : px_C d 209 [vR 123, vI x1] s = px_X d 209 (0, [vR 123, vI x1], []) s := rfl
theorem e210 (d : Nat) (s : PM) (x1 : Int) (x2 : Int) : px_C d 210 [vR 123, vI x1, vI x2] s = px_X d 210 (0, [vR 123, vI x1, vI x2, vJ, vJ], []) s := rfl
theorem e211 (d : Nat) (s : PM) (x1 : Int) (x2 : Int) : px_C d 211 [vR 123, vI x1, vI x2] s = px_X d 211 (0, [vR 123, vI x1, vI x2, vJ, vJ, vJ, vJ, vJ, vJ, vJ], []) s := rfl
theorem e212 (d : Nat) (s : PM) (x1 : Int) : px_C d 212 [vR 123, vI x1] s = px_X d 212 (0, [vR 123, vI x1, vJ, vJ, vJ, vJ, vJ], []) s := rfl
theorem e213 (d : Nat) (s : PM) (x1 : Int) (x2 : Int) (x3 : Int) : px_C d 213 [vR 123, vI x1, vI x2, vI x3] s = px_X d 213 (0, [vR 123, vI x1, vI x2, vI x3, vJ], []) s := rfl
theorem e214 (d : Nat) (s : PM) (x1 : Int) : px_C d 214 [vR 123, vI x1] s = px_X d 214 (0, [vR 123, vI x1, vJ], []) s := rfl
theorem e215 (d : Nat) (s : PM)  : px_C d 215 [vR 123] s = px_X d 215 (0, [vR 123, vJ, vJ, vJ, vJ], []) s := rfl
theorem e216 (d : Nat) (s : PM) (x1 : Int) : px_C d 216 [vR 123, vI x1] s = px_X d 216 (0, [vR 123, vI x1, vJ, vJ, vJ], []) s := rfl
theorem e217 (d : Nat) (s : PM) (x1 : Int) (x2 : Int) (x3 : Int) (x4 : Int) : px_C d 217 [vR 123, vI x1, vI x2, vI x3, vI x4] s = px_X d 217 (0, [vR 123, vI x1, vI x2, vI x3, vI x4, vJ, vJ, vJ, vJ, vJ], []) s := rfl
theorem e218 (d : Nat) (s : PM) (x1 : Int) (x2 : Int) (x3 : Int) (x4 : Int) : px_C d 218 [vR 123, vI x1, vI x2, vI x3, vI x4] s = px_X d 218 (0, [vR 123, vI x1, vI x2, vI x3, vI x4, vJ, vJ, vJ, vJ, vJ], []) s := rfl
theorem e219 (d : Nat) (s : PM)  : px_C d 219 [vR 123] s = px_X d 219 (0, [vR 123, vJ, vJ], []) s := rfl
theorem e220 (d : Nat) (s : PM) (x1 : Int) (x2 : Int) : px_C d 220 [vR 123, vI x1, vI x2] s = px_X d 220 (0, [vR 123, vI x1, vI x2, vJ, vJ, vJ], []) s := rfl
theorem e221 (d : Nat) (s : PM) (x1 : Int) (x2 : Int) : px_C d 221 [vR 123, vI x1, vI x2] s = px_X d 221 (0, [vR 123, vI x1, vI x2, vJ, vJ, vJ, vJ, vJ, vJ, vJ, vJ, vJ], []) s := rfl
theorem e222 (d : Nat) (s : PM) (x1 : Int) : px_C d 222 [vR 123, vI x1] s = px_X d 222 (0, [vR 123, vI x1, vJ, vJ], []) s := rfl
theorem e223 (d : Nat) (s : PM) (x1 : Int) (x2 : Int) : px_C d 223 [vR 123, vI x1, vI x2] s = px_X d 223 (0, [vR 123, vI x1, vI x2, vJ, vJ, vJ, vJ], []) s := rfl
theorem e224 (d : Nat) (s : PM) (x1 : Int) (x2 : Int) : px_C d 224 [vR 123, vI x1, vI x2] s = px_X d 224 (0, [vR 123, vI x1, vI x2, vJ, vJ, vJ, vJ, vJ, vJ], []) s := rfl
theorem e225 (d : Nat) (s : PM) (x1 : Int) : px_C d 225 [vR 123, vI x1] s = px_X d 225 (0, [vR 123, vI x1], []) s := rfl
theorem e226 (d : Nat) (s : PM)  : px_C d 226 [vR 123] s = px_X d 226 (0, [vR 123, vJ, vJ, vJ], []) s := rfl
theorem e227 (d : Nat) (s : PM)  : px_C d 227 [vR 123] s = px_X d 227 (0, [vR 123, vJ, vJ, vJ, vJ, vJ], []) s := rfl
theorem e228 (d : Nat) (s : PM) (x1 : Int) (x2 : Int) (x3 : Int) : px_C d 228 [vR 123, vI x1, vI x2, vI x3] s = px_X d 228 (0, [vR 123, vI x1, vI x2, vI x3, vJ], []) s := rfl
theorem e229 (d : Nat) (s : PM) (x1 : Int) : px_C d 229 [vR 123, vI x1] s = px_X d 229 (0, [vR 123, vI x1, vJ, vJ], []) s := rfl
theorem e230 (d : Nat) (s : PM) (x1 : Int) : px_C d 230 [vR 123, vI x1] s = px_X d 230 (0, [vR 123, vI x1, vJ, vJ, vJ, vJ, vJ], []) s := rfl
theorem e231 (d : Nat) (s : PM) (x1 : Int) : px_C d 231 [vR 123, vI x1] s = px_X d 231 (0, [vR 123, vI x1, vJ], []) s := rfl
theorem e232 (d : Nat) (s : PM) (x1 : Int) (x2 : Int) : px_C d 232 [vR 123, vI x1, vI x2] s = px_X d 232 (0, [vR 123, vI x1, vI x2, vJ, vJ, vJ], []) s := rfl
theorem e233 (d : Nat) (s : PM)  : px_C d 233 [vR 123] s = px_X d 233 (0, [vR 123], []) s := rfl
theorem e234 (d : Nat) (s : PM)  : px_C d 234 [vR 123] s = px_X d 234 (0, [vR 123], []) s := rfl
theorem e235 (d : Nat) (s : PM) (x1 : Int) : px_C d 235 [vR 123, vI x1] s = px_X d 235 (0, [vR 123, vI x1], []) s := rfl
theorem e236 (d : Nat) (s : PM) (x1 : Int) : px_C d 236 [vR 0, vI x1] s = px_X d 236 (0, [vR 0, vI x1], []) s := rfl
theorem e237 (d : Nat) (s : PM) (x0 : Int) : px_C d 237 [vI x0] s = px_X d 237 (0, [vI x0], []) s := rfl
theorem e238 (d : Nat) (s : PM) (x0 : Int) : px_C d 238 [vI x0] s = px_X d 238 (0, [vI x0, vJ], []) s := rfl
theorem e239 (d : Nat) (s : PM) (x0 : Int) : px_C d 239 [vL x0] s = px_X d 239 (0, [vL x0, vJ], []) s := rfl
theorem e240 (d : Nat) (s : PM) (x0 : Int) : px_C d 240 [vL x0] s = px_X d 240 (0, [vL x0, vJ, vJ], []) s := rfl
theorem e241 (d : Nat) (s : PM) (k0 : Nat) (x1 : Int) : px_C d 241 [vR k0, vI x1] s = px_X d 241 (0, [vR k0, vI x1, vJ, vJ], []) s := rfl
theorem e242 (d : Nat) (s : PM) (k0 : Nat) (x1 : Int) : px_C d 242 [vR k0, vL x1] s = px_X d 242 (0, [vR k0, vL x1, vJ, vJ, vJ], []) s := rfl
