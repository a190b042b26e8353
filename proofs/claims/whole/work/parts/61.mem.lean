/-! The constructed memory: shapes and references that never change; what the block lemmas (printed by wip/whole/gen_blk.py) need. -/
def px_sh (L : Nat) : List Sh := [.inr (0, L), .inr (0, 6), .inl 99, .inl 0, .inl 4, .inl 2, .inr (0, 12), .inr (0, 12), .inr (0, 12), .inl 7, .inr (0, 10), .inr (0, 10), .inr (0, 10), .inr (0, 500), .inr (0, 8), .inr (0, 8), .inr (0, 7), .inr (0, 10), .inr (7, 10), .inl 1, .inr (0, 36), .inl 3, .inl 3, .inl 3, .inl 3, .inl 3, .inl 3, .inl 3, .inl 3, .inl 3, .inl 3, .inl 4, .inl 2, .inr (0, 12), .inr (0, 12), .inr (0, 12), .inl 7, .inr (0, 10), .inr (0, 10), .inr (0, 10), .inr (0, 500), .inr (0, 8), .inr (0, 8), .inr (0, 7), .inr (0, 10), .inr (7, 10), .inl 1, .inr (0, 36), .inl 3, .inl 3, .inl 3, .inl 3, .inl 3, .inl 3, .inl 3, .inl 3, .inl 3, .inl 3, .inl 8, .inl 11, .inr (0, 300), .inr (0, 10), .inr (0, 10), .inr (0, 10), .inr (0, 300), .inr (0, 301), .inr (0, 301), .inr (0, 301), .inl 5, .inr (15, 6), .inr (0, 1440), .inr (0, 15), .inr (0, 32), .inl 11, .inr (0, 300), .inr (0, 10), .inr (0, 10), .inr (0, 10), .inl 11, .inr (0, 300), .inr (0, 10), .inr (0, 10), .inr (0, 10), .inl 11, .inr (0, 300), .inr (0, 10), .inr (0, 10), .inr (0, 10), .inl 11, .inr (0, 300), .inr (0, 10), .inr (0, 10), .inr (0, 10), .inl 11, .inr (0, 300), .inr (0, 10), .inr (0, 10), .inr (0, 10), .inl 11, .inr (0, 300), .inr (0, 10), .inr (0, 10), .inr (0, 10), .inl 10, .inr (0, 8), .inr (0, 10), .inr (0, 10), .inr (0, 320), .inr (0, 320), .inr (0, 1024), .inl 6, .inr (3, 130), .inr (3, 37), .inr (0, 36), .inr (3, 36), .inr (3, 36), .inl 9, .inr (0, 8), .inr (0, 10), .inr (0, 10), .inr (0, 21), .inr (0, 128), .inr (0, 128), .inl 12, .inr (0, 820), .inr (0, 820), .inr (1, 300), .inr (0, 6), .inr (0, 60), .inr (0, 60), .inr (0, 2400), .inr (0, 2400), .inr (0, 40), .inr (0, 41), .inr (0, 80), .inr (0, 80), .inr (0, 10), .inr (0, 10), .inr (0, 400), .inr (0, 400), .inr (0, 15), .inr (3, 200), .inr (0, 10), .inr (0, 8), .inr (2, 10), .inr (0, 10), .inr (0, 1440), .inr (2, 1332), .inr (0, 36), .inr (0, 36), .inr (3, 36), .inr (3, 36), .inr (0, 5), .inr (0, 5), .inr (0, 5), .inr (0, 10), .inr (0, 21), .inr (0, 128), .inr (0, 128)]
theorem px_s0 (L : Nat) : (px_sh L)[0]? = some (.inr (0, L)) := rfl
theorem px_s1 (L : Nat) : (px_sh L)[1]? = some (.inr (0, 6)) := rfl
theorem px_s3 (L : Nat) : (px_sh L)[3]? = some (.inl 0) := rfl
theorem px_s4 (L : Nat) : (px_sh L)[4]? = some (.inl 4) := rfl
theorem px_s5 (L : Nat) : (px_sh L)[5]? = some (.inl 2) := rfl
theorem px_s6 (L : Nat) : (px_sh L)[6]? = some (.inr (0, 12)) := rfl
theorem px_s7 (L : Nat) : (px_sh L)[7]? = some (.inr (0, 12)) := rfl
theorem px_s8 (L : Nat) : (px_sh L)[8]? = some (.inr (0, 12)) := rfl
theorem px_s9 (L : Nat) : (px_sh L)[9]? = some (.inl 7) := rfl
theorem px_s10 (L : Nat) : (px_sh L)[10]? = some (.inr (0, 10)) := rfl
theorem px_s11 (L : Nat) : (px_sh L)[11]? = some (.inr (0, 10)) := rfl
theorem px_s12 (L : Nat) : (px_sh L)[12]? = some (.inr (0, 10)) := rfl
theorem px_s13 (L : Nat) : (px_sh L)[13]? = some (.inr (0, 500)) := rfl
theorem px_s14 (L : Nat) : (px_sh L)[14]? = some (.inr (0, 8)) := rfl
theorem px_s15 (L : Nat) : (px_sh L)[15]? = some (.inr (0, 8)) := rfl
theorem px_s16 (L : Nat) : (px_sh L)[16]? = some (.inr (0, 7)) := rfl
theorem px_s17 (L : Nat) : (px_sh L)[17]? = some (.inr (0, 10)) := rfl
theorem px_s18 (L : Nat) : (px_sh L)[18]? = some (.inr (7, 10)) := rfl
theorem px_s19 (L : Nat) : (px_sh L)[19]? = some (.inl 1) := rfl
theorem px_s20 (L : Nat) : (px_sh L)[20]? = some (.inr (0, 36)) := rfl
theorem px_s21 (L : Nat) : (px_sh L)[21]? = some (.inl 3) := rfl
theorem px_s22 (L : Nat) : (px_sh L)[22]? = some (.inl 3) := rfl
theorem px_s23 (L : Nat) : (px_sh L)[23]? = some (.inl 3) := rfl
theorem px_s24 (L : Nat) : (px_sh L)[24]? = some (.inl 3) := rfl
theorem px_s25 (L : Nat) : (px_sh L)[25]? = some (.inl 3) := rfl
theorem px_s26 (L : Nat) : (px_sh L)[26]? = some (.inl 3) := rfl
theorem px_s27 (L : Nat) : (px_sh L)[27]? = some (.inl 3) := rfl
theorem px_s28 (L : Nat) : (px_sh L)[28]? = some (.inl 3) := rfl
theorem px_s29 (L : Nat) : (px_sh L)[29]? = some (.inl 3) := rfl
theorem px_s30 (L : Nat) : (px_sh L)[30]? = some (.inl 3) := rfl
theorem px_s31 (L : Nat) : (px_sh L)[31]? = some (.inl 4) := rfl
theorem px_s32 (L : Nat) : (px_sh L)[32]? = some (.inl 2) := rfl
theorem px_s33 (L : Nat) : (px_sh L)[33]? = some (.inr (0, 12)) := rfl
theorem px_s34 (L : Nat) : (px_sh L)[34]? = some (.inr (0, 12)) := rfl
theorem px_s35 (L : Nat) : (px_sh L)[35]? = some (.inr (0, 12)) := rfl
theorem px_s36 (L : Nat) : (px_sh L)[36]? = some (.inl 7) := rfl
theorem px_s37 (L : Nat) : (px_sh L)[37]? = some (.inr (0, 10)) := rfl
theorem px_s38 (L : Nat) : (px_sh L)[38]? = some (.inr (0, 10)) := rfl
theorem px_s39 (L : Nat) : (px_sh L)[39]? = some (.inr (0, 10)) := rfl
theorem px_s40 (L : Nat) : (px_sh L)[40]? = some (.inr (0, 500)) := rfl
theorem px_s41 (L : Nat) : (px_sh L)[41]? = some (.inr (0, 8)) := rfl
theorem px_s42 (L : Nat) : (px_sh L)[42]? = some (.inr (0, 8)) := rfl
theorem px_s43 (L : Nat) : (px_sh L)[43]? = some (.inr (0, 7)) := rfl
theorem px_s44 (L : Nat) : (px_sh L)[44]? = some (.inr (0, 10)) := rfl
theorem px_s45 (L : Nat) : (px_sh L)[45]? = some (.inr (7, 10)) := rfl
theorem px_s46 (L : Nat) : (px_sh L)[46]? = some (.inl 1) := rfl
theorem px_s47 (L : Nat) : (px_sh L)[47]? = some (.inr (0, 36)) := rfl
theorem px_s48 (L : Nat) : (px_sh L)[48]? = some (.inl 3) := rfl
theorem px_s49 (L : Nat) : (px_sh L)[49]? = some (.inl 3) := rfl
theorem px_s50 (L : Nat) : (px_sh L)[50]? = some (.inl 3) := rfl
theorem px_s51 (L : Nat) : (px_sh L)[51]? = some (.inl 3) := rfl
theorem px_s52 (L : Nat) : (px_sh L)[52]? = some (.inl 3) := rfl
theorem px_s53 (L : Nat) : (px_sh L)[53]? = some (.inl 3) := rfl
theorem px_s54 (L : Nat) : (px_sh L)[54]? = some (.inl 3) := rfl
theorem px_s55 (L : Nat) : (px_sh L)[55]? = some (.inl 3) := rfl
theorem px_s56 (L : Nat) : (px_sh L)[56]? = some (.inl 3) := rfl
theorem px_s57 (L : Nat) : (px_sh L)[57]? = some (.inl 3) := rfl
theorem px_s58 (L : Nat) : (px_sh L)[58]? = some (.inl 8) := rfl
theorem px_s59 (L : Nat) : (px_sh L)[59]? = some (.inl 11) := rfl
theorem px_s60 (L : Nat) : (px_sh L)[60]? = some (.inr (0, 300)) := rfl
theorem px_s61 (L : Nat) : (px_sh L)[61]? = some (.inr (0, 10)) := rfl
theorem px_s62 (L : Nat) : (px_sh L)[62]? = some (.inr (0, 10)) := rfl
theorem px_s63 (L : Nat) : (px_sh L)[63]? = some (.inr (0, 10)) := rfl
theorem px_s64 (L : Nat) : (px_sh L)[64]? = some (.inr (0, 300)) := rfl
theorem px_s65 (L : Nat) : (px_sh L)[65]? = some (.inr (0, 301)) := rfl
theorem px_s66 (L : Nat) : (px_sh L)[66]? = some (.inr (0, 301)) := rfl
theorem px_s67 (L : Nat) : (px_sh L)[67]? = some (.inr (0, 301)) := rfl
theorem px_s68 (L : Nat) : (px_sh L)[68]? = some (.inl 5) := rfl
theorem px_s69 (L : Nat) : (px_sh L)[69]? = some (.inr (15, 6)) := rfl
theorem px_s70 (L : Nat) : (px_sh L)[70]? = some (.inr (0, 1440)) := rfl
theorem px_s71 (L : Nat) : (px_sh L)[71]? = some (.inr (0, 15)) := rfl
theorem px_s72 (L : Nat) : (px_sh L)[72]? = some (.inr (0, 32)) := rfl
theorem px_s73 (L : Nat) : (px_sh L)[73]? = some (.inl 11) := rfl
theorem px_s74 (L : Nat) : (px_sh L)[74]? = some (.inr (0, 300)) := rfl
theorem px_s75 (L : Nat) : (px_sh L)[75]? = some (.inr (0, 10)) := rfl
theorem px_s76 (L : Nat) : (px_sh L)[76]? = some (.inr (0, 10)) := rfl
theorem px_s77 (L : Nat) : (px_sh L)[77]? = some (.inr (0, 10)) := rfl
theorem px_s78 (L : Nat) : (px_sh L)[78]? = some (.inl 11) := rfl
theorem px_s79 (L : Nat) : (px_sh L)[79]? = some (.inr (0, 300)) := rfl
theorem px_s80 (L : Nat) : (px_sh L)[80]? = some (.inr (0, 10)) := rfl
theorem px_s81 (L : Nat) : (px_sh L)[81]? = some (.inr (0, 10)) := rfl
theorem px_s82 (L : Nat) : (px_sh L)[82]? = some (.inr (0, 10)) := rfl
theorem px_s83 (L : Nat) : (px_sh L)[83]? = some (.inl 11) := rfl
theorem px_s84 (L : Nat) : (px_sh L)[84]? = some (.inr (0, 300)) := rfl
theorem px_s85 (L : Nat) : (px_sh L)[85]? = some (.inr (0, 10)) := rfl
theorem px_s86 (L : Nat) : (px_sh L)[86]? = some (.inr (0, 10)) := rfl
theorem px_s87 (L : Nat) : (px_sh L)[87]? = some (.inr (0, 10)) := rfl
theorem px_s88 (L : Nat) : (px_sh L)[88]? = some (.inl 11) := rfl
theorem px_s89 (L : Nat) : (px_sh L)[89]? = some (.inr (0, 300)) := rfl
theorem px_s90 (L : Nat) : (px_sh L)[90]? = some (.inr (0, 10)) := rfl
theorem px_s91 (L : Nat) : (px_sh L)[91]? = some (.inr (0, 10)) := rfl
theorem px_s92 (L : Nat) : (px_sh L)[92]? = some (.inr (0, 10)) := rfl
theorem px_s93 (L : Nat) : (px_sh L)[93]? = some (.inl 11) := rfl
theorem px_s94 (L : Nat) : (px_sh L)[94]? = some (.inr (0, 300)) := rfl
theorem px_s95 (L : Nat) : (px_sh L)[95]? = some (.inr (0, 10)) := rfl
theorem px_s96 (L : Nat) : (px_sh L)[96]? = some (.inr (0, 10)) := rfl
theorem px_s97 (L : Nat) : (px_sh L)[97]? = some (.inr (0, 10)) := rfl
theorem px_s98 (L : Nat) : (px_sh L)[98]? = some (.inl 11) := rfl
theorem px_s99 (L : Nat) : (px_sh L)[99]? = some (.inr (0, 300)) := rfl
theorem px_s100 (L : Nat) : (px_sh L)[100]? = some (.inr (0, 10)) := rfl
theorem px_s101 (L : Nat) : (px_sh L)[101]? = some (.inr (0, 10)) := rfl
theorem px_s102 (L : Nat) : (px_sh L)[102]? = some (.inr (0, 10)) := rfl
theorem px_s103 (L : Nat) : (px_sh L)[103]? = some (.inl 10) := rfl
theorem px_s104 (L : Nat) : (px_sh L)[104]? = some (.inr (0, 8)) := rfl
theorem px_s105 (L : Nat) : (px_sh L)[105]? = some (.inr (0, 10)) := rfl
theorem px_s106 (L : Nat) : (px_sh L)[106]? = some (.inr (0, 10)) := rfl
theorem px_s107 (L : Nat) : (px_sh L)[107]? = some (.inr (0, 320)) := rfl
theorem px_s108 (L : Nat) : (px_sh L)[108]? = some (.inr (0, 320)) := rfl
theorem px_s109 (L : Nat) : (px_sh L)[109]? = some (.inr (0, 1024)) := rfl
theorem px_s110 (L : Nat) : (px_sh L)[110]? = some (.inl 6) := rfl
theorem px_s111 (L : Nat) : (px_sh L)[111]? = some (.inr (3, 130)) := rfl
theorem px_s112 (L : Nat) : (px_sh L)[112]? = some (.inr (3, 37)) := rfl
theorem px_s113 (L : Nat) : (px_sh L)[113]? = some (.inr (0, 36)) := rfl
theorem px_s114 (L : Nat) : (px_sh L)[114]? = some (.inr (3, 36)) := rfl
theorem px_s115 (L : Nat) : (px_sh L)[115]? = some (.inr (3, 36)) := rfl
theorem px_s116 (L : Nat) : (px_sh L)[116]? = some (.inl 9) := rfl
theorem px_s117 (L : Nat) : (px_sh L)[117]? = some (.inr (0, 8)) := rfl
theorem px_s118 (L : Nat) : (px_sh L)[118]? = some (.inr (0, 10)) := rfl
theorem px_s119 (L : Nat) : (px_sh L)[119]? = some (.inr (0, 10)) := rfl
theorem px_s120 (L : Nat) : (px_sh L)[120]? = some (.inr (0, 21)) := rfl
theorem px_s121 (L : Nat) : (px_sh L)[121]? = some (.inr (0, 128)) := rfl
theorem px_s122 (L : Nat) : (px_sh L)[122]? = some (.inr (0, 128)) := rfl
theorem px_s123 (L : Nat) : (px_sh L)[123]? = some (.inl 12) := rfl
theorem px_s124 (L : Nat) : (px_sh L)[124]? = some (.inr (0, 820)) := rfl
theorem px_s125 (L : Nat) : (px_sh L)[125]? = some (.inr (0, 820)) := rfl
theorem px_s126 (L : Nat) : (px_sh L)[126]? = some (.inr (1, 300)) := rfl
theorem px_s127 (L : Nat) : (px_sh L)[127]? = some (.inr (0, 6)) := rfl
theorem px_s128 (L : Nat) : (px_sh L)[128]? = some (.inr (0, 60)) := rfl
theorem px_s129 (L : Nat) : (px_sh L)[129]? = some (.inr (0, 60)) := rfl
theorem px_s130 (L : Nat) : (px_sh L)[130]? = some (.inr (0, 2400)) := rfl
theorem px_s131 (L : Nat) : (px_sh L)[131]? = some (.inr (0, 2400)) := rfl
theorem px_s132 (L : Nat) : (px_sh L)[132]? = some (.inr (0, 40)) := rfl
theorem px_s133 (L : Nat) : (px_sh L)[133]? = some (.inr (0, 41)) := rfl
theorem px_s134 (L : Nat) : (px_sh L)[134]? = some (.inr (0, 80)) := rfl
theorem px_s135 (L : Nat) : (px_sh L)[135]? = some (.inr (0, 80)) := rfl
theorem px_s136 (L : Nat) : (px_sh L)[136]? = some (.inr (0, 10)) := rfl
theorem px_s137 (L : Nat) : (px_sh L)[137]? = some (.inr (0, 10)) := rfl
theorem px_s138 (L : Nat) : (px_sh L)[138]? = some (.inr (0, 400)) := rfl
theorem px_s139 (L : Nat) : (px_sh L)[139]? = some (.inr (0, 400)) := rfl
theorem px_s140 (L : Nat) : (px_sh L)[140]? = some (.inr (0, 15)) := rfl
theorem px_s141 (L : Nat) : (px_sh L)[141]? = some (.inr (3, 200)) := rfl
theorem px_s142 (L : Nat) : (px_sh L)[142]? = some (.inr (0, 10)) := rfl
theorem px_s143 (L : Nat) : (px_sh L)[143]? = some (.inr (0, 8)) := rfl
theorem px_s144 (L : Nat) : (px_sh L)[144]? = some (.inr (2, 10)) := rfl
theorem px_s145 (L : Nat) : (px_sh L)[145]? = some (.inr (0, 10)) := rfl
theorem px_s146 (L : Nat) : (px_sh L)[146]? = some (.inr (0, 1440)) := rfl
theorem px_s147 (L : Nat) : (px_sh L)[147]? = some (.inr (2, 1332)) := rfl
theorem px_s148 (L : Nat) : (px_sh L)[148]? = some (.inr (0, 36)) := rfl
theorem px_s149 (L : Nat) : (px_sh L)[149]? = some (.inr (0, 36)) := rfl
theorem px_s150 (L : Nat) : (px_sh L)[150]? = some (.inr (3, 36)) := rfl
theorem px_s151 (L : Nat) : (px_sh L)[151]? = some (.inr (3, 36)) := rfl
theorem px_s152 (L : Nat) : (px_sh L)[152]? = some (.inr (0, 5)) := rfl
theorem px_s153 (L : Nat) : (px_sh L)[153]? = some (.inr (0, 5)) := rfl
theorem px_s154 (L : Nat) : (px_sh L)[154]? = some (.inr (0, 5)) := rfl
theorem px_s155 (L : Nat) : (px_sh L)[155]? = some (.inr (0, 10)) := rfl
theorem px_s156 (L : Nat) : (px_sh L)[156]? = some (.inr (0, 21)) := rfl
theorem px_s157 (L : Nat) : (px_sh L)[157]? = some (.inr (0, 128)) := rfl
theorem px_s158 (L : Nat) : (px_sh L)[158]? = some (.inr (0, 128)) := rfl
def px_rfind (l : List (Nat × Nat × Nat)) (k j : Nat) : Option Nat := match l with
  | [] => none
  | q :: l => cond (Nat.beq q.1 k) (cond (Nat.beq q.2.1 j) (some q.2.2) (px_rfind l k j)) (px_rfind l k j)
def px_rlist : List (Nat × Nat × Nat) := [(3, 0, 4), (3, 1, 31), (3, 2, 58), (3, 3, 68), (3, 4, 103), (3, 5, 110), (3, 6, 116), (4, 0, 19), (4, 1, 5), (4, 2, 9), (4, 10, 14), (4, 11, 15), (4, 12, 16), (4, 13, 17), (4, 14, 18), (5, 1, 6), (5, 2, 7), (5, 3, 8), (9, 3, 10), (9, 4, 11), (9, 5, 12), (9, 6, 13), (18, 0, 21), (18, 1, 22), (18, 2, 23), (18, 3, 24), (18, 4, 25), (18, 5, 26), (18, 6, 27), (18, 7, 28), (18, 8, 29), (18, 9, 30), (19, 6, 20), (31, 0, 46), (31, 1, 32), (31, 2, 36), (31, 10, 41), (31, 11, 42), (31, 12, 43), (31, 13, 44), (31, 14, 45), (32, 1, 33), (32, 2, 34), (32, 3, 35), (36, 3, 37), (36, 4, 38), (36, 5, 39), (36, 6, 40), (45, 0, 48), (45, 1, 49), (45, 2, 50), (45, 3, 51), (45, 4, 52), (45, 5, 53), (45, 6, 54), (45, 7, 55), (45, 8, 56), (45, 9, 57), (46, 6, 47), (58, 0, 59), (58, 5, 64), (58, 6, 65), (58, 7, 66), (58, 8, 67), (59, 2, 60), (59, 3, 61), (59, 4, 62), (59, 5, 63), (68, 0, 4), (68, 1, 69), (68, 2, 70), (68, 3, 71), (68, 4, 72), (69, 0, 73), (69, 1, 78), (69, 2, 83), (69, 3, 88), (69, 4, 93), (69, 5, 98), (73, 2, 74), (73, 3, 75), (73, 4, 76), (73, 5, 77), (78, 2, 79), (78, 3, 80), (78, 4, 81), (78, 5, 82), (83, 2, 84), (83, 3, 85), (83, 4, 86), (83, 5, 87), (88, 2, 89), (88, 3, 90), (88, 4, 91), (88, 5, 92), (93, 2, 94), (93, 3, 95), (93, 4, 96), (93, 5, 97), (98, 2, 99), (98, 3, 100), (98, 4, 101), (98, 5, 102), (103, 0, 4), (103, 1, 68), (103, 2, 104), (103, 3, 105), (103, 4, 106), (103, 5, 107), (103, 6, 108), (103, 8, 109), (110, 0, 19), (110, 1, 68), (110, 2, 111), (110, 3, 112), (110, 4, 113), (110, 5, 114), (110, 6, 115), (116, 0, 4), (116, 1, 68), (116, 2, 103), (116, 3, 117), (116, 5, 118), (116, 6, 119), (116, 8, 120), (116, 9, 121), (116, 10, 122), (123, 3, 124), (123, 4, 125), (123, 5, 126), (123, 9, 127), (123, 10, 128), (123, 11, 129), (123, 12, 130), (123, 13, 131), (123, 23, 132), (123, 24, 133), (123, 26, 134), (123, 27, 135), (123, 31, 136), (123, 32, 137), (123, 34, 138), (123, 35, 139), (123, 36, 140), (123, 37, 141), (123, 38, 142), (123, 39, 143), (123, 40, 144), (123, 41, 145), (123, 42, 146), (123, 43, 147), (123, 44, 148), (123, 45, 149), (123, 46, 150), (123, 47, 151), (123, 48, 152), (123, 49, 153), (123, 50, 154), (123, 51, 155), (123, 52, 156), (123, 53, 157), (123, 54, 158)]
def px_hr (r : MR) : Prop := ∀ k j v : Nat, px_rfind px_rlist k j = some v → r k (j : Int) = some v
set_option maxRecDepth 8000 in
theorem px_r3_0 {r : MR} (hr : px_hr r) : r 3 0 = some 4 := hr 3 0 4 rfl
set_option maxRecDepth 8000 in
theorem px_r3_1 {r : MR} (hr : px_hr r) : r 3 1 = some 31 := hr 3 1 31 rfl
set_option maxRecDepth 8000 in
theorem px_r3_2 {r : MR} (hr : px_hr r) : r 3 2 = some 58 := hr 3 2 58 rfl
set_option maxRecDepth 8000 in
theorem px_r3_3 {r : MR} (hr : px_hr r) : r 3 3 = some 68 := hr 3 3 68 rfl
set_option maxRecDepth 8000 in
theorem px_r3_4 {r : MR} (hr : px_hr r) : r 3 4 = some 103 := hr 3 4 103 rfl
set_option maxRecDepth 8000 in
theorem px_r3_5 {r : MR} (hr : px_hr r) : r 3 5 = some 110 := hr 3 5 110 rfl
set_option maxRecDepth 8000 in
theorem px_r3_6 {r : MR} (hr : px_hr r) : r 3 6 = some 116 := hr 3 6 116 rfl
set_option maxRecDepth 8000 in
theorem px_r4_0 {r : MR} (hr : px_hr r) : r 4 0 = some 19 := hr 4 0 19 rfl
set_option maxRecDepth 8000 in
theorem px_r4_1 {r : MR} (hr : px_hr r) : r 4 1 = some 5 := hr 4 1 5 rfl
set_option maxRecDepth 8000 in
theorem px_r4_2 {r : MR} (hr : px_hr r) : r 4 2 = some 9 := hr 4 2 9 rfl
set_option maxRecDepth 8000 in
theorem px_r4_10 {r : MR} (hr : px_hr r) : r 4 10 = some 14 := hr 4 10 14 rfl
set_option maxRecDepth 8000 in
theorem px_r4_11 {r : MR} (hr : px_hr r) : r 4 11 = some 15 := hr 4 11 15 rfl
set_option maxRecDepth 8000 in
theorem px_r4_12 {r : MR} (hr : px_hr r) : r 4 12 = some 16 := hr 4 12 16 rfl
set_option maxRecDepth 8000 in
theorem px_r4_13 {r : MR} (hr : px_hr r) : r 4 13 = some 17 := hr 4 13 17 rfl
set_option maxRecDepth 8000 in
theorem px_r4_14 {r : MR} (hr : px_hr r) : r 4 14 = some 18 := hr 4 14 18 rfl
set_option maxRecDepth 8000 in
theorem px_r5_1 {r : MR} (hr : px_hr r) : r 5 1 = some 6 := hr 5 1 6 rfl
set_option maxRecDepth 8000 in
theorem px_r5_2 {r : MR} (hr : px_hr r) : r 5 2 = some 7 := hr 5 2 7 rfl
set_option maxRecDepth 8000 in
theorem px_r5_3 {r : MR} (hr : px_hr r) : r 5 3 = some 8 := hr 5 3 8 rfl
set_option maxRecDepth 8000 in
theorem px_r9_3 {r : MR} (hr : px_hr r) : r 9 3 = some 10 := hr 9 3 10 rfl
set_option maxRecDepth 8000 in
theorem px_r9_4 {r : MR} (hr : px_hr r) : r 9 4 = some 11 := hr 9 4 11 rfl
set_option maxRecDepth 8000 in
theorem px_r9_5 {r : MR} (hr : px_hr r) : r 9 5 = some 12 := hr 9 5 12 rfl
set_option maxRecDepth 8000 in
theorem px_r9_6 {r : MR} (hr : px_hr r) : r 9 6 = some 13 := hr 9 6 13 rfl
set_option maxRecDepth 8000 in
theorem px_r18_0 {r : MR} (hr : px_hr r) : r 18 0 = some 21 := hr 18 0 21 rfl
set_option maxRecDepth 8000 in
theorem px_r18_1 {r : MR} (hr : px_hr r) : r 18 1 = some 22 := hr 18 1 22 rfl
set_option maxRecDepth 8000 in
theorem px_r18_2 {r : MR} (hr : px_hr r) : r 18 2 = some 23 := hr 18 2 23 rfl
set_option maxRecDepth 8000 in
theorem px_r18_3 {r : MR} (hr : px_hr r) : r 18 3 = some 24 := hr 18 3 24 rfl
set_option maxRecDepth 8000 in
theorem px_r18_4 {r : MR} (hr : px_hr r) : r 18 4 = some 25 := hr 18 4 25 rfl
set_option maxRecDepth 8000 in
theorem px_r18_5 {r : MR} (hr : px_hr r) : r 18 5 = some 26 := hr 18 5 26 rfl
set_option maxRecDepth 8000 in
theorem px_r18_6 {r : MR} (hr : px_hr r) : r 18 6 = some 27 := hr 18 6 27 rfl
set_option maxRecDepth 8000 in
theorem px_r18_7 {r : MR} (hr : px_hr r) : r 18 7 = some 28 := hr 18 7 28 rfl
set_option maxRecDepth 8000 in
theorem px_r18_8 {r : MR} (hr : px_hr r) : r 18 8 = some 29 := hr 18 8 29 rfl
set_option maxRecDepth 8000 in
theorem px_r18_9 {r : MR} (hr : px_hr r) : r 18 9 = some 30 := hr 18 9 30 rfl
set_option maxRecDepth 8000 in
theorem px_r19_6 {r : MR} (hr : px_hr r) : r 19 6 = some 20 := hr 19 6 20 rfl
set_option maxRecDepth 8000 in
theorem px_r31_0 {r : MR} (hr : px_hr r) : r 31 0 = some 46 := hr 31 0 46 rfl
set_option maxRecDepth 8000 in
theorem px_r31_1 {r : MR} (hr : px_hr r) : r 31 1 = some 32 := hr 31 1 32 rfl
set_option maxRecDepth 8000 in
theorem px_r31_2 {r : MR} (hr : px_hr r) : r 31 2 = some 36 := hr 31 2 36 rfl
set_option maxRecDepth 8000 in
theorem px_r31_10 {r : MR} (hr : px_hr r) : r 31 10 = some 41 := hr 31 10 41 rfl
set_option maxRecDepth 8000 in
theorem px_r31_11 {r : MR} (hr : px_hr r) : r 31 11 = some 42 := hr 31 11 42 rfl
set_option maxRecDepth 8000 in
theorem px_r31_12 {r : MR} (hr : px_hr r) : r 31 12 = some 43 := hr 31 12 43 rfl
set_option maxRecDepth 8000 in
theorem px_r31_13 {r : MR} (hr : px_hr r) : r 31 13 = some 44 := hr 31 13 44 rfl
set_option maxRecDepth 8000 in
theorem px_r31_14 {r : MR} (hr : px_hr r) : r 31 14 = some 45 := hr 31 14 45 rfl
set_option maxRecDepth 8000 in
theorem px_r32_1 {r : MR} (hr : px_hr r) : r 32 1 = some 33 := hr 32 1 33 rfl
set_option maxRecDepth 8000 in
theorem px_r32_2 {r : MR} (hr : px_hr r) : r 32 2 = some 34 := hr 32 2 34 rfl
set_option maxRecDepth 8000 in
theorem px_r32_3 {r : MR} (hr : px_hr r) : r 32 3 = some 35 := hr 32 3 35 rfl
set_option maxRecDepth 8000 in
theorem px_r36_3 {r : MR} (hr : px_hr r) : r 36 3 = some 37 := hr 36 3 37 rfl
set_option maxRecDepth 8000 in
theorem px_r36_4 {r : MR} (hr : px_hr r) : r 36 4 = some 38 := hr 36 4 38 rfl
set_option maxRecDepth 8000 in
theorem px_r36_5 {r : MR} (hr : px_hr r) : r 36 5 = some 39 := hr 36 5 39 rfl
set_option maxRecDepth 8000 in
theorem px_r36_6 {r : MR} (hr : px_hr r) : r 36 6 = some 40 := hr 36 6 40 rfl
set_option maxRecDepth 8000 in
theorem px_r45_0 {r : MR} (hr : px_hr r) : r 45 0 = some 48 := hr 45 0 48 rfl
set_option maxRecDepth 8000 in
theorem px_r45_1 {r : MR} (hr : px_hr r) : r 45 1 = some 49 := hr 45 1 49 rfl
set_option maxRecDepth 8000 in
theorem px_r45_2 {r : MR} (hr : px_hr r) : r 45 2 = some 50 := hr 45 2 50 rfl
set_option maxRecDepth 8000 in
theorem px_r45_3 {r : MR} (hr : px_hr r) : r 45 3 = some 51 := hr 45 3 51 rfl
set_option maxRecDepth 8000 in
theorem px_r45_4 {r : MR} (hr : px_hr r) : r 45 4 = some 52 := hr 45 4 52 rfl
set_option maxRecDepth 8000 in
theorem px_r45_5 {r : MR} (hr : px_hr r) : r 45 5 = some 53 := hr 45 5 53 rfl
set_option maxRecDepth 8000 in
theorem px_r45_6 {r : MR} (hr : px_hr r) : r 45 6 = some 54 := hr 45 6 54 rfl
set_option maxRecDepth 8000 in
theorem px_r45_7 {r : MR} (hr : px_hr r) : r 45 7 = some 55 := hr 45 7 55 rfl
set_option maxRecDepth 8000 in
theorem px_r45_8 {r : MR} (hr : px_hr r) : r 45 8 = some 56 := hr 45 8 56 rfl
set_option maxRecDepth 8000 in
theorem px_r45_9 {r : MR} (hr : px_hr r) : r 45 9 = some 57 := hr 45 9 57 rfl
set_option maxRecDepth 8000 in
theorem px_r46_6 {r : MR} (hr : px_hr r) : r 46 6 = some 47 := hr 46 6 47 rfl
set_option maxRecDepth 8000 in
theorem px_r58_0 {r : MR} (hr : px_hr r) : r 58 0 = some 59 := hr 58 0 59 rfl
set_option maxRecDepth 8000 in
theorem px_r58_5 {r : MR} (hr : px_hr r) : r 58 5 = some 64 := hr 58 5 64 rfl
set_option maxRecDepth 8000 in
theorem px_r58_6 {r : MR} (hr : px_hr r) : r 58 6 = some 65 := hr 58 6 65 rfl
set_option maxRecDepth 8000 in
theorem px_r58_7 {r : MR} (hr : px_hr r) : r 58 7 = some 66 := hr 58 7 66 rfl
set_option maxRecDepth 8000 in
theorem px_r58_8 {r : MR} (hr : px_hr r) : r 58 8 = some 67 := hr 58 8 67 rfl
set_option maxRecDepth 8000 in
theorem px_r59_2 {r : MR} (hr : px_hr r) : r 59 2 = some 60 := hr 59 2 60 rfl
set_option maxRecDepth 8000 in
theorem px_r59_3 {r : MR} (hr : px_hr r) : r 59 3 = some 61 := hr 59 3 61 rfl
set_option maxRecDepth 8000 in
theorem px_r59_4 {r : MR} (hr : px_hr r) : r 59 4 = some 62 := hr 59 4 62 rfl
set_option maxRecDepth 8000 in
theorem px_r59_5 {r : MR} (hr : px_hr r) : r 59 5 = some 63 := hr 59 5 63 rfl
set_option maxRecDepth 8000 in
theorem px_r68_0 {r : MR} (hr : px_hr r) : r 68 0 = some 4 := hr 68 0 4 rfl
set_option maxRecDepth 8000 in
theorem px_r68_1 {r : MR} (hr : px_hr r) : r 68 1 = some 69 := hr 68 1 69 rfl
set_option maxRecDepth 8000 in
theorem px_r68_2 {r : MR} (hr : px_hr r) : r 68 2 = some 70 := hr 68 2 70 rfl
set_option maxRecDepth 8000 in
theorem px_r68_3 {r : MR} (hr : px_hr r) : r 68 3 = some 71 := hr 68 3 71 rfl
set_option maxRecDepth 8000 in
theorem px_r68_4 {r : MR} (hr : px_hr r) : r 68 4 = some 72 := hr 68 4 72 rfl
set_option maxRecDepth 8000 in
theorem px_r69_0 {r : MR} (hr : px_hr r) : r 69 0 = some 73 := hr 69 0 73 rfl
set_option maxRecDepth 8000 in
theorem px_r69_1 {r : MR} (hr : px_hr r) : r 69 1 = some 78 := hr 69 1 78 rfl
set_option maxRecDepth 8000 in
theorem px_r69_2 {r : MR} (hr : px_hr r) : r 69 2 = some 83 := hr 69 2 83 rfl
set_option maxRecDepth 8000 in
theorem px_r69_3 {r : MR} (hr : px_hr r) : r 69 3 = some 88 := hr 69 3 88 rfl
set_option maxRecDepth 8000 in
theorem px_r69_4 {r : MR} (hr : px_hr r) : r 69 4 = some 93 := hr 69 4 93 rfl
set_option maxRecDepth 8000 in
theorem px_r69_5 {r : MR} (hr : px_hr r) : r 69 5 = some 98 := hr 69 5 98 rfl
set_option maxRecDepth 8000 in
theorem px_r73_2 {r : MR} (hr : px_hr r) : r 73 2 = some 74 := hr 73 2 74 rfl
set_option maxRecDepth 8000 in
theorem px_r73_3 {r : MR} (hr : px_hr r) : r 73 3 = some 75 := hr 73 3 75 rfl
set_option maxRecDepth 8000 in
theorem px_r73_4 {r : MR} (hr : px_hr r) : r 73 4 = some 76 := hr 73 4 76 rfl
set_option maxRecDepth 8000 in
theorem px_r73_5 {r : MR} (hr : px_hr r) : r 73 5 = some 77 := hr 73 5 77 rfl
set_option maxRecDepth 8000 in
theorem px_r78_2 {r : MR} (hr : px_hr r) : r 78 2 = some 79 := hr 78 2 79 rfl
set_option maxRecDepth 8000 in
theorem px_r78_3 {r : MR} (hr : px_hr r) : r 78 3 = some 80 := hr 78 3 80 rfl
set_option maxRecDepth 8000 in
theorem px_r78_4 {r : MR} (hr : px_hr r) : r 78 4 = some 81 := hr 78 4 81 rfl
set_option maxRecDepth 8000 in
theorem px_r78_5 {r : MR} (hr : px_hr r) : r 78 5 = some 82 := hr 78 5 82 rfl
set_option maxRecDepth 8000 in
theorem px_r83_2 {r : MR} (hr : px_hr r) : r 83 2 = some 84 := hr 83 2 84 rfl
set_option maxRecDepth 8000 in
theorem px_r83_3 {r : MR} (hr : px_hr r) : r 83 3 = some 85 := hr 83 3 85 rfl
set_option maxRecDepth 8000 in
theorem px_r83_4 {r : MR} (hr : px_hr r) : r 83 4 = some 86 := hr 83 4 86 rfl
set_option maxRecDepth 8000 in
theorem px_r83_5 {r : MR} (hr : px_hr r) : r 83 5 = some 87 := hr 83 5 87 rfl
set_option maxRecDepth 8000 in
theorem px_r88_2 {r : MR} (hr : px_hr r) : r 88 2 = some 89 := hr 88 2 89 rfl
set_option maxRecDepth 8000 in
theorem px_r88_3 {r : MR} (hr : px_hr r) : r 88 3 = some 90 := hr 88 3 90 rfl
set_option maxRecDepth 8000 in
theorem px_r88_4 {r : MR} (hr : px_hr r) : r 88 4 = some 91 := hr 88 4 91 rfl
set_option maxRecDepth 8000 in
theorem px_r88_5 {r : MR} (hr : px_hr r) : r 88 5 = some 92 := hr 88 5 92 rfl
set_option maxRecDepth 8000 in
theorem px_r93_2 {r : MR} (hr : px_hr r) : r 93 2 = some 94 := hr 93 2 94 rfl
set_option maxRecDepth 8000 in
theorem px_r93_3 {r : MR} (hr : px_hr r) : r 93 3 = some 95 := hr 93 3 95 rfl
set_option maxRecDepth 8000 in
theorem px_r93_4 {r : MR} (hr : px_hr r) : r 93 4 = some 96 := hr 93 4 96 rfl
set_option maxRecDepth 8000 in
theorem px_r93_5 {r : MR} (hr : px_hr r) : r 93 5 = some 97 := hr 93 5 97 rfl
set_option maxRecDepth 8000 in
theorem px_r98_2 {r : MR} (hr : px_hr r) : r 98 2 = some 99 := hr 98 2 99 rfl
set_option maxRecDepth 8000 in
theorem px_r98_3 {r : MR} (hr : px_hr r) : r 98 3 = some 100 := hr 98 3 100 rfl
set_option maxRecDepth 8000 in
theorem px_r98_4 {r : MR} (hr : px_hr r) : r 98 4 = some 101 := hr 98 4 101 rfl
set_option maxRecDepth 8000 in
theorem px_r98_5 {r : MR} (hr : px_hr r) : r 98 5 = some 102 := hr 98 5 102 rfl
set_option maxRecDepth 8000 in
theorem px_r103_0 {r : MR} (hr : px_hr r) : r 103 0 = some 4 := hr 103 0 4 rfl
set_option maxRecDepth 8000 in
theorem px_r103_1 {r : MR} (hr : px_hr r) : r 103 1 = some 68 := hr 103 1 68 rfl
set_option maxRecDepth 8000 in
theorem px_r103_2 {r : MR} (hr : px_hr r) : r 103 2 = some 104 := hr 103 2 104 rfl
set_option maxRecDepth 8000 in
theorem px_r103_3 {r : MR} (hr : px_hr r) : r 103 3 = some 105 := hr 103 3 105 rfl
set_option maxRecDepth 8000 in
theorem px_r103_4 {r : MR} (hr : px_hr r) : r 103 4 = some 106 := hr 103 4 106 rfl
set_option maxRecDepth 8000 in
theorem px_r103_5 {r : MR} (hr : px_hr r) : r 103 5 = some 107 := hr 103 5 107 rfl
set_option maxRecDepth 8000 in
theorem px_r103_6 {r : MR} (hr : px_hr r) : r 103 6 = some 108 := hr 103 6 108 rfl
set_option maxRecDepth 8000 in
theorem px_r103_8 {r : MR} (hr : px_hr r) : r 103 8 = some 109 := hr 103 8 109 rfl
set_option maxRecDepth 8000 in
theorem px_r110_0 {r : MR} (hr : px_hr r) : r 110 0 = some 19 := hr 110 0 19 rfl
set_option maxRecDepth 8000 in
theorem px_r110_1 {r : MR} (hr : px_hr r) : r 110 1 = some 68 := hr 110 1 68 rfl
set_option maxRecDepth 8000 in
theorem px_r110_2 {r : MR} (hr : px_hr r) : r 110 2 = some 111 := hr 110 2 111 rfl
set_option maxRecDepth 8000 in
theorem px_r110_3 {r : MR} (hr : px_hr r) : r 110 3 = some 112 := hr 110 3 112 rfl
set_option maxRecDepth 8000 in
theorem px_r110_4 {r : MR} (hr : px_hr r) : r 110 4 = some 113 := hr 110 4 113 rfl
set_option maxRecDepth 8000 in
theorem px_r110_5 {r : MR} (hr : px_hr r) : r 110 5 = some 114 := hr 110 5 114 rfl
set_option maxRecDepth 8000 in
theorem px_r110_6 {r : MR} (hr : px_hr r) : r 110 6 = some 115 := hr 110 6 115 rfl
set_option maxRecDepth 8000 in
theorem px_r116_0 {r : MR} (hr : px_hr r) : r 116 0 = some 4 := hr 116 0 4 rfl
set_option maxRecDepth 8000 in
theorem px_r116_1 {r : MR} (hr : px_hr r) : r 116 1 = some 68 := hr 116 1 68 rfl
set_option maxRecDepth 8000 in
theorem px_r116_2 {r : MR} (hr : px_hr r) : r 116 2 = some 103 := hr 116 2 103 rfl
set_option maxRecDepth 8000 in
theorem px_r116_3 {r : MR} (hr : px_hr r) : r 116 3 = some 117 := hr 116 3 117 rfl
set_option maxRecDepth 8000 in
theorem px_r116_5 {r : MR} (hr : px_hr r) : r 116 5 = some 118 := hr 116 5 118 rfl
set_option maxRecDepth 8000 in
theorem px_r116_6 {r : MR} (hr : px_hr r) : r 116 6 = some 119 := hr 116 6 119 rfl
set_option maxRecDepth 8000 in
theorem px_r116_8 {r : MR} (hr : px_hr r) : r 116 8 = some 120 := hr 116 8 120 rfl
set_option maxRecDepth 8000 in
theorem px_r116_9 {r : MR} (hr : px_hr r) : r 116 9 = some 121 := hr 116 9 121 rfl
set_option maxRecDepth 8000 in
theorem px_r116_10 {r : MR} (hr : px_hr r) : r 116 10 = some 122 := hr 116 10 122 rfl
set_option maxRecDepth 8000 in
theorem px_r123_3 {r : MR} (hr : px_hr r) : r 123 3 = some 124 := hr 123 3 124 rfl
set_option maxRecDepth 8000 in
theorem px_r123_4 {r : MR} (hr : px_hr r) : r 123 4 = some 125 := hr 123 4 125 rfl
set_option maxRecDepth 8000 in
theorem px_r123_5 {r : MR} (hr : px_hr r) : r 123 5 = some 126 := hr 123 5 126 rfl
set_option maxRecDepth 8000 in
theorem px_r123_9 {r : MR} (hr : px_hr r) : r 123 9 = some 127 := hr 123 9 127 rfl
set_option maxRecDepth 8000 in
theorem px_r123_10 {r : MR} (hr : px_hr r) : r 123 10 = some 128 := hr 123 10 128 rfl
set_option maxRecDepth 8000 in
theorem px_r123_11 {r : MR} (hr : px_hr r) : r 123 11 = some 129 := hr 123 11 129 rfl
set_option maxRecDepth 8000 in
theorem px_r123_12 {r : MR} (hr : px_hr r) : r 123 12 = some 130 := hr 123 12 130 rfl
set_option maxRecDepth 8000 in
theorem px_r123_13 {r : MR} (hr : px_hr r) : r 123 13 = some 131 := hr 123 13 131 rfl
set_option maxRecDepth 8000 in
theorem px_r123_23 {r : MR} (hr : px_hr r) : r 123 23 = some 132 := hr 123 23 132 rfl
set_option maxRecDepth 8000 in
theorem px_r123_24 {r : MR} (hr : px_hr r) : r 123 24 = some 133 := hr 123 24 133 rfl
set_option maxRecDepth 8000 in
theorem px_r123_26 {r : MR} (hr : px_hr r) : r 123 26 = some 134 := hr 123 26 134 rfl
set_option maxRecDepth 8000 in
theorem px_r123_27 {r : MR} (hr : px_hr r) : r 123 27 = some 135 := hr 123 27 135 rfl
set_option maxRecDepth 8000 in
theorem px_r123_31 {r : MR} (hr : px_hr r) : r 123 31 = some 136 := hr 123 31 136 rfl
set_option maxRecDepth 8000 in
theorem px_r123_32 {r : MR} (hr : px_hr r) : r 123 32 = some 137 := hr 123 32 137 rfl
set_option maxRecDepth 8000 in
theorem px_r123_34 {r : MR} (hr : px_hr r) : r 123 34 = some 138 := hr 123 34 138 rfl
set_option maxRecDepth 8000 in
theorem px_r123_35 {r : MR} (hr : px_hr r) : r 123 35 = some 139 := hr 123 35 139 rfl
set_option maxRecDepth 8000 in
theorem px_r123_36 {r : MR} (hr : px_hr r) : r 123 36 = some 140 := hr 123 36 140 rfl
set_option maxRecDepth 8000 in
theorem px_r123_37 {r : MR} (hr : px_hr r) : r 123 37 = some 141 := hr 123 37 141 rfl
set_option maxRecDepth 8000 in
theorem px_r123_38 {r : MR} (hr : px_hr r) : r 123 38 = some 142 := hr 123 38 142 rfl
set_option maxRecDepth 8000 in
theorem px_r123_39 {r : MR} (hr : px_hr r) : r 123 39 = some 143 := hr 123 39 143 rfl
set_option maxRecDepth 8000 in
theorem px_r123_40 {r : MR} (hr : px_hr r) : r 123 40 = some 144 := hr 123 40 144 rfl
set_option maxRecDepth 8000 in
theorem px_r123_41 {r : MR} (hr : px_hr r) : r 123 41 = some 145 := hr 123 41 145 rfl
set_option maxRecDepth 8000 in
theorem px_r123_42 {r : MR} (hr : px_hr r) : r 123 42 = some 146 := hr 123 42 146 rfl
set_option maxRecDepth 8000 in
theorem px_r123_43 {r : MR} (hr : px_hr r) : r 123 43 = some 147 := hr 123 43 147 rfl
set_option maxRecDepth 8000 in
theorem px_r123_44 {r : MR} (hr : px_hr r) : r 123 44 = some 148 := hr 123 44 148 rfl
set_option maxRecDepth 8000 in
theorem px_r123_45 {r : MR} (hr : px_hr r) : r 123 45 = some 149 := hr 123 45 149 rfl
set_option maxRecDepth 8000 in
theorem px_r123_46 {r : MR} (hr : px_hr r) : r 123 46 = some 150 := hr 123 46 150 rfl
set_option maxRecDepth 8000 in
theorem px_r123_47 {r : MR} (hr : px_hr r) : r 123 47 = some 151 := hr 123 47 151 rfl
set_option maxRecDepth 8000 in
theorem px_r123_48 {r : MR} (hr : px_hr r) : r 123 48 = some 152 := hr 123 48 152 rfl
set_option maxRecDepth 8000 in
theorem px_r123_49 {r : MR} (hr : px_hr r) : r 123 49 = some 153 := hr 123 49 153 rfl
set_option maxRecDepth 8000 in
theorem px_r123_50 {r : MR} (hr : px_hr r) : r 123 50 = some 154 := hr 123 50 154 rfl
set_option maxRecDepth 8000 in
theorem px_r123_51 {r : MR} (hr : px_hr r) : r 123 51 = some 155 := hr 123 51 155 rfl
set_option maxRecDepth 8000 in
theorem px_r123_52 {r : MR} (hr : px_hr r) : r 123 52 = some 156 := hr 123 52 156 rfl
set_option maxRecDepth 8000 in
theorem px_r123_53 {r : MR} (hr : px_hr r) : r 123 53 = some 157 := hr 123 53 157 rfl
set_option maxRecDepth 8000 in
theorem px_r123_54 {r : MR} (hr : px_hr r) : r 123 54 = some 158 := hr 123 54 158 rfl
def px_gs (k : Nat) : Prop := (21 ≤ k ∧ k < 31) ∨ (48 ≤ k ∧ k < 58)
theorem px_gs_cases {k : Nat} (h : px_gs k) : k = 21 ∨ k = 22 ∨ k = 23 ∨ k = 24 ∨ k = 25 ∨ k = 26 ∨ k = 27 ∨ k = 28 ∨ k = 29 ∨ k = 30 ∨ k = 48 ∨ k = 49 ∨ k = 50 ∨ k = 51 ∨ k = 52 ∨ k = 53 ∨ k = 54 ∨ k = 55 ∨ k = 56 ∨ k = 57 := by
  unfold px_gs at h
  omega
theorem px_gs_sh {L k : Nat} (h : px_gs k) : (px_sh L)[k]? = some (.inl 3) := by
  rcases px_gs_cases h with h | h | h | h | h | h | h | h | h | h | h | h | h | h | h | h | h | h | h | h <;> subst h <;> rfl
theorem px_gs_3 {k : Nat} (h : px_gs k) : 3 ≤ k := by
  unfold px_gs at h
  omega
theorem px_gs_mk21 {x : Int} (h : 0 ≤ x ∧ x < 10) : px_gs (21 + x.toNat) := by
  unfold px_gs
  omega
theorem px_gs_r18 {r : MR} (hr : px_hr r) {x : Int} (h : 0 ≤ x ∧ x < 10) : r 18 x = some (21 + x.toNat) := by
  have hx : x = 0 ∨ x = 1 ∨ x = 2 ∨ x = 3 ∨ x = 4 ∨ x = 5 ∨ x = 6 ∨ x = 7 ∨ x = 8 ∨ x = 9 := by omega
  rcases hx with hx | hx | hx | hx | hx | hx | hx | hx | hx | hx
  · subst hx; exact px_r18_0 hr
  · subst hx; exact px_r18_1 hr
  · subst hx; exact px_r18_2 hr
  · subst hx; exact px_r18_3 hr
  · subst hx; exact px_r18_4 hr
  · subst hx; exact px_r18_5 hr
  · subst hx; exact px_r18_6 hr
  · subst hx; exact px_r18_7 hr
  · subst hx; exact px_r18_8 hr
  · subst hx; exact px_r18_9 hr
theorem px_gs_mk48 {x : Int} (h : 0 ≤ x ∧ x < 10) : px_gs (48 + x.toNat) := by
  unfold px_gs
  omega
theorem px_gs_r45 {r : MR} (hr : px_hr r) {x : Int} (h : 0 ≤ x ∧ x < 10) : r 45 x = some (48 + x.toNat) := by
  have hx : x = 0 ∨ x = 1 ∨ x = 2 ∨ x = 3 ∨ x = 4 ∨ x = 5 ∨ x = 6 ∨ x = 7 ∨ x = 8 ∨ x = 9 := by omega
  rcases hx with hx | hx | hx | hx | hx | hx | hx | hx | hx | hx
  · subst hx; exact px_r45_0 hr
  · subst hx; exact px_r45_1 hr
  · subst hx; exact px_r45_2 hr
  · subst hx; exact px_r45_3 hr
  · subst hx; exact px_r45_4 hr
  · subst hx; exact px_r45_5 hr
  · subst hx; exact px_r45_6 hr
  · subst hx; exact px_r45_7 hr
  · subst hx; exact px_r45_8 hr
  · subst hx; exact px_r45_9 hr
def px_tx (k : Nat) : Prop := k = 59 ∨ k = 73 ∨ k = 78 ∨ k = 83 ∨ k = 88 ∨ k = 93 ∨ k = 98
theorem px_tx_sh {L k : Nat} (h : px_tx k) : (px_sh L)[k]? = some (.inl 11) := by
  rcases h with h | h | h | h | h | h | h <;> subst h <;> rfl
theorem px_tx_3 {k : Nat} (h : px_tx k) : 3 ≤ k := by
  unfold px_tx at h
  omega
theorem px_tx_g {k : Nat} (h : px_tx k) (o : Nat) : 3 ≤ k + o := by
  unfold px_tx at h
  omega
theorem px_tx_s1 {L k : Nat} (h : px_tx k) : (px_sh L)[k + 1]? = some (.inr (0, 300)) := by
  rcases h with h | h | h | h | h | h | h <;> subst h <;> rfl
theorem px_tx_r1 {r : MR} (hr : px_hr r) {k : Nat} (h : px_tx k) : r k 2 = some (k + 1) := by
  rcases h with h | h | h | h | h | h | h
  · subst h; exact px_r59_2 hr
  · subst h; exact px_r73_2 hr
  · subst h; exact px_r78_2 hr
  · subst h; exact px_r83_2 hr
  · subst h; exact px_r88_2 hr
  · subst h; exact px_r93_2 hr
  · subst h; exact px_r98_2 hr
theorem px_tx_s2 {L k : Nat} (h : px_tx k) : (px_sh L)[k + 2]? = some (.inr (0, 10)) := by
  rcases h with h | h | h | h | h | h | h <;> subst h <;> rfl
theorem px_tx_r2 {r : MR} (hr : px_hr r) {k : Nat} (h : px_tx k) : r k 3 = some (k + 2) := by
  rcases h with h | h | h | h | h | h | h
  · subst h; exact px_r59_3 hr
  · subst h; exact px_r73_3 hr
  · subst h; exact px_r78_3 hr
  · subst h; exact px_r83_3 hr
  · subst h; exact px_r88_3 hr
  · subst h; exact px_r93_3 hr
  · subst h; exact px_r98_3 hr
theorem px_tx_s3 {L k : Nat} (h : px_tx k) : (px_sh L)[k + 3]? = some (.inr (0, 10)) := by
  rcases h with h | h | h | h | h | h | h <;> subst h <;> rfl
theorem px_tx_r3 {r : MR} (hr : px_hr r) {k : Nat} (h : px_tx k) : r k 4 = some (k + 3) := by
  rcases h with h | h | h | h | h | h | h
  · subst h; exact px_r59_4 hr
  · subst h; exact px_r73_4 hr
  · subst h; exact px_r78_4 hr
  · subst h; exact px_r83_4 hr
  · subst h; exact px_r88_4 hr
  · subst h; exact px_r93_4 hr
  · subst h; exact px_r98_4 hr
theorem px_tx_s4 {L k : Nat} (h : px_tx k) : (px_sh L)[k + 4]? = some (.inr (0, 10)) := by
  rcases h with h | h | h | h | h | h | h <;> subst h <;> rfl
theorem px_tx_r4 {r : MR} (hr : px_hr r) {k : Nat} (h : px_tx k) : r k 5 = some (k + 4) := by
  rcases h with h | h | h | h | h | h | h
  · subst h; exact px_r59_5 hr
  · subst h; exact px_r73_5 hr
  · subst h; exact px_r78_5 hr
  · subst h; exact px_r83_5 hr
  · subst h; exact px_r88_5 hr
  · subst h; exact px_r93_5 hr
  · subst h; exact px_r98_5 hr
theorem px_tx_mk {x : Int} (h : 0 ≤ x ∧ x < 6) : px_tx (73 + 5 * x.toNat) := by
  unfold px_tx
  omega
theorem px_tx_r {r : MR} (hr : px_hr r) {x : Int} (h : 0 ≤ x ∧ x < 6) : r 69 x = some (73 + 5 * x.toNat) := by
  have hx : x = 0 ∨ x = 1 ∨ x = 2 ∨ x = 3 ∨ x = 4 ∨ x = 5 := by omega
  rcases hx with hx | hx | hx | hx | hx | hx
  · subst hx; exact px_r69_0 hr
  · subst hx; exact px_r69_1 hr
  · subst hx; exact px_r69_2 hr
  · subst hx; exact px_r69_3 hr
  · subst hx; exact px_r69_4 hr
  · subst hx; exact px_r69_5 hr
def px_nl (v : PV) : Prop := ∀ x, v ≠ vL x
theorem px_nl_I (x : Int) : px_nl (vI x) := fun _ h => by cases h
theorem px_nl_R (k : Nat) : px_nl (vR k) := fun _ h => by cases h
theorem px_nl_N : px_nl vN := fun _ h => by cases h
theorem px_nl_J : px_nl vJ := fun _ h => by cases h
theorem px_clob_nl {ls : List PV} {n : Nat} {v : PV} (h : px_nl v) (hk : ls[n]? = some v) : px_clob ls (n + 1) = ls := by
  unfold px_clob
  dsimp only
  rw [hk]
  split
  · rename_i x heq
    exact absurd (Option.some.inj heq) (h x)
  · rfl
theorem px_st1_nl {ls ls' : List PV} {n : Nat} {v w : PV} (h : px_nl v) (hk : ls[n]? = some v) (e : ls.set (n + 1) w = ls') : px_st1 ls (n + 1) w = ls' := by
  unfold px_st1
  rw [px_clob_nl h hk, e]
theorem px_st2_nl {ls ls' : List PV} {n : Nat} {v w : PV} (h : px_nl v) (hk : ls[n]? = some v) (e : (ls.set (n + 1) w).set (n + 2) vJ = ls') : px_st2 ls (n + 1) w = ls' := by
  unfold px_st2
  rw [px_clob_nl h hk]
  exact e
theorem px_swi {α : Type} {c : Prop} {hd : Decidable c} {x a b : α} (h1 : c → x = a) (h2 : ¬ c → x = b) : x = if c then a else b := by
  by_cases h : c
  · rw [if_pos h, h1 h]
  · rw [if_neg h, h2 h]
theorem px_psh_some (pc : Nat) (ls st : List PV) (v : PV) : px_psh (pc, ls, st) (some v) = (pc, ls, v :: st) := rfl
theorem px_psh_none (pc : Nat) (ls st : List PV) : px_psh (pc, ls, st) none = (pc, ls, st) := rfl
theorem px_X_callB {d m m' : Nat} {as : List PV} {f f' : FR} {s s' : PM} (h : px_stp m f s = some (.inr (.inr (m', as, f', s')))) : px_X (d + 1) m f s = (px_C d m' as s').bind (fun q => px_X (d + 1) m (px_psh f' q.1) q.2) := by
  cases hc : px_C d m' as s' with
  | some q =>
    obtain ⟨v, s2⟩ := q
    exact px_X_call h hc
  | none =>
    show px_X (d + 1) m f s = none
    cases hx : px_X (d + 1) m f s with
    | none => rfl
    | some q =>
      obtain ⟨n, hn⟩ := px_X_iff.mp hx
      exfalso
      cases n with
      | zero => cases hn
      | succ n =>
        unfold px_run at hn
        rw [h] at hn
        dsimp only at hn
        cases hr : px_run n d m' (px_ent m' as) s' with
        | none => rw [hr] at hn; cases hn
        | some q' =>
          have h2 : px_C d m' as s' = some q' := px_X_iff.mpr ⟨n, hr⟩
          rw [hc] at h2
          cases h2
section PXB
variable {d m pc : Nat} {ls st st' : List PV} {sh : List Sh} {i l : MI} {r : MR} {t : Nat}
theorem xs_callsB {n l0 m' : Nat} {as : List PV} {z : Int} (k : px_cod m pc = some (.invokestatic n, 3, [0, l0, m'], z)) (hst : st = as.reverse ++ st') (hn : as.length = px_na m') (h8 : (st'.map px_cat).sum ≤ 8) (hm : m' + 1 < px_nm) (hl : (px_xp as).length ≤ px_ml m') : px_X (d + 1) m (pc, ls, st) (sh, i, l, r, t) = (px_C d m' as (sh, i, l, r, t)).bind (fun q => px_X (d + 1) m (px_psh (pc + 3, ls, st') q.1) q.2) := by
  subst hst
  have e1 : (as.reverse ++ st').take (px_na m') = as.reverse := by rw [← hn, ← List.length_reverse, List.take_left']; rfl
  have e2 : (as.reverse ++ st').drop (px_na m') = st' := by rw [← hn, ← List.length_reverse, List.drop_left']; rfl
  refine px_X_callB (px_stp_of k ?_)
  show px_call m' 0 pc ls (as.reverse ++ st') (sh, i, l, r, t) = _
  unfold px_call
  rw [e1, e2, List.reverse_reverse, if_pos ⟨by rw [List.length_append, List.length_reverse]; omega, h8, hm, hl⟩]
theorem xs_callvB {n l0 m' c : Nat} {as : List PV} {z : Int} (k : px_cod m pc = some (.invokevirtual n, 3, [0, l0, m'], z)) (hst : st = as.reverse ++ vR c :: st') (hn : as.length + 1 = px_na m') (h8 : (st'.map px_cat).sum ≤ 8) (hm : m' + 1 < px_nm) (hl : (px_xp (vR c :: as)).length ≤ px_ml m') (hk : sh[c]? = some (.inl (px_mo m'))) (h3 : 3 ≤ c) : px_X (d + 1) m (pc, ls, st) (sh, i, l, r, t) = (px_C d m' (vR c :: as) (sh, i, l, r, t)).bind (fun q => px_X (d + 1) m (px_psh (pc + 3, ls, st') q.1) q.2) := by
  subst hst
  have e0 : as.reverse ++ vR c :: st' = (vR c :: as).reverse ++ st' := by rw [List.reverse_cons, List.append_assoc]; rfl
  have e1 : ((vR c :: as).reverse ++ st').take (px_na m') = (vR c :: as).reverse := by rw [← hn, ← List.length_cons (a := vR c), ← List.length_reverse, List.take_left']; rfl
  have e2 : ((vR c :: as).reverse ++ st').drop (px_na m') = st' := by rw [← hn, ← List.length_cons (a := vR c), ← List.length_reverse, List.drop_left']; rfl
  rw [e0]
  refine px_X_callB (px_stp_of k ?_)
  show px_call m' 1 pc ls ((vR c :: as).reverse ++ st') (sh, i, l, r, t) = _
  unfold px_call
  rw [e1, e2, List.reverse_reverse, if_pos ⟨by rw [List.length_append, List.length_reverse, List.length_cons]; omega, h8, hm, hl⟩]
  exact if_pos ⟨hk, h3⟩
theorem xs_calliB {n l0 m' c : Nat} {as : List PV} {z : Int} (k : px_cod m pc = some (.invokespecial n, 3, [0, l0, m'], z)) (hst : st = as.reverse ++ vR c :: st') (hn : as.length + 1 = px_na m') (h8 : (st'.map px_cat).sum ≤ 8) (hm : m' + 1 < px_nm) (hl : (px_xp (vR c :: as)).length ≤ px_ml m') (hk : sh[c]? = some (.inl (px_mo m'))) (h3 : 3 ≤ c) : px_X (d + 1) m (pc, ls, st) (sh, i, l, r, t) = (px_C d m' (vR c :: as) (sh, i, l, r, t)).bind (fun q => px_X (d + 1) m (px_psh (pc + 3, ls, st') q.1) q.2) := by
  subst hst
  have e0 : as.reverse ++ vR c :: st' = (vR c :: as).reverse ++ st' := by rw [List.reverse_cons, List.append_assoc]; rfl
  have e1 : ((vR c :: as).reverse ++ st').take (px_na m') = (vR c :: as).reverse := by rw [← hn, ← List.length_cons (a := vR c), ← List.length_reverse, List.take_left']; rfl
  have e2 : ((vR c :: as).reverse ++ st').drop (px_na m') = st' := by rw [← hn, ← List.length_cons (a := vR c), ← List.length_reverse, List.drop_left']; rfl
  rw [e0]
  refine px_X_callB (px_stp_of k ?_)
  show px_call m' 2 pc ls ((vR c :: as).reverse ++ st') (sh, i, l, r, t) = _
  unfold px_call
  rw [e1, e2, List.reverse_reverse, if_pos ⟨by rw [List.length_append, List.length_reverse, List.length_cons]; omega, h8, hm, hl⟩]
  exact if_pos ⟨hk, h3⟩
end PXB
