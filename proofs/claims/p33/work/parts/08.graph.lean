/-- the cells: the system's, and those behind them -/
def SHg (G : Gt) : List Shp := SH ++ (gE G).1
def RHg (G : Gt) : Rf := fun a k => if a < 146 then RHO a k else (gE G).2 a k
theorem sx_ {G : Gt} {a : Nat} {s : Shp} (h : SH[a]? = some s) : (SHg G)[a]? = some s := by
  rw [SHg, List.getElem?_append_left (List.getElem?_eq_some_iff.mp h).1]
  exact h
theorem rx_ {G : Gt} {a k z : Nat} (ha : a < 146) (h : RHO a k = some z) : RHg G a k = some z := (if_pos ha).trans h
theorem s_0 {G : Gt} : (SHg G)[0]? = some (.inr (.inl 11)) := sx_ s0_0
theorem s_1 {G : Gt} : (SHg G)[1]? = some (.inr (.inl 9)) := sx_ s0_1
theorem s_2 {G : Gt} : (SHg G)[2]? = some (.inl 12) := sx_ s0_2
theorem s_3 {G : Gt} : (SHg G)[3]? = some (.inl 12) := sx_ s0_3
theorem s_4 {G : Gt} : (SHg G)[4]? = some (.inl 12) := sx_ s0_4
theorem s_5 {G : Gt} : (SHg G)[5]? = some (.inl 12) := sx_ s0_5
theorem s_6 {G : Gt} : (SHg G)[6]? = some (.inl 2) := sx_ s0_6
theorem s_7 {G : Gt} : (SHg G)[7]? = some (.inl 8) := sx_ s0_7
theorem s_8 {G : Gt} : (SHg G)[8]? = some (.inr (.inl 4)) := sx_ s0_8
theorem s_9 {G : Gt} : (SHg G)[9]? = some (.inl 400) := sx_ s0_9
theorem s_10 {G : Gt} : (SHg G)[10]? = some (.inl 16) := sx_ s0_10
theorem s_11 {G : Gt} : (SHg G)[11]? = some (.inl 16) := sx_ s0_11
theorem s_12 {G : Gt} : (SHg G)[12]? = some (.inl 16) := sx_ s0_12
theorem s_13 {G : Gt} : (SHg G)[13]? = some (.inl 16) := sx_ s0_13
theorem s_14 {G : Gt} : (SHg G)[14]? = some (.inl 32) := sx_ s0_14
theorem s_15 {G : Gt} : (SHg G)[15]? = some (.inr (.inl 5)) := sx_ s0_15
theorem s_16 {G : Gt} : (SHg G)[16]? = some (.inl 16) := sx_ s0_16
theorem s_17 {G : Gt} : (SHg G)[17]? = some (.inl 16) := sx_ s0_17
theorem s_18 {G : Gt} : (SHg G)[18]? = some (.inl 16) := sx_ s0_18
theorem s_19 {G : Gt} : (SHg G)[19]? = some (.inr (.inl 8)) := sx_ s0_19
theorem s_20 {G : Gt} : (SHg G)[20]? = some (.inl 10) := sx_ s0_20
theorem s_21 {G : Gt} : (SHg G)[21]? = some (.inl 10) := sx_ s0_21
theorem s_22 {G : Gt} : (SHg G)[22]? = some (.inl 10) := sx_ s0_22
theorem s_23 {G : Gt} : (SHg G)[23]? = some (.inr (.inl 0)) := sx_ s0_23
theorem s_24 {G : Gt} : (SHg G)[24]? = some (.inl 12) := sx_ s0_24
theorem s_25 {G : Gt} : (SHg G)[25]? = some (.inl 12) := sx_ s0_25
theorem s_26 {G : Gt} : (SHg G)[26]? = some (.inl 12) := sx_ s0_26
theorem s_27 {G : Gt} : (SHg G)[27]? = some (.inl 12) := sx_ s0_27
theorem s_28 {G : Gt} : (SHg G)[28]? = some (.inl 12) := sx_ s0_28
theorem s_29 {G : Gt} : (SHg G)[29]? = some (.inl 12) := sx_ s0_29
theorem s_30 {G : Gt} : (SHg G)[30]? = some (.inr (.inl 1)) := sx_ s0_30
theorem s_31 {G : Gt} : (SHg G)[31]? = some (.inl 600) := sx_ s0_31
theorem s_32 {G : Gt} : (SHg G)[32]? = some (.inr (.inl 3)) := sx_ s0_32
theorem s_33 {G : Gt} : (SHg G)[33]? = some (.inl 9) := sx_ s0_33
theorem s_34 {G : Gt} : (SHg G)[34]? = some (.inr (.inl 6)) := sx_ s0_34
theorem s_35 {G : Gt} : (SHg G)[35]? = some (.inl 400) := sx_ s0_35
theorem s_36 {G : Gt} : (SHg G)[36]? = some (.inl 401) := sx_ s0_36
theorem s_37 {G : Gt} : (SHg G)[37]? = some (.inl 401) := sx_ s0_37
theorem s_38 {G : Gt} : (SHg G)[38]? = some (.inl 401) := sx_ s0_38
theorem s_39 {G : Gt} : (SHg G)[39]? = some (.inr (.inl 4)) := sx_ s0_39
theorem s_40 {G : Gt} : (SHg G)[40]? = some (.inl 400) := sx_ s0_40
theorem s_41 {G : Gt} : (SHg G)[41]? = some (.inl 16) := sx_ s0_41
theorem s_42 {G : Gt} : (SHg G)[42]? = some (.inl 16) := sx_ s0_42
theorem s_43 {G : Gt} : (SHg G)[43]? = some (.inl 16) := sx_ s0_43
theorem s_44 {G : Gt} : (SHg G)[44]? = some (.inl 16) := sx_ s0_44
theorem s_45 {G : Gt} : (SHg G)[45]? = some (.inl 32) := sx_ s0_45
theorem s_46 {G : Gt} : (SHg G)[46]? = some (.inr (.inl 5)) := sx_ s0_46
theorem s_47 {G : Gt} : (SHg G)[47]? = some (.inl 16) := sx_ s0_47
theorem s_48 {G : Gt} : (SHg G)[48]? = some (.inl 16) := sx_ s0_48
theorem s_49 {G : Gt} : (SHg G)[49]? = some (.inl 16) := sx_ s0_49
theorem s_50 {G : Gt} : (SHg G)[50]? = some (.inl 12) := sx_ s0_50
theorem s_51 {G : Gt} : (SHg G)[51]? = some (.inl 8) := sx_ s0_51
theorem s_52 {G : Gt} : (SHg G)[52]? = some (.inr (.inl 10)) := sx_ s0_52
theorem s_53 {G : Gt} : (SHg G)[53]? = some (.inr (.inr (0, 6))) := sx_ s0_53
theorem s_54 {G : Gt} : (SHg G)[54]? = some (.inr (.inl 0)) := sx_ s0_54
theorem s_55 {G : Gt} : (SHg G)[55]? = some (.inl 12) := sx_ s0_55
theorem s_56 {G : Gt} : (SHg G)[56]? = some (.inl 12) := sx_ s0_56
theorem s_57 {G : Gt} : (SHg G)[57]? = some (.inl 12) := sx_ s0_57
theorem s_58 {G : Gt} : (SHg G)[58]? = some (.inl 12) := sx_ s0_58
theorem s_59 {G : Gt} : (SHg G)[59]? = some (.inl 12) := sx_ s0_59
theorem s_60 {G : Gt} : (SHg G)[60]? = some (.inl 12) := sx_ s0_60
theorem s_61 {G : Gt} : (SHg G)[61]? = some (.inr (.inl 0)) := sx_ s0_61
theorem s_62 {G : Gt} : (SHg G)[62]? = some (.inl 12) := sx_ s0_62
theorem s_63 {G : Gt} : (SHg G)[63]? = some (.inl 12) := sx_ s0_63
theorem s_64 {G : Gt} : (SHg G)[64]? = some (.inl 12) := sx_ s0_64
theorem s_65 {G : Gt} : (SHg G)[65]? = some (.inl 12) := sx_ s0_65
theorem s_66 {G : Gt} : (SHg G)[66]? = some (.inl 12) := sx_ s0_66
theorem s_67 {G : Gt} : (SHg G)[67]? = some (.inl 12) := sx_ s0_67
theorem s_68 {G : Gt} : (SHg G)[68]? = some (.inr (.inl 0)) := sx_ s0_68
theorem s_69 {G : Gt} : (SHg G)[69]? = some (.inl 12) := sx_ s0_69
theorem s_70 {G : Gt} : (SHg G)[70]? = some (.inl 12) := sx_ s0_70
theorem s_71 {G : Gt} : (SHg G)[71]? = some (.inl 12) := sx_ s0_71
theorem s_72 {G : Gt} : (SHg G)[72]? = some (.inl 12) := sx_ s0_72
theorem s_73 {G : Gt} : (SHg G)[73]? = some (.inl 12) := sx_ s0_73
theorem s_74 {G : Gt} : (SHg G)[74]? = some (.inl 12) := sx_ s0_74
theorem s_75 {G : Gt} : (SHg G)[75]? = some (.inr (.inl 0)) := sx_ s0_75
theorem s_76 {G : Gt} : (SHg G)[76]? = some (.inl 12) := sx_ s0_76
theorem s_77 {G : Gt} : (SHg G)[77]? = some (.inl 12) := sx_ s0_77
theorem s_78 {G : Gt} : (SHg G)[78]? = some (.inl 12) := sx_ s0_78
theorem s_79 {G : Gt} : (SHg G)[79]? = some (.inl 12) := sx_ s0_79
theorem s_80 {G : Gt} : (SHg G)[80]? = some (.inl 12) := sx_ s0_80
theorem s_81 {G : Gt} : (SHg G)[81]? = some (.inl 12) := sx_ s0_81
theorem s_82 {G : Gt} : (SHg G)[82]? = some (.inr (.inl 0)) := sx_ s0_82
theorem s_83 {G : Gt} : (SHg G)[83]? = some (.inl 12) := sx_ s0_83
theorem s_84 {G : Gt} : (SHg G)[84]? = some (.inl 12) := sx_ s0_84
theorem s_85 {G : Gt} : (SHg G)[85]? = some (.inl 12) := sx_ s0_85
theorem s_86 {G : Gt} : (SHg G)[86]? = some (.inl 12) := sx_ s0_86
theorem s_87 {G : Gt} : (SHg G)[87]? = some (.inl 12) := sx_ s0_87
theorem s_88 {G : Gt} : (SHg G)[88]? = some (.inl 12) := sx_ s0_88
theorem s_89 {G : Gt} : (SHg G)[89]? = some (.inr (.inl 0)) := sx_ s0_89
theorem s_90 {G : Gt} : (SHg G)[90]? = some (.inl 12) := sx_ s0_90
theorem s_91 {G : Gt} : (SHg G)[91]? = some (.inl 12) := sx_ s0_91
theorem s_92 {G : Gt} : (SHg G)[92]? = some (.inl 12) := sx_ s0_92
theorem s_93 {G : Gt} : (SHg G)[93]? = some (.inl 12) := sx_ s0_93
theorem s_94 {G : Gt} : (SHg G)[94]? = some (.inl 12) := sx_ s0_94
theorem s_95 {G : Gt} : (SHg G)[95]? = some (.inl 12) := sx_ s0_95
theorem s_96 {G : Gt} : (SHg G)[96]? = some (.inr (.inl 2)) := sx_ s0_96
theorem s_97 {G : Gt} : (SHg G)[97]? = some (.inr (.inl 0)) := sx_ s0_97
theorem s_98 {G : Gt} : (SHg G)[98]? = some (.inl 12) := sx_ s0_98
theorem s_99 {G : Gt} : (SHg G)[99]? = some (.inl 12) := sx_ s0_99
theorem s_100 {G : Gt} : (SHg G)[100]? = some (.inl 12) := sx_ s0_100
theorem s_101 {G : Gt} : (SHg G)[101]? = some (.inl 12) := sx_ s0_101
theorem s_102 {G : Gt} : (SHg G)[102]? = some (.inl 12) := sx_ s0_102
theorem s_103 {G : Gt} : (SHg G)[103]? = some (.inl 12) := sx_ s0_103
theorem s_104 {G : Gt} : (SHg G)[104]? = some (.inr (.inl 3)) := sx_ s0_104
theorem s_105 {G : Gt} : (SHg G)[105]? = some (.inl 9) := sx_ s0_105
theorem s_106 {G : Gt} : (SHg G)[106]? = some (.inr (.inl 7)) := sx_ s0_106
theorem s_107 {G : Gt} : (SHg G)[107]? = some (.inl 144) := sx_ s0_107
theorem s_108 {G : Gt} : (SHg G)[108]? = some (.inl 12) := sx_ s0_108
theorem s_109 {G : Gt} : (SHg G)[109]? = some (.inl 12) := sx_ s0_109
theorem s_110 {G : Gt} : (SHg G)[110]? = some (.inl 12) := sx_ s0_110
theorem s_111 {G : Gt} : (SHg G)[111]? = some (.inl 12) := sx_ s0_111
theorem s_112 {G : Gt} : (SHg G)[112]? = some (.inl 12) := sx_ s0_112
theorem s_113 {G : Gt} : (SHg G)[113]? = some (.inl 4096) := sx_ s0_113
theorem s_114 {G : Gt} : (SHg G)[114]? = some (.inl 9) := sx_ s0_114
theorem s_115 {G : Gt} : (SHg G)[115]? = some (.inr (.inl 9)) := sx_ s0_115
theorem s_116 {G : Gt} : (SHg G)[116]? = some (.inl 12) := sx_ s0_116
theorem s_117 {G : Gt} : (SHg G)[117]? = some (.inl 12) := sx_ s0_117
theorem s_118 {G : Gt} : (SHg G)[118]? = some (.inl 12) := sx_ s0_118
theorem s_119 {G : Gt} : (SHg G)[119]? = some (.inl 12) := sx_ s0_119
theorem s_120 {G : Gt} : (SHg G)[120]? = some (.inl 2) := sx_ s0_120
theorem s_121 {G : Gt} : (SHg G)[121]? = some (.inl 8) := sx_ s0_121
theorem s_122 {G : Gt} : (SHg G)[122]? = some (.inr (.inl 4)) := sx_ s0_122
theorem s_123 {G : Gt} : (SHg G)[123]? = some (.inl 400) := sx_ s0_123
theorem s_124 {G : Gt} : (SHg G)[124]? = some (.inl 16) := sx_ s0_124
theorem s_125 {G : Gt} : (SHg G)[125]? = some (.inl 16) := sx_ s0_125
theorem s_126 {G : Gt} : (SHg G)[126]? = some (.inl 16) := sx_ s0_126
theorem s_127 {G : Gt} : (SHg G)[127]? = some (.inl 16) := sx_ s0_127
theorem s_128 {G : Gt} : (SHg G)[128]? = some (.inl 32) := sx_ s0_128
theorem s_129 {G : Gt} : (SHg G)[129]? = some (.inr (.inl 5)) := sx_ s0_129
theorem s_130 {G : Gt} : (SHg G)[130]? = some (.inl 16) := sx_ s0_130
theorem s_131 {G : Gt} : (SHg G)[131]? = some (.inl 16) := sx_ s0_131
theorem s_132 {G : Gt} : (SHg G)[132]? = some (.inl 16) := sx_ s0_132
theorem s_133 {G : Gt} : (SHg G)[133]? = some (.inr (.inl 8)) := sx_ s0_133
theorem s_134 {G : Gt} : (SHg G)[134]? = some (.inl 10) := sx_ s0_134
theorem s_135 {G : Gt} : (SHg G)[135]? = some (.inl 10) := sx_ s0_135
theorem s_136 {G : Gt} : (SHg G)[136]? = some (.inl 10) := sx_ s0_136
theorem s_137 {G : Gt} : (SHg G)[137]? = some (.inr (.inl 0)) := sx_ s0_137
theorem s_138 {G : Gt} : (SHg G)[138]? = some (.inl 12) := sx_ s0_138
theorem s_139 {G : Gt} : (SHg G)[139]? = some (.inl 12) := sx_ s0_139
theorem s_140 {G : Gt} : (SHg G)[140]? = some (.inl 12) := sx_ s0_140
theorem s_141 {G : Gt} : (SHg G)[141]? = some (.inl 12) := sx_ s0_141
theorem s_142 {G : Gt} : (SHg G)[142]? = some (.inl 12) := sx_ s0_142
theorem s_143 {G : Gt} : (SHg G)[143]? = some (.inl 12) := sx_ s0_143
theorem s_144 {G : Gt} : (SHg G)[144]? = some (.inr (.inl 1)) := sx_ s0_144
theorem s_145 {G : Gt} : (SHg G)[145]? = some (.inl 600) := sx_ s0_145
theorem r_0_0 {G : Gt} : RHg G 0 0 = some 1 := rx_ (by decide) (by decide +kernel)
theorem r_0_1 {G : Gt} : RHg G 0 1 = some 23 := rx_ (by decide) (by decide +kernel)
theorem r_0_2 {G : Gt} : RHg G 0 2 = some 30 := rx_ (by decide) (by decide +kernel)
theorem r_0_3 {G : Gt} : RHg G 0 3 = some 32 := rx_ (by decide) (by decide +kernel)
theorem r_0_4 {G : Gt} : RHg G 0 4 = some 34 := rx_ (by decide) (by decide +kernel)
theorem r_0_5 {G : Gt} : RHg G 0 5 = some 52 := rx_ (by decide) (by decide +kernel)
theorem r_0_6 {G : Gt} : RHg G 0 6 = some 96 := rx_ (by decide) (by decide +kernel)
theorem r_0_7 {G : Gt} : RHg G 0 7 = some 106 := rx_ (by decide) (by decide +kernel)
theorem r_0_8 {G : Gt} : RHg G 0 8 = some 115 := rx_ (by decide) (by decide +kernel)
theorem r_0_9 {G : Gt} : RHg G 0 9 = some 137 := rx_ (by decide) (by decide +kernel)
theorem r_0_10 {G : Gt} : RHg G 0 10 = some 144 := rx_ (by decide) (by decide +kernel)
theorem r_1_1 {G : Gt} : RHg G 1 1 = some 2 := rx_ (by decide) (by decide +kernel)
theorem r_1_2 {G : Gt} : RHg G 1 2 = some 3 := rx_ (by decide) (by decide +kernel)
theorem r_1_3 {G : Gt} : RHg G 1 3 = some 4 := rx_ (by decide) (by decide +kernel)
theorem r_1_4 {G : Gt} : RHg G 1 4 = some 5 := rx_ (by decide) (by decide +kernel)
theorem r_1_5 {G : Gt} : RHg G 1 5 = some 6 := rx_ (by decide) (by decide +kernel)
theorem r_1_6 {G : Gt} : RHg G 1 6 = some 7 := rx_ (by decide) (by decide +kernel)
theorem r_1_13 {G : Gt} : RHg G 1 13 = some 8 := rx_ (by decide) (by decide +kernel)
theorem r_1_14 {G : Gt} : RHg G 1 14 = some 15 := rx_ (by decide) (by decide +kernel)
theorem r_1_15 {G : Gt} : RHg G 1 15 = some 19 := rx_ (by decide) (by decide +kernel)
theorem r_8_0 {G : Gt} : RHg G 8 0 = some 9 := rx_ (by decide) (by decide +kernel)
theorem r_8_1 {G : Gt} : RHg G 8 1 = some 10 := rx_ (by decide) (by decide +kernel)
theorem r_8_2 {G : Gt} : RHg G 8 2 = some 11 := rx_ (by decide) (by decide +kernel)
theorem r_8_3 {G : Gt} : RHg G 8 3 = some 12 := rx_ (by decide) (by decide +kernel)
theorem r_8_4 {G : Gt} : RHg G 8 4 = some 13 := rx_ (by decide) (by decide +kernel)
theorem r_8_5 {G : Gt} : RHg G 8 5 = some 14 := rx_ (by decide) (by decide +kernel)
theorem r_15_0 {G : Gt} : RHg G 15 0 = some 16 := rx_ (by decide) (by decide +kernel)
theorem r_15_1 {G : Gt} : RHg G 15 1 = some 17 := rx_ (by decide) (by decide +kernel)
theorem r_15_2 {G : Gt} : RHg G 15 2 = some 18 := rx_ (by decide) (by decide +kernel)
theorem r_19_0 {G : Gt} : RHg G 19 0 = some 20 := rx_ (by decide) (by decide +kernel)
theorem r_19_1 {G : Gt} : RHg G 19 1 = some 21 := rx_ (by decide) (by decide +kernel)
theorem r_19_2 {G : Gt} : RHg G 19 2 = some 22 := rx_ (by decide) (by decide +kernel)
theorem r_23_0 {G : Gt} : RHg G 23 0 = some 24 := rx_ (by decide) (by decide +kernel)
theorem r_23_1 {G : Gt} : RHg G 23 1 = some 25 := rx_ (by decide) (by decide +kernel)
theorem r_23_2 {G : Gt} : RHg G 23 2 = some 26 := rx_ (by decide) (by decide +kernel)
theorem r_23_3 {G : Gt} : RHg G 23 3 = some 27 := rx_ (by decide) (by decide +kernel)
theorem r_23_4 {G : Gt} : RHg G 23 4 = some 28 := rx_ (by decide) (by decide +kernel)
theorem r_23_5 {G : Gt} : RHg G 23 5 = some 29 := rx_ (by decide) (by decide +kernel)
theorem r_30_0 {G : Gt} : RHg G 30 0 = some 31 := rx_ (by decide) (by decide +kernel)
theorem r_32_0 {G : Gt} : RHg G 32 0 = some 1 := rx_ (by decide) (by decide +kernel)
theorem r_32_1 {G : Gt} : RHg G 32 1 = some 23 := rx_ (by decide) (by decide +kernel)
theorem r_32_2 {G : Gt} : RHg G 32 2 = some 30 := rx_ (by decide) (by decide +kernel)
theorem r_32_4 {G : Gt} : RHg G 32 4 = some 33 := rx_ (by decide) (by decide +kernel)
theorem r_34_0 {G : Gt} : RHg G 34 0 = some 35 := rx_ (by decide) (by decide +kernel)
theorem r_34_1 {G : Gt} : RHg G 34 1 = some 36 := rx_ (by decide) (by decide +kernel)
theorem r_34_2 {G : Gt} : RHg G 34 2 = some 37 := rx_ (by decide) (by decide +kernel)
theorem r_34_3 {G : Gt} : RHg G 34 3 = some 38 := rx_ (by decide) (by decide +kernel)
theorem r_34_4 {G : Gt} : RHg G 34 4 = some 39 := rx_ (by decide) (by decide +kernel)
theorem r_34_5 {G : Gt} : RHg G 34 5 = some 46 := rx_ (by decide) (by decide +kernel)
theorem r_34_6 {G : Gt} : RHg G 34 6 = some 50 := rx_ (by decide) (by decide +kernel)
theorem r_34_7 {G : Gt} : RHg G 34 7 = some 51 := rx_ (by decide) (by decide +kernel)
theorem r_39_0 {G : Gt} : RHg G 39 0 = some 40 := rx_ (by decide) (by decide +kernel)
theorem r_39_1 {G : Gt} : RHg G 39 1 = some 41 := rx_ (by decide) (by decide +kernel)
theorem r_39_2 {G : Gt} : RHg G 39 2 = some 42 := rx_ (by decide) (by decide +kernel)
theorem r_39_3 {G : Gt} : RHg G 39 3 = some 43 := rx_ (by decide) (by decide +kernel)
theorem r_39_4 {G : Gt} : RHg G 39 4 = some 44 := rx_ (by decide) (by decide +kernel)
theorem r_39_5 {G : Gt} : RHg G 39 5 = some 45 := rx_ (by decide) (by decide +kernel)
theorem r_46_0 {G : Gt} : RHg G 46 0 = some 47 := rx_ (by decide) (by decide +kernel)
theorem r_46_1 {G : Gt} : RHg G 46 1 = some 48 := rx_ (by decide) (by decide +kernel)
theorem r_46_2 {G : Gt} : RHg G 46 2 = some 49 := rx_ (by decide) (by decide +kernel)
theorem r_52_0 {G : Gt} : RHg G 52 0 = some 53 := rx_ (by decide) (by decide +kernel)
theorem r_53_0 {G : Gt} : RHg G 53 0 = some 54 := rx_ (by decide) (by decide +kernel)
theorem r_53_1 {G : Gt} : RHg G 53 1 = some 61 := rx_ (by decide) (by decide +kernel)
theorem r_53_2 {G : Gt} : RHg G 53 2 = some 68 := rx_ (by decide) (by decide +kernel)
theorem r_53_3 {G : Gt} : RHg G 53 3 = some 75 := rx_ (by decide) (by decide +kernel)
theorem r_53_4 {G : Gt} : RHg G 53 4 = some 82 := rx_ (by decide) (by decide +kernel)
theorem r_53_5 {G : Gt} : RHg G 53 5 = some 89 := rx_ (by decide) (by decide +kernel)
theorem r_54_0 {G : Gt} : RHg G 54 0 = some 55 := rx_ (by decide) (by decide +kernel)
theorem r_54_1 {G : Gt} : RHg G 54 1 = some 56 := rx_ (by decide) (by decide +kernel)
theorem r_54_2 {G : Gt} : RHg G 54 2 = some 57 := rx_ (by decide) (by decide +kernel)
theorem r_54_3 {G : Gt} : RHg G 54 3 = some 58 := rx_ (by decide) (by decide +kernel)
theorem r_54_4 {G : Gt} : RHg G 54 4 = some 59 := rx_ (by decide) (by decide +kernel)
theorem r_54_5 {G : Gt} : RHg G 54 5 = some 60 := rx_ (by decide) (by decide +kernel)
theorem r_61_0 {G : Gt} : RHg G 61 0 = some 62 := rx_ (by decide) (by decide +kernel)
theorem r_61_1 {G : Gt} : RHg G 61 1 = some 63 := rx_ (by decide) (by decide +kernel)
theorem r_61_2 {G : Gt} : RHg G 61 2 = some 64 := rx_ (by decide) (by decide +kernel)
theorem r_61_3 {G : Gt} : RHg G 61 3 = some 65 := rx_ (by decide) (by decide +kernel)
theorem r_61_4 {G : Gt} : RHg G 61 4 = some 66 := rx_ (by decide) (by decide +kernel)
theorem r_61_5 {G : Gt} : RHg G 61 5 = some 67 := rx_ (by decide) (by decide +kernel)
theorem r_68_0 {G : Gt} : RHg G 68 0 = some 69 := rx_ (by decide) (by decide +kernel)
theorem r_68_1 {G : Gt} : RHg G 68 1 = some 70 := rx_ (by decide) (by decide +kernel)
theorem r_68_2 {G : Gt} : RHg G 68 2 = some 71 := rx_ (by decide) (by decide +kernel)
theorem r_68_3 {G : Gt} : RHg G 68 3 = some 72 := rx_ (by decide) (by decide +kernel)
theorem r_68_4 {G : Gt} : RHg G 68 4 = some 73 := rx_ (by decide) (by decide +kernel)
theorem r_68_5 {G : Gt} : RHg G 68 5 = some 74 := rx_ (by decide) (by decide +kernel)
theorem r_75_0 {G : Gt} : RHg G 75 0 = some 76 := rx_ (by decide) (by decide +kernel)
theorem r_75_1 {G : Gt} : RHg G 75 1 = some 77 := rx_ (by decide) (by decide +kernel)
theorem r_75_2 {G : Gt} : RHg G 75 2 = some 78 := rx_ (by decide) (by decide +kernel)
theorem r_75_3 {G : Gt} : RHg G 75 3 = some 79 := rx_ (by decide) (by decide +kernel)
theorem r_75_4 {G : Gt} : RHg G 75 4 = some 80 := rx_ (by decide) (by decide +kernel)
theorem r_75_5 {G : Gt} : RHg G 75 5 = some 81 := rx_ (by decide) (by decide +kernel)
theorem r_82_0 {G : Gt} : RHg G 82 0 = some 83 := rx_ (by decide) (by decide +kernel)
theorem r_82_1 {G : Gt} : RHg G 82 1 = some 84 := rx_ (by decide) (by decide +kernel)
theorem r_82_2 {G : Gt} : RHg G 82 2 = some 85 := rx_ (by decide) (by decide +kernel)
theorem r_82_3 {G : Gt} : RHg G 82 3 = some 86 := rx_ (by decide) (by decide +kernel)
theorem r_82_4 {G : Gt} : RHg G 82 4 = some 87 := rx_ (by decide) (by decide +kernel)
theorem r_82_5 {G : Gt} : RHg G 82 5 = some 88 := rx_ (by decide) (by decide +kernel)
theorem r_89_0 {G : Gt} : RHg G 89 0 = some 90 := rx_ (by decide) (by decide +kernel)
theorem r_89_1 {G : Gt} : RHg G 89 1 = some 91 := rx_ (by decide) (by decide +kernel)
theorem r_89_2 {G : Gt} : RHg G 89 2 = some 92 := rx_ (by decide) (by decide +kernel)
theorem r_89_3 {G : Gt} : RHg G 89 3 = some 93 := rx_ (by decide) (by decide +kernel)
theorem r_89_4 {G : Gt} : RHg G 89 4 = some 94 := rx_ (by decide) (by decide +kernel)
theorem r_89_5 {G : Gt} : RHg G 89 5 = some 95 := rx_ (by decide) (by decide +kernel)
theorem r_96_0 {G : Gt} : RHg G 96 0 = some 1 := rx_ (by decide) (by decide +kernel)
theorem r_96_1 {G : Gt} : RHg G 96 1 = some 23 := rx_ (by decide) (by decide +kernel)
theorem r_96_2 {G : Gt} : RHg G 96 2 = some 97 := rx_ (by decide) (by decide +kernel)
theorem r_96_3 {G : Gt} : RHg G 96 3 = some 104 := rx_ (by decide) (by decide +kernel)
theorem r_97_0 {G : Gt} : RHg G 97 0 = some 98 := rx_ (by decide) (by decide +kernel)
theorem r_97_1 {G : Gt} : RHg G 97 1 = some 99 := rx_ (by decide) (by decide +kernel)
theorem r_97_2 {G : Gt} : RHg G 97 2 = some 100 := rx_ (by decide) (by decide +kernel)
theorem r_97_3 {G : Gt} : RHg G 97 3 = some 101 := rx_ (by decide) (by decide +kernel)
theorem r_97_4 {G : Gt} : RHg G 97 4 = some 102 := rx_ (by decide) (by decide +kernel)
theorem r_97_5 {G : Gt} : RHg G 97 5 = some 103 := rx_ (by decide) (by decide +kernel)
theorem r_104_0 {G : Gt} : RHg G 104 0 = some 1 := rx_ (by decide) (by decide +kernel)
theorem r_104_1 {G : Gt} : RHg G 104 1 = some 97 := rx_ (by decide) (by decide +kernel)
theorem r_104_2 {G : Gt} : RHg G 104 2 = some 30 := rx_ (by decide) (by decide +kernel)
theorem r_104_4 {G : Gt} : RHg G 104 4 = some 105 := rx_ (by decide) (by decide +kernel)
theorem r_106_0 {G : Gt} : RHg G 106 0 = some 1 := rx_ (by decide) (by decide +kernel)
theorem r_106_1 {G : Gt} : RHg G 106 1 = some 23 := rx_ (by decide) (by decide +kernel)
theorem r_106_2 {G : Gt} : RHg G 106 2 = some 32 := rx_ (by decide) (by decide +kernel)
theorem r_106_3 {G : Gt} : RHg G 106 3 = some 107 := rx_ (by decide) (by decide +kernel)
theorem r_106_4 {G : Gt} : RHg G 106 4 = some 108 := rx_ (by decide) (by decide +kernel)
theorem r_106_5 {G : Gt} : RHg G 106 5 = some 109 := rx_ (by decide) (by decide +kernel)
theorem r_106_6 {G : Gt} : RHg G 106 6 = some 110 := rx_ (by decide) (by decide +kernel)
theorem r_106_7 {G : Gt} : RHg G 106 7 = some 111 := rx_ (by decide) (by decide +kernel)
theorem r_106_8 {G : Gt} : RHg G 106 8 = some 112 := rx_ (by decide) (by decide +kernel)
theorem r_106_9 {G : Gt} : RHg G 106 9 = some 113 := rx_ (by decide) (by decide +kernel)
theorem r_106_10 {G : Gt} : RHg G 106 10 = some 114 := rx_ (by decide) (by decide +kernel)
theorem r_115_1 {G : Gt} : RHg G 115 1 = some 116 := rx_ (by decide) (by decide +kernel)
theorem r_115_2 {G : Gt} : RHg G 115 2 = some 117 := rx_ (by decide) (by decide +kernel)
theorem r_115_3 {G : Gt} : RHg G 115 3 = some 118 := rx_ (by decide) (by decide +kernel)
theorem r_115_4 {G : Gt} : RHg G 115 4 = some 119 := rx_ (by decide) (by decide +kernel)
theorem r_115_5 {G : Gt} : RHg G 115 5 = some 120 := rx_ (by decide) (by decide +kernel)
theorem r_115_6 {G : Gt} : RHg G 115 6 = some 121 := rx_ (by decide) (by decide +kernel)
theorem r_115_13 {G : Gt} : RHg G 115 13 = some 122 := rx_ (by decide) (by decide +kernel)
theorem r_115_14 {G : Gt} : RHg G 115 14 = some 129 := rx_ (by decide) (by decide +kernel)
theorem r_115_15 {G : Gt} : RHg G 115 15 = some 133 := rx_ (by decide) (by decide +kernel)
theorem r_122_0 {G : Gt} : RHg G 122 0 = some 123 := rx_ (by decide) (by decide +kernel)
theorem r_122_1 {G : Gt} : RHg G 122 1 = some 124 := rx_ (by decide) (by decide +kernel)
theorem r_122_2 {G : Gt} : RHg G 122 2 = some 125 := rx_ (by decide) (by decide +kernel)
theorem r_122_3 {G : Gt} : RHg G 122 3 = some 126 := rx_ (by decide) (by decide +kernel)
theorem r_122_4 {G : Gt} : RHg G 122 4 = some 127 := rx_ (by decide) (by decide +kernel)
theorem r_122_5 {G : Gt} : RHg G 122 5 = some 128 := rx_ (by decide) (by decide +kernel)
theorem r_129_0 {G : Gt} : RHg G 129 0 = some 130 := rx_ (by decide) (by decide +kernel)
theorem r_129_1 {G : Gt} : RHg G 129 1 = some 131 := rx_ (by decide) (by decide +kernel)
theorem r_129_2 {G : Gt} : RHg G 129 2 = some 132 := rx_ (by decide) (by decide +kernel)
theorem r_133_0 {G : Gt} : RHg G 133 0 = some 134 := rx_ (by decide) (by decide +kernel)
theorem r_133_1 {G : Gt} : RHg G 133 1 = some 135 := rx_ (by decide) (by decide +kernel)
theorem r_133_2 {G : Gt} : RHg G 133 2 = some 136 := rx_ (by decide) (by decide +kernel)
theorem r_137_0 {G : Gt} : RHg G 137 0 = some 138 := rx_ (by decide) (by decide +kernel)
theorem r_137_1 {G : Gt} : RHg G 137 1 = some 139 := rx_ (by decide) (by decide +kernel)
theorem r_137_2 {G : Gt} : RHg G 137 2 = some 140 := rx_ (by decide) (by decide +kernel)
theorem r_137_3 {G : Gt} : RHg G 137 3 = some 141 := rx_ (by decide) (by decide +kernel)
theorem r_137_4 {G : Gt} : RHg G 137 4 = some 142 := rx_ (by decide) (by decide +kernel)
theorem r_137_5 {G : Gt} : RHg G 137 5 = some 143 := rx_ (by decide) (by decide +kernel)
theorem r_144_0 {G : Gt} : RHg G 144 0 = some 145 := rx_ (by decide) (by decide +kernel)
