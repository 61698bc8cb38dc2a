/-- the world begins with these cells -/
def Hk (Ω : Wm) (K : List Kd) : Prop := ∃ r, Ω.2.1 = K ++ r
theorem kat {Ω : Wm} {K : List Kd} {k : Nat} {kd : Kd} (hk : Hk Ω K) (h : K[k]? = some kd) : Ω.2.1[k]? = some kd := by
  obtain ⟨r, e⟩ := hk
  rw [e, List.getElem?_append_left (List.getElem?_eq_some_iff.mp h).1]
  exact h
def kD : List Kd := [(12, 0, [some 3, some 7, some 22, some 37, some 1, some 2, none]),
  (4, 8, [some 45, some 57, some 69, some 81, some 93, some 105, some 117, some 129]),
  (0, 8, []),
  (11, 0, [some 4, some 5, some 6]),
  (0, 64, []),
  (0, 64, []),
  (0, 8, []),
  (7, 0, [some 8, some 12, some 13, some 14, some 15, some 16, some 17, some 18, some 19, some 20, none]),
  (9, 0, [some 9, some 10, some 11, none]),
  (0, 32, []),
  (0, 64, []),
  (0, 8, []),
  (0, 240, []),
  (0, 240, []),
  (0, 240, []),
  (1, 240, []),
  (0, 240, []),
  (0, 720, []),
  (0, 720, []),
  (0, 1920, []),
  (5, 0, [none, some 21]),
  (1, 32, []),
  (8, 0, [some 7, some 23, some 25, some 27, some 29, some 31, some 32, some 33, some 34, some 35, some 36, none, none, none]),
  (5, 0, [none, some 24]),
  (1, 960, []),
  (5, 0, [none, some 26]),
  (1, 960, []),
  (5, 0, [none, some 28]),
  (1, 960, []),
  (5, 0, [none, some 30]),
  (1, 32, []),
  (0, 240, []),
  (0, 240, []),
  (2, 240, []),
  (0, 8, []),
  (0, 8, []),
  (0, 8, []),
  (6, 0, [some 7, some 22, some 38, some 39, some 41, some 43, none, none]),
  (0, 240, []),
  (5, 0, [none, some 40]),
  (1, 960, []),
  (5, 0, [none, some 42]),
  (1, 960, []),
  (5, 0, [none, some 44]),
  (1, 960, []),
  (10, 0, [none, some 7, some 22, some 37, some 46, some 47, some 48, some 49, some 50, some 51, some 52, some 53, some 54, some 55, some 56, none, none, none]),
  (0, 240, []),
  (0, 240, []),
  (1, 240, []),
  (0, 240, []),
  (0, 240, []),
  (0, 8, []),
  (0, 1928, []),
  (0, 241, []),
  (0, 1928, []),
  (2, 241, []),
  (1, 8, []),
  (10, 0, [none, some 7, some 22, some 37, some 58, some 59, some 60, some 61, some 62, some 63, some 64, some 65, some 66, some 67, some 68, none, none, none]),
  (0, 240, []),
  (0, 240, []),
  (1, 240, []),
  (0, 240, []),
  (0, 240, []),
  (0, 8, []),
  (0, 1928, []),
  (0, 241, []),
  (0, 1928, []),
  (2, 241, []),
  (1, 8, []),
  (10, 0, [none, some 7, some 22, some 37, some 70, some 71, some 72, some 73, some 74, some 75, some 76, some 77, some 78, some 79, some 80, none, none, none]),
  (0, 240, []),
  (0, 240, []),
  (1, 240, []),
  (0, 240, []),
  (0, 240, []),
  (0, 8, []),
  (0, 1928, []),
  (0, 241, []),
  (0, 1928, []),
  (2, 241, []),
  (1, 8, []),
  (10, 0, [none, some 7, some 22, some 37, some 82, some 83, some 84, some 85, some 86, some 87, some 88, some 89, some 90, some 91, some 92, none, none, none]),
  (0, 240, []),
  (0, 240, []),
  (1, 240, []),
  (0, 240, []),
  (0, 240, []),
  (0, 8, []),
  (0, 1928, []),
  (0, 241, []),
  (0, 1928, []),
  (2, 241, []),
  (1, 8, []),
  (10, 0, [none, some 7, some 22, some 37, some 94, some 95, some 96, some 97, some 98, some 99, some 100, some 101, some 102, some 103, some 104, none, none, none]),
  (0, 240, []),
  (0, 240, []),
  (1, 240, []),
  (0, 240, []),
  (0, 240, []),
  (0, 8, []),
  (0, 1928, []),
  (0, 241, []),
  (0, 1928, []),
  (2, 241, []),
  (1, 8, []),
  (10, 0, [none, some 7, some 22, some 37, some 106, some 107, some 108, some 109, some 110, some 111, some 112, some 113, some 114, some 115, some 116, none, none, none]),
  (0, 240, []),
  (0, 240, []),
  (1, 240, []),
  (0, 240, []),
  (0, 240, []),
  (0, 8, []),
  (0, 1928, []),
  (0, 241, []),
  (0, 1928, []),
  (2, 241, []),
  (1, 8, []),
  (10, 0, [none, some 7, some 22, some 37, some 118, some 119, some 120, some 121, some 122, some 123, some 124, some 125, some 126, some 127, some 128, none, none, none]),
  (0, 240, []),
  (0, 240, []),
  (1, 240, []),
  (0, 240, []),
  (0, 240, []),
  (0, 8, []),
  (0, 1928, []),
  (0, 241, []),
  (0, 1928, []),
  (2, 241, []),
  (1, 8, []),
  (10, 0, [none, some 7, some 22, some 37, some 130, some 131, some 132, some 133, some 134, some 135, some 136, some 137, some 138, some 139, some 140, none, none, none]),
  (0, 240, []),
  (0, 240, []),
  (1, 240, []),
  (0, 240, []),
  (0, 240, []),
  (0, 8, []),
  (0, 1928, []),
  (0, 241, []),
  (0, 1928, []),
  (2, 241, []),
  (1, 8, [])]
theorem kD_0 : kD[0]? = some (12, 0, [some 3, some 7, some 22, some 37, some 1, some 2, none]) := rfl
theorem kD_1 : kD[1]? = some (4, 8, [some 45, some 57, some 69, some 81, some 93, some 105, some 117, some 129]) := rfl
theorem kD_2 : kD[2]? = some (0, 8, []) := rfl
theorem kD_3 : kD[3]? = some (11, 0, [some 4, some 5, some 6]) := rfl
theorem kD_4 : kD[4]? = some (0, 64, []) := rfl
theorem kD_5 : kD[5]? = some (0, 64, []) := rfl
theorem kD_6 : kD[6]? = some (0, 8, []) := rfl
theorem kD_7 : kD[7]? = some (7, 0, [some 8, some 12, some 13, some 14, some 15, some 16, some 17, some 18, some 19, some 20, none]) := rfl
theorem kD_8 : kD[8]? = some (9, 0, [some 9, some 10, some 11, none]) := rfl
theorem kD_9 : kD[9]? = some (0, 32, []) := rfl
theorem kD_10 : kD[10]? = some (0, 64, []) := rfl
theorem kD_11 : kD[11]? = some (0, 8, []) := rfl
theorem kD_12 : kD[12]? = some (0, 240, []) := rfl
theorem kD_13 : kD[13]? = some (0, 240, []) := rfl
theorem kD_14 : kD[14]? = some (0, 240, []) := rfl
theorem kD_15 : kD[15]? = some (1, 240, []) := rfl
theorem kD_16 : kD[16]? = some (0, 240, []) := rfl
theorem kD_17 : kD[17]? = some (0, 720, []) := rfl
theorem kD_18 : kD[18]? = some (0, 720, []) := rfl
theorem kD_19 : kD[19]? = some (0, 1920, []) := rfl
theorem kD_20 : kD[20]? = some (5, 0, [none, some 21]) := rfl
theorem kD_21 : kD[21]? = some (1, 32, []) := rfl
theorem kD_22 : kD[22]? = some (8, 0, [some 7, some 23, some 25, some 27, some 29, some 31, some 32, some 33, some 34, some 35, some 36, none, none, none]) := rfl
theorem kD_23 : kD[23]? = some (5, 0, [none, some 24]) := rfl
theorem kD_24 : kD[24]? = some (1, 960, []) := rfl
theorem kD_25 : kD[25]? = some (5, 0, [none, some 26]) := rfl
theorem kD_26 : kD[26]? = some (1, 960, []) := rfl
theorem kD_27 : kD[27]? = some (5, 0, [none, some 28]) := rfl
theorem kD_28 : kD[28]? = some (1, 960, []) := rfl
theorem kD_29 : kD[29]? = some (5, 0, [none, some 30]) := rfl
theorem kD_30 : kD[30]? = some (1, 32, []) := rfl
theorem kD_31 : kD[31]? = some (0, 240, []) := rfl
theorem kD_32 : kD[32]? = some (0, 240, []) := rfl
theorem kD_33 : kD[33]? = some (2, 240, []) := rfl
theorem kD_34 : kD[34]? = some (0, 8, []) := rfl
theorem kD_35 : kD[35]? = some (0, 8, []) := rfl
theorem kD_36 : kD[36]? = some (0, 8, []) := rfl
theorem kD_37 : kD[37]? = some (6, 0, [some 7, some 22, some 38, some 39, some 41, some 43, none, none]) := rfl
theorem kD_38 : kD[38]? = some (0, 240, []) := rfl
theorem kD_39 : kD[39]? = some (5, 0, [none, some 40]) := rfl
theorem kD_40 : kD[40]? = some (1, 960, []) := rfl
theorem kD_41 : kD[41]? = some (5, 0, [none, some 42]) := rfl
theorem kD_42 : kD[42]? = some (1, 960, []) := rfl
theorem kD_43 : kD[43]? = some (5, 0, [none, some 44]) := rfl
theorem kD_44 : kD[44]? = some (1, 960, []) := rfl
theorem kD_45 : kD[45]? = some (10, 0, [none, some 7, some 22, some 37, some 46, some 47, some 48, some 49, some 50, some 51, some 52, some 53, some 54, some 55, some 56, none, none, none]) := rfl
theorem kD_46 : kD[46]? = some (0, 240, []) := rfl
theorem kD_47 : kD[47]? = some (0, 240, []) := rfl
theorem kD_48 : kD[48]? = some (1, 240, []) := rfl
theorem kD_49 : kD[49]? = some (0, 240, []) := rfl
theorem kD_50 : kD[50]? = some (0, 240, []) := rfl
theorem kD_51 : kD[51]? = some (0, 8, []) := rfl
theorem kD_52 : kD[52]? = some (0, 1928, []) := rfl
theorem kD_53 : kD[53]? = some (0, 241, []) := rfl
theorem kD_54 : kD[54]? = some (0, 1928, []) := rfl
theorem kD_55 : kD[55]? = some (2, 241, []) := rfl
theorem kD_56 : kD[56]? = some (1, 8, []) := rfl
theorem kD_57 : kD[57]? = some (10, 0, [none, some 7, some 22, some 37, some 58, some 59, some 60, some 61, some 62, some 63, some 64, some 65, some 66, some 67, some 68, none, none, none]) := rfl
theorem kD_58 : kD[58]? = some (0, 240, []) := rfl
theorem kD_59 : kD[59]? = some (0, 240, []) := rfl
theorem kD_60 : kD[60]? = some (1, 240, []) := rfl
theorem kD_61 : kD[61]? = some (0, 240, []) := rfl
theorem kD_62 : kD[62]? = some (0, 240, []) := rfl
theorem kD_63 : kD[63]? = some (0, 8, []) := rfl
theorem kD_64 : kD[64]? = some (0, 1928, []) := rfl
theorem kD_65 : kD[65]? = some (0, 241, []) := rfl
theorem kD_66 : kD[66]? = some (0, 1928, []) := rfl
theorem kD_67 : kD[67]? = some (2, 241, []) := rfl
theorem kD_68 : kD[68]? = some (1, 8, []) := rfl
theorem kD_69 : kD[69]? = some (10, 0, [none, some 7, some 22, some 37, some 70, some 71, some 72, some 73, some 74, some 75, some 76, some 77, some 78, some 79, some 80, none, none, none]) := rfl
theorem kD_70 : kD[70]? = some (0, 240, []) := rfl
theorem kD_71 : kD[71]? = some (0, 240, []) := rfl
theorem kD_72 : kD[72]? = some (1, 240, []) := rfl
theorem kD_73 : kD[73]? = some (0, 240, []) := rfl
theorem kD_74 : kD[74]? = some (0, 240, []) := rfl
theorem kD_75 : kD[75]? = some (0, 8, []) := rfl
theorem kD_76 : kD[76]? = some (0, 1928, []) := rfl
theorem kD_77 : kD[77]? = some (0, 241, []) := rfl
theorem kD_78 : kD[78]? = some (0, 1928, []) := rfl
theorem kD_79 : kD[79]? = some (2, 241, []) := rfl
theorem kD_80 : kD[80]? = some (1, 8, []) := rfl
theorem kD_81 : kD[81]? = some (10, 0, [none, some 7, some 22, some 37, some 82, some 83, some 84, some 85, some 86, some 87, some 88, some 89, some 90, some 91, some 92, none, none, none]) := rfl
theorem kD_82 : kD[82]? = some (0, 240, []) := rfl
theorem kD_83 : kD[83]? = some (0, 240, []) := rfl
theorem kD_84 : kD[84]? = some (1, 240, []) := rfl
theorem kD_85 : kD[85]? = some (0, 240, []) := rfl
theorem kD_86 : kD[86]? = some (0, 240, []) := rfl
theorem kD_87 : kD[87]? = some (0, 8, []) := rfl
theorem kD_88 : kD[88]? = some (0, 1928, []) := rfl
theorem kD_89 : kD[89]? = some (0, 241, []) := rfl
theorem kD_90 : kD[90]? = some (0, 1928, []) := rfl
theorem kD_91 : kD[91]? = some (2, 241, []) := rfl
theorem kD_92 : kD[92]? = some (1, 8, []) := rfl
theorem kD_93 : kD[93]? = some (10, 0, [none, some 7, some 22, some 37, some 94, some 95, some 96, some 97, some 98, some 99, some 100, some 101, some 102, some 103, some 104, none, none, none]) := rfl
theorem kD_94 : kD[94]? = some (0, 240, []) := rfl
theorem kD_95 : kD[95]? = some (0, 240, []) := rfl
theorem kD_96 : kD[96]? = some (1, 240, []) := rfl
theorem kD_97 : kD[97]? = some (0, 240, []) := rfl
theorem kD_98 : kD[98]? = some (0, 240, []) := rfl
theorem kD_99 : kD[99]? = some (0, 8, []) := rfl
theorem kD_100 : kD[100]? = some (0, 1928, []) := rfl
theorem kD_101 : kD[101]? = some (0, 241, []) := rfl
theorem kD_102 : kD[102]? = some (0, 1928, []) := rfl
theorem kD_103 : kD[103]? = some (2, 241, []) := rfl
theorem kD_104 : kD[104]? = some (1, 8, []) := rfl
theorem kD_105 : kD[105]? = some (10, 0, [none, some 7, some 22, some 37, some 106, some 107, some 108, some 109, some 110, some 111, some 112, some 113, some 114, some 115, some 116, none, none, none]) := rfl
theorem kD_106 : kD[106]? = some (0, 240, []) := rfl
theorem kD_107 : kD[107]? = some (0, 240, []) := rfl
theorem kD_108 : kD[108]? = some (1, 240, []) := rfl
theorem kD_109 : kD[109]? = some (0, 240, []) := rfl
theorem kD_110 : kD[110]? = some (0, 240, []) := rfl
theorem kD_111 : kD[111]? = some (0, 8, []) := rfl
theorem kD_112 : kD[112]? = some (0, 1928, []) := rfl
theorem kD_113 : kD[113]? = some (0, 241, []) := rfl
theorem kD_114 : kD[114]? = some (0, 1928, []) := rfl
theorem kD_115 : kD[115]? = some (2, 241, []) := rfl
theorem kD_116 : kD[116]? = some (1, 8, []) := rfl
theorem kD_117 : kD[117]? = some (10, 0, [none, some 7, some 22, some 37, some 118, some 119, some 120, some 121, some 122, some 123, some 124, some 125, some 126, some 127, some 128, none, none, none]) := rfl
theorem kD_118 : kD[118]? = some (0, 240, []) := rfl
theorem kD_119 : kD[119]? = some (0, 240, []) := rfl
theorem kD_120 : kD[120]? = some (1, 240, []) := rfl
theorem kD_121 : kD[121]? = some (0, 240, []) := rfl
theorem kD_122 : kD[122]? = some (0, 240, []) := rfl
theorem kD_123 : kD[123]? = some (0, 8, []) := rfl
theorem kD_124 : kD[124]? = some (0, 1928, []) := rfl
theorem kD_125 : kD[125]? = some (0, 241, []) := rfl
theorem kD_126 : kD[126]? = some (0, 1928, []) := rfl
theorem kD_127 : kD[127]? = some (2, 241, []) := rfl
theorem kD_128 : kD[128]? = some (1, 8, []) := rfl
theorem kD_129 : kD[129]? = some (10, 0, [none, some 7, some 22, some 37, some 130, some 131, some 132, some 133, some 134, some 135, some 136, some 137, some 138, some 139, some 140, none, none, none]) := rfl
theorem kD_130 : kD[130]? = some (0, 240, []) := rfl
theorem kD_131 : kD[131]? = some (0, 240, []) := rfl
theorem kD_132 : kD[132]? = some (1, 240, []) := rfl
theorem kD_133 : kD[133]? = some (0, 240, []) := rfl
theorem kD_134 : kD[134]? = some (0, 240, []) := rfl
theorem kD_135 : kD[135]? = some (0, 8, []) := rfl
theorem kD_136 : kD[136]? = some (0, 1928, []) := rfl
theorem kD_137 : kD[137]? = some (0, 241, []) := rfl
theorem kD_138 : kD[138]? = some (0, 1928, []) := rfl
theorem kD_139 : kD[139]? = some (2, 241, []) := rfl
theorem kD_140 : kD[140]? = some (1, 8, []) := rfl
def kM : List Kd := [(13, 0, [none, none, none, some 1, some 2, some 3, some 4, some 5, some 6, some 7, some 8, some 9, some 10, some 11, some 12, some 13, some 14, some 15, some 16, some 17, some 18, some 19, none, none, none, some 20, some 21, some 22, some 23, some 24, some 25, some 26, some 27, some 28, some 29, some 30, none, some 31, some 32]),
  (0, 240, []),
  (0, 240, []),
  (0, 240, []),
  (0, 240, []),
  (0, 720, []),
  (0, 720, []),
  (0, 240, []),
  (0, 1920, []),
  (0, 8, []),
  (0, 8, []),
  (0, 64, []),
  (0, 64, []),
  (1, 240, []),
  (2, 57600, []),
  (2, 1920, []),
  (2, 1920, []),
  (2, 240, []),
  (3, 57600, []),
  (3, 57600, []),
  (0, 240, []),
  (0, 240, []),
  (0, 240, []),
  (0, 240, []),
  (0, 8, []),
  (0, 8, []),
  (1, 240, []),
  (1, 240, []),
  (0, 128, []),
  (0, 64, []),
  (0, 64, []),
  (0, 8, []),
  (0, 8, [])]
theorem kM_0 : kM[0]? = some (13, 0, [none, none, none, some 1, some 2, some 3, some 4, some 5, some 6, some 7, some 8, some 9, some 10, some 11, some 12, some 13, some 14, some 15, some 16, some 17, some 18, some 19, none, none, none, some 20, some 21, some 22, some 23, some 24, some 25, some 26, some 27, some 28, some 29, some 30, none, some 31, some 32]) := rfl
theorem kM_1 : kM[1]? = some (0, 240, []) := rfl
theorem kM_2 : kM[2]? = some (0, 240, []) := rfl
theorem kM_3 : kM[3]? = some (0, 240, []) := rfl
theorem kM_4 : kM[4]? = some (0, 240, []) := rfl
theorem kM_5 : kM[5]? = some (0, 720, []) := rfl
theorem kM_6 : kM[6]? = some (0, 720, []) := rfl
theorem kM_7 : kM[7]? = some (0, 240, []) := rfl
theorem kM_8 : kM[8]? = some (0, 1920, []) := rfl
theorem kM_9 : kM[9]? = some (0, 8, []) := rfl
theorem kM_10 : kM[10]? = some (0, 8, []) := rfl
theorem kM_11 : kM[11]? = some (0, 64, []) := rfl
theorem kM_12 : kM[12]? = some (0, 64, []) := rfl
theorem kM_13 : kM[13]? = some (1, 240, []) := rfl
theorem kM_14 : kM[14]? = some (2, 57600, []) := rfl
theorem kM_15 : kM[15]? = some (2, 1920, []) := rfl
theorem kM_16 : kM[16]? = some (2, 1920, []) := rfl
theorem kM_17 : kM[17]? = some (2, 240, []) := rfl
theorem kM_18 : kM[18]? = some (3, 57600, []) := rfl
theorem kM_19 : kM[19]? = some (3, 57600, []) := rfl
theorem kM_20 : kM[20]? = some (0, 240, []) := rfl
theorem kM_21 : kM[21]? = some (0, 240, []) := rfl
theorem kM_22 : kM[22]? = some (0, 240, []) := rfl
theorem kM_23 : kM[23]? = some (0, 240, []) := rfl
theorem kM_24 : kM[24]? = some (0, 8, []) := rfl
theorem kM_25 : kM[25]? = some (0, 8, []) := rfl
theorem kM_26 : kM[26]? = some (1, 240, []) := rfl
theorem kM_27 : kM[27]? = some (1, 240, []) := rfl
theorem kM_28 : kM[28]? = some (0, 128, []) := rfl
theorem kM_29 : kM[29]? = some (0, 64, []) := rfl
theorem kM_30 : kM[30]? = some (0, 64, []) := rfl
theorem kM_31 : kM[31]? = some (0, 8, []) := rfl
theorem kM_32 : kM[32]? = some (0, 8, []) := rfl
def IsBT (t n : Nat) : Prop := kD[t]? = some (5, 0, [none, some (t + 1)]) ∧ kD[t + 1]? = some (1, n, [])
theorem bt_20 : IsBT 20 32 := ⟨rfl, rfl⟩
theorem bt_23 : IsBT 23 960 := ⟨rfl, rfl⟩
theorem bt_25 : IsBT 25 960 := ⟨rfl, rfl⟩
theorem bt_27 : IsBT 27 960 := ⟨rfl, rfl⟩
theorem bt_29 : IsBT 29 32 := ⟨rfl, rfl⟩
theorem bt_39 : IsBT 39 960 := ⟨rfl, rfl⟩
theorem bt_41 : IsBT 41 960 := ⟨rfl, rfl⟩
theorem bt_43 : IsBT 43 960 := ⟨rfl, rfl⟩
def IsView (v : Nat) : Prop := ∃ i : Nat, i < 8 ∧ v = 45 + 12 * i
theorem vw_0 {v : Nat} (h : IsView v) : kD[v]? = some (10, 0, [none, some 7, some 22, some 37, some (v + 1), some (v + 2), some (v + 3), some (v + 4), some (v + 5), some (v + 6), some (v + 7), some (v + 8), some (v + 9), some (v + 10), some (v + 11), none, none, none]) := by
  obtain ⟨i, hi, rfl⟩ := h
  match i, hi with
  | 0, _ => rfl
  | 1, _ => rfl
  | 2, _ => rfl
  | 3, _ => rfl
  | 4, _ => rfl
  | 5, _ => rfl
  | 6, _ => rfl
  | 7, _ => rfl
  | i + 8, h => exact absurd h (by omega)
theorem vw_1 {v : Nat} (h : IsView v) : kD[v + 1]? = some (0, 240, []) := by
  obtain ⟨i, hi, rfl⟩ := h
  match i, hi with
  | 0, _ => rfl
  | 1, _ => rfl
  | 2, _ => rfl
  | 3, _ => rfl
  | 4, _ => rfl
  | 5, _ => rfl
  | 6, _ => rfl
  | 7, _ => rfl
  | i + 8, h => exact absurd h (by omega)
theorem vw_2 {v : Nat} (h : IsView v) : kD[v + 2]? = some (0, 240, []) := by
  obtain ⟨i, hi, rfl⟩ := h
  match i, hi with
  | 0, _ => rfl
  | 1, _ => rfl
  | 2, _ => rfl
  | 3, _ => rfl
  | 4, _ => rfl
  | 5, _ => rfl
  | 6, _ => rfl
  | 7, _ => rfl
  | i + 8, h => exact absurd h (by omega)
theorem vw_3 {v : Nat} (h : IsView v) : kD[v + 3]? = some (1, 240, []) := by
  obtain ⟨i, hi, rfl⟩ := h
  match i, hi with
  | 0, _ => rfl
  | 1, _ => rfl
  | 2, _ => rfl
  | 3, _ => rfl
  | 4, _ => rfl
  | 5, _ => rfl
  | 6, _ => rfl
  | 7, _ => rfl
  | i + 8, h => exact absurd h (by omega)
theorem vw_4 {v : Nat} (h : IsView v) : kD[v + 4]? = some (0, 240, []) := by
  obtain ⟨i, hi, rfl⟩ := h
  match i, hi with
  | 0, _ => rfl
  | 1, _ => rfl
  | 2, _ => rfl
  | 3, _ => rfl
  | 4, _ => rfl
  | 5, _ => rfl
  | 6, _ => rfl
  | 7, _ => rfl
  | i + 8, h => exact absurd h (by omega)
theorem vw_5 {v : Nat} (h : IsView v) : kD[v + 5]? = some (0, 240, []) := by
  obtain ⟨i, hi, rfl⟩ := h
  match i, hi with
  | 0, _ => rfl
  | 1, _ => rfl
  | 2, _ => rfl
  | 3, _ => rfl
  | 4, _ => rfl
  | 5, _ => rfl
  | 6, _ => rfl
  | 7, _ => rfl
  | i + 8, h => exact absurd h (by omega)
theorem vw_6 {v : Nat} (h : IsView v) : kD[v + 6]? = some (0, 8, []) := by
  obtain ⟨i, hi, rfl⟩ := h
  match i, hi with
  | 0, _ => rfl
  | 1, _ => rfl
  | 2, _ => rfl
  | 3, _ => rfl
  | 4, _ => rfl
  | 5, _ => rfl
  | 6, _ => rfl
  | 7, _ => rfl
  | i + 8, h => exact absurd h (by omega)
theorem vw_7 {v : Nat} (h : IsView v) : kD[v + 7]? = some (0, 1928, []) := by
  obtain ⟨i, hi, rfl⟩ := h
  match i, hi with
  | 0, _ => rfl
  | 1, _ => rfl
  | 2, _ => rfl
  | 3, _ => rfl
  | 4, _ => rfl
  | 5, _ => rfl
  | 6, _ => rfl
  | 7, _ => rfl
  | i + 8, h => exact absurd h (by omega)
theorem vw_8 {v : Nat} (h : IsView v) : kD[v + 8]? = some (0, 241, []) := by
  obtain ⟨i, hi, rfl⟩ := h
  match i, hi with
  | 0, _ => rfl
  | 1, _ => rfl
  | 2, _ => rfl
  | 3, _ => rfl
  | 4, _ => rfl
  | 5, _ => rfl
  | 6, _ => rfl
  | 7, _ => rfl
  | i + 8, h => exact absurd h (by omega)
theorem vw_9 {v : Nat} (h : IsView v) : kD[v + 9]? = some (0, 1928, []) := by
  obtain ⟨i, hi, rfl⟩ := h
  match i, hi with
  | 0, _ => rfl
  | 1, _ => rfl
  | 2, _ => rfl
  | 3, _ => rfl
  | 4, _ => rfl
  | 5, _ => rfl
  | 6, _ => rfl
  | 7, _ => rfl
  | i + 8, h => exact absurd h (by omega)
theorem vw_10 {v : Nat} (h : IsView v) : kD[v + 10]? = some (2, 241, []) := by
  obtain ⟨i, hi, rfl⟩ := h
  match i, hi with
  | 0, _ => rfl
  | 1, _ => rfl
  | 2, _ => rfl
  | 3, _ => rfl
  | 4, _ => rfl
  | 5, _ => rfl
  | 6, _ => rfl
  | 7, _ => rfl
  | i + 8, h => exact absurd h (by omega)
theorem vw_11 {v : Nat} (h : IsView v) : kD[v + 11]? = some (1, 8, []) := by
  obtain ⟨i, hi, rfl⟩ := h
  match i, hi with
  | 0, _ => rfl
  | 1, _ => rfl
  | 2, _ => rfl
  | 3, _ => rfl
  | 4, _ => rfl
  | 5, _ => rfl
  | 6, _ => rfl
  | 7, _ => rfl
  | i + 8, h => exact absurd h (by omega)
theorem vw_el {i : Int32} (g : vp_in i 8) : ([some 45, some 57, some 69, some 81, some 93, some 105, some 117, some 129] : List (Option Nat)).getD i.toNatClampNeg none = some (45 + 12 * i.toNatClampNeg) := by
  have h : i.toNatClampNeg < 8 := Nat.not_le.mp fun q => g (Or.inr q)
  generalize i.toNatClampNeg = j at h
  match j, h with
  | 0, _ => rfl
  | 1, _ => rfl
  | 2, _ => rfl
  | 3, _ => rfl
  | 4, _ => rfl
  | 5, _ => rfl
  | 6, _ => rfl
  | 7, _ => rfl
  | j + 8, h => exact absurd h (by omega)
theorem vw_of {i : Int32} (g : vp_in i 8) : IsView (45 + 12 * i.toNatClampNeg) := ⟨_, Nat.not_le.mp fun q => g (Or.inr q), rfl⟩
def nneg (x : Int32) : Prop := ¬ x < 0
def isZ (x : Int32) : Prop := x = 0 ∨ x = 1
theorem isZ_0 : isZ 0 := Or.inl rfl
theorem isZ_1 : isZ 1 := Or.inr rfl
theorem bz_n {x : Int32} (z : isZ x) : narrow .boolean (.int x) = .int x := by rcases z with rfl | rfl <;> rfl
theorem bz_f {x : Int32} (z : isZ x) : fits .boolean (.int x) = true := by rcases z with rfl | rfl <;> rfl
theorem bz_v {x : Int32} (z : isZ x) : vp_nar .boolean x = x := by rcases z with rfl | rfl <;> rfl
theorem bz_s {Γ : Gm} {Ω : Wm} {nL pc : Nat} {L : List (Nat × Value)} {st : List Value} {σ : Sg} {q i : Nat} {x : Int32} (z : isZ x) (k : OK Γ Ω nL pc L st (pI σ q i x)) : OK Γ Ω nL pc L st (pI σ q i (vp_nar .boolean x)) := by rw [bz_v z]; exact k
theorem nbf_0 : ("HashgraphDesk", (76 : Nat), "HashgraphDesk$Waiting", "length", "[I", "HashgraphDesk") ∈ NBf := List.mem_of_getElem? (i := 0) rfl
theorem nbf_1 : ("HashgraphDesk$Graph", (103 : Nat), "HashgraphDesk$Events", "creator", "[I", "HashgraphDesk") ∈ NBf := List.mem_of_getElem? (i := 1) rfl
theorem nbf_2 : ("HashgraphDesk", (109 : Nat), "HashgraphDesk$Events", "creator", "[I", "HashgraphDesk") ∈ NBf := List.mem_of_getElem? (i := 2) rfl
theorem nbf_3 : ("HashgraphDesk$View", (138 : Nat), "HashgraphDesk$Events", "creator", "[I", "HashgraphDesk") ∈ NBf := List.mem_of_getElem? (i := 3) rfl
theorem nbf_4 : ("HashgraphDesk$Graph", (84 : Nat), "HashgraphDesk$Events", "self", "[I", "HashgraphDesk") ∈ NBf := List.mem_of_getElem? (i := 4) rfl
theorem nbf_5 : ("HashgraphDesk", (122 : Nat), "HashgraphDesk$Events", "self", "[I", "HashgraphDesk") ∈ NBf := List.mem_of_getElem? (i := 5) rfl
theorem nbf_6 : ("HashgraphDesk$View", (180 : Nat), "HashgraphDesk$Events", "self", "[I", "HashgraphDesk") ∈ NBf := List.mem_of_getElem? (i := 6) rfl
theorem nbf_7 : ("HashgraphDesk$Graph", (89 : Nat), "HashgraphDesk$Events", "other", "[I", "HashgraphDesk") ∈ NBf := List.mem_of_getElem? (i := 7) rfl
theorem nbf_8 : ("HashgraphDesk", (125 : Nat), "HashgraphDesk$Events", "other", "[I", "HashgraphDesk") ∈ NBf := List.mem_of_getElem? (i := 8) rfl
theorem nbf_9 : ("HashgraphDesk$View", (174 : Nat), "HashgraphDesk$Events", "time", "[J", "HashgraphDesk") ∈ NBf := List.mem_of_getElem? (i := 9) rfl
theorem nbf_10 : ("HashgraphDesk", (135 : Nat), "HashgraphDesk$Events", "transactions", "[I", "HashgraphDesk") ∈ NBf := List.mem_of_getElem? (i := 10) rfl
theorem nbf_11 : ("HashgraphDesk$View", (199 : Nat), "HashgraphDesk$Events", "transactions", "[I", "HashgraphDesk") ∈ NBf := List.mem_of_getElem? (i := 11) rfl
theorem nbf_12 : ("HashgraphDesk$View", (202 : Nat), "HashgraphDesk$Events", "to", "[I", "HashgraphDesk") ∈ NBf := List.mem_of_getElem? (i := 12) rfl
theorem nbf_13 : ("HashgraphDesk$View", (205 : Nat), "HashgraphDesk$Events", "amount", "[I", "HashgraphDesk") ∈ NBf := List.mem_of_getElem? (i := 13) rfl
theorem nbf_14 : ("HashgraphDesk$View", (86 : Nat), "HashgraphDesk$Events", "holdings", "LHashgraphDesk$BitTable;", "HashgraphDesk") ∈ NBf := List.mem_of_getElem? (i := 14) rfl
theorem nbf_15 : ("HashgraphDesk", (82 : Nat), "HashgraphDesk$Events", "holdings", "LHashgraphDesk$BitTable;", "HashgraphDesk") ∈ NBf := List.mem_of_getElem? (i := 15) rfl
theorem nbf_16 : ("HashgraphDesk$View", (157 : Nat), "HashgraphDesk$Events", "size", "I", "HashgraphDesk") ∈ NBf := List.mem_of_getElem? (i := 16) rfl
theorem nbf_17 : ("HashgraphDesk", (198 : Nat), "HashgraphDesk$Events", "size", "I", "HashgraphDesk") ∈ NBf := List.mem_of_getElem? (i := 17) rfl
theorem nbf_18 : ("HashgraphDesk", (142 : Nat), "HashgraphDesk$Graph", "ancestors", "LHashgraphDesk$BitTable;", "HashgraphDesk") ∈ NBf := List.mem_of_getElem? (i := 18) rfl
theorem nbf_19 : ("HashgraphDesk$View", (171 : Nat), "HashgraphDesk$Graph", "ancestors", "LHashgraphDesk$BitTable;", "HashgraphDesk") ∈ NBf := List.mem_of_getElem? (i := 19) rfl
theorem nbf_20 : ("HashgraphDesk$Election", (74 : Nat), "HashgraphDesk$Graph", "seen", "LHashgraphDesk$BitTable;", "HashgraphDesk") ∈ NBf := List.mem_of_getElem? (i := 20) rfl
theorem nbf_21 : ("HashgraphDesk", (157 : Nat), "HashgraphDesk$Graph", "seen", "LHashgraphDesk$BitTable;", "HashgraphDesk") ∈ NBf := List.mem_of_getElem? (i := 21) rfl
theorem nbf_22 : ("HashgraphDesk$Election", (68 : Nat), "HashgraphDesk$Graph", "stronglySeen", "LHashgraphDesk$BitTable;", "HashgraphDesk") ∈ NBf := List.mem_of_getElem? (i := 22) rfl
theorem nbf_23 : ("HashgraphDesk", (151 : Nat), "HashgraphDesk$Graph", "stronglySeen", "LHashgraphDesk$BitTable;", "HashgraphDesk") ∈ NBf := List.mem_of_getElem? (i := 23) rfl
theorem nbf_24 : ("HashgraphDesk$View", (123 : Nat), "HashgraphDesk$Graph", "round", "[I", "HashgraphDesk") ∈ NBf := List.mem_of_getElem? (i := 24) rfl
theorem nbf_25 : ("HashgraphDesk$Election", (61 : Nat), "HashgraphDesk$Graph", "round", "[I", "HashgraphDesk") ∈ NBf := List.mem_of_getElem? (i := 25) rfl
theorem nbf_26 : ("HashgraphDesk", (128 : Nat), "HashgraphDesk$Graph", "round", "[I", "HashgraphDesk") ∈ NBf := List.mem_of_getElem? (i := 26) rfl
theorem nbf_27 : ("HashgraphDesk$Election", (49 : Nat), "HashgraphDesk$Graph", "witness", "[Z", "HashgraphDesk") ∈ NBf := List.mem_of_getElem? (i := 27) rfl
theorem nbf_28 : ("HashgraphDesk", (131 : Nat), "HashgraphDesk$Graph", "witness", "[Z", "HashgraphDesk") ∈ NBf := List.mem_of_getElem? (i := 28) rfl
theorem nbf_29 : ("HashgraphDesk", (203 : Nat), "HashgraphDesk$Graph", "forks", "I", "HashgraphDesk") ∈ NBf := List.mem_of_getElem? (i := 29) rfl
theorem nbf_30 : ("HashgraphDesk$View", (165 : Nat), "HashgraphDesk$Graph", "greatestRound", "I", "HashgraphDesk") ∈ NBf := List.mem_of_getElem? (i := 30) rfl
theorem nbf_31 : ("HashgraphDesk", (200 : Nat), "HashgraphDesk$Graph", "greatestRound", "I", "HashgraphDesk") ∈ NBf := List.mem_of_getElem? (i := 31) rfl
theorem nbf_32 : ("HashgraphDesk$View", (109 : Nat), "HashgraphDesk$Election", "witnesses", "[I", "HashgraphDesk") ∈ NBf := List.mem_of_getElem? (i := 32) rfl
theorem nbf_33 : ("HashgraphDesk$View", (104 : Nat), "HashgraphDesk$Election", "size", "I", "HashgraphDesk") ∈ NBf := List.mem_of_getElem? (i := 33) rfl
theorem nbf_34 : ("HashgraphDesk", (170 : Nat), "HashgraphDesk$View", "fame", "[I", "HashgraphDesk") ∈ NBf := List.mem_of_getElem? (i := 34) rfl
theorem nbf_35 : ("HashgraphDesk", (173 : Nat), "HashgraphDesk$View", "received", "[I", "HashgraphDesk") ∈ NBf := List.mem_of_getElem? (i := 35) rfl
theorem nbf_36 : ("HashgraphDesk", (182 : Nat), "HashgraphDesk$View", "stamps", "[J", "HashgraphDesk") ∈ NBf := List.mem_of_getElem? (i := 36) rfl
theorem nbf_37 : ("HashgraphDesk", (176 : Nat), "HashgraphDesk$View", "place", "[I", "HashgraphDesk") ∈ NBf := List.mem_of_getElem? (i := 37) rfl
theorem nbf_38 : ("HashgraphDesk", (189 : Nat), "HashgraphDesk$View", "sequence", "[I", "HashgraphDesk") ∈ NBf := List.mem_of_getElem? (i := 38) rfl
theorem nbf_39 : ("HashgraphDesk", (192 : Nat), "HashgraphDesk$View", "balances", "[I", "HashgraphDesk") ∈ NBf := List.mem_of_getElem? (i := 39) rfl
theorem nbf_40 : ("HashgraphDesk", (186 : Nat), "HashgraphDesk$View", "length", "I", "HashgraphDesk") ∈ NBf := List.mem_of_getElem? (i := 40) rfl
theorem nbf_41 : ("HashgraphDesk", (206 : Nat), "HashgraphDesk$View", "settledRounds", "I", "HashgraphDesk") ∈ NBf := List.mem_of_getElem? (i := 41) rfl
theorem nbf_42 : ("HashgraphDesk", (246 : Nat), "HashgraphDesk$View", "stale", "Z", "HashgraphDesk") ∈ NBf := List.mem_of_getElem? (i := 42) rfl
theorem nbm_0 : ("HashgraphDesk", 9, yX6_init, "HashgraphDesk") ∈ NBm := List.mem_of_getElem? (i := 0) rfl
theorem nbm_1 : ("HashgraphDesk", 18, yX2_init, "HashgraphDesk") ∈ NBm := List.mem_of_getElem? (i := 1) rfl
theorem nbm_2 : ("HashgraphDesk$Events", 11, yX4_init, "HashgraphDesk") ∈ NBm := List.mem_of_getElem? (i := 2) rfl
theorem nbm_3 : ("HashgraphDesk$Graph", 130, yX7_isMost, "HashgraphDesk") ∈ NBm := List.mem_of_getElem? (i := 3) rfl
theorem nbm_4 : ("HashgraphDesk$Election", 94, yX7_isMost, "HashgraphDesk") ∈ NBm := List.mem_of_getElem? (i := 4) rfl
theorem hd_X7_init : yX7_init.cls ≠ "java/lang/invoke/MethodHandle" ∧ yX7_init.cls ≠ "java/lang/invoke/VarHandle" ∧ (parseMethodDescriptor yX7_init.desc).map (fun d => d.parameters.length) = some 0 := by decide +kernel
theorem hd_X7_begin : yX7_begin.cls ≠ "java/lang/invoke/MethodHandle" ∧ yX7_begin.cls ≠ "java/lang/invoke/VarHandle" ∧ (parseMethodDescriptor yX7_begin.desc).map (fun d => d.parameters.length) = some 1 := by decide +kernel
theorem hd_X7_submit : yX7_submit.cls ≠ "java/lang/invoke/MethodHandle" ∧ yX7_submit.cls ≠ "java/lang/invoke/VarHandle" ∧ (parseMethodDescriptor yX7_submit.desc).map (fun d => d.parameters.length) = some 3 := by decide +kernel
theorem hd_X7_sync : yX7_sync.cls ≠ "java/lang/invoke/MethodHandle" ∧ yX7_sync.cls ≠ "java/lang/invoke/VarHandle" ∧ (parseMethodDescriptor yX7_sync.desc).map (fun d => d.parameters.length) = some 3 := by decide +kernel
theorem hd_X7_inject : yX7_inject.cls ≠ "java/lang/invoke/MethodHandle" ∧ yX7_inject.cls ≠ "java/lang/invoke/VarHandle" ∧ (parseMethodDescriptor yX7_inject.desc).map (fun d => d.parameters.length) = some 5 := by decide +kernel
theorem hd_X7_event : yX7_event.cls ≠ "java/lang/invoke/MethodHandle" ∧ yX7_event.cls ≠ "java/lang/invoke/VarHandle" ∧ (parseMethodDescriptor yX7_event.desc).map (fun d => d.parameters.length) = some 2 := by decide +kernel
theorem hd_X7_hash : yX7_hash.cls ≠ "java/lang/invoke/MethodHandle" ∧ yX7_hash.cls ≠ "java/lang/invoke/VarHandle" ∧ (parseMethodDescriptor yX7_hash.desc).map (fun d => d.parameters.length) = some 2 := by decide +kernel
theorem hd_X7_sees : yX7_sees.cls ≠ "java/lang/invoke/MethodHandle" ∧ yX7_sees.cls ≠ "java/lang/invoke/VarHandle" ∧ (parseMethodDescriptor yX7_sees.desc).map (fun d => d.parameters.length) = some 3 := by decide +kernel
theorem hd_X7_vote : yX7_vote.cls ≠ "java/lang/invoke/MethodHandle" ∧ yX7_vote.cls ≠ "java/lang/invoke/VarHandle" ∧ (parseMethodDescriptor yX7_vote.desc).map (fun d => d.parameters.length) = some 2 := by decide +kernel
theorem hd_X7_found : yX7_found.cls ≠ "java/lang/invoke/MethodHandle" ∧ yX7_found.cls ≠ "java/lang/invoke/VarHandle" ∧ (parseMethodDescriptor yX7_found.desc).map (fun d => d.parameters.length) = some 3 := by decide +kernel
theorem hd_X7_stamp : yX7_stamp.cls ≠ "java/lang/invoke/MethodHandle" ∧ yX7_stamp.cls ≠ "java/lang/invoke/VarHandle" ∧ (parseMethodDescriptor yX7_stamp.desc).map (fun d => d.parameters.length) = some 2 := by decide +kernel
theorem hd_X7_order : yX7_order.cls ≠ "java/lang/invoke/MethodHandle" ∧ yX7_order.cls ≠ "java/lang/invoke/VarHandle" ∧ (parseMethodDescriptor yX7_order.desc).map (fun d => d.parameters.length) = some 1 := by decide +kernel
theorem hd_X7_at : yX7_at.cls ≠ "java/lang/invoke/MethodHandle" ∧ yX7_at.cls ≠ "java/lang/invoke/VarHandle" ∧ (parseMethodDescriptor yX7_at.desc).map (fun d => d.parameters.length) = some 2 := by decide +kernel
theorem hd_X7_balance : yX7_balance.cls ≠ "java/lang/invoke/MethodHandle" ∧ yX7_balance.cls ≠ "java/lang/invoke/VarHandle" ∧ (parseMethodDescriptor yX7_balance.desc).map (fun d => d.parameters.length) = some 2 := by decide +kernel
theorem hd_X7_count : yX7_count.cls ≠ "java/lang/invoke/MethodHandle" ∧ yX7_count.cls ≠ "java/lang/invoke/VarHandle" ∧ (parseMethodDescriptor yX7_count.desc).map (fun d => d.parameters.length) = some 1 := by decide +kernel
theorem hd_X7_startAnew : yX7_startAnew.cls ≠ "java/lang/invoke/MethodHandle" ∧ yX7_startAnew.cls ≠ "java/lang/invoke/VarHandle" ∧ (parseMethodDescriptor yX7_startAnew.desc).map (fun d => d.parameters.length) = some 1 := by decide +kernel
theorem hd_X7_makeEvent : yX7_makeEvent.cls ≠ "java/lang/invoke/MethodHandle" ∧ yX7_makeEvent.cls ≠ "java/lang/invoke/VarHandle" ∧ (parseMethodDescriptor yX7_makeEvent.desc).map (fun d => d.parameters.length) = some 5 := by decide +kernel
theorem hd_X7_give : yX7_give.cls ≠ "java/lang/invoke/MethodHandle" ∧ yX7_give.cls ≠ "java/lang/invoke/VarHandle" ∧ (parseMethodDescriptor yX7_give.desc).map (fun d => d.parameters.length) = some 2 := by decide +kernel
theorem hd_X7_freshView : yX7_freshView.cls ≠ "java/lang/invoke/MethodHandle" ∧ yX7_freshView.cls ≠ "java/lang/invoke/VarHandle" ∧ (parseMethodDescriptor yX7_freshView.desc).map (fun d => d.parameters.length) = some 1 := by decide +kernel
theorem hd_X7_isNode : yX7_isNode.cls ≠ "java/lang/invoke/MethodHandle" ∧ yX7_isNode.cls ≠ "java/lang/invoke/VarHandle" ∧ (parseMethodDescriptor yX7_isNode.desc).map (fun d => d.parameters.length) = some 1 := by decide +kernel
theorem hd_X7_isEvent : yX7_isEvent.cls ≠ "java/lang/invoke/MethodHandle" ∧ yX7_isEvent.cls ≠ "java/lang/invoke/VarHandle" ∧ (parseMethodDescriptor yX7_isEvent.desc).map (fun d => d.parameters.length) = some 1 := by decide +kernel
theorem hd_X7_isHeld : yX7_isHeld.cls ≠ "java/lang/invoke/MethodHandle" ∧ yX7_isHeld.cls ≠ "java/lang/invoke/VarHandle" ∧ (parseMethodDescriptor yX7_isHeld.desc).map (fun d => d.parameters.length) = some 2 := by decide +kernel
theorem hd_X7_isMost : yX7_isMost.cls ≠ "java/lang/invoke/MethodHandle" ∧ yX7_isMost.cls ≠ "java/lang/invoke/VarHandle" ∧ (parseMethodDescriptor yX7_isMost.desc).map (fun d => d.parameters.length) = some 2 := by decide +kernel
theorem hd_X8_init : yX8_init.cls ≠ "java/lang/invoke/MethodHandle" ∧ yX8_init.cls ≠ "java/lang/invoke/VarHandle" ∧ (parseMethodDescriptor yX8_init.desc).map (fun d => d.parameters.length) = some 0 := by decide +kernel
theorem hd_X8_thrown : yX8_thrown.cls ≠ "java/lang/invoke/MethodHandle" ∧ yX8_thrown.cls ≠ "java/lang/invoke/VarHandle" ∧ (parseMethodDescriptor yX8_thrown.desc).map (fun d => d.parameters.length) = some 0 := by decide +kernel
theorem hd_X8_in : yX8_in.cls ≠ "java/lang/invoke/MethodHandle" ∧ yX8_in.cls ≠ "java/lang/invoke/VarHandle" ∧ (parseMethodDescriptor yX8_in.desc).map (fun d => d.parameters.length) = some 3 := by decide +kernel
theorem hd_X8_fails : yX8_fails.cls ≠ "java/lang/invoke/MethodHandle" ∧ yX8_fails.cls ≠ "java/lang/invoke/VarHandle" ∧ (parseMethodDescriptor yX8_fails.desc).map (fun d => d.parameters.length) = some 2 := by decide +kernel
theorem hd_X8_isNode : yX8_isNode.cls ≠ "java/lang/invoke/MethodHandle" ∧ yX8_isNode.cls ≠ "java/lang/invoke/VarHandle" ∧ (parseMethodDescriptor yX8_isNode.desc).map (fun d => d.parameters.length) = some 1 := by decide +kernel
theorem hd_X8_isEvent : yX8_isEvent.cls ≠ "java/lang/invoke/MethodHandle" ∧ yX8_isEvent.cls ≠ "java/lang/invoke/VarHandle" ∧ (parseMethodDescriptor yX8_isEvent.desc).map (fun d => d.parameters.length) = some 1 := by decide +kernel
theorem hd_X8_begin : yX8_begin.cls ≠ "java/lang/invoke/MethodHandle" ∧ yX8_begin.cls ≠ "java/lang/invoke/VarHandle" ∧ (parseMethodDescriptor yX8_begin.desc).map (fun d => d.parameters.length) = some 1 := by decide +kernel
theorem hd_X8_anew : yX8_anew.cls ≠ "java/lang/invoke/MethodHandle" ∧ yX8_anew.cls ≠ "java/lang/invoke/VarHandle" ∧ (parseMethodDescriptor yX8_anew.desc).map (fun d => d.parameters.length) = some 1 := by decide +kernel
theorem hd_X8_make : yX8_make.cls ≠ "java/lang/invoke/MethodHandle" ∧ yX8_make.cls ≠ "java/lang/invoke/VarHandle" ∧ (parseMethodDescriptor yX8_make.desc).map (fun d => d.parameters.length) = some 4 := by decide +kernel
theorem hd_X8_isMost : yX8_isMost.cls ≠ "java/lang/invoke/MethodHandle" ∧ yX8_isMost.cls ≠ "java/lang/invoke/VarHandle" ∧ (parseMethodDescriptor yX8_isMost.desc).map (fun d => d.parameters.length) = some 1 := by decide +kernel
theorem hd_X8_isSelf : yX8_isSelf.cls ≠ "java/lang/invoke/MethodHandle" ∧ yX8_isSelf.cls ≠ "java/lang/invoke/VarHandle" ∧ (parseMethodDescriptor yX8_isSelf.desc).map (fun d => d.parameters.length) = some 2 := by decide +kernel
theorem hd_X8_isFork : yX8_isFork.cls ≠ "java/lang/invoke/MethodHandle" ∧ yX8_isFork.cls ≠ "java/lang/invoke/VarHandle" ∧ (parseMethodDescriptor yX8_isFork.desc).map (fun d => d.parameters.length) = some 2 := by decide +kernel
theorem hd_X8_isForked : yX8_isForked.cls ≠ "java/lang/invoke/MethodHandle" ∧ yX8_isForked.cls ≠ "java/lang/invoke/VarHandle" ∧ (parseMethodDescriptor yX8_isForked.desc).map (fun d => d.parameters.length) = some 2 := by decide +kernel
theorem hd_X8_sees : yX8_sees.cls ≠ "java/lang/invoke/MethodHandle" ∧ yX8_sees.cls ≠ "java/lang/invoke/VarHandle" ∧ (parseMethodDescriptor yX8_sees.desc).map (fun d => d.parameters.length) = some 2 := by decide +kernel
theorem hd_X8_strongly : yX8_strongly.cls ≠ "java/lang/invoke/MethodHandle" ∧ yX8_strongly.cls ≠ "java/lang/invoke/VarHandle" ∧ (parseMethodDescriptor yX8_strongly.desc).map (fun d => d.parameters.length) = some 2 := by decide +kernel
theorem hd_X8_voteOf : yX8_voteOf.cls ≠ "java/lang/invoke/MethodHandle" ∧ yX8_voteOf.cls ≠ "java/lang/invoke/VarHandle" ∧ (parseMethodDescriptor yX8_voteOf.desc).map (fun d => d.parameters.length) = some 2 := by decide +kernel
theorem hd_X8_octet : yX8_octet.cls ≠ "java/lang/invoke/MethodHandle" ∧ yX8_octet.cls ≠ "java/lang/invoke/VarHandle" ∧ (parseMethodDescriptor yX8_octet.desc).map (fun d => d.parameters.length) = some 1 := by decide +kernel
theorem hd_X8_four : yX8_four.cls ≠ "java/lang/invoke/MethodHandle" ∧ yX8_four.cls ≠ "java/lang/invoke/VarHandle" ∧ (parseMethodDescriptor yX8_four.desc).map (fun d => d.parameters.length) = some 1 := by decide +kernel
theorem hd_X8_hash : yX8_hash.cls ≠ "java/lang/invoke/MethodHandle" ∧ yX8_hash.cls ≠ "java/lang/invoke/VarHandle" ∧ (parseMethodDescriptor yX8_hash.desc).map (fun d => d.parameters.length) = some 1 := by decide +kernel
theorem hd_X8_turn : yX8_turn.cls ≠ "java/lang/invoke/MethodHandle" ∧ yX8_turn.cls ≠ "java/lang/invoke/VarHandle" ∧ (parseMethodDescriptor yX8_turn.desc).map (fun d => d.parameters.length) = some 2 := by decide +kernel
theorem hd_X8_compress : yX8_compress.cls ≠ "java/lang/invoke/MethodHandle" ∧ yX8_compress.cls ≠ "java/lang/invoke/VarHandle" ∧ (parseMethodDescriptor yX8_compress.desc).map (fun d => d.parameters.length) = some 1 := by decide +kernel
theorem hd_X8_submit : yX8_submit.cls ≠ "java/lang/invoke/MethodHandle" ∧ yX8_submit.cls ≠ "java/lang/invoke/VarHandle" ∧ (parseMethodDescriptor yX8_submit.desc).map (fun d => d.parameters.length) = some 3 := by decide +kernel
theorem hd_X8_sync : yX8_sync.cls ≠ "java/lang/invoke/MethodHandle" ∧ yX8_sync.cls ≠ "java/lang/invoke/VarHandle" ∧ (parseMethodDescriptor yX8_sync.desc).map (fun d => d.parameters.length) = some 3 := by decide +kernel
theorem hd_X8_holds : yX8_holds.cls ≠ "java/lang/invoke/MethodHandle" ∧ yX8_holds.cls ≠ "java/lang/invoke/VarHandle" ∧ (parseMethodDescriptor yX8_holds.desc).map (fun d => d.parameters.length) = some 2 := by decide +kernel
theorem hd_X8_inject : yX8_inject.cls ≠ "java/lang/invoke/MethodHandle" ∧ yX8_inject.cls ≠ "java/lang/invoke/VarHandle" ∧ (parseMethodDescriptor yX8_inject.desc).map (fun d => d.parameters.length) = some 5 := by decide +kernel
theorem hd_X8_event : yX8_event.cls ≠ "java/lang/invoke/MethodHandle" ∧ yX8_event.cls ≠ "java/lang/invoke/VarHandle" ∧ (parseMethodDescriptor yX8_event.desc).map (fun d => d.parameters.length) = some 2 := by decide +kernel
theorem hd_X8_hash_ : yX8_hash_.cls ≠ "java/lang/invoke/MethodHandle" ∧ yX8_hash_.cls ≠ "java/lang/invoke/VarHandle" ∧ (parseMethodDescriptor yX8_hash_.desc).map (fun d => d.parameters.length) = some 2 := by decide +kernel
theorem hd_X8_sees_ : yX8_sees_.cls ≠ "java/lang/invoke/MethodHandle" ∧ yX8_sees_.cls ≠ "java/lang/invoke/VarHandle" ∧ (parseMethodDescriptor yX8_sees_.desc).map (fun d => d.parameters.length) = some 3 := by decide +kernel
theorem hd_X8_vote : yX8_vote.cls ≠ "java/lang/invoke/MethodHandle" ∧ yX8_vote.cls ≠ "java/lang/invoke/VarHandle" ∧ (parseMethodDescriptor yX8_vote.desc).map (fun d => d.parameters.length) = some 2 := by decide +kernel
theorem hd_X8_find : yX8_find.cls ≠ "java/lang/invoke/MethodHandle" ∧ yX8_find.cls ≠ "java/lang/invoke/VarHandle" ∧ (parseMethodDescriptor yX8_find.desc).map (fun d => d.parameters.length) = some 1 := by decide +kernel
theorem hd_X8_isUnique : yX8_isUnique.cls ≠ "java/lang/invoke/MethodHandle" ∧ yX8_isUnique.cls ≠ "java/lang/invoke/VarHandle" ∧ (parseMethodDescriptor yX8_isUnique.desc).map (fun d => d.parameters.length) = some 2 := by decide +kernel
theorem hd_X8_receive : yX8_receive.cls ≠ "java/lang/invoke/MethodHandle" ∧ yX8_receive.cls ≠ "java/lang/invoke/VarHandle" ∧ (parseMethodDescriptor yX8_receive.desc).map (fun d => d.parameters.length) = some 2 := by decide +kernel
theorem hd_X8_comesBefore : yX8_comesBefore.cls ≠ "java/lang/invoke/MethodHandle" ∧ yX8_comesBefore.cls ≠ "java/lang/invoke/VarHandle" ∧ (parseMethodDescriptor yX8_comesBefore.desc).map (fun d => d.parameters.length) = some 2 := by decide +kernel
theorem hd_X8_found : yX8_found.cls ≠ "java/lang/invoke/MethodHandle" ∧ yX8_found.cls ≠ "java/lang/invoke/VarHandle" ∧ (parseMethodDescriptor yX8_found.desc).map (fun d => d.parameters.length) = some 3 := by decide +kernel
theorem hd_X8_stamp : yX8_stamp.cls ≠ "java/lang/invoke/MethodHandle" ∧ yX8_stamp.cls ≠ "java/lang/invoke/VarHandle" ∧ (parseMethodDescriptor yX8_stamp.desc).map (fun d => d.parameters.length) = some 2 := by decide +kernel
theorem hd_X8_order : yX8_order.cls ≠ "java/lang/invoke/MethodHandle" ∧ yX8_order.cls ≠ "java/lang/invoke/VarHandle" ∧ (parseMethodDescriptor yX8_order.desc).map (fun d => d.parameters.length) = some 1 := by decide +kernel
theorem hd_X8_at : yX8_at.cls ≠ "java/lang/invoke/MethodHandle" ∧ yX8_at.cls ≠ "java/lang/invoke/VarHandle" ∧ (parseMethodDescriptor yX8_at.desc).map (fun d => d.parameters.length) = some 2 := by decide +kernel
theorem hd_X8_balance : yX8_balance.cls ≠ "java/lang/invoke/MethodHandle" ∧ yX8_balance.cls ≠ "java/lang/invoke/VarHandle" ∧ (parseMethodDescriptor yX8_balance.desc).map (fun d => d.parameters.length) = some 2 := by decide +kernel
theorem hd_X8_count : yX8_count.cls ≠ "java/lang/invoke/MethodHandle" ∧ yX8_count.cls ≠ "java/lang/invoke/VarHandle" ∧ (parseMethodDescriptor yX8_count.desc).map (fun d => d.parameters.length) = some 1 := by decide +kernel
theorem hd_X0_init : yX0_init.cls ≠ "java/lang/invoke/MethodHandle" ∧ yX0_init.cls ≠ "java/lang/invoke/VarHandle" ∧ (parseMethodDescriptor yX0_init.desc).map (fun d => d.parameters.length) = some 1 := by decide +kernel
theorem hd_X0_clear : yX0_clear.cls ≠ "java/lang/invoke/MethodHandle" ∧ yX0_clear.cls ≠ "java/lang/invoke/VarHandle" ∧ (parseMethodDescriptor yX0_clear.desc).map (fun d => d.parameters.length) = some 0 := by decide +kernel
theorem hd_X0_clearRow : yX0_clearRow.cls ≠ "java/lang/invoke/MethodHandle" ∧ yX0_clearRow.cls ≠ "java/lang/invoke/VarHandle" ∧ (parseMethodDescriptor yX0_clearRow.desc).map (fun d => d.parameters.length) = some 1 := by decide +kernel
theorem hd_X0_has : yX0_has.cls ≠ "java/lang/invoke/MethodHandle" ∧ yX0_has.cls ≠ "java/lang/invoke/VarHandle" ∧ (parseMethodDescriptor yX0_has.desc).map (fun d => d.parameters.length) = some 2 := by decide +kernel
theorem hd_X0_put : yX0_put.cls ≠ "java/lang/invoke/MethodHandle" ∧ yX0_put.cls ≠ "java/lang/invoke/VarHandle" ∧ (parseMethodDescriptor yX0_put.desc).map (fun d => d.parameters.length) = some 2 := by decide +kernel
theorem hd_X0_join : yX0_join.cls ≠ "java/lang/invoke/MethodHandle" ∧ yX0_join.cls ≠ "java/lang/invoke/VarHandle" ∧ (parseMethodDescriptor yX0_join.desc).map (fun d => d.parameters.length) = some 3 := by decide +kernel
theorem hd_X0_size : yX0_size.cls ≠ "java/lang/invoke/MethodHandle" ∧ yX0_size.cls ≠ "java/lang/invoke/VarHandle" ∧ (parseMethodDescriptor yX0_size.desc).map (fun d => d.parameters.length) = some 1 := by decide +kernel
theorem hd_X0_sizeInCommon : yX0_sizeInCommon.cls ≠ "java/lang/invoke/MethodHandle" ∧ yX0_sizeInCommon.cls ≠ "java/lang/invoke/VarHandle" ∧ (parseMethodDescriptor yX0_sizeInCommon.desc).map (fun d => d.parameters.length) = some 3 := by decide +kernel
theorem hd_X0_rowsWith : yX0_rowsWith.cls ≠ "java/lang/invoke/MethodHandle" ∧ yX0_rowsWith.cls ≠ "java/lang/invoke/VarHandle" ∧ (parseMethodDescriptor yX0_rowsWith.desc).map (fun d => d.parameters.length) = some 1 := by decide +kernel
theorem hd_X1_init : yX1_init.cls ≠ "java/lang/invoke/MethodHandle" ∧ yX1_init.cls ≠ "java/lang/invoke/VarHandle" ∧ (parseMethodDescriptor yX1_init.desc).map (fun d => d.parameters.length) = some 2 := by decide +kernel
theorem hd_X1_clear : yX1_clear.cls ≠ "java/lang/invoke/MethodHandle" ∧ yX1_clear.cls ≠ "java/lang/invoke/VarHandle" ∧ (parseMethodDescriptor yX1_clear.desc).map (fun d => d.parameters.length) = some 1 := by decide +kernel
theorem hd_X1_isYes : yX1_isYes.cls ≠ "java/lang/invoke/MethodHandle" ∧ yX1_isYes.cls ≠ "java/lang/invoke/VarHandle" ∧ (parseMethodDescriptor yX1_isYes.desc).map (fun d => d.parameters.length) = some 2 := by decide +kernel
theorem hd_X1_decides : yX1_decides.cls ≠ "java/lang/invoke/MethodHandle" ∧ yX1_decides.cls ≠ "java/lang/invoke/VarHandle" ∧ (parseMethodDescriptor yX1_decides.desc).map (fun d => d.parameters.length) = some 2 := by decide +kernel
theorem hd_X1_take : yX1_take.cls ≠ "java/lang/invoke/MethodHandle" ∧ yX1_take.cls ≠ "java/lang/invoke/VarHandle" ∧ (parseMethodDescriptor yX1_take.desc).map (fun d => d.parameters.length) = some 1 := by decide +kernel
theorem hd_X1_findElectors : yX1_findElectors.cls ≠ "java/lang/invoke/MethodHandle" ∧ yX1_findElectors.cls ≠ "java/lang/invoke/VarHandle" ∧ (parseMethodDescriptor yX1_findElectors.desc).map (fun d => d.parameters.length) = some 1 := by decide +kernel
theorem hd_X1_castVote : yX1_castVote.cls ≠ "java/lang/invoke/MethodHandle" ∧ yX1_castVote.cls ≠ "java/lang/invoke/VarHandle" ∧ (parseMethodDescriptor yX1_castVote.desc).map (fun d => d.parameters.length) = some 2 := by decide +kernel
theorem hd_X1_write : yX1_write.cls ≠ "java/lang/invoke/MethodHandle" ∧ yX1_write.cls ≠ "java/lang/invoke/VarHandle" ∧ (parseMethodDescriptor yX1_write.desc).map (fun d => d.parameters.length) = some 4 := by decide +kernel
theorem hd_X2_init : yX2_init.cls ≠ "java/lang/invoke/MethodHandle" ∧ yX2_init.cls ≠ "java/lang/invoke/VarHandle" ∧ (parseMethodDescriptor yX2_init.desc).map (fun d => d.parameters.length) = some 0 := by decide +kernel
theorem hd_X2_clear : yX2_clear.cls ≠ "java/lang/invoke/MethodHandle" ∧ yX2_clear.cls ≠ "java/lang/invoke/VarHandle" ∧ (parseMethodDescriptor yX2_clear.desc).map (fun d => d.parameters.length) = some 0 := by decide +kernel
theorem hd_X2_isFull : yX2_isFull.cls ≠ "java/lang/invoke/MethodHandle" ∧ yX2_isFull.cls ≠ "java/lang/invoke/VarHandle" ∧ (parseMethodDescriptor yX2_isFull.desc).map (fun d => d.parameters.length) = some 0 := by decide +kernel
theorem hd_X2_open : yX2_open.cls ≠ "java/lang/invoke/MethodHandle" ∧ yX2_open.cls ≠ "java/lang/invoke/VarHandle" ∧ (parseMethodDescriptor yX2_open.desc).map (fun d => d.parameters.length) = some 4 := by decide +kernel
theorem hd_X2_addTransaction : yX2_addTransaction.cls ≠ "java/lang/invoke/MethodHandle" ∧ yX2_addTransaction.cls ≠ "java/lang/invoke/VarHandle" ∧ (parseMethodDescriptor yX2_addTransaction.desc).map (fun d => d.parameters.length) = some 3 := by decide +kernel
theorem hd_X2_close : yX2_close.cls ≠ "java/lang/invoke/MethodHandle" ∧ yX2_close.cls ≠ "java/lang/invoke/VarHandle" ∧ (parseMethodDescriptor yX2_close.desc).map (fun d => d.parameters.length) = some 1 := by decide +kernel
theorem hd_X2_putParentHash : yX2_putParentHash.cls ≠ "java/lang/invoke/MethodHandle" ∧ yX2_putParentHash.cls ≠ "java/lang/invoke/VarHandle" ∧ (parseMethodDescriptor yX2_putParentHash.desc).map (fun d => d.parameters.length) = some 1 := by decide +kernel
theorem hd_X2_hashWord : yX2_hashWord.cls ≠ "java/lang/invoke/MethodHandle" ∧ yX2_hashWord.cls ≠ "java/lang/invoke/VarHandle" ∧ (parseMethodDescriptor yX2_hashWord.desc).map (fun d => d.parameters.length) = some 2 := by decide +kernel
theorem hd_X2_hasOneOf : yX2_hasOneOf.cls ≠ "java/lang/invoke/MethodHandle" ∧ yX2_hasOneOf.cls ≠ "java/lang/invoke/VarHandle" ∧ (parseMethodDescriptor yX2_hasOneOf.desc).map (fun d => d.parameters.length) = some 4 := by decide +kernel
theorem hd_X3_init : yX3_init.cls ≠ "java/lang/invoke/MethodHandle" ∧ yX3_init.cls ≠ "java/lang/invoke/VarHandle" ∧ (parseMethodDescriptor yX3_init.desc).map (fun d => d.parameters.length) = some 1 := by decide +kernel
theorem hd_X3_clear : yX3_clear.cls ≠ "java/lang/invoke/MethodHandle" ∧ yX3_clear.cls ≠ "java/lang/invoke/VarHandle" ∧ (parseMethodDescriptor yX3_clear.desc).map (fun d => d.parameters.length) = some 1 := by decide +kernel
theorem hd_X3_take : yX3_take.cls ≠ "java/lang/invoke/MethodHandle" ∧ yX3_take.cls ≠ "java/lang/invoke/VarHandle" ∧ (parseMethodDescriptor yX3_take.desc).map (fun d => d.parameters.length) = some 1 := by decide +kernel
theorem hd_X3_findAncestors : yX3_findAncestors.cls ≠ "java/lang/invoke/MethodHandle" ∧ yX3_findAncestors.cls ≠ "java/lang/invoke/VarHandle" ∧ (parseMethodDescriptor yX3_findAncestors.desc).map (fun d => d.parameters.length) = some 1 := by decide +kernel
theorem hd_X3_countForks : yX3_countForks.cls ≠ "java/lang/invoke/MethodHandle" ∧ yX3_countForks.cls ≠ "java/lang/invoke/VarHandle" ∧ (parseMethodDescriptor yX3_countForks.desc).map (fun d => d.parameters.length) = some 1 := by decide +kernel
theorem hd_X3_findSeen : yX3_findSeen.cls ≠ "java/lang/invoke/MethodHandle" ∧ yX3_findSeen.cls ≠ "java/lang/invoke/VarHandle" ∧ (parseMethodDescriptor yX3_findSeen.desc).map (fun d => d.parameters.length) = some 1 := by decide +kernel
theorem hd_X3_countAncestorsByCreator : yX3_countAncestorsByCreator.cls ≠ "java/lang/invoke/MethodHandle" ∧ yX3_countAncestorsByCreator.cls ≠ "java/lang/invoke/VarHandle" ∧ (parseMethodDescriptor yX3_countAncestorsByCreator.desc).map (fun d => d.parameters.length) = some 1 := by decide +kernel
theorem hd_X3_isForker : yX3_isForker.cls ≠ "java/lang/invoke/MethodHandle" ∧ yX3_isForker.cls ≠ "java/lang/invoke/VarHandle" ∧ (parseMethodDescriptor yX3_isForker.desc).map (fun d => d.parameters.length) = some 1 := by decide +kernel
theorem hd_X3_findStronglySeen : yX3_findStronglySeen.cls ≠ "java/lang/invoke/MethodHandle" ∧ yX3_findStronglySeen.cls ≠ "java/lang/invoke/VarHandle" ∧ (parseMethodDescriptor yX3_findStronglySeen.desc).map (fun d => d.parameters.length) = some 1 := by decide +kernel
theorem hd_X3_findRound : yX3_findRound.cls ≠ "java/lang/invoke/MethodHandle" ∧ yX3_findRound.cls ≠ "java/lang/invoke/VarHandle" ∧ (parseMethodDescriptor yX3_findRound.desc).map (fun d => d.parameters.length) = some 1 := by decide +kernel
theorem hd_X3_stronglySeesMostOf : yX3_stronglySeesMostOf.cls ≠ "java/lang/invoke/MethodHandle" ∧ yX3_stronglySeesMostOf.cls ≠ "java/lang/invoke/VarHandle" ∧ (parseMethodDescriptor yX3_stronglySeesMostOf.desc).map (fun d => d.parameters.length) = some 2 := by decide +kernel
theorem hd_X4_init : yX4_init.cls ≠ "java/lang/invoke/MethodHandle" ∧ yX4_init.cls ≠ "java/lang/invoke/VarHandle" ∧ (parseMethodDescriptor yX4_init.desc).map (fun d => d.parameters.length) = some 0 := by decide +kernel
theorem hd_X4_start : yX4_start.cls ≠ "java/lang/invoke/MethodHandle" ∧ yX4_start.cls ≠ "java/lang/invoke/VarHandle" ∧ (parseMethodDescriptor yX4_start.desc).map (fun d => d.parameters.length) = some 0 := by decide +kernel
theorem hd_X4_putOctet : yX4_putOctet.cls ≠ "java/lang/invoke/MethodHandle" ∧ yX4_putOctet.cls ≠ "java/lang/invoke/VarHandle" ∧ (parseMethodDescriptor yX4_putOctet.desc).map (fun d => d.parameters.length) = some 1 := by decide +kernel
theorem hd_X4_putInt : yX4_putInt.cls ≠ "java/lang/invoke/MethodHandle" ∧ yX4_putInt.cls ≠ "java/lang/invoke/VarHandle" ∧ (parseMethodDescriptor yX4_putInt.desc).map (fun d => d.parameters.length) = some 1 := by decide +kernel
theorem hd_X4_putLong : yX4_putLong.cls ≠ "java/lang/invoke/MethodHandle" ∧ yX4_putLong.cls ≠ "java/lang/invoke/VarHandle" ∧ (parseMethodDescriptor yX4_putLong.desc).map (fun d => d.parameters.length) = some 1 := by decide +kernel
theorem hd_X4_finishInto : yX4_finishInto.cls ≠ "java/lang/invoke/MethodHandle" ∧ yX4_finishInto.cls ≠ "java/lang/invoke/VarHandle" ∧ (parseMethodDescriptor yX4_finishInto.desc).map (fun d => d.parameters.length) = some 2 := by decide +kernel
theorem hd_X4_fillSchedule : yX4_fillSchedule.cls ≠ "java/lang/invoke/MethodHandle" ∧ yX4_fillSchedule.cls ≠ "java/lang/invoke/VarHandle" ∧ (parseMethodDescriptor yX4_fillSchedule.desc).map (fun d => d.parameters.length) = some 1 := by decide +kernel
theorem hd_X4_mixSchedule : yX4_mixSchedule.cls ≠ "java/lang/invoke/MethodHandle" ∧ yX4_mixSchedule.cls ≠ "java/lang/invoke/VarHandle" ∧ (parseMethodDescriptor yX4_mixSchedule.desc).map (fun d => d.parameters.length) = some 0 := by decide +kernel
theorem hd_X4_turned : yX4_turned.cls ≠ "java/lang/invoke/MethodHandle" ∧ yX4_turned.cls ≠ "java/lang/invoke/VarHandle" ∧ (parseMethodDescriptor yX4_turned.desc).map (fun d => d.parameters.length) = some 2 := by decide +kernel
theorem hd_X5_init : yX5_init.cls ≠ "java/lang/invoke/MethodHandle" ∧ yX5_init.cls ≠ "java/lang/invoke/VarHandle" ∧ (parseMethodDescriptor yX5_init.desc).map (fun d => d.parameters.length) = some 4 := by decide +kernel
theorem hd_X5_findAll : yX5_findAll.cls ≠ "java/lang/invoke/MethodHandle" ∧ yX5_findAll.cls ≠ "java/lang/invoke/VarHandle" ∧ (parseMethodDescriptor yX5_findAll.desc).map (fun d => d.parameters.length) = some 1 := by decide +kernel
theorem hd_X5_holds : yX5_holds.cls ≠ "java/lang/invoke/MethodHandle" ∧ yX5_holds.cls ≠ "java/lang/invoke/VarHandle" ∧ (parseMethodDescriptor yX5_holds.desc).map (fun d => d.parameters.length) = some 1 := by decide +kernel
theorem hd_X5_findFame : yX5_findFame.cls ≠ "java/lang/invoke/MethodHandle" ∧ yX5_findFame.cls ≠ "java/lang/invoke/VarHandle" ∧ (parseMethodDescriptor yX5_findFame.desc).map (fun d => d.parameters.length) = some 0 := by decide +kernel
theorem hd_X5_deciderOf : yX5_deciderOf.cls ≠ "java/lang/invoke/MethodHandle" ∧ yX5_deciderOf.cls ≠ "java/lang/invoke/VarHandle" ∧ (parseMethodDescriptor yX5_deciderOf.desc).map (fun d => d.parameters.length) = some 1 := by decide +kernel
theorem hd_X5_findUniques : yX5_findUniques.cls ≠ "java/lang/invoke/MethodHandle" ∧ yX5_findUniques.cls ≠ "java/lang/invoke/VarHandle" ∧ (parseMethodDescriptor yX5_findUniques.desc).map (fun d => d.parameters.length) = some 0 := by decide +kernel
theorem hd_X5_isOnlyFamousOne : yX5_isOnlyFamousOne.cls ≠ "java/lang/invoke/MethodHandle" ∧ yX5_isOnlyFamousOne.cls ≠ "java/lang/invoke/VarHandle" ∧ (parseMethodDescriptor yX5_isOnlyFamousOne.desc).map (fun d => d.parameters.length) = some 1 := by decide +kernel
theorem hd_X5_addUnique : yX5_addUnique.cls ≠ "java/lang/invoke/MethodHandle" ∧ yX5_addUnique.cls ≠ "java/lang/invoke/VarHandle" ∧ (parseMethodDescriptor yX5_addUnique.desc).map (fun d => d.parameters.length) = some 2 := by decide +kernel
theorem hd_X5_settleRounds : yX5_settleRounds.cls ≠ "java/lang/invoke/MethodHandle" ∧ yX5_settleRounds.cls ≠ "java/lang/invoke/VarHandle" ∧ (parseMethodDescriptor yX5_settleRounds.desc).map (fun d => d.parameters.length) = some 0 := by decide +kernel
theorem hd_X5_leastOpenRound : yX5_leastOpenRound.cls ≠ "java/lang/invoke/MethodHandle" ∧ yX5_leastOpenRound.cls ≠ "java/lang/invoke/VarHandle" ∧ (parseMethodDescriptor yX5_leastOpenRound.desc).map (fun d => d.parameters.length) = some 0 := by decide +kernel
theorem hd_X5_findReceived : yX5_findReceived.cls ≠ "java/lang/invoke/MethodHandle" ∧ yX5_findReceived.cls ≠ "java/lang/invoke/VarHandle" ∧ (parseMethodDescriptor yX5_findReceived.desc).map (fun d => d.parameters.length) = some 0 := by decide +kernel
theorem hd_X5_roundReceiving : yX5_roundReceiving.cls ≠ "java/lang/invoke/MethodHandle" ∧ yX5_roundReceiving.cls ≠ "java/lang/invoke/VarHandle" ∧ (parseMethodDescriptor yX5_roundReceiving.desc).map (fun d => d.parameters.length) = some 1 := by decide +kernel
theorem hd_X5_isBelowAllUniques : yX5_isBelowAllUniques.cls ≠ "java/lang/invoke/MethodHandle" ∧ yX5_isBelowAllUniques.cls ≠ "java/lang/invoke/VarHandle" ∧ (parseMethodDescriptor yX5_isBelowAllUniques.desc).map (fun d => d.parameters.length) = some 2 := by decide +kernel
theorem hd_X5_stampIn : yX5_stampIn.cls ≠ "java/lang/invoke/MethodHandle" ∧ yX5_stampIn.cls ≠ "java/lang/invoke/VarHandle" ∧ (parseMethodDescriptor yX5_stampIn.desc).map (fun d => d.parameters.length) = some 2 := by decide +kernel
theorem hd_X5_firstAbove : yX5_firstAbove.cls ≠ "java/lang/invoke/MethodHandle" ∧ yX5_firstAbove.cls ≠ "java/lang/invoke/VarHandle" ∧ (parseMethodDescriptor yX5_firstAbove.desc).map (fun d => d.parameters.length) = some 2 := by decide +kernel
theorem hd_X5_findOrder : yX5_findOrder.cls ≠ "java/lang/invoke/MethodHandle" ∧ yX5_findOrder.cls ≠ "java/lang/invoke/VarHandle" ∧ (parseMethodDescriptor yX5_findOrder.desc).map (fun d => d.parameters.length) = some 0 := by decide +kernel
theorem hd_X5_insert : yX5_insert.cls ≠ "java/lang/invoke/MethodHandle" ∧ yX5_insert.cls ≠ "java/lang/invoke/VarHandle" ∧ (parseMethodDescriptor yX5_insert.desc).map (fun d => d.parameters.length) = some 1 := by decide +kernel
theorem hd_X5_isBefore : yX5_isBefore.cls ≠ "java/lang/invoke/MethodHandle" ∧ yX5_isBefore.cls ≠ "java/lang/invoke/VarHandle" ∧ (parseMethodDescriptor yX5_isBefore.desc).map (fun d => d.parameters.length) = some 2 := by decide +kernel
theorem hd_X5_findBalances : yX5_findBalances.cls ≠ "java/lang/invoke/MethodHandle" ∧ yX5_findBalances.cls ≠ "java/lang/invoke/VarHandle" ∧ (parseMethodDescriptor yX5_findBalances.desc).map (fun d => d.parameters.length) = some 1 := by decide +kernel
theorem hd_X5_pay : yX5_pay.cls ≠ "java/lang/invoke/MethodHandle" ∧ yX5_pay.cls ≠ "java/lang/invoke/VarHandle" ∧ (parseMethodDescriptor yX5_pay.desc).map (fun d => d.parameters.length) = some 3 := by decide +kernel
theorem hd_X6_init : yX6_init.cls ≠ "java/lang/invoke/MethodHandle" ∧ yX6_init.cls ≠ "java/lang/invoke/VarHandle" ∧ (parseMethodDescriptor yX6_init.desc).map (fun d => d.parameters.length) = some 0 := by decide +kernel
theorem hd_X6_clear : yX6_clear.cls ≠ "java/lang/invoke/MethodHandle" ∧ yX6_clear.cls ≠ "java/lang/invoke/VarHandle" ∧ (parseMethodDescriptor yX6_clear.desc).map (fun d => d.parameters.length) = some 0 := by decide +kernel
theorem hd_X6_isFull : yX6_isFull.cls ≠ "java/lang/invoke/MethodHandle" ∧ yX6_isFull.cls ≠ "java/lang/invoke/VarHandle" ∧ (parseMethodDescriptor yX6_isFull.desc).map (fun d => d.parameters.length) = some 1 := by decide +kernel
theorem hd_X6_join : yX6_join.cls ≠ "java/lang/invoke/MethodHandle" ∧ yX6_join.cls ≠ "java/lang/invoke/VarHandle" ∧ (parseMethodDescriptor yX6_join.desc).map (fun d => d.parameters.length) = some 3 := by decide +kernel
theorem hd_X6_firstTo : yX6_firstTo.cls ≠ "java/lang/invoke/MethodHandle" ∧ yX6_firstTo.cls ≠ "java/lang/invoke/VarHandle" ∧ (parseMethodDescriptor yX6_firstTo.desc).map (fun d => d.parameters.length) = some 1 := by decide +kernel
theorem hd_X6_firstAmount : yX6_firstAmount.cls ≠ "java/lang/invoke/MethodHandle" ∧ yX6_firstAmount.cls ≠ "java/lang/invoke/VarHandle" ∧ (parseMethodDescriptor yX6_firstAmount.desc).map (fun d => d.parameters.length) = some 1 := by decide +kernel
theorem hd_X6_dropFirst : yX6_dropFirst.cls ≠ "java/lang/invoke/MethodHandle" ∧ yX6_dropFirst.cls ≠ "java/lang/invoke/VarHandle" ∧ (parseMethodDescriptor yX6_dropFirst.desc).map (fun d => d.parameters.length) = some 1 := by decide +kernel
theorem hd_X6_lengthOfAll : yX6_lengthOfAll.cls ≠ "java/lang/invoke/MethodHandle" ∧ yX6_lengthOfAll.cls ≠ "java/lang/invoke/VarHandle" ∧ (parseMethodDescriptor yX6_lengthOfAll.desc).map (fun d => d.parameters.length) = some 0 := by decide +kernel
theorem hd_J6_bitCount_0f7a4 : yJ6_bitCount_0f7a4.cls ≠ "java/lang/invoke/MethodHandle" ∧ yJ6_bitCount_0f7a4.cls ≠ "java/lang/invoke/VarHandle" ∧ (parseMethodDescriptor yJ6_bitCount_0f7a4.desc).map (fun d => d.parameters.length) = some 1 := by decide +kernel
theorem hd_J13_bitCount_95d88 : yJ13_bitCount_95d88.cls ≠ "java/lang/invoke/MethodHandle" ∧ yJ13_bitCount_95d88.cls ≠ "java/lang/invoke/VarHandle" ∧ (parseMethodDescriptor yJ13_bitCount_95d88.desc).map (fun d => d.parameters.length) = some 1 := by decide +kernel
theorem hd_J7_fill_53178 : yJ7_fill_53178.cls ≠ "java/lang/invoke/MethodHandle" ∧ yJ7_fill_53178.cls ≠ "java/lang/invoke/VarHandle" ∧ (parseMethodDescriptor yJ7_fill_53178.desc).map (fun d => d.parameters.length) = some 2 := by decide +kernel
theorem hd_J7_fill_fda19 : yJ7_fill_fda19.cls ≠ "java/lang/invoke/MethodHandle" ∧ yJ7_fill_fda19.cls ≠ "java/lang/invoke/VarHandle" ∧ (parseMethodDescriptor yJ7_fill_fda19.desc).map (fun d => d.parameters.length) = some 4 := by decide +kernel
theorem hd_J7_fill_bad5a : yJ7_fill_bad5a.cls ≠ "java/lang/invoke/MethodHandle" ∧ yJ7_fill_bad5a.cls ≠ "java/lang/invoke/VarHandle" ∧ (parseMethodDescriptor yJ7_fill_bad5a.desc).map (fun d => d.parameters.length) = some 4 := by decide +kernel
theorem hd_J7_fill_d0a16 : yJ7_fill_d0a16.cls ≠ "java/lang/invoke/MethodHandle" ∧ yJ7_fill_d0a16.cls ≠ "java/lang/invoke/VarHandle" ∧ (parseMethodDescriptor yJ7_fill_d0a16.desc).map (fun d => d.parameters.length) = some 2 := by decide +kernel
theorem hd_J7_rangeCheck_23922 : yJ7_rangeCheck_23922.cls ≠ "java/lang/invoke/MethodHandle" ∧ yJ7_rangeCheck_23922.cls ≠ "java/lang/invoke/VarHandle" ∧ (parseMethodDescriptor yJ7_rangeCheck_23922.desc).map (fun d => d.parameters.length) = some 3 := by decide +kernel
