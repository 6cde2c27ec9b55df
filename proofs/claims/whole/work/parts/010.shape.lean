/-! the shape of the heap behind both constructors: the system at 0, the reference at 112 -/
def S0 : q_Sh := [(10, 15, [.ref 1, .ref 3, .ref 10, .ref 17, .int 0, .ref 46, .int 0, .ref 83, .ref 84, .ref 86, .ref 91, .ref 94, .ref 103, .ref 106, .ref 111]),
  (8, 4, [.ref 2, .int 0, .int 0, .int 0]),
  (21, 400, []),
  (2, 19, [.int 0, .int 0, .int 0, .int 0, .int 0, .int 0, .int 0, .ref 4, .ref 5, .ref 6, .ref 7, .int 0, .int 0, .int 0, .ref 8, .int 0, .ref 9, .int 0, .int 0]),
  (20, 8, []),
  (20, 7, []),
  (20, 3, []),
  (20, 42, []),
  (20, 100, []),
  (20, 24, []),
  (2, 19, [.int 0, .int 0, .int 0, .int 0, .int 0, .int 0, .int 0, .ref 11, .ref 12, .ref 13, .ref 14, .int 0, .int 0, .int 0, .ref 15, .int 0, .ref 16, .int 0, .int 0]),
  (20, 8, []),
  (20, 7, []),
  (20, 3, []),
  (20, 42, []),
  (20, 100, []),
  (20, 24, []),
  (24, 4, [.ref 18, .ref 25, .ref 32, .ref 39]),
  (2, 19, [.int 0, .int 0, .int 0, .int 0, .int 0, .int 0, .int 0, .ref 19, .ref 20, .ref 21, .ref 22, .int 0, .int 0, .int 0, .ref 23, .int 0, .ref 24, .int 0, .int 0]),
  (20, 8, []),
  (20, 7, []),
  (20, 3, []),
  (20, 42, []),
  (20, 100, []),
  (20, 24, []),
  (2, 19, [.int 0, .int 0, .int 0, .int 0, .int 0, .int 0, .int 0, .ref 26, .ref 27, .ref 28, .ref 29, .int 0, .int 0, .int 0, .ref 30, .int 0, .ref 31, .int 0, .int 0]),
  (20, 8, []),
  (20, 7, []),
  (20, 3, []),
  (20, 42, []),
  (20, 100, []),
  (20, 24, []),
  (2, 19, [.int 0, .int 0, .int 0, .int 0, .int 0, .int 0, .int 0, .ref 33, .ref 34, .ref 35, .ref 36, .int 0, .int 0, .int 0, .ref 37, .int 0, .ref 38, .int 0, .int 0]),
  (20, 8, []),
  (20, 7, []),
  (20, 3, []),
  (20, 42, []),
  (20, 100, []),
  (20, 24, []),
  (2, 19, [.int 0, .int 0, .int 0, .int 0, .int 0, .int 0, .int 0, .ref 40, .ref 41, .ref 42, .ref 43, .int 0, .int 0, .int 0, .ref 44, .int 0, .ref 45, .int 0, .int 0]),
  (20, 8, []),
  (20, 7, []),
  (20, 3, []),
  (20, 42, []),
  (20, 100, []),
  (20, 24, []),
  (25, 6, [.ref 47, .ref 53, .ref 59, .ref 65, .ref 71, .ref 77]),
  (5, 7, [.ref 48, .int 0, .ref 49, .ref 50, .ref 51, .ref 52, .int 0]),
  (20, 400, []),
  (20, 12, []),
  (20, 12, []),
  (20, 12, []),
  (20, 12, []),
  (5, 7, [.ref 54, .int 0, .ref 55, .ref 56, .ref 57, .ref 58, .int 0]),
  (20, 400, []),
  (20, 12, []),
  (20, 12, []),
  (20, 12, []),
  (20, 12, []),
  (5, 7, [.ref 60, .int 0, .ref 61, .ref 62, .ref 63, .ref 64, .int 0]),
  (20, 400, []),
  (20, 12, []),
  (20, 12, []),
  (20, 12, []),
  (20, 12, []),
  (5, 7, [.ref 66, .int 0, .ref 67, .ref 68, .ref 69, .ref 70, .int 0]),
  (20, 400, []),
  (20, 12, []),
  (20, 12, []),
  (20, 12, []),
  (20, 12, []),
  (5, 7, [.ref 72, .int 0, .ref 73, .ref 74, .ref 75, .ref 76, .int 0]),
  (20, 400, []),
  (20, 12, []),
  (20, 12, []),
  (20, 12, []),
  (20, 12, []),
  (5, 7, [.ref 78, .int 0, .ref 79, .ref 80, .ref 81, .ref 82, .int 0]),
  (20, 400, []),
  (20, 12, []),
  (20, 12, []),
  (20, 12, []),
  (20, 12, []),
  (3, 2, [.ref 1, .ref 10]),
  (7, 6, [.ref 1, .ref 85, .int 0, .int 0, .int 0, .int 0]),
  (20, 64, []),
  (6, 6, [.ref 3, .ref 87, .ref 88, .ref 89, .ref 90, .int 0]),
  (20, 7, []),
  (20, 7, []),
  (23, 11, []),
  (23, 60, []),
  (1, 3, [.ref 3, .ref 92, .ref 93]),
  (20, 7, []),
  (20, 2001, []),
  (0, 11, [.ref 3, .ref 95, .ref 96, .ref 97, .ref 98, .int 0, .ref 99, .ref 100, .ref 101, .ref 102, .int 0]),
  (20, 600, []),
  (20, 600, []),
  (20, 600, []),
  (20, 2048, []),
  (20, 7, []),
  (20, 7, []),
  (20, 128, []),
  (20, 128, []),
  (4, 3, [.ref 3, .ref 104, .ref 105]),
  (20, 7, []),
  (20, 3, []),
  (9, 6, [.ref 3, .ref 107, .ref 108, .ref 109, .ref 110, .int 0]),
  (20, 960, []),
  (20, 960, []),
  (20, 960, []),
  (20, 31, []),
  (20, 7, []),
  (11, 82, [.int 0, .ref 113, .ref 114, .ref 115, .ref 116, .ref 117, .ref 118, .ref 119, .ref 120, .ref 121, .ref 122, .ref 123, .ref 124, .ref 125, .ref 126, .ref 127, .ref 128, .ref 129, .ref 130, .ref 131, .int 0, .int 0, .int 0, .int 0, .int 0, .int 0, .int 0, .int 0, .int 0, .int 0, .ref 132, .ref 133, .ref 134, .ref 135, .ref 136, .ref 137, .ref 138, .ref 139, .ref 140, .ref 141, .ref 142, .ref 143, .ref 144, .ref 145, .ref 146, .int 0, .int 0, .int 0, .ref 147, .ref 148, .ref 149, .int 0, .int 0, .ref 150, .ref 151, .int 0, .int 0, .int 0, .ref 152, .ref 153, .ref 154, .int 0, .int 0, .int 0, .ref 155, .int 0, .ref 156, .ref 157, .ref 158, .ref 159, .int 0, .ref 160, .ref 161, .int 0, .ref 162, .ref 163, .int 0, .ref 164, .ref 165, .ref 166, .int 0, .int 0]),
  (20, 9, []),
  (20, 7, []),
  (20, 7, []),
  (20, 7, []),
  (20, 42, []),
  (20, 7, []),
  (20, 3, []),
  (20, 3, []),
  (20, 3, []),
  (20, 8, []),
  (20, 8, []),
  (20, 8, []),
  (20, 6, []),
  (20, 7, []),
  (20, 7, []),
  (20, 42, []),
  (20, 7, []),
  (20, 3, []),
  (20, 3, []),
  (21, 400, []),
  (20, 1800, []),
  (20, 1800, []),
  (20, 6, []),
  (20, 72, []),
  (20, 72, []),
  (20, 72, []),
  (20, 402, []),
  (22, 72, []),
  (23, 11, []),
  (23, 300, []),
  (20, 7, []),
  (20, 10, []),
  (20, 1260, []),
  (20, 1, []),
  (20, 7, []),
  (23, 2001, []),
  (20, 2001, []),
  (20, 3, []),
  (20, 3, []),
  (20, 600, []),
  (20, 600, []),
  (23, 600, []),
  (20, 7, []),
  (20, 960, []),
  (20, 960, []),
  (20, 960, []),
  (20, 31, []),
  (20, 8, []),
  (20, 7, []),
  (20, 7, []),
  (20, 3, []),
  (20, 7, []),
  (20, 7500, []),
  (22, 4, [])]
theorem sh_0 : S0[0]? = some (10, 15, [.ref 1, .ref 3, .ref 10, .ref 17, .int 0, .ref 46, .int 0, .ref 83, .ref 84, .ref 86, .ref 91, .ref 94, .ref 103, .ref 106, .ref 111]) := rfl
theorem sh_1 : S0[1]? = some (8, 4, [.ref 2, .int 0, .int 0, .int 0]) := rfl
theorem sh_2 : S0[2]? = some (21, 400, []) := rfl
theorem sh_3 : S0[3]? = some (2, 19, [.int 0, .int 0, .int 0, .int 0, .int 0, .int 0, .int 0, .ref 4, .ref 5, .ref 6, .ref 7, .int 0, .int 0, .int 0, .ref 8, .int 0, .ref 9, .int 0, .int 0]) := rfl
theorem sh_4 : S0[4]? = some (20, 8, []) := rfl
theorem sh_5 : S0[5]? = some (20, 7, []) := rfl
theorem sh_6 : S0[6]? = some (20, 3, []) := rfl
theorem sh_7 : S0[7]? = some (20, 42, []) := rfl
theorem sh_8 : S0[8]? = some (20, 100, []) := rfl
theorem sh_9 : S0[9]? = some (20, 24, []) := rfl
theorem sh_10 : S0[10]? = some (2, 19, [.int 0, .int 0, .int 0, .int 0, .int 0, .int 0, .int 0, .ref 11, .ref 12, .ref 13, .ref 14, .int 0, .int 0, .int 0, .ref 15, .int 0, .ref 16, .int 0, .int 0]) := rfl
theorem sh_11 : S0[11]? = some (20, 8, []) := rfl
theorem sh_12 : S0[12]? = some (20, 7, []) := rfl
theorem sh_13 : S0[13]? = some (20, 3, []) := rfl
theorem sh_14 : S0[14]? = some (20, 42, []) := rfl
theorem sh_15 : S0[15]? = some (20, 100, []) := rfl
theorem sh_16 : S0[16]? = some (20, 24, []) := rfl
theorem sh_17 : S0[17]? = some (24, 4, [.ref 18, .ref 25, .ref 32, .ref 39]) := rfl
theorem sh_18 : S0[18]? = some (2, 19, [.int 0, .int 0, .int 0, .int 0, .int 0, .int 0, .int 0, .ref 19, .ref 20, .ref 21, .ref 22, .int 0, .int 0, .int 0, .ref 23, .int 0, .ref 24, .int 0, .int 0]) := rfl
theorem sh_19 : S0[19]? = some (20, 8, []) := rfl
theorem sh_20 : S0[20]? = some (20, 7, []) := rfl
theorem sh_21 : S0[21]? = some (20, 3, []) := rfl
theorem sh_22 : S0[22]? = some (20, 42, []) := rfl
theorem sh_23 : S0[23]? = some (20, 100, []) := rfl
theorem sh_24 : S0[24]? = some (20, 24, []) := rfl
theorem sh_25 : S0[25]? = some (2, 19, [.int 0, .int 0, .int 0, .int 0, .int 0, .int 0, .int 0, .ref 26, .ref 27, .ref 28, .ref 29, .int 0, .int 0, .int 0, .ref 30, .int 0, .ref 31, .int 0, .int 0]) := rfl
theorem sh_26 : S0[26]? = some (20, 8, []) := rfl
theorem sh_27 : S0[27]? = some (20, 7, []) := rfl
theorem sh_28 : S0[28]? = some (20, 3, []) := rfl
theorem sh_29 : S0[29]? = some (20, 42, []) := rfl
theorem sh_30 : S0[30]? = some (20, 100, []) := rfl
theorem sh_31 : S0[31]? = some (20, 24, []) := rfl
theorem sh_32 : S0[32]? = some (2, 19, [.int 0, .int 0, .int 0, .int 0, .int 0, .int 0, .int 0, .ref 33, .ref 34, .ref 35, .ref 36, .int 0, .int 0, .int 0, .ref 37, .int 0, .ref 38, .int 0, .int 0]) := rfl
theorem sh_33 : S0[33]? = some (20, 8, []) := rfl
theorem sh_34 : S0[34]? = some (20, 7, []) := rfl
theorem sh_35 : S0[35]? = some (20, 3, []) := rfl
theorem sh_36 : S0[36]? = some (20, 42, []) := rfl
theorem sh_37 : S0[37]? = some (20, 100, []) := rfl
theorem sh_38 : S0[38]? = some (20, 24, []) := rfl
theorem sh_39 : S0[39]? = some (2, 19, [.int 0, .int 0, .int 0, .int 0, .int 0, .int 0, .int 0, .ref 40, .ref 41, .ref 42, .ref 43, .int 0, .int 0, .int 0, .ref 44, .int 0, .ref 45, .int 0, .int 0]) := rfl
theorem sh_40 : S0[40]? = some (20, 8, []) := rfl
theorem sh_41 : S0[41]? = some (20, 7, []) := rfl
theorem sh_42 : S0[42]? = some (20, 3, []) := rfl
theorem sh_43 : S0[43]? = some (20, 42, []) := rfl
theorem sh_44 : S0[44]? = some (20, 100, []) := rfl
theorem sh_45 : S0[45]? = some (20, 24, []) := rfl
theorem sh_46 : S0[46]? = some (25, 6, [.ref 47, .ref 53, .ref 59, .ref 65, .ref 71, .ref 77]) := rfl
theorem sh_47 : S0[47]? = some (5, 7, [.ref 48, .int 0, .ref 49, .ref 50, .ref 51, .ref 52, .int 0]) := rfl
theorem sh_48 : S0[48]? = some (20, 400, []) := rfl
theorem sh_49 : S0[49]? = some (20, 12, []) := rfl
theorem sh_50 : S0[50]? = some (20, 12, []) := rfl
theorem sh_51 : S0[51]? = some (20, 12, []) := rfl
theorem sh_52 : S0[52]? = some (20, 12, []) := rfl
theorem sh_53 : S0[53]? = some (5, 7, [.ref 54, .int 0, .ref 55, .ref 56, .ref 57, .ref 58, .int 0]) := rfl
theorem sh_54 : S0[54]? = some (20, 400, []) := rfl
theorem sh_55 : S0[55]? = some (20, 12, []) := rfl
theorem sh_56 : S0[56]? = some (20, 12, []) := rfl
theorem sh_57 : S0[57]? = some (20, 12, []) := rfl
theorem sh_58 : S0[58]? = some (20, 12, []) := rfl
theorem sh_59 : S0[59]? = some (5, 7, [.ref 60, .int 0, .ref 61, .ref 62, .ref 63, .ref 64, .int 0]) := rfl
theorem sh_60 : S0[60]? = some (20, 400, []) := rfl
theorem sh_61 : S0[61]? = some (20, 12, []) := rfl
theorem sh_62 : S0[62]? = some (20, 12, []) := rfl
theorem sh_63 : S0[63]? = some (20, 12, []) := rfl
theorem sh_64 : S0[64]? = some (20, 12, []) := rfl
theorem sh_65 : S0[65]? = some (5, 7, [.ref 66, .int 0, .ref 67, .ref 68, .ref 69, .ref 70, .int 0]) := rfl
theorem sh_66 : S0[66]? = some (20, 400, []) := rfl
theorem sh_67 : S0[67]? = some (20, 12, []) := rfl
theorem sh_68 : S0[68]? = some (20, 12, []) := rfl
theorem sh_69 : S0[69]? = some (20, 12, []) := rfl
theorem sh_70 : S0[70]? = some (20, 12, []) := rfl
theorem sh_71 : S0[71]? = some (5, 7, [.ref 72, .int 0, .ref 73, .ref 74, .ref 75, .ref 76, .int 0]) := rfl
theorem sh_72 : S0[72]? = some (20, 400, []) := rfl
theorem sh_73 : S0[73]? = some (20, 12, []) := rfl
theorem sh_74 : S0[74]? = some (20, 12, []) := rfl
theorem sh_75 : S0[75]? = some (20, 12, []) := rfl
theorem sh_76 : S0[76]? = some (20, 12, []) := rfl
theorem sh_77 : S0[77]? = some (5, 7, [.ref 78, .int 0, .ref 79, .ref 80, .ref 81, .ref 82, .int 0]) := rfl
theorem sh_78 : S0[78]? = some (20, 400, []) := rfl
theorem sh_79 : S0[79]? = some (20, 12, []) := rfl
theorem sh_80 : S0[80]? = some (20, 12, []) := rfl
theorem sh_81 : S0[81]? = some (20, 12, []) := rfl
theorem sh_82 : S0[82]? = some (20, 12, []) := rfl
theorem sh_83 : S0[83]? = some (3, 2, [.ref 1, .ref 10]) := rfl
theorem sh_84 : S0[84]? = some (7, 6, [.ref 1, .ref 85, .int 0, .int 0, .int 0, .int 0]) := rfl
theorem sh_85 : S0[85]? = some (20, 64, []) := rfl
theorem sh_86 : S0[86]? = some (6, 6, [.ref 3, .ref 87, .ref 88, .ref 89, .ref 90, .int 0]) := rfl
theorem sh_87 : S0[87]? = some (20, 7, []) := rfl
theorem sh_88 : S0[88]? = some (20, 7, []) := rfl
theorem sh_89 : S0[89]? = some (23, 11, []) := rfl
theorem sh_90 : S0[90]? = some (23, 60, []) := rfl
theorem sh_91 : S0[91]? = some (1, 3, [.ref 3, .ref 92, .ref 93]) := rfl
theorem sh_92 : S0[92]? = some (20, 7, []) := rfl
theorem sh_93 : S0[93]? = some (20, 2001, []) := rfl
theorem sh_94 : S0[94]? = some (0, 11, [.ref 3, .ref 95, .ref 96, .ref 97, .ref 98, .int 0, .ref 99, .ref 100, .ref 101, .ref 102, .int 0]) := rfl
theorem sh_95 : S0[95]? = some (20, 600, []) := rfl
theorem sh_96 : S0[96]? = some (20, 600, []) := rfl
theorem sh_97 : S0[97]? = some (20, 600, []) := rfl
theorem sh_98 : S0[98]? = some (20, 2048, []) := rfl
theorem sh_99 : S0[99]? = some (20, 7, []) := rfl
theorem sh_100 : S0[100]? = some (20, 7, []) := rfl
theorem sh_101 : S0[101]? = some (20, 128, []) := rfl
theorem sh_102 : S0[102]? = some (20, 128, []) := rfl
theorem sh_103 : S0[103]? = some (4, 3, [.ref 3, .ref 104, .ref 105]) := rfl
theorem sh_104 : S0[104]? = some (20, 7, []) := rfl
theorem sh_105 : S0[105]? = some (20, 3, []) := rfl
theorem sh_106 : S0[106]? = some (9, 6, [.ref 3, .ref 107, .ref 108, .ref 109, .ref 110, .int 0]) := rfl
theorem sh_107 : S0[107]? = some (20, 960, []) := rfl
theorem sh_108 : S0[108]? = some (20, 960, []) := rfl
theorem sh_109 : S0[109]? = some (20, 960, []) := rfl
theorem sh_110 : S0[110]? = some (20, 31, []) := rfl
theorem sh_111 : S0[111]? = some (20, 7, []) := rfl
theorem sh_112 : S0[112]? = some (11, 82, [.int 0, .ref 113, .ref 114, .ref 115, .ref 116, .ref 117, .ref 118, .ref 119, .ref 120, .ref 121, .ref 122, .ref 123, .ref 124, .ref 125, .ref 126, .ref 127, .ref 128, .ref 129, .ref 130, .ref 131, .int 0, .int 0, .int 0, .int 0, .int 0, .int 0, .int 0, .int 0, .int 0, .int 0, .ref 132, .ref 133, .ref 134, .ref 135, .ref 136, .ref 137, .ref 138, .ref 139, .ref 140, .ref 141, .ref 142, .ref 143, .ref 144, .ref 145, .ref 146, .int 0, .int 0, .int 0, .ref 147, .ref 148, .ref 149, .int 0, .int 0, .ref 150, .ref 151, .int 0, .int 0, .int 0, .ref 152, .ref 153, .ref 154, .int 0, .int 0, .int 0, .ref 155, .int 0, .ref 156, .ref 157, .ref 158, .ref 159, .int 0, .ref 160, .ref 161, .int 0, .ref 162, .ref 163, .int 0, .ref 164, .ref 165, .ref 166, .int 0, .int 0]) := rfl
theorem sh_113 : S0[113]? = some (20, 9, []) := rfl
theorem sh_114 : S0[114]? = some (20, 7, []) := rfl
theorem sh_115 : S0[115]? = some (20, 7, []) := rfl
theorem sh_116 : S0[116]? = some (20, 7, []) := rfl
theorem sh_117 : S0[117]? = some (20, 42, []) := rfl
theorem sh_118 : S0[118]? = some (20, 7, []) := rfl
theorem sh_119 : S0[119]? = some (20, 3, []) := rfl
theorem sh_120 : S0[120]? = some (20, 3, []) := rfl
theorem sh_121 : S0[121]? = some (20, 3, []) := rfl
theorem sh_122 : S0[122]? = some (20, 8, []) := rfl
theorem sh_123 : S0[123]? = some (20, 8, []) := rfl
theorem sh_124 : S0[124]? = some (20, 8, []) := rfl
theorem sh_125 : S0[125]? = some (20, 6, []) := rfl
theorem sh_126 : S0[126]? = some (20, 7, []) := rfl
theorem sh_127 : S0[127]? = some (20, 7, []) := rfl
theorem sh_128 : S0[128]? = some (20, 42, []) := rfl
theorem sh_129 : S0[129]? = some (20, 7, []) := rfl
theorem sh_130 : S0[130]? = some (20, 3, []) := rfl
theorem sh_131 : S0[131]? = some (20, 3, []) := rfl
theorem sh_132 : S0[132]? = some (21, 400, []) := rfl
theorem sh_133 : S0[133]? = some (20, 1800, []) := rfl
theorem sh_134 : S0[134]? = some (20, 1800, []) := rfl
theorem sh_135 : S0[135]? = some (20, 6, []) := rfl
theorem sh_136 : S0[136]? = some (20, 72, []) := rfl
theorem sh_137 : S0[137]? = some (20, 72, []) := rfl
theorem sh_138 : S0[138]? = some (20, 72, []) := rfl
theorem sh_139 : S0[139]? = some (20, 402, []) := rfl
theorem sh_140 : S0[140]? = some (22, 72, []) := rfl
theorem sh_141 : S0[141]? = some (23, 11, []) := rfl
theorem sh_142 : S0[142]? = some (23, 300, []) := rfl
theorem sh_143 : S0[143]? = some (20, 7, []) := rfl
theorem sh_144 : S0[144]? = some (20, 10, []) := rfl
theorem sh_145 : S0[145]? = some (20, 1260, []) := rfl
theorem sh_146 : S0[146]? = some (20, 1, []) := rfl
theorem sh_147 : S0[147]? = some (20, 7, []) := rfl
theorem sh_148 : S0[148]? = some (23, 2001, []) := rfl
theorem sh_149 : S0[149]? = some (20, 2001, []) := rfl
theorem sh_150 : S0[150]? = some (20, 3, []) := rfl
theorem sh_151 : S0[151]? = some (20, 3, []) := rfl
theorem sh_152 : S0[152]? = some (20, 600, []) := rfl
theorem sh_153 : S0[153]? = some (20, 600, []) := rfl
theorem sh_154 : S0[154]? = some (23, 600, []) := rfl
theorem sh_155 : S0[155]? = some (20, 7, []) := rfl
theorem sh_156 : S0[156]? = some (20, 960, []) := rfl
theorem sh_157 : S0[157]? = some (20, 960, []) := rfl
theorem sh_158 : S0[158]? = some (20, 960, []) := rfl
theorem sh_159 : S0[159]? = some (20, 31, []) := rfl
theorem sh_160 : S0[160]? = some (20, 8, []) := rfl
theorem sh_161 : S0[161]? = some (20, 7, []) := rfl
theorem sh_162 : S0[162]? = some (20, 7, []) := rfl
theorem sh_163 : S0[163]? = some (20, 3, []) := rfl
theorem sh_164 : S0[164]? = some (20, 7, []) := rfl
theorem sh_165 : S0[165]? = some (20, 7500, []) := rfl
theorem sh_166 : S0[166]? = some (22, 4, []) := rfl
def isHome (a : Nat) : Prop := a = 3 ∨ a = 10 ∨ a = 18 ∨ a = 25 ∨ a = 32 ∨ a = 39
def isRule (a : Nat) : Prop := a = 47 ∨ a = 53 ∨ a = 59 ∨ a = 65 ∨ a = 71 ∨ a = 77
theorem sh_home {a : Nat} (h : isHome a) : S0[a]? = some (2, 19, [.int 0, .int 0, .int 0, .int 0, .int 0, .int 0, .int 0, .ref (a + 1), .ref (a + 2), .ref (a + 3), .ref (a + 4), .int 0, .int 0, .int 0, .ref (a + 5), .int 0, .ref (a + 6), .int 0, .int 0]) := by rcases h with rfl | rfl | rfl | rfl | rfl | rfl <;> rfl
theorem sh_home1 {a : Nat} (h : isHome a) : S0[a + 1]? = some (20, 8, []) := by rcases h with rfl | rfl | rfl | rfl | rfl | rfl <;> rfl
theorem sh_home2 {a : Nat} (h : isHome a) : S0[a + 2]? = some (20, 7, []) := by rcases h with rfl | rfl | rfl | rfl | rfl | rfl <;> rfl
theorem sh_home3 {a : Nat} (h : isHome a) : S0[a + 3]? = some (20, 3, []) := by rcases h with rfl | rfl | rfl | rfl | rfl | rfl <;> rfl
theorem sh_home4 {a : Nat} (h : isHome a) : S0[a + 4]? = some (20, 42, []) := by rcases h with rfl | rfl | rfl | rfl | rfl | rfl <;> rfl
theorem sh_home5 {a : Nat} (h : isHome a) : S0[a + 5]? = some (20, 100, []) := by rcases h with rfl | rfl | rfl | rfl | rfl | rfl <;> rfl
theorem sh_home6 {a : Nat} (h : isHome a) : S0[a + 6]? = some (20, 24, []) := by rcases h with rfl | rfl | rfl | rfl | rfl | rfl <;> rfl
theorem sh_rule {a : Nat} (h : isRule a) : S0[a]? = some (5, 7, [.ref (a + 1), .int 0, .ref (a + 2), .ref (a + 3), .ref (a + 4), .ref (a + 5), .int 0]) := by rcases h with rfl | rfl | rfl | rfl | rfl | rfl <;> rfl
theorem sh_rule1 {a : Nat} (h : isRule a) : S0[a + 1]? = some (20, 400, []) := by rcases h with rfl | rfl | rfl | rfl | rfl | rfl <;> rfl
theorem sh_rule2 {a : Nat} (h : isRule a) : S0[a + 2]? = some (20, 12, []) := by rcases h with rfl | rfl | rfl | rfl | rfl | rfl <;> rfl
theorem sh_rule3 {a : Nat} (h : isRule a) : S0[a + 3]? = some (20, 12, []) := by rcases h with rfl | rfl | rfl | rfl | rfl | rfl <;> rfl
theorem sh_rule4 {a : Nat} (h : isRule a) : S0[a + 4]? = some (20, 12, []) := by rcases h with rfl | rfl | rfl | rfl | rfl | rfl <;> rfl
theorem sh_rule5 {a : Nat} (h : isRule a) : S0[a + 5]? = some (20, 12, []) := by rcases h with rfl | rfl | rfl | rfl | rfl | rfl <;> rfl
abbrev q_Q0 : Type := Option Value → q_Mem → q_MemL → Prop
def q_up0 (Q : q_Q0) : q_Q := fun v S M N => S = S0 ∧ Q v M N
abbrev AW0 (G : q_G) (d : Nat) (μ : q_M) (pc : Nat) (L : List (Option Value)) (st : List Value) (M : q_Mem) (N : q_MemL) (Q : q_Q0) : Prop := AW G d μ pc L st S0 M N 0 0 (q_up0 Q)
abbrev AC0 (G : q_G) (d : Nat) (μ : q_M) (as : List Value) (M : q_Mem) (N : q_MemL) (Q : q_Q0) : Prop := AC G d μ as S0 M N 0 0 (q_up0 Q)
/-- comes back with a value -/
def CV (P : Value → q_Mem → q_MemL → Prop) : q_Q0 := fun v M N => ∃ x, v = some x ∧ P x M N
/-- comes back with none -/
def CN (P : q_Mem → q_MemL → Prop) : q_Q0 := fun v M N => v = none ∧ P M N
/-- this value, and nothing changed -/
def PU (r : Value) (M : q_Mem) (N : q_MemL) : Value → q_Mem → q_MemL → Prop := fun x M' N' => x = r ∧ M' = M ∧ N' = N
abbrev Bz (c : Prop) [Decidable c] : Value := I (if c then 1 else 0)
theorem r_i {G : q_G} {d : Nat} {μ : q_M} {pc : Nat} {L : List (Option Value)} {M : q_Mem} {N : q_MemL} {P : Value → q_Mem → q_MemL → Prop} {x : Int} (hd : decode μ.2.1 pc = .ok (.ireturn, 1)) (hr : μ.2.2.2 = some .int) (hp : P (I x) M N) : AW0 G d μ pc L [I x] M N (CV P) := st_ireturn hd hr rfl ⟨rfl, _, rfl, hp⟩
theorem r_iR {G : q_G} {d : Nat} {μ : q_M} {pc : Nat} {L : List (Option Value)} {M : q_Mem} {N : q_MemL} {P : Value → q_Mem → q_MemL → Prop} {x : Int32} (hd : decode μ.2.1 pc = .ok (.ireturn, 1)) (hr : μ.2.2.2 = some .int) (hp : P (.int x) M N) : AW0 G d μ pc L [.int x] M N (CV P) := st_ireturnR hd hr rfl ⟨rfl, _, rfl, hp⟩
theorem r_z {G : q_G} {d : Nat} {μ : q_M} {pc : Nat} {L : List (Option Value)} {M : q_Mem} {N : q_MemL} {P : Value → q_Mem → q_MemL → Prop} {x : Int} (hd : decode μ.2.1 pc = .ok (.ireturn, 1)) (hr : μ.2.2.2 = some .boolean) (hx : x = 0 ∨ x = 1) (hp : P (I x) M N) : AW0 G d μ pc L [I x] M N (CV P) := st_ireturn hd hr (by rcases hx with rfl | rfl <;> rfl) ⟨rfl, _, rfl, hp⟩
theorem r_v {G : q_G} {d : Nat} {μ : q_M} {pc : Nat} {L : List (Option Value)} {M : q_Mem} {N : q_MemL} {P : q_Mem → q_MemL → Prop} (hd : decode μ.2.1 pc = .ok (.return_, 1)) (hr : μ.2.2.2 = none) (hp : P M N) : AW0 G d μ pc L [] M N (CN P) := st_return hd hr ⟨rfl, rfl, hp⟩
theorem r_l {G : q_G} {d : Nat} {μ : q_M} {pc : Nat} {L : List (Option Value)} {M : q_Mem} {N : q_MemL} {P : Value → q_Mem → q_MemL → Prop} {x : Int64} (hd : decode μ.2.1 pc = .ok (.lreturn, 1)) (hr : μ.2.2.2 = some .long) (hp : P (.long x) M N) : AW0 G d μ pc L [.long x] M N (CV P) := st_lreturn hd hr ⟨rfl, _, rfl, hp⟩
theorem r_a {G : q_G} {d : Nat} {μ : q_M} {pc : Nat} {L : List (Option Value)} {M : q_Mem} {N : q_MemL} {P : Value → q_Mem → q_MemL → Prop} {a : Nat} {cn : String} (hd : decode μ.2.1 pc = .ok (.areturn, 1)) (hr : μ.2.2.2 = some (.object cn)) (hp : P (.ref a) M N) : AW0 G d μ pc L [.ref a] M N (CV P) := st_areturn hd hr (Or.inl ⟨_, rfl⟩) ⟨rfl, _, rfl, hp⟩
theorem r_aN {G : q_G} {d : Nat} {μ : q_M} {pc : Nat} {L : List (Option Value)} {M : q_Mem} {N : q_MemL} {P : Value → q_Mem → q_MemL → Prop} {cn : String} (hd : decode μ.2.1 pc = .ok (.areturn, 1)) (hr : μ.2.2.2 = some (.object cn)) (hp : P .null M N) : AW0 G d μ pc L [.null] M N (CV P) := st_areturnN hd hr (Or.inl ⟨_, rfl⟩) ⟨rfl, _, rfl, hp⟩
theorem b_eq {G : q_G} {d : Nat} {μ : q_M} {pc : Nat} {L : List (Option Value)} {st : List Value} {S : q_Sh} {M : q_Mem} {N : q_MemL} {k n : Nat} {Q : q_Q} {c : Prop} [hdc : Decidable c] {off : Int} {tgt : Nat} (hd : decode μ.2.1 pc = .ok (.ifCond .eq off, 3)) (ht : (pc : Int) + off = (tgt : Int)) (kt : ¬ c → AW G d μ tgt L st S M N k n Q) (kf : c → AW G d μ (pc + 3) L st S M N k n Q) : AW G d μ pc L (Bz c :: st) S M N k n Q := by
  refine st_if_eq hd (by split <;> decide) ht (fun h => kt fun q => ?_) (fun h => kf ?_)
  · rw [if_pos q] at h; cases h
  · by_cases q : c
    · exact q
    · rw [if_neg q] at h; exact absurd rfl h
theorem b_ne {G : q_G} {d : Nat} {μ : q_M} {pc : Nat} {L : List (Option Value)} {st : List Value} {S : q_Sh} {M : q_Mem} {N : q_MemL} {k n : Nat} {Q : q_Q} {c : Prop} [hdc : Decidable c] {off : Int} {tgt : Nat} (hd : decode μ.2.1 pc = .ok (.ifCond .ne off, 3)) (ht : (pc : Int) + off = (tgt : Int)) (kt : c → AW G d μ tgt L st S M N k n Q) (kf : ¬ c → AW G d μ (pc + 3) L st S M N k n Q) : AW G d μ pc L (Bz c :: st) S M N k n Q := by
  refine st_if_ne hd (by split <;> decide) ht (fun h => kt ?_) (fun h => kf fun q => ?_)
  · by_cases q : c
    · exact q
    · rw [if_neg q] at h; exact absurd rfl h
  · rw [if_pos q] at h; cases h
theorem c_V0p {G : q_G} {d d' : Nat} {μ μ' : q_M} {pc idx : Nat} {L : List (Option Value)} {rest : List Value} {M : q_Mem} {N : q_MemL} {Q : q_Q0}  {b : Nat} (hd : decode μ.2.1 pc = .ok (.invokevirtual idx, 3)) (hl : q_lk μ.1.cls idx μ'.1) (hm : q_mk μ' 0) (hi : q_mi μ') (hb : q_rc S0 μ'.1.cls b) (hd' : d' + 1 ≤ d) (hw : (rest.map fun v => v.category).sum ≤ 8) {r : Value} (hC : AC0 G d' μ' [.ref b] M N (CV (PU r M N))) (kk : AW0 G d μ (pc + 3) L (r :: rest) M N Q) : AW0 G d μ pc L (.ref b :: rest) M N Q := st_callV (as := []) (rest := rest) (k := 0) (kc := 0) (n := 0) (nc := 0) hd hl hm hi hb hd' hw hC (fun v S' M' N' h => by obtain ⟨rfl, x, rfl, rfl, rfl, rfl⟩ := h; exact kk)
theorem c_V0i {G : q_G} {d d' : Nat} {μ μ' : q_M} {pc idx : Nat} {L : List (Option Value)} {rest : List Value} {M : q_Mem} {N : q_MemL} {Q : q_Q0}  {b : Nat} (hd : decode μ.2.1 pc = .ok (.invokevirtual idx, 3)) (hl : q_lk μ.1.cls idx μ'.1) (hm : q_mk μ' 0) (hi : q_mi μ') (hb : q_rc S0 μ'.1.cls b) (hd' : d' + 1 ≤ d) (hw : (rest.map fun v => v.category).sum ≤ 8) {P : Value → q_Mem → q_MemL → Prop} (hC : AC0 G d' μ' [.ref b] M N (CV P)) (kk : ∀ x M' N', P x M' N' → AW0 G d μ (pc + 3) L (x :: rest) M' N' Q) : AW0 G d μ pc L (.ref b :: rest) M N Q := st_callV (as := []) (rest := rest) (k := 0) (kc := 0) (n := 0) (nc := 0) hd hl hm hi hb hd' hw hC (fun v S' M' N' h => by obtain ⟨rfl, x, rfl, h⟩ := h; exact kk x M' N' h)
theorem c_V0v {G : q_G} {d d' : Nat} {μ μ' : q_M} {pc idx : Nat} {L : List (Option Value)} {rest : List Value} {M : q_Mem} {N : q_MemL} {Q : q_Q0}  {b : Nat} (hd : decode μ.2.1 pc = .ok (.invokevirtual idx, 3)) (hl : q_lk μ.1.cls idx μ'.1) (hm : q_mk μ' 0) (hi : q_mi μ') (hb : q_rc S0 μ'.1.cls b) (hd' : d' + 1 ≤ d) (hw : (rest.map fun v => v.category).sum ≤ 8) {P : q_Mem → q_MemL → Prop} (hC : AC0 G d' μ' [.ref b] M N (CN P)) (kk : ∀ M' N', P M' N' → AW0 G d μ (pc + 3) L rest M' N' Q) : AW0 G d μ pc L (.ref b :: rest) M N Q := st_callV (as := []) (rest := rest) (k := 0) (kc := 0) (n := 0) (nc := 0) hd hl hm hi hb hd' hw hC (fun v S' M' N' h => by obtain ⟨rfl, rfl, h⟩ := h; exact kk M' N' h)
theorem c_V1p {G : q_G} {d d' : Nat} {μ μ' : q_M} {pc idx : Nat} {L : List (Option Value)} {rest : List Value} {M : q_Mem} {N : q_MemL} {Q : q_Q0} {a0 : Value} {b : Nat} (hd : decode μ.2.1 pc = .ok (.invokevirtual idx, 3)) (hl : q_lk μ.1.cls idx μ'.1) (hm : q_mk μ' 1) (hi : q_mi μ') (hb : q_rc S0 μ'.1.cls b) (hd' : d' + 1 ≤ d) (hw : (rest.map fun v => v.category).sum ≤ 8) {r : Value} (hC : AC0 G d' μ' (.ref b :: [a0]) M N (CV (PU r M N))) (kk : AW0 G d μ (pc + 3) L (r :: rest) M N Q) : AW0 G d μ pc L (a0 :: .ref b :: rest) M N Q := st_callV (as := [a0]) (rest := rest) (k := 0) (kc := 0) (n := 0) (nc := 0) hd hl hm hi hb hd' hw hC (fun v S' M' N' h => by obtain ⟨rfl, x, rfl, rfl, rfl, rfl⟩ := h; exact kk)
theorem c_V1i {G : q_G} {d d' : Nat} {μ μ' : q_M} {pc idx : Nat} {L : List (Option Value)} {rest : List Value} {M : q_Mem} {N : q_MemL} {Q : q_Q0} {a0 : Value} {b : Nat} (hd : decode μ.2.1 pc = .ok (.invokevirtual idx, 3)) (hl : q_lk μ.1.cls idx μ'.1) (hm : q_mk μ' 1) (hi : q_mi μ') (hb : q_rc S0 μ'.1.cls b) (hd' : d' + 1 ≤ d) (hw : (rest.map fun v => v.category).sum ≤ 8) {P : Value → q_Mem → q_MemL → Prop} (hC : AC0 G d' μ' (.ref b :: [a0]) M N (CV P)) (kk : ∀ x M' N', P x M' N' → AW0 G d μ (pc + 3) L (x :: rest) M' N' Q) : AW0 G d μ pc L (a0 :: .ref b :: rest) M N Q := st_callV (as := [a0]) (rest := rest) (k := 0) (kc := 0) (n := 0) (nc := 0) hd hl hm hi hb hd' hw hC (fun v S' M' N' h => by obtain ⟨rfl, x, rfl, h⟩ := h; exact kk x M' N' h)
theorem c_V1v {G : q_G} {d d' : Nat} {μ μ' : q_M} {pc idx : Nat} {L : List (Option Value)} {rest : List Value} {M : q_Mem} {N : q_MemL} {Q : q_Q0} {a0 : Value} {b : Nat} (hd : decode μ.2.1 pc = .ok (.invokevirtual idx, 3)) (hl : q_lk μ.1.cls idx μ'.1) (hm : q_mk μ' 1) (hi : q_mi μ') (hb : q_rc S0 μ'.1.cls b) (hd' : d' + 1 ≤ d) (hw : (rest.map fun v => v.category).sum ≤ 8) {P : q_Mem → q_MemL → Prop} (hC : AC0 G d' μ' (.ref b :: [a0]) M N (CN P)) (kk : ∀ M' N', P M' N' → AW0 G d μ (pc + 3) L rest M' N' Q) : AW0 G d μ pc L (a0 :: .ref b :: rest) M N Q := st_callV (as := [a0]) (rest := rest) (k := 0) (kc := 0) (n := 0) (nc := 0) hd hl hm hi hb hd' hw hC (fun v S' M' N' h => by obtain ⟨rfl, rfl, h⟩ := h; exact kk M' N' h)
theorem c_V2p {G : q_G} {d d' : Nat} {μ μ' : q_M} {pc idx : Nat} {L : List (Option Value)} {rest : List Value} {M : q_Mem} {N : q_MemL} {Q : q_Q0} {a0 a1 : Value} {b : Nat} (hd : decode μ.2.1 pc = .ok (.invokevirtual idx, 3)) (hl : q_lk μ.1.cls idx μ'.1) (hm : q_mk μ' 2) (hi : q_mi μ') (hb : q_rc S0 μ'.1.cls b) (hd' : d' + 1 ≤ d) (hw : (rest.map fun v => v.category).sum ≤ 8) {r : Value} (hC : AC0 G d' μ' (.ref b :: [a0, a1]) M N (CV (PU r M N))) (kk : AW0 G d μ (pc + 3) L (r :: rest) M N Q) : AW0 G d μ pc L (a1 :: a0 :: .ref b :: rest) M N Q := st_callV (as := [a0, a1]) (rest := rest) (k := 0) (kc := 0) (n := 0) (nc := 0) hd hl hm hi hb hd' hw hC (fun v S' M' N' h => by obtain ⟨rfl, x, rfl, rfl, rfl, rfl⟩ := h; exact kk)
theorem c_V2i {G : q_G} {d d' : Nat} {μ μ' : q_M} {pc idx : Nat} {L : List (Option Value)} {rest : List Value} {M : q_Mem} {N : q_MemL} {Q : q_Q0} {a0 a1 : Value} {b : Nat} (hd : decode μ.2.1 pc = .ok (.invokevirtual idx, 3)) (hl : q_lk μ.1.cls idx μ'.1) (hm : q_mk μ' 2) (hi : q_mi μ') (hb : q_rc S0 μ'.1.cls b) (hd' : d' + 1 ≤ d) (hw : (rest.map fun v => v.category).sum ≤ 8) {P : Value → q_Mem → q_MemL → Prop} (hC : AC0 G d' μ' (.ref b :: [a0, a1]) M N (CV P)) (kk : ∀ x M' N', P x M' N' → AW0 G d μ (pc + 3) L (x :: rest) M' N' Q) : AW0 G d μ pc L (a1 :: a0 :: .ref b :: rest) M N Q := st_callV (as := [a0, a1]) (rest := rest) (k := 0) (kc := 0) (n := 0) (nc := 0) hd hl hm hi hb hd' hw hC (fun v S' M' N' h => by obtain ⟨rfl, x, rfl, h⟩ := h; exact kk x M' N' h)
theorem c_V2v {G : q_G} {d d' : Nat} {μ μ' : q_M} {pc idx : Nat} {L : List (Option Value)} {rest : List Value} {M : q_Mem} {N : q_MemL} {Q : q_Q0} {a0 a1 : Value} {b : Nat} (hd : decode μ.2.1 pc = .ok (.invokevirtual idx, 3)) (hl : q_lk μ.1.cls idx μ'.1) (hm : q_mk μ' 2) (hi : q_mi μ') (hb : q_rc S0 μ'.1.cls b) (hd' : d' + 1 ≤ d) (hw : (rest.map fun v => v.category).sum ≤ 8) {P : q_Mem → q_MemL → Prop} (hC : AC0 G d' μ' (.ref b :: [a0, a1]) M N (CN P)) (kk : ∀ M' N', P M' N' → AW0 G d μ (pc + 3) L rest M' N' Q) : AW0 G d μ pc L (a1 :: a0 :: .ref b :: rest) M N Q := st_callV (as := [a0, a1]) (rest := rest) (k := 0) (kc := 0) (n := 0) (nc := 0) hd hl hm hi hb hd' hw hC (fun v S' M' N' h => by obtain ⟨rfl, rfl, h⟩ := h; exact kk M' N' h)
theorem c_V3p {G : q_G} {d d' : Nat} {μ μ' : q_M} {pc idx : Nat} {L : List (Option Value)} {rest : List Value} {M : q_Mem} {N : q_MemL} {Q : q_Q0} {a0 a1 a2 : Value} {b : Nat} (hd : decode μ.2.1 pc = .ok (.invokevirtual idx, 3)) (hl : q_lk μ.1.cls idx μ'.1) (hm : q_mk μ' 3) (hi : q_mi μ') (hb : q_rc S0 μ'.1.cls b) (hd' : d' + 1 ≤ d) (hw : (rest.map fun v => v.category).sum ≤ 8) {r : Value} (hC : AC0 G d' μ' (.ref b :: [a0, a1, a2]) M N (CV (PU r M N))) (kk : AW0 G d μ (pc + 3) L (r :: rest) M N Q) : AW0 G d μ pc L (a2 :: a1 :: a0 :: .ref b :: rest) M N Q := st_callV (as := [a0, a1, a2]) (rest := rest) (k := 0) (kc := 0) (n := 0) (nc := 0) hd hl hm hi hb hd' hw hC (fun v S' M' N' h => by obtain ⟨rfl, x, rfl, rfl, rfl, rfl⟩ := h; exact kk)
theorem c_V3i {G : q_G} {d d' : Nat} {μ μ' : q_M} {pc idx : Nat} {L : List (Option Value)} {rest : List Value} {M : q_Mem} {N : q_MemL} {Q : q_Q0} {a0 a1 a2 : Value} {b : Nat} (hd : decode μ.2.1 pc = .ok (.invokevirtual idx, 3)) (hl : q_lk μ.1.cls idx μ'.1) (hm : q_mk μ' 3) (hi : q_mi μ') (hb : q_rc S0 μ'.1.cls b) (hd' : d' + 1 ≤ d) (hw : (rest.map fun v => v.category).sum ≤ 8) {P : Value → q_Mem → q_MemL → Prop} (hC : AC0 G d' μ' (.ref b :: [a0, a1, a2]) M N (CV P)) (kk : ∀ x M' N', P x M' N' → AW0 G d μ (pc + 3) L (x :: rest) M' N' Q) : AW0 G d μ pc L (a2 :: a1 :: a0 :: .ref b :: rest) M N Q := st_callV (as := [a0, a1, a2]) (rest := rest) (k := 0) (kc := 0) (n := 0) (nc := 0) hd hl hm hi hb hd' hw hC (fun v S' M' N' h => by obtain ⟨rfl, x, rfl, h⟩ := h; exact kk x M' N' h)
theorem c_V3v {G : q_G} {d d' : Nat} {μ μ' : q_M} {pc idx : Nat} {L : List (Option Value)} {rest : List Value} {M : q_Mem} {N : q_MemL} {Q : q_Q0} {a0 a1 a2 : Value} {b : Nat} (hd : decode μ.2.1 pc = .ok (.invokevirtual idx, 3)) (hl : q_lk μ.1.cls idx μ'.1) (hm : q_mk μ' 3) (hi : q_mi μ') (hb : q_rc S0 μ'.1.cls b) (hd' : d' + 1 ≤ d) (hw : (rest.map fun v => v.category).sum ≤ 8) {P : q_Mem → q_MemL → Prop} (hC : AC0 G d' μ' (.ref b :: [a0, a1, a2]) M N (CN P)) (kk : ∀ M' N', P M' N' → AW0 G d μ (pc + 3) L rest M' N' Q) : AW0 G d μ pc L (a2 :: a1 :: a0 :: .ref b :: rest) M N Q := st_callV (as := [a0, a1, a2]) (rest := rest) (k := 0) (kc := 0) (n := 0) (nc := 0) hd hl hm hi hb hd' hw hC (fun v S' M' N' h => by obtain ⟨rfl, rfl, h⟩ := h; exact kk M' N' h)
theorem c_V4p {G : q_G} {d d' : Nat} {μ μ' : q_M} {pc idx : Nat} {L : List (Option Value)} {rest : List Value} {M : q_Mem} {N : q_MemL} {Q : q_Q0} {a0 a1 a2 a3 : Value} {b : Nat} (hd : decode μ.2.1 pc = .ok (.invokevirtual idx, 3)) (hl : q_lk μ.1.cls idx μ'.1) (hm : q_mk μ' 4) (hi : q_mi μ') (hb : q_rc S0 μ'.1.cls b) (hd' : d' + 1 ≤ d) (hw : (rest.map fun v => v.category).sum ≤ 8) {r : Value} (hC : AC0 G d' μ' (.ref b :: [a0, a1, a2, a3]) M N (CV (PU r M N))) (kk : AW0 G d μ (pc + 3) L (r :: rest) M N Q) : AW0 G d μ pc L (a3 :: a2 :: a1 :: a0 :: .ref b :: rest) M N Q := st_callV (as := [a0, a1, a2, a3]) (rest := rest) (k := 0) (kc := 0) (n := 0) (nc := 0) hd hl hm hi hb hd' hw hC (fun v S' M' N' h => by obtain ⟨rfl, x, rfl, rfl, rfl, rfl⟩ := h; exact kk)
theorem c_V4i {G : q_G} {d d' : Nat} {μ μ' : q_M} {pc idx : Nat} {L : List (Option Value)} {rest : List Value} {M : q_Mem} {N : q_MemL} {Q : q_Q0} {a0 a1 a2 a3 : Value} {b : Nat} (hd : decode μ.2.1 pc = .ok (.invokevirtual idx, 3)) (hl : q_lk μ.1.cls idx μ'.1) (hm : q_mk μ' 4) (hi : q_mi μ') (hb : q_rc S0 μ'.1.cls b) (hd' : d' + 1 ≤ d) (hw : (rest.map fun v => v.category).sum ≤ 8) {P : Value → q_Mem → q_MemL → Prop} (hC : AC0 G d' μ' (.ref b :: [a0, a1, a2, a3]) M N (CV P)) (kk : ∀ x M' N', P x M' N' → AW0 G d μ (pc + 3) L (x :: rest) M' N' Q) : AW0 G d μ pc L (a3 :: a2 :: a1 :: a0 :: .ref b :: rest) M N Q := st_callV (as := [a0, a1, a2, a3]) (rest := rest) (k := 0) (kc := 0) (n := 0) (nc := 0) hd hl hm hi hb hd' hw hC (fun v S' M' N' h => by obtain ⟨rfl, x, rfl, h⟩ := h; exact kk x M' N' h)
theorem c_V4v {G : q_G} {d d' : Nat} {μ μ' : q_M} {pc idx : Nat} {L : List (Option Value)} {rest : List Value} {M : q_Mem} {N : q_MemL} {Q : q_Q0} {a0 a1 a2 a3 : Value} {b : Nat} (hd : decode μ.2.1 pc = .ok (.invokevirtual idx, 3)) (hl : q_lk μ.1.cls idx μ'.1) (hm : q_mk μ' 4) (hi : q_mi μ') (hb : q_rc S0 μ'.1.cls b) (hd' : d' + 1 ≤ d) (hw : (rest.map fun v => v.category).sum ≤ 8) {P : q_Mem → q_MemL → Prop} (hC : AC0 G d' μ' (.ref b :: [a0, a1, a2, a3]) M N (CN P)) (kk : ∀ M' N', P M' N' → AW0 G d μ (pc + 3) L rest M' N' Q) : AW0 G d μ pc L (a3 :: a2 :: a1 :: a0 :: .ref b :: rest) M N Q := st_callV (as := [a0, a1, a2, a3]) (rest := rest) (k := 0) (kc := 0) (n := 0) (nc := 0) hd hl hm hi hb hd' hw hC (fun v S' M' N' h => by obtain ⟨rfl, rfl, h⟩ := h; exact kk M' N' h)
theorem c_V5p {G : q_G} {d d' : Nat} {μ μ' : q_M} {pc idx : Nat} {L : List (Option Value)} {rest : List Value} {M : q_Mem} {N : q_MemL} {Q : q_Q0} {a0 a1 a2 a3 a4 : Value} {b : Nat} (hd : decode μ.2.1 pc = .ok (.invokevirtual idx, 3)) (hl : q_lk μ.1.cls idx μ'.1) (hm : q_mk μ' 5) (hi : q_mi μ') (hb : q_rc S0 μ'.1.cls b) (hd' : d' + 1 ≤ d) (hw : (rest.map fun v => v.category).sum ≤ 8) {r : Value} (hC : AC0 G d' μ' (.ref b :: [a0, a1, a2, a3, a4]) M N (CV (PU r M N))) (kk : AW0 G d μ (pc + 3) L (r :: rest) M N Q) : AW0 G d μ pc L (a4 :: a3 :: a2 :: a1 :: a0 :: .ref b :: rest) M N Q := st_callV (as := [a0, a1, a2, a3, a4]) (rest := rest) (k := 0) (kc := 0) (n := 0) (nc := 0) hd hl hm hi hb hd' hw hC (fun v S' M' N' h => by obtain ⟨rfl, x, rfl, rfl, rfl, rfl⟩ := h; exact kk)
theorem c_V5i {G : q_G} {d d' : Nat} {μ μ' : q_M} {pc idx : Nat} {L : List (Option Value)} {rest : List Value} {M : q_Mem} {N : q_MemL} {Q : q_Q0} {a0 a1 a2 a3 a4 : Value} {b : Nat} (hd : decode μ.2.1 pc = .ok (.invokevirtual idx, 3)) (hl : q_lk μ.1.cls idx μ'.1) (hm : q_mk μ' 5) (hi : q_mi μ') (hb : q_rc S0 μ'.1.cls b) (hd' : d' + 1 ≤ d) (hw : (rest.map fun v => v.category).sum ≤ 8) {P : Value → q_Mem → q_MemL → Prop} (hC : AC0 G d' μ' (.ref b :: [a0, a1, a2, a3, a4]) M N (CV P)) (kk : ∀ x M' N', P x M' N' → AW0 G d μ (pc + 3) L (x :: rest) M' N' Q) : AW0 G d μ pc L (a4 :: a3 :: a2 :: a1 :: a0 :: .ref b :: rest) M N Q := st_callV (as := [a0, a1, a2, a3, a4]) (rest := rest) (k := 0) (kc := 0) (n := 0) (nc := 0) hd hl hm hi hb hd' hw hC (fun v S' M' N' h => by obtain ⟨rfl, x, rfl, h⟩ := h; exact kk x M' N' h)
theorem c_V5v {G : q_G} {d d' : Nat} {μ μ' : q_M} {pc idx : Nat} {L : List (Option Value)} {rest : List Value} {M : q_Mem} {N : q_MemL} {Q : q_Q0} {a0 a1 a2 a3 a4 : Value} {b : Nat} (hd : decode μ.2.1 pc = .ok (.invokevirtual idx, 3)) (hl : q_lk μ.1.cls idx μ'.1) (hm : q_mk μ' 5) (hi : q_mi μ') (hb : q_rc S0 μ'.1.cls b) (hd' : d' + 1 ≤ d) (hw : (rest.map fun v => v.category).sum ≤ 8) {P : q_Mem → q_MemL → Prop} (hC : AC0 G d' μ' (.ref b :: [a0, a1, a2, a3, a4]) M N (CN P)) (kk : ∀ M' N', P M' N' → AW0 G d μ (pc + 3) L rest M' N' Q) : AW0 G d μ pc L (a4 :: a3 :: a2 :: a1 :: a0 :: .ref b :: rest) M N Q := st_callV (as := [a0, a1, a2, a3, a4]) (rest := rest) (k := 0) (kc := 0) (n := 0) (nc := 0) hd hl hm hi hb hd' hw hC (fun v S' M' N' h => by obtain ⟨rfl, rfl, h⟩ := h; exact kk M' N' h)
theorem c_V6p {G : q_G} {d d' : Nat} {μ μ' : q_M} {pc idx : Nat} {L : List (Option Value)} {rest : List Value} {M : q_Mem} {N : q_MemL} {Q : q_Q0} {a0 a1 a2 a3 a4 a5 : Value} {b : Nat} (hd : decode μ.2.1 pc = .ok (.invokevirtual idx, 3)) (hl : q_lk μ.1.cls idx μ'.1) (hm : q_mk μ' 6) (hi : q_mi μ') (hb : q_rc S0 μ'.1.cls b) (hd' : d' + 1 ≤ d) (hw : (rest.map fun v => v.category).sum ≤ 8) {r : Value} (hC : AC0 G d' μ' (.ref b :: [a0, a1, a2, a3, a4, a5]) M N (CV (PU r M N))) (kk : AW0 G d μ (pc + 3) L (r :: rest) M N Q) : AW0 G d μ pc L (a5 :: a4 :: a3 :: a2 :: a1 :: a0 :: .ref b :: rest) M N Q := st_callV (as := [a0, a1, a2, a3, a4, a5]) (rest := rest) (k := 0) (kc := 0) (n := 0) (nc := 0) hd hl hm hi hb hd' hw hC (fun v S' M' N' h => by obtain ⟨rfl, x, rfl, rfl, rfl, rfl⟩ := h; exact kk)
theorem c_V6i {G : q_G} {d d' : Nat} {μ μ' : q_M} {pc idx : Nat} {L : List (Option Value)} {rest : List Value} {M : q_Mem} {N : q_MemL} {Q : q_Q0} {a0 a1 a2 a3 a4 a5 : Value} {b : Nat} (hd : decode μ.2.1 pc = .ok (.invokevirtual idx, 3)) (hl : q_lk μ.1.cls idx μ'.1) (hm : q_mk μ' 6) (hi : q_mi μ') (hb : q_rc S0 μ'.1.cls b) (hd' : d' + 1 ≤ d) (hw : (rest.map fun v => v.category).sum ≤ 8) {P : Value → q_Mem → q_MemL → Prop} (hC : AC0 G d' μ' (.ref b :: [a0, a1, a2, a3, a4, a5]) M N (CV P)) (kk : ∀ x M' N', P x M' N' → AW0 G d μ (pc + 3) L (x :: rest) M' N' Q) : AW0 G d μ pc L (a5 :: a4 :: a3 :: a2 :: a1 :: a0 :: .ref b :: rest) M N Q := st_callV (as := [a0, a1, a2, a3, a4, a5]) (rest := rest) (k := 0) (kc := 0) (n := 0) (nc := 0) hd hl hm hi hb hd' hw hC (fun v S' M' N' h => by obtain ⟨rfl, x, rfl, h⟩ := h; exact kk x M' N' h)
theorem c_V6v {G : q_G} {d d' : Nat} {μ μ' : q_M} {pc idx : Nat} {L : List (Option Value)} {rest : List Value} {M : q_Mem} {N : q_MemL} {Q : q_Q0} {a0 a1 a2 a3 a4 a5 : Value} {b : Nat} (hd : decode μ.2.1 pc = .ok (.invokevirtual idx, 3)) (hl : q_lk μ.1.cls idx μ'.1) (hm : q_mk μ' 6) (hi : q_mi μ') (hb : q_rc S0 μ'.1.cls b) (hd' : d' + 1 ≤ d) (hw : (rest.map fun v => v.category).sum ≤ 8) {P : q_Mem → q_MemL → Prop} (hC : AC0 G d' μ' (.ref b :: [a0, a1, a2, a3, a4, a5]) M N (CN P)) (kk : ∀ M' N', P M' N' → AW0 G d μ (pc + 3) L rest M' N' Q) : AW0 G d μ pc L (a5 :: a4 :: a3 :: a2 :: a1 :: a0 :: .ref b :: rest) M N Q := st_callV (as := [a0, a1, a2, a3, a4, a5]) (rest := rest) (k := 0) (kc := 0) (n := 0) (nc := 0) hd hl hm hi hb hd' hw hC (fun v S' M' N' h => by obtain ⟨rfl, rfl, h⟩ := h; exact kk M' N' h)
theorem c_V7p {G : q_G} {d d' : Nat} {μ μ' : q_M} {pc idx : Nat} {L : List (Option Value)} {rest : List Value} {M : q_Mem} {N : q_MemL} {Q : q_Q0} {a0 a1 a2 a3 a4 a5 a6 : Value} {b : Nat} (hd : decode μ.2.1 pc = .ok (.invokevirtual idx, 3)) (hl : q_lk μ.1.cls idx μ'.1) (hm : q_mk μ' 7) (hi : q_mi μ') (hb : q_rc S0 μ'.1.cls b) (hd' : d' + 1 ≤ d) (hw : (rest.map fun v => v.category).sum ≤ 8) {r : Value} (hC : AC0 G d' μ' (.ref b :: [a0, a1, a2, a3, a4, a5, a6]) M N (CV (PU r M N))) (kk : AW0 G d μ (pc + 3) L (r :: rest) M N Q) : AW0 G d μ pc L (a6 :: a5 :: a4 :: a3 :: a2 :: a1 :: a0 :: .ref b :: rest) M N Q := st_callV (as := [a0, a1, a2, a3, a4, a5, a6]) (rest := rest) (k := 0) (kc := 0) (n := 0) (nc := 0) hd hl hm hi hb hd' hw hC (fun v S' M' N' h => by obtain ⟨rfl, x, rfl, rfl, rfl, rfl⟩ := h; exact kk)
theorem c_V7i {G : q_G} {d d' : Nat} {μ μ' : q_M} {pc idx : Nat} {L : List (Option Value)} {rest : List Value} {M : q_Mem} {N : q_MemL} {Q : q_Q0} {a0 a1 a2 a3 a4 a5 a6 : Value} {b : Nat} (hd : decode μ.2.1 pc = .ok (.invokevirtual idx, 3)) (hl : q_lk μ.1.cls idx μ'.1) (hm : q_mk μ' 7) (hi : q_mi μ') (hb : q_rc S0 μ'.1.cls b) (hd' : d' + 1 ≤ d) (hw : (rest.map fun v => v.category).sum ≤ 8) {P : Value → q_Mem → q_MemL → Prop} (hC : AC0 G d' μ' (.ref b :: [a0, a1, a2, a3, a4, a5, a6]) M N (CV P)) (kk : ∀ x M' N', P x M' N' → AW0 G d μ (pc + 3) L (x :: rest) M' N' Q) : AW0 G d μ pc L (a6 :: a5 :: a4 :: a3 :: a2 :: a1 :: a0 :: .ref b :: rest) M N Q := st_callV (as := [a0, a1, a2, a3, a4, a5, a6]) (rest := rest) (k := 0) (kc := 0) (n := 0) (nc := 0) hd hl hm hi hb hd' hw hC (fun v S' M' N' h => by obtain ⟨rfl, x, rfl, h⟩ := h; exact kk x M' N' h)
theorem c_V7v {G : q_G} {d d' : Nat} {μ μ' : q_M} {pc idx : Nat} {L : List (Option Value)} {rest : List Value} {M : q_Mem} {N : q_MemL} {Q : q_Q0} {a0 a1 a2 a3 a4 a5 a6 : Value} {b : Nat} (hd : decode μ.2.1 pc = .ok (.invokevirtual idx, 3)) (hl : q_lk μ.1.cls idx μ'.1) (hm : q_mk μ' 7) (hi : q_mi μ') (hb : q_rc S0 μ'.1.cls b) (hd' : d' + 1 ≤ d) (hw : (rest.map fun v => v.category).sum ≤ 8) {P : q_Mem → q_MemL → Prop} (hC : AC0 G d' μ' (.ref b :: [a0, a1, a2, a3, a4, a5, a6]) M N (CN P)) (kk : ∀ M' N', P M' N' → AW0 G d μ (pc + 3) L rest M' N' Q) : AW0 G d μ pc L (a6 :: a5 :: a4 :: a3 :: a2 :: a1 :: a0 :: .ref b :: rest) M N Q := st_callV (as := [a0, a1, a2, a3, a4, a5, a6]) (rest := rest) (k := 0) (kc := 0) (n := 0) (nc := 0) hd hl hm hi hb hd' hw hC (fun v S' M' N' h => by obtain ⟨rfl, rfl, h⟩ := h; exact kk M' N' h)
theorem c_S0p {G : q_G} {d d' : Nat} {μ μ' : q_M} {pc idx : Nat} {L : List (Option Value)} {rest : List Value} {M : q_Mem} {N : q_MemL} {Q : q_Q0}  (hd : decode μ.2.1 pc = .ok (.invokestatic idx, 3)) (hl : q_lk μ.1.cls idx μ'.1) (hm : q_mk μ' 0) (hi : Cond.static μ'.1 ∈ q_W) (hd' : d' + 1 ≤ d) (hw : (rest.map fun v => v.category).sum ≤ 8) {r : Value} (hC : AC0 G d' μ' [] M N (CV (PU r M N))) (kk : AW0 G d μ (pc + 3) L (r :: rest) M N Q) : AW0 G d μ pc L (rest) M N Q := st_callS (as := []) (rest := rest) (k := 0) (kc := 0) (n := 0) (nc := 0) hd hl hm hi hd' hw hC (fun v S' M' N' h => by obtain ⟨rfl, x, rfl, rfl, rfl, rfl⟩ := h; exact kk)
theorem c_S0i {G : q_G} {d d' : Nat} {μ μ' : q_M} {pc idx : Nat} {L : List (Option Value)} {rest : List Value} {M : q_Mem} {N : q_MemL} {Q : q_Q0}  (hd : decode μ.2.1 pc = .ok (.invokestatic idx, 3)) (hl : q_lk μ.1.cls idx μ'.1) (hm : q_mk μ' 0) (hi : Cond.static μ'.1 ∈ q_W) (hd' : d' + 1 ≤ d) (hw : (rest.map fun v => v.category).sum ≤ 8) {P : Value → q_Mem → q_MemL → Prop} (hC : AC0 G d' μ' [] M N (CV P)) (kk : ∀ x M' N', P x M' N' → AW0 G d μ (pc + 3) L (x :: rest) M' N' Q) : AW0 G d μ pc L (rest) M N Q := st_callS (as := []) (rest := rest) (k := 0) (kc := 0) (n := 0) (nc := 0) hd hl hm hi hd' hw hC (fun v S' M' N' h => by obtain ⟨rfl, x, rfl, h⟩ := h; exact kk x M' N' h)
theorem c_S0v {G : q_G} {d d' : Nat} {μ μ' : q_M} {pc idx : Nat} {L : List (Option Value)} {rest : List Value} {M : q_Mem} {N : q_MemL} {Q : q_Q0}  (hd : decode μ.2.1 pc = .ok (.invokestatic idx, 3)) (hl : q_lk μ.1.cls idx μ'.1) (hm : q_mk μ' 0) (hi : Cond.static μ'.1 ∈ q_W) (hd' : d' + 1 ≤ d) (hw : (rest.map fun v => v.category).sum ≤ 8) {P : q_Mem → q_MemL → Prop} (hC : AC0 G d' μ' [] M N (CN P)) (kk : ∀ M' N', P M' N' → AW0 G d μ (pc + 3) L rest M' N' Q) : AW0 G d μ pc L (rest) M N Q := st_callS (as := []) (rest := rest) (k := 0) (kc := 0) (n := 0) (nc := 0) hd hl hm hi hd' hw hC (fun v S' M' N' h => by obtain ⟨rfl, rfl, h⟩ := h; exact kk M' N' h)
theorem c_S1p {G : q_G} {d d' : Nat} {μ μ' : q_M} {pc idx : Nat} {L : List (Option Value)} {rest : List Value} {M : q_Mem} {N : q_MemL} {Q : q_Q0} {a0 : Value} (hd : decode μ.2.1 pc = .ok (.invokestatic idx, 3)) (hl : q_lk μ.1.cls idx μ'.1) (hm : q_mk μ' 1) (hi : Cond.static μ'.1 ∈ q_W) (hd' : d' + 1 ≤ d) (hw : (rest.map fun v => v.category).sum ≤ 8) {r : Value} (hC : AC0 G d' μ' [a0] M N (CV (PU r M N))) (kk : AW0 G d μ (pc + 3) L (r :: rest) M N Q) : AW0 G d μ pc L (a0 :: rest) M N Q := st_callS (as := [a0]) (rest := rest) (k := 0) (kc := 0) (n := 0) (nc := 0) hd hl hm hi hd' hw hC (fun v S' M' N' h => by obtain ⟨rfl, x, rfl, rfl, rfl, rfl⟩ := h; exact kk)
theorem c_S1i {G : q_G} {d d' : Nat} {μ μ' : q_M} {pc idx : Nat} {L : List (Option Value)} {rest : List Value} {M : q_Mem} {N : q_MemL} {Q : q_Q0} {a0 : Value} (hd : decode μ.2.1 pc = .ok (.invokestatic idx, 3)) (hl : q_lk μ.1.cls idx μ'.1) (hm : q_mk μ' 1) (hi : Cond.static μ'.1 ∈ q_W) (hd' : d' + 1 ≤ d) (hw : (rest.map fun v => v.category).sum ≤ 8) {P : Value → q_Mem → q_MemL → Prop} (hC : AC0 G d' μ' [a0] M N (CV P)) (kk : ∀ x M' N', P x M' N' → AW0 G d μ (pc + 3) L (x :: rest) M' N' Q) : AW0 G d μ pc L (a0 :: rest) M N Q := st_callS (as := [a0]) (rest := rest) (k := 0) (kc := 0) (n := 0) (nc := 0) hd hl hm hi hd' hw hC (fun v S' M' N' h => by obtain ⟨rfl, x, rfl, h⟩ := h; exact kk x M' N' h)
theorem c_S1v {G : q_G} {d d' : Nat} {μ μ' : q_M} {pc idx : Nat} {L : List (Option Value)} {rest : List Value} {M : q_Mem} {N : q_MemL} {Q : q_Q0} {a0 : Value} (hd : decode μ.2.1 pc = .ok (.invokestatic idx, 3)) (hl : q_lk μ.1.cls idx μ'.1) (hm : q_mk μ' 1) (hi : Cond.static μ'.1 ∈ q_W) (hd' : d' + 1 ≤ d) (hw : (rest.map fun v => v.category).sum ≤ 8) {P : q_Mem → q_MemL → Prop} (hC : AC0 G d' μ' [a0] M N (CN P)) (kk : ∀ M' N', P M' N' → AW0 G d μ (pc + 3) L rest M' N' Q) : AW0 G d μ pc L (a0 :: rest) M N Q := st_callS (as := [a0]) (rest := rest) (k := 0) (kc := 0) (n := 0) (nc := 0) hd hl hm hi hd' hw hC (fun v S' M' N' h => by obtain ⟨rfl, rfl, h⟩ := h; exact kk M' N' h)
theorem c_S2p {G : q_G} {d d' : Nat} {μ μ' : q_M} {pc idx : Nat} {L : List (Option Value)} {rest : List Value} {M : q_Mem} {N : q_MemL} {Q : q_Q0} {a0 a1 : Value} (hd : decode μ.2.1 pc = .ok (.invokestatic idx, 3)) (hl : q_lk μ.1.cls idx μ'.1) (hm : q_mk μ' 2) (hi : Cond.static μ'.1 ∈ q_W) (hd' : d' + 1 ≤ d) (hw : (rest.map fun v => v.category).sum ≤ 8) {r : Value} (hC : AC0 G d' μ' [a0, a1] M N (CV (PU r M N))) (kk : AW0 G d μ (pc + 3) L (r :: rest) M N Q) : AW0 G d μ pc L (a1 :: a0 :: rest) M N Q := st_callS (as := [a0, a1]) (rest := rest) (k := 0) (kc := 0) (n := 0) (nc := 0) hd hl hm hi hd' hw hC (fun v S' M' N' h => by obtain ⟨rfl, x, rfl, rfl, rfl, rfl⟩ := h; exact kk)
theorem c_S2i {G : q_G} {d d' : Nat} {μ μ' : q_M} {pc idx : Nat} {L : List (Option Value)} {rest : List Value} {M : q_Mem} {N : q_MemL} {Q : q_Q0} {a0 a1 : Value} (hd : decode μ.2.1 pc = .ok (.invokestatic idx, 3)) (hl : q_lk μ.1.cls idx μ'.1) (hm : q_mk μ' 2) (hi : Cond.static μ'.1 ∈ q_W) (hd' : d' + 1 ≤ d) (hw : (rest.map fun v => v.category).sum ≤ 8) {P : Value → q_Mem → q_MemL → Prop} (hC : AC0 G d' μ' [a0, a1] M N (CV P)) (kk : ∀ x M' N', P x M' N' → AW0 G d μ (pc + 3) L (x :: rest) M' N' Q) : AW0 G d μ pc L (a1 :: a0 :: rest) M N Q := st_callS (as := [a0, a1]) (rest := rest) (k := 0) (kc := 0) (n := 0) (nc := 0) hd hl hm hi hd' hw hC (fun v S' M' N' h => by obtain ⟨rfl, x, rfl, h⟩ := h; exact kk x M' N' h)
theorem c_S2v {G : q_G} {d d' : Nat} {μ μ' : q_M} {pc idx : Nat} {L : List (Option Value)} {rest : List Value} {M : q_Mem} {N : q_MemL} {Q : q_Q0} {a0 a1 : Value} (hd : decode μ.2.1 pc = .ok (.invokestatic idx, 3)) (hl : q_lk μ.1.cls idx μ'.1) (hm : q_mk μ' 2) (hi : Cond.static μ'.1 ∈ q_W) (hd' : d' + 1 ≤ d) (hw : (rest.map fun v => v.category).sum ≤ 8) {P : q_Mem → q_MemL → Prop} (hC : AC0 G d' μ' [a0, a1] M N (CN P)) (kk : ∀ M' N', P M' N' → AW0 G d μ (pc + 3) L rest M' N' Q) : AW0 G d μ pc L (a1 :: a0 :: rest) M N Q := st_callS (as := [a0, a1]) (rest := rest) (k := 0) (kc := 0) (n := 0) (nc := 0) hd hl hm hi hd' hw hC (fun v S' M' N' h => by obtain ⟨rfl, rfl, h⟩ := h; exact kk M' N' h)
theorem c_S3p {G : q_G} {d d' : Nat} {μ μ' : q_M} {pc idx : Nat} {L : List (Option Value)} {rest : List Value} {M : q_Mem} {N : q_MemL} {Q : q_Q0} {a0 a1 a2 : Value} (hd : decode μ.2.1 pc = .ok (.invokestatic idx, 3)) (hl : q_lk μ.1.cls idx μ'.1) (hm : q_mk μ' 3) (hi : Cond.static μ'.1 ∈ q_W) (hd' : d' + 1 ≤ d) (hw : (rest.map fun v => v.category).sum ≤ 8) {r : Value} (hC : AC0 G d' μ' [a0, a1, a2] M N (CV (PU r M N))) (kk : AW0 G d μ (pc + 3) L (r :: rest) M N Q) : AW0 G d μ pc L (a2 :: a1 :: a0 :: rest) M N Q := st_callS (as := [a0, a1, a2]) (rest := rest) (k := 0) (kc := 0) (n := 0) (nc := 0) hd hl hm hi hd' hw hC (fun v S' M' N' h => by obtain ⟨rfl, x, rfl, rfl, rfl, rfl⟩ := h; exact kk)
theorem c_S3i {G : q_G} {d d' : Nat} {μ μ' : q_M} {pc idx : Nat} {L : List (Option Value)} {rest : List Value} {M : q_Mem} {N : q_MemL} {Q : q_Q0} {a0 a1 a2 : Value} (hd : decode μ.2.1 pc = .ok (.invokestatic idx, 3)) (hl : q_lk μ.1.cls idx μ'.1) (hm : q_mk μ' 3) (hi : Cond.static μ'.1 ∈ q_W) (hd' : d' + 1 ≤ d) (hw : (rest.map fun v => v.category).sum ≤ 8) {P : Value → q_Mem → q_MemL → Prop} (hC : AC0 G d' μ' [a0, a1, a2] M N (CV P)) (kk : ∀ x M' N', P x M' N' → AW0 G d μ (pc + 3) L (x :: rest) M' N' Q) : AW0 G d μ pc L (a2 :: a1 :: a0 :: rest) M N Q := st_callS (as := [a0, a1, a2]) (rest := rest) (k := 0) (kc := 0) (n := 0) (nc := 0) hd hl hm hi hd' hw hC (fun v S' M' N' h => by obtain ⟨rfl, x, rfl, h⟩ := h; exact kk x M' N' h)
theorem c_S3v {G : q_G} {d d' : Nat} {μ μ' : q_M} {pc idx : Nat} {L : List (Option Value)} {rest : List Value} {M : q_Mem} {N : q_MemL} {Q : q_Q0} {a0 a1 a2 : Value} (hd : decode μ.2.1 pc = .ok (.invokestatic idx, 3)) (hl : q_lk μ.1.cls idx μ'.1) (hm : q_mk μ' 3) (hi : Cond.static μ'.1 ∈ q_W) (hd' : d' + 1 ≤ d) (hw : (rest.map fun v => v.category).sum ≤ 8) {P : q_Mem → q_MemL → Prop} (hC : AC0 G d' μ' [a0, a1, a2] M N (CN P)) (kk : ∀ M' N', P M' N' → AW0 G d μ (pc + 3) L rest M' N' Q) : AW0 G d μ pc L (a2 :: a1 :: a0 :: rest) M N Q := st_callS (as := [a0, a1, a2]) (rest := rest) (k := 0) (kc := 0) (n := 0) (nc := 0) hd hl hm hi hd' hw hC (fun v S' M' N' h => by obtain ⟨rfl, rfl, h⟩ := h; exact kk M' N' h)
theorem c_S4p {G : q_G} {d d' : Nat} {μ μ' : q_M} {pc idx : Nat} {L : List (Option Value)} {rest : List Value} {M : q_Mem} {N : q_MemL} {Q : q_Q0} {a0 a1 a2 a3 : Value} (hd : decode μ.2.1 pc = .ok (.invokestatic idx, 3)) (hl : q_lk μ.1.cls idx μ'.1) (hm : q_mk μ' 4) (hi : Cond.static μ'.1 ∈ q_W) (hd' : d' + 1 ≤ d) (hw : (rest.map fun v => v.category).sum ≤ 8) {r : Value} (hC : AC0 G d' μ' [a0, a1, a2, a3] M N (CV (PU r M N))) (kk : AW0 G d μ (pc + 3) L (r :: rest) M N Q) : AW0 G d μ pc L (a3 :: a2 :: a1 :: a0 :: rest) M N Q := st_callS (as := [a0, a1, a2, a3]) (rest := rest) (k := 0) (kc := 0) (n := 0) (nc := 0) hd hl hm hi hd' hw hC (fun v S' M' N' h => by obtain ⟨rfl, x, rfl, rfl, rfl, rfl⟩ := h; exact kk)
theorem c_S4i {G : q_G} {d d' : Nat} {μ μ' : q_M} {pc idx : Nat} {L : List (Option Value)} {rest : List Value} {M : q_Mem} {N : q_MemL} {Q : q_Q0} {a0 a1 a2 a3 : Value} (hd : decode μ.2.1 pc = .ok (.invokestatic idx, 3)) (hl : q_lk μ.1.cls idx μ'.1) (hm : q_mk μ' 4) (hi : Cond.static μ'.1 ∈ q_W) (hd' : d' + 1 ≤ d) (hw : (rest.map fun v => v.category).sum ≤ 8) {P : Value → q_Mem → q_MemL → Prop} (hC : AC0 G d' μ' [a0, a1, a2, a3] M N (CV P)) (kk : ∀ x M' N', P x M' N' → AW0 G d μ (pc + 3) L (x :: rest) M' N' Q) : AW0 G d μ pc L (a3 :: a2 :: a1 :: a0 :: rest) M N Q := st_callS (as := [a0, a1, a2, a3]) (rest := rest) (k := 0) (kc := 0) (n := 0) (nc := 0) hd hl hm hi hd' hw hC (fun v S' M' N' h => by obtain ⟨rfl, x, rfl, h⟩ := h; exact kk x M' N' h)
theorem c_S4v {G : q_G} {d d' : Nat} {μ μ' : q_M} {pc idx : Nat} {L : List (Option Value)} {rest : List Value} {M : q_Mem} {N : q_MemL} {Q : q_Q0} {a0 a1 a2 a3 : Value} (hd : decode μ.2.1 pc = .ok (.invokestatic idx, 3)) (hl : q_lk μ.1.cls idx μ'.1) (hm : q_mk μ' 4) (hi : Cond.static μ'.1 ∈ q_W) (hd' : d' + 1 ≤ d) (hw : (rest.map fun v => v.category).sum ≤ 8) {P : q_Mem → q_MemL → Prop} (hC : AC0 G d' μ' [a0, a1, a2, a3] M N (CN P)) (kk : ∀ M' N', P M' N' → AW0 G d μ (pc + 3) L rest M' N' Q) : AW0 G d μ pc L (a3 :: a2 :: a1 :: a0 :: rest) M N Q := st_callS (as := [a0, a1, a2, a3]) (rest := rest) (k := 0) (kc := 0) (n := 0) (nc := 0) hd hl hm hi hd' hw hC (fun v S' M' N' h => by obtain ⟨rfl, rfl, h⟩ := h; exact kk M' N' h)
theorem c_S5p {G : q_G} {d d' : Nat} {μ μ' : q_M} {pc idx : Nat} {L : List (Option Value)} {rest : List Value} {M : q_Mem} {N : q_MemL} {Q : q_Q0} {a0 a1 a2 a3 a4 : Value} (hd : decode μ.2.1 pc = .ok (.invokestatic idx, 3)) (hl : q_lk μ.1.cls idx μ'.1) (hm : q_mk μ' 5) (hi : Cond.static μ'.1 ∈ q_W) (hd' : d' + 1 ≤ d) (hw : (rest.map fun v => v.category).sum ≤ 8) {r : Value} (hC : AC0 G d' μ' [a0, a1, a2, a3, a4] M N (CV (PU r M N))) (kk : AW0 G d μ (pc + 3) L (r :: rest) M N Q) : AW0 G d μ pc L (a4 :: a3 :: a2 :: a1 :: a0 :: rest) M N Q := st_callS (as := [a0, a1, a2, a3, a4]) (rest := rest) (k := 0) (kc := 0) (n := 0) (nc := 0) hd hl hm hi hd' hw hC (fun v S' M' N' h => by obtain ⟨rfl, x, rfl, rfl, rfl, rfl⟩ := h; exact kk)
theorem c_S5i {G : q_G} {d d' : Nat} {μ μ' : q_M} {pc idx : Nat} {L : List (Option Value)} {rest : List Value} {M : q_Mem} {N : q_MemL} {Q : q_Q0} {a0 a1 a2 a3 a4 : Value} (hd : decode μ.2.1 pc = .ok (.invokestatic idx, 3)) (hl : q_lk μ.1.cls idx μ'.1) (hm : q_mk μ' 5) (hi : Cond.static μ'.1 ∈ q_W) (hd' : d' + 1 ≤ d) (hw : (rest.map fun v => v.category).sum ≤ 8) {P : Value → q_Mem → q_MemL → Prop} (hC : AC0 G d' μ' [a0, a1, a2, a3, a4] M N (CV P)) (kk : ∀ x M' N', P x M' N' → AW0 G d μ (pc + 3) L (x :: rest) M' N' Q) : AW0 G d μ pc L (a4 :: a3 :: a2 :: a1 :: a0 :: rest) M N Q := st_callS (as := [a0, a1, a2, a3, a4]) (rest := rest) (k := 0) (kc := 0) (n := 0) (nc := 0) hd hl hm hi hd' hw hC (fun v S' M' N' h => by obtain ⟨rfl, x, rfl, h⟩ := h; exact kk x M' N' h)
theorem c_S5v {G : q_G} {d d' : Nat} {μ μ' : q_M} {pc idx : Nat} {L : List (Option Value)} {rest : List Value} {M : q_Mem} {N : q_MemL} {Q : q_Q0} {a0 a1 a2 a3 a4 : Value} (hd : decode μ.2.1 pc = .ok (.invokestatic idx, 3)) (hl : q_lk μ.1.cls idx μ'.1) (hm : q_mk μ' 5) (hi : Cond.static μ'.1 ∈ q_W) (hd' : d' + 1 ≤ d) (hw : (rest.map fun v => v.category).sum ≤ 8) {P : q_Mem → q_MemL → Prop} (hC : AC0 G d' μ' [a0, a1, a2, a3, a4] M N (CN P)) (kk : ∀ M' N', P M' N' → AW0 G d μ (pc + 3) L rest M' N' Q) : AW0 G d μ pc L (a4 :: a3 :: a2 :: a1 :: a0 :: rest) M N Q := st_callS (as := [a0, a1, a2, a3, a4]) (rest := rest) (k := 0) (kc := 0) (n := 0) (nc := 0) hd hl hm hi hd' hw hC (fun v S' M' N' h => by obtain ⟨rfl, rfl, h⟩ := h; exact kk M' N' h)
theorem c_S6p {G : q_G} {d d' : Nat} {μ μ' : q_M} {pc idx : Nat} {L : List (Option Value)} {rest : List Value} {M : q_Mem} {N : q_MemL} {Q : q_Q0} {a0 a1 a2 a3 a4 a5 : Value} (hd : decode μ.2.1 pc = .ok (.invokestatic idx, 3)) (hl : q_lk μ.1.cls idx μ'.1) (hm : q_mk μ' 6) (hi : Cond.static μ'.1 ∈ q_W) (hd' : d' + 1 ≤ d) (hw : (rest.map fun v => v.category).sum ≤ 8) {r : Value} (hC : AC0 G d' μ' [a0, a1, a2, a3, a4, a5] M N (CV (PU r M N))) (kk : AW0 G d μ (pc + 3) L (r :: rest) M N Q) : AW0 G d μ pc L (a5 :: a4 :: a3 :: a2 :: a1 :: a0 :: rest) M N Q := st_callS (as := [a0, a1, a2, a3, a4, a5]) (rest := rest) (k := 0) (kc := 0) (n := 0) (nc := 0) hd hl hm hi hd' hw hC (fun v S' M' N' h => by obtain ⟨rfl, x, rfl, rfl, rfl, rfl⟩ := h; exact kk)
theorem c_S6i {G : q_G} {d d' : Nat} {μ μ' : q_M} {pc idx : Nat} {L : List (Option Value)} {rest : List Value} {M : q_Mem} {N : q_MemL} {Q : q_Q0} {a0 a1 a2 a3 a4 a5 : Value} (hd : decode μ.2.1 pc = .ok (.invokestatic idx, 3)) (hl : q_lk μ.1.cls idx μ'.1) (hm : q_mk μ' 6) (hi : Cond.static μ'.1 ∈ q_W) (hd' : d' + 1 ≤ d) (hw : (rest.map fun v => v.category).sum ≤ 8) {P : Value → q_Mem → q_MemL → Prop} (hC : AC0 G d' μ' [a0, a1, a2, a3, a4, a5] M N (CV P)) (kk : ∀ x M' N', P x M' N' → AW0 G d μ (pc + 3) L (x :: rest) M' N' Q) : AW0 G d μ pc L (a5 :: a4 :: a3 :: a2 :: a1 :: a0 :: rest) M N Q := st_callS (as := [a0, a1, a2, a3, a4, a5]) (rest := rest) (k := 0) (kc := 0) (n := 0) (nc := 0) hd hl hm hi hd' hw hC (fun v S' M' N' h => by obtain ⟨rfl, x, rfl, h⟩ := h; exact kk x M' N' h)
theorem c_S6v {G : q_G} {d d' : Nat} {μ μ' : q_M} {pc idx : Nat} {L : List (Option Value)} {rest : List Value} {M : q_Mem} {N : q_MemL} {Q : q_Q0} {a0 a1 a2 a3 a4 a5 : Value} (hd : decode μ.2.1 pc = .ok (.invokestatic idx, 3)) (hl : q_lk μ.1.cls idx μ'.1) (hm : q_mk μ' 6) (hi : Cond.static μ'.1 ∈ q_W) (hd' : d' + 1 ≤ d) (hw : (rest.map fun v => v.category).sum ≤ 8) {P : q_Mem → q_MemL → Prop} (hC : AC0 G d' μ' [a0, a1, a2, a3, a4, a5] M N (CN P)) (kk : ∀ M' N', P M' N' → AW0 G d μ (pc + 3) L rest M' N' Q) : AW0 G d μ pc L (a5 :: a4 :: a3 :: a2 :: a1 :: a0 :: rest) M N Q := st_callS (as := [a0, a1, a2, a3, a4, a5]) (rest := rest) (k := 0) (kc := 0) (n := 0) (nc := 0) hd hl hm hi hd' hw hC (fun v S' M' N' h => by obtain ⟨rfl, rfl, h⟩ := h; exact kk M' N' h)
theorem c_S7p {G : q_G} {d d' : Nat} {μ μ' : q_M} {pc idx : Nat} {L : List (Option Value)} {rest : List Value} {M : q_Mem} {N : q_MemL} {Q : q_Q0} {a0 a1 a2 a3 a4 a5 a6 : Value} (hd : decode μ.2.1 pc = .ok (.invokestatic idx, 3)) (hl : q_lk μ.1.cls idx μ'.1) (hm : q_mk μ' 7) (hi : Cond.static μ'.1 ∈ q_W) (hd' : d' + 1 ≤ d) (hw : (rest.map fun v => v.category).sum ≤ 8) {r : Value} (hC : AC0 G d' μ' [a0, a1, a2, a3, a4, a5, a6] M N (CV (PU r M N))) (kk : AW0 G d μ (pc + 3) L (r :: rest) M N Q) : AW0 G d μ pc L (a6 :: a5 :: a4 :: a3 :: a2 :: a1 :: a0 :: rest) M N Q := st_callS (as := [a0, a1, a2, a3, a4, a5, a6]) (rest := rest) (k := 0) (kc := 0) (n := 0) (nc := 0) hd hl hm hi hd' hw hC (fun v S' M' N' h => by obtain ⟨rfl, x, rfl, rfl, rfl, rfl⟩ := h; exact kk)
theorem c_S7i {G : q_G} {d d' : Nat} {μ μ' : q_M} {pc idx : Nat} {L : List (Option Value)} {rest : List Value} {M : q_Mem} {N : q_MemL} {Q : q_Q0} {a0 a1 a2 a3 a4 a5 a6 : Value} (hd : decode μ.2.1 pc = .ok (.invokestatic idx, 3)) (hl : q_lk μ.1.cls idx μ'.1) (hm : q_mk μ' 7) (hi : Cond.static μ'.1 ∈ q_W) (hd' : d' + 1 ≤ d) (hw : (rest.map fun v => v.category).sum ≤ 8) {P : Value → q_Mem → q_MemL → Prop} (hC : AC0 G d' μ' [a0, a1, a2, a3, a4, a5, a6] M N (CV P)) (kk : ∀ x M' N', P x M' N' → AW0 G d μ (pc + 3) L (x :: rest) M' N' Q) : AW0 G d μ pc L (a6 :: a5 :: a4 :: a3 :: a2 :: a1 :: a0 :: rest) M N Q := st_callS (as := [a0, a1, a2, a3, a4, a5, a6]) (rest := rest) (k := 0) (kc := 0) (n := 0) (nc := 0) hd hl hm hi hd' hw hC (fun v S' M' N' h => by obtain ⟨rfl, x, rfl, h⟩ := h; exact kk x M' N' h)
theorem c_S7v {G : q_G} {d d' : Nat} {μ μ' : q_M} {pc idx : Nat} {L : List (Option Value)} {rest : List Value} {M : q_Mem} {N : q_MemL} {Q : q_Q0} {a0 a1 a2 a3 a4 a5 a6 : Value} (hd : decode μ.2.1 pc = .ok (.invokestatic idx, 3)) (hl : q_lk μ.1.cls idx μ'.1) (hm : q_mk μ' 7) (hi : Cond.static μ'.1 ∈ q_W) (hd' : d' + 1 ≤ d) (hw : (rest.map fun v => v.category).sum ≤ 8) {P : q_Mem → q_MemL → Prop} (hC : AC0 G d' μ' [a0, a1, a2, a3, a4, a5, a6] M N (CN P)) (kk : ∀ M' N', P M' N' → AW0 G d μ (pc + 3) L rest M' N' Q) : AW0 G d μ pc L (a6 :: a5 :: a4 :: a3 :: a2 :: a1 :: a0 :: rest) M N Q := st_callS (as := [a0, a1, a2, a3, a4, a5, a6]) (rest := rest) (k := 0) (kc := 0) (n := 0) (nc := 0) hd hl hm hi hd' hw hC (fun v S' M' N' h => by obtain ⟨rfl, rfl, h⟩ := h; exact kk M' N' h)
theorem pn_X0 : plainName RX0 = true := by decide +kernel
theorem pn_X1 : plainName RX1 = true := by decide +kernel
theorem pn_X2 : plainName RX2 = true := by decide +kernel
theorem pn_X3 : plainName RX3 = true := by decide +kernel
theorem pn_X4 : plainName RX4 = true := by decide +kernel
theorem pn_X5 : plainName RX5 = true := by decide +kernel
theorem pn_X6 : plainName RX6 = true := by decide +kernel
theorem pn_X7 : plainName RX7 = true := by decide +kernel
theorem pn_X8 : plainName RX8 = true := by decide +kernel
theorem pn_X9 : plainName RX9 = true := by decide +kernel
theorem pn_X10 : plainName RX10 = true := by decide +kernel
theorem pn_X11 : plainName RX11 = true := by decide +kernel
theorem pn_J0 : plainName RJ0 = true := by decide +kernel
theorem pn_J1 : plainName RJ1 = true := by decide +kernel
theorem pn_J6 : plainName RJ6 = true := by decide +kernel
theorem pn_J2 : plainName RJ2 = true := by decide +kernel
theorem pn_J10 : plainName RJ10 = true := by decide +kernel
theorem pn_J7 : plainName RJ7 = true := by decide +kernel
theorem pn_J3 : plainName RJ3 = true := by decide +kernel
