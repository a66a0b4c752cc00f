def mcw (y : Nat) : Cond := .code (mnm y) (mb y) (mnl y) (mret y)
set_option maxRecDepth 100000 in
theorem cw_0 : lw_tbl[404]? = some (mcw 0) := rfl
set_option maxRecDepth 100000 in
theorem cw_1 : lw_tbl[923]? = some (mcw 1) := rfl
set_option maxRecDepth 100000 in
theorem cw_2 : lw_tbl[911]? = some (mcw 2) := rfl
set_option maxRecDepth 100000 in
theorem cw_3 : lw_tbl[1010]? = some (mcw 3) := rfl
set_option maxRecDepth 100000 in
theorem cw_4 : lw_tbl[919]? = some (mcw 4) := rfl
set_option maxRecDepth 100000 in
theorem cw_5 : lw_tbl[948]? = some (mcw 5) := rfl
set_option maxRecDepth 100000 in
theorem cw_6 : lw_tbl[928]? = some (mcw 6) := rfl
set_option maxRecDepth 100000 in
theorem cw_7 : lw_tbl[936]? = some (mcw 7) := rfl
set_option maxRecDepth 100000 in
theorem cw_8 : lw_tbl[940]? = some (mcw 8) := rfl
set_option maxRecDepth 100000 in
theorem cw_9 : lw_tbl[371]? = some (mcw 9) := rfl
set_option maxRecDepth 100000 in
theorem cw_10 : lw_tbl[577]? = some (mcw 10) := rfl
set_option maxRecDepth 100000 in
theorem cw_11 : lw_tbl[587]? = some (mcw 11) := rfl
set_option maxRecDepth 100000 in
theorem cw_12 : lw_tbl[591]? = some (mcw 12) := rfl
set_option maxRecDepth 100000 in
theorem cw_13 : lw_tbl[598]? = some (mcw 13) := rfl
set_option maxRecDepth 100000 in
theorem cw_14 : lw_tbl[895]? = some (mcw 14) := rfl
set_option maxRecDepth 100000 in
theorem cw_15 : lw_tbl[903]? = some (mcw 15) := rfl
set_option maxRecDepth 100000 in
theorem cw_16 : lw_tbl[328]? = some (mcw 16) := rfl
set_option maxRecDepth 100000 in
theorem cw_17 : lw_tbl[569]? = some (mcw 17) := rfl
set_option maxRecDepth 100000 in
theorem cw_18 : lw_tbl[824]? = some (mcw 18) := rfl
set_option maxRecDepth 100000 in
theorem cw_19 : lw_tbl[829]? = some (mcw 19) := rfl
set_option maxRecDepth 100000 in
theorem cw_20 : lw_tbl[107]? = some (mcw 20) := rfl
set_option maxRecDepth 100000 in
theorem cw_21 : lw_tbl[552]? = some (mcw 21) := rfl
set_option maxRecDepth 100000 in
theorem cw_22 : lw_tbl[583]? = some (mcw 22) := rfl
set_option maxRecDepth 100000 in
theorem cw_23 : lw_tbl[501]? = some (mcw 23) := rfl
set_option maxRecDepth 100000 in
theorem cw_24 : lw_tbl[497]? = some (mcw 24) := rfl
set_option maxRecDepth 100000 in
theorem cw_25 : lw_tbl[527]? = some (mcw 25) := rfl
set_option maxRecDepth 100000 in
theorem cw_26 : lw_tbl[602]? = some (mcw 26) := rfl
set_option maxRecDepth 100000 in
theorem cw_27 : lw_tbl[672]? = some (mcw 27) := rfl
set_option maxRecDepth 100000 in
theorem cw_28 : lw_tbl[679]? = some (mcw 28) := rfl
set_option maxRecDepth 100000 in
theorem cw_29 : lw_tbl[355]? = some (mcw 29) := rfl
set_option maxRecDepth 100000 in
theorem cw_30 : lw_tbl[873]? = some (mcw 30) := rfl
set_option maxRecDepth 100000 in
theorem cw_31 : lw_tbl[877]? = some (mcw 31) := rfl
set_option maxRecDepth 100000 in
theorem cw_32 : lw_tbl[882]? = some (mcw 32) := rfl
set_option maxRecDepth 100000 in
theorem cw_33 : lw_tbl[886]? = some (mcw 33) := rfl
set_option maxRecDepth 100000 in
theorem cw_34 : lw_tbl[207]? = some (mcw 34) := rfl
set_option maxRecDepth 100000 in
theorem cw_35 : lw_tbl[619]? = some (mcw 35) := rfl
set_option maxRecDepth 100000 in
theorem cw_36 : lw_tbl[627]? = some (mcw 36) := rfl
set_option maxRecDepth 100000 in
theorem cw_37 : lw_tbl[647]? = some (mcw 37) := rfl
set_option maxRecDepth 100000 in
theorem cw_38 : lw_tbl[658]? = some (mcw 38) := rfl
set_option maxRecDepth 100000 in
theorem cw_39 : lw_tbl[631]? = some (mcw 39) := rfl
set_option maxRecDepth 100000 in
theorem cw_40 : lw_tbl[635]? = some (mcw 40) := rfl
set_option maxRecDepth 100000 in
theorem cw_41 : lw_tbl[639]? = some (mcw 41) := rfl
set_option maxRecDepth 100000 in
theorem cw_42 : lw_tbl[664]? = some (mcw 42) := rfl
set_option maxRecDepth 100000 in
theorem cw_43 : lw_tbl[643]? = some (mcw 43) := rfl
set_option maxRecDepth 100000 in
theorem cw_44 : lw_tbl[654]? = some (mcw 44) := rfl
set_option maxRecDepth 100000 in
theorem cw_45 : lw_tbl[650]? = some (mcw 45) := rfl
set_option maxRecDepth 100000 in
theorem cw_46 : lw_tbl[661]? = some (mcw 46) := rfl
set_option maxRecDepth 100000 in
theorem cw_47 : lw_tbl[701]? = some (mcw 47) := rfl
set_option maxRecDepth 100000 in
theorem cw_48 : lw_tbl[705]? = some (mcw 48) := rfl
set_option maxRecDepth 100000 in
theorem cw_49 : lw_tbl[295]? = some (mcw 49) := rfl
set_option maxRecDepth 100000 in
theorem cw_50 : lw_tbl[789]? = some (mcw 50) := rfl
set_option maxRecDepth 100000 in
theorem cw_51 : lw_tbl[793]? = some (mcw 51) := rfl
set_option maxRecDepth 100000 in
theorem cw_52 : lw_tbl[798]? = some (mcw 52) := rfl
set_option maxRecDepth 100000 in
theorem cw_53 : lw_tbl[807]? = some (mcw 53) := rfl
set_option maxRecDepth 100000 in
theorem cw_54 : lw_tbl[811]? = some (mcw 54) := rfl
set_option maxRecDepth 100000 in
theorem cw_55 : lw_tbl[816]? = some (mcw 55) := rfl
set_option maxRecDepth 100000 in
theorem cw_56 : lw_tbl[842]? = some (mcw 56) := rfl
set_option maxRecDepth 100000 in
theorem cw_57 : lw_tbl[846]? = some (mcw 57) := rfl
set_option maxRecDepth 100000 in
theorem cw_58 : lw_tbl[850]? = some (mcw 58) := rfl
set_option maxRecDepth 100000 in
theorem cw_59 : lw_tbl[430]? = some (mcw 59) := rfl
set_option maxRecDepth 100000 in
theorem cw_60 : lw_tbl[514]? = some (mcw 60) := rfl
set_option maxRecDepth 100000 in
theorem cw_61 : lw_tbl[981]? = some (mcw 61) := rfl
set_option maxRecDepth 100000 in
theorem cw_62 : lw_tbl[519]? = some (mcw 62) := rfl
set_option maxRecDepth 100000 in
theorem cw_63 : lw_tbl[1002]? = some (mcw 63) := rfl
set_option maxRecDepth 100000 in
theorem cw_64 : lw_tbl[957]? = some (mcw 64) := rfl
set_option maxRecDepth 100000 in
theorem cw_65 : lw_tbl[961]? = some (mcw 65) := rfl
set_option maxRecDepth 100000 in
theorem cw_66 : lw_tbl[969]? = some (mcw 66) := rfl
set_option maxRecDepth 100000 in
theorem cw_67 : lw_tbl[985]? = some (mcw 67) := rfl
set_option maxRecDepth 100000 in
theorem cw_68 : lw_tbl[989]? = some (mcw 68) := rfl
set_option maxRecDepth 100000 in
theorem cw_69 : lw_tbl[246]? = some (mcw 69) := rfl
set_option maxRecDepth 100000 in
theorem cw_70 : lw_tbl[561]? = some (mcw 70) := rfl
set_option maxRecDepth 100000 in
theorem cw_71 : lw_tbl[565]? = some (mcw 71) := rfl
set_option maxRecDepth 100000 in
theorem cw_72 : lw_tbl[693]? = some (mcw 72) := rfl
set_option maxRecDepth 100000 in
theorem cw_73 : lw_tbl[730]? = some (mcw 73) := rfl
set_option maxRecDepth 100000 in
theorem cw_74 : lw_tbl[726]? = some (mcw 74) := rfl
set_option maxRecDepth 100000 in
theorem cw_75 : lw_tbl[713]? = some (mcw 75) := rfl
set_option maxRecDepth 100000 in
theorem cw_76 : lw_tbl[718]? = some (mcw 76) := rfl
set_option maxRecDepth 100000 in
theorem cw_77 : lw_tbl[742]? = some (mcw 77) := rfl
set_option maxRecDepth 100000 in
theorem cw_78 : lw_tbl[750]? = some (mcw 78) := rfl
set_option maxRecDepth 100000 in
theorem cw_79 : lw_tbl[158]? = some (mcw 79) := rfl
set_option maxRecDepth 100000 in
theorem cw_80 : lw_tbl[547]? = some (mcw 80) := rfl
set_option maxRecDepth 100000 in
theorem cw_81 : lw_tbl[535]? = some (mcw 81) := rfl
set_option maxRecDepth 100000 in
theorem cw_82 : lw_tbl[539]? = some (mcw 82) := rfl
set_option maxRecDepth 100000 in
theorem cw_83 : lw_tbl[734]? = some (mcw 83) := rfl
set_option maxRecDepth 100000 in
theorem cw_84 : lw_tbl[610]? = some (mcw 84) := rfl
set_option maxRecDepth 100000 in
theorem cw_85 : lw_tbl[862]? = some (mcw 85) := rfl
set_option maxRecDepth 100000 in
theorem cw_86 : lw_tbl[858]? = some (mcw 86) := rfl
set_option maxRecDepth 100000 in
theorem cw_87 : lw_tbl[275]? = some (mcw 87) := rfl
set_option maxRecDepth 100000 in
theorem cw_88 : lw_tbl[760]? = some (mcw 88) := rfl
set_option maxRecDepth 100000 in
theorem cw_89 : lw_tbl[764]? = some (mcw 89) := rfl
set_option maxRecDepth 100000 in
theorem cw_90 : lw_tbl[768]? = some (mcw 90) := rfl
set_option maxRecDepth 100000 in
theorem cw_91 : lw_tbl[780]? = some (mcw 91) := rfl
set_option maxRecDepth 100000 in
theorem cw_92 : lw_tbl[99]? = some (mcw 92) := rfl
set_option maxRecDepth 100000 in
theorem cw_93 : lw_tbl[486]? = some (mcw 93) := rfl
set_option maxRecDepth 100000 in
theorem cw_94 : lw_tbl[493]? = some (mcw 94) := rfl
set_option maxRecDepth 100000 in
theorem cw_95 : lw_tbl[506]? = some (mcw 95) := rfl
set_option maxRecDepth 100000 in
theorem cw_96 : lw_tbl[523]? = some (mcw 96) := rfl
set_option maxRecDepth 100000 in
theorem cw_97 : lw_tbl[531]? = some (mcw 97) := rfl
set_option maxRecDepth 100000 in
theorem cw_98 : lw_tbl[543]? = some (mcw 98) := rfl
set_option maxRecDepth 100000 in
theorem cw_99 : lw_tbl[557]? = some (mcw 99) := rfl
set_option maxRecDepth 100000 in
theorem cw_100 : lw_tbl[573]? = some (mcw 100) := rfl
set_option maxRecDepth 100000 in
theorem cw_101 : lw_tbl[606]? = some (mcw 101) := rfl
set_option maxRecDepth 100000 in
theorem cw_102 : lw_tbl[615]? = some (mcw 102) := rfl
set_option maxRecDepth 100000 in
theorem cw_103 : lw_tbl[623]? = some (mcw 103) := rfl
set_option maxRecDepth 100000 in
theorem cw_104 : lw_tbl[668]? = some (mcw 104) := rfl
set_option maxRecDepth 100000 in
theorem cw_105 : lw_tbl[689]? = some (mcw 105) := rfl
set_option maxRecDepth 100000 in
theorem cw_106 : lw_tbl[709]? = some (mcw 106) := rfl
set_option maxRecDepth 100000 in
theorem cw_107 : lw_tbl[722]? = some (mcw 107) := rfl
set_option maxRecDepth 100000 in
theorem cw_108 : lw_tbl[738]? = some (mcw 108) := rfl
set_option maxRecDepth 100000 in
theorem cw_109 : lw_tbl[746]? = some (mcw 109) := rfl
set_option maxRecDepth 100000 in
theorem cw_110 : lw_tbl[756]? = some (mcw 110) := rfl
set_option maxRecDepth 100000 in
theorem cw_111 : lw_tbl[776]? = some (mcw 111) := rfl
set_option maxRecDepth 100000 in
theorem cw_112 : lw_tbl[785]? = some (mcw 112) := rfl
set_option maxRecDepth 100000 in
theorem cw_113 : lw_tbl[803]? = some (mcw 113) := rfl
set_option maxRecDepth 100000 in
theorem cw_114 : lw_tbl[820]? = some (mcw 114) := rfl
set_option maxRecDepth 100000 in
theorem cw_115 : lw_tbl[834]? = some (mcw 115) := rfl
set_option maxRecDepth 100000 in
theorem cw_116 : lw_tbl[838]? = some (mcw 116) := rfl
set_option maxRecDepth 100000 in
theorem cw_117 : lw_tbl[854]? = some (mcw 117) := rfl
set_option maxRecDepth 100000 in
theorem cw_118 : lw_tbl[869]? = some (mcw 118) := rfl
set_option maxRecDepth 100000 in
theorem cw_119 : lw_tbl[891]? = some (mcw 119) := rfl
set_option maxRecDepth 100000 in
theorem cw_120 : lw_tbl[899]? = some (mcw 120) := rfl
set_option maxRecDepth 100000 in
theorem cw_121 : lw_tbl[907]? = some (mcw 121) := rfl
set_option maxRecDepth 100000 in
theorem cw_122 : lw_tbl[915]? = some (mcw 122) := rfl
set_option maxRecDepth 100000 in
theorem cw_123 : lw_tbl[944]? = some (mcw 123) := rfl
set_option maxRecDepth 100000 in
theorem cw_124 : lw_tbl[952]? = some (mcw 124) := rfl
set_option maxRecDepth 100000 in
theorem cw_125 : lw_tbl[965]? = some (mcw 125) := rfl
set_option maxRecDepth 100000 in
theorem cw_126 : lw_tbl[973]? = some (mcw 126) := rfl
set_option maxRecDepth 100000 in
theorem cw_127 : lw_tbl[993]? = some (mcw 127) := rfl
set_option maxRecDepth 100000 in
theorem cw_128 : lw_tbl[998]? = some (mcw 128) := rfl
set_option maxRecDepth 100000 in
theorem cw_129 : lw_tbl[1007]? = some (mcw 129) := rfl
set_option maxRecDepth 100000 in
theorem cw_130 : lw_tbl[1014]? = some (mcw 130) := rfl
set_option maxRecDepth 100000 in
theorem cw_131 : lw_tbl[510]? = some (mcw 131) := rfl
set_option maxRecDepth 100000 in
theorem cw_132 : lw_tbl[977]? = some (mcw 132) := rfl
set_option maxRecDepth 100000 in
theorem cw_133 : lw_tbl[489]? = some (mcw 133) := rfl
set_option maxRecDepth 100000 in
theorem cw_134 : lw_tbl[1019]? = some (mcw 134) := rfl
set_option maxRecDepth 100000 in
theorem cw_135 : lw_tbl[1197]? = some (mcw 135) := rfl
set_option maxRecDepth 100000 in
theorem cw_136 : lw_tbl[1347]? = some (mcw 136) := rfl
set_option maxRecDepth 100000 in
theorem cw_137 : lw_tbl[1365]? = some (mcw 137) := rfl
set_option maxRecDepth 100000 in
theorem cw_138 : lw_tbl[1228]? = some (mcw 138) := rfl
set_option maxRecDepth 100000 in
theorem cw_139 : lw_tbl[1240]? = some (mcw 139) := rfl
set_option maxRecDepth 100000 in
theorem cw_140 : lw_tbl[1194]? = some (mcw 140) := rfl
set_option maxRecDepth 100000 in
theorem cw_141 : lw_tbl[1205]? = some (mcw 141) := rfl
set_option maxRecDepth 100000 in
theorem cw_142 : lw_tbl[1209]? = some (mcw 142) := rfl
set_option maxRecDepth 100000 in
theorem cw_143 : lw_tbl[1201]? = some (mcw 143) := rfl
set_option maxRecDepth 100000 in
theorem cw_144 : lw_tbl[1213]? = some (mcw 144) := rfl
set_option maxRecDepth 100000 in
theorem cw_145 : lw_tbl[1220]? = some (mcw 145) := rfl
set_option maxRecDepth 100000 in
theorem cw_146 : lw_tbl[1232]? = some (mcw 146) := rfl
set_option maxRecDepth 100000 in
theorem cw_147 : lw_tbl[1224]? = some (mcw 147) := rfl
set_option maxRecDepth 100000 in
theorem cw_148 : lw_tbl[1236]? = some (mcw 148) := rfl
set_option maxRecDepth 100000 in
theorem cw_149 : lw_tbl[1245]? = some (mcw 149) := rfl
set_option maxRecDepth 100000 in
theorem cw_150 : lw_tbl[1269]? = some (mcw 150) := rfl
set_option maxRecDepth 100000 in
theorem cw_151 : lw_tbl[1253]? = some (mcw 151) := rfl
set_option maxRecDepth 100000 in
theorem cw_152 : lw_tbl[1265]? = some (mcw 152) := rfl
set_option maxRecDepth 100000 in
theorem cw_153 : lw_tbl[1249]? = some (mcw 153) := rfl
set_option maxRecDepth 100000 in
theorem cw_154 : lw_tbl[1257]? = some (mcw 154) := rfl
set_option maxRecDepth 100000 in
theorem cw_155 : lw_tbl[1261]? = some (mcw 155) := rfl
set_option maxRecDepth 100000 in
theorem cw_156 : lw_tbl[1273]? = some (mcw 156) := rfl
set_option maxRecDepth 100000 in
theorem cw_157 : lw_tbl[1277]? = some (mcw 157) := rfl
set_option maxRecDepth 100000 in
theorem cw_158 : lw_tbl[1317]? = some (mcw 158) := rfl
set_option maxRecDepth 100000 in
theorem cw_159 : lw_tbl[1332]? = some (mcw 159) := rfl
set_option maxRecDepth 100000 in
theorem cw_160 : lw_tbl[1324]? = some (mcw 160) := rfl
set_option maxRecDepth 100000 in
theorem cw_161 : lw_tbl[1320]? = some (mcw 161) := rfl
set_option maxRecDepth 100000 in
theorem cw_162 : lw_tbl[1328]? = some (mcw 162) := rfl
set_option maxRecDepth 100000 in
theorem cw_163 : lw_tbl[1336]? = some (mcw 163) := rfl
set_option maxRecDepth 100000 in
theorem cw_164 : lw_tbl[1313]? = some (mcw 164) := rfl
set_option maxRecDepth 100000 in
theorem cw_165 : lw_tbl[1309]? = some (mcw 165) := rfl
set_option maxRecDepth 100000 in
theorem cw_166 : lw_tbl[1305]? = some (mcw 166) := rfl
set_option maxRecDepth 100000 in
theorem cw_167 : lw_tbl[1301]? = some (mcw 167) := rfl
set_option maxRecDepth 100000 in
theorem cw_168 : lw_tbl[1297]? = some (mcw 168) := rfl
set_option maxRecDepth 100000 in
theorem cw_169 : lw_tbl[1293]? = some (mcw 169) := rfl
set_option maxRecDepth 100000 in
theorem cw_170 : lw_tbl[1289]? = some (mcw 170) := rfl
set_option maxRecDepth 100000 in
theorem cw_171 : lw_tbl[1285]? = some (mcw 171) := rfl
set_option maxRecDepth 100000 in
theorem cw_172 : lw_tbl[1376]? = some (mcw 172) := rfl
set_option maxRecDepth 100000 in
theorem cw_173 : lw_tbl[1373]? = some (mcw 173) := rfl
set_option maxRecDepth 100000 in
theorem cw_174 : lw_tbl[1369]? = some (mcw 174) := rfl
set_option maxRecDepth 100000 in
theorem cw_175 : lw_tbl[1281]? = some (mcw 175) := rfl
set_option maxRecDepth 100000 in
theorem cw_176 : lw_tbl[1344]? = some (mcw 176) := rfl
set_option maxRecDepth 100000 in
theorem cw_177 : lw_tbl[1354]? = some (mcw 177) := rfl
set_option maxRecDepth 100000 in
theorem cw_178 : lw_tbl[1351]? = some (mcw 178) := rfl
set_option maxRecDepth 100000 in
theorem cw_179 : lw_tbl[1340]? = some (mcw 179) := rfl
set_option maxRecDepth 100000 in
theorem cw_180 : lw_tbl[1362]? = some (mcw 180) := rfl
set_option maxRecDepth 100000 in
theorem cw_181 : lw_tbl[1388]? = some (mcw 181) := rfl
set_option maxRecDepth 100000 in
theorem cw_182 : lw_tbl[1358]? = some (mcw 182) := rfl
set_option maxRecDepth 100000 in
theorem cw_183 : lw_tbl[1396]? = some (mcw 183) := rfl
set_option maxRecDepth 100000 in
theorem cw_184 : lw_tbl[1392]? = some (mcw 184) := rfl
set_option maxRecDepth 100000 in
theorem cw_185 : lw_tbl[1400]? = some (mcw 185) := rfl
set_option maxRecDepth 100000 in
theorem cw_186 : lw_tbl[1384]? = some (mcw 186) := rfl
set_option maxRecDepth 100000 in
theorem cw_187 : lw_tbl[1380]? = some (mcw 187) := rfl
set_option maxRecDepth 100000 in
theorem cw_188 : lw_tbl[1408]? = some (mcw 188) := rfl
set_option maxRecDepth 100000 in
theorem cw_189 : lw_tbl[1404]? = some (mcw 189) := rfl
set_option maxRecDepth 100000 in
theorem cw_190 : lw_tbl[1416]? = some (mcw 190) := rfl
set_option maxRecDepth 100000 in
theorem cw_191 : lw_tbl[1412]? = some (mcw 191) := rfl
set_option maxRecDepth 100000 in
theorem cw_192 : lw_tbl[1420]? = some (mcw 192) := rfl
set_option maxRecDepth 100000 in
theorem cw_193 : lw_tbl[1428]? = some (mcw 193) := rfl
set_option maxRecDepth 100000 in
theorem cw_194 : lw_tbl[1424]? = some (mcw 194) := rfl
set_option maxRecDepth 100000 in
theorem cw_195 : lw_tbl[1432]? = some (mcw 195) := rfl
set_option maxRecDepth 100000 in
theorem cw_196 : lw_tbl[1440]? = some (mcw 196) := rfl
set_option maxRecDepth 100000 in
theorem cw_197 : lw_tbl[1448]? = some (mcw 197) := rfl
set_option maxRecDepth 100000 in
theorem cw_198 : lw_tbl[1444]? = some (mcw 198) := rfl
set_option maxRecDepth 100000 in
theorem cw_199 : lw_tbl[1436]? = some (mcw 199) := rfl
set_option maxRecDepth 100000 in
theorem cw_200 : lw_tbl[1456]? = some (mcw 200) := rfl
set_option maxRecDepth 100000 in
theorem cw_201 : lw_tbl[1452]? = some (mcw 201) := rfl
set_option maxRecDepth 100000 in
theorem cw_202 : lw_tbl[1464]? = some (mcw 202) := rfl
set_option maxRecDepth 100000 in
theorem cw_203 : lw_tbl[1460]? = some (mcw 203) := rfl
set_option maxRecDepth 100000 in
theorem cw_204 : lw_tbl[1469]? = some (mcw 204) := rfl
set_option maxRecDepth 100000 in
theorem cw_205 : lw_tbl[1477]? = some (mcw 205) := rfl
set_option maxRecDepth 100000 in
theorem cw_206 : lw_tbl[1473]? = some (mcw 206) := rfl
set_option maxRecDepth 100000 in
theorem cw_207 : lw_tbl[1481]? = some (mcw 207) := rfl
set_option maxRecDepth 100000 in
theorem cw_208 : lw_tbl[1485]? = some (mcw 208) := rfl
set_option maxRecDepth 100000 in
theorem cw_209 : lw_tbl[1501]? = some (mcw 209) := rfl
set_option maxRecDepth 100000 in
theorem cw_210 : lw_tbl[1512]? = some (mcw 210) := rfl
set_option maxRecDepth 100000 in
theorem cw_211 : lw_tbl[1489]? = some (mcw 211) := rfl
set_option maxRecDepth 100000 in
theorem cw_212 : lw_tbl[1493]? = some (mcw 212) := rfl
set_option maxRecDepth 100000 in
theorem cw_213 : lw_tbl[1508]? = some (mcw 213) := rfl
set_option maxRecDepth 100000 in
theorem cw_214 : lw_tbl[1516]? = some (mcw 214) := rfl
set_option maxRecDepth 100000 in
theorem cw_215 : lw_tbl[1520]? = some (mcw 215) := rfl
set_option maxRecDepth 100000 in
theorem cw_216 : lw_tbl[1505]? = some (mcw 216) := rfl
set_option maxRecDepth 100000 in
theorem cw_217 : lw_tbl[1532]? = some (mcw 217) := rfl
set_option maxRecDepth 100000 in
theorem cw_218 : lw_tbl[1528]? = some (mcw 218) := rfl
set_option maxRecDepth 100000 in
theorem cw_219 : lw_tbl[1524]? = some (mcw 219) := rfl
set_option maxRecDepth 100000 in
theorem cw_220 : lw_tbl[1540]? = some (mcw 220) := rfl
set_option maxRecDepth 100000 in
theorem cw_221 : lw_tbl[1536]? = some (mcw 221) := rfl
set_option maxRecDepth 100000 in
theorem cw_222 : lw_tbl[1552]? = some (mcw 222) := rfl
set_option maxRecDepth 100000 in
theorem cw_223 : lw_tbl[1548]? = some (mcw 223) := rfl
set_option maxRecDepth 100000 in
theorem cw_224 : lw_tbl[1544]? = some (mcw 224) := rfl
set_option maxRecDepth 100000 in
theorem cw_225 : lw_tbl[1497]? = some (mcw 225) := rfl
set_option maxRecDepth 100000 in
theorem cw_226 : lw_tbl[1556]? = some (mcw 226) := rfl
set_option maxRecDepth 100000 in
theorem cw_227 : lw_tbl[1216]? = some (mcw 227) := rfl
set_option maxRecDepth 100000 in
theorem cw_228 : lw_tbl[1560]? = some (mcw 228) := rfl
set_option maxRecDepth 100000 in
theorem cw_229 : lw_tbl[1564]? = some (mcw 229) := rfl
set_option maxRecDepth 100000 in
theorem cw_230 : lw_tbl[1572]? = some (mcw 230) := rfl
set_option maxRecDepth 100000 in
theorem cw_231 : lw_tbl[1568]? = some (mcw 231) := rfl
set_option maxRecDepth 100000 in
theorem cw_232 : lw_tbl[1576]? = some (mcw 232) := rfl
set_option maxRecDepth 100000 in
theorem cw_233 : lw_tbl[1581]? = some (mcw 233) := rfl
set_option maxRecDepth 100000 in
theorem cw_234 : lw_tbl[1585]? = some (mcw 234) := rfl
theorem cw_all : ∀ y, y < 235 → mcw y ∈ lw_tbl
  | 0, _ => List.mem_of_getElem? cw_0
  | 1, _ => List.mem_of_getElem? cw_1
  | 2, _ => List.mem_of_getElem? cw_2
  | 3, _ => List.mem_of_getElem? cw_3
  | 4, _ => List.mem_of_getElem? cw_4
  | 5, _ => List.mem_of_getElem? cw_5
  | 6, _ => List.mem_of_getElem? cw_6
  | 7, _ => List.mem_of_getElem? cw_7
  | 8, _ => List.mem_of_getElem? cw_8
  | 9, _ => List.mem_of_getElem? cw_9
  | 10, _ => List.mem_of_getElem? cw_10
  | 11, _ => List.mem_of_getElem? cw_11
  | 12, _ => List.mem_of_getElem? cw_12
  | 13, _ => List.mem_of_getElem? cw_13
  | 14, _ => List.mem_of_getElem? cw_14
  | 15, _ => List.mem_of_getElem? cw_15
  | 16, _ => List.mem_of_getElem? cw_16
  | 17, _ => List.mem_of_getElem? cw_17
  | 18, _ => List.mem_of_getElem? cw_18
  | 19, _ => List.mem_of_getElem? cw_19
  | 20, _ => List.mem_of_getElem? cw_20
  | 21, _ => List.mem_of_getElem? cw_21
  | 22, _ => List.mem_of_getElem? cw_22
  | 23, _ => List.mem_of_getElem? cw_23
  | 24, _ => List.mem_of_getElem? cw_24
  | 25, _ => List.mem_of_getElem? cw_25
  | 26, _ => List.mem_of_getElem? cw_26
  | 27, _ => List.mem_of_getElem? cw_27
  | 28, _ => List.mem_of_getElem? cw_28
  | 29, _ => List.mem_of_getElem? cw_29
  | 30, _ => List.mem_of_getElem? cw_30
  | 31, _ => List.mem_of_getElem? cw_31
  | 32, _ => List.mem_of_getElem? cw_32
  | 33, _ => List.mem_of_getElem? cw_33
  | 34, _ => List.mem_of_getElem? cw_34
  | 35, _ => List.mem_of_getElem? cw_35
  | 36, _ => List.mem_of_getElem? cw_36
  | 37, _ => List.mem_of_getElem? cw_37
  | 38, _ => List.mem_of_getElem? cw_38
  | 39, _ => List.mem_of_getElem? cw_39
  | 40, _ => List.mem_of_getElem? cw_40
  | 41, _ => List.mem_of_getElem? cw_41
  | 42, _ => List.mem_of_getElem? cw_42
  | 43, _ => List.mem_of_getElem? cw_43
  | 44, _ => List.mem_of_getElem? cw_44
  | 45, _ => List.mem_of_getElem? cw_45
  | 46, _ => List.mem_of_getElem? cw_46
  | 47, _ => List.mem_of_getElem? cw_47
  | 48, _ => List.mem_of_getElem? cw_48
  | 49, _ => List.mem_of_getElem? cw_49
  | 50, _ => List.mem_of_getElem? cw_50
  | 51, _ => List.mem_of_getElem? cw_51
  | 52, _ => List.mem_of_getElem? cw_52
  | 53, _ => List.mem_of_getElem? cw_53
  | 54, _ => List.mem_of_getElem? cw_54
  | 55, _ => List.mem_of_getElem? cw_55
  | 56, _ => List.mem_of_getElem? cw_56
  | 57, _ => List.mem_of_getElem? cw_57
  | 58, _ => List.mem_of_getElem? cw_58
  | 59, _ => List.mem_of_getElem? cw_59
  | 60, _ => List.mem_of_getElem? cw_60
  | 61, _ => List.mem_of_getElem? cw_61
  | 62, _ => List.mem_of_getElem? cw_62
  | 63, _ => List.mem_of_getElem? cw_63
  | 64, _ => List.mem_of_getElem? cw_64
  | 65, _ => List.mem_of_getElem? cw_65
  | 66, _ => List.mem_of_getElem? cw_66
  | 67, _ => List.mem_of_getElem? cw_67
  | 68, _ => List.mem_of_getElem? cw_68
  | 69, _ => List.mem_of_getElem? cw_69
  | 70, _ => List.mem_of_getElem? cw_70
  | 71, _ => List.mem_of_getElem? cw_71
  | 72, _ => List.mem_of_getElem? cw_72
  | 73, _ => List.mem_of_getElem? cw_73
  | 74, _ => List.mem_of_getElem? cw_74
  | 75, _ => List.mem_of_getElem? cw_75
  | 76, _ => List.mem_of_getElem? cw_76
  | 77, _ => List.mem_of_getElem? cw_77
  | 78, _ => List.mem_of_getElem? cw_78
  | 79, _ => List.mem_of_getElem? cw_79
  | 80, _ => List.mem_of_getElem? cw_80
  | 81, _ => List.mem_of_getElem? cw_81
  | 82, _ => List.mem_of_getElem? cw_82
  | 83, _ => List.mem_of_getElem? cw_83
  | 84, _ => List.mem_of_getElem? cw_84
  | 85, _ => List.mem_of_getElem? cw_85
  | 86, _ => List.mem_of_getElem? cw_86
  | 87, _ => List.mem_of_getElem? cw_87
  | 88, _ => List.mem_of_getElem? cw_88
  | 89, _ => List.mem_of_getElem? cw_89
  | 90, _ => List.mem_of_getElem? cw_90
  | 91, _ => List.mem_of_getElem? cw_91
  | 92, _ => List.mem_of_getElem? cw_92
  | 93, _ => List.mem_of_getElem? cw_93
  | 94, _ => List.mem_of_getElem? cw_94
  | 95, _ => List.mem_of_getElem? cw_95
  | 96, _ => List.mem_of_getElem? cw_96
  | 97, _ => List.mem_of_getElem? cw_97
  | 98, _ => List.mem_of_getElem? cw_98
  | 99, _ => List.mem_of_getElem? cw_99
  | 100, _ => List.mem_of_getElem? cw_100
  | 101, _ => List.mem_of_getElem? cw_101
  | 102, _ => List.mem_of_getElem? cw_102
  | 103, _ => List.mem_of_getElem? cw_103
  | 104, _ => List.mem_of_getElem? cw_104
  | 105, _ => List.mem_of_getElem? cw_105
  | 106, _ => List.mem_of_getElem? cw_106
  | 107, _ => List.mem_of_getElem? cw_107
  | 108, _ => List.mem_of_getElem? cw_108
  | 109, _ => List.mem_of_getElem? cw_109
  | 110, _ => List.mem_of_getElem? cw_110
  | 111, _ => List.mem_of_getElem? cw_111
  | 112, _ => List.mem_of_getElem? cw_112
  | 113, _ => List.mem_of_getElem? cw_113
  | 114, _ => List.mem_of_getElem? cw_114
  | 115, _ => List.mem_of_getElem? cw_115
  | 116, _ => List.mem_of_getElem? cw_116
  | 117, _ => List.mem_of_getElem? cw_117
  | 118, _ => List.mem_of_getElem? cw_118
  | 119, _ => List.mem_of_getElem? cw_119
  | 120, _ => List.mem_of_getElem? cw_120
  | 121, _ => List.mem_of_getElem? cw_121
  | 122, _ => List.mem_of_getElem? cw_122
  | 123, _ => List.mem_of_getElem? cw_123
  | 124, _ => List.mem_of_getElem? cw_124
  | 125, _ => List.mem_of_getElem? cw_125
  | 126, _ => List.mem_of_getElem? cw_126
  | 127, _ => List.mem_of_getElem? cw_127
  | 128, _ => List.mem_of_getElem? cw_128
  | 129, _ => List.mem_of_getElem? cw_129
  | 130, _ => List.mem_of_getElem? cw_130
  | 131, _ => List.mem_of_getElem? cw_131
  | 132, _ => List.mem_of_getElem? cw_132
  | 133, _ => List.mem_of_getElem? cw_133
  | 134, _ => List.mem_of_getElem? cw_134
  | 135, _ => List.mem_of_getElem? cw_135
  | 136, _ => List.mem_of_getElem? cw_136
  | 137, _ => List.mem_of_getElem? cw_137
  | 138, _ => List.mem_of_getElem? cw_138
  | 139, _ => List.mem_of_getElem? cw_139
  | 140, _ => List.mem_of_getElem? cw_140
  | 141, _ => List.mem_of_getElem? cw_141
  | 142, _ => List.mem_of_getElem? cw_142
  | 143, _ => List.mem_of_getElem? cw_143
  | 144, _ => List.mem_of_getElem? cw_144
  | 145, _ => List.mem_of_getElem? cw_145
  | 146, _ => List.mem_of_getElem? cw_146
  | 147, _ => List.mem_of_getElem? cw_147
  | 148, _ => List.mem_of_getElem? cw_148
  | 149, _ => List.mem_of_getElem? cw_149
  | 150, _ => List.mem_of_getElem? cw_150
  | 151, _ => List.mem_of_getElem? cw_151
  | 152, _ => List.mem_of_getElem? cw_152
  | 153, _ => List.mem_of_getElem? cw_153
  | 154, _ => List.mem_of_getElem? cw_154
  | 155, _ => List.mem_of_getElem? cw_155
  | 156, _ => List.mem_of_getElem? cw_156
  | 157, _ => List.mem_of_getElem? cw_157
  | 158, _ => List.mem_of_getElem? cw_158
  | 159, _ => List.mem_of_getElem? cw_159
  | 160, _ => List.mem_of_getElem? cw_160
  | 161, _ => List.mem_of_getElem? cw_161
  | 162, _ => List.mem_of_getElem? cw_162
  | 163, _ => List.mem_of_getElem? cw_163
  | 164, _ => List.mem_of_getElem? cw_164
  | 165, _ => List.mem_of_getElem? cw_165
  | 166, _ => List.mem_of_getElem? cw_166
  | 167, _ => List.mem_of_getElem? cw_167
  | 168, _ => List.mem_of_getElem? cw_168
  | 169, _ => List.mem_of_getElem? cw_169
  | 170, _ => List.mem_of_getElem? cw_170
  | 171, _ => List.mem_of_getElem? cw_171
  | 172, _ => List.mem_of_getElem? cw_172
  | 173, _ => List.mem_of_getElem? cw_173
  | 174, _ => List.mem_of_getElem? cw_174
  | 175, _ => List.mem_of_getElem? cw_175
  | 176, _ => List.mem_of_getElem? cw_176
  | 177, _ => List.mem_of_getElem? cw_177
  | 178, _ => List.mem_of_getElem? cw_178
  | 179, _ => List.mem_of_getElem? cw_179
  | 180, _ => List.mem_of_getElem? cw_180
  | 181, _ => List.mem_of_getElem? cw_181
  | 182, _ => List.mem_of_getElem? cw_182
  | 183, _ => List.mem_of_getElem? cw_183
  | 184, _ => List.mem_of_getElem? cw_184
  | 185, _ => List.mem_of_getElem? cw_185
  | 186, _ => List.mem_of_getElem? cw_186
  | 187, _ => List.mem_of_getElem? cw_187
  | 188, _ => List.mem_of_getElem? cw_188
  | 189, _ => List.mem_of_getElem? cw_189
  | 190, _ => List.mem_of_getElem? cw_190
  | 191, _ => List.mem_of_getElem? cw_191
  | 192, _ => List.mem_of_getElem? cw_192
  | 193, _ => List.mem_of_getElem? cw_193
  | 194, _ => List.mem_of_getElem? cw_194
  | 195, _ => List.mem_of_getElem? cw_195
  | 196, _ => List.mem_of_getElem? cw_196
  | 197, _ => List.mem_of_getElem? cw_197
  | 198, _ => List.mem_of_getElem? cw_198
  | 199, _ => List.mem_of_getElem? cw_199
  | 200, _ => List.mem_of_getElem? cw_200
  | 201, _ => List.mem_of_getElem? cw_201
  | 202, _ => List.mem_of_getElem? cw_202
  | 203, _ => List.mem_of_getElem? cw_203
  | 204, _ => List.mem_of_getElem? cw_204
  | 205, _ => List.mem_of_getElem? cw_205
  | 206, _ => List.mem_of_getElem? cw_206
  | 207, _ => List.mem_of_getElem? cw_207
  | 208, _ => List.mem_of_getElem? cw_208
  | 209, _ => List.mem_of_getElem? cw_209
  | 210, _ => List.mem_of_getElem? cw_210
  | 211, _ => List.mem_of_getElem? cw_211
  | 212, _ => List.mem_of_getElem? cw_212
  | 213, _ => List.mem_of_getElem? cw_213
  | 214, _ => List.mem_of_getElem? cw_214
  | 215, _ => List.mem_of_getElem? cw_215
  | 216, _ => List.mem_of_getElem? cw_216
  | 217, _ => List.mem_of_getElem? cw_217
  | 218, _ => List.mem_of_getElem? cw_218
  | 219, _ => List.mem_of_getElem? cw_219
  | 220, _ => List.mem_of_getElem? cw_220
  | 221, _ => List.mem_of_getElem? cw_221
  | 222, _ => List.mem_of_getElem? cw_222
  | 223, _ => List.mem_of_getElem? cw_223
  | 224, _ => List.mem_of_getElem? cw_224
  | 225, _ => List.mem_of_getElem? cw_225
  | 226, _ => List.mem_of_getElem? cw_226
  | 227, _ => List.mem_of_getElem? cw_227
  | 228, _ => List.mem_of_getElem? cw_228
  | 229, _ => List.mem_of_getElem? cw_229
  | 230, _ => List.mem_of_getElem? cw_230
  | 231, _ => List.mem_of_getElem? cw_231
  | 232, _ => List.mem_of_getElem? cw_232
  | 233, _ => List.mem_of_getElem? cw_233
  | 234, _ => List.mem_of_getElem? cw_234
  | _ + 235, h => absurd h (by omega)
