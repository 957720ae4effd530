theorem zk_rf_0 : ((zk_rf.drop 0).take 40).all zk_okF = true := by decide +kernel
theorem zk_rf_1 : ((zk_rf.drop 40).take 40).all zk_okF = true := by decide +kernel
theorem zk_rf_2 : ((zk_rf.drop 80).take 40).all zk_okF = true := by decide +kernel
theorem zk_rf_3 : ((zk_rf.drop 120).take 40).all zk_okF = true := by decide +kernel
theorem zk_rf_4 : ((zk_rf.drop 160).take 40).all zk_okF = true := by decide +kernel
theorem zk_rf_5 : ((zk_rf.drop 200).take 40).all zk_okF = true := by decide +kernel
theorem zk_rf_ok : ∀ q ∈ zk_rf, zk_okF q = true := by
  have e : zk_rf = (zk_rf.drop 0).take 40 ++ (zk_rf.drop 40).take 40 ++ (zk_rf.drop 80).take 40 ++ (zk_rf.drop 120).take 40 ++ (zk_rf.drop 160).take 40 ++ (zk_rf.drop 200).take 40 := by decide +kernel
  intro q hq
  rw [e] at hq
  simp only [List.mem_append] at hq
  rcases hq with ((((h0 | h1) | h2) | h3) | h4) | h5
  · exact List.all_eq_true.mp zk_rf_0 q h0
  · exact List.all_eq_true.mp zk_rf_1 q h1
  · exact List.all_eq_true.mp zk_rf_2 q h2
  · exact List.all_eq_true.mp zk_rf_3 q h3
  · exact List.all_eq_true.mp zk_rf_4 q h4
  · exact List.all_eq_true.mp zk_rf_5 q h5
theorem zk_rm_0 : ((zk_rm.drop 0).take 40).all zk_okR = true := by decide +kernel
theorem zk_rm_1 : ((zk_rm.drop 40).take 40).all zk_okR = true := by decide +kernel
theorem zk_rm_2 : ((zk_rm.drop 80).take 40).all zk_okR = true := by decide +kernel
theorem zk_rm_3 : ((zk_rm.drop 120).take 40).all zk_okR = true := by decide +kernel
theorem zk_rm_4 : ((zk_rm.drop 160).take 40).all zk_okR = true := by decide +kernel
theorem zk_rm_5 : ((zk_rm.drop 200).take 40).all zk_okR = true := by decide +kernel
theorem zk_rm_6 : ((zk_rm.drop 240).take 40).all zk_okR = true := by decide +kernel
theorem zk_rm_7 : ((zk_rm.drop 280).take 40).all zk_okR = true := by decide +kernel
theorem zk_rm_8 : ((zk_rm.drop 320).take 40).all zk_okR = true := by decide +kernel
theorem zk_rm_ok : ∀ q ∈ zk_rm, zk_okR q = true := by
  have e : zk_rm = (zk_rm.drop 0).take 40 ++ (zk_rm.drop 40).take 40 ++ (zk_rm.drop 80).take 40 ++ (zk_rm.drop 120).take 40 ++ (zk_rm.drop 160).take 40 ++ (zk_rm.drop 200).take 40 ++ (zk_rm.drop 240).take 40 ++ (zk_rm.drop 280).take 40 ++ (zk_rm.drop 320).take 40 := by decide +kernel
  intro q hq
  rw [e] at hq
  simp only [List.mem_append] at hq
  rcases hq with (((((((h0 | h1) | h2) | h3) | h4) | h5) | h6) | h7) | h8
  · exact List.all_eq_true.mp zk_rm_0 q h0
  · exact List.all_eq_true.mp zk_rm_1 q h1
  · exact List.all_eq_true.mp zk_rm_2 q h2
  · exact List.all_eq_true.mp zk_rm_3 q h3
  · exact List.all_eq_true.mp zk_rm_4 q h4
  · exact List.all_eq_true.mp zk_rm_5 q h5
  · exact List.all_eq_true.mp zk_rm_6 q h6
  · exact List.all_eq_true.mp zk_rm_7 q h7
  · exact List.all_eq_true.mp zk_rm_8 q h8
theorem zk_rc_0 : ((zk_rc.drop 0).take 40).all zk_okN = true := by decide +kernel
theorem zk_rc_ok : ∀ q ∈ zk_rc, zk_okN q = true := by
  have e : zk_rc = (zk_rc.drop 0).take 40 := by decide +kernel
  intro q hq
  rw [e] at hq
  skip
  exact List.all_eq_true.mp zk_rc_0 q hq
theorem zk_rk_0 : ((zk_rk.drop 0).take 40).all zk_okV = true := by decide +kernel
theorem zk_rk_ok : ∀ q ∈ zk_rk, zk_okV q = true := by
  have e : zk_rk = (zk_rk.drop 0).take 40 := by decide +kernel
  intro q hq
  rw [e] at hq
  skip
  exact List.all_eq_true.mp zk_rk_0 q hq
theorem zk_rl_0 : ((zk_rl.drop 0).take 40).all zk_okW = true := by decide +kernel
theorem zk_rl_ok : ∀ q ∈ zk_rl, zk_okW q = true := by
  have e : zk_rl = (zk_rl.drop 0).take 40 := by decide +kernel
  intro q hq
  rw [e] at hq
  skip
  exact List.all_eq_true.mp zk_rl_0 q hq
theorem zw_0 : zk_okM zm_0 (300, 112, 298, 299) = true := by decide +kernel
theorem zw_1 : zk_okM zm_1 (310, 112, 308, 309) = true := by decide +kernel
theorem zw_3 : zk_okM zm_3 (1176, 108, 1175, 0) = true := by decide +kernel
theorem zw_4 : zk_okM zm_4 (879, 108, 877, 878) = true := by decide +kernel
theorem zw_5 : zk_okM zm_5 (903, 108, 902, 29) = true := by decide +kernel
theorem zw_6 : zk_okM zm_6 (664, 108, 663, 0) = true := by decide +kernel
theorem zw_7 : zk_okM zm_7 (1345, 108, 1343, 1344) = true := by decide +kernel
theorem zw_8 : zk_okM zm_8 (883, 108, 881, 882) = true := by decide +kernel
theorem zw_9 : zk_okM zm_9 (718, 109, 717, 6) = true := by decide +kernel
theorem zw_10 : zk_okM zm_10 (722, 109, 721, 7) = true := by decide +kernel
theorem zw_11 : zk_okM zm_11 (714, 109, 713, 5) = true := by decide +kernel
theorem zw_12 : zk_okM zm_12 (757, 109, 756, 14) = true := by decide +kernel
theorem zw_13 : zk_okM zm_13 (656, 110, 654, 655) = true := by decide +kernel
theorem zw_14 : zk_okM zm_14 (696, 110, 695, 0) = true := by decide +kernel
theorem zw_15 : zk_okM zm_15 (689, 110, 688, 0) = true := by decide +kernel
theorem zw_16 : zk_okM zm_16 (706, 110, 705, 3) = true := by decide +kernel
theorem zw_17 : zk_okM zm_17 (977, 111, 975, 976) = true := by decide +kernel
theorem zw_18 : zk_okM zm_18 (895, 111, 893, 894) = true := by decide +kernel
theorem zw_19 : zk_okM zm_19 (794, 111, 792, 793) = true := by decide +kernel
theorem zw_20 : zk_okM zm_20 (802, 111, 800, 801) = true := by decide +kernel
theorem zw_21 : zk_okM zm_21 (837, 111, 835, 836) = true := by decide +kernel
theorem zw_22 : zk_okM zm_22 (875, 111, 874, 0) = true := by decide +kernel
theorem zw_23 : zk_okM zm_23 (915, 116, 913, 914) = true := by decide +kernel
theorem zw_24 : zk_okM zm_24 (1341, 116, 1339, 1340) = true := by decide +kernel
theorem zw_25 : zk_okM zm_25 (927, 116, 925, 926) = true := by decide +kernel
theorem zw_26 : zk_okM zm_26 (899, 116, 897, 898) = true := by decide +kernel
theorem zw_27 : zk_okM zm_27 (823, 117, 821, 822) = true := by decide +kernel
theorem zw_28 : zk_okM zm_28 (1321, 117, 1319, 1320) = true := by decide +kernel
theorem zw_29 : zk_okM zm_29 (1017, 118, 1015, 1016) = true := by decide +kernel
theorem zw_30 : zk_okM zm_30 (1029, 118, 1028, 36) = true := by decide +kernel
theorem zw_31 : zk_okM zm_31 (1009, 118, 1007, 1008) = true := by decide +kernel
theorem zw_32 : zk_okM zm_32 (861, 119, 860, 27) = true := by decide +kernel
theorem zw_33 : zk_okM zm_33 (1053, 120, 1052, 38) = true := by decide +kernel
theorem zw_34 : zk_okM zm_34 (1094, 120, 1093, 0) = true := by decide +kernel
theorem zw_35 : zk_okM zm_35 (1123, 121, 1121, 1122) = true := by decide +kernel
theorem zw_36 : zk_okM zm_36 (1139, 121, 1137, 1138) = true := by decide +kernel
theorem zw_37 : zk_okM zm_37 (1131, 121, 1129, 1130) = true := by decide +kernel
theorem zw_38 : zk_okM zm_38 (864, 121, 863, 0) = true := by decide +kernel
theorem zw_39 : zk_okM zm_39 (1241, 122, 1240, 0) = true := by decide +kernel
theorem zw_40 : zk_okM zm_40 (1262, 122, 1261, 44) = true := by decide +kernel
theorem zw_41 : zk_okM zm_41 (1229, 122, 1228, 0) = true := by decide +kernel
theorem zw_42 : zk_okM zm_42 (1554, 123, 1553, 47) = true := by decide +kernel
theorem zw_43 : zk_okM zm_43 (1697, 123, 1696, 0) = true := by decide +kernel
theorem zw_44 : zk_okM zm_44 (1860, 123, 1859, 94) = true := by decide +kernel
theorem zw_45 : zk_okM zm_45 (1701, 123, 1699, 1700) = true := by decide +kernel
theorem zw_46 : zk_okM zm_46 (1546, 123, 1544, 1545) = true := by decide +kernel
theorem zw_47 : zk_okM zm_47 (1641, 123, 1640, 64) = true := by decide +kernel
theorem zw_48 : zk_okM zm_48 (1733, 123, 1732, 79) = true := by decide +kernel
theorem zw_49 : zk_okM zm_49 (1667, 123, 1666, 0) = true := by decide +kernel
theorem zw_50 : zk_okM zm_50 (1962, 123, 1961, 0) = true := by decide +kernel
theorem zw_51 : zk_okM zm_51 (1575, 123, 1574, 0) = true := by decide +kernel
theorem zw_52 : zk_okM zm_52 (2031, 123, 2030, 105) = true := by decide +kernel
theorem zw_53 : zk_okM zm_53 (1572, 123, 1571, 0) = true := by decide +kernel
theorem zw_54 : zk_okM zm_54 (2055, 123, 2054, 106) = true := by decide +kernel
theorem zw_55 : zk_okM zm_55 (1927, 123, 1926, 99) = true := by decide +kernel
theorem zw_56 : zk_okM zm_56 (1985, 123, 1984, 0) = true := by decide +kernel
theorem zw_57 : zk_okM zm_57 (1561, 123, 1560, 48) = true := by decide +kernel
theorem zw_58 : zk_okM zm_58 (1761, 123, 1760, 83) = true := by decide +kernel
theorem zw_59 : zk_okM zm_59 (1879, 123, 1878, 0) = true := by decide +kernel
theorem zw_60 : zk_okM zm_60 (1569, 123, 1568, 50) = true := by decide +kernel
theorem zw_61 : zk_okM zm_61 (1753, 123, 1752, 82) = true := by decide +kernel
theorem zw_62 : zk_okM zm_62 (1542, 123, 1540, 1541) = true := by decide +kernel
theorem zw_63 : zk_okM zm_63 (2059, 123, 2057, 2058) = true := by decide +kernel
theorem zw_64 : zk_okM zm_64 (1946, 123, 1945, 0) = true := by decide +kernel
theorem zw_65 : zk_okM zm_65 (1705, 123, 1703, 1704) = true := by decide +kernel
theorem zw_66 : zk_okM zm_66 (1749, 123, 1748, 81) = true := by decide +kernel
theorem zw_67 : zk_okM zm_67 (1557, 123, 1556, 0) = true := by decide +kernel
theorem zw_68 : zk_okM zm_68 (1594, 123, 1593, 54) = true := by decide +kernel
theorem zw_69 : zk_okM zm_69 (1192, 128, 1191, 0) = true := by decide +kernel
theorem zw_70 : zk_okM zm_70 (1088, 127, 1087, 0) = true := by decide +kernel
theorem zw_71 : zk_okM zm_71 (1155, 125, 1154, 0) = true := by decide +kernel
theorem zw_72 : zk_okM zm_72 (682, 125, 681, 0) = true := by decide +kernel
theorem zw_73 : zk_okM zm_73 (675, 124, 674, 0) = true := by decide +kernel
theorem zw_74 : zk_okM zm_74 (1073, 108, 1072, 40) = true := by decide +kernel
theorem zw_75 : zk_okM zm_75 (652, 108, 650, 651) = true := by decide +kernel
theorem zw_76 : zk_okM zm_76 (891, 108, 890, 28) = true := by decide +kernel
theorem zw_77 : zk_okM zm_77 (923, 108, 922, 31) = true := by decide +kernel
theorem zw_78 : zk_okM zm_78 (935, 108, 934, 32) = true := by decide +kernel
theorem zw_79 : zk_okM zm_79 (911, 108, 910, 30) = true := by decide +kernel
theorem zw_80 : zk_okM zm_80 (939, 108, 938, 33) = true := by decide +kernel
theorem zw_81 : zk_okM zm_81 (1337, 108, 1335, 1336) = true := by decide +kernel
theorem zw_82 : zk_okM zm_82 (753, 109, 752, 13) = true := by decide +kernel
theorem zw_83 : zk_okM zm_83 (151, 110, 150, 0) = true := by decide +kernel
theorem zw_84 : zk_okM zm_84 (700, 110, 699, 2) = true := by decide +kernel
theorem zw_85 : zk_okM zm_85 (693, 110, 692, 1) = true := by decide +kernel
theorem zw_86 : zk_okM zm_86 (184, 111, 183, 0) = true := by decide +kernel
theorem zw_87 : zk_okM zm_87 (672, 111, 670, 671) = true := by decide +kernel
theorem zw_88 : zk_okM zm_88 (811, 111, 809, 810) = true := by decide +kernel
theorem zw_89 : zk_okM zm_89 (872, 111, 870, 871) = true := by decide +kernel
theorem zw_90 : zk_okM zm_90 (396, 116, 395, 0) = true := by decide +kernel
theorem zw_91 : zk_okM zm_91 (818, 116, 816, 817) = true := by decide +kernel
theorem zw_92 : zk_okM zm_92 (1077, 116, 1075, 1076) = true := by decide +kernel
theorem zw_93 : zk_okM zm_93 (1313, 116, 1311, 1312) = true := by decide +kernel
theorem zw_94 : zk_okM zm_94 (1280, 116, 1278, 1279) = true := by decide +kernel
theorem zw_95 : zk_okM zm_95 (432, 117, 431, 0) = true := by decide +kernel
theorem zw_96 : zk_okM zm_96 (1025, 118, 1023, 1024) = true := by decide +kernel
theorem zw_97 : zk_okM zm_97 (462, 119, 461, 0) = true := by decide +kernel
theorem zw_98 : zk_okM zm_98 (832, 119, 830, 831) = true := by decide +kernel
theorem zw_99 : zk_okM zm_99 (857, 119, 856, 26) = true := by decide +kernel
theorem zw_100 : zk_okM zm_100 (1085, 120, 1083, 1084) = true := by decide +kernel
theorem zw_101 : zk_okM zm_101 (1065, 120, 1063, 1064) = true := by decide +kernel
theorem zw_102 : zk_okM zm_102 (1057, 120, 1056, 39) = true := by decide +kernel
theorem zw_103 : zk_okM zm_103 (1151, 121, 1149, 1150) = true := by decide +kernel
theorem zw_104 : zk_okM zm_104 (1238, 122, 1236, 1237) = true := by decide +kernel
theorem zw_105 : zk_okM zm_105 (1258, 122, 1257, 43) = true := by decide +kernel
theorem zw_106 : zk_okM zm_106 (1232, 122, 1231, 0) = true := by decide +kernel
theorem zw_107 : zk_okM zm_107 (1419, 123, 1418, 0) = true := by decide +kernel
theorem zw_108 : zk_okM zm_108 (1788, 123, 1787, 86) = true := by decide +kernel
theorem zw_109 : zk_okM zm_109 (2043, 123, 2041, 2042) = true := by decide +kernel
theorem zw_110 : zk_okM zm_110 (1796, 123, 1795, 88) = true := by decide +kernel
theorem zw_111 : zk_okM zm_111 (1998, 123, 1997, 103) = true := by decide +kernel
theorem zw_112 : zk_okM zm_112 (1717, 123, 1716, 76) = true := by decide +kernel
theorem zw_113 : zk_okM zm_113 (1768, 123, 1767, 0) = true := by decide +kernel
theorem zw_114 : zk_okM zm_114 (1959, 123, 1957, 1958) = true := by decide +kernel
theorem zw_115 : zk_okM zm_115 (2039, 123, 2037, 2038) = true := by decide +kernel
theorem zw_116 : zk_okM zm_116 (1713, 123, 1712, 75) = true := by decide +kernel
theorem zw_117 : zk_okM zm_117 (1741, 123, 1740, 80) = true := by decide +kernel
theorem zw_118 : zk_okM zm_118 (1729, 123, 1728, 78) = true := by decide +kernel
theorem zw_119 : zk_okM zm_119 (1856, 123, 1855, 93) = true := by decide +kernel
theorem zw_120 : zk_okM zm_120 (1872, 123, 1871, 95) = true := by decide +kernel
theorem zw_121 : zk_okM zm_121 (2047, 123, 2045, 2046) = true := by decide +kernel
theorem zw_122 : zk_okM zm_122 (1565, 123, 1564, 49) = true := by decide +kernel
theorem zw_123 : zk_okM zm_123 (2011, 123, 2010, 104) = true := by decide +kernel
theorem zw_124 : zk_okM zm_124 (1970, 123, 1969, 101) = true := by decide +kernel
theorem zw_125 : zk_okM zm_125 (2051, 123, 2049, 2050) = true := by decide +kernel
theorem zw_126 : zk_okM zm_126 (1844, 123, 1842, 1843) = true := by decide +kernel
theorem zw_127 : zk_okM zm_127 (1745, 123, 1743, 1744) = true := by decide +kernel
theorem zw_128 : zk_okM zm_128 (1954, 123, 1952, 1953) = true := by decide +kernel
theorem zw_129 : zk_okM zm_129 (1721, 123, 1720, 77) = true := by decide +kernel
theorem zw_130 : zk_okM zm_130 (2035, 123, 2033, 2034) = true := by decide +kernel
theorem zw_131 : zk_okM zm_131 (1943, 123, 1942, 100) = true := by decide +kernel
theorem zw_132 : zk_okM zm_132 (1776, 123, 1775, 85) = true := by decide +kernel
theorem zw_133 : zk_okM zm_133 (1202, 128, 1201, 0) = true := by decide +kernel
theorem zw_134 : zk_okM zm_134 (1127, 108, 1125, 1126) = true := by decide +kernel
theorem zw_135 : zk_okM zm_135 (887, 108, 885, 886) = true := by decide +kernel
theorem zw_136 : zk_okM zm_136 (1119, 108, 1117, 1118) = true := by decide +kernel
theorem zw_137 : zk_okM zm_137 (1114, 108, 1112, 1113) = true := by decide +kernel
theorem zw_138 : zk_okM zm_138 (919, 108, 917, 918) = true := by decide +kernel
theorem zw_139 : zk_okM zm_139 (1189, 108, 1187, 1188) = true := by decide +kernel
theorem zw_140 : zk_okM zm_140 (1164, 108, 1162, 1163) = true := by decide +kernel
theorem zw_141 : zk_okM zm_141 (944, 108, 942, 943) = true := by decide +kernel
theorem zw_142 : zk_okM zm_142 (907, 108, 905, 906) = true := by decide +kernel
theorem zw_143 : zk_okM zm_143 (1081, 108, 1079, 1080) = true := by decide +kernel
theorem zw_144 : zk_okM zm_144 (1172, 108, 1171, 41) = true := by decide +kernel
theorem zw_145 : zk_okM zm_145 (1110, 108, 1108, 1109) = true := by decide +kernel
theorem zw_146 : zk_okM zm_146 (1033, 108, 1031, 1032) = true := by decide +kernel
theorem zw_147 : zk_okM zm_147 (931, 108, 929, 930) = true := by decide +kernel
theorem zw_148 : zk_okM zm_148 (973, 108, 971, 972) = true := by decide +kernel
theorem zw_149 : zk_okM zm_149 (1184, 108, 1182, 1183) = true := by decide +kernel
theorem zw_150 : zk_okM zm_150 (1135, 108, 1133, 1134) = true := by decide +kernel
theorem zw_151 : zk_okM zm_151 (1106, 108, 1104, 1105) = true := by decide +kernel
theorem zw_152 : zk_okM zm_152 (780, 109, 779, 18) = true := by decide +kernel
theorem zw_153 : zk_okM zm_153 (686, 110, 684, 685) = true := by decide +kernel
theorem zw_154 : zk_okM zm_154 (1325, 117, 1323, 1324) = true := by decide +kernel
theorem zw_155 : zk_okM zm_155 (1276, 117, 1274, 1275) = true := by decide +kernel
theorem zw_156 : zk_okM zm_156 (1333, 117, 1331, 1332) = true := by decide +kernel
theorem zw_157 : zk_okM zm_157 (1309, 117, 1307, 1308) = true := by decide +kernel
theorem zw_158 : zk_okM zm_158 (456, 118, 455, 0) = true := by decide +kernel
theorem zw_159 : zk_okM zm_159 (853, 119, 852, 25) = true := by decide +kernel
theorem zw_160 : zk_okM zm_160 (533, 120, 532, 0) = true := by decide +kernel
theorem zw_161 : zk_okM zm_161 (558, 121, 557, 0) = true := by decide +kernel
theorem zw_162 : zk_okM zm_162 (1147, 121, 1145, 1146) = true := by decide +kernel
theorem zw_163 : zk_okM zm_163 (586, 122, 585, 0) = true := by decide +kernel
theorem zw_164 : zk_okM zm_164 (1254, 122, 1252, 1253) = true := by decide +kernel
theorem zw_165 : zk_okM zm_165 (1709, 123, 1707, 1708) = true := by decide +kernel
theorem zw_166 : zk_okM zm_166 (1737, 123, 1735, 1736) = true := by decide +kernel
theorem zw_167 : zk_okM zm_167 (1725, 123, 1723, 1724) = true := by decide +kernel
theorem zw_168 : zk_okM zm_168 (2027, 123, 2025, 2026) = true := by decide +kernel
theorem zw_169 : zk_okM zm_169 (1876, 123, 1874, 1875) = true := by decide +kernel
theorem zw_170 : zk_okM zm_170 (1611, 123, 1610, 58) = true := by decide +kernel
theorem zw_171 : zk_okM zm_171 (1891, 123, 1889, 1890) = true := by decide +kernel
theorem zw_172 : zk_okM zm_172 (1765, 123, 1764, 84) = true := by decide +kernel
theorem zw_173 : zk_okM zm_173 (1620, 123, 1619, 60) = true := by decide +kernel
theorem zw_174 : zk_okM zm_174 (2015, 123, 2013, 2014) = true := by decide +kernel
theorem zw_175 : zk_okM zm_175 (1974, 123, 1972, 1973) = true := by decide +kernel
theorem zw_176 : zk_okM zm_176 (1966, 123, 1964, 1965) = true := by decide +kernel
theorem zw_177 : zk_okM zm_177 (2003, 123, 2001, 2002) = true := by decide +kernel
theorem zw_178 : zk_okM zm_178 (1780, 123, 1778, 1779) = true := by decide +kernel
theorem zw_179 : zk_okM zm_179 (2019, 123, 2017, 2018) = true := by decide +kernel
theorem zw_180 : zk_okM zm_180 (2023, 123, 2021, 2022) = true := by decide +kernel
theorem zw_181 : zk_okM zm_181 (1887, 123, 1885, 1886) = true := by decide +kernel
theorem zw_182 : zk_okM zm_182 (1939, 123, 1937, 1938) = true := by decide +kernel
theorem zw_183 : zk_okM zm_183 (1950, 123, 1948, 1949) = true := by decide +kernel
theorem zw_184 : zk_okM zm_184 (1772, 123, 1770, 1771) = true := by decide +kernel
theorem zw_185 : zk_okM zm_185 (1199, 128, 1198, 0) = true := by decide +kernel
theorem zw_186 : zk_okM zm_186 (1210, 128, 1209, 0) = true := by decide +kernel
theorem zw_187 : zk_okM zm_187 (1143, 108, 1141, 1142) = true := by decide +kernel
theorem zw_188 : zk_okM zm_188 (1159, 108, 1157, 1158) = true := by decide +kernel
theorem zw_189 : zk_okM zm_189 (1329, 108, 1327, 1328) = true := by decide +kernel
theorem zw_190 : zk_okM zm_190 (1317, 108, 1315, 1316) = true := by decide +kernel
theorem zw_191 : zk_okM zm_191 (1301, 108, 1299, 1300) = true := by decide +kernel
theorem zw_192 : zk_okM zm_192 (1289, 108, 1288, 45) = true := by decide +kernel
theorem zw_193 : zk_okM zm_193 (1207, 108, 1205, 1206) = true := by decide +kernel
theorem zw_194 : zk_okM zm_194 (1196, 108, 1194, 1195) = true := by decide +kernel
theorem zw_195 : zk_okM zm_195 (1268, 108, 1266, 1267) = true := by decide +kernel
theorem zw_196 : zk_okM zm_196 (1297, 108, 1295, 1296) = true := by decide +kernel
theorem zw_197 : zk_okM zm_197 (1305, 108, 1303, 1304) = true := by decide +kernel
theorem zw_198 : zk_okM zm_198 (1168, 108, 1166, 1167) = true := by decide +kernel
theorem zw_199 : zk_okM zm_199 (1180, 108, 1178, 1179) = true := by decide +kernel
theorem zw_200 : zk_okM zm_200 (790, 109, 789, 20) = true := by decide +kernel
theorem zw_201 : zk_okM zm_201 (798, 109, 797, 21) = true := by decide +kernel
theorem zw_202 : zk_okM zm_202 (776, 109, 775, 17) = true := by decide +kernel
theorem zw_203 : zk_okM zm_203 (749, 109, 748, 12) = true := by decide +kernel
theorem zw_204 : zk_okM zm_204 (741, 109, 740, 10) = true := by decide +kernel
theorem zw_205 : zk_okM zm_205 (679, 110, 677, 678) = true := by decide +kernel
theorem zw_206 : zk_okM zm_206 (849, 119, 847, 848) = true := by decide +kernel
theorem zw_207 : zk_okM zm_207 (868, 119, 866, 867) = true := by decide +kernel
theorem zw_208 : zk_okM zm_208 (1757, 123, 1755, 1756) = true := by decide +kernel
theorem zw_209 : zk_okM zm_209 (1808, 123, 1807, 91) = true := by decide +kernel
theorem zw_210 : zk_okM zm_210 (1285, 108, 1283, 1284) = true := by decide +kernel
theorem zw_211 : zk_okM zm_211 (1293, 108, 1291, 1292) = true := by decide +kernel
theorem zw_212 : zk_okM zm_212 (967, 118, 966, 35) = true := by decide +kernel
theorem zw_213 : zk_okM zm_213 (1102, 120, 1100, 1101) = true := by decide +kernel
theorem zw_214 : zk_okM zm_214 (1047, 120, 1046, 37) = true := by decide +kernel
theorem zw_215 : zk_okM zm_215 (845, 121, 844, 24) = true := by decide +kernel
theorem zw_216 : zk_okM zm_216 (1224, 122, 1223, 42) = true := by decide +kernel
theorem zw_217 : zk_okM zm_217 (1804, 123, 1803, 90) = true := by decide +kernel
theorem zw_218 : zk_okM zm_218 (1098, 108, 1096, 1097) = true := by decide +kernel
theorem zw_219 : zk_okM zm_219 (296, 110, 295, 0) = true := by decide +kernel
theorem zw_220 : zk_okM zm_220 (961, 118, 959, 960) = true := by decide +kernel
theorem zw_221 : zk_okM zm_221 (1041, 120, 1039, 1040) = true := by decide +kernel
theorem zw_222 : zk_okM zm_222 (841, 121, 840, 23) = true := by decide +kernel
theorem zw_223 : zk_okM zm_223 (1218, 122, 1216, 1217) = true := by decide +kernel
theorem zw_224 : zk_okM zm_224 (1800, 123, 1799, 89) = true := by decide +kernel
theorem zw_225 : zk_okM zm_225 (1584, 123, 1583, 52) = true := by decide +kernel
theorem zw_226 : zk_okM zm_226 (1816, 123, 1814, 1815) = true := by decide +kernel
theorem zw_227 : zk_okM zm_227 (1824, 123, 1822, 1823) = true := by decide +kernel
theorem zw_228 : zk_okM zm_228 (1903, 123, 1902, 97) = true := by decide +kernel
theorem zw_229 : zk_okM zm_229 (2007, 123, 2005, 2006) = true := by decide +kernel
theorem zw_230 : zk_okM zm_230 (1249, 108, 1247, 1248) = true := by decide +kernel
theorem zw_231 : zk_okM zm_231 (1037, 108, 1035, 1036) = true := by decide +kernel
theorem zw_232 : zk_okM zm_232 (1061, 108, 1059, 1060) = true := by decide +kernel
theorem zw_233 : zk_okM zm_233 (1245, 108, 1243, 1244) = true := by decide +kernel
theorem zw_234 : zk_okM zm_234 (1214, 108, 1212, 1213) = true := by decide +kernel
theorem zw_235 : zk_okM zm_235 (145, 109, 144, 0) = true := by decide +kernel
theorem zw_236 : zk_okM zm_236 (736, 110, 734, 735) = true := by decide +kernel
theorem zw_237 : zk_okM zm_237 (957, 118, 955, 956) = true := by decide +kernel
theorem zw_238 : zk_okM zm_238 (827, 121, 825, 826) = true := by decide +kernel
theorem zw_239 : zk_okM zm_239 (1616, 123, 1615, 59) = true := by decide +kernel
theorem zw_240 : zk_okM zm_240 (1883, 123, 1881, 1882) = true := by decide +kernel
theorem zw_241 : zk_okM zm_241 (1993, 123, 1991, 1992) = true := by decide +kernel
theorem zw_242 : zk_okM zm_242 (1935, 123, 1933, 1934) = true := by decide +kernel
theorem zw_243 : zk_okM zm_243 (1852, 123, 1851, 92) = true := by decide +kernel
theorem zw_244 : zk_okM zm_244 (1632, 123, 1631, 63) = true := by decide +kernel
theorem zw_245 : zk_okM zm_245 (1899, 123, 1898, 96) = true := by decide +kernel
theorem zw_246 : zk_okM zm_246 (1607, 123, 1606, 57) = true := by decide +kernel
theorem zw_247 : zk_okM zm_247 (1982, 123, 1981, 102) = true := by decide +kernel
theorem zw_248 : zk_okM zm_248 (1868, 123, 1866, 1867) = true := by decide +kernel
theorem zw_249 : zk_okM zm_249 (1792, 123, 1791, 87) = true := by decide +kernel
theorem zw_250 : zk_okM zm_250 (137, 108, 136, 0) = true := by decide +kernel
theorem zw_251 : zk_okM zm_251 (953, 108, 952, 34) = true := by decide +kernel
theorem zw_252 : zk_okM zm_252 (1069, 108, 1067, 1068) = true := by decide +kernel
theorem zw_253 : zk_okM zm_253 (1272, 108, 1270, 1271) = true := by decide +kernel
theorem zw_254 : zk_okM zm_254 (732, 109, 731, 9) = true := by decide +kernel
theorem zw_255 : zk_okM zm_255 (767, 109, 766, 16) = true := by decide +kernel
theorem zw_256 : zk_okM zm_256 (1923, 123, 1922, 98) = true := by decide +kernel
theorem zw_257 : zk_okM zm_257 (1840, 123, 1838, 1839) = true := by decide +kernel
theorem zw_258 : zk_okM zm_258 (1911, 123, 1909, 1910) = true := by decide +kernel
theorem zw_259 : zk_okM zm_259 (1907, 123, 1905, 1906) = true := by decide +kernel
theorem zw_260 : zk_okM zm_260 (1895, 123, 1893, 1894) = true := by decide +kernel
theorem zw_261 : zk_okM zm_261 (1832, 123, 1830, 1831) = true := by decide +kernel
theorem zw_262 : zk_okM zm_262 (1828, 123, 1826, 1827) = true := by decide +kernel
theorem zw_263 : zk_okM zm_263 (1848, 123, 1846, 1847) = true := by decide +kernel
theorem zw_264 : zk_okM zm_264 (1864, 123, 1862, 1863) = true := by decide +kernel
theorem zw_265 : zk_okM zm_265 (1812, 123, 1810, 1811) = true := by decide +kernel
theorem zw_266 : zk_okM zm_266 (1820, 123, 1818, 1819) = true := by decide +kernel
theorem zw_267 : zk_okM zm_267 (1989, 123, 1987, 1988) = true := by decide +kernel
theorem zw_268 : zk_okM zm_268 (1603, 123, 1602, 56) = true := by decide +kernel
theorem zw_269 : zk_okM zm_269 (1664, 123, 1663, 68) = true := by decide +kernel
theorem zw_270 : zk_okM zm_270 (1628, 123, 1627, 62) = true := by decide +kernel
theorem zw_271 : zk_okM zm_271 (1978, 123, 1976, 1977) = true := by decide +kernel
theorem zw_272 : zk_okM zm_272 (1915, 123, 1913, 1914) = true := by decide +kernel
theorem zw_273 : zk_okM zm_273 (1836, 123, 1834, 1835) = true := by decide +kernel
theorem zw_274 : zk_okM zm_274 (1784, 123, 1782, 1783) = true := by decide +kernel
theorem zw_275 : zk_okM zm_275 (1013, 108, 1011, 1012) = true := by decide +kernel
theorem zw_276 : zk_okM zm_276 (1005, 108, 1003, 1004) = true := by decide +kernel
theorem zw_277 : zk_okM zm_277 (1001, 108, 999, 1000) = true := by decide +kernel
theorem zw_278 : zk_okM zm_278 (985, 108, 983, 984) = true := by decide +kernel
theorem zw_279 : zk_okM zm_279 (993, 108, 991, 992) = true := by decide +kernel
theorem zw_280 : zk_okM zm_280 (989, 108, 987, 988) = true := by decide +kernel
theorem zw_281 : zk_okM zm_281 (997, 108, 995, 996) = true := by decide +kernel
theorem zw_282 : zk_okM zm_282 (1021, 108, 1019, 1020) = true := by decide +kernel
theorem zw_283 : zk_okM zm_283 (949, 108, 947, 948) = true := by decide +kernel
theorem zw_284 : zk_okM zm_284 (981, 108, 979, 980) = true := by decide +kernel
theorem zw_285 : zk_okM zm_285 (806, 109, 805, 22) = true := by decide +kernel
theorem zw_286 : zk_okM zm_286 (745, 109, 744, 11) = true := by decide +kernel
theorem zw_287 : zk_okM zm_287 (784, 109, 783, 19) = true := by decide +kernel
theorem zw_288 : zk_okM zm_288 (727, 109, 726, 8) = true := by decide +kernel
theorem zw_289 : zk_okM zm_289 (763, 109, 762, 15) = true := by decide +kernel
theorem zw_290 : zk_okM zm_290 (1599, 123, 1598, 55) = true := by decide +kernel
theorem zw_291 : zk_okM zm_291 (1919, 123, 1917, 1918) = true := by decide +kernel
theorem zw_292 : zk_okM zm_292 (1931, 123, 1929, 1930) = true := by decide +kernel
theorem zw_293 : zk_okM zm_293 (1660, 123, 1659, 67) = true := by decide +kernel
theorem zw_294 : zk_okM zm_294 (1681, 123, 1680, 71) = true := by decide +kernel
theorem zw_295 : zk_okM zm_295 (1685, 123, 1684, 72) = true := by decide +kernel
theorem zw_296 : zk_okM zm_296 (710, 109, 709, 4) = true := by decide +kernel
theorem zw_297 : zk_okM zm_297 (1693, 123, 1692, 74) = true := by decide +kernel
theorem zw_298 : zk_okM zm_298 (1624, 123, 1623, 61) = true := by decide +kernel
theorem zw_299 : zk_okM zm_299 (1656, 123, 1655, 66) = true := by decide +kernel
theorem zw_300 : zk_okM zm_300 (1677, 123, 1676, 70) = true := by decide +kernel
theorem zw_301 : zk_okM zm_301 (1590, 123, 1589, 53) = true := by decide +kernel
theorem zw_302 : zk_okM zm_302 (1689, 123, 1688, 73) = true := by decide +kernel
theorem zw_303 : zk_okM zm_303 (668, 109, 666, 667) = true := by decide +kernel
theorem zw_304 : zk_okM zm_304 (1671, 123, 1670, 69) = true := by decide +kernel
theorem zw_305 : zk_okM zm_305 (1647, 123, 1646, 65) = true := by decide +kernel
theorem zw_306 : zk_okM zm_306 (660, 108, 658, 659) = true := by decide +kernel
theorem zw_307 : zk_okM zm_307 (1579, 123, 1578, 51) = true := by decide +kernel
theorem zw_308 : zk_okM zm_308 (1550, 123, 1548, 1549) = true := by decide +kernel
