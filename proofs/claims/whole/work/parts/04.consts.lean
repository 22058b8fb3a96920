theorem cb_m10 : (Int8.ofInt (-10)).toInt32 = (-10 : Int32) := by decide +kernel
theorem cb_6 : (Int8.ofInt (6)).toInt32 = (6 : Int32) := by decide +kernel
theorem cb_7 : (Int8.ofInt (7)).toInt32 = (7 : Int32) := by decide +kernel
theorem cb_8 : (Int8.ofInt (8)).toInt32 = (8 : Int32) := by decide +kernel
theorem cb_9 : (Int8.ofInt (9)).toInt32 = (9 : Int32) := by decide +kernel
theorem cb_10 : (Int8.ofInt (10)).toInt32 = (10 : Int32) := by decide +kernel
theorem cb_11 : (Int8.ofInt (11)).toInt32 = (11 : Int32) := by decide +kernel
theorem cb_12 : (Int8.ofInt (12)).toInt32 = (12 : Int32) := by decide +kernel
theorem cb_13 : (Int8.ofInt (13)).toInt32 = (13 : Int32) := by decide +kernel
theorem cb_16 : (Int8.ofInt (16)).toInt32 = (16 : Int32) := by decide +kernel
theorem cb_20 : (Int8.ofInt (20)).toInt32 = (20 : Int32) := by decide +kernel
theorem cb_21 : (Int8.ofInt (21)).toInt32 = (21 : Int32) := by decide +kernel
theorem cb_24 : (Int8.ofInt (24)).toInt32 = (24 : Int32) := by decide +kernel
theorem cb_30 : (Int8.ofInt (30)).toInt32 = (30 : Int32) := by decide +kernel
theorem cb_32 : (Int8.ofInt (32)).toInt32 = (32 : Int32) := by decide +kernel
theorem cb_33 : (Int8.ofInt (33)).toInt32 = (33 : Int32) := by decide +kernel
theorem cb_37 : (Int8.ofInt (37)).toInt32 = (37 : Int32) := by decide +kernel
theorem cb_38 : (Int8.ofInt (38)).toInt32 = (38 : Int32) := by decide +kernel
theorem cb_40 : (Int8.ofInt (40)).toInt32 = (40 : Int32) := by decide +kernel
theorem cb_41 : (Int8.ofInt (41)).toInt32 = (41 : Int32) := by decide +kernel
theorem cb_42 : (Int8.ofInt (42)).toInt32 = (42 : Int32) := by decide +kernel
theorem cb_43 : (Int8.ofInt (43)).toInt32 = (43 : Int32) := by decide +kernel
theorem cb_45 : (Int8.ofInt (45)).toInt32 = (45 : Int32) := by decide +kernel
theorem cb_47 : (Int8.ofInt (47)).toInt32 = (47 : Int32) := by decide +kernel
theorem cb_48 : (Int8.ofInt (48)).toInt32 = (48 : Int32) := by decide +kernel
theorem cb_50 : (Int8.ofInt (50)).toInt32 = (50 : Int32) := by decide +kernel
theorem cb_51 : (Int8.ofInt (51)).toInt32 = (51 : Int32) := by decide +kernel
theorem cb_57 : (Int8.ofInt (57)).toInt32 = (57 : Int32) := by decide +kernel
theorem cb_60 : (Int8.ofInt (60)).toInt32 = (60 : Int32) := by decide +kernel
theorem cb_61 : (Int8.ofInt (61)).toInt32 = (61 : Int32) := by decide +kernel
theorem cb_62 : (Int8.ofInt (62)).toInt32 = (62 : Int32) := by decide +kernel
theorem cb_66 : (Int8.ofInt (66)).toInt32 = (66 : Int32) := by decide +kernel
theorem cb_69 : (Int8.ofInt (69)).toInt32 = (69 : Int32) := by decide +kernel
theorem cb_70 : (Int8.ofInt (70)).toInt32 = (70 : Int32) := by decide +kernel
theorem cb_71 : (Int8.ofInt (71)).toInt32 = (71 : Int32) := by decide +kernel
theorem cb_86 : (Int8.ofInt (86)).toInt32 = (86 : Int32) := by decide +kernel
theorem cb_90 : (Int8.ofInt (90)).toInt32 = (90 : Int32) := by decide +kernel
theorem cb_98 : (Int8.ofInt (98)).toInt32 = (98 : Int32) := by decide +kernel
theorem cb_99 : (Int8.ofInt (99)).toInt32 = (99 : Int32) := by decide +kernel
theorem cb_100 : (Int8.ofInt (100)).toInt32 = (100 : Int32) := by decide +kernel
theorem cb_119 : (Int8.ofInt (119)).toInt32 = (119 : Int32) := by decide +kernel
theorem cb_121 : (Int8.ofInt (121)).toInt32 = (121 : Int32) := by decide +kernel
theorem cb_124 : (Int8.ofInt (124)).toInt32 = (124 : Int32) := by decide +kernel
theorem ci_m1 : Int32.ofInt (-1) = (-1 : Int32) := by decide +kernel
theorem ci_0 : Int32.ofInt (0) = (0 : Int32) := by decide +kernel
theorem ci_1 : Int32.ofInt (1) = (1 : Int32) := by decide +kernel
theorem ci_2 : Int32.ofInt (2) = (2 : Int32) := by decide +kernel
theorem ci_3 : Int32.ofInt (3) = (3 : Int32) := by decide +kernel
theorem ci_4 : Int32.ofInt (4) = (4 : Int32) := by decide +kernel
theorem ci_5 : Int32.ofInt (5) = (5 : Int32) := by decide +kernel
theorem cs_128 : (Int16.ofInt (128)).toInt32 = (128 : Int32) := by decide +kernel
theorem cs_146 : (Int16.ofInt (146)).toInt32 = (146 : Int32) := by decide +kernel
theorem cs_170 : (Int16.ofInt (170)).toInt32 = (170 : Int32) := by decide +kernel
theorem cs_255 : (Int16.ofInt (255)).toInt32 = (255 : Int32) := by decide +kernel
theorem cs_412 : (Int16.ofInt (412)).toInt32 = (412 : Int32) := by decide +kernel
theorem cs_999 : (Int16.ofInt (999)).toInt32 = (999 : Int32) := by decide +kernel
theorem cs_9999 : (Int16.ofInt (9999)).toInt32 = (9999 : Int32) := by decide +kernel
theorem cs_10000 : (Int16.ofInt (10000)).toInt32 = (10000 : Int32) := by decide +kernel
theorem cs_10033 : (Int16.ofInt (10033)).toInt32 = (10033 : Int32) := by decide +kernel
theorem cs_12345 : (Int16.ofInt (12345)).toInt32 = (12345 : Int32) := by decide +kernel
theorem kc_0 : kd 0 = 0 := by decide +kernel
theorem kc_9 : kd 9 = 20 := by decide +kernel
theorem kc_10 : kd 10 = 21 := by decide +kernel
theorem kc_36 : kd 36 = 0 := by decide +kernel
theorem kc_72 : kd 72 = 0 := by decide +kernel
theorem kc_108 : kd 108 = 8 := by decide +kernel
theorem kc_109 : kd 109 = 4 := by decide +kernel
theorem kc_110 : kd 110 = 6 := by decide +kernel
theorem kc_113 : kd 113 = 7 := by decide +kernel
theorem kc_114 : kd 114 = 22 := by decide +kernel
theorem kc_115 : kd 115 = 1 := by decide +kernel
theorem kc_116 : kd 116 = 23 := by decide +kernel
theorem kc_117 : kd 117 = 23 := by decide +kernel
theorem kc_118 : kd 118 = 24 := by decide +kernel
theorem kc_119 : kd 119 = 32 := by decide +kernel
theorem kc_128 : kd 128 = 25 := by decide +kernel
theorem kc_129 : kd 129 = 9 := by decide +kernel
theorem kc_130 : kd 130 = 26 := by decide +kernel
theorem kc_131 : kd 131 = 26 := by decide +kernel
theorem kc_132 : kd 132 = 26 := by decide +kernel
theorem kc_133 : kd 133 = 25 := by decide +kernel
theorem kc_134 : kd 134 = 27 := by decide +kernel
theorem kc_135 : kd 135 = 27 := by decide +kernel
theorem kc_136 : kd 136 = 28 := by decide +kernel
theorem kc_137 : kd 137 = 20 := by decide +kernel
theorem kc_138 : kd 138 = 20 := by decide +kernel
theorem kc_139 : kd 139 = 24 := by decide +kernel
theorem kc_140 : kd 140 = 20 := by decide +kernel
theorem kc_141 : kd 141 = 23 := by decide +kernel
theorem kc_142 : kd 142 = 22 := by decide +kernel
