set_option maxRecDepth 100000 in
theorem ck_92 : (ct_92.zipIdx.all (mc_ck 7 92 cX7_read)) = true := by decide +kernel
set_option maxRecDepth 100000 in
theorem ck_93 : (ct_93.zipIdx.all (mc_ck 7 93 cX7_about)) = true := by decide +kernel
set_option maxRecDepth 100000 in
theorem ck_94 : (ct_94.zipIdx.all (mc_ck 7 94 cX7_trace)) = true := by decide +kernel
set_option maxRecDepth 100000 in
theorem ck_95 : (ct_95.zipIdx.all (mc_ck 7 95 cX7_status)) = true := by decide +kernel
set_option maxRecDepth 100000 in
theorem ck_96 : (ct_96.zipIdx.all (mc_ck 7 96 cX7_isNoNeedle)) = true := by decide +kernel
set_option maxRecDepth 100000 in
theorem ck_97 : (ct_97.zipIdx.all (mc_ck 7 97 cX7_isNoJoint)) = true := by decide +kernel
set_option maxRecDepth 100000 in
theorem ck_98 : (ct_98.zipIdx.all (mc_ck 7 98 cX7_isNoField)) = true := by decide +kernel
set_option maxRecDepth 100000 in
theorem ck_99 : (ct_99.zipIdx.all (mc_ck 7 99 cX7_isNoArrangement)) = true := by decide +kernel
set_option maxRecDepth 100000 in
theorem ck_100 : (ct_100.zipIdx.all (mc_ck 7 100 cX7_isNoWant)) = true := by decide +kernel
set_option maxRecDepth 100000 in
theorem ck_101 : (ct_101.zipIdx.all (mc_ck 7 101 cX7_isNoStrip)) = true := by decide +kernel
set_option maxRecDepth 100000 in
theorem ck_102 : (ct_102.zipIdx.all (mc_ck 7 102 cX7_isNoSort)) = true := by decide +kernel
set_option maxRecDepth 100000 in
theorem ck_103 : (ct_103.zipIdx.all (mc_ck 7 103 cX7_asNumber)) = true := by decide +kernel
set_option maxRecDepth 100000 in
theorem ck_104 : (ct_104.zipIdx.all (mc_ck 7 104 cX7_refuse)) = true := by decide +kernel
set_option maxRecDepth 100000 in
theorem ck_105 : (ct_105.zipIdx.all (mc_ck 7 105 cX7_accept)) = true := by decide +kernel
set_option maxRecDepth 100000 in
theorem ck_106 : (ct_106.zipIdx.all (mc_ck 7 106 cX7_findingOfPlace)) = true := by decide +kernel
set_option maxRecDepth 100000 in
theorem ck_107 : (ct_107.zipIdx.all (mc_ck 7 107 cX7_findingOfTwoRows)) = true := by decide +kernel
set_option maxRecDepth 100000 in
theorem ck_108 : (ct_108.zipIdx.all (mc_ck 7 108 cX7_findingOfWants)) = true := by decide +kernel
set_option maxRecDepth 100000 in
theorem ck_109 : (ct_109.zipIdx.all (mc_ck 7 109 cX7_keepAndReshape)) = true := by decide +kernel
set_option maxRecDepth 100000 in
theorem ck_110 : (ct_110.zipIdx.all (mc_ck 7 110 cX7_surveyed)) = true := by decide +kernel
set_option maxRecDepth 100000 in
theorem ck_111 : (ct_111.zipIdx.all (mc_ck 8 111 cX8_init)) = true := by decide +kernel
set_option maxRecDepth 100000 in
theorem ck_112 : (ct_112.zipIdx.all (mc_ck 8 112 cX8_in)) = true := by decide +kernel
set_option maxRecDepth 100000 in
theorem ck_113 : (ct_113.zipIdx.all (mc_ck 8 113 cX8_needles)) = true := by decide +kernel
set_option maxRecDepth 100000 in
theorem ck_114 : (ct_114.zipIdx.all (mc_ck 8 114 cX8_across)) = true := by decide +kernel
set_option maxRecDepth 100000 in
theorem ck_115 : (ct_115.zipIdx.all (mc_ck 8 115 cX8_joints)) = true := by decide +kernel
set_option maxRecDepth 100000 in
theorem ck_116 : (ct_116.zipIdx.all (mc_ck 8 116 cX8_fields)) = true := by decide +kernel
set_option maxRecDepth 100000 in
theorem ck_117 : (ct_117.zipIdx.all (mc_ck 8 117 cX8_isNeedle)) = true := by decide +kernel
set_option maxRecDepth 100000 in
theorem ck_118 : (ct_118.zipIdx.all (mc_ck 8 118 cX8_isJoint)) = true := by decide +kernel
set_option maxRecDepth 100000 in
theorem ck_119 : (ct_119.zipIdx.all (mc_ck 8 119 cX8_keeps)) = true := by decide +kernel
set_option maxRecDepth 100000 in
theorem ck_120 : (ct_120.zipIdx.all (mc_ck 8 120 cX8_isHeld)) = true := by decide +kernel
set_option maxRecDepth 100000 in
theorem ck_121 : (ct_121.zipIdx.all (mc_ck 8 121 cX8_pointOf)) = true := by decide +kernel
set_option maxRecDepth 100000 in
theorem ck_122 : (ct_122.zipIdx.all (mc_ck 8 122 cX8_worthOf)) = true := by decide +kernel
set_option maxRecDepth 100000 in
theorem ck_123 : (ct_123.zipIdx.all (mc_ck 8 123 cX8_end)) = true := by decide +kernel
set_option maxRecDepth 100000 in
theorem ck_124 : (ct_124.zipIdx.all (mc_ck 8 124 cX8_fieldAt)) = true := by decide +kernel
set_option maxRecDepth 100000 in
theorem ck_125 : (ct_125.zipIdx.all (mc_ck 8 125 cX8_side)) = true := by decide +kernel
set_option maxRecDepth 100000 in
theorem ck_126 : (ct_126.zipIdx.all (mc_ck 8 126 cX8_countsOf)) = true := by decide +kernel
set_option maxRecDepth 100000 in
theorem ck_127 : (ct_127.zipIdx.all (mc_ck 8 127 cX8_amountOf)) = true := by decide +kernel
set_option maxRecDepth 100000 in
theorem ck_128 : (ct_128.zipIdx.all (mc_ck 8 128 cX8_bitOf)) = true := by decide +kernel
set_option maxRecDepth 100000 in
theorem ck_129 : (ct_129.zipIdx.all (mc_ck 8 129 cX8_strainOf)) = true := by decide +kernel
set_option maxRecDepth 100000 in
theorem ck_130 : (ct_130.zipIdx.all (mc_ck 8 130 cX8_now)) = true := by decide +kernel
set_option maxRecDepth 100000 in
theorem ck_131 : (ct_131.zipIdx.all (mc_ck 8 131 cX8_mayBe)) = true := by decide +kernel
set_option maxRecDepth 100000 in
theorem ck_132 : (ct_132.zipIdx.all (mc_ck 8 132 cX8_all)) = true := by decide +kernel
set_option maxRecDepth 100000 in
theorem ck_133 : (ct_133.zipIdx.all (mc_ck 8 133 cX8_plate)) = true := by decide +kernel
set_option maxRecDepth 100000 in
theorem ck_134 : (ct_134.zipIdx.all (mc_ck 8 134 cX8_kind)) = true := by decide +kernel
set_option maxRecDepth 100000 in
theorem ck_135 : (ct_135.zipIdx.all (mc_ck 8 135 cX8_tell)) = true := by decide +kernel
set_option maxRecDepth 100000 in
theorem ck_136 : (ct_136.zipIdx.all (mc_ck 8 136 cX8_let)) = true := by decide +kernel
set_option maxRecDepth 100000 in
theorem ck_137 : (ct_137.zipIdx.all (mc_ck 8 137 cX8_turn)) = true := by decide +kernel
