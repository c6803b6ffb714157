set_option maxRecDepth 100000 in
theorem ck_46 : (ct_46.zipIdx.all (mc_ck 5 46 cX5_reset)) = true := by decide +kernel
set_option maxRecDepth 100000 in
theorem ck_47 : (ct_47.zipIdx.all (mc_ck 5 47 cX5_takeOver)) = true := by decide +kernel
set_option maxRecDepth 100000 in
theorem ck_48 : (ct_48.zipIdx.all (mc_ck 6 48 cX6_init)) = true := by decide +kernel
set_option maxRecDepth 100000 in
theorem ck_49 : (ct_49.zipIdx.all (mc_ck 6 49 cX6_isAbsent)) = true := by decide +kernel
set_option maxRecDepth 100000 in
theorem ck_50 : (ct_50.zipIdx.all (mc_ck 6 50 cX6_begin)) = true := by decide +kernel
set_option maxRecDepth 100000 in
theorem ck_51 : (ct_51.zipIdx.all (mc_ck 6 51 cX6_lacksRow)) = true := by decide +kernel
set_option maxRecDepth 100000 in
theorem ck_52 : (ct_52.zipIdx.all (mc_ck 6 52 cX6_isMissing)) = true := by decide +kernel
set_option maxRecDepth 100000 in
theorem ck_53 : (ct_53.zipIdx.all (mc_ck 6 53 cX6_renewRow)) = true := by decide +kernel
set_option maxRecDepth 100000 in
theorem ck_54 : (ct_54.zipIdx.all (mc_ck 6 54 cX6_placeOf)) = true := by decide +kernel
set_option maxRecDepth 100000 in
theorem ck_55 : (ct_55.zipIdx.all (mc_ck 6 55 cX6_numberAt)) = true := by decide +kernel
set_option maxRecDepth 100000 in
theorem ck_56 : (ct_56.zipIdx.all (mc_ck 6 56 cX6_findingAt)) = true := by decide +kernel
set_option maxRecDepth 100000 in
theorem ck_57 : (ct_57.zipIdx.all (mc_ck 6 57 cX6_lacksRange)) = true := by decide +kernel
set_option maxRecDepth 100000 in
theorem ck_58 : (ct_58.zipIdx.all (mc_ck 6 58 cX6_write)) = true := by decide +kernel
set_option maxRecDepth 100000 in
theorem ck_59 : (ct_59.zipIdx.all (mc_ck 6 59 cX6_asSorted)) = true := by decide +kernel
set_option maxRecDepth 100000 in
theorem ck_60 : (ct_60.zipIdx.all (mc_ck 7 60 cX7_init)) = true := by decide +kernel
set_option maxRecDepth 100000 in
theorem ck_61 : (ct_61.zipIdx.all (mc_ck 7 61 cX7_plate)) = true := by decide +kernel
set_option maxRecDepth 100000 in
theorem ck_62 : (ct_62.zipIdx.all (mc_ck 7 62 cX7_kind)) = true := by decide +kernel
set_option maxRecDepth 100000 in
theorem ck_63 : (ct_63.zipIdx.all (mc_ck 7 63 cX7_tell)) = true := by decide +kernel
set_option maxRecDepth 100000 in
theorem ck_64 : (ct_64.zipIdx.all (mc_ck 7 64 cX7_let)) = true := by decide +kernel
set_option maxRecDepth 100000 in
theorem ck_65 : (ct_65.zipIdx.all (mc_ck 7 65 cX7_turn)) = true := by decide +kernel
set_option maxRecDepth 100000 in
theorem ck_66 : (ct_66.zipIdx.all (mc_ck 7 66 cX7_gauge)) = true := by decide +kernel
set_option maxRecDepth 100000 in
theorem ck_67 : (ct_67.zipIdx.all (mc_ck 7 67 cX7_want)) = true := by decide +kernel
set_option maxRecDepth 100000 in
theorem ck_68 : (ct_68.zipIdx.all (mc_ck 7 68 cX7_arrange)) = true := by decide +kernel
set_option maxRecDepth 100000 in
theorem ck_69 : (ct_69.zipIdx.all (mc_ck 7 69 cX7_one)) = true := by decide +kernel
set_option maxRecDepth 100000 in
theorem ck_70 : (ct_70.zipIdx.all (mc_ck 7 70 cX7_undo)) = true := by decide +kernel
set_option maxRecDepth 100000 in
theorem ck_71 : (ct_71.zipIdx.all (mc_ck 7 71 cX7_point)) = true := by decide +kernel
set_option maxRecDepth 100000 in
theorem ck_72 : (ct_72.zipIdx.all (mc_ck 7 72 cX7_worth)) = true := by decide +kernel
set_option maxRecDepth 100000 in
theorem ck_73 : (ct_73.zipIdx.all (mc_ck 7 73 cX7_needle)) = true := by decide +kernel
set_option maxRecDepth 100000 in
theorem ck_74 : (ct_74.zipIdx.all (mc_ck 7 74 cX7_joint)) = true := by decide +kernel
set_option maxRecDepth 100000 in
theorem ck_75 : (ct_75.zipIdx.all (mc_ck 7 75 cX7_strain)) = true := by decide +kernel
set_option maxRecDepth 100000 in
theorem ck_76 : (ct_76.zipIdx.all (mc_ck 7 76 cX7_troubled)) = true := by decide +kernel
set_option maxRecDepth 100000 in
theorem ck_77 : (ct_77.zipIdx.all (mc_ck 7 77 cX7_apart)) = true := by decide +kernel
set_option maxRecDepth 100000 in
theorem ck_78 : (ct_78.zipIdx.all (mc_ck 7 78 cX7_paired)) = true := by decide +kernel
set_option maxRecDepth 100000 in
theorem ck_79 : (ct_79.zipIdx.all (mc_ck 7 79 cX7_of)) = true := by decide +kernel
set_option maxRecDepth 100000 in
theorem ck_80 : (ct_80.zipIdx.all (mc_ck 7 80 cX7_least)) = true := by decide +kernel
set_option maxRecDepth 100000 in
theorem ck_81 : (ct_81.zipIdx.all (mc_ck 7 81 cX7_many)) = true := by decide +kernel
set_option maxRecDepth 100000 in
theorem ck_82 : (ct_82.zipIdx.all (mc_ck 7 82 cX7_best)) = true := by decide +kernel
set_option maxRecDepth 100000 in
theorem ck_83 : (ct_83.zipIdx.all (mc_ck 7 83 cX7_sure)) = true := by decide +kernel
set_option maxRecDepth 100000 in
theorem ck_84 : (ct_84.zipIdx.all (mc_ck 7 84 cX7_counts)) = true := by decide +kernel
set_option maxRecDepth 100000 in
theorem ck_85 : (ct_85.zipIdx.all (mc_ck 7 85 cX7_draw)) = true := by decide +kernel
set_option maxRecDepth 100000 in
theorem ck_86 : (ct_86.zipIdx.all (mc_ck 7 86 cX7_above)) = true := by decide +kernel
set_option maxRecDepth 100000 in
theorem ck_87 : (ct_87.zipIdx.all (mc_ck 7 87 cX7_strip)) = true := by decide +kernel
set_option maxRecDepth 100000 in
theorem ck_88 : (ct_88.zipIdx.all (mc_ck 7 88 cX7_row)) = true := by decide +kernel
set_option maxRecDepth 100000 in
theorem ck_89 : (ct_89.zipIdx.all (mc_ck 7 89 cX7_put)) = true := by decide +kernel
set_option maxRecDepth 100000 in
theorem ck_90 : (ct_90.zipIdx.all (mc_ck 7 90 cX7_item)) = true := by decide +kernel
set_option maxRecDepth 100000 in
theorem ck_91 : (ct_91.zipIdx.all (mc_ck 7 91 cX7_copy)) = true := by decide +kernel
