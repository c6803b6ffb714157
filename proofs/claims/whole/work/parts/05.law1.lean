set_option maxRecDepth 100000 in
theorem ck_180_0 : (((ct_180.zipIdx).take 100).all (mc_ck 12 180 cL_law)) = true := by decide +kernel
set_option maxRecDepth 100000 in
theorem ck_180_1 : ((((ct_180.zipIdx).drop 100).take 100).all (mc_ck 12 180 cL_law)) = true := by decide +kernel
set_option maxRecDepth 100000 in
theorem ck_180_2 : (((((ct_180.zipIdx).drop 100).drop 100).take 100).all (mc_ck 12 180 cL_law)) = true := by decide +kernel
set_option maxRecDepth 100000 in
theorem ck_180_3 : ((((((ct_180.zipIdx).drop 100).drop 100).drop 100).take 100).all (mc_ck 12 180 cL_law)) = true := by decide +kernel
