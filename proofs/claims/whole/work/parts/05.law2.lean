set_option maxRecDepth 100000 in
theorem ck_180_4 : (((((((ct_180.zipIdx).drop 100).drop 100).drop 100).drop 100).take 100).all (mc_ck 12 180 cL_law)) = true := by decide +kernel
set_option maxRecDepth 100000 in
theorem ck_180_5 : ((((((((ct_180.zipIdx).drop 100).drop 100).drop 100).drop 100).drop 100).take 100).all (mc_ck 12 180 cL_law)) = true := by decide +kernel
set_option maxRecDepth 100000 in
theorem ck_180_6 : (((((((((ct_180.zipIdx).drop 100).drop 100).drop 100).drop 100).drop 100).drop 100).take 100).all (mc_ck 12 180 cL_law)) = true := by decide +kernel
set_option maxRecDepth 100000 in
theorem ck_180_7 : ((((((((((ct_180.zipIdx).drop 100).drop 100).drop 100).drop 100).drop 100).drop 100).drop 100).take 100).all (mc_ck 12 180 cL_law)) = true := by decide +kernel
