set_option maxRecDepth 100000 in
theorem ck_180_12 : ((((((((((((((ct_180.zipIdx).drop 100).drop 100).drop 100).drop 100).drop 100).drop 100).drop 100).drop 100).drop 100).drop 100).drop 100).drop 100).all (mc_ck 12 180 cL_law)) = true := by decide +kernel
