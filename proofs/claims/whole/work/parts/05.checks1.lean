set_option maxRecDepth 100000 in
theorem ck_0 : (ct_0.zipIdx.all (mc_ck 0 0 cX0_init)) = true := by decide +kernel
set_option maxRecDepth 100000 in
theorem ck_1 : (ct_1.zipIdx.all (mc_ck 0 1 cX0_layOut)) = true := by decide +kernel
set_option maxRecDepth 100000 in
theorem ck_2 : (ct_2.zipIdx.all (mc_ck 0 2 cX0_markRim)) = true := by decide +kernel
set_option maxRecDepth 100000 in
theorem ck_3 : (ct_3.zipIdx.all (mc_ck 0 3 cX0_fieldAt)) = true := by decide +kernel
set_option maxRecDepth 100000 in
theorem ck_4 : (ct_4.zipIdx.all (mc_ck 0 4 cX0_addJoint)) = true := by decide +kernel
set_option maxRecDepth 100000 in
theorem ck_5 : (ct_5.zipIdx.all (mc_ck 0 5 cX0_isOnRim)) = true := by decide +kernel
set_option maxRecDepth 100000 in
theorem ck_6 : (ct_6.zipIdx.all (mc_ck 1 6 cX1_init)) = true := by decide +kernel
set_option maxRecDepth 100000 in
theorem ck_7 : (ct_7.zipIdx.all (mc_ck 1 7 cX1_keep)) = true := by decide +kernel
set_option maxRecDepth 100000 in
theorem ck_8 : (ct_8.zipIdx.all (mc_ck 1 8 cX1_giveBack)) = true := by decide +kernel
set_option maxRecDepth 100000 in
theorem ck_9 : (ct_9.zipIdx.all (mc_ck 1 9 cX1_forget)) = true := by decide +kernel
set_option maxRecDepth 100000 in
theorem ck_10 : (ct_10.zipIdx.all (mc_ck 2 10 cX2_init)) = true := by decide +kernel
set_option maxRecDepth 100000 in
theorem ck_11 : (ct_11.zipIdx.all (mc_ck 2 11 cX2_survey)) = true := by decide +kernel
set_option maxRecDepth 100000 in
theorem ck_12 : (ct_12.zipIdx.all (mc_ck 2 12 cX2_addNeedle)) = true := by decide +kernel
set_option maxRecDepth 100000 in
theorem ck_13 : (ct_13.zipIdx.all (mc_ck 2 13 cX2_mayBe)) = true := by decide +kernel
set_option maxRecDepth 100000 in
theorem ck_14 : (ct_14.zipIdx.all (mc_ck 2 14 cX2_countWith)) = true := by decide +kernel
set_option maxRecDepth 100000 in
theorem ck_15 : (ct_15.zipIdx.all (mc_ck 2 15 cX2_pick)) = true := by decide +kernel
set_option maxRecDepth 100000 in
theorem ck_16 : (ct_16.zipIdx.all (mc_ck 2 16 cX2_nextAfter)) = true := by decide +kernel
set_option maxRecDepth 100000 in
theorem ck_17 : (ct_17.zipIdx.all (mc_ck 2 17 cX2_agreement)) = true := by decide +kernel
set_option maxRecDepth 100000 in
theorem ck_18 : (ct_18.zipIdx.all (mc_ck 3 18 cX3_init)) = true := by decide +kernel
set_option maxRecDepth 100000 in
theorem ck_19 : (ct_19.zipIdx.all (mc_ck 3 19 cX3_between)) = true := by decide +kernel
set_option maxRecDepth 100000 in
theorem ck_20 : (ct_20.zipIdx.all (mc_ck 3 20 cX3_measure)) = true := by decide +kernel
set_option maxRecDepth 100000 in
theorem ck_21 : (ct_21.zipIdx.all (mc_ck 3 21 cX3_shortenBy)) = true := by decide +kernel
set_option maxRecDepth 100000 in
theorem ck_22 : (ct_22.zipIdx.all (mc_ck 3 22 cX3_shorten)) = true := by decide +kernel
set_option maxRecDepth 100000 in
theorem ck_23 : (ct_23.zipIdx.all (mc_ck 3 23 cX3_cheapestOf)) = true := by decide +kernel
set_option maxRecDepth 100000 in
theorem ck_24 : (ct_24.zipIdx.all (mc_ck 3 24 cX3_cheapestOfSet)) = true := by decide +kernel
set_option maxRecDepth 100000 in
theorem ck_25 : (ct_25.zipIdx.all (mc_ck 3 25 cX3_lowestIn)) = true := by decide +kernel
set_option maxRecDepth 100000 in
theorem ck_26 : (ct_26.zipIdx.all (mc_ck 4 26 cX4_init)) = true := by decide +kernel
set_option maxRecDepth 100000 in
theorem ck_27 : (ct_27.zipIdx.all (mc_ck 4 27 cX4_arrangements)) = true := by decide +kernel
set_option maxRecDepth 100000 in
theorem ck_28 : (ct_28.zipIdx.all (mc_ck 4 28 cX4_bitOf)) = true := by decide +kernel
set_option maxRecDepth 100000 in
theorem ck_29 : (ct_29.zipIdx.all (mc_ck 4 29 cX4_bitIn)) = true := by decide +kernel
set_option maxRecDepth 100000 in
theorem ck_30 : (ct_30.zipIdx.all (mc_ck 4 30 cX4_withBit)) = true := by decide +kernel
set_option maxRecDepth 100000 in
theorem ck_31 : (ct_31.zipIdx.all (mc_ck 4 31 cX4_isHeld)) = true := by decide +kernel
set_option maxRecDepth 100000 in
theorem ck_32 : (ct_32.zipIdx.all (mc_ck 4 32 cX4_heldBits)) = true := by decide +kernel
set_option maxRecDepth 100000 in
theorem ck_33 : (ct_33.zipIdx.all (mc_ck 4 33 cX4_pointing)) = true := by decide +kernel
set_option maxRecDepth 100000 in
theorem ck_34 : (ct_34.zipIdx.all (mc_ck 4 34 cX4_countOf)) = true := by decide +kernel
set_option maxRecDepth 100000 in
theorem ck_35 : (ct_35.zipIdx.all (mc_ck 4 35 cX4_amountOf)) = true := by decide +kernel
set_option maxRecDepth 100000 in
theorem ck_36 : (ct_36.zipIdx.all (mc_ck 4 36 cX4_isUnmet)) = true := by decide +kernel
set_option maxRecDepth 100000 in
theorem ck_37 : (ct_37.zipIdx.all (mc_ck 4 37 cX4_strainOf)) = true := by decide +kernel
set_option maxRecDepth 100000 in
theorem ck_38 : (ct_38.zipIdx.all (mc_ck 4 38 cX4_strainNow)) = true := by decide +kernel
set_option maxRecDepth 100000 in
theorem ck_39 : (ct_39.zipIdx.all (mc_ck 4 39 cX4_touches)) = true := by decide +kernel
set_option maxRecDepth 100000 in
theorem ck_40 : (ct_40.zipIdx.all (mc_ck 4 40 cX4_moreByTurning)) = true := by decide +kernel
set_option maxRecDepth 100000 in
theorem ck_41 : (ct_41.zipIdx.all (mc_ck 4 41 cX4_firstToRelax)) = true := by decide +kernel
set_option maxRecDepth 100000 in
theorem ck_42 : (ct_42.zipIdx.all (mc_ck 4 42 cX4_turnOver)) = true := by decide +kernel
set_option maxRecDepth 100000 in
theorem ck_43 : (ct_43.zipIdx.all (mc_ck 4 43 cX4_negateWantsAround)) = true := by decide +kernel
set_option maxRecDepth 100000 in
theorem ck_44 : (ct_44.zipIdx.all (mc_ck 4 44 cX4_troubledFields)) = true := by decide +kernel
set_option maxRecDepth 100000 in
theorem ck_45 : (ct_45.zipIdx.all (mc_ck 5 45 cX5_init)) = true := by decide +kernel
