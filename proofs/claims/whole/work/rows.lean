section
-- ===== PART A: goes FIRST, ahead of the names: the tables' words, and 'selects' of the private methods out of them =====
/-- a private method of a class that the tables say can be made, by its rows of tables_1 -/
def lw_okq (q : MethodName × Nat) : Prop := (q.1.cls ≠ "java/lang/invoke/MethodHandle" ∧ q.1.cls ≠ "java/lang/invoke/VarHandle") ∧ Cond.instantiable q.1.cls q.2 ∈ tables_1 ∧ Cond.privateMethod q.1 ∈ tables_1 ∧ Cond.instanceMethod q.1 ∈ tables_1
theorem lw_p0 : lw_okq (⟨"NeedlePlate$Grid", "markRim", "(II)V"⟩, 10) := ⟨⟨by decide +kernel, by decide +kernel⟩, List.mem_of_getElem? (i := 29) (by decide +kernel), List.mem_of_getElem? (i := 221) (by decide +kernel), List.mem_of_getElem? (i := 222) (by decide +kernel)⟩
theorem lw_p1 : lw_okq (⟨"NeedlePlate$Grid", "fieldAt", "(II)I"⟩, 10) := ⟨⟨by decide +kernel, by decide +kernel⟩, List.mem_of_getElem? (i := 29) (by decide +kernel), List.mem_of_getElem? (i := 225) (by decide +kernel), List.mem_of_getElem? (i := 226) (by decide +kernel)⟩
theorem lw_p2 : lw_okq (⟨"NeedlePlate$Grid", "addJoint", "(IIII)V"⟩, 10) := ⟨⟨by decide +kernel, by decide +kernel⟩, List.mem_of_getElem? (i := 29) (by decide +kernel), List.mem_of_getElem? (i := 229) (by decide +kernel), List.mem_of_getElem? (i := 230) (by decide +kernel)⟩
theorem lw_p3 : lw_okq (⟨"NeedlePlate", "isNoNeedle", "(I)Z"⟩, 7) := ⟨⟨by decide +kernel, by decide +kernel⟩, List.mem_of_getElem? (i := 15) (by decide +kernel), List.mem_of_getElem? (i := 280) (by decide +kernel), List.mem_of_getElem? (i := 281) (by decide +kernel)⟩
theorem lw_p4 : lw_okq (⟨"NeedlePlate", "keepAndReshape", "()V"⟩, 7) := ⟨⟨by decide +kernel, by decide +kernel⟩, List.mem_of_getElem? (i := 15) (by decide +kernel), List.mem_of_getElem? (i := 288) (by decide +kernel), List.mem_of_getElem? (i := 289) (by decide +kernel)⟩
theorem lw_p5 : lw_okq (⟨"NeedlePlate", "isNoJoint", "(I)Z"⟩, 7) := ⟨⟨by decide +kernel, by decide +kernel⟩, List.mem_of_getElem? (i := 15) (by decide +kernel), List.mem_of_getElem? (i := 393) (by decide +kernel), List.mem_of_getElem? (i := 394) (by decide +kernel)⟩
theorem lw_p6 : lw_okq (⟨"NeedlePlate", "isNoArrangement", "(I)Z"⟩, 7) := ⟨⟨by decide +kernel, by decide +kernel⟩, List.mem_of_getElem? (i := 15) (by decide +kernel), List.mem_of_getElem? (i := 404) (by decide +kernel), List.mem_of_getElem? (i := 405) (by decide +kernel)⟩
theorem lw_p7 : lw_okq (⟨"NeedlePlate", "isNoField", "(I)Z"⟩, 7) := ⟨⟨by decide +kernel, by decide +kernel⟩, List.mem_of_getElem? (i := 15) (by decide +kernel), List.mem_of_getElem? (i := 468) (by decide +kernel), List.mem_of_getElem? (i := 469) (by decide +kernel)⟩
theorem lw_p8 : lw_okq (⟨"NeedlePlate$Pairing", "shorten", "(III)V"⟩, 2) := ⟨⟨by decide +kernel, by decide +kernel⟩, List.mem_of_getElem? (i := 182) (by decide +kernel), List.mem_of_getElem? (i := 486) (by decide +kernel), List.mem_of_getElem? (i := 487) (by decide +kernel)⟩
theorem lw_p9 : lw_okq (⟨"NeedlePlate$Pairing", "shortenBy", "(II)V"⟩, 2) := ⟨⟨by decide +kernel, by decide +kernel⟩, List.mem_of_getElem? (i := 182) (by decide +kernel), List.mem_of_getElem? (i := 496) (by decide +kernel), List.mem_of_getElem? (i := 497) (by decide +kernel)⟩
theorem lw_p10 : lw_okq (⟨"NeedlePlate$Pairing", "cheapestOfSet", "(I)I"⟩, 2) := ⟨⟨by decide +kernel, by decide +kernel⟩, List.mem_of_getElem? (i := 182) (by decide +kernel), List.mem_of_getElem? (i := 515) (by decide +kernel), List.mem_of_getElem? (i := 516) (by decide +kernel)⟩
theorem lw_p11 : lw_okq (⟨"NeedlePlate", "surveyed", "()LNeedlePlate$Landscape;"⟩, 7) := ⟨⟨by decide +kernel, by decide +kernel⟩, List.mem_of_getElem? (i := 15) (by decide +kernel), List.mem_of_getElem? (i := 531) (by decide +kernel), List.mem_of_getElem? (i := 532) (by decide +kernel)⟩
theorem lw_p12 : lw_okq (⟨"NeedlePlate$Landscape", "addNeedle", "(LNeedlePlate$Plate;I)V"⟩, 6) := ⟨⟨by decide +kernel, by decide +kernel⟩, List.mem_of_getElem? (i := 155) (by decide +kernel), List.mem_of_getElem? (i := 542) (by decide +kernel), List.mem_of_getElem? (i := 543) (by decide +kernel)⟩
theorem lw_p13 : lw_okq (⟨"NeedlePlate$Landscape", "mayBe", "(I)Z"⟩, 6) := ⟨⟨by decide +kernel, by decide +kernel⟩, List.mem_of_getElem? (i := 155) (by decide +kernel), List.mem_of_getElem? (i := 554) (by decide +kernel), List.mem_of_getElem? (i := 555) (by decide +kernel)⟩
theorem lw_p14 : lw_okq (⟨"NeedlePlate", "refuse", "(I)I"⟩, 7) := ⟨⟨by decide +kernel, by decide +kernel⟩, List.mem_of_getElem? (i := 15) (by decide +kernel), List.mem_of_getElem? (i := 605) (by decide +kernel), List.mem_of_getElem? (i := 606) (by decide +kernel)⟩
theorem lw_p15 : lw_okq (⟨"NeedlePlate", "accept", "(I)I"⟩, 7) := ⟨⟨by decide +kernel, by decide +kernel⟩, List.mem_of_getElem? (i := 15) (by decide +kernel), List.mem_of_getElem? (i := 614) (by decide +kernel), List.mem_of_getElem? (i := 615) (by decide +kernel)⟩
def lw_privs_1 : List (MethodName × Nat) := [(⟨"NeedlePlate$Grid", "markRim", "(II)V"⟩, 10), (⟨"NeedlePlate$Grid", "fieldAt", "(II)I"⟩, 10), (⟨"NeedlePlate$Grid", "addJoint", "(IIII)V"⟩, 10), (⟨"NeedlePlate", "isNoNeedle", "(I)Z"⟩, 7), (⟨"NeedlePlate", "keepAndReshape", "()V"⟩, 7), (⟨"NeedlePlate", "isNoJoint", "(I)Z"⟩, 7), (⟨"NeedlePlate", "isNoArrangement", "(I)Z"⟩, 7), (⟨"NeedlePlate", "isNoField", "(I)Z"⟩, 7), (⟨"NeedlePlate$Pairing", "shorten", "(III)V"⟩, 2), (⟨"NeedlePlate$Pairing", "shortenBy", "(II)V"⟩, 2), (⟨"NeedlePlate$Pairing", "cheapestOfSet", "(I)I"⟩, 2), (⟨"NeedlePlate", "surveyed", "()LNeedlePlate$Landscape;"⟩, 7), (⟨"NeedlePlate$Landscape", "addNeedle", "(LNeedlePlate$Plate;I)V"⟩, 6), (⟨"NeedlePlate$Landscape", "mayBe", "(I)Z"⟩, 6), (⟨"NeedlePlate", "refuse", "(I)I"⟩, 7), (⟨"NeedlePlate", "accept", "(I)I"⟩, 7)]
theorem lw_r1 : ∀ q ∈ lw_privs_1, lw_okq q := List.forall_mem_cons.mpr ⟨lw_p0, List.forall_mem_cons.mpr ⟨lw_p1, List.forall_mem_cons.mpr ⟨lw_p2, List.forall_mem_cons.mpr ⟨lw_p3, List.forall_mem_cons.mpr ⟨lw_p4, List.forall_mem_cons.mpr ⟨lw_p5, List.forall_mem_cons.mpr ⟨lw_p6, List.forall_mem_cons.mpr ⟨lw_p7, List.forall_mem_cons.mpr ⟨lw_p8, List.forall_mem_cons.mpr ⟨lw_p9, List.forall_mem_cons.mpr ⟨lw_p10, List.forall_mem_cons.mpr ⟨lw_p11, List.forall_mem_cons.mpr ⟨lw_p12, List.forall_mem_cons.mpr ⟨lw_p13, List.forall_mem_cons.mpr ⟨lw_p14, List.forall_mem_cons.mpr ⟨lw_p15, fun _ h => absurd h List.not_mem_nil⟩⟩⟩⟩⟩⟩⟩⟩⟩⟩⟩⟩⟩⟩⟩⟩
theorem lw_p16 : lw_okq (⟨"NeedlePlate", "findingOfPlace", "(IIII)I"⟩, 7) := ⟨⟨by decide +kernel, by decide +kernel⟩, List.mem_of_getElem? (i := 15) (by decide +kernel), List.mem_of_getElem? (i := 642) (by decide +kernel), List.mem_of_getElem? (i := 643) (by decide +kernel)⟩
theorem lw_p17 : lw_okq (⟨"NeedlePlate$Strip", "asSorted", "(I)I"⟩, 4) := ⟨⟨by decide +kernel, by decide +kernel⟩, List.mem_of_getElem? (i := 196) (by decide +kernel), List.mem_of_getElem? (i := 659) (by decide +kernel), List.mem_of_getElem? (i := 660) (by decide +kernel)⟩
theorem lw_p18 : lw_okq (⟨"NeedlePlateModel", "joints", "()I"⟩, 20) := ⟨⟨by decide +kernel, by decide +kernel⟩, List.mem_of_getElem? (i := 705) (by decide +kernel), List.mem_of_getElem? (i := 780) (by decide +kernel), List.mem_of_getElem? (i := 781) (by decide +kernel)⟩
theorem lw_p19 : lw_okq (⟨"NeedlePlateModel", "across", "()I"⟩, 20) := ⟨⟨by decide +kernel, by decide +kernel⟩, List.mem_of_getElem? (i := 705) (by decide +kernel), List.mem_of_getElem? (i := 784) (by decide +kernel), List.mem_of_getElem? (i := 785) (by decide +kernel)⟩
theorem lw_p20 : lw_okq (⟨"NeedlePlateModel", "isNeedle", "(I)Z"⟩, 20) := ⟨⟨by decide +kernel, by decide +kernel⟩, List.mem_of_getElem? (i := 705) (by decide +kernel), List.mem_of_getElem? (i := 792) (by decide +kernel), List.mem_of_getElem? (i := 793) (by decide +kernel)⟩
theorem lw_p21 : lw_okq (⟨"NeedlePlateModel", "needles", "()I"⟩, 20) := ⟨⟨by decide +kernel, by decide +kernel⟩, List.mem_of_getElem? (i := 705) (by decide +kernel), List.mem_of_getElem? (i := 796) (by decide +kernel), List.mem_of_getElem? (i := 797) (by decide +kernel)⟩
theorem lw_p22 : lw_okq (⟨"NeedlePlateModel", "keeps", "()V"⟩, 20) := ⟨⟨by decide +kernel, by decide +kernel⟩, List.mem_of_getElem? (i := 705) (by decide +kernel), List.mem_of_getElem? (i := 800) (by decide +kernel), List.mem_of_getElem? (i := 801) (by decide +kernel)⟩
theorem lw_p23 : lw_okq (⟨"NeedlePlateModel", "now", "()I"⟩, 20) := ⟨⟨by decide +kernel, by decide +kernel⟩, List.mem_of_getElem? (i := 705) (by decide +kernel), List.mem_of_getElem? (i := 817) (by decide +kernel), List.mem_of_getElem? (i := 818) (by decide +kernel)⟩
theorem lw_p24 : lw_okq (⟨"NeedlePlateModel", "pointOf", "(I)I"⟩, 20) := ⟨⟨by decide +kernel, by decide +kernel⟩, List.mem_of_getElem? (i := 705) (by decide +kernel), List.mem_of_getElem? (i := 821) (by decide +kernel), List.mem_of_getElem? (i := 822) (by decide +kernel)⟩
theorem lw_p25 : lw_okq (⟨"NeedlePlateModel", "isHeld", "(I)Z"⟩, 20) := ⟨⟨by decide +kernel, by decide +kernel⟩, List.mem_of_getElem? (i := 705) (by decide +kernel), List.mem_of_getElem? (i := 825) (by decide +kernel), List.mem_of_getElem? (i := 826) (by decide +kernel)⟩
theorem lw_p26 : lw_okq (⟨"NeedlePlateModel", "strainOf", "(I)I"⟩, 20) := ⟨⟨by decide +kernel, by decide +kernel⟩, List.mem_of_getElem? (i := 705) (by decide +kernel), List.mem_of_getElem? (i := 829) (by decide +kernel), List.mem_of_getElem? (i := 830) (by decide +kernel)⟩
theorem lw_p27 : lw_okq (⟨"NeedlePlateModel", "end", "(IZ)I"⟩, 20) := ⟨⟨by decide +kernel, by decide +kernel⟩, List.mem_of_getElem? (i := 705) (by decide +kernel), List.mem_of_getElem? (i := 833) (by decide +kernel), List.mem_of_getElem? (i := 834) (by decide +kernel)⟩
theorem lw_p28 : lw_okq (⟨"NeedlePlateModel", "countsOf", "(I)I"⟩, 20) := ⟨⟨by decide +kernel, by decide +kernel⟩, List.mem_of_getElem? (i := 705) (by decide +kernel), List.mem_of_getElem? (i := 840) (by decide +kernel), List.mem_of_getElem? (i := 841) (by decide +kernel)⟩
theorem lw_p29 : lw_okq (⟨"NeedlePlateModel", "worthOf", "(I)I"⟩, 20) := ⟨⟨by decide +kernel, by decide +kernel⟩, List.mem_of_getElem? (i := 705) (by decide +kernel), List.mem_of_getElem? (i := 844) (by decide +kernel), List.mem_of_getElem? (i := 845) (by decide +kernel)⟩
theorem lw_p30 : lw_okq (⟨"NeedlePlateModel", "isJoint", "(I)Z"⟩, 20) := ⟨⟨by decide +kernel, by decide +kernel⟩, List.mem_of_getElem? (i := 705) (by decide +kernel), List.mem_of_getElem? (i := 856) (by decide +kernel), List.mem_of_getElem? (i := 857) (by decide +kernel)⟩
theorem lw_p31 : lw_okq (⟨"NeedlePlateModel", "all", "()I"⟩, 20) := ⟨⟨by decide +kernel, by decide +kernel⟩, List.mem_of_getElem? (i := 705) (by decide +kernel), List.mem_of_getElem? (i := 864) (by decide +kernel), List.mem_of_getElem? (i := 865) (by decide +kernel)⟩
def lw_privs_2 : List (MethodName × Nat) := [(⟨"NeedlePlate", "findingOfPlace", "(IIII)I"⟩, 7), (⟨"NeedlePlate$Strip", "asSorted", "(I)I"⟩, 4), (⟨"NeedlePlateModel", "joints", "()I"⟩, 20), (⟨"NeedlePlateModel", "across", "()I"⟩, 20), (⟨"NeedlePlateModel", "isNeedle", "(I)Z"⟩, 20), (⟨"NeedlePlateModel", "needles", "()I"⟩, 20), (⟨"NeedlePlateModel", "keeps", "()V"⟩, 20), (⟨"NeedlePlateModel", "now", "()I"⟩, 20), (⟨"NeedlePlateModel", "pointOf", "(I)I"⟩, 20), (⟨"NeedlePlateModel", "isHeld", "(I)Z"⟩, 20), (⟨"NeedlePlateModel", "strainOf", "(I)I"⟩, 20), (⟨"NeedlePlateModel", "end", "(IZ)I"⟩, 20), (⟨"NeedlePlateModel", "countsOf", "(I)I"⟩, 20), (⟨"NeedlePlateModel", "worthOf", "(I)I"⟩, 20), (⟨"NeedlePlateModel", "isJoint", "(I)Z"⟩, 20), (⟨"NeedlePlateModel", "all", "()I"⟩, 20)]
theorem lw_r2 : ∀ q ∈ lw_privs_2, lw_okq q := List.forall_mem_cons.mpr ⟨lw_p16, List.forall_mem_cons.mpr ⟨lw_p17, List.forall_mem_cons.mpr ⟨lw_p18, List.forall_mem_cons.mpr ⟨lw_p19, List.forall_mem_cons.mpr ⟨lw_p20, List.forall_mem_cons.mpr ⟨lw_p21, List.forall_mem_cons.mpr ⟨lw_p22, List.forall_mem_cons.mpr ⟨lw_p23, List.forall_mem_cons.mpr ⟨lw_p24, List.forall_mem_cons.mpr ⟨lw_p25, List.forall_mem_cons.mpr ⟨lw_p26, List.forall_mem_cons.mpr ⟨lw_p27, List.forall_mem_cons.mpr ⟨lw_p28, List.forall_mem_cons.mpr ⟨lw_p29, List.forall_mem_cons.mpr ⟨lw_p30, List.forall_mem_cons.mpr ⟨lw_p31, fun _ h => absurd h List.not_mem_nil⟩⟩⟩⟩⟩⟩⟩⟩⟩⟩⟩⟩⟩⟩⟩⟩
theorem lw_p32 : lw_okq (⟨"NeedlePlateModel", "side", "(IZ)I"⟩, 20) := ⟨⟨by decide +kernel, by decide +kernel⟩, List.mem_of_getElem? (i := 705) (by decide +kernel), List.mem_of_getElem? (i := 898) (by decide +kernel), List.mem_of_getElem? (i := 899) (by decide +kernel)⟩
theorem lw_p33 : lw_okq (⟨"NeedlePlateModel", "fieldAt", "(II)I"⟩, 20) := ⟨⟨by decide +kernel, by decide +kernel⟩, List.mem_of_getElem? (i := 705) (by decide +kernel), List.mem_of_getElem? (i := 902) (by decide +kernel), List.mem_of_getElem? (i := 903) (by decide +kernel)⟩
theorem lw_p34 : lw_okq (⟨"NeedlePlateModel", "fields", "()I"⟩, 20) := ⟨⟨by decide +kernel, by decide +kernel⟩, List.mem_of_getElem? (i := 705) (by decide +kernel), List.mem_of_getElem? (i := 906) (by decide +kernel), List.mem_of_getElem? (i := 907) (by decide +kernel)⟩
theorem lw_p35 : lw_okq (⟨"NeedlePlateModel", "amountOf", "(I)I"⟩, 20) := ⟨⟨by decide +kernel, by decide +kernel⟩, List.mem_of_getElem? (i := 705) (by decide +kernel), List.mem_of_getElem? (i := 910) (by decide +kernel), List.mem_of_getElem? (i := 911) (by decide +kernel)⟩
theorem lw_p36 : lw_okq (⟨"NeedlePlateModel", "isTroubled", "(I)Z"⟩, 20) := ⟨⟨by decide +kernel, by decide +kernel⟩, List.mem_of_getElem? (i := 705) (by decide +kernel), List.mem_of_getElem? (i := 922) (by decide +kernel), List.mem_of_getElem? (i := 923) (by decide +kernel)⟩
theorem lw_p37 : lw_okq (⟨"NeedlePlateModel", "spreads", "(I)V"⟩, 20) := ⟨⟨by decide +kernel, by decide +kernel⟩, List.mem_of_getElem? (i := 705) (by decide +kernel), List.mem_of_getElem? (i := 930) (by decide +kernel), List.mem_of_getElem? (i := 931) (by decide +kernel)⟩
theorem lw_p38 : lw_okq (⟨"NeedlePlateModel", "leastOf", "()I"⟩, 20) := ⟨⟨by decide +kernel, by decide +kernel⟩, List.mem_of_getElem? (i := 705) (by decide +kernel), List.mem_of_getElem? (i := 948) (by decide +kernel), List.mem_of_getElem? (i := 949) (by decide +kernel)⟩
theorem lw_p39 : lw_okq (⟨"NeedlePlateModel", "mayBe", "(I)Z"⟩, 20) := ⟨⟨by decide +kernel, by decide +kernel⟩, List.mem_of_getElem? (i := 705) (by decide +kernel), List.mem_of_getElem? (i := 952) (by decide +kernel), List.mem_of_getElem? (i := 953) (by decide +kernel)⟩
theorem lw_p40 : lw_okq (⟨"NeedlePlateModel", "find", "(II)I"⟩, 20) := ⟨⟨by decide +kernel, by decide +kernel⟩, List.mem_of_getElem? (i := 705) (by decide +kernel), List.mem_of_getElem? (i := 960) (by decide +kernel), List.mem_of_getElem? (i := 961) (by decide +kernel)⟩
theorem lw_p41 : lw_okq (⟨"NeedlePlateModel", "no", "(I)I"⟩, 20) := ⟨⟨by decide +kernel, by decide +kernel⟩, List.mem_of_getElem? (i := 705) (by decide +kernel), List.mem_of_getElem? (i := 988) (by decide +kernel), List.mem_of_getElem? (i := 989) (by decide +kernel)⟩
theorem lw_p42 : lw_okq (⟨"NeedlePlateModel", "wrong", "(IIII)I"⟩, 20) := ⟨⟨by decide +kernel, by decide +kernel⟩, List.mem_of_getElem? (i := 705) (by decide +kernel), List.mem_of_getElem? (i := 1000) (by decide +kernel), List.mem_of_getElem? (i := 1001) (by decide +kernel)⟩
def lw_privs_3 : List (MethodName × Nat) := [(⟨"NeedlePlateModel", "side", "(IZ)I"⟩, 20), (⟨"NeedlePlateModel", "fieldAt", "(II)I"⟩, 20), (⟨"NeedlePlateModel", "fields", "()I"⟩, 20), (⟨"NeedlePlateModel", "amountOf", "(I)I"⟩, 20), (⟨"NeedlePlateModel", "isTroubled", "(I)Z"⟩, 20), (⟨"NeedlePlateModel", "spreads", "(I)V"⟩, 20), (⟨"NeedlePlateModel", "leastOf", "()I"⟩, 20), (⟨"NeedlePlateModel", "mayBe", "(I)Z"⟩, 20), (⟨"NeedlePlateModel", "find", "(II)I"⟩, 20), (⟨"NeedlePlateModel", "no", "(I)I"⟩, 20), (⟨"NeedlePlateModel", "wrong", "(IIII)I"⟩, 20)]
theorem lw_r3 : ∀ q ∈ lw_privs_3, lw_okq q := List.forall_mem_cons.mpr ⟨lw_p32, List.forall_mem_cons.mpr ⟨lw_p33, List.forall_mem_cons.mpr ⟨lw_p34, List.forall_mem_cons.mpr ⟨lw_p35, List.forall_mem_cons.mpr ⟨lw_p36, List.forall_mem_cons.mpr ⟨lw_p37, List.forall_mem_cons.mpr ⟨lw_p38, List.forall_mem_cons.mpr ⟨lw_p39, List.forall_mem_cons.mpr ⟨lw_p40, List.forall_mem_cons.mpr ⟨lw_p41, List.forall_mem_cons.mpr ⟨lw_p42, fun _ h => absurd h List.not_mem_nil⟩⟩⟩⟩⟩⟩⟩⟩⟩⟩⟩
def lw_privs : List (MethodName × Nat) := lw_privs_1 ++ (lw_privs_2 ++ (lw_privs_3))
def lw_tbl : List Cond := k2_sels lw_privs ++ tables_1
theorem lw_privs_ok : ∀ q ∈ lw_privs, lw_okq q := by
  show ∀ q ∈ lw_privs_1 ++ (lw_privs_2 ++ (lw_privs_3)), lw_okq q
  exact List.forall_mem_append.mpr ⟨lw_r1, List.forall_mem_append.mpr ⟨lw_r2, lw_r3⟩⟩
-- ===== end of PART A; then your names; then what follows =====
end
section
def RX0 : String := "NeedlePlate$Grid"
def TX0 : u_T := fun k => match k with
  | 0 => ("NeedlePlate$Grid", "rows", "I", false)
  | 1 => ("NeedlePlate$Grid", "columns", "I", false)
  | 2 => ("NeedlePlate$Grid", "needles", "I", false)
  | 3 => ("NeedlePlate$Grid", "joints", "I", false)
  | 4 => ("NeedlePlate$Grid", "fields", "I", false)
  | 5 => ("NeedlePlate$Grid", "rim", "I", false)
  | 6 => ("NeedlePlate$Grid", "firsts", "[I", true)
  | 7 => ("NeedlePlate$Grid", "seconds", "[I", true)
  | 8 => ("NeedlePlate$Grid", "lowFields", "[I", true)
  | _ => ("NeedlePlate$Grid", "highFields", "[I", true)
def tyX0 : Nat → FieldType := fun k => match k with
  | 0 => .int
  | 1 => .int
  | 2 => .int
  | 3 => .int
  | 4 => .int
  | 5 => .int
  | 6 => .array .int
  | 7 => .array .int
  | 8 => .array .int
  | _ => .array .int
abbrev wsX00 : List Cond := u_ws RX0 TX0 10
theorem nmX0 : ∀ a, a < 10 → ∀ b, b < 10 → a ≠ b → (TX0 a).2.1 ≠ (TX0 b).2.1 := by decide +kernel
theorem tyX0_ok : ∀ k, k < 10 → parseFieldDescriptor (TX0 k).2.2.1 = some (tyX0 k) := by decide +kernel
abbrev cX0_init : ByteArray := prog_2_method_1_code
def yX0_init : MethodName := ⟨RX0, "<init>", "()V"⟩
abbrev cX0_layOut : ByteArray := prog_2_method_2_code
def yX0_layOut : MethodName := ⟨RX0, "layOut", "(II)V"⟩
abbrev cX0_markRim : ByteArray := prog_2_method_3_code
def yX0_markRim : MethodName := ⟨RX0, "markRim", "(II)V"⟩
abbrev cX0_fieldAt : ByteArray := prog_2_method_4_code
def yX0_fieldAt : MethodName := ⟨RX0, "fieldAt", "(II)I"⟩
abbrev cX0_addJoint : ByteArray := prog_2_method_5_code
def yX0_addJoint : MethodName := ⟨RX0, "addJoint", "(IIII)V"⟩
abbrev cX0_isOnRim : ByteArray := prog_2_method_6_code
def yX0_isOnRim : MethodName := ⟨RX0, "isOnRim", "(I)Z"⟩
def RX1 : String := "NeedlePlate$History"
def TX1 : u_T := fun k => match k with
  | 0 => ("NeedlePlate$History", "kept", "[LNeedlePlate$Setting;", true)
  | 1 => ("NeedlePlate$History", "next", "I", false)
  | _ => ("NeedlePlate$History", "size", "I", false)
def tyX1 : Nat → FieldType := fun k => match k with
  | 0 => .array (.object "NeedlePlate$Setting")
  | 1 => .int
  | _ => .int
abbrev wsX10 : List Cond := u_ws RX1 TX1 3
theorem nmX1 : ∀ a, a < 3 → ∀ b, b < 3 → a ≠ b → (TX1 a).2.1 ≠ (TX1 b).2.1 := by decide +kernel
theorem tyX1_ok : ∀ k, k < 3 → parseFieldDescriptor (TX1 k).2.2.1 = some (tyX1 k) := by decide +kernel
abbrev cX1_init : ByteArray := prog_3_method_1_code
def yX1_init : MethodName := ⟨RX1, "<init>", "()V"⟩
abbrev cX1_keep : ByteArray := prog_3_method_2_code
def yX1_keep : MethodName := ⟨RX1, "keep", "(LNeedlePlate$Setting;)V"⟩
abbrev cX1_giveBack : ByteArray := prog_3_method_3_code
def yX1_giveBack : MethodName := ⟨RX1, "giveBack", "(LNeedlePlate$Setting;)V"⟩
abbrev cX1_forget : ByteArray := prog_3_method_4_code
def yX1_forget : MethodName := ⟨RX1, "forget", "()V"⟩
def RX2 : String := "NeedlePlate$Landscape"
def TX2 : u_T := fun k => match k with
  | 0 => ("NeedlePlate$Landscape", "strains", "[I", true)
  | 1 => ("NeedlePlate$Landscape", "stale", "Z", false)
  | 2 => ("NeedlePlate$Landscape", "size", "I", false)
  | 3 => ("NeedlePlate$Landscape", "held", "I", false)
  | 4 => ("NeedlePlate$Landscape", "heldPoints", "I", false)
  | _ => ("NeedlePlate$Landscape", "lowest", "I", false)
def tyX2 : Nat → FieldType := fun k => match k with
  | 0 => .array .int
  | 1 => .boolean
  | 2 => .int
  | 3 => .int
  | 4 => .int
  | _ => .int
abbrev wsX20 : List Cond := u_ws RX2 TX2 6
theorem nmX2 : ∀ a, a < 6 → ∀ b, b < 6 → a ≠ b → (TX2 a).2.1 ≠ (TX2 b).2.1 := by decide +kernel
theorem tyX2_ok : ∀ k, k < 6 → parseFieldDescriptor (TX2 k).2.2.1 = some (tyX2 k) := by decide +kernel
abbrev cX2_init : ByteArray := prog_4_method_1_code
def yX2_init : MethodName := ⟨RX2, "<init>", "()V"⟩
abbrev cX2_survey : ByteArray := prog_4_method_2_code
def yX2_survey : MethodName := ⟨RX2, "survey", "(LNeedlePlate$Plate;)V"⟩
abbrev cX2_addNeedle : ByteArray := prog_4_method_3_code
def yX2_addNeedle : MethodName := ⟨RX2, "addNeedle", "(LNeedlePlate$Plate;I)V"⟩
abbrev cX2_mayBe : ByteArray := prog_4_method_4_code
def yX2_mayBe : MethodName := ⟨RX2, "mayBe", "(I)Z"⟩
abbrev cX2_countWith : ByteArray := prog_4_method_5_code
def yX2_countWith : MethodName := ⟨RX2, "countWith", "(I)I"⟩
abbrev cX2_pick : ByteArray := prog_4_method_6_code
def yX2_pick : MethodName := ⟨RX2, "pick", "(II)I"⟩
abbrev cX2_nextAfter : ByteArray := prog_4_method_7_code
def yX2_nextAfter : MethodName := ⟨RX2, "nextAfter", "(I)I"⟩
abbrev cX2_agreement : ByteArray := prog_4_method_8_code
def yX2_agreement : MethodName := ⟨RX2, "agreement", "(II)I"⟩
def RX3 : String := "NeedlePlate$Pairing"
def TX3 : u_T := fun k => match k with
  | 0 => ("NeedlePlate$Pairing", "distances", "[I", true)
  | _ => ("NeedlePlate$Pairing", "cheapest", "[I", true)
def tyX3 : Nat → FieldType := fun k => match k with
  | 0 => .array .int
  | _ => .array .int
abbrev wsX30 : List Cond := u_ws RX3 TX3 2
theorem nmX3 : ∀ a, a < 2 → ∀ b, b < 2 → a ≠ b → (TX3 a).2.1 ≠ (TX3 b).2.1 := by decide +kernel
theorem tyX3_ok : ∀ k, k < 2 → parseFieldDescriptor (TX3 k).2.2.1 = some (tyX3 k) := by decide +kernel
abbrev cX3_init : ByteArray := prog_5_method_1_code
def yX3_init : MethodName := ⟨RX3, "<init>", "()V"⟩
abbrev cX3_between : ByteArray := prog_5_method_2_code
def yX3_between : MethodName := ⟨RX3, "between", "(II)I"⟩
abbrev cX3_measure : ByteArray := prog_5_method_3_code
def yX3_measure : MethodName := ⟨RX3, "measure", "(LNeedlePlate$Plate;)V"⟩
abbrev cX3_shortenBy : ByteArray := prog_5_method_4_code
def yX3_shortenBy : MethodName := ⟨RX3, "shortenBy", "(II)V"⟩
abbrev cX3_shorten : ByteArray := prog_5_method_5_code
def yX3_shorten : MethodName := ⟨RX3, "shorten", "(III)V"⟩
abbrev cX3_cheapestOf : ByteArray := prog_5_method_6_code
def yX3_cheapestOf : MethodName := ⟨RX3, "cheapestOf", "(I)I"⟩
abbrev cX3_cheapestOfSet : ByteArray := prog_5_method_7_code
def yX3_cheapestOfSet : MethodName := ⟨RX3, "cheapestOfSet", "(I)I"⟩
abbrev cX3_lowestIn : ByteArray := prog_5_method_8_code
def yX3_lowestIn : MethodName := ⟨RX3, "lowestIn", "(I)I"⟩
def RX4 : String := "NeedlePlate$Plate"
def TX4 : u_T := fun k => match k with
  | 0 => ("NeedlePlate$Plate", "grid", "LNeedlePlate$Grid;", true)
  | _ => ("NeedlePlate$Plate", "setting", "LNeedlePlate$Setting;", true)
def tyX4 : Nat → FieldType := fun k => match k with
  | 0 => .object "NeedlePlate$Grid"
  | _ => .object "NeedlePlate$Setting"
abbrev wsX40 : List Cond := u_ws RX4 TX4 2
theorem nmX4 : ∀ a, a < 2 → ∀ b, b < 2 → a ≠ b → (TX4 a).2.1 ≠ (TX4 b).2.1 := by decide +kernel
theorem tyX4_ok : ∀ k, k < 2 → parseFieldDescriptor (TX4 k).2.2.1 = some (tyX4 k) := by decide +kernel
abbrev cX4_init : ByteArray := prog_6_method_1_code
def yX4_init : MethodName := ⟨RX4, "<init>", "()V"⟩
abbrev cX4_arrangements : ByteArray := prog_6_method_2_code
def yX4_arrangements : MethodName := ⟨RX4, "arrangements", "()I"⟩
abbrev cX4_bitOf : ByteArray := prog_6_method_3_code
def yX4_bitOf : MethodName := ⟨RX4, "bitOf", "(I)I"⟩
abbrev cX4_bitIn : ByteArray := prog_6_method_4_code
def yX4_bitIn : MethodName := ⟨RX4, "bitIn", "(II)I"⟩
abbrev cX4_withBit : ByteArray := prog_6_method_5_code
def yX4_withBit : MethodName := ⟨RX4, "withBit", "(IIZ)I"⟩
abbrev cX4_isHeld : ByteArray := prog_6_method_6_code
def yX4_isHeld : MethodName := ⟨RX4, "isHeld", "(I)Z"⟩
abbrev cX4_heldBits : ByteArray := prog_6_method_7_code
def yX4_heldBits : MethodName := ⟨RX4, "heldBits", "()I"⟩
abbrev cX4_pointing : ByteArray := prog_6_method_8_code
def yX4_pointing : MethodName := ⟨RX4, "pointing", "()I"⟩
abbrev cX4_countOf : ByteArray := prog_6_method_9_code
def yX4_countOf : MethodName := ⟨RX4, "countOf", "(I)I"⟩
abbrev cX4_amountOf : ByteArray := prog_6_method_10_code
def yX4_amountOf : MethodName := ⟨RX4, "amountOf", "(I)I"⟩
abbrev cX4_isUnmet : ByteArray := prog_6_method_11_code
def yX4_isUnmet : MethodName := ⟨RX4, "isUnmet", "(II)Z"⟩
abbrev cX4_strainOf : ByteArray := prog_6_method_12_code
def yX4_strainOf : MethodName := ⟨RX4, "strainOf", "(I)I"⟩
abbrev cX4_strainNow : ByteArray := prog_6_method_13_code
def yX4_strainNow : MethodName := ⟨RX4, "strainNow", "()I"⟩
abbrev cX4_touches : ByteArray := prog_6_method_14_code
def yX4_touches : MethodName := ⟨RX4, "touches", "(II)Z"⟩
abbrev cX4_moreByTurning : ByteArray := prog_6_method_15_code
def yX4_moreByTurning : MethodName := ⟨RX4, "moreByTurning", "(I)I"⟩
abbrev cX4_firstToRelax : ByteArray := prog_6_method_16_code
def yX4_firstToRelax : MethodName := ⟨RX4, "firstToRelax", "()I"⟩
abbrev cX4_turnOver : ByteArray := prog_6_method_17_code
def yX4_turnOver : MethodName := ⟨RX4, "turnOver", "(I)V"⟩
abbrev cX4_negateWantsAround : ByteArray := prog_6_method_18_code
def yX4_negateWantsAround : MethodName := ⟨RX4, "negateWantsAround", "(I)V"⟩
abbrev cX4_troubledFields : ByteArray := prog_6_method_19_code
def yX4_troubledFields : MethodName := ⟨RX4, "troubledFields", "()I"⟩
def RX5 : String := "NeedlePlate$Setting"
def TX5 : u_T := fun k => match k with
  | 0 => ("NeedlePlate$Setting", "turns", "I", false)
  | 1 => ("NeedlePlate$Setting", "tolds", "I", false)
  | 2 => ("NeedlePlate$Setting", "letGo", "I", false)
  | 3 => ("NeedlePlate$Setting", "kinds", "[I", true)
  | _ => ("NeedlePlate$Setting", "wants", "[I", true)
def tyX5 : Nat → FieldType := fun k => match k with
  | 0 => .int
  | 1 => .int
  | 2 => .int
  | 3 => .array .int
  | _ => .array .int
abbrev wsX50 : List Cond := u_ws RX5 TX5 5
theorem nmX5 : ∀ a, a < 5 → ∀ b, b < 5 → a ≠ b → (TX5 a).2.1 ≠ (TX5 b).2.1 := by decide +kernel
theorem tyX5_ok : ∀ k, k < 5 → parseFieldDescriptor (TX5 k).2.2.1 = some (tyX5 k) := by decide +kernel
abbrev cX5_init : ByteArray := prog_7_method_1_code
def yX5_init : MethodName := ⟨RX5, "<init>", "()V"⟩
abbrev cX5_reset : ByteArray := prog_7_method_2_code
def yX5_reset : MethodName := ⟨RX5, "reset", "()V"⟩
abbrev cX5_takeOver : ByteArray := prog_7_method_3_code
def yX5_takeOver : MethodName := ⟨RX5, "takeOver", "(LNeedlePlate$Setting;)V"⟩
def RX6 : String := "NeedlePlate$Strip"
def TX6 : u_T := fun k => match k with
  | 0 => ("NeedlePlate$Strip", "sort", "I", false)
  | 1 => ("NeedlePlate$Strip", "rows", "I", false)
  | 2 => ("NeedlePlate$Strip", "lengths", "[I", true)
  | _ => ("NeedlePlate$Strip", "numbers", "[I", true)
def tyX6 : Nat → FieldType := fun k => match k with
  | 0 => .int
  | 1 => .int
  | 2 => .array .int
  | _ => .array .int
abbrev wsX60 : List Cond := u_ws RX6 TX6 4
theorem nmX6 : ∀ a, a < 4 → ∀ b, b < 4 → a ≠ b → (TX6 a).2.1 ≠ (TX6 b).2.1 := by decide +kernel
theorem tyX6_ok : ∀ k, k < 4 → parseFieldDescriptor (TX6 k).2.2.1 = some (tyX6 k) := by decide +kernel
abbrev cX6_init : ByteArray := prog_8_method_1_code
def yX6_init : MethodName := ⟨RX6, "<init>", "()V"⟩
abbrev cX6_isAbsent : ByteArray := prog_8_method_2_code
def yX6_isAbsent : MethodName := ⟨RX6, "isAbsent", "()Z"⟩
abbrev cX6_begin : ByteArray := prog_8_method_3_code
def yX6_begin : MethodName := ⟨RX6, "begin", "(II)V"⟩
abbrev cX6_lacksRow : ByteArray := prog_8_method_4_code
def yX6_lacksRow : MethodName := ⟨RX6, "lacksRow", "(I)Z"⟩
abbrev cX6_isMissing : ByteArray := prog_8_method_5_code
def yX6_isMissing : MethodName := ⟨RX6, "isMissing", "(I)Z"⟩
abbrev cX6_renewRow : ByteArray := prog_8_method_6_code
def yX6_renewRow : MethodName := ⟨RX6, "renewRow", "(II)V"⟩
abbrev cX6_placeOf : ByteArray := prog_8_method_7_code
def yX6_placeOf : MethodName := ⟨RX6, "placeOf", "(II)I"⟩
abbrev cX6_numberAt : ByteArray := prog_8_method_8_code
def yX6_numberAt : MethodName := ⟨RX6, "numberAt", "(II)I"⟩
abbrev cX6_findingAt : ByteArray := prog_8_method_9_code
def yX6_findingAt : MethodName := ⟨RX6, "findingAt", "(II)I"⟩
abbrev cX6_lacksRange : ByteArray := prog_8_method_10_code
def yX6_lacksRange : MethodName := ⟨RX6, "lacksRange", "(III)Z"⟩
abbrev cX6_write : ByteArray := prog_8_method_11_code
def yX6_write : MethodName := ⟨RX6, "write", "(III)V"⟩
abbrev cX6_asSorted : ByteArray := prog_8_method_12_code
def yX6_asSorted : MethodName := ⟨RX6, "asSorted", "(I)I"⟩
def RX7 : String := "NeedlePlate"
def TX7 : u_T := fun k => match k with
  | 0 => ("NeedlePlate", "plate", "LNeedlePlate$Plate;", true)
  | 1 => ("NeedlePlate", "history", "LNeedlePlate$History;", true)
  | 2 => ("NeedlePlate", "landscape", "LNeedlePlate$Landscape;", true)
  | 3 => ("NeedlePlate", "pairing", "LNeedlePlate$Pairing;", true)
  | 4 => ("NeedlePlate", "strips", "[LNeedlePlate$Strip;", true)
  | 5 => ("NeedlePlate", "traced", "J", false)
  | _ => ("NeedlePlate", "refusal", "I", false)
def tyX7 : Nat → FieldType := fun k => match k with
  | 0 => .object "NeedlePlate$Plate"
  | 1 => .object "NeedlePlate$History"
  | 2 => .object "NeedlePlate$Landscape"
  | 3 => .object "NeedlePlate$Pairing"
  | 4 => .array (.object "NeedlePlate$Strip")
  | 5 => .long
  | _ => .int
abbrev wsX70 : List Cond := u_ws RX7 TX7 7
theorem nmX7 : ∀ a, a < 7 → ∀ b, b < 7 → a ≠ b → (TX7 a).2.1 ≠ (TX7 b).2.1 := by decide +kernel
theorem tyX7_ok : ∀ k, k < 7 → parseFieldDescriptor (TX7 k).2.2.1 = some (tyX7 k) := by decide +kernel
abbrev cX7_init : ByteArray := prog_1_method_1_code
def yX7_init : MethodName := ⟨RX7, "<init>", "()V"⟩
abbrev cX7_plate : ByteArray := prog_1_method_2_code
def yX7_plate : MethodName := ⟨RX7, "plate", "(II)I"⟩
abbrev cX7_kind : ByteArray := prog_1_method_3_code
def yX7_kind : MethodName := ⟨RX7, "kind", "(II)I"⟩
abbrev cX7_tell : ByteArray := prog_1_method_4_code
def yX7_tell : MethodName := ⟨RX7, "tell", "(II)I"⟩
abbrev cX7_let : ByteArray := prog_1_method_5_code
def yX7_let : MethodName := ⟨RX7, "let", "(IZ)I"⟩
abbrev cX7_turn : ByteArray := prog_1_method_6_code
def yX7_turn : MethodName := ⟨RX7, "turn", "(I)I"⟩
abbrev cX7_gauge : ByteArray := prog_1_method_7_code
def yX7_gauge : MethodName := ⟨RX7, "gauge", "(I)I"⟩
abbrev cX7_want : ByteArray := prog_1_method_8_code
def yX7_want : MethodName := ⟨RX7, "want", "(II)I"⟩
abbrev cX7_arrange : ByteArray := prog_1_method_9_code
def yX7_arrange : MethodName := ⟨RX7, "arrange", "(I)I"⟩
abbrev cX7_one : ByteArray := prog_1_method_10_code
def yX7_one : MethodName := ⟨RX7, "one", "()I"⟩
abbrev cX7_undo : ByteArray := prog_1_method_11_code
def yX7_undo : MethodName := ⟨RX7, "undo", "()I"⟩
abbrev cX7_point : ByteArray := prog_1_method_12_code
def yX7_point : MethodName := ⟨RX7, "point", "(I)I"⟩
abbrev cX7_worth : ByteArray := prog_1_method_13_code
def yX7_worth : MethodName := ⟨RX7, "worth", "(I)I"⟩
abbrev cX7_needle : ByteArray := prog_1_method_14_code
def yX7_needle : MethodName := ⟨RX7, "needle", "(II)I"⟩
abbrev cX7_joint : ByteArray := prog_1_method_15_code
def yX7_joint : MethodName := ⟨RX7, "joint", "(II)I"⟩
abbrev cX7_strain : ByteArray := prog_1_method_16_code
def yX7_strain : MethodName := ⟨RX7, "strain", "()I"⟩
abbrev cX7_troubled : ByteArray := prog_1_method_17_code
def yX7_troubled : MethodName := ⟨RX7, "troubled", "(I)I"⟩
abbrev cX7_apart : ByteArray := prog_1_method_18_code
def yX7_apart : MethodName := ⟨RX7, "apart", "(II)I"⟩
abbrev cX7_paired : ByteArray := prog_1_method_19_code
def yX7_paired : MethodName := ⟨RX7, "paired", "()I"⟩
abbrev cX7_of : ByteArray := prog_1_method_20_code
def yX7_of : MethodName := ⟨RX7, "of", "(I)I"⟩
abbrev cX7_least : ByteArray := prog_1_method_21_code
def yX7_least : MethodName := ⟨RX7, "least", "()I"⟩
abbrev cX7_many : ByteArray := prog_1_method_22_code
def yX7_many : MethodName := ⟨RX7, "many", "()I"⟩
abbrev cX7_best : ByteArray := prog_1_method_23_code
def yX7_best : MethodName := ⟨RX7, "best", "(I)I"⟩
abbrev cX7_sure : ByteArray := prog_1_method_24_code
def yX7_sure : MethodName := ⟨RX7, "sure", "(I)I"⟩
abbrev cX7_counts : ByteArray := prog_1_method_25_code
def yX7_counts : MethodName := ⟨RX7, "counts", "(I)I"⟩
abbrev cX7_draw : ByteArray := prog_1_method_26_code
def yX7_draw : MethodName := ⟨RX7, "draw", "(II)I"⟩
abbrev cX7_above : ByteArray := prog_1_method_27_code
def yX7_above : MethodName := ⟨RX7, "above", "(I)I"⟩
abbrev cX7_strip : ByteArray := prog_1_method_28_code
def yX7_strip : MethodName := ⟨RX7, "strip", "(III)I"⟩
abbrev cX7_row : ByteArray := prog_1_method_29_code
def yX7_row : MethodName := ⟨RX7, "row", "(III)I"⟩
abbrev cX7_put : ByteArray := prog_1_method_30_code
def yX7_put : MethodName := ⟨RX7, "put", "(IIIII)I"⟩
abbrev cX7_item : ByteArray := prog_1_method_31_code
def yX7_item : MethodName := ⟨RX7, "item", "(IIII)I"⟩
abbrev cX7_copy : ByteArray := prog_1_method_32_code
def yX7_copy : MethodName := ⟨RX7, "copy", "(IIIIIII)I"⟩
abbrev cX7_read : ByteArray := prog_1_method_33_code
def yX7_read : MethodName := ⟨RX7, "read", "(IIII)I"⟩
abbrev cX7_about : ByteArray := prog_1_method_34_code
def yX7_about : MethodName := ⟨RX7, "about", "(I)I"⟩
abbrev cX7_trace : ByteArray := prog_1_method_35_code
def yX7_trace : MethodName := ⟨RX7, "trace", "()J"⟩
abbrev cX7_status : ByteArray := prog_1_method_36_code
def yX7_status : MethodName := ⟨RX7, "status", "()I"⟩
abbrev cX7_isNoNeedle : ByteArray := prog_1_method_37_code
def yX7_isNoNeedle : MethodName := ⟨RX7, "isNoNeedle", "(I)Z"⟩
abbrev cX7_isNoJoint : ByteArray := prog_1_method_38_code
def yX7_isNoJoint : MethodName := ⟨RX7, "isNoJoint", "(I)Z"⟩
abbrev cX7_isNoField : ByteArray := prog_1_method_39_code
def yX7_isNoField : MethodName := ⟨RX7, "isNoField", "(I)Z"⟩
abbrev cX7_isNoArrangement : ByteArray := prog_1_method_40_code
def yX7_isNoArrangement : MethodName := ⟨RX7, "isNoArrangement", "(I)Z"⟩
abbrev cX7_isNoWant : ByteArray := prog_1_method_41_code
def yX7_isNoWant : MethodName := ⟨RX7, "isNoWant", "(I)Z"⟩
abbrev cX7_isNoStrip : ByteArray := prog_1_method_42_code
def yX7_isNoStrip : MethodName := ⟨RX7, "isNoStrip", "(I)Z"⟩
abbrev cX7_isNoSort : ByteArray := prog_1_method_43_code
def yX7_isNoSort : MethodName := ⟨RX7, "isNoSort", "(I)Z"⟩
abbrev cX7_asNumber : ByteArray := prog_1_method_44_code
def yX7_asNumber : MethodName := ⟨RX7, "asNumber", "(Z)I"⟩
abbrev cX7_refuse : ByteArray := prog_1_method_45_code
def yX7_refuse : MethodName := ⟨RX7, "refuse", "(I)I"⟩
abbrev cX7_accept : ByteArray := prog_1_method_46_code
def yX7_accept : MethodName := ⟨RX7, "accept", "(I)I"⟩
abbrev cX7_findingOfPlace : ByteArray := prog_1_method_47_code
def yX7_findingOfPlace : MethodName := ⟨RX7, "findingOfPlace", "(IIII)I"⟩
abbrev cX7_findingOfTwoRows : ByteArray := prog_1_method_48_code
def yX7_findingOfTwoRows : MethodName := ⟨RX7, "findingOfTwoRows", "(LNeedlePlate$Strip;ILNeedlePlate$Strip;I)I"⟩
abbrev cX7_findingOfWants : ByteArray := prog_1_method_49_code
def yX7_findingOfWants : MethodName := ⟨RX7, "findingOfWants", "(LNeedlePlate$Strip;II)I"⟩
abbrev cX7_keepAndReshape : ByteArray := prog_1_method_50_code
def yX7_keepAndReshape : MethodName := ⟨RX7, "keepAndReshape", "()V"⟩
abbrev cX7_surveyed : ByteArray := prog_1_method_51_code
def yX7_surveyed : MethodName := ⟨RX7, "surveyed", "()LNeedlePlate$Landscape;"⟩
def RX8 : String := "NeedlePlateModel"
def TX8 : u_T := fun k => match k with
  | 0 => ("NeedlePlateModel", "thrown", "I", false)
  | 1 => ("NeedlePlateModel", "status", "I", false)
  | 2 => ("NeedlePlateModel", "trace", "J", false)
  | 3 => ("NeedlePlateModel", "rows", "I", false)
  | 4 => ("NeedlePlateModel", "columns", "I", false)
  | 5 => ("NeedlePlateModel", "turn", "[I", true)
  | 6 => ("NeedlePlateModel", "told", "[I", true)
  | 7 => ("NeedlePlateModel", "kind", "[I", true)
  | 8 => ("NeedlePlateModel", "isGone", "[Z", true)
  | 9 => ("NeedlePlateModel", "want", "[I", true)
  | 10 => ("NeedlePlateModel", "old", "[I", true)
  | 11 => ("NeedlePlateModel", "undone", "I", false)
  | 12 => ("NeedlePlateModel", "hasStrip", "[Z", true)
  | 13 => ("NeedlePlateModel", "sort", "[I", true)
  | 14 => ("NeedlePlateModel", "stripRows", "[I", true)
  | 15 => ("NeedlePlateModel", "rowSize", "[I", true)
  | 16 => ("NeedlePlateModel", "cells", "[I", true)
  | 17 => ("NeedlePlateModel", "copied", "[I", true)
  | 18 => ("NeedlePlateModel", "far", "[I", true)
  | _ => ("NeedlePlateModel", "pairs", "[I", true)
def tyX8 : Nat → FieldType := fun k => match k with
  | 0 => .int
  | 1 => .int
  | 2 => .long
  | 3 => .int
  | 4 => .int
  | 5 => .array .int
  | 6 => .array .int
  | 7 => .array .int
  | 8 => .array .boolean
  | 9 => .array .int
  | 10 => .array .int
  | 11 => .int
  | 12 => .array .boolean
  | 13 => .array .int
  | 14 => .array .int
  | 15 => .array .int
  | 16 => .array .int
  | 17 => .array .int
  | 18 => .array .int
  | _ => .array .int
abbrev wsX80 : List Cond := u_ws RX8 TX8 20
theorem nmX8 : ∀ a, a < 20 → ∀ b, b < 20 → a ≠ b → (TX8 a).2.1 ≠ (TX8 b).2.1 := by decide +kernel
theorem tyX8_ok : ∀ k, k < 20 → parseFieldDescriptor (TX8 k).2.2.1 = some (tyX8 k) := by decide +kernel
abbrev cX8_init : ByteArray := prog_10_method_1_code
def yX8_init : MethodName := ⟨RX8, "<init>", "()V"⟩
abbrev cX8_in : ByteArray := prog_10_method_3_code
def yX8_in : MethodName := ⟨RX8, "in", "(III)Z"⟩
abbrev cX8_needles : ByteArray := prog_10_method_4_code
def yX8_needles : MethodName := ⟨RX8, "needles", "()I"⟩
abbrev cX8_across : ByteArray := prog_10_method_5_code
def yX8_across : MethodName := ⟨RX8, "across", "()I"⟩
abbrev cX8_joints : ByteArray := prog_10_method_6_code
def yX8_joints : MethodName := ⟨RX8, "joints", "()I"⟩
abbrev cX8_fields : ByteArray := prog_10_method_7_code
def yX8_fields : MethodName := ⟨RX8, "fields", "()I"⟩
abbrev cX8_isNeedle : ByteArray := prog_10_method_8_code
def yX8_isNeedle : MethodName := ⟨RX8, "isNeedle", "(I)Z"⟩
abbrev cX8_isJoint : ByteArray := prog_10_method_9_code
def yX8_isJoint : MethodName := ⟨RX8, "isJoint", "(I)Z"⟩
abbrev cX8_keeps : ByteArray := prog_10_method_10_code
def yX8_keeps : MethodName := ⟨RX8, "keeps", "()V"⟩
abbrev cX8_isHeld : ByteArray := prog_10_method_11_code
def yX8_isHeld : MethodName := ⟨RX8, "isHeld", "(I)Z"⟩
abbrev cX8_pointOf : ByteArray := prog_10_method_12_code
def yX8_pointOf : MethodName := ⟨RX8, "pointOf", "(I)I"⟩
abbrev cX8_worthOf : ByteArray := prog_10_method_13_code
def yX8_worthOf : MethodName := ⟨RX8, "worthOf", "(I)I"⟩
abbrev cX8_end : ByteArray := prog_10_method_14_code
def yX8_end : MethodName := ⟨RX8, "end", "(IZ)I"⟩
abbrev cX8_fieldAt : ByteArray := prog_10_method_15_code
def yX8_fieldAt : MethodName := ⟨RX8, "fieldAt", "(II)I"⟩
abbrev cX8_side : ByteArray := prog_10_method_16_code
def yX8_side : MethodName := ⟨RX8, "side", "(IZ)I"⟩
abbrev cX8_countsOf : ByteArray := prog_10_method_17_code
def yX8_countsOf : MethodName := ⟨RX8, "countsOf", "(I)I"⟩
abbrev cX8_amountOf : ByteArray := prog_10_method_18_code
def yX8_amountOf : MethodName := ⟨RX8, "amountOf", "(I)I"⟩
abbrev cX8_bitOf : ByteArray := prog_10_method_19_code
def yX8_bitOf : MethodName := ⟨RX8, "bitOf", "(III)I"⟩
abbrev cX8_strainOf : ByteArray := prog_10_method_20_code
def yX8_strainOf : MethodName := ⟨RX8, "strainOf", "(I)I"⟩
abbrev cX8_now : ByteArray := prog_10_method_21_code
def yX8_now : MethodName := ⟨RX8, "now", "()I"⟩
abbrev cX8_mayBe : ByteArray := prog_10_method_22_code
def yX8_mayBe : MethodName := ⟨RX8, "mayBe", "(I)Z"⟩
abbrev cX8_all : ByteArray := prog_10_method_23_code
def yX8_all : MethodName := ⟨RX8, "all", "()I"⟩
abbrev cX8_plate : ByteArray := prog_10_method_24_code
def yX8_plate : MethodName := ⟨RX8, "plate", "(II)I"⟩
abbrev cX8_kind : ByteArray := prog_10_method_25_code
def yX8_kind : MethodName := ⟨RX8, "kind", "(II)I"⟩
abbrev cX8_tell : ByteArray := prog_10_method_26_code
def yX8_tell : MethodName := ⟨RX8, "tell", "(II)I"⟩
abbrev cX8_let : ByteArray := prog_10_method_27_code
def yX8_let : MethodName := ⟨RX8, "let", "(IZ)I"⟩
abbrev cX8_turn : ByteArray := prog_10_method_28_code
def yX8_turn : MethodName := ⟨RX8, "turn", "(I)I"⟩
abbrev cX8_gauge : ByteArray := prog_10_method_29_code
def yX8_gauge : MethodName := ⟨RX8, "gauge", "(I)I"⟩
abbrev cX8_want : ByteArray := prog_10_method_30_code
def yX8_want : MethodName := ⟨RX8, "want", "(II)I"⟩
abbrev cX8_arrange : ByteArray := prog_10_method_31_code
def yX8_arrange : MethodName := ⟨RX8, "arrange", "(I)I"⟩
abbrev cX8_one : ByteArray := prog_10_method_32_code
def yX8_one : MethodName := ⟨RX8, "one", "()I"⟩
abbrev cX8_undo : ByteArray := prog_10_method_33_code
def yX8_undo : MethodName := ⟨RX8, "undo", "()I"⟩
abbrev cX8_point : ByteArray := prog_10_method_34_code
def yX8_point : MethodName := ⟨RX8, "point", "(I)I"⟩
abbrev cX8_worth : ByteArray := prog_10_method_35_code
def yX8_worth : MethodName := ⟨RX8, "worth", "(I)I"⟩
abbrev cX8_needle : ByteArray := prog_10_method_36_code
def yX8_needle : MethodName := ⟨RX8, "needle", "(II)I"⟩
abbrev cX8_joint : ByteArray := prog_10_method_37_code
def yX8_joint : MethodName := ⟨RX8, "joint", "(II)I"⟩
abbrev cX8_strain : ByteArray := prog_10_method_38_code
def yX8_strain : MethodName := ⟨RX8, "strain", "()I"⟩
abbrev cX8_isTroubled : ByteArray := prog_10_method_39_code
def yX8_isTroubled : MethodName := ⟨RX8, "isTroubled", "(I)Z"⟩
abbrev cX8_troubled : ByteArray := prog_10_method_40_code
def yX8_troubled : MethodName := ⟨RX8, "troubled", "(I)I"⟩
abbrev cX8_spreads : ByteArray := prog_10_method_41_code
def yX8_spreads : MethodName := ⟨RX8, "spreads", "(I)V"⟩
abbrev cX8_apart : ByteArray := prog_10_method_42_code
def yX8_apart : MethodName := ⟨RX8, "apart", "(II)I"⟩
abbrev cX8_paired : ByteArray := prog_10_method_43_code
def yX8_paired : MethodName := ⟨RX8, "paired", "()I"⟩
abbrev cX8_of : ByteArray := prog_10_method_44_code
def yX8_of : MethodName := ⟨RX8, "of", "(I)I"⟩
abbrev cX8_leastOf : ByteArray := prog_10_method_45_code
def yX8_leastOf : MethodName := ⟨RX8, "leastOf", "()I"⟩
abbrev cX8_least : ByteArray := prog_10_method_46_code
def yX8_least : MethodName := ⟨RX8, "least", "()I"⟩
abbrev cX8_find : ByteArray := prog_10_method_47_code
def yX8_find : MethodName := ⟨RX8, "find", "(II)I"⟩
abbrev cX8_many : ByteArray := prog_10_method_48_code
def yX8_many : MethodName := ⟨RX8, "many", "()I"⟩
abbrev cX8_best : ByteArray := prog_10_method_49_code
def yX8_best : MethodName := ⟨RX8, "best", "(I)I"⟩
abbrev cX8_sure : ByteArray := prog_10_method_50_code
def yX8_sure : MethodName := ⟨RX8, "sure", "(I)I"⟩
abbrev cX8_counts : ByteArray := prog_10_method_51_code
def yX8_counts : MethodName := ⟨RX8, "counts", "(I)I"⟩
abbrev cX8_draw : ByteArray := prog_10_method_52_code
def yX8_draw : MethodName := ⟨RX8, "draw", "(II)I"⟩
abbrev cX8_above : ByteArray := prog_10_method_53_code
def yX8_above : MethodName := ⟨RX8, "above", "(I)I"⟩
abbrev cX8_no : ByteArray := prog_10_method_54_code
def yX8_no : MethodName := ⟨RX8, "no", "(I)I"⟩
abbrev cX8_strip : ByteArray := prog_10_method_55_code
def yX8_strip : MethodName := ⟨RX8, "strip", "(III)I"⟩
abbrev cX8_row : ByteArray := prog_10_method_56_code
def yX8_row : MethodName := ⟨RX8, "row", "(III)I"⟩
abbrev cX8_wrong : ByteArray := prog_10_method_57_code
def yX8_wrong : MethodName := ⟨RX8, "wrong", "(IIII)I"⟩
abbrev cX8_put : ByteArray := prog_10_method_58_code
def yX8_put : MethodName := ⟨RX8, "put", "(IIIII)I"⟩
abbrev cX8_item : ByteArray := prog_10_method_59_code
def yX8_item : MethodName := ⟨RX8, "item", "(IIII)I"⟩
abbrev cX8_areThere : ByteArray := prog_10_method_60_code
def yX8_areThere : MethodName := ⟨RX8, "areThere", "(III)Z"⟩
abbrev cX8_copy : ByteArray := prog_10_method_61_code
def yX8_copy : MethodName := ⟨RX8, "copy", "(IIIIIII)I"⟩
abbrev cX8_read : ByteArray := prog_10_method_62_code
def yX8_read : MethodName := ⟨RX8, "read", "(IIII)I"⟩
abbrev cX8_about : ByteArray := prog_10_method_63_code
def yX8_about : MethodName := ⟨RX8, "about", "(I)I"⟩
abbrev cX8_trace : ByteArray := prog_10_method_64_code
def yX8_trace : MethodName := ⟨RX8, "trace", "()J"⟩
abbrev cX8_status : ByteArray := prog_10_method_65_code
def yX8_status : MethodName := ⟨RX8, "status", "()I"⟩
def RJ6 : String := "java/lang/Integer"
abbrev cJ6_bitCount_0f7a4 : ByteArray := prog_11_method_49_code
def yJ6_bitCount_0f7a4 : MethodName := ⟨RJ6, "bitCount", "(I)I"⟩
def RJ9 : String := "java/lang/Math"
abbrev cJ9_abs_0f7a4 : ByteArray := prog_12_method_59_code
def yJ9_abs_0f7a4 : MethodName := ⟨RJ9, "abs", "(I)I"⟩
abbrev cJ9_max_7cf53 : ByteArray := prog_12_method_65_code
def yJ9_max_7cf53 : MethodName := ⟨RJ9, "max", "(II)I"⟩
abbrev cJ9_min_7cf53 : ByteArray := prog_12_method_69_code
def yJ9_min_7cf53 : MethodName := ⟨RJ9, "min", "(II)I"⟩
def RJ10 : String := "java/lang/System"
def RJ7 : String := "java/util/Arrays"
abbrev cJ7_fill_53178 : ByteArray := prog_14_method_103_code
def yJ7_fill_53178 : MethodName := ⟨RJ7, "fill", "([II)V"⟩
def RL : String := "NeedlePlateLaw"
abbrev cL_law : ByteArray := code
def yL_law : MethodName := ⟨RL, "law", "([I)Z"⟩
abbrev vwCl : List vw_C := [(RX0, TX0, 10), (RX1, TX1, 3), (RX2, TX2, 6), (RX3, TX3, 2), (RX4, TX4, 2), (RX5, TX5, 5), (RX6, TX6, 4), (RX7, TX7, 7), (RX8, TX8, 20)]
theorem iX0 : ∀ w ∈ u_ws RX0 TX0 10, w ∈ lw_tbl := by
  intro w hw
  have h : u_ws RX0 TX0 10 = [110, 112, 114, 116, 118, 120, 122, 124, 126, 128].filterMap (fun i => lw_tbl[i]?) := by decide +kernel
  rw [h] at hw
  obtain ⟨i, -, hi⟩ := List.mem_filterMap.mp hw
  exact List.mem_of_getElem? hi
theorem iX1 : ∀ w ∈ u_ws RX1 TX1 3, w ∈ lw_tbl := by
  intro w hw
  have h : u_ws RX1 TX1 3 = [190, 192, 194].filterMap (fun i => lw_tbl[i]?) := by decide +kernel
  rw [h] at hw
  obtain ⟨i, -, hi⟩ := List.mem_filterMap.mp hw
  exact List.mem_of_getElem? hi
theorem iX2 : ∀ w ∈ u_ws RX2 TX2 6, w ∈ lw_tbl := by
  intro w hw
  have h : u_ws RX2 TX2 6 = [211, 213, 215, 217, 219, 221].filterMap (fun i => lw_tbl[i]?) := by decide +kernel
  rw [h] at hw
  obtain ⟨i, -, hi⟩ := List.mem_filterMap.mp hw
  exact List.mem_of_getElem? hi
theorem iX3 : ∀ w ∈ u_ws RX3 TX3 2, w ∈ lw_tbl := by
  intro w hw
  have h : u_ws RX3 TX3 2 = [232, 234].filterMap (fun i => lw_tbl[i]?) := by decide +kernel
  rw [h] at hw
  obtain ⟨i, -, hi⟩ := List.mem_filterMap.mp hw
  exact List.mem_of_getElem? hi
theorem iX4 : ∀ w ∈ u_ws RX4 TX4 2, w ∈ lw_tbl := by
  intro w hw
  have h : u_ws RX4 TX4 2 = [172, 174].filterMap (fun i => lw_tbl[i]?) := by decide +kernel
  rw [h] at hw
  obtain ⟨i, -, hi⟩ := List.mem_filterMap.mp hw
  exact List.mem_of_getElem? hi
theorem iX5 : ∀ w ∈ u_ws RX5 TX5 5, w ∈ lw_tbl := by
  intro w hw
  have h : u_ws RX5 TX5 5 = [154, 156, 158, 160, 162].filterMap (fun i => lw_tbl[i]?) := by decide +kernel
  rw [h] at hw
  obtain ⟨i, -, hi⟩ := List.mem_filterMap.mp hw
  exact List.mem_of_getElem? hi
theorem iX6 : ∀ w ∈ u_ws RX6 TX6 4, w ∈ lw_tbl := by
  intro w hw
  have h : u_ws RX6 TX6 4 = [250, 252, 254, 256].filterMap (fun i => lw_tbl[i]?) := by decide +kernel
  rw [h] at hw
  obtain ⟨i, -, hi⟩ := List.mem_filterMap.mp hw
  exact List.mem_of_getElem? hi
theorem iX7 : ∀ w ∈ u_ws RX7 TX7 7, w ∈ lw_tbl := by
  intro w hw
  have h : u_ws RX7 TX7 7 = [288, 290, 292, 294, 296, 298, 300].filterMap (fun i => lw_tbl[i]?) := by decide +kernel
  rw [h] at hw
  obtain ⟨i, -, hi⟩ := List.mem_filterMap.mp hw
  exact List.mem_of_getElem? hi
theorem iX8 : ∀ w ∈ u_ws RX8 TX8 20, w ∈ lw_tbl := by
  intro w hw
  have h : u_ws RX8 TX8 20 = [773, 775, 777, 779, 781, 783, 785, 787, 789, 791, 793, 795, 797, 799, 801, 803, 805, 807, 809, 811].filterMap (fun i => lw_tbl[i]?) := by decide +kernel
  rw [h] at hw
  obtain ⟨i, -, hi⟩ := List.mem_filterMap.mp hw
  exact List.mem_of_getElem? hi
end
section
/-! the decoded code, an entry a byte: (instruction, its length, two resolved numbers, the place of its word in lw_tbl, a constant) -/
abbrev mc_E : Type := Instr × Nat × Nat × Nat × Nat × Int
def ct_0 : List (Option mc_E) := [some (.aload_n 0, 1, 0, 0, 0, 0), some (.invokespecial 3, 3, 999, 0, 76, 0), none, none, some (.aload_n 0, 1, 0, 0, 0, 0), some (.bipush 17, 2, 0, 0, 0, 0), none, some (.newarray .int, 2, 0, 0, 0, 0), none, some (.putfield 9, 3, 0, 6, 94, 0), none, none, some (.aload_n 0, 1, 0, 0, 0, 0), some (.bipush 17, 2, 0, 0, 0, 0), none, some (.newarray .int, 2, 0, 0, 0, 0), none, some (.putfield 15, 3, 0, 7, 98, 0), none, none, some (.aload_n 0, 1, 0, 0, 0, 0), some (.bipush 17, 2, 0, 0, 0, 0), none, some (.newarray .int, 2, 0, 0, 0, 0), none, some (.putfield 18, 3, 0, 8, 102, 0), none, none, some (.aload_n 0, 1, 0, 0, 0, 0), some (.bipush 17, 2, 0, 0, 0, 0), none, some (.newarray .int, 2, 0, 0, 0, 0), none, some (.putfield 21, 3, 0, 9, 106, 0), none, none, some (.return_, 1, 0, 0, 0, 0)]
def ct_1 : List (Option mc_E) := [some (.aload_n 0, 1, 0, 0, 0, 0), some (.iload_n 1, 1, 0, 0, 0, 0), some (.putfield 24, 3, 0, 0, 77, 0), none, none, some (.aload_n 0, 1, 0, 0, 0, 0), some (.iload_n 2, 1, 0, 0, 0, 0), some (.putfield 28, 3, 0, 1, 79, 0), none, none, some (.aload_n 0, 1, 0, 0, 0, 0), some (.aload_n 0, 1, 0, 0, 0, 0), some (.getfield 24, 3, 0, 0, 77, 0), none, none, some (.aload_n 0, 1, 0, 0, 0, 0), some (.getfield 28, 3, 0, 1, 79, 0), none, none, some (.imul, 1, 0, 0, 0, 0), some (.putfield 31, 3, 0, 2, 82, 0), none, none, some (.aload_n 0, 1, 0, 0, 0, 0), some (.aload_n 0, 1, 0, 0, 0, 0), some (.getfield 24, 3, 0, 0, 77, 0), none, none, some (.iconst 1, 1, 0, 0, 0, 0), some (.isub, 1, 0, 0, 0, 0), some (.aload_n 0, 1, 0, 0, 0, 0), some (.getfield 28, 3, 0, 1, 79, 0), none, none, some (.iconst 1, 1, 0, 0, 0, 0), some (.isub, 1, 0, 0, 0, 0), some (.imul, 1, 0, 0, 0, 0), some (.iconst 1, 1, 0, 0, 0, 0), some (.iadd, 1, 0, 0, 0, 0), some (.putfield 34, 3, 0, 4, 90, 0), none, none, some (.aload_n 0, 1, 0, 0, 0, 0), some (.iconst 0, 1, 0, 0, 0, 0), some (.putfield 37, 3, 0, 3, 85, 0), none, none, some (.aload_n 0, 1, 0, 0, 0, 0), some (.iconst 0, 1, 0, 0, 0, 0), some (.putfield 40, 3, 0, 5, 93, 0), none, none, some (.iconst 0, 1, 0, 0, 0, 0), some (.istore_n 3, 1, 0, 0, 0, 0), some (.iload_n 3, 1, 0, 0, 0, 0), some (.aload_n 0, 1, 0, 0, 0, 0), some (.getfield 24, 3, 0, 0, 77, 0), none, none, some (.if_icmp .ge 75, 3, 0, 0, 0, 0), none, none, some (.iconst 0, 1, 0, 0, 0, 0), some (.istore 4, 2, 0, 0, 0, 0), none, some (.iload 4, 2, 0, 0, 0, 0), none, some (.aload_n 0, 1, 0, 0, 0, 0), some (.getfield 28, 3, 0, 1, 79, 0), none, none, some (.if_icmp .ge 57, 3, 0, 0, 0, 0), none, none, some (.aload_n 0, 1, 0, 0, 0, 0), some (.iload_n 3, 1, 0, 0, 0, 0), some (.iload 4, 2, 0, 0, 0, 0), none, some (.invokevirtual 43, 3, 2, 0, 263, 0), none, none, some (.iload 4, 2, 0, 0, 0, 0), none, some (.aload_n 0, 1, 0, 0, 0, 0), some (.getfield 28, 3, 0, 1, 79, 0), none, none, some (.iconst 1, 1, 0, 0, 0, 0), some (.isub, 1, 0, 0, 0, 0), some (.if_icmp .ge 33, 3, 0, 0, 0, 0), none, none, some (.aload_n 0, 1, 0, 0, 0, 0), some (.iload_n 3, 1, 0, 0, 0, 0), some (.aload_n 0, 1, 0, 0, 0, 0), some (.getfield 28, 3, 0, 1, 79, 0), none, none, some (.imul, 1, 0, 0, 0, 0), some (.iload 4, 2, 0, 0, 0, 0), none, some (.iadd, 1, 0, 0, 0, 0), some (.iconst 1, 1, 0, 0, 0, 0), some (.aload_n 0, 1, 0, 0, 0, 0), some (.iload_n 3, 1, 0, 0, 0, 0), some (.iconst 1, 1, 0, 0, 0, 0), some (.isub, 1, 0, 0, 0, 0), some (.iload 4, 2, 0, 0, 0, 0), none, some (.invokevirtual 47, 3, 3, 0, 267, 0), none, none, some (.aload_n 0, 1, 0, 0, 0, 0), some (.iload_n 3, 1, 0, 0, 0, 0), some (.iload 4, 2, 0, 0, 0, 0), none, some (.invokevirtual 47, 3, 3, 0, 267, 0), none, none, some (.invokevirtual 51, 3, 4, 0, 271, 0), none, none, some (.iinc 4 1, 3, 0, 0, 0, 0), none, none, some (.goto (-60), 3, 0, 0, 0, 0), none, none, some (.iinc 3 1, 3, 0, 0, 0, 0), none, none, some (.goto (-77), 3, 0, 0, 0, 0), none, none, some (.iconst 0, 1, 0, 0, 0, 0), some (.istore_n 3, 1, 0, 0, 0, 0), some (.iload_n 3, 1, 0, 0, 0, 0), some (.aload_n 0, 1, 0, 0, 0, 0), some (.getfield 24, 3, 0, 0, 77, 0), none, none, some (.iconst 1, 1, 0, 0, 0, 0), some (.isub, 1, 0, 0, 0, 0), some (.if_icmp .ge 60, 3, 0, 0, 0, 0), none, none, some (.iconst 0, 1, 0, 0, 0, 0), some (.istore 4, 2, 0, 0, 0, 0), none, some (.iload 4, 2, 0, 0, 0, 0), none, some (.aload_n 0, 1, 0, 0, 0, 0), some (.getfield 28, 3, 0, 1, 79, 0), none, none, some (.if_icmp .ge 42, 3, 0, 0, 0, 0), none, none, some (.aload_n 0, 1, 0, 0, 0, 0), some (.iload_n 3, 1, 0, 0, 0, 0), some (.aload_n 0, 1, 0, 0, 0, 0), some (.getfield 28, 3, 0, 1, 79, 0), none, none, some (.imul, 1, 0, 0, 0, 0), some (.iload 4, 2, 0, 0, 0, 0), none, some (.iadd, 1, 0, 0, 0, 0), some (.aload_n 0, 1, 0, 0, 0, 0), some (.getfield 28, 3, 0, 1, 79, 0), none, none, some (.aload_n 0, 1, 0, 0, 0, 0), some (.iload_n 3, 1, 0, 0, 0, 0), some (.iload 4, 2, 0, 0, 0, 0), none, some (.iconst 1, 1, 0, 0, 0, 0), some (.isub, 1, 0, 0, 0, 0), some (.invokevirtual 47, 3, 3, 0, 267, 0), none, none, some (.aload_n 0, 1, 0, 0, 0, 0), some (.iload_n 3, 1, 0, 0, 0, 0), some (.iload 4, 2, 0, 0, 0, 0), none, some (.invokevirtual 47, 3, 3, 0, 267, 0), none, none, some (.invokevirtual 51, 3, 4, 0, 271, 0), none, none, some (.iinc 4 1, 3, 0, 0, 0, 0), none, none, some (.goto (-45), 3, 0, 0, 0, 0), none, none, some (.iinc 3 1, 3, 0, 0, 0, 0), none, none, some (.goto (-64), 3, 0, 0, 0, 0), none, none, some (.return_, 1, 0, 0, 0, 0)]
def ct_2 : List (Option mc_E) := [some (.iload_n 1, 1, 0, 0, 0, 0), some (.ifCond .eq 27, 3, 0, 0, 0, 0), none, none, some (.iload_n 1, 1, 0, 0, 0, 0), some (.aload_n 0, 1, 0, 0, 0, 0), some (.getfield 24, 3, 0, 0, 77, 0), none, none, some (.iconst 1, 1, 0, 0, 0, 0), some (.isub, 1, 0, 0, 0, 0), some (.if_icmp .eq 17, 3, 0, 0, 0, 0), none, none, some (.iload_n 2, 1, 0, 0, 0, 0), some (.ifCond .eq 13, 3, 0, 0, 0, 0), none, none, some (.iload_n 2, 1, 0, 0, 0, 0), some (.aload_n 0, 1, 0, 0, 0, 0), some (.getfield 28, 3, 0, 1, 79, 0), none, none, some (.iconst 1, 1, 0, 0, 0, 0), some (.isub, 1, 0, 0, 0, 0), some (.if_icmp .ne 22, 3, 0, 0, 0, 0), none, none, some (.aload_n 0, 1, 0, 0, 0, 0), some (.dup, 1, 0, 0, 0, 0), some (.getfield 40, 3, 0, 5, 93, 0), none, none, some (.iconst 1, 1, 0, 0, 0, 0), some (.iload_n 1, 1, 0, 0, 0, 0), some (.aload_n 0, 1, 0, 0, 0, 0), some (.getfield 28, 3, 0, 1, 79, 0), none, none, some (.imul, 1, 0, 0, 0, 0), some (.iload_n 2, 1, 0, 0, 0, 0), some (.iadd, 1, 0, 0, 0, 0), some (.ishl, 1, 0, 0, 0, 0), some (.ior, 1, 0, 0, 0, 0), some (.putfield 40, 3, 0, 5, 93, 0), none, none, some (.return_, 1, 0, 0, 0, 0)]
def ct_3 : List (Option mc_E) := [some (.iload_n 1, 1, 0, 0, 0, 0), some (.ifCond .lt 31, 3, 0, 0, 0, 0), none, none, some (.iload_n 1, 1, 0, 0, 0, 0), some (.aload_n 0, 1, 0, 0, 0, 0), some (.getfield 24, 3, 0, 0, 77, 0), none, none, some (.iconst 1, 1, 0, 0, 0, 0), some (.isub, 1, 0, 0, 0, 0), some (.if_icmp .ge 21, 3, 0, 0, 0, 0), none, none, some (.iload_n 2, 1, 0, 0, 0, 0), some (.ifCond .lt 17, 3, 0, 0, 0, 0), none, none, some (.iload_n 2, 1, 0, 0, 0, 0), some (.aload_n 0, 1, 0, 0, 0, 0), some (.getfield 28, 3, 0, 1, 79, 0), none, none, some (.iconst 1, 1, 0, 0, 0, 0), some (.isub, 1, 0, 0, 0, 0), some (.if_icmp .ge 7, 3, 0, 0, 0, 0), none, none, some (.iconst 1, 1, 0, 0, 0, 0), some (.goto 4, 3, 0, 0, 0, 0), none, none, some (.iconst 0, 1, 0, 0, 0, 0), some (.istore_n 3, 1, 0, 0, 0, 0), some (.iload_n 3, 1, 0, 0, 0, 0), some (.ifCond .eq 16, 3, 0, 0, 0, 0), none, none, some (.iload_n 1, 1, 0, 0, 0, 0), some (.aload_n 0, 1, 0, 0, 0, 0), some (.getfield 28, 3, 0, 1, 79, 0), none, none, some (.iconst 1, 1, 0, 0, 0, 0), some (.isub, 1, 0, 0, 0, 0), some (.imul, 1, 0, 0, 0, 0), some (.iload_n 2, 1, 0, 0, 0, 0), some (.iadd, 1, 0, 0, 0, 0), some (.goto 9, 3, 0, 0, 0, 0), none, none, some (.aload_n 0, 1, 0, 0, 0, 0), some (.getfield 34, 3, 0, 4, 90, 0), none, none, some (.iconst 1, 1, 0, 0, 0, 0), some (.isub, 1, 0, 0, 0, 0), some (.ireturn, 1, 0, 0, 0, 0)]
def ct_4 : List (Option mc_E) := [some (.aload_n 0, 1, 0, 0, 0, 0), some (.getfield 37, 3, 0, 3, 85, 0), none, none, some (.bipush 17, 2, 0, 0, 0, 0), none, some (.if_icmp .ge 65, 3, 0, 0, 0, 0), none, none, some (.aload_n 0, 1, 0, 0, 0, 0), some (.getfield 9, 3, 0, 6, 94, 0), none, none, some (.aload_n 0, 1, 0, 0, 0, 0), some (.getfield 37, 3, 0, 3, 85, 0), none, none, some (.iload_n 1, 1, 0, 0, 0, 0), some (.iastore, 1, 0, 0, 0, 0), some (.aload_n 0, 1, 0, 0, 0, 0), some (.getfield 15, 3, 0, 7, 98, 0), none, none, some (.aload_n 0, 1, 0, 0, 0, 0), some (.getfield 37, 3, 0, 3, 85, 0), none, none, some (.iload_n 1, 1, 0, 0, 0, 0), some (.iload_n 2, 1, 0, 0, 0, 0), some (.iadd, 1, 0, 0, 0, 0), some (.iastore, 1, 0, 0, 0, 0), some (.aload_n 0, 1, 0, 0, 0, 0), some (.getfield 18, 3, 0, 8, 102, 0), none, none, some (.aload_n 0, 1, 0, 0, 0, 0), some (.getfield 37, 3, 0, 3, 85, 0), none, none, some (.iload_n 3, 1, 0, 0, 0, 0), some (.iload 4, 2, 0, 0, 0, 0), none, some (.invokestatic 55, 3, 178, 0, 275, 0), none, none, some (.iastore, 1, 0, 0, 0, 0), some (.aload_n 0, 1, 0, 0, 0, 0), some (.getfield 21, 3, 0, 9, 106, 0), none, none, some (.aload_n 0, 1, 0, 0, 0, 0), some (.getfield 37, 3, 0, 3, 85, 0), none, none, some (.iload_n 3, 1, 0, 0, 0, 0), some (.iload 4, 2, 0, 0, 0, 0), none, some (.invokestatic 60, 3, 177, 0, 278, 0), none, none, some (.iastore, 1, 0, 0, 0, 0), some (.aload_n 0, 1, 0, 0, 0, 0), some (.dup, 1, 0, 0, 0, 0), some (.getfield 37, 3, 0, 3, 85, 0), none, none, some (.iconst 1, 1, 0, 0, 0, 0), some (.iadd, 1, 0, 0, 0, 0), some (.putfield 37, 3, 0, 3, 85, 0), none, none, some (.return_, 1, 0, 0, 0, 0)]
def ct_5 : List (Option mc_E) := [some (.aload_n 0, 1, 0, 0, 0, 0), some (.getfield 40, 3, 0, 5, 93, 0), none, none, some (.iload_n 1, 1, 0, 0, 0, 0), some (.ishr, 1, 0, 0, 0, 0), some (.iconst 1, 1, 0, 0, 0, 0), some (.iand, 1, 0, 0, 0, 0), some (.iconst 1, 1, 0, 0, 0, 0), some (.if_icmp .ne 7, 3, 0, 0, 0, 0), none, none, some (.iconst 1, 1, 0, 0, 0, 0), some (.goto 4, 3, 0, 0, 0, 0), none, none, some (.iconst 0, 1, 0, 0, 0, 0), some (.ireturn, 1, 0, 0, 0, 0)]
def ct_6 : List (Option mc_E) := [some (.aload_n 0, 1, 0, 0, 0, 0), some (.invokespecial 3, 3, 999, 0, 182, 0), none, none, some (.aload_n 0, 1, 0, 0, 0, 0), some (.bipush 20, 2, 0, 0, 0, 0), none, some (.anewarray 9, 3, 2, 0, 183, 0), none, none, some (.putfield 11, 3, 1, 0, 186, 0), none, none, some (.iconst 0, 1, 0, 0, 0, 0), some (.istore_n 1, 1, 0, 0, 0, 0), some (.iload_n 1, 1, 0, 0, 0, 0), some (.bipush 20, 2, 0, 0, 0, 0), none, some (.if_icmp .ge 22, 3, 0, 0, 0, 0), none, none, some (.aload_n 0, 1, 0, 0, 0, 0), some (.getfield 11, 3, 1, 0, 186, 0), none, none, some (.iload_n 1, 1, 0, 0, 0, 0), some (.new 9, 3, 5, 0, 183, 0), none, none, some (.dup, 1, 0, 0, 0, 0), some (.invokespecial 17, 3, 45, 1, 185, 0), none, none, some (.aastore, 1, 0, 0, 0, 0), some (.iinc 1 1, 3, 0, 0, 0, 0), none, none, some (.goto (-22), 3, 0, 0, 0, 0), none, none, some (.return_, 1, 0, 0, 0, 0)]
def ct_7 : List (Option mc_E) := [some (.aload_n 0, 1, 0, 0, 0, 0), some (.getfield 11, 3, 1, 0, 186, 0), none, none, some (.aload_n 0, 1, 0, 0, 0, 0), some (.getfield 18, 3, 1, 1, 187, 0), none, none, some (.aaload, 1, 0, 0, 0, 0), some (.aload_n 1, 1, 0, 0, 0, 0), some (.invokevirtual 22, 3, 47, 0, 338, 0), none, none, some (.aload_n 0, 1, 0, 0, 0, 0), some (.aload_n 0, 1, 0, 0, 0, 0), some (.getfield 18, 3, 1, 1, 187, 0), none, none, some (.iconst 1, 1, 0, 0, 0, 0), some (.iadd, 1, 0, 0, 0, 0), some (.bipush 20, 2, 0, 0, 0, 0), none, some (.irem, 1, 0, 0, 0, 0), some (.putfield 18, 3, 1, 1, 187, 0), none, none, some (.aload_n 0, 1, 0, 0, 0, 0), some (.aload_n 0, 1, 0, 0, 0, 0), some (.getfield 26, 3, 1, 2, 188, 0), none, none, some (.iconst 1, 1, 0, 0, 0, 0), some (.iadd, 1, 0, 0, 0, 0), some (.bipush 20, 2, 0, 0, 0, 0), none, some (.invokestatic 29, 3, 178, 0, 345, 0), none, none, some (.putfield 26, 3, 1, 2, 188, 0), none, none, some (.return_, 1, 0, 0, 0, 0)]
def ct_8 : List (Option mc_E) := [some (.aload_n 0, 1, 0, 0, 0, 0), some (.aload_n 0, 1, 0, 0, 0, 0), some (.getfield 18, 3, 1, 1, 187, 0), none, none, some (.bipush 20, 2, 0, 0, 0, 0), none, some (.iadd, 1, 0, 0, 0, 0), some (.iconst 1, 1, 0, 0, 0, 0), some (.isub, 1, 0, 0, 0, 0), some (.bipush 20, 2, 0, 0, 0, 0), none, some (.irem, 1, 0, 0, 0, 0), some (.putfield 18, 3, 1, 1, 187, 0), none, none, some (.aload_n 0, 1, 0, 0, 0, 0), some (.aload_n 0, 1, 0, 0, 0, 0), some (.getfield 26, 3, 1, 2, 188, 0), none, none, some (.iconst 1, 1, 0, 0, 0, 0), some (.isub, 1, 0, 0, 0, 0), some (.iconst 0, 1, 0, 0, 0, 0), some (.invokestatic 35, 3, 177, 0, 472, 0), none, none, some (.putfield 26, 3, 1, 2, 188, 0), none, none, some (.aload_n 1, 1, 0, 0, 0, 0), some (.aload_n 0, 1, 0, 0, 0, 0), some (.getfield 11, 3, 1, 0, 186, 0), none, none, some (.aload_n 0, 1, 0, 0, 0, 0), some (.getfield 18, 3, 1, 1, 187, 0), none, none, some (.aaload, 1, 0, 0, 0, 0), some (.invokevirtual 22, 3, 47, 0, 338, 0), none, none, some (.return_, 1, 0, 0, 0, 0)]
def ct_9 : List (Option mc_E) := [some (.aload_n 0, 1, 0, 0, 0, 0), some (.iconst 0, 1, 0, 0, 0, 0), some (.putfield 26, 3, 1, 2, 188, 0), none, none, some (.return_, 1, 0, 0, 0, 0)]
def ct_10 : List (Option mc_E) := [some (.aload_n 0, 1, 0, 0, 0, 0), some (.invokespecial 3, 3, 999, 0, 202, 0), none, none, some (.aload_n 0, 1, 0, 0, 0, 0), some (.sipush 4096, 3, 0, 0, 0, 0), none, none, some (.newarray .int, 2, 0, 0, 0, 0), none, some (.putfield 9, 3, 2, 0, 203, 0), none, none, some (.aload_n 0, 1, 0, 0, 0, 0), some (.iconst 1, 1, 0, 0, 0, 0), some (.putfield 15, 3, 2, 1, 204, 0), none, none, some (.return_, 1, 0, 0, 0, 0)]
def ct_11 : List (Option mc_E) := [some (.aload_n 0, 1, 0, 0, 0, 0), some (.aload_n 1, 1, 0, 0, 0, 0), some (.invokevirtual 19, 3, 27, 0, 581, 0), none, none, some (.putfield 25, 3, 2, 2, 206, 0), none, none, some (.aload_n 0, 1, 0, 0, 0, 0), some (.aload_n 1, 1, 0, 0, 0, 0), some (.invokevirtual 29, 3, 32, 0, 582, 0), none, none, some (.putfield 32, 3, 2, 3, 207, 0), none, none, some (.aload_n 0, 1, 0, 0, 0, 0), some (.aload_n 1, 1, 0, 0, 0, 0), some (.getfield 35, 3, 4, 1, 170, 0), none, none, some (.getfield 39, 3, 5, 1, 142, 0), none, none, some (.aload_n 0, 1, 0, 0, 0, 0), some (.getfield 32, 3, 2, 3, 207, 0), none, none, some (.iand, 1, 0, 0, 0, 0), some (.putfield 44, 3, 2, 4, 208, 0), none, none, some (.aload_n 0, 1, 0, 0, 0, 0), some (.getfield 9, 3, 2, 0, 203, 0), none, none, some (.iconst 0, 1, 0, 0, 0, 0), some (.aload_n 1, 1, 0, 0, 0, 0), some (.iconst 0, 1, 0, 0, 0, 0), some (.invokevirtual 47, 3, 37, 0, 583, 0), none, none, some (.iastore, 1, 0, 0, 0, 0), some (.aload_n 1, 1, 0, 0, 0, 0), some (.getfield 51, 3, 4, 0, 167, 0), none, none, some (.getfield 55, 3, 0, 2, 83, 0), none, none, some (.iconst 1, 1, 0, 0, 0, 0), some (.isub, 1, 0, 0, 0, 0), some (.istore_n 2, 1, 0, 0, 0, 0), some (.iload_n 2, 1, 0, 0, 0, 0), some (.ifCond .lt 15, 3, 0, 0, 0, 0), none, none, some (.aload_n 0, 1, 0, 0, 0, 0), some (.aload_n 1, 1, 0, 0, 0, 0), some (.iload_n 2, 1, 0, 0, 0, 0), some (.invokevirtual 60, 3, 12, 0, 584, 0), none, none, some (.iinc 2 (-1), 3, 0, 0, 0, 0), none, none, some (.goto (-13), 3, 0, 0, 0, 0), none, none, some (.aload_n 0, 1, 0, 0, 0, 0), some (.aload_n 0, 1, 0, 0, 0, 0), some (.iconst (-1), 1, 0, 0, 0, 0), some (.invokevirtual 64, 3, 16, 0, 591, 0), none, none, some (.putfield 67, 3, 2, 5, 209, 0), none, none, some (.aload_n 0, 1, 0, 0, 0, 0), some (.iconst 0, 1, 0, 0, 0, 0), some (.putfield 15, 3, 2, 1, 204, 0), none, none, some (.return_, 1, 0, 0, 0, 0)]
def ct_12 : List (Option mc_E) := [some (.aload_n 1, 1, 0, 0, 0, 0), some (.iload_n 2, 1, 0, 0, 0, 0), some (.invokevirtual 70, 3, 28, 0, 588, 0), none, none, some (.istore_n 3, 1, 0, 0, 0, 0), some (.iconst 0, 1, 0, 0, 0, 0), some (.istore 4, 2, 0, 0, 0, 0), none, some (.iconst 0, 1, 0, 0, 0, 0), some (.istore 5, 2, 0, 0, 0, 0), none, some (.iconst 0, 1, 0, 0, 0, 0), some (.istore 6, 2, 0, 0, 0, 0), none, some (.iconst 0, 1, 0, 0, 0, 0), some (.istore 7, 2, 0, 0, 0, 0), none, some (.iconst 0, 1, 0, 0, 0, 0), some (.istore 8, 2, 0, 0, 0, 0), none, some (.iconst 0, 1, 0, 0, 0, 0), some (.istore 9, 2, 0, 0, 0, 0), none, some (.iload 9, 2, 0, 0, 0, 0), none, some (.aload_n 1, 1, 0, 0, 0, 0), some (.getfield 51, 3, 4, 0, 167, 0), none, none, some (.getfield 73, 3, 0, 3, 87, 0), none, none, some (.if_icmp .ge 78, 3, 0, 0, 0, 0), none, none, some (.aload_n 1, 1, 0, 0, 0, 0), some (.iload 9, 2, 0, 0, 0, 0), none, some (.iload_n 2, 1, 0, 0, 0, 0), some (.invokevirtual 76, 3, 39, 0, 589, 0), none, none, some (.ifCond .eq 14, 3, 0, 0, 0, 0), none, none, some (.iload 4, 2, 0, 0, 0, 0), none, some (.aload_n 1, 1, 0, 0, 0, 0), some (.iload 9, 2, 0, 0, 0, 0), none, some (.invokevirtual 80, 3, 34, 0, 590, 0), none, none, some (.iadd, 1, 0, 0, 0, 0), some (.istore 4, 2, 0, 0, 0, 0), none, some (.aload_n 1, 1, 0, 0, 0, 0), some (.getfield 51, 3, 4, 0, 167, 0), none, none, some (.getfield 83, 3, 0, 6, 95, 0), none, none, some (.iload 9, 2, 0, 0, 0, 0), none, some (.iaload, 1, 0, 0, 0, 0), some (.iload_n 2, 1, 0, 0, 0, 0), some (.if_icmp .ne 37, 3, 0, 0, 0, 0), none, none, some (.iload 7, 2, 0, 0, 0, 0), none, some (.istore 5, 2, 0, 0, 0, 0), none, some (.iload 8, 2, 0, 0, 0, 0), none, some (.istore 6, 2, 0, 0, 0, 0), none, some (.aload_n 1, 1, 0, 0, 0, 0), some (.aload_n 1, 1, 0, 0, 0, 0), some (.getfield 51, 3, 4, 0, 167, 0), none, none, some (.getfield 86, 3, 0, 7, 99, 0), none, none, some (.iload 9, 2, 0, 0, 0, 0), none, some (.iaload, 1, 0, 0, 0, 0), some (.invokevirtual 70, 3, 28, 0, 588, 0), none, none, some (.istore 7, 2, 0, 0, 0, 0), none, some (.iconst 2, 1, 0, 0, 0, 0), some (.aload_n 1, 1, 0, 0, 0, 0), some (.iload 9, 2, 0, 0, 0, 0), none, some (.invokevirtual 80, 3, 34, 0, 590, 0), none, none, some (.imul, 1, 0, 0, 0, 0), some (.istore 8, 2, 0, 0, 0, 0), none, some (.iinc 9 1, 3, 0, 0, 0, 0), none, none, some (.goto (-84), 3, 0, 0, 0, 0), none, none, some (.iconst 0, 1, 0, 0, 0, 0), some (.istore 9, 2, 0, 0, 0, 0), none, some (.iload 9, 2, 0, 0, 0, 0), none, some (.iload_n 3, 1, 0, 0, 0, 0), some (.if_icmp .ge 62, 3, 0, 0, 0, 0), none, none, some (.aload_n 0, 1, 0, 0, 0, 0), some (.getfield 9, 3, 2, 0, 203, 0), none, none, some (.iload 9, 2, 0, 0, 0, 0), none, some (.iaload, 1, 0, 0, 0, 0), some (.iload 4, 2, 0, 0, 0, 0), none, some (.iadd, 1, 0, 0, 0, 0), some (.istore 10, 2, 0, 0, 0, 0), none, some (.iload 9, 2, 0, 0, 0, 0), none, some (.iload 5, 2, 0, 0, 0, 0), none, some (.iand, 1, 0, 0, 0, 0), some (.ifCond .eq 10, 3, 0, 0, 0, 0), none, none, some (.iload 10, 2, 0, 0, 0, 0), none, some (.iload 6, 2, 0, 0, 0, 0), none, some (.isub, 1, 0, 0, 0, 0), some (.istore 10, 2, 0, 0, 0, 0), none, some (.iload 9, 2, 0, 0, 0, 0), none, some (.iload 7, 2, 0, 0, 0, 0), none, some (.iand, 1, 0, 0, 0, 0), some (.ifCond .eq 10, 3, 0, 0, 0, 0), none, none, some (.iload 10, 2, 0, 0, 0, 0), none, some (.iload 8, 2, 0, 0, 0, 0), none, some (.isub, 1, 0, 0, 0, 0), some (.istore 10, 2, 0, 0, 0, 0), none, some (.aload_n 0, 1, 0, 0, 0, 0), some (.getfield 9, 3, 2, 0, 203, 0), none, none, some (.iload_n 3, 1, 0, 0, 0, 0), some (.iload 9, 2, 0, 0, 0, 0), none, some (.iadd, 1, 0, 0, 0, 0), some (.iload 10, 2, 0, 0, 0, 0), none, some (.iastore, 1, 0, 0, 0, 0), some (.iinc 9 1, 3, 0, 0, 0, 0), none, none, some (.goto (-62), 3, 0, 0, 0, 0), none, none, some (.return_, 1, 0, 0, 0, 0)]
def ct_13 : List (Option mc_E) := [some (.iload_n 1, 1, 0, 0, 0, 0), some (.aload_n 0, 1, 0, 0, 0, 0), some (.getfield 32, 3, 2, 3, 207, 0), none, none, some (.iand, 1, 0, 0, 0, 0), some (.aload_n 0, 1, 0, 0, 0, 0), some (.getfield 44, 3, 2, 4, 208, 0), none, none, some (.if_icmp .ne 7, 3, 0, 0, 0, 0), none, none, some (.iconst 1, 1, 0, 0, 0, 0), some (.goto 4, 3, 0, 0, 0, 0), none, none, some (.iconst 0, 1, 0, 0, 0, 0), some (.ireturn, 1, 0, 0, 0, 0)]
def ct_14 : List (Option mc_E) := [some (.iconst 0, 1, 0, 0, 0, 0), some (.istore_n 2, 1, 0, 0, 0, 0), some (.iconst 0, 1, 0, 0, 0, 0), some (.istore_n 3, 1, 0, 0, 0, 0), some (.iload_n 3, 1, 0, 0, 0, 0), some (.aload_n 0, 1, 0, 0, 0, 0), some (.getfield 25, 3, 2, 2, 206, 0), none, none, some (.if_icmp .ge 30, 3, 0, 0, 0, 0), none, none, some (.aload_n 0, 1, 0, 0, 0, 0), some (.getfield 9, 3, 2, 0, 203, 0), none, none, some (.iload_n 3, 1, 0, 0, 0, 0), some (.iaload, 1, 0, 0, 0, 0), some (.iload_n 1, 1, 0, 0, 0, 0), some (.if_icmp .ne 14, 3, 0, 0, 0, 0), none, none, some (.aload_n 0, 1, 0, 0, 0, 0), some (.iload_n 3, 1, 0, 0, 0, 0), some (.invokevirtual 89, 3, 13, 0, 596, 0), none, none, some (.ifCond .eq 6, 3, 0, 0, 0, 0), none, none, some (.iinc 2 1, 3, 0, 0, 0, 0), none, none, some (.iinc 3 1, 3, 0, 0, 0, 0), none, none, some (.goto (-32), 3, 0, 0, 0, 0), none, none, some (.iload_n 2, 1, 0, 0, 0, 0), some (.ireturn, 1, 0, 0, 0, 0)]
def ct_15 : List (Option mc_E) := [some (.iconst 0, 1, 0, 0, 0, 0), some (.istore_n 3, 1, 0, 0, 0, 0), some (.iconst 0, 1, 0, 0, 0, 0), some (.istore 4, 2, 0, 0, 0, 0), none, some (.iload 4, 2, 0, 0, 0, 0), none, some (.aload_n 0, 1, 0, 0, 0, 0), some (.getfield 25, 3, 2, 2, 206, 0), none, none, some (.if_icmp .ge 40, 3, 0, 0, 0, 0), none, none, some (.aload_n 0, 1, 0, 0, 0, 0), some (.getfield 9, 3, 2, 0, 203, 0), none, none, some (.iload 4, 2, 0, 0, 0, 0), none, some (.iaload, 1, 0, 0, 0, 0), some (.iload_n 1, 1, 0, 0, 0, 0), some (.if_icmp .ne 23, 3, 0, 0, 0, 0), none, none, some (.aload_n 0, 1, 0, 0, 0, 0), some (.iload 4, 2, 0, 0, 0, 0), none, some (.invokevirtual 89, 3, 13, 0, 596, 0), none, none, some (.ifCond .eq 14, 3, 0, 0, 0, 0), none, none, some (.iload_n 3, 1, 0, 0, 0, 0), some (.iload_n 2, 1, 0, 0, 0, 0), some (.if_icmp .ne 6, 3, 0, 0, 0, 0), none, none, some (.iload 4, 2, 0, 0, 0, 0), none, some (.ireturn, 1, 0, 0, 0, 0), some (.iinc 3 1, 3, 0, 0, 0, 0), none, none, some (.iinc 4 1, 3, 0, 0, 0, 0), none, none, some (.goto (-43), 3, 0, 0, 0, 0), none, none, some (.bipush (-9), 2, 0, 0, 0, 0), none, some (.ireturn, 1, 0, 0, 0, 0)]
def ct_16 : List (Option mc_E) := [some (.ldc 93, 2, 0, 0, 595, 10000000), none, some (.istore_n 2, 1, 0, 0, 0, 0), some (.iconst 0, 1, 0, 0, 0, 0), some (.istore_n 3, 1, 0, 0, 0, 0), some (.iload_n 3, 1, 0, 0, 0, 0), some (.aload_n 0, 1, 0, 0, 0, 0), some (.getfield 25, 3, 2, 2, 206, 0), none, none, some (.if_icmp .ge 44, 3, 0, 0, 0, 0), none, none, some (.aload_n 0, 1, 0, 0, 0, 0), some (.getfield 9, 3, 2, 0, 203, 0), none, none, some (.iload_n 3, 1, 0, 0, 0, 0), some (.iaload, 1, 0, 0, 0, 0), some (.iload_n 1, 1, 0, 0, 0, 0), some (.if_icmp .le 28, 3, 0, 0, 0, 0), none, none, some (.aload_n 0, 1, 0, 0, 0, 0), some (.getfield 9, 3, 2, 0, 203, 0), none, none, some (.iload_n 3, 1, 0, 0, 0, 0), some (.iaload, 1, 0, 0, 0, 0), some (.iload_n 2, 1, 0, 0, 0, 0), some (.if_icmp .ge 18, 3, 0, 0, 0, 0), none, none, some (.aload_n 0, 1, 0, 0, 0, 0), some (.iload_n 3, 1, 0, 0, 0, 0), some (.invokevirtual 89, 3, 13, 0, 596, 0), none, none, some (.ifCond .eq 10, 3, 0, 0, 0, 0), none, none, some (.aload_n 0, 1, 0, 0, 0, 0), some (.getfield 9, 3, 2, 0, 203, 0), none, none, some (.iload_n 3, 1, 0, 0, 0, 0), some (.iaload, 1, 0, 0, 0, 0), some (.istore_n 2, 1, 0, 0, 0, 0), some (.iinc 3 1, 3, 0, 0, 0, 0), none, none, some (.goto (-46), 3, 0, 0, 0, 0), none, none, some (.iload_n 2, 1, 0, 0, 0, 0), some (.ldc 93, 2, 0, 0, 595, 10000000), none, some (.if_icmp .ne 8, 3, 0, 0, 0, 0), none, none, some (.bipush (-9), 2, 0, 0, 0, 0), none, some (.goto 4, 3, 0, 0, 0, 0), none, none, some (.iload_n 2, 1, 0, 0, 0, 0), some (.ireturn, 1, 0, 0, 0, 0)]
def ct_17 : List (Option mc_E) := [some (.iconst 0, 1, 0, 0, 0, 0), some (.istore_n 3, 1, 0, 0, 0, 0), some (.iconst 0, 1, 0, 0, 0, 0), some (.istore 4, 2, 0, 0, 0, 0), none, some (.iconst 0, 1, 0, 0, 0, 0), some (.istore 5, 2, 0, 0, 0, 0), none, some (.iload 5, 2, 0, 0, 0, 0), none, some (.aload_n 0, 1, 0, 0, 0, 0), some (.getfield 25, 3, 2, 2, 206, 0), none, none, some (.if_icmp .ge 86, 3, 0, 0, 0, 0), none, none, some (.aload_n 0, 1, 0, 0, 0, 0), some (.getfield 9, 3, 2, 0, 203, 0), none, none, some (.iload 5, 2, 0, 0, 0, 0), none, some (.iaload, 1, 0, 0, 0, 0), some (.aload_n 0, 1, 0, 0, 0, 0), some (.getfield 67, 3, 2, 5, 209, 0), none, none, some (.if_icmp .ne 66, 3, 0, 0, 0, 0), none, none, some (.aload_n 0, 1, 0, 0, 0, 0), some (.iload 5, 2, 0, 0, 0, 0), none, some (.invokevirtual 89, 3, 13, 0, 596, 0), none, none, some (.ifCond .eq 57, 3, 0, 0, 0, 0), none, none, some (.iload 5, 2, 0, 0, 0, 0), none, some (.iload_n 1, 1, 0, 0, 0, 0), some (.iand, 1, 0, 0, 0, 0), some (.ifCond .ne 7, 3, 0, 0, 0, 0), none, none, some (.iconst 1, 1, 0, 0, 0, 0), some (.goto 4, 3, 0, 0, 0, 0), none, none, some (.iconst 0, 1, 0, 0, 0, 0), some (.iload 5, 2, 0, 0, 0, 0), none, some (.iload_n 2, 1, 0, 0, 0, 0), some (.iand, 1, 0, 0, 0, 0), some (.ifCond .ne 7, 3, 0, 0, 0, 0), none, none, some (.iconst 1, 1, 0, 0, 0, 0), some (.goto 4, 3, 0, 0, 0, 0), none, none, some (.iconst 0, 1, 0, 0, 0, 0), some (.if_icmp .ne 7, 3, 0, 0, 0, 0), none, none, some (.iconst 1, 1, 0, 0, 0, 0), some (.goto 4, 3, 0, 0, 0, 0), none, none, some (.iconst 0, 1, 0, 0, 0, 0), some (.istore 6, 2, 0, 0, 0, 0), none, some (.iload_n 3, 1, 0, 0, 0, 0), some (.iload 6, 2, 0, 0, 0, 0), none, some (.ior, 1, 0, 0, 0, 0), some (.istore_n 3, 1, 0, 0, 0, 0), some (.iload 4, 2, 0, 0, 0, 0), none, some (.iload 6, 2, 0, 0, 0, 0), none, some (.ifCond .ne 7, 3, 0, 0, 0, 0), none, none, some (.iconst 1, 1, 0, 0, 0, 0), some (.goto 4, 3, 0, 0, 0, 0), none, none, some (.iconst 0, 1, 0, 0, 0, 0), some (.ior, 1, 0, 0, 0, 0), some (.istore 4, 2, 0, 0, 0, 0), none, some (.iinc 5 1, 3, 0, 0, 0, 0), none, none, some (.goto (-89), 3, 0, 0, 0, 0), none, none, some (.iload_n 3, 1, 0, 0, 0, 0), some (.iload 4, 2, 0, 0, 0, 0), none, some (.if_icmp .ne 5, 3, 0, 0, 0, 0), none, none, some (.iconst 0, 1, 0, 0, 0, 0), some (.ireturn, 1, 0, 0, 0, 0), some (.iload_n 3, 1, 0, 0, 0, 0), some (.ifCond .eq 7, 3, 0, 0, 0, 0), none, none, some (.iconst 1, 1, 0, 0, 0, 0), some (.goto 4, 3, 0, 0, 0, 0), none, none, some (.iconst (-1), 1, 0, 0, 0, 0), some (.ireturn, 1, 0, 0, 0, 0)]
def ct_18 : List (Option mc_E) := [some (.aload_n 0, 1, 0, 0, 0, 0), some (.invokespecial 3, 3, 999, 0, 229, 0), none, none, some (.aload_n 0, 1, 0, 0, 0, 0), some (.bipush 49, 2, 0, 0, 0, 0), none, some (.newarray .int, 2, 0, 0, 0, 0), none, some (.putfield 9, 3, 3, 0, 230, 0), none, none, some (.aload_n 0, 1, 0, 0, 0, 0), some (.sipush 128, 3, 0, 0, 0, 0), none, none, some (.newarray .int, 2, 0, 0, 0, 0), none, some (.putfield 15, 3, 3, 1, 231, 0), none, none, some (.return_, 1, 0, 0, 0, 0)]
def ct_19 : List (Option mc_E) := [some (.aload_n 0, 1, 0, 0, 0, 0), some (.getfield 9, 3, 3, 0, 230, 0), none, none, some (.iload_n 1, 1, 0, 0, 0, 0), some (.bipush 7, 2, 0, 0, 0, 0), none, some (.imul, 1, 0, 0, 0, 0), some (.iload_n 2, 1, 0, 0, 0, 0), some (.iadd, 1, 0, 0, 0, 0), some (.iaload, 1, 0, 0, 0, 0), some (.ireturn, 1, 0, 0, 0, 0)]
def ct_20 : List (Option mc_E) := [some (.aload_n 0, 1, 0, 0, 0, 0), some (.getfield 9, 3, 3, 0, 230, 0), none, none, some (.ldc 18, 2, 0, 0, 526, 10000000), none, some (.invokestatic 19, 3, 179, 0, 527, 0), none, none, some (.iconst 0, 1, 0, 0, 0, 0), some (.istore_n 2, 1, 0, 0, 0, 0), some (.iload_n 2, 1, 0, 0, 0, 0), some (.aload_n 1, 1, 0, 0, 0, 0), some (.getfield 25, 3, 4, 0, 168, 0), none, none, some (.getfield 31, 3, 0, 4, 91, 0), none, none, some (.if_icmp .ge 16, 3, 0, 0, 0, 0), none, none, some (.aload_n 0, 1, 0, 0, 0, 0), some (.iload_n 2, 1, 0, 0, 0, 0), some (.iload_n 2, 1, 0, 0, 0, 0), some (.iconst 0, 1, 0, 0, 0, 0), some (.invokevirtual 37, 3, 22, 0, 528, 0), none, none, some (.iinc 2 1, 3, 0, 0, 0, 0), none, none, some (.goto (-21), 3, 0, 0, 0, 0), none, none, some (.iconst 0, 1, 0, 0, 0, 0), some (.istore_n 2, 1, 0, 0, 0, 0), some (.iload_n 2, 1, 0, 0, 0, 0), some (.aload_n 1, 1, 0, 0, 0, 0), some (.getfield 25, 3, 4, 0, 168, 0), none, none, some (.getfield 41, 3, 0, 3, 88, 0), none, none, some (.if_icmp .ge 36, 3, 0, 0, 0, 0), none, none, some (.aload_n 0, 1, 0, 0, 0, 0), some (.aload_n 1, 1, 0, 0, 0, 0), some (.getfield 25, 3, 4, 0, 168, 0), none, none, some (.getfield 44, 3, 0, 8, 103, 0), none, none, some (.iload_n 2, 1, 0, 0, 0, 0), some (.iaload, 1, 0, 0, 0, 0), some (.aload_n 1, 1, 0, 0, 0, 0), some (.getfield 25, 3, 4, 0, 168, 0), none, none, some (.getfield 47, 3, 0, 9, 107, 0), none, none, some (.iload_n 2, 1, 0, 0, 0, 0), some (.iaload, 1, 0, 0, 0, 0), some (.aload_n 1, 1, 0, 0, 0, 0), some (.iload_n 2, 1, 0, 0, 0, 0), some (.invokevirtual 50, 3, 35, 0, 537, 0), none, none, some (.invokevirtual 37, 3, 22, 0, 528, 0), none, none, some (.iinc 2 1, 3, 0, 0, 0, 0), none, none, some (.goto (-41), 3, 0, 0, 0, 0), none, none, some (.iconst 0, 1, 0, 0, 0, 0), some (.istore_n 2, 1, 0, 0, 0, 0), some (.iload_n 2, 1, 0, 0, 0, 0), some (.aload_n 1, 1, 0, 0, 0, 0), some (.getfield 25, 3, 4, 0, 168, 0), none, none, some (.getfield 31, 3, 0, 4, 91, 0), none, none, some (.if_icmp .ge 21, 3, 0, 0, 0, 0), none, none, some (.aload_n 0, 1, 0, 0, 0, 0), some (.iload_n 2, 1, 0, 0, 0, 0), some (.aload_n 1, 1, 0, 0, 0, 0), some (.getfield 25, 3, 4, 0, 168, 0), none, none, some (.getfield 31, 3, 0, 4, 91, 0), none, none, some (.invokevirtual 54, 3, 21, 0, 538, 0), none, none, some (.iinc 2 1, 3, 0, 0, 0, 0), none, none, some (.goto (-26), 3, 0, 0, 0, 0), none, none, some (.return_, 1, 0, 0, 0, 0)]
def ct_21 : List (Option mc_E) := [some (.iconst 0, 1, 0, 0, 0, 0), some (.istore_n 3, 1, 0, 0, 0, 0), some (.iload_n 3, 1, 0, 0, 0, 0), some (.iload_n 2, 1, 0, 0, 0, 0), some (.if_icmp .ge 45, 3, 0, 0, 0, 0), none, none, some (.iconst 0, 1, 0, 0, 0, 0), some (.istore 4, 2, 0, 0, 0, 0), none, some (.iload 4, 2, 0, 0, 0, 0), none, some (.iload_n 3, 1, 0, 0, 0, 0), some (.if_icmp .ge 30, 3, 0, 0, 0, 0), none, none, some (.aload_n 0, 1, 0, 0, 0, 0), some (.iload_n 3, 1, 0, 0, 0, 0), some (.iload 4, 2, 0, 0, 0, 0), none, some (.aload_n 0, 1, 0, 0, 0, 0), some (.iload_n 3, 1, 0, 0, 0, 0), some (.iload_n 1, 1, 0, 0, 0, 0), some (.invokevirtual 58, 3, 19, 0, 532, 0), none, none, some (.aload_n 0, 1, 0, 0, 0, 0), some (.iload_n 1, 1, 0, 0, 0, 0), some (.iload 4, 2, 0, 0, 0, 0), none, some (.invokevirtual 58, 3, 19, 0, 532, 0), none, none, some (.iadd, 1, 0, 0, 0, 0), some (.invokevirtual 37, 3, 22, 0, 528, 0), none, none, some (.iinc 4 1, 3, 0, 0, 0, 0), none, none, some (.goto (-30), 3, 0, 0, 0, 0), none, none, some (.iinc 3 1, 3, 0, 0, 0, 0), none, none, some (.goto (-44), 3, 0, 0, 0, 0), none, none, some (.return_, 1, 0, 0, 0, 0)]
def ct_22 : List (Option mc_E) := [some (.aload_n 0, 1, 0, 0, 0, 0), some (.iload_n 1, 1, 0, 0, 0, 0), some (.iload_n 2, 1, 0, 0, 0, 0), some (.invokevirtual 58, 3, 19, 0, 532, 0), none, none, some (.iload_n 3, 1, 0, 0, 0, 0), some (.invokestatic 62, 3, 178, 0, 536, 0), none, none, some (.istore 4, 2, 0, 0, 0, 0), none, some (.aload_n 0, 1, 0, 0, 0, 0), some (.getfield 9, 3, 3, 0, 230, 0), none, none, some (.iload_n 1, 1, 0, 0, 0, 0), some (.bipush 7, 2, 0, 0, 0, 0), none, some (.imul, 1, 0, 0, 0, 0), some (.iload_n 2, 1, 0, 0, 0, 0), some (.iadd, 1, 0, 0, 0, 0), some (.iload 4, 2, 0, 0, 0, 0), none, some (.iastore, 1, 0, 0, 0, 0), some (.aload_n 0, 1, 0, 0, 0, 0), some (.getfield 9, 3, 3, 0, 230, 0), none, none, some (.iload_n 2, 1, 0, 0, 0, 0), some (.bipush 7, 2, 0, 0, 0, 0), none, some (.imul, 1, 0, 0, 0, 0), some (.iload_n 1, 1, 0, 0, 0, 0), some (.iadd, 1, 0, 0, 0, 0), some (.iload 4, 2, 0, 0, 0, 0), none, some (.iastore, 1, 0, 0, 0, 0), some (.return_, 1, 0, 0, 0, 0)]
def ct_23 : List (Option mc_E) := [some (.aload_n 0, 1, 0, 0, 0, 0), some (.getfield 15, 3, 3, 1, 231, 0), none, none, some (.iconst 0, 1, 0, 0, 0, 0), some (.iconst 0, 1, 0, 0, 0, 0), some (.iastore, 1, 0, 0, 0, 0), some (.iconst 1, 1, 0, 0, 0, 0), some (.istore_n 2, 1, 0, 0, 0, 0), some (.iload_n 2, 1, 0, 0, 0, 0), some (.iload_n 1, 1, 0, 0, 0, 0), some (.if_icmp .gt 37, 3, 0, 0, 0, 0), none, none, some (.iload_n 2, 1, 0, 0, 0, 0), some (.iload_n 1, 1, 0, 0, 0, 0), some (.iconst (-1), 1, 0, 0, 0, 0), some (.ixor, 1, 0, 0, 0, 0), some (.iand, 1, 0, 0, 0, 0), some (.ifCond .ne 23, 3, 0, 0, 0, 0), none, none, some (.iload_n 2, 1, 0, 0, 0, 0), some (.invokestatic 67, 3, 175, 0, 551, 0), none, none, some (.iconst 2, 1, 0, 0, 0, 0), some (.irem, 1, 0, 0, 0, 0), some (.ifCond .ne 14, 3, 0, 0, 0, 0), none, none, some (.aload_n 0, 1, 0, 0, 0, 0), some (.getfield 15, 3, 3, 1, 231, 0), none, none, some (.iload_n 2, 1, 0, 0, 0, 0), some (.aload_n 0, 1, 0, 0, 0, 0), some (.iload_n 2, 1, 0, 0, 0, 0), some (.invokevirtual 72, 3, 24, 0, 557, 0), none, none, some (.iastore, 1, 0, 0, 0, 0), some (.iinc 2 1, 3, 0, 0, 0, 0), none, none, some (.goto (-36), 3, 0, 0, 0, 0), none, none, some (.aload_n 0, 1, 0, 0, 0, 0), some (.getfield 15, 3, 3, 1, 231, 0), none, none, some (.iload_n 1, 1, 0, 0, 0, 0), some (.iaload, 1, 0, 0, 0, 0), some (.ireturn, 1, 0, 0, 0, 0)]
def ct_24 : List (Option mc_E) := [some (.iload_n 1, 1, 0, 0, 0, 0), some (.invokestatic 75, 3, 25, 0, 561, 0), none, none, some (.istore_n 2, 1, 0, 0, 0, 0), some (.ldc 18, 2, 0, 0, 526, 10000000), none, some (.istore_n 3, 1, 0, 0, 0, 0), some (.iload_n 2, 1, 0, 0, 0, 0), some (.iconst 1, 1, 0, 0, 0, 0), some (.iadd, 1, 0, 0, 0, 0), some (.istore 4, 2, 0, 0, 0, 0), none, some (.iload 4, 2, 0, 0, 0, 0), none, some (.bipush 7, 2, 0, 0, 0, 0), none, some (.if_icmp .ge 51, 3, 0, 0, 0, 0), none, none, some (.iload_n 1, 1, 0, 0, 0, 0), some (.iload 4, 2, 0, 0, 0, 0), none, some (.ishr, 1, 0, 0, 0, 0), some (.iconst 1, 1, 0, 0, 0, 0), some (.iand, 1, 0, 0, 0, 0), some (.iconst 1, 1, 0, 0, 0, 0), some (.if_icmp .ne 35, 3, 0, 0, 0, 0), none, none, some (.iload_n 1, 1, 0, 0, 0, 0), some (.iconst 1, 1, 0, 0, 0, 0), some (.iload_n 2, 1, 0, 0, 0, 0), some (.ishl, 1, 0, 0, 0, 0), some (.ixor, 1, 0, 0, 0, 0), some (.iconst 1, 1, 0, 0, 0, 0), some (.iload 4, 2, 0, 0, 0, 0), none, some (.ishl, 1, 0, 0, 0, 0), some (.ixor, 1, 0, 0, 0, 0), some (.istore 5, 2, 0, 0, 0, 0), none, some (.iload_n 3, 1, 0, 0, 0, 0), some (.aload_n 0, 1, 0, 0, 0, 0), some (.iload_n 2, 1, 0, 0, 0, 0), some (.iload 4, 2, 0, 0, 0, 0), none, some (.invokevirtual 58, 3, 19, 0, 532, 0), none, none, some (.aload_n 0, 1, 0, 0, 0, 0), some (.getfield 15, 3, 3, 1, 231, 0), none, none, some (.iload 5, 2, 0, 0, 0, 0), none, some (.iaload, 1, 0, 0, 0, 0), some (.iadd, 1, 0, 0, 0, 0), some (.invokestatic 62, 3, 178, 0, 536, 0), none, none, some (.istore_n 3, 1, 0, 0, 0, 0), some (.iinc 4 1, 3, 0, 0, 0, 0), none, none, some (.goto (-52), 3, 0, 0, 0, 0), none, none, some (.iload_n 3, 1, 0, 0, 0, 0), some (.ireturn, 1, 0, 0, 0, 0)]
def ct_25 : List (Option mc_E) := [some (.iconst 0, 1, 0, 0, 0, 0), some (.istore_n 1, 1, 0, 0, 0, 0), some (.iload_n 1, 1, 0, 0, 0, 0), some (.bipush 6, 2, 0, 0, 0, 0), none, some (.if_icmp .ge 17, 3, 0, 0, 0, 0), none, none, some (.iload_n 0, 1, 0, 0, 0, 0), some (.iload_n 1, 1, 0, 0, 0, 0), some (.ishr, 1, 0, 0, 0, 0), some (.iconst 1, 1, 0, 0, 0, 0), some (.iand, 1, 0, 0, 0, 0), some (.ifCond .ne 9, 3, 0, 0, 0, 0), none, none, some (.iinc 1 1, 3, 0, 0, 0, 0), none, none, some (.goto (-17), 3, 0, 0, 0, 0), none, none, some (.iload_n 1, 1, 0, 0, 0, 0), some (.ireturn, 1, 0, 0, 0, 0)]
def ct_26 : List (Option mc_E) := [some (.aload_n 0, 1, 0, 0, 0, 0), some (.invokespecial 3, 3, 999, 0, 70, 0), none, none, some (.aload_n 0, 1, 0, 0, 0, 0), some (.new 9, 3, 0, 0, 71, 0), none, none, some (.dup, 1, 0, 0, 0, 0), some (.invokespecial 11, 3, 0, 1, 73, 0), none, none, some (.putfield 12, 3, 4, 0, 165, 0), none, none, some (.aload_n 0, 1, 0, 0, 0, 0), some (.new 18, 3, 5, 0, 132, 0), none, none, some (.dup, 1, 0, 0, 0, 0), some (.invokespecial 20, 3, 45, 1, 134, 0), none, none, some (.putfield 21, 3, 4, 1, 169, 0), none, none, some (.return_, 1, 0, 0, 0, 0)]
def ct_27 : List (Option mc_E) := [some (.iconst 1, 1, 0, 0, 0, 0), some (.aload_n 0, 1, 0, 0, 0, 0), some (.getfield 12, 3, 4, 0, 165, 0), none, none, some (.getfield 25, 3, 0, 2, 81, 0), none, none, some (.ishl, 1, 0, 0, 0, 0), some (.ireturn, 1, 0, 0, 0, 0)]
def ct_28 : List (Option mc_E) := [some (.iconst 1, 1, 0, 0, 0, 0), some (.aload_n 0, 1, 0, 0, 0, 0), some (.getfield 12, 3, 4, 0, 165, 0), none, none, some (.getfield 25, 3, 0, 2, 81, 0), none, none, some (.iconst 1, 1, 0, 0, 0, 0), some (.isub, 1, 0, 0, 0, 0), some (.iload_n 1, 1, 0, 0, 0, 0), some (.isub, 1, 0, 0, 0, 0), some (.ishl, 1, 0, 0, 0, 0), some (.ireturn, 1, 0, 0, 0, 0)]
def ct_29 : List (Option mc_E) := [some (.iload_n 1, 1, 0, 0, 0, 0), some (.aload_n 0, 1, 0, 0, 0, 0), some (.getfield 12, 3, 4, 0, 165, 0), none, none, some (.getfield 25, 3, 0, 2, 81, 0), none, none, some (.iconst 1, 1, 0, 0, 0, 0), some (.isub, 1, 0, 0, 0, 0), some (.iload_n 2, 1, 0, 0, 0, 0), some (.isub, 1, 0, 0, 0, 0), some (.ishr, 1, 0, 0, 0, 0), some (.iconst 1, 1, 0, 0, 0, 0), some (.iand, 1, 0, 0, 0, 0), some (.ireturn, 1, 0, 0, 0, 0)]
def ct_30 : List (Option mc_E) := [some (.iload_n 3, 1, 0, 0, 0, 0), some (.ifCond .eq 13, 3, 0, 0, 0, 0), none, none, some (.iload_n 1, 1, 0, 0, 0, 0), some (.aload_n 0, 1, 0, 0, 0, 0), some (.iload_n 2, 1, 0, 0, 0, 0), some (.invokevirtual 29, 3, 28, 0, 362, 0), none, none, some (.ior, 1, 0, 0, 0, 0), some (.goto 12, 3, 0, 0, 0, 0), none, none, some (.iload_n 1, 1, 0, 0, 0, 0), some (.aload_n 0, 1, 0, 0, 0, 0), some (.iload_n 2, 1, 0, 0, 0, 0), some (.invokevirtual 29, 3, 28, 0, 362, 0), none, none, some (.iconst (-1), 1, 0, 0, 0, 0), some (.ixor, 1, 0, 0, 0, 0), some (.iand, 1, 0, 0, 0, 0), some (.ireturn, 1, 0, 0, 0, 0)]
def ct_31 : List (Option mc_E) := [some (.aload_n 0, 1, 0, 0, 0, 0), some (.getfield 21, 3, 4, 1, 169, 0), none, none, some (.getfield 33, 3, 5, 3, 150, 0), none, none, some (.iload_n 1, 1, 0, 0, 0, 0), some (.iaload, 1, 0, 0, 0, 0), some (.istore_n 2, 1, 0, 0, 0, 0), some (.iload_n 2, 1, 0, 0, 0, 0), some (.iconst 1, 1, 0, 0, 0, 0), some (.if_icmp .eq 23, 3, 0, 0, 0, 0), none, none, some (.iload_n 2, 1, 0, 0, 0, 0), some (.iconst 4, 1, 0, 0, 0, 0), some (.if_icmp .ne 22, 3, 0, 0, 0, 0), none, none, some (.aload_n 0, 1, 0, 0, 0, 0), some (.aload_n 0, 1, 0, 0, 0, 0), some (.getfield 21, 3, 4, 1, 169, 0), none, none, some (.getfield 37, 3, 5, 2, 147, 0), none, none, some (.iload_n 1, 1, 0, 0, 0, 0), some (.invokevirtual 40, 3, 29, 0, 380, 0), none, none, some (.ifCond .ne 7, 3, 0, 0, 0, 0), none, none, some (.iconst 1, 1, 0, 0, 0, 0), some (.goto 4, 3, 0, 0, 0, 0), none, none, some (.iconst 0, 1, 0, 0, 0, 0), some (.ireturn, 1, 0, 0, 0, 0)]
def ct_32 : List (Option mc_E) := [some (.iconst 0, 1, 0, 0, 0, 0), some (.istore_n 1, 1, 0, 0, 0, 0), some (.iconst 0, 1, 0, 0, 0, 0), some (.istore_n 2, 1, 0, 0, 0, 0), some (.iload_n 2, 1, 0, 0, 0, 0), some (.aload_n 0, 1, 0, 0, 0, 0), some (.getfield 12, 3, 4, 0, 165, 0), none, none, some (.getfield 25, 3, 0, 2, 81, 0), none, none, some (.if_icmp .ge 21, 3, 0, 0, 0, 0), none, none, some (.aload_n 0, 1, 0, 0, 0, 0), some (.iload_n 1, 1, 0, 0, 0, 0), some (.iload_n 2, 1, 0, 0, 0, 0), some (.aload_n 0, 1, 0, 0, 0, 0), some (.iload_n 2, 1, 0, 0, 0, 0), some (.invokevirtual 44, 3, 31, 0, 376, 0), none, none, some (.invokevirtual 48, 3, 30, 0, 389, 0), none, none, some (.istore_n 1, 1, 0, 0, 0, 0), some (.iinc 2 1, 3, 0, 0, 0, 0), none, none, some (.goto (-26), 3, 0, 0, 0, 0), none, none, some (.iload_n 1, 1, 0, 0, 0, 0), some (.ireturn, 1, 0, 0, 0, 0)]
def ct_33 : List (Option mc_E) := [some (.aload_n 0, 1, 0, 0, 0, 0), some (.invokevirtual 52, 3, 32, 0, 385, 0), none, none, some (.istore_n 1, 1, 0, 0, 0, 0), some (.aload_n 0, 1, 0, 0, 0, 0), some (.getfield 21, 3, 4, 1, 169, 0), none, none, some (.getfield 56, 3, 5, 0, 139, 0), none, none, some (.iload_n 1, 1, 0, 0, 0, 0), some (.iconst (-1), 1, 0, 0, 0, 0), some (.ixor, 1, 0, 0, 0, 0), some (.iand, 1, 0, 0, 0, 0), some (.aload_n 0, 1, 0, 0, 0, 0), some (.getfield 21, 3, 4, 1, 169, 0), none, none, some (.getfield 59, 3, 5, 1, 144, 0), none, none, some (.iload_n 1, 1, 0, 0, 0, 0), some (.iand, 1, 0, 0, 0, 0), some (.ior, 1, 0, 0, 0, 0), some (.ireturn, 1, 0, 0, 0, 0)]
def ct_34 : List (Option mc_E) := [some (.aload_n 0, 1, 0, 0, 0, 0), some (.getfield 21, 3, 4, 1, 169, 0), none, none, some (.getfield 33, 3, 5, 3, 150, 0), none, none, some (.aload_n 0, 1, 0, 0, 0, 0), some (.getfield 12, 3, 4, 0, 165, 0), none, none, some (.getfield 62, 3, 0, 6, 96, 0), none, none, some (.iload_n 1, 1, 0, 0, 0, 0), some (.iaload, 1, 0, 0, 0, 0), some (.iaload, 1, 0, 0, 0, 0), some (.istore_n 2, 1, 0, 0, 0, 0), some (.aload_n 0, 1, 0, 0, 0, 0), some (.getfield 21, 3, 4, 1, 169, 0), none, none, some (.getfield 33, 3, 5, 3, 150, 0), none, none, some (.aload_n 0, 1, 0, 0, 0, 0), some (.getfield 12, 3, 4, 0, 165, 0), none, none, some (.getfield 65, 3, 0, 7, 100, 0), none, none, some (.iload_n 1, 1, 0, 0, 0, 0), some (.iaload, 1, 0, 0, 0, 0), some (.iaload, 1, 0, 0, 0, 0), some (.istore_n 3, 1, 0, 0, 0, 0), some (.aload_n 0, 1, 0, 0, 0, 0), some (.getfield 21, 3, 4, 1, 169, 0), none, none, some (.getfield 68, 3, 5, 4, 153, 0), none, none, some (.iload_n 1, 1, 0, 0, 0, 0), some (.iaload, 1, 0, 0, 0, 0), some (.getstatic 71, 3, 0, 1, 402, 0), none, none, some (.iload_n 2, 1, 0, 0, 0, 0), some (.iaload, 1, 0, 0, 0, 0), some (.imul, 1, 0, 0, 0, 0), some (.getstatic 71, 3, 0, 1, 402, 0), none, none, some (.iload_n 3, 1, 0, 0, 0, 0), some (.iaload, 1, 0, 0, 0, 0), some (.imul, 1, 0, 0, 0, 0), some (.ireturn, 1, 0, 0, 0, 0)]
def ct_35 : List (Option mc_E) := [some (.aload_n 0, 1, 0, 0, 0, 0), some (.iload_n 1, 1, 0, 0, 0, 0), some (.invokevirtual 74, 3, 34, 0, 398, 0), none, none, some (.invokestatic 77, 3, 176, 0, 408, 0), none, none, some (.ireturn, 1, 0, 0, 0, 0)]
def ct_36 : List (Option mc_E) := [some (.aload_n 0, 1, 0, 0, 0, 0), some (.iload_n 2, 1, 0, 0, 0, 0), some (.aload_n 0, 1, 0, 0, 0, 0), some (.getfield 12, 3, 4, 0, 165, 0), none, none, some (.getfield 62, 3, 0, 6, 96, 0), none, none, some (.iload_n 1, 1, 0, 0, 0, 0), some (.iaload, 1, 0, 0, 0, 0), some (.invokevirtual 40, 3, 29, 0, 380, 0), none, none, some (.aload_n 0, 1, 0, 0, 0, 0), some (.iload_n 2, 1, 0, 0, 0, 0), some (.aload_n 0, 1, 0, 0, 0, 0), some (.getfield 12, 3, 4, 0, 165, 0), none, none, some (.getfield 65, 3, 0, 7, 100, 0), none, none, some (.iload_n 1, 1, 0, 0, 0, 0), some (.iaload, 1, 0, 0, 0, 0), some (.invokevirtual 40, 3, 29, 0, 380, 0), none, none, some (.if_icmp .ne 7, 3, 0, 0, 0, 0), none, none, some (.iconst 1, 1, 0, 0, 0, 0), some (.goto 4, 3, 0, 0, 0, 0), none, none, some (.iconst 0, 1, 0, 0, 0, 0), some (.istore_n 3, 1, 0, 0, 0, 0), some (.aload_n 0, 1, 0, 0, 0, 0), some (.iload_n 1, 1, 0, 0, 0, 0), some (.invokevirtual 74, 3, 34, 0, 398, 0), none, none, some (.istore 4, 2, 0, 0, 0, 0), none, some (.iload_n 3, 1, 0, 0, 0, 0), some (.ifCond .eq 16, 3, 0, 0, 0, 0), none, none, some (.iload 4, 2, 0, 0, 0, 0), none, some (.ifCond .ge 7, 3, 0, 0, 0, 0), none, none, some (.iconst 1, 1, 0, 0, 0, 0), some (.goto 17, 3, 0, 0, 0, 0), none, none, some (.iconst 0, 1, 0, 0, 0, 0), some (.goto 13, 3, 0, 0, 0, 0), none, none, some (.iload 4, 2, 0, 0, 0, 0), none, some (.ifCond .le 7, 3, 0, 0, 0, 0), none, none, some (.iconst 1, 1, 0, 0, 0, 0), some (.goto 4, 3, 0, 0, 0, 0), none, none, some (.iconst 0, 1, 0, 0, 0, 0), some (.ireturn, 1, 0, 0, 0, 0)]
def ct_37 : List (Option mc_E) := [some (.iconst 0, 1, 0, 0, 0, 0), some (.istore_n 2, 1, 0, 0, 0, 0), some (.iconst 0, 1, 0, 0, 0, 0), some (.istore_n 3, 1, 0, 0, 0, 0), some (.iload_n 3, 1, 0, 0, 0, 0), some (.aload_n 0, 1, 0, 0, 0, 0), some (.getfield 12, 3, 4, 0, 165, 0), none, none, some (.getfield 82, 3, 0, 3, 89, 0), none, none, some (.if_icmp .ge 26, 3, 0, 0, 0, 0), none, none, some (.aload_n 0, 1, 0, 0, 0, 0), some (.iload_n 3, 1, 0, 0, 0, 0), some (.iload_n 1, 1, 0, 0, 0, 0), some (.invokevirtual 85, 3, 36, 0, 394, 0), none, none, some (.ifCond .eq 11, 3, 0, 0, 0, 0), none, none, some (.iload_n 2, 1, 0, 0, 0, 0), some (.aload_n 0, 1, 0, 0, 0, 0), some (.iload_n 3, 1, 0, 0, 0, 0), some (.invokevirtual 89, 3, 35, 0, 404, 0), none, none, some (.iadd, 1, 0, 0, 0, 0), some (.istore_n 2, 1, 0, 0, 0, 0), some (.iinc 3 1, 3, 0, 0, 0, 0), none, none, some (.goto (-31), 3, 0, 0, 0, 0), none, none, some (.iload_n 2, 1, 0, 0, 0, 0), some (.ireturn, 1, 0, 0, 0, 0)]
def ct_38 : List (Option mc_E) := [some (.aload_n 0, 1, 0, 0, 0, 0), some (.aload_n 0, 1, 0, 0, 0, 0), some (.invokevirtual 92, 3, 33, 0, 381, 0), none, none, some (.invokevirtual 95, 3, 37, 0, 423, 0), none, none, some (.ireturn, 1, 0, 0, 0, 0)]
def ct_39 : List (Option mc_E) := [some (.aload_n 0, 1, 0, 0, 0, 0), some (.getfield 12, 3, 4, 0, 165, 0), none, none, some (.getfield 62, 3, 0, 6, 96, 0), none, none, some (.iload_n 1, 1, 0, 0, 0, 0), some (.iaload, 1, 0, 0, 0, 0), some (.iload_n 2, 1, 0, 0, 0, 0), some (.if_icmp .eq 16, 3, 0, 0, 0, 0), none, none, some (.aload_n 0, 1, 0, 0, 0, 0), some (.getfield 12, 3, 4, 0, 165, 0), none, none, some (.getfield 65, 3, 0, 7, 100, 0), none, none, some (.iload_n 1, 1, 0, 0, 0, 0), some (.iaload, 1, 0, 0, 0, 0), some (.iload_n 2, 1, 0, 0, 0, 0), some (.if_icmp .ne 7, 3, 0, 0, 0, 0), none, none, some (.iconst 1, 1, 0, 0, 0, 0), some (.goto 4, 3, 0, 0, 0, 0), none, none, some (.iconst 0, 1, 0, 0, 0, 0), some (.ireturn, 1, 0, 0, 0, 0)]
def ct_40 : List (Option mc_E) := [some (.aload_n 0, 1, 0, 0, 0, 0), some (.iload_n 1, 1, 0, 0, 0, 0), some (.invokevirtual 44, 3, 31, 0, 376, 0), none, none, some (.ifCond .eq 5, 3, 0, 0, 0, 0), none, none, some (.iconst 0, 1, 0, 0, 0, 0), some (.ireturn, 1, 0, 0, 0, 0), some (.aload_n 0, 1, 0, 0, 0, 0), some (.invokevirtual 92, 3, 33, 0, 381, 0), none, none, some (.istore_n 2, 1, 0, 0, 0, 0), some (.iconst 0, 1, 0, 0, 0, 0), some (.istore_n 3, 1, 0, 0, 0, 0), some (.iconst 0, 1, 0, 0, 0, 0), some (.istore 4, 2, 0, 0, 0, 0), none, some (.iload 4, 2, 0, 0, 0, 0), none, some (.aload_n 0, 1, 0, 0, 0, 0), some (.getfield 12, 3, 4, 0, 165, 0), none, none, some (.getfield 82, 3, 0, 3, 89, 0), none, none, some (.if_icmp .ge 48, 3, 0, 0, 0, 0), none, none, some (.aload_n 0, 1, 0, 0, 0, 0), some (.iload 4, 2, 0, 0, 0, 0), none, some (.iload_n 1, 1, 0, 0, 0, 0), some (.invokevirtual 98, 3, 39, 0, 390, 0), none, none, some (.ifCond .eq 32, 3, 0, 0, 0, 0), none, none, some (.iload_n 3, 1, 0, 0, 0, 0), some (.aload_n 0, 1, 0, 0, 0, 0), some (.iload 4, 2, 0, 0, 0, 0), none, some (.iload_n 2, 1, 0, 0, 0, 0), some (.invokevirtual 85, 3, 36, 0, 394, 0), none, none, some (.ifCond .eq 13, 3, 0, 0, 0, 0), none, none, some (.aload_n 0, 1, 0, 0, 0, 0), some (.iload 4, 2, 0, 0, 0, 0), none, some (.invokevirtual 89, 3, 35, 0, 404, 0), none, none, some (.ineg, 1, 0, 0, 0, 0), some (.goto 9, 3, 0, 0, 0, 0), none, none, some (.aload_n 0, 1, 0, 0, 0, 0), some (.iload 4, 2, 0, 0, 0, 0), none, some (.invokevirtual 89, 3, 35, 0, 404, 0), none, none, some (.iadd, 1, 0, 0, 0, 0), some (.istore_n 3, 1, 0, 0, 0, 0), some (.iinc 4 1, 3, 0, 0, 0, 0), none, none, some (.goto (-54), 3, 0, 0, 0, 0), none, none, some (.iload_n 3, 1, 0, 0, 0, 0), some (.ireturn, 1, 0, 0, 0, 0)]
def ct_41 : List (Option mc_E) := [some (.iconst 0, 1, 0, 0, 0, 0), some (.istore_n 1, 1, 0, 0, 0, 0), some (.iload_n 1, 1, 0, 0, 0, 0), some (.aload_n 0, 1, 0, 0, 0, 0), some (.getfield 12, 3, 4, 0, 165, 0), none, none, some (.getfield 25, 3, 0, 2, 81, 0), none, none, some (.if_icmp .ge 19, 3, 0, 0, 0, 0), none, none, some (.aload_n 0, 1, 0, 0, 0, 0), some (.iload_n 1, 1, 0, 0, 0, 0), some (.invokevirtual 101, 3, 40, 0, 463, 0), none, none, some (.ifCond .ge 5, 3, 0, 0, 0, 0), none, none, some (.iload_n 1, 1, 0, 0, 0, 0), some (.ireturn, 1, 0, 0, 0, 0), some (.iinc 1 1, 3, 0, 0, 0, 0), none, none, some (.goto (-24), 3, 0, 0, 0, 0), none, none, some (.bipush (-9), 2, 0, 0, 0, 0), none, some (.ireturn, 1, 0, 0, 0, 0)]
def ct_42 : List (Option mc_E) := [some (.aload_n 0, 1, 0, 0, 0, 0), some (.getfield 21, 3, 4, 1, 169, 0), none, none, some (.dup, 1, 0, 0, 0, 0), some (.getfield 56, 3, 5, 0, 139, 0), none, none, some (.aload_n 0, 1, 0, 0, 0, 0), some (.iload_n 1, 1, 0, 0, 0, 0), some (.invokevirtual 29, 3, 28, 0, 362, 0), none, none, some (.ixor, 1, 0, 0, 0, 0), some (.putfield 56, 3, 5, 0, 139, 0), none, none, some (.return_, 1, 0, 0, 0, 0)]
def ct_43 : List (Option mc_E) := [some (.iconst 0, 1, 0, 0, 0, 0), some (.istore_n 2, 1, 0, 0, 0, 0), some (.iload_n 2, 1, 0, 0, 0, 0), some (.aload_n 0, 1, 0, 0, 0, 0), some (.getfield 12, 3, 4, 0, 165, 0), none, none, some (.getfield 82, 3, 0, 3, 89, 0), none, none, some (.if_icmp .ge 37, 3, 0, 0, 0, 0), none, none, some (.aload_n 0, 1, 0, 0, 0, 0), some (.iload_n 2, 1, 0, 0, 0, 0), some (.iload_n 1, 1, 0, 0, 0, 0), some (.invokevirtual 98, 3, 39, 0, 390, 0), none, none, some (.ifCond .eq 22, 3, 0, 0, 0, 0), none, none, some (.aload_n 0, 1, 0, 0, 0, 0), some (.getfield 21, 3, 4, 1, 169, 0), none, none, some (.getfield 68, 3, 5, 4, 153, 0), none, none, some (.iload_n 2, 1, 0, 0, 0, 0), some (.aload_n 0, 1, 0, 0, 0, 0), some (.getfield 21, 3, 4, 1, 169, 0), none, none, some (.getfield 68, 3, 5, 4, 153, 0), none, none, some (.iload_n 2, 1, 0, 0, 0, 0), some (.iaload, 1, 0, 0, 0, 0), some (.ineg, 1, 0, 0, 0, 0), some (.iastore, 1, 0, 0, 0, 0), some (.iinc 2 1, 3, 0, 0, 0, 0), none, none, some (.goto (-42), 3, 0, 0, 0, 0), none, none, some (.return_, 1, 0, 0, 0, 0)]
def ct_44 : List (Option mc_E) := [some (.iconst 0, 1, 0, 0, 0, 0), some (.istore_n 1, 1, 0, 0, 0, 0), some (.iconst 0, 1, 0, 0, 0, 0), some (.istore_n 2, 1, 0, 0, 0, 0), some (.iload_n 2, 1, 0, 0, 0, 0), some (.aload_n 0, 1, 0, 0, 0, 0), some (.getfield 12, 3, 4, 0, 165, 0), none, none, some (.getfield 82, 3, 0, 3, 89, 0), none, none, some (.if_icmp .ge 45, 3, 0, 0, 0, 0), none, none, some (.aload_n 0, 1, 0, 0, 0, 0), some (.iload_n 2, 1, 0, 0, 0, 0), some (.invokevirtual 74, 3, 34, 0, 398, 0), none, none, some (.ifCond .ge 31, 3, 0, 0, 0, 0), none, none, some (.iload_n 1, 1, 0, 0, 0, 0), some (.iconst 1, 1, 0, 0, 0, 0), some (.aload_n 0, 1, 0, 0, 0, 0), some (.getfield 12, 3, 4, 0, 165, 0), none, none, some (.getfield 104, 3, 0, 8, 105, 0), none, none, some (.iload_n 2, 1, 0, 0, 0, 0), some (.iaload, 1, 0, 0, 0, 0), some (.ishl, 1, 0, 0, 0, 0), some (.ixor, 1, 0, 0, 0, 0), some (.istore_n 1, 1, 0, 0, 0, 0), some (.iload_n 1, 1, 0, 0, 0, 0), some (.iconst 1, 1, 0, 0, 0, 0), some (.aload_n 0, 1, 0, 0, 0, 0), some (.getfield 12, 3, 4, 0, 165, 0), none, none, some (.getfield 107, 3, 0, 9, 109, 0), none, none, some (.iload_n 2, 1, 0, 0, 0, 0), some (.iaload, 1, 0, 0, 0, 0), some (.ishl, 1, 0, 0, 0, 0), some (.ixor, 1, 0, 0, 0, 0), some (.istore_n 1, 1, 0, 0, 0, 0), some (.iinc 2 1, 3, 0, 0, 0, 0), none, none, some (.goto (-50), 3, 0, 0, 0, 0), none, none, some (.iload_n 1, 1, 0, 0, 0, 0), some (.ireturn, 1, 0, 0, 0, 0)]
def ct_45 : List (Option mc_E) := [some (.aload_n 0, 1, 0, 0, 0, 0), some (.invokespecial 3, 3, 999, 0, 137, 0), none, none, some (.aload_n 0, 1, 0, 0, 0, 0), some (.bipush 12, 2, 0, 0, 0, 0), none, some (.newarray .int, 2, 0, 0, 0, 0), none, some (.putfield 9, 3, 5, 3, 148, 0), none, none, some (.aload_n 0, 1, 0, 0, 0, 0), some (.bipush 17, 2, 0, 0, 0, 0), none, some (.newarray .int, 2, 0, 0, 0, 0), none, some (.putfield 15, 3, 5, 4, 151, 0), none, none, some (.return_, 1, 0, 0, 0, 0)]
def ct_46 : List (Option mc_E) := [some (.aload_n 0, 1, 0, 0, 0, 0), some (.iconst 0, 1, 0, 0, 0, 0), some (.putfield 18, 3, 5, 0, 138, 0), none, none, some (.aload_n 0, 1, 0, 0, 0, 0), some (.iconst 0, 1, 0, 0, 0, 0), some (.putfield 22, 3, 5, 1, 141, 0), none, none, some (.aload_n 0, 1, 0, 0, 0, 0), some (.iconst 0, 1, 0, 0, 0, 0), some (.putfield 25, 3, 5, 2, 145, 0), none, none, some (.aload_n 0, 1, 0, 0, 0, 0), some (.getfield 9, 3, 5, 3, 148, 0), none, none, some (.iconst 0, 1, 0, 0, 0, 0), some (.invokestatic 28, 3, 179, 0, 311, 0), none, none, some (.aload_n 0, 1, 0, 0, 0, 0), some (.getfield 15, 3, 5, 4, 151, 0), none, none, some (.iconst 0, 1, 0, 0, 0, 0), some (.invokestatic 28, 3, 179, 0, 311, 0), none, none, some (.return_, 1, 0, 0, 0, 0)]
def ct_47 : List (Option mc_E) := [some (.aload_n 0, 1, 0, 0, 0, 0), some (.aload_n 1, 1, 0, 0, 0, 0), some (.getfield 18, 3, 5, 0, 138, 0), none, none, some (.putfield 18, 3, 5, 0, 138, 0), none, none, some (.aload_n 0, 1, 0, 0, 0, 0), some (.aload_n 1, 1, 0, 0, 0, 0), some (.getfield 22, 3, 5, 1, 141, 0), none, none, some (.putfield 22, 3, 5, 1, 141, 0), none, none, some (.aload_n 0, 1, 0, 0, 0, 0), some (.aload_n 1, 1, 0, 0, 0, 0), some (.getfield 25, 3, 5, 2, 145, 0), none, none, some (.putfield 25, 3, 5, 2, 145, 0), none, none, some (.aload_n 1, 1, 0, 0, 0, 0), some (.getfield 9, 3, 5, 3, 148, 0), none, none, some (.iconst 0, 1, 0, 0, 0, 0), some (.aload_n 0, 1, 0, 0, 0, 0), some (.getfield 9, 3, 5, 3, 148, 0), none, none, some (.iconst 0, 1, 0, 0, 0, 0), some (.bipush 12, 2, 0, 0, 0, 0), none, some (.invokestatic 34, 3, 998, 0, 342, 0), none, none, some (.aload_n 1, 1, 0, 0, 0, 0), some (.getfield 15, 3, 5, 4, 151, 0), none, none, some (.iconst 0, 1, 0, 0, 0, 0), some (.aload_n 0, 1, 0, 0, 0, 0), some (.getfield 15, 3, 5, 4, 151, 0), none, none, some (.iconst 0, 1, 0, 0, 0, 0), some (.bipush 17, 2, 0, 0, 0, 0), none, some (.invokestatic 34, 3, 998, 0, 342, 0), none, none, some (.return_, 1, 0, 0, 0, 0)]
def ct_48 : List (Option mc_E) := [some (.aload_n 0, 1, 0, 0, 0, 0), some (.invokespecial 3, 3, 999, 0, 243, 0), none, none, some (.aload_n 0, 1, 0, 0, 0, 0), some (.iconst (-1), 1, 0, 0, 0, 0), some (.putfield 11, 3, 6, 1, 246, 0), none, none, some (.aload_n 0, 1, 0, 0, 0, 0), some (.iconst 4, 1, 0, 0, 0, 0), some (.newarray .int, 2, 0, 0, 0, 0), none, some (.putfield 15, 3, 6, 2, 247, 0), none, none, some (.aload_n 0, 1, 0, 0, 0, 0), some (.bipush 48, 2, 0, 0, 0, 0), none, some (.newarray .int, 2, 0, 0, 0, 0), none, some (.putfield 19, 3, 6, 3, 248, 0), none, none, some (.return_, 1, 0, 0, 0, 0)]
def ct_49 : List (Option mc_E) := [some (.aload_n 0, 1, 0, 0, 0, 0), some (.getfield 11, 3, 6, 1, 246, 0), none, none, some (.iconst (-1), 1, 0, 0, 0, 0), some (.if_icmp .ne 7, 3, 0, 0, 0, 0), none, none, some (.iconst 1, 1, 0, 0, 0, 0), some (.goto 4, 3, 0, 0, 0, 0), none, none, some (.iconst 0, 1, 0, 0, 0, 0), some (.ireturn, 1, 0, 0, 0, 0)]
def ct_50 : List (Option mc_E) := [some (.aload_n 0, 1, 0, 0, 0, 0), some (.iload_n 1, 1, 0, 0, 0, 0), some (.putfield 22, 3, 6, 0, 244, 0), none, none, some (.aload_n 0, 1, 0, 0, 0, 0), some (.iload_n 2, 1, 0, 0, 0, 0), some (.putfield 11, 3, 6, 1, 246, 0), none, none, some (.aload_n 0, 1, 0, 0, 0, 0), some (.getfield 15, 3, 6, 2, 247, 0), none, none, some (.iconst (-1), 1, 0, 0, 0, 0), some (.invokestatic 25, 3, 179, 0, 655, 0), none, none, some (.return_, 1, 0, 0, 0, 0)]
def ct_51 : List (Option mc_E) := [some (.iload_n 1, 1, 0, 0, 0, 0), some (.ifCond .lt 11, 3, 0, 0, 0, 0), none, none, some (.iload_n 1, 1, 0, 0, 0, 0), some (.aload_n 0, 1, 0, 0, 0, 0), some (.getfield 11, 3, 6, 1, 246, 0), none, none, some (.if_icmp .lt 7, 3, 0, 0, 0, 0), none, none, some (.iconst 1, 1, 0, 0, 0, 0), some (.goto 4, 3, 0, 0, 0, 0), none, none, some (.iconst 0, 1, 0, 0, 0, 0), some (.ireturn, 1, 0, 0, 0, 0)]
def ct_52 : List (Option mc_E) := [some (.aload_n 0, 1, 0, 0, 0, 0), some (.getfield 15, 3, 6, 2, 247, 0), none, none, some (.iload_n 1, 1, 0, 0, 0, 0), some (.iaload, 1, 0, 0, 0, 0), some (.iconst (-1), 1, 0, 0, 0, 0), some (.if_icmp .ne 7, 3, 0, 0, 0, 0), none, none, some (.iconst 1, 1, 0, 0, 0, 0), some (.goto 4, 3, 0, 0, 0, 0), none, none, some (.iconst 0, 1, 0, 0, 0, 0), some (.ireturn, 1, 0, 0, 0, 0)]
def ct_53 : List (Option mc_E) := [some (.aload_n 0, 1, 0, 0, 0, 0), some (.getfield 15, 3, 6, 2, 247, 0), none, none, some (.iload_n 1, 1, 0, 0, 0, 0), some (.iload_n 2, 1, 0, 0, 0, 0), some (.iastore, 1, 0, 0, 0, 0), some (.iconst 0, 1, 0, 0, 0, 0), some (.istore_n 3, 1, 0, 0, 0, 0), some (.iload_n 3, 1, 0, 0, 0, 0), some (.iload_n 2, 1, 0, 0, 0, 0), some (.if_icmp .ge 21, 3, 0, 0, 0, 0), none, none, some (.aload_n 0, 1, 0, 0, 0, 0), some (.getfield 19, 3, 6, 3, 248, 0), none, none, some (.aload_n 0, 1, 0, 0, 0, 0), some (.iload_n 1, 1, 0, 0, 0, 0), some (.iload_n 3, 1, 0, 0, 0, 0), some (.invokevirtual 31, 3, 54, 0, 676, 0), none, none, some (.iconst 0, 1, 0, 0, 0, 0), some (.iastore, 1, 0, 0, 0, 0), some (.iinc 3 1, 3, 0, 0, 0, 0), none, none, some (.goto (-20), 3, 0, 0, 0, 0), none, none, some (.return_, 1, 0, 0, 0, 0)]
def ct_54 : List (Option mc_E) := [some (.iload_n 1, 1, 0, 0, 0, 0), some (.bipush 12, 2, 0, 0, 0, 0), none, some (.imul, 1, 0, 0, 0, 0), some (.iload_n 2, 1, 0, 0, 0, 0), some (.iadd, 1, 0, 0, 0, 0), some (.ireturn, 1, 0, 0, 0, 0)]
def ct_55 : List (Option mc_E) := [some (.aload_n 0, 1, 0, 0, 0, 0), some (.getfield 19, 3, 6, 3, 248, 0), none, none, some (.aload_n 0, 1, 0, 0, 0, 0), some (.iload_n 1, 1, 0, 0, 0, 0), some (.iload_n 2, 1, 0, 0, 0, 0), some (.invokevirtual 31, 3, 54, 0, 676, 0), none, none, some (.iaload, 1, 0, 0, 0, 0), some (.ireturn, 1, 0, 0, 0, 0)]
def ct_56 : List (Option mc_E) := [some (.aload_n 0, 1, 0, 0, 0, 0), some (.iload_n 1, 1, 0, 0, 0, 0), some (.invokevirtual 35, 3, 51, 0, 692, 0), none, none, some (.ifCond .eq 6, 3, 0, 0, 0, 0), none, none, some (.bipush (-12), 2, 0, 0, 0, 0), none, some (.ireturn, 1, 0, 0, 0, 0), some (.aload_n 0, 1, 0, 0, 0, 0), some (.iload_n 1, 1, 0, 0, 0, 0), some (.invokevirtual 39, 3, 52, 0, 693, 0), none, none, some (.ifCond .eq 6, 3, 0, 0, 0, 0), none, none, some (.bipush (-11), 2, 0, 0, 0, 0), none, some (.ireturn, 1, 0, 0, 0, 0), some (.iload_n 2, 1, 0, 0, 0, 0), some (.ifCond .lt 13, 3, 0, 0, 0, 0), none, none, some (.iload_n 2, 1, 0, 0, 0, 0), some (.aload_n 0, 1, 0, 0, 0, 0), some (.getfield 15, 3, 6, 2, 247, 0), none, none, some (.iload_n 1, 1, 0, 0, 0, 0), some (.iaload, 1, 0, 0, 0, 0), some (.if_icmp .lt 8, 3, 0, 0, 0, 0), none, none, some (.bipush (-12), 2, 0, 0, 0, 0), none, some (.goto 4, 3, 0, 0, 0, 0), none, none, some (.iconst 0, 1, 0, 0, 0, 0), some (.ireturn, 1, 0, 0, 0, 0)]
def ct_57 : List (Option mc_E) := [some (.iload_n 2, 1, 0, 0, 0, 0), some (.ifCond .lt 29, 3, 0, 0, 0, 0), none, none, some (.iload_n 3, 1, 0, 0, 0, 0), some (.ifCond .lt 25, 3, 0, 0, 0, 0), none, none, some (.iload_n 2, 1, 0, 0, 0, 0), some (.aload_n 0, 1, 0, 0, 0, 0), some (.getfield 15, 3, 6, 2, 247, 0), none, none, some (.iload_n 1, 1, 0, 0, 0, 0), some (.iaload, 1, 0, 0, 0, 0), some (.if_icmp .gt 15, 3, 0, 0, 0, 0), none, none, some (.iload_n 3, 1, 0, 0, 0, 0), some (.aload_n 0, 1, 0, 0, 0, 0), some (.getfield 15, 3, 6, 2, 247, 0), none, none, some (.iload_n 1, 1, 0, 0, 0, 0), some (.iaload, 1, 0, 0, 0, 0), some (.iload_n 2, 1, 0, 0, 0, 0), some (.isub, 1, 0, 0, 0, 0), some (.if_icmp .le 7, 3, 0, 0, 0, 0), none, none, some (.iconst 1, 1, 0, 0, 0, 0), some (.goto 4, 3, 0, 0, 0, 0), none, none, some (.iconst 0, 1, 0, 0, 0, 0), some (.ireturn, 1, 0, 0, 0, 0)]
def ct_58 : List (Option mc_E) := [some (.aload_n 0, 1, 0, 0, 0, 0), some (.getfield 19, 3, 6, 3, 248, 0), none, none, some (.aload_n 0, 1, 0, 0, 0, 0), some (.iload_n 1, 1, 0, 0, 0, 0), some (.iload_n 2, 1, 0, 0, 0, 0), some (.invokevirtual 31, 3, 54, 0, 676, 0), none, none, some (.aload_n 0, 1, 0, 0, 0, 0), some (.iload_n 3, 1, 0, 0, 0, 0), some (.invokevirtual 42, 3, 59, 0, 701, 0), none, none, some (.iastore, 1, 0, 0, 0, 0), some (.return_, 1, 0, 0, 0, 0)]
def ct_59 : List (Option mc_E) := [some (.aload_n 0, 1, 0, 0, 0, 0), some (.getfield 22, 3, 6, 0, 244, 0), none, none, some (.lookupswitch 34 #[(0, 28), (1, 31)], 28, 0, 0, 0, 0), none, none, none, none, none, none, none, none, none, none, none, none, none, none, none, none, none, none, none, none, none, none, none, none, none, none, none, some (.iload_n 1, 1, 0, 0, 0, 0), some (.i2b, 1, 0, 0, 0, 0), some (.ireturn, 1, 0, 0, 0, 0), some (.iload_n 1, 1, 0, 0, 0, 0), some (.i2s, 1, 0, 0, 0, 0), some (.ireturn, 1, 0, 0, 0, 0), some (.iload_n 1, 1, 0, 0, 0, 0), some (.ireturn, 1, 0, 0, 0, 0)]
def ct_60 : List (Option mc_E) := [some (.aload_n 0, 1, 0, 0, 0, 0), some (.invokespecial 3, 3, 999, 0, 62, 0), none, none, some (.aload_n 0, 1, 0, 0, 0, 0), some (.new 9, 3, 4, 0, 65, 0), none, none, some (.dup, 1, 0, 0, 0, 0), some (.invokespecial 11, 3, 26, 1, 67, 0), none, none, some (.putfield 12, 3, 7, 0, 281, 0), none, none, some (.aload_n 0, 1, 0, 0, 0, 0), some (.new 16, 3, 1, 0, 177, 0), none, none, some (.dup, 1, 0, 0, 0, 0), some (.invokespecial 18, 3, 6, 0, 179, 0), none, none, some (.putfield 19, 3, 7, 1, 282, 0), none, none, some (.aload_n 0, 1, 0, 0, 0, 0), some (.new 23, 3, 2, 0, 197, 0), none, none, some (.dup, 1, 0, 0, 0, 0), some (.invokespecial 25, 3, 10, 1, 199, 0), none, none, some (.putfield 26, 3, 7, 2, 283, 0), none, none, some (.aload_n 0, 1, 0, 0, 0, 0), some (.new 30, 3, 3, 0, 224, 0), none, none, some (.dup, 1, 0, 0, 0, 0), some (.invokespecial 32, 3, 18, 1, 226, 0), none, none, some (.putfield 33, 3, 7, 3, 284, 0), none, none, some (.aload_n 0, 1, 0, 0, 0, 0), some (.iconst 4, 1, 0, 0, 0, 0), some (.anewarray 37, 3, 3, 0, 237, 0), none, none, some (.putfield 39, 3, 7, 4, 285, 0), none, none, some (.aload_n 0, 1, 0, 0, 0, 0), some (.lconst 0, 1, 0, 0, 0, 0), some (.putfield 43, 3, 7, 5, 286, 0), none, none, some (.aload_n 0, 1, 0, 0, 0, 0), some (.iconst 0, 1, 0, 0, 0, 0), some (.putfield 47, 3, 7, 6, 287, 0), none, none, some (.iconst 0, 1, 0, 0, 0, 0), some (.istore_n 1, 1, 0, 0, 0, 0), some (.iload_n 1, 1, 0, 0, 0, 0), some (.iconst 4, 1, 0, 0, 0, 0), some (.if_icmp .ge 22, 3, 0, 0, 0, 0), none, none, some (.aload_n 0, 1, 0, 0, 0, 0), some (.getfield 39, 3, 7, 4, 285, 0), none, none, some (.iload_n 1, 1, 0, 0, 0, 0), some (.new 37, 3, 6, 0, 237, 0), none, none, some (.dup, 1, 0, 0, 0, 0), some (.invokespecial 51, 3, 48, 1, 240, 0), none, none, some (.aastore, 1, 0, 0, 0, 0), some (.iinc 1 1, 3, 0, 0, 0, 0), none, none, some (.goto (-21), 3, 0, 0, 0, 0), none, none, some (.aload_n 0, 1, 0, 0, 0, 0), some (.getfield 12, 3, 7, 0, 281, 0), none, none, some (.getfield 52, 3, 4, 0, 166, 0), none, none, some (.iconst 3, 1, 0, 0, 0, 0), some (.iconst 3, 1, 0, 0, 0, 0), some (.invokevirtual 56, 3, 1, 0, 259, 0), none, none, some (.return_, 1, 0, 0, 0, 0)]
def ct_61 : List (Option mc_E) := [some (.iload_n 1, 1, 0, 0, 0, 0), some (.iconst 1, 1, 0, 0, 0, 0), some (.if_icmp .lt 28, 3, 0, 0, 0, 0), none, none, some (.iload_n 1, 1, 0, 0, 0, 0), some (.bipush 6, 2, 0, 0, 0, 0), none, some (.if_icmp .gt 22, 3, 0, 0, 0, 0), none, none, some (.iload_n 2, 1, 0, 0, 0, 0), some (.iconst 1, 1, 0, 0, 0, 0), some (.if_icmp .lt 17, 3, 0, 0, 0, 0), none, none, some (.iload_n 2, 1, 0, 0, 0, 0), some (.bipush 6, 2, 0, 0, 0, 0), none, some (.if_icmp .gt 11, 3, 0, 0, 0, 0), none, none, some (.iload_n 1, 1, 0, 0, 0, 0), some (.iload_n 2, 1, 0, 0, 0, 0), some (.imul, 1, 0, 0, 0, 0), some (.bipush 12, 2, 0, 0, 0, 0), none, some (.if_icmp .le 5, 3, 0, 0, 0, 0), none, none, some (.iconst (-1), 1, 0, 0, 0, 0), some (.ireturn, 1, 0, 0, 0, 0), some (.aload_n 0, 1, 0, 0, 0, 0), some (.getfield 12, 3, 7, 0, 281, 0), none, none, some (.getfield 52, 3, 4, 0, 166, 0), none, none, some (.iload_n 1, 1, 0, 0, 0, 0), some (.iload_n 2, 1, 0, 0, 0, 0), some (.invokevirtual 56, 3, 1, 0, 259, 0), none, none, some (.aload_n 0, 1, 0, 0, 0, 0), some (.getfield 12, 3, 7, 0, 281, 0), none, none, some (.getfield 62, 3, 4, 1, 171, 0), none, none, some (.invokevirtual 66, 3, 46, 0, 307, 0), none, none, some (.aload_n 0, 1, 0, 0, 0, 0), some (.getfield 19, 3, 7, 1, 282, 0), none, none, some (.invokevirtual 71, 3, 9, 0, 314, 0), none, none, some (.aload_n 0, 1, 0, 0, 0, 0), some (.getfield 26, 3, 7, 2, 283, 0), none, none, some (.iconst 1, 1, 0, 0, 0, 0), some (.putfield 74, 3, 2, 1, 205, 0), none, none, some (.aload_n 0, 1, 0, 0, 0, 0), some (.getfield 12, 3, 7, 0, 281, 0), none, none, some (.getfield 52, 3, 4, 0, 166, 0), none, none, some (.getfield 78, 3, 0, 3, 86, 0), none, none, some (.ireturn, 1, 0, 0, 0, 0)]
def ct_62 : List (Option mc_E) := [some (.aload_n 0, 1, 0, 0, 0, 0), some (.iload_n 1, 1, 0, 0, 0, 0), some (.invokevirtual 81, 3, 96, 0, 322, 0), none, none, some (.ifCond .ne 12, 3, 0, 0, 0, 0), none, none, some (.iload_n 2, 1, 0, 0, 0, 0), some (.ifCond .lt 8, 3, 0, 0, 0, 0), none, none, some (.iload_n 2, 1, 0, 0, 0, 0), some (.iconst 5, 1, 0, 0, 0, 0), some (.if_icmp .lt 5, 3, 0, 0, 0, 0), none, none, some (.iconst (-1), 1, 0, 0, 0, 0), some (.ireturn, 1, 0, 0, 0, 0), some (.iload_n 2, 1, 0, 0, 0, 0), some (.iconst 4, 1, 0, 0, 0, 0), some (.if_icmp .ne 19, 3, 0, 0, 0, 0), none, none, some (.aload_n 0, 1, 0, 0, 0, 0), some (.getfield 12, 3, 7, 0, 281, 0), none, none, some (.getfield 52, 3, 4, 0, 166, 0), none, none, some (.iload_n 1, 1, 0, 0, 0, 0), some (.invokevirtual 85, 3, 5, 0, 326, 0), none, none, some (.ifCond .ne 5, 3, 0, 0, 0, 0), none, none, some (.iconst (-1), 1, 0, 0, 0, 0), some (.ireturn, 1, 0, 0, 0, 0), some (.aload_n 0, 1, 0, 0, 0, 0), some (.invokevirtual 88, 3, 109, 0, 330, 0), none, none, some (.aload_n 0, 1, 0, 0, 0, 0), some (.getfield 12, 3, 7, 0, 281, 0), none, none, some (.getfield 62, 3, 4, 1, 171, 0), none, none, some (.getfield 91, 3, 5, 3, 149, 0), none, none, some (.iload_n 1, 1, 0, 0, 0, 0), some (.iaload, 1, 0, 0, 0, 0), some (.istore_n 3, 1, 0, 0, 0, 0), some (.aload_n 0, 1, 0, 0, 0, 0), some (.getfield 12, 3, 7, 0, 281, 0), none, none, some (.getfield 62, 3, 4, 1, 171, 0), none, none, some (.getfield 91, 3, 5, 3, 149, 0), none, none, some (.iload_n 1, 1, 0, 0, 0, 0), some (.iload_n 2, 1, 0, 0, 0, 0), some (.iastore, 1, 0, 0, 0, 0), some (.aload_n 0, 1, 0, 0, 0, 0), some (.getfield 12, 3, 7, 0, 281, 0), none, none, some (.getfield 62, 3, 4, 1, 171, 0), none, none, some (.dup, 1, 0, 0, 0, 0), some (.getfield 95, 3, 5, 2, 146, 0), none, none, some (.aload_n 0, 1, 0, 0, 0, 0), some (.getfield 12, 3, 7, 0, 281, 0), none, none, some (.iload_n 1, 1, 0, 0, 0, 0), some (.invokevirtual 98, 3, 28, 0, 346, 0), none, none, some (.iconst (-1), 1, 0, 0, 0, 0), some (.ixor, 1, 0, 0, 0, 0), some (.iand, 1, 0, 0, 0, 0), some (.putfield 95, 3, 5, 2, 146, 0), none, none, some (.iload_n 3, 1, 0, 0, 0, 0), some (.ireturn, 1, 0, 0, 0, 0)]
def ct_63 : List (Option mc_E) := [some (.aload_n 0, 1, 0, 0, 0, 0), some (.iload_n 1, 1, 0, 0, 0, 0), some (.invokevirtual 81, 3, 96, 0, 322, 0), none, none, some (.ifCond .ne 12, 3, 0, 0, 0, 0), none, none, some (.iload_n 2, 1, 0, 0, 0, 0), some (.ifCond .lt 8, 3, 0, 0, 0, 0), none, none, some (.iload_n 2, 1, 0, 0, 0, 0), some (.iconst 1, 1, 0, 0, 0, 0), some (.if_icmp .le 5, 3, 0, 0, 0, 0), none, none, some (.iconst (-1), 1, 0, 0, 0, 0), some (.ireturn, 1, 0, 0, 0, 0), some (.aload_n 0, 1, 0, 0, 0, 0), some (.invokevirtual 88, 3, 109, 0, 330, 0), none, none, some (.aload_n 0, 1, 0, 0, 0, 0), some (.getfield 12, 3, 7, 0, 281, 0), none, none, some (.aload_n 0, 1, 0, 0, 0, 0), some (.getfield 12, 3, 7, 0, 281, 0), none, none, some (.getfield 62, 3, 4, 1, 171, 0), none, none, some (.getfield 102, 3, 5, 1, 143, 0), none, none, some (.iload_n 1, 1, 0, 0, 0, 0), some (.invokevirtual 105, 3, 29, 0, 354, 0), none, none, some (.istore_n 3, 1, 0, 0, 0, 0), some (.aload_n 0, 1, 0, 0, 0, 0), some (.getfield 12, 3, 7, 0, 281, 0), none, none, some (.getfield 62, 3, 4, 1, 171, 0), none, none, some (.aload_n 0, 1, 0, 0, 0, 0), some (.getfield 12, 3, 7, 0, 281, 0), none, none, some (.aload_n 0, 1, 0, 0, 0, 0), some (.getfield 12, 3, 7, 0, 281, 0), none, none, some (.getfield 62, 3, 4, 1, 171, 0), none, none, some (.getfield 102, 3, 5, 1, 143, 0), none, none, some (.iload_n 1, 1, 0, 0, 0, 0), some (.iload_n 2, 1, 0, 0, 0, 0), some (.iconst 1, 1, 0, 0, 0, 0), some (.if_icmp .ne 7, 3, 0, 0, 0, 0), none, none, some (.iconst 1, 1, 0, 0, 0, 0), some (.goto 4, 3, 0, 0, 0, 0), none, none, some (.iconst 0, 1, 0, 0, 0, 0), some (.invokevirtual 109, 3, 30, 0, 358, 0), none, none, some (.putfield 102, 3, 5, 1, 143, 0), none, none, some (.iload_n 3, 1, 0, 0, 0, 0), some (.ireturn, 1, 0, 0, 0, 0)]
def ct_64 : List (Option mc_E) := [some (.aload_n 0, 1, 0, 0, 0, 0), some (.iload_n 1, 1, 0, 0, 0, 0), some (.invokevirtual 81, 3, 96, 0, 322, 0), none, none, some (.ifCond .ne 19, 3, 0, 0, 0, 0), none, none, some (.aload_n 0, 1, 0, 0, 0, 0), some (.getfield 12, 3, 7, 0, 281, 0), none, none, some (.getfield 62, 3, 4, 1, 171, 0), none, none, some (.getfield 91, 3, 5, 3, 149, 0), none, none, some (.iload_n 1, 1, 0, 0, 0, 0), some (.iaload, 1, 0, 0, 0, 0), some (.iconst 4, 1, 0, 0, 0, 0), some (.if_icmp .eq 5, 3, 0, 0, 0, 0), none, none, some (.iconst (-1), 1, 0, 0, 0, 0), some (.ireturn, 1, 0, 0, 0, 0), some (.aload_n 0, 1, 0, 0, 0, 0), some (.invokevirtual 88, 3, 109, 0, 330, 0), none, none, some (.aload_n 0, 1, 0, 0, 0, 0), some (.getfield 12, 3, 7, 0, 281, 0), none, none, some (.aload_n 0, 1, 0, 0, 0, 0), some (.getfield 12, 3, 7, 0, 281, 0), none, none, some (.getfield 62, 3, 4, 1, 171, 0), none, none, some (.getfield 95, 3, 5, 2, 146, 0), none, none, some (.iload_n 1, 1, 0, 0, 0, 0), some (.invokevirtual 105, 3, 29, 0, 354, 0), none, none, some (.istore_n 3, 1, 0, 0, 0, 0), some (.aload_n 0, 1, 0, 0, 0, 0), some (.getfield 12, 3, 7, 0, 281, 0), none, none, some (.getfield 62, 3, 4, 1, 171, 0), none, none, some (.aload_n 0, 1, 0, 0, 0, 0), some (.getfield 12, 3, 7, 0, 281, 0), none, none, some (.aload_n 0, 1, 0, 0, 0, 0), some (.getfield 12, 3, 7, 0, 281, 0), none, none, some (.getfield 62, 3, 4, 1, 171, 0), none, none, some (.getfield 95, 3, 5, 2, 146, 0), none, none, some (.iload_n 1, 1, 0, 0, 0, 0), some (.iload_n 2, 1, 0, 0, 0, 0), some (.invokevirtual 109, 3, 30, 0, 358, 0), none, none, some (.putfield 95, 3, 5, 2, 146, 0), none, none, some (.iload_n 3, 1, 0, 0, 0, 0), some (.ireturn, 1, 0, 0, 0, 0)]
def ct_65 : List (Option mc_E) := [some (.aload_n 0, 1, 0, 0, 0, 0), some (.iload_n 1, 1, 0, 0, 0, 0), some (.invokevirtual 81, 3, 96, 0, 322, 0), none, none, some (.ifCond .eq 6, 3, 0, 0, 0, 0), none, none, some (.ldc 113, 2, 0, 0, 371, -1000000), none, some (.ireturn, 1, 0, 0, 0, 0), some (.aload_n 0, 1, 0, 0, 0, 0), some (.getfield 19, 3, 7, 1, 282, 0), none, none, some (.aload_n 0, 1, 0, 0, 0, 0), some (.getfield 12, 3, 7, 0, 281, 0), none, none, some (.getfield 62, 3, 4, 1, 171, 0), none, none, some (.invokevirtual 114, 3, 7, 0, 334, 0), none, none, some (.aload_n 0, 1, 0, 0, 0, 0), some (.getfield 12, 3, 7, 0, 281, 0), none, none, some (.iload_n 1, 1, 0, 0, 0, 0), some (.invokevirtual 118, 3, 40, 0, 372, 0), none, none, some (.istore_n 2, 1, 0, 0, 0, 0), some (.aload_n 0, 1, 0, 0, 0, 0), some (.getfield 12, 3, 7, 0, 281, 0), none, none, some (.iload_n 1, 1, 0, 0, 0, 0), some (.invokevirtual 121, 3, 42, 0, 411, 0), none, none, some (.iload_n 2, 1, 0, 0, 0, 0), some (.ireturn, 1, 0, 0, 0, 0)]
def ct_66 : List (Option mc_E) := [some (.aload_n 0, 1, 0, 0, 0, 0), some (.iload_n 1, 1, 0, 0, 0, 0), some (.invokevirtual 81, 3, 96, 0, 322, 0), none, none, some (.ifCond .eq 6, 3, 0, 0, 0, 0), none, none, some (.ldc 113, 2, 0, 0, 371, -1000000), none, some (.ireturn, 1, 0, 0, 0, 0), some (.aload_n 0, 1, 0, 0, 0, 0), some (.invokevirtual 88, 3, 109, 0, 330, 0), none, none, some (.aload_n 0, 1, 0, 0, 0, 0), some (.getfield 12, 3, 7, 0, 281, 0), none, none, some (.invokevirtual 125, 3, 38, 0, 419, 0), none, none, some (.istore_n 2, 1, 0, 0, 0, 0), some (.aload_n 0, 1, 0, 0, 0, 0), some (.getfield 12, 3, 7, 0, 281, 0), none, none, some (.iload_n 1, 1, 0, 0, 0, 0), some (.invokevirtual 121, 3, 42, 0, 411, 0), none, none, some (.aload_n 0, 1, 0, 0, 0, 0), some (.getfield 12, 3, 7, 0, 281, 0), none, none, some (.iload_n 1, 1, 0, 0, 0, 0), some (.invokevirtual 129, 3, 43, 0, 427, 0), none, none, some (.aload_n 0, 1, 0, 0, 0, 0), some (.getfield 12, 3, 7, 0, 281, 0), none, none, some (.invokevirtual 125, 3, 38, 0, 419, 0), none, none, some (.iload_n 2, 1, 0, 0, 0, 0), some (.isub, 1, 0, 0, 0, 0), some (.ireturn, 1, 0, 0, 0, 0)]
def ct_67 : List (Option mc_E) := [some (.aload_n 0, 1, 0, 0, 0, 0), some (.iload_n 1, 1, 0, 0, 0, 0), some (.invokevirtual 132, 3, 97, 0, 435, 0), none, none, some (.ifCond .ne 10, 3, 0, 0, 0, 0), none, none, some (.iload_n 2, 1, 0, 0, 0, 0), some (.invokestatic 135, 3, 100, 0, 439, 0), none, none, some (.ifCond .eq 6, 3, 0, 0, 0, 0), none, none, some (.ldc 113, 2, 0, 0, 371, -1000000), none, some (.ireturn, 1, 0, 0, 0, 0), some (.aload_n 0, 1, 0, 0, 0, 0), some (.invokevirtual 88, 3, 109, 0, 330, 0), none, none, some (.aload_n 0, 1, 0, 0, 0, 0), some (.getfield 12, 3, 7, 0, 281, 0), none, none, some (.getfield 62, 3, 4, 1, 171, 0), none, none, some (.getfield 138, 3, 5, 4, 152, 0), none, none, some (.iload_n 1, 1, 0, 0, 0, 0), some (.iaload, 1, 0, 0, 0, 0), some (.istore_n 3, 1, 0, 0, 0, 0), some (.aload_n 0, 1, 0, 0, 0, 0), some (.getfield 12, 3, 7, 0, 281, 0), none, none, some (.getfield 62, 3, 4, 1, 171, 0), none, none, some (.getfield 138, 3, 5, 4, 152, 0), none, none, some (.iload_n 1, 1, 0, 0, 0, 0), some (.iload_n 2, 1, 0, 0, 0, 0), some (.iastore, 1, 0, 0, 0, 0), some (.iload_n 3, 1, 0, 0, 0, 0), some (.ireturn, 1, 0, 0, 0, 0)]
def ct_68 : List (Option mc_E) := [some (.aload_n 0, 1, 0, 0, 0, 0), some (.iload_n 1, 1, 0, 0, 0, 0), some (.invokevirtual 141, 3, 99, 0, 446, 0), none, none, some (.ifCond .eq 5, 3, 0, 0, 0, 0), none, none, some (.iconst (-1), 1, 0, 0, 0, 0), some (.ireturn, 1, 0, 0, 0, 0), some (.aload_n 0, 1, 0, 0, 0, 0), some (.getfield 19, 3, 7, 1, 282, 0), none, none, some (.aload_n 0, 1, 0, 0, 0, 0), some (.getfield 12, 3, 7, 0, 281, 0), none, none, some (.getfield 62, 3, 4, 1, 171, 0), none, none, some (.invokevirtual 114, 3, 7, 0, 334, 0), none, none, some (.aload_n 0, 1, 0, 0, 0, 0), some (.getfield 12, 3, 7, 0, 281, 0), none, none, some (.invokevirtual 144, 3, 32, 0, 454, 0), none, none, some (.istore_n 2, 1, 0, 0, 0, 0), some (.aload_n 0, 1, 0, 0, 0, 0), some (.getfield 12, 3, 7, 0, 281, 0), none, none, some (.getfield 62, 3, 4, 1, 171, 0), none, none, some (.aload_n 0, 1, 0, 0, 0, 0), some (.getfield 12, 3, 7, 0, 281, 0), none, none, some (.getfield 62, 3, 4, 1, 171, 0), none, none, some (.getfield 147, 3, 5, 0, 140, 0), none, none, some (.iload_n 2, 1, 0, 0, 0, 0), some (.iand, 1, 0, 0, 0, 0), some (.iload_n 1, 1, 0, 0, 0, 0), some (.iload_n 2, 1, 0, 0, 0, 0), some (.iconst (-1), 1, 0, 0, 0, 0), some (.ixor, 1, 0, 0, 0, 0), some (.iand, 1, 0, 0, 0, 0), some (.ior, 1, 0, 0, 0, 0), some (.putfield 147, 3, 5, 0, 140, 0), none, none, some (.aload_n 0, 1, 0, 0, 0, 0), some (.getfield 12, 3, 7, 0, 281, 0), none, none, some (.invokevirtual 125, 3, 38, 0, 419, 0), none, none, some (.ireturn, 1, 0, 0, 0, 0)]
def ct_69 : List (Option mc_E) := [some (.aload_n 0, 1, 0, 0, 0, 0), some (.getfield 19, 3, 7, 1, 282, 0), none, none, some (.aload_n 0, 1, 0, 0, 0, 0), some (.getfield 12, 3, 7, 0, 281, 0), none, none, some (.getfield 62, 3, 4, 1, 171, 0), none, none, some (.invokevirtual 114, 3, 7, 0, 334, 0), none, none, some (.iconst 0, 1, 0, 0, 0, 0), some (.istore_n 1, 1, 0, 0, 0, 0), some (.iload_n 1, 1, 0, 0, 0, 0), some (.sipush 4096, 3, 0, 0, 0, 0), none, none, some (.if_icmp .ge 32, 3, 0, 0, 0, 0), none, none, some (.aload_n 0, 1, 0, 0, 0, 0), some (.getfield 12, 3, 7, 0, 281, 0), none, none, some (.invokevirtual 150, 3, 41, 0, 459, 0), none, none, some (.istore_n 2, 1, 0, 0, 0, 0), some (.iload_n 2, 1, 0, 0, 0, 0), some (.ifCond .ge 6, 3, 0, 0, 0, 0), none, none, some (.goto 17, 3, 0, 0, 0, 0), none, none, some (.aload_n 0, 1, 0, 0, 0, 0), some (.getfield 12, 3, 7, 0, 281, 0), none, none, some (.iload_n 2, 1, 0, 0, 0, 0), some (.invokevirtual 121, 3, 42, 0, 411, 0), none, none, some (.iinc 1 1, 3, 0, 0, 0, 0), none, none, some (.goto (-33), 3, 0, 0, 0, 0), none, none, some (.iload_n 1, 1, 0, 0, 0, 0), some (.ireturn, 1, 0, 0, 0, 0)]
def ct_70 : List (Option mc_E) := [some (.aload_n 0, 1, 0, 0, 0, 0), some (.getfield 19, 3, 7, 1, 282, 0), none, none, some (.getfield 153, 3, 1, 2, 189, 0), none, none, some (.ifCond .ne 6, 3, 0, 0, 0, 0), none, none, some (.bipush (-2), 2, 0, 0, 0, 0), none, some (.ireturn, 1, 0, 0, 0, 0), some (.aload_n 0, 1, 0, 0, 0, 0), some (.getfield 19, 3, 7, 1, 282, 0), none, none, some (.aload_n 0, 1, 0, 0, 0, 0), some (.getfield 12, 3, 7, 0, 281, 0), none, none, some (.getfield 62, 3, 4, 1, 171, 0), none, none, some (.invokevirtual 156, 3, 8, 0, 468, 0), none, none, some (.aload_n 0, 1, 0, 0, 0, 0), some (.getfield 26, 3, 7, 2, 283, 0), none, none, some (.iconst 1, 1, 0, 0, 0, 0), some (.putfield 74, 3, 2, 1, 205, 0), none, none, some (.aload_n 0, 1, 0, 0, 0, 0), some (.getfield 19, 3, 7, 1, 282, 0), none, none, some (.getfield 153, 3, 1, 2, 189, 0), none, none, some (.ireturn, 1, 0, 0, 0, 0)]
def ct_71 : List (Option mc_E) := [some (.aload_n 0, 1, 0, 0, 0, 0), some (.iload_n 1, 1, 0, 0, 0, 0), some (.invokevirtual 81, 3, 96, 0, 322, 0), none, none, some (.ifCond .eq 5, 3, 0, 0, 0, 0), none, none, some (.iconst (-1), 1, 0, 0, 0, 0), some (.ireturn, 1, 0, 0, 0, 0), some (.aload_n 0, 1, 0, 0, 0, 0), some (.getfield 12, 3, 7, 0, 281, 0), none, none, some (.aload_n 0, 1, 0, 0, 0, 0), some (.getfield 12, 3, 7, 0, 281, 0), none, none, some (.getfield 62, 3, 4, 1, 171, 0), none, none, some (.getfield 95, 3, 5, 2, 146, 0), none, none, some (.iload_n 1, 1, 0, 0, 0, 0), some (.invokevirtual 105, 3, 29, 0, 354, 0), none, none, some (.iconst 1, 1, 0, 0, 0, 0), some (.if_icmp .ne 7, 3, 0, 0, 0, 0), none, none, some (.iconst 1, 1, 0, 0, 0, 0), some (.goto 4, 3, 0, 0, 0, 0), none, none, some (.iconst 0, 1, 0, 0, 0, 0), some (.istore_n 2, 1, 0, 0, 0, 0), some (.aload_n 0, 1, 0, 0, 0, 0), some (.dup, 1, 0, 0, 0, 0), some (.getfield 43, 3, 7, 5, 286, 0), none, none, some (.iload_n 2, 1, 0, 0, 0, 0), some (.ifCond .eq 9, 3, 0, 0, 0, 0), none, none, some (.ldc2_w 159, 3, 0, 0, 477, 101), none, none, some (.goto 20, 3, 0, 0, 0, 0), none, none, some (.getstatic 161, 3, 1, 0, 478, 0), none, none, some (.aload_n 0, 1, 0, 0, 0, 0), some (.getfield 12, 3, 7, 0, 281, 0), none, none, some (.getfield 62, 3, 4, 1, 171, 0), none, none, some (.getfield 91, 3, 5, 3, 149, 0), none, none, some (.iload_n 1, 1, 0, 0, 0, 0), some (.iaload, 1, 0, 0, 0, 0), some (.iaload, 1, 0, 0, 0, 0), some (.i2l, 1, 0, 0, 0, 0), some (.ladd, 1, 0, 0, 0, 0), some (.putfield 43, 3, 7, 5, 286, 0), none, none, some (.aload_n 0, 1, 0, 0, 0, 0), some (.getfield 12, 3, 7, 0, 281, 0), none, none, some (.aload_n 0, 1, 0, 0, 0, 0), some (.getfield 12, 3, 7, 0, 281, 0), none, none, some (.invokevirtual 164, 3, 33, 0, 480, 0), none, none, some (.iload_n 1, 1, 0, 0, 0, 0), some (.invokevirtual 105, 3, 29, 0, 354, 0), none, none, some (.ireturn, 1, 0, 0, 0, 0)]
def ct_72 : List (Option mc_E) := [some (.aload_n 0, 1, 0, 0, 0, 0), some (.iload_n 1, 1, 0, 0, 0, 0), some (.invokevirtual 81, 3, 96, 0, 322, 0), none, none, some (.ifCond .eq 5, 3, 0, 0, 0, 0), none, none, some (.iconst (-1), 1, 0, 0, 0, 0), some (.ireturn, 1, 0, 0, 0, 0), some (.aload_n 0, 1, 0, 0, 0, 0), some (.getfield 12, 3, 7, 0, 281, 0), none, none, some (.getfield 62, 3, 4, 1, 171, 0), none, none, some (.getfield 91, 3, 5, 3, 149, 0), none, none, some (.iload_n 1, 1, 0, 0, 0, 0), some (.iaload, 1, 0, 0, 0, 0), some (.istore_n 2, 1, 0, 0, 0, 0), some (.aload_n 0, 1, 0, 0, 0, 0), some (.dup, 1, 0, 0, 0, 0), some (.getfield 43, 3, 7, 5, 286, 0), none, none, some (.getstatic 167, 3, 2, 0, 485, 0), none, none, some (.iload_n 2, 1, 0, 0, 0, 0), some (.iaload, 1, 0, 0, 0, 0), some (.i2l, 1, 0, 0, 0, 0), some (.ladd, 1, 0, 0, 0, 0), some (.putfield 43, 3, 7, 5, 286, 0), none, none, some (.getstatic 170, 3, 0, 0, 487, 0), none, none, some (.iload_n 2, 1, 0, 0, 0, 0), some (.iaload, 1, 0, 0, 0, 0), some (.ireturn, 1, 0, 0, 0, 0)]
def ct_73 : List (Option mc_E) := [some (.aload_n 0, 1, 0, 0, 0, 0), some (.iload_n 1, 1, 0, 0, 0, 0), some (.invokevirtual 81, 3, 96, 0, 322, 0), none, none, some (.ifCond .eq 5, 3, 0, 0, 0, 0), none, none, some (.iconst (-1), 1, 0, 0, 0, 0), some (.ireturn, 1, 0, 0, 0, 0), some (.iload_n 2, 1, 0, 0, 0, 0), some (.tableswitch 115 0 4 #[33, 52, 71, 84, 103], 33, 0, 0, 0, 0), none, none, none, none, none, none, none, none, none, none, none, none, none, none, none, none, none, none, none, none, none, none, none, none, none, none, none, none, none, none, none, none, some (.aload_n 0, 1, 0, 0, 0, 0), some (.getfield 12, 3, 7, 0, 281, 0), none, none, some (.aload_n 0, 1, 0, 0, 0, 0), some (.getfield 12, 3, 7, 0, 281, 0), none, none, some (.getfield 62, 3, 4, 1, 171, 0), none, none, some (.getfield 147, 3, 5, 0, 140, 0), none, none, some (.iload_n 1, 1, 0, 0, 0, 0), some (.invokevirtual 105, 3, 29, 0, 354, 0), none, none, some (.ireturn, 1, 0, 0, 0, 0), some (.aload_n 0, 1, 0, 0, 0, 0), some (.getfield 12, 3, 7, 0, 281, 0), none, none, some (.aload_n 0, 1, 0, 0, 0, 0), some (.getfield 12, 3, 7, 0, 281, 0), none, none, some (.getfield 62, 3, 4, 1, 171, 0), none, none, some (.getfield 102, 3, 5, 1, 143, 0), none, none, some (.iload_n 1, 1, 0, 0, 0, 0), some (.invokevirtual 105, 3, 29, 0, 354, 0), none, none, some (.ireturn, 1, 0, 0, 0, 0), some (.aload_n 0, 1, 0, 0, 0, 0), some (.getfield 12, 3, 7, 0, 281, 0), none, none, some (.getfield 62, 3, 4, 1, 171, 0), none, none, some (.getfield 91, 3, 5, 3, 149, 0), none, none, some (.iload_n 1, 1, 0, 0, 0, 0), some (.iaload, 1, 0, 0, 0, 0), some (.ireturn, 1, 0, 0, 0, 0), some (.aload_n 0, 1, 0, 0, 0, 0), some (.getfield 12, 3, 7, 0, 281, 0), none, none, some (.aload_n 0, 1, 0, 0, 0, 0), some (.getfield 12, 3, 7, 0, 281, 0), none, none, some (.getfield 62, 3, 4, 1, 171, 0), none, none, some (.getfield 95, 3, 5, 2, 146, 0), none, none, some (.iload_n 1, 1, 0, 0, 0, 0), some (.invokevirtual 105, 3, 29, 0, 354, 0), none, none, some (.ireturn, 1, 0, 0, 0, 0), some (.aload_n 0, 1, 0, 0, 0, 0), some (.getfield 12, 3, 7, 0, 281, 0), none, none, some (.iload_n 1, 1, 0, 0, 0, 0), some (.invokevirtual 173, 3, 31, 0, 492, 0), none, none, some (.invokestatic 176, 3, 103, 0, 493, 0), none, none, some (.ireturn, 1, 0, 0, 0, 0), some (.iconst (-1), 1, 0, 0, 0, 0), some (.ireturn, 1, 0, 0, 0, 0)]
def ct_74 : List (Option mc_E) := [some (.aload_n 0, 1, 0, 0, 0, 0), some (.iload_n 1, 1, 0, 0, 0, 0), some (.invokevirtual 132, 3, 97, 0, 435, 0), none, none, some (.ifCond .eq 5, 3, 0, 0, 0, 0), none, none, some (.iconst (-1), 1, 0, 0, 0, 0), some (.ireturn, 1, 0, 0, 0, 0), some (.iload_n 2, 1, 0, 0, 0, 0), some (.tableswitch 138 0 6 #[41, 54, 67, 80, 93, 110, 129], 41, 0, 0, 0, 0), none, none, none, none, none, none, none, none, none, none, none, none, none, none, none, none, none, none, none, none, none, none, none, none, none, none, none, none, none, none, none, none, none, none, none, none, none, none, none, none, some (.aload_n 0, 1, 0, 0, 0, 0), some (.getfield 12, 3, 7, 0, 281, 0), none, none, some (.getfield 52, 3, 4, 0, 166, 0), none, none, some (.getfield 180, 3, 0, 6, 97, 0), none, none, some (.iload_n 1, 1, 0, 0, 0, 0), some (.iaload, 1, 0, 0, 0, 0), some (.ireturn, 1, 0, 0, 0, 0), some (.aload_n 0, 1, 0, 0, 0, 0), some (.getfield 12, 3, 7, 0, 281, 0), none, none, some (.getfield 52, 3, 4, 0, 166, 0), none, none, some (.getfield 183, 3, 0, 7, 101, 0), none, none, some (.iload_n 1, 1, 0, 0, 0, 0), some (.iaload, 1, 0, 0, 0, 0), some (.ireturn, 1, 0, 0, 0, 0), some (.aload_n 0, 1, 0, 0, 0, 0), some (.getfield 12, 3, 7, 0, 281, 0), none, none, some (.getfield 52, 3, 4, 0, 166, 0), none, none, some (.getfield 186, 3, 0, 8, 104, 0), none, none, some (.iload_n 1, 1, 0, 0, 0, 0), some (.iaload, 1, 0, 0, 0, 0), some (.ireturn, 1, 0, 0, 0, 0), some (.aload_n 0, 1, 0, 0, 0, 0), some (.getfield 12, 3, 7, 0, 281, 0), none, none, some (.getfield 52, 3, 4, 0, 166, 0), none, none, some (.getfield 189, 3, 0, 9, 108, 0), none, none, some (.iload_n 1, 1, 0, 0, 0, 0), some (.iaload, 1, 0, 0, 0, 0), some (.ireturn, 1, 0, 0, 0, 0), some (.aload_n 0, 1, 0, 0, 0, 0), some (.getfield 12, 3, 7, 0, 281, 0), none, none, some (.getfield 62, 3, 4, 1, 171, 0), none, none, some (.getfield 138, 3, 5, 4, 152, 0), none, none, some (.iload_n 1, 1, 0, 0, 0, 0), some (.iaload, 1, 0, 0, 0, 0), some (.sipush 1000, 3, 0, 0, 0, 0), none, none, some (.iadd, 1, 0, 0, 0, 0), some (.ireturn, 1, 0, 0, 0, 0), some (.aload_n 0, 1, 0, 0, 0, 0), some (.getfield 12, 3, 7, 0, 281, 0), none, none, some (.iload_n 1, 1, 0, 0, 0, 0), some (.aload_n 0, 1, 0, 0, 0, 0), some (.getfield 12, 3, 7, 0, 281, 0), none, none, some (.invokevirtual 164, 3, 33, 0, 480, 0), none, none, some (.invokevirtual 192, 3, 36, 0, 500, 0), none, none, some (.invokestatic 176, 3, 103, 0, 493, 0), none, none, some (.ireturn, 1, 0, 0, 0, 0), some (.aload_n 0, 1, 0, 0, 0, 0), some (.getfield 12, 3, 7, 0, 281, 0), none, none, some (.iload_n 1, 1, 0, 0, 0, 0), some (.invokevirtual 196, 3, 35, 0, 501, 0), none, none, some (.ireturn, 1, 0, 0, 0, 0), some (.iconst (-1), 1, 0, 0, 0, 0), some (.ireturn, 1, 0, 0, 0, 0)]
def ct_75 : List (Option mc_E) := [some (.aload_n 0, 1, 0, 0, 0, 0), some (.getfield 12, 3, 7, 0, 281, 0), none, none, some (.invokevirtual 125, 3, 38, 0, 419, 0), none, none, some (.ireturn, 1, 0, 0, 0, 0)]
def ct_76 : List (Option mc_E) := [some (.aload_n 0, 1, 0, 0, 0, 0), some (.iload_n 1, 1, 0, 0, 0, 0), some (.invokevirtual 199, 3, 98, 0, 510, 0), none, none, some (.ifCond .eq 5, 3, 0, 0, 0, 0), none, none, some (.iconst (-1), 1, 0, 0, 0, 0), some (.ireturn, 1, 0, 0, 0, 0), some (.aload_n 0, 1, 0, 0, 0, 0), some (.getfield 12, 3, 7, 0, 281, 0), none, none, some (.invokevirtual 202, 3, 44, 0, 514, 0), none, none, some (.iload_n 1, 1, 0, 0, 0, 0), some (.ishr, 1, 0, 0, 0, 0), some (.iconst 1, 1, 0, 0, 0, 0), some (.iand, 1, 0, 0, 0, 0), some (.ireturn, 1, 0, 0, 0, 0)]
def ct_77 : List (Option mc_E) := [some (.aload_n 0, 1, 0, 0, 0, 0), some (.iload_n 1, 1, 0, 0, 0, 0), some (.invokevirtual 199, 3, 98, 0, 510, 0), none, none, some (.ifCond .ne 11, 3, 0, 0, 0, 0), none, none, some (.aload_n 0, 1, 0, 0, 0, 0), some (.iload_n 2, 1, 0, 0, 0, 0), some (.invokevirtual 199, 3, 98, 0, 510, 0), none, none, some (.ifCond .eq 5, 3, 0, 0, 0, 0), none, none, some (.iconst (-1), 1, 0, 0, 0, 0), some (.ireturn, 1, 0, 0, 0, 0), some (.aload_n 0, 1, 0, 0, 0, 0), some (.getfield 33, 3, 7, 3, 284, 0), none, none, some (.aload_n 0, 1, 0, 0, 0, 0), some (.getfield 12, 3, 7, 0, 281, 0), none, none, some (.invokevirtual 205, 3, 20, 0, 522, 0), none, none, some (.aload_n 0, 1, 0, 0, 0, 0), some (.getfield 33, 3, 7, 3, 284, 0), none, none, some (.iload_n 1, 1, 0, 0, 0, 0), some (.iload_n 2, 1, 0, 0, 0, 0), some (.invokevirtual 209, 3, 19, 0, 542, 0), none, none, some (.ireturn, 1, 0, 0, 0, 0)]
def ct_78 : List (Option mc_E) := [some (.aload_n 0, 1, 0, 0, 0, 0), some (.getfield 12, 3, 7, 0, 281, 0), none, none, some (.invokevirtual 144, 3, 32, 0, 454, 0), none, none, some (.ifCond .eq 6, 3, 0, 0, 0, 0), none, none, some (.bipush (-2), 2, 0, 0, 0, 0), none, some (.ireturn, 1, 0, 0, 0, 0), some (.aload_n 0, 1, 0, 0, 0, 0), some (.getfield 33, 3, 7, 3, 284, 0), none, none, some (.aload_n 0, 1, 0, 0, 0, 0), some (.getfield 12, 3, 7, 0, 281, 0), none, none, some (.invokevirtual 205, 3, 20, 0, 522, 0), none, none, some (.aload_n 0, 1, 0, 0, 0, 0), some (.getfield 33, 3, 7, 3, 284, 0), none, none, some (.aload_n 0, 1, 0, 0, 0, 0), some (.getfield 12, 3, 7, 0, 281, 0), none, none, some (.invokevirtual 202, 3, 44, 0, 514, 0), none, none, some (.invokevirtual 212, 3, 23, 0, 547, 0), none, none, some (.ireturn, 1, 0, 0, 0, 0)]
def ct_79 : List (Option mc_E) := [some (.aload_n 0, 1, 0, 0, 0, 0), some (.iload_n 1, 1, 0, 0, 0, 0), some (.invokevirtual 141, 3, 99, 0, 446, 0), none, none, some (.ifCond .eq 5, 3, 0, 0, 0, 0), none, none, some (.iconst (-1), 1, 0, 0, 0, 0), some (.ireturn, 1, 0, 0, 0, 0), some (.aload_n 0, 1, 0, 0, 0, 0), some (.getfield 12, 3, 7, 0, 281, 0), none, none, some (.iload_n 1, 1, 0, 0, 0, 0), some (.invokevirtual 215, 3, 37, 0, 568, 0), none, none, some (.ireturn, 1, 0, 0, 0, 0)]
def ct_80 : List (Option mc_E) := [some (.aload_n 0, 1, 0, 0, 0, 0), some (.invokevirtual 218, 3, 110, 0, 573, 0), none, none, some (.getfield 222, 3, 2, 5, 210, 0), none, none, some (.ireturn, 1, 0, 0, 0, 0)]
def ct_81 : List (Option mc_E) := [some (.aload_n 0, 1, 0, 0, 0, 0), some (.invokevirtual 218, 3, 110, 0, 573, 0), none, none, some (.astore_n 1, 1, 0, 0, 0, 0), some (.aload_n 1, 1, 0, 0, 0, 0), some (.aload_n 1, 1, 0, 0, 0, 0), some (.getfield 222, 3, 2, 5, 210, 0), none, none, some (.invokevirtual 225, 3, 14, 0, 604, 0), none, none, some (.ireturn, 1, 0, 0, 0, 0)]
def ct_82 : List (Option mc_E) := [some (.iload_n 1, 1, 0, 0, 0, 0), some (.ifCond .ge 5, 3, 0, 0, 0, 0), none, none, some (.iconst (-1), 1, 0, 0, 0, 0), some (.ireturn, 1, 0, 0, 0, 0), some (.aload_n 0, 1, 0, 0, 0, 0), some (.invokevirtual 218, 3, 110, 0, 573, 0), none, none, some (.astore_n 2, 1, 0, 0, 0, 0), some (.aload_n 2, 1, 0, 0, 0, 0), some (.aload_n 2, 1, 0, 0, 0, 0), some (.getfield 222, 3, 2, 5, 210, 0), none, none, some (.iload_n 1, 1, 0, 0, 0, 0), some (.invokevirtual 228, 3, 15, 0, 612, 0), none, none, some (.ireturn, 1, 0, 0, 0, 0)]
def ct_83 : List (Option mc_E) := [some (.aload_n 0, 1, 0, 0, 0, 0), some (.iload_n 1, 1, 0, 0, 0, 0), some (.invokevirtual 132, 3, 97, 0, 435, 0), none, none, some (.ifCond .eq 6, 3, 0, 0, 0, 0), none, none, some (.ldc 113, 2, 0, 0, 371, -1000000), none, some (.ireturn, 1, 0, 0, 0, 0), some (.aload_n 0, 1, 0, 0, 0, 0), some (.getfield 12, 3, 7, 0, 281, 0), none, none, some (.aload_n 0, 1, 0, 0, 0, 0), some (.getfield 12, 3, 7, 0, 281, 0), none, none, some (.getfield 52, 3, 4, 0, 166, 0), none, none, some (.getfield 180, 3, 0, 6, 97, 0), none, none, some (.iload_n 1, 1, 0, 0, 0, 0), some (.iaload, 1, 0, 0, 0, 0), some (.invokevirtual 98, 3, 28, 0, 346, 0), none, none, some (.istore_n 2, 1, 0, 0, 0, 0), some (.aload_n 0, 1, 0, 0, 0, 0), some (.getfield 12, 3, 7, 0, 281, 0), none, none, some (.aload_n 0, 1, 0, 0, 0, 0), some (.getfield 12, 3, 7, 0, 281, 0), none, none, some (.getfield 52, 3, 4, 0, 166, 0), none, none, some (.getfield 183, 3, 0, 7, 101, 0), none, none, some (.iload_n 1, 1, 0, 0, 0, 0), some (.iaload, 1, 0, 0, 0, 0), some (.invokevirtual 98, 3, 28, 0, 346, 0), none, none, some (.istore_n 3, 1, 0, 0, 0, 0), some (.aload_n 0, 1, 0, 0, 0, 0), some (.invokevirtual 218, 3, 110, 0, 573, 0), none, none, some (.iload_n 2, 1, 0, 0, 0, 0), some (.iload_n 3, 1, 0, 0, 0, 0), some (.invokevirtual 231, 3, 17, 0, 620, 0), none, none, some (.ireturn, 1, 0, 0, 0, 0)]
def ct_84 : List (Option mc_E) := [some (.iload_n 1, 1, 0, 0, 0, 0), some (.ifCond .ge 5, 3, 0, 0, 0, 0), none, none, some (.iconst (-1), 1, 0, 0, 0, 0), some (.ireturn, 1, 0, 0, 0, 0), some (.aload_n 0, 1, 0, 0, 0, 0), some (.invokevirtual 218, 3, 110, 0, 573, 0), none, none, some (.iload_n 1, 1, 0, 0, 0, 0), some (.invokevirtual 225, 3, 14, 0, 604, 0), none, none, some (.ireturn, 1, 0, 0, 0, 0)]
def ct_85 : List (Option mc_E) := [some (.iload_n 1, 1, 0, 0, 0, 0), some (.ifCond .lt 7, 3, 0, 0, 0, 0), none, none, some (.iload_n 2, 1, 0, 0, 0, 0), some (.ifCond .ge 5, 3, 0, 0, 0, 0), none, none, some (.iconst (-1), 1, 0, 0, 0, 0), some (.ireturn, 1, 0, 0, 0, 0), some (.aload_n 0, 1, 0, 0, 0, 0), some (.invokevirtual 218, 3, 110, 0, 573, 0), none, none, some (.iload_n 1, 1, 0, 0, 0, 0), some (.iload_n 2, 1, 0, 0, 0, 0), some (.invokevirtual 228, 3, 15, 0, 612, 0), none, none, some (.ireturn, 1, 0, 0, 0, 0)]
def ct_86 : List (Option mc_E) := [some (.aload_n 0, 1, 0, 0, 0, 0), some (.invokevirtual 218, 3, 110, 0, 573, 0), none, none, some (.iload_n 1, 1, 0, 0, 0, 0), some (.invokevirtual 234, 3, 16, 0, 636, 0), none, none, some (.ireturn, 1, 0, 0, 0, 0)]
def ct_87 : List (Option mc_E) := [some (.iload_n 1, 1, 0, 0, 0, 0), some (.invokestatic 237, 3, 101, 0, 641, 0), none, none, some (.ifCond .ne 15, 3, 0, 0, 0, 0), none, none, some (.iload_n 2, 1, 0, 0, 0, 0), some (.invokestatic 240, 3, 102, 0, 644, 0), none, none, some (.ifCond .ne 8, 3, 0, 0, 0, 0), none, none, some (.iload_n 3, 1, 0, 0, 0, 0), some (.iconst 4, 1, 0, 0, 0, 0), some (.if_icmp .le 9, 3, 0, 0, 0, 0), none, none, some (.aload_n 0, 1, 0, 0, 0, 0), some (.iconst (-1), 1, 0, 0, 0, 0), some (.invokevirtual 243, 3, 104, 0, 647, 0), none, none, some (.ireturn, 1, 0, 0, 0, 0), some (.iload_n 3, 1, 0, 0, 0, 0), some (.ifCond .ge 10, 3, 0, 0, 0, 0), none, none, some (.aload_n 0, 1, 0, 0, 0, 0), some (.bipush (-15), 2, 0, 0, 0, 0), none, some (.invokevirtual 243, 3, 104, 0, 647, 0), none, none, some (.ireturn, 1, 0, 0, 0, 0), some (.aload_n 0, 1, 0, 0, 0, 0), some (.getfield 39, 3, 7, 4, 285, 0), none, none, some (.iload_n 1, 1, 0, 0, 0, 0), some (.aaload, 1, 0, 0, 0, 0), some (.iload_n 2, 1, 0, 0, 0, 0), some (.iload_n 3, 1, 0, 0, 0, 0), some (.invokevirtual 246, 3, 50, 0, 651, 0), none, none, some (.aload_n 0, 1, 0, 0, 0, 0), some (.iconst 1, 1, 0, 0, 0, 0), some (.invokevirtual 249, 3, 105, 0, 656, 0), none, none, some (.ireturn, 1, 0, 0, 0, 0)]
def ct_88 : List (Option mc_E) := [some (.iload_n 1, 1, 0, 0, 0, 0), some (.invokestatic 237, 3, 101, 0, 641, 0), none, none, some (.ifCond .ne 9, 3, 0, 0, 0, 0), none, none, some (.iload_n 3, 1, 0, 0, 0, 0), some (.bipush 12, 2, 0, 0, 0, 0), none, some (.if_icmp .le 9, 3, 0, 0, 0, 0), none, none, some (.aload_n 0, 1, 0, 0, 0, 0), some (.iconst (-1), 1, 0, 0, 0, 0), some (.invokevirtual 243, 3, 104, 0, 647, 0), none, none, some (.ireturn, 1, 0, 0, 0, 0), some (.aload_n 0, 1, 0, 0, 0, 0), some (.getfield 39, 3, 7, 4, 285, 0), none, none, some (.iload_n 1, 1, 0, 0, 0, 0), some (.aaload, 1, 0, 0, 0, 0), some (.invokevirtual 252, 3, 49, 0, 664, 0), none, none, some (.ifCond .eq 10, 3, 0, 0, 0, 0), none, none, some (.aload_n 0, 1, 0, 0, 0, 0), some (.bipush (-11), 2, 0, 0, 0, 0), none, some (.invokevirtual 243, 3, 104, 0, 647, 0), none, none, some (.ireturn, 1, 0, 0, 0, 0), some (.aload_n 0, 1, 0, 0, 0, 0), some (.getfield 39, 3, 7, 4, 285, 0), none, none, some (.iload_n 1, 1, 0, 0, 0, 0), some (.aaload, 1, 0, 0, 0, 0), some (.iload_n 2, 1, 0, 0, 0, 0), some (.invokevirtual 256, 3, 51, 0, 668, 0), none, none, some (.ifCond .eq 10, 3, 0, 0, 0, 0), none, none, some (.aload_n 0, 1, 0, 0, 0, 0), some (.bipush (-12), 2, 0, 0, 0, 0), none, some (.invokevirtual 243, 3, 104, 0, 647, 0), none, none, some (.ireturn, 1, 0, 0, 0, 0), some (.iload_n 3, 1, 0, 0, 0, 0), some (.ifCond .ge 10, 3, 0, 0, 0, 0), none, none, some (.aload_n 0, 1, 0, 0, 0, 0), some (.bipush (-15), 2, 0, 0, 0, 0), none, some (.invokevirtual 243, 3, 104, 0, 647, 0), none, none, some (.ireturn, 1, 0, 0, 0, 0), some (.aload_n 0, 1, 0, 0, 0, 0), some (.getfield 39, 3, 7, 4, 285, 0), none, none, some (.iload_n 1, 1, 0, 0, 0, 0), some (.aaload, 1, 0, 0, 0, 0), some (.iload_n 2, 1, 0, 0, 0, 0), some (.iload_n 3, 1, 0, 0, 0, 0), some (.invokevirtual 259, 3, 53, 0, 672, 0), none, none, some (.aload_n 0, 1, 0, 0, 0, 0), some (.iconst 1, 1, 0, 0, 0, 0), some (.invokevirtual 249, 3, 105, 0, 656, 0), none, none, some (.ireturn, 1, 0, 0, 0, 0)]
def ct_89 : List (Option mc_E) := [some (.aload_n 0, 1, 0, 0, 0, 0), some (.iload_n 1, 1, 0, 0, 0, 0), some (.iload_n 2, 1, 0, 0, 0, 0), some (.iload_n 3, 1, 0, 0, 0, 0), some (.iload 4, 2, 0, 0, 0, 0), none, some (.invokevirtual 262, 3, 106, 0, 684, 0), none, none, some (.istore 6, 2, 0, 0, 0, 0), none, some (.iload 6, 2, 0, 0, 0, 0), none, some (.ifCond .eq 10, 3, 0, 0, 0, 0), none, none, some (.aload_n 0, 1, 0, 0, 0, 0), some (.iload 6, 2, 0, 0, 0, 0), none, some (.invokevirtual 243, 3, 104, 0, 647, 0), none, none, some (.ireturn, 1, 0, 0, 0, 0), some (.aload_n 0, 1, 0, 0, 0, 0), some (.getfield 39, 3, 7, 4, 285, 0), none, none, some (.iload_n 1, 1, 0, 0, 0, 0), some (.aaload, 1, 0, 0, 0, 0), some (.iload_n 3, 1, 0, 0, 0, 0), some (.iload 4, 2, 0, 0, 0, 0), none, some (.iload 5, 2, 0, 0, 0, 0), none, some (.invokevirtual 266, 3, 58, 0, 697, 0), none, none, some (.aload_n 0, 1, 0, 0, 0, 0), some (.iconst 1, 1, 0, 0, 0, 0), some (.invokevirtual 249, 3, 105, 0, 656, 0), none, none, some (.ireturn, 1, 0, 0, 0, 0)]
def ct_90 : List (Option mc_E) := [some (.aload_n 0, 1, 0, 0, 0, 0), some (.aload_n 0, 1, 0, 0, 0, 0), some (.iload_n 1, 1, 0, 0, 0, 0), some (.iload_n 2, 1, 0, 0, 0, 0), some (.iload_n 3, 1, 0, 0, 0, 0), some (.iload 4, 2, 0, 0, 0, 0), none, some (.invokevirtual 262, 3, 106, 0, 684, 0), none, none, some (.putfield 47, 3, 7, 6, 287, 0), none, none, some (.aload_n 0, 1, 0, 0, 0, 0), some (.getfield 47, 3, 7, 6, 287, 0), none, none, some (.ifCond .ne 18, 3, 0, 0, 0, 0), none, none, some (.aload_n 0, 1, 0, 0, 0, 0), some (.getfield 39, 3, 7, 4, 285, 0), none, none, some (.iload_n 1, 1, 0, 0, 0, 0), some (.aaload, 1, 0, 0, 0, 0), some (.iload_n 3, 1, 0, 0, 0, 0), some (.iload 4, 2, 0, 0, 0, 0), none, some (.invokevirtual 270, 3, 55, 0, 709, 0), none, none, some (.goto 4, 3, 0, 0, 0, 0), none, none, some (.iconst 0, 1, 0, 0, 0, 0), some (.ireturn, 1, 0, 0, 0, 0)]
def ct_91 : List (Option mc_E) := [some (.iload_n 1, 1, 0, 0, 0, 0), some (.invokestatic 237, 3, 101, 0, 641, 0), none, none, some (.ifCond .ne 11, 3, 0, 0, 0, 0), none, none, some (.iload 4, 2, 0, 0, 0, 0), none, some (.invokestatic 237, 3, 101, 0, 641, 0), none, none, some (.ifCond .eq 9, 3, 0, 0, 0, 0), none, none, some (.aload_n 0, 1, 0, 0, 0, 0), some (.iconst (-1), 1, 0, 0, 0, 0), some (.invokevirtual 243, 3, 104, 0, 647, 0), none, none, some (.ireturn, 1, 0, 0, 0, 0), some (.aload_n 0, 1, 0, 0, 0, 0), some (.getfield 39, 3, 7, 4, 285, 0), none, none, some (.iload_n 1, 1, 0, 0, 0, 0), some (.aaload, 1, 0, 0, 0, 0), some (.astore 8, 2, 0, 0, 0, 0), none, some (.aload_n 0, 1, 0, 0, 0, 0), some (.getfield 39, 3, 7, 4, 285, 0), none, none, some (.iload 4, 2, 0, 0, 0, 0), none, some (.aaload, 1, 0, 0, 0, 0), some (.astore 9, 2, 0, 0, 0, 0), none, some (.aload 8, 2, 0, 0, 0, 0), none, some (.iload_n 2, 1, 0, 0, 0, 0), some (.aload 9, 2, 0, 0, 0, 0), none, some (.iload 5, 2, 0, 0, 0, 0), none, some (.invokestatic 273, 3, 107, 0, 717, 0), none, none, some (.istore 10, 2, 0, 0, 0, 0), none, some (.iload 10, 2, 0, 0, 0, 0), none, some (.ifCond .eq 10, 3, 0, 0, 0, 0), none, none, some (.aload_n 0, 1, 0, 0, 0, 0), some (.iload 10, 2, 0, 0, 0, 0), none, some (.invokevirtual 243, 3, 104, 0, 647, 0), none, none, some (.ireturn, 1, 0, 0, 0, 0), some (.aload 8, 2, 0, 0, 0, 0), none, some (.iload_n 2, 1, 0, 0, 0, 0), some (.iload_n 3, 1, 0, 0, 0, 0), some (.iload 7, 2, 0, 0, 0, 0), none, some (.invokevirtual 277, 3, 57, 0, 721, 0), none, none, some (.ifCond .ne 17, 3, 0, 0, 0, 0), none, none, some (.aload 9, 2, 0, 0, 0, 0), none, some (.iload 5, 2, 0, 0, 0, 0), none, some (.iload 6, 2, 0, 0, 0, 0), none, some (.iload 7, 2, 0, 0, 0, 0), none, some (.invokevirtual 277, 3, 57, 0, 721, 0), none, none, some (.ifCond .eq 10, 3, 0, 0, 0, 0), none, none, some (.aload_n 0, 1, 0, 0, 0, 0), some (.bipush (-12), 2, 0, 0, 0, 0), none, some (.invokevirtual 243, 3, 104, 0, 647, 0), none, none, some (.ireturn, 1, 0, 0, 0, 0), some (.aload 8, 2, 0, 0, 0, 0), none, some (.getfield 281, 3, 6, 3, 249, 0), none, none, some (.aload 8, 2, 0, 0, 0, 0), none, some (.iload_n 2, 1, 0, 0, 0, 0), some (.iload_n 3, 1, 0, 0, 0, 0), some (.invokevirtual 284, 3, 54, 0, 725, 0), none, none, some (.aload 9, 2, 0, 0, 0, 0), none, some (.getfield 281, 3, 6, 3, 249, 0), none, none, some (.aload 9, 2, 0, 0, 0, 0), none, some (.iload 5, 2, 0, 0, 0, 0), none, some (.iload 6, 2, 0, 0, 0, 0), none, some (.invokevirtual 284, 3, 54, 0, 725, 0), none, none, some (.iload 7, 2, 0, 0, 0, 0), none, some (.invokestatic 287, 3, 998, 0, 726, 0), none, none, some (.aload_n 0, 1, 0, 0, 0, 0), some (.iload 7, 2, 0, 0, 0, 0), none, some (.invokevirtual 249, 3, 105, 0, 656, 0), none, none, some (.ireturn, 1, 0, 0, 0, 0)]
def ct_92 : List (Option mc_E) := [some (.iload_n 1, 1, 0, 0, 0, 0), some (.invokestatic 237, 3, 101, 0, 641, 0), none, none, some (.ifCond .ne 29, 3, 0, 0, 0, 0), none, none, some (.iload_n 3, 1, 0, 0, 0, 0), some (.ifCond .lt 25, 3, 0, 0, 0, 0), none, none, some (.iload 4, 2, 0, 0, 0, 0), none, some (.ifCond .lt 20, 3, 0, 0, 0, 0), none, none, some (.iload 4, 2, 0, 0, 0, 0), none, some (.aload_n 0, 1, 0, 0, 0, 0), some (.getfield 12, 3, 7, 0, 281, 0), none, none, some (.getfield 52, 3, 4, 0, 166, 0), none, none, some (.getfield 78, 3, 0, 3, 86, 0), none, none, some (.iload_n 3, 1, 0, 0, 0, 0), some (.isub, 1, 0, 0, 0, 0), some (.if_icmp .le 9, 3, 0, 0, 0, 0), none, none, some (.aload_n 0, 1, 0, 0, 0, 0), some (.iconst (-1), 1, 0, 0, 0, 0), some (.invokevirtual 243, 3, 104, 0, 647, 0), none, none, some (.ireturn, 1, 0, 0, 0, 0), some (.aload_n 0, 1, 0, 0, 0, 0), some (.getfield 39, 3, 7, 4, 285, 0), none, none, some (.iload_n 1, 1, 0, 0, 0, 0), some (.aaload, 1, 0, 0, 0, 0), some (.iload_n 2, 1, 0, 0, 0, 0), some (.iload 4, 2, 0, 0, 0, 0), none, some (.invokestatic 293, 3, 108, 0, 731, 0), none, none, some (.istore 5, 2, 0, 0, 0, 0), none, some (.iload 5, 2, 0, 0, 0, 0), none, some (.ifCond .eq 10, 3, 0, 0, 0, 0), none, none, some (.aload_n 0, 1, 0, 0, 0, 0), some (.iload 5, 2, 0, 0, 0, 0), none, some (.invokevirtual 243, 3, 104, 0, 647, 0), none, none, some (.ireturn, 1, 0, 0, 0, 0), some (.aload_n 0, 1, 0, 0, 0, 0), some (.invokevirtual 88, 3, 109, 0, 330, 0), none, none, some (.iconst 0, 1, 0, 0, 0, 0), some (.istore 6, 2, 0, 0, 0, 0), none, some (.iload 6, 2, 0, 0, 0, 0), none, some (.iload 4, 2, 0, 0, 0, 0), none, some (.if_icmp .ge 36, 3, 0, 0, 0, 0), none, none, some (.aload_n 0, 1, 0, 0, 0, 0), some (.getfield 12, 3, 7, 0, 281, 0), none, none, some (.getfield 62, 3, 4, 1, 171, 0), none, none, some (.getfield 138, 3, 5, 4, 152, 0), none, none, some (.iload_n 3, 1, 0, 0, 0, 0), some (.iload 6, 2, 0, 0, 0, 0), none, some (.iadd, 1, 0, 0, 0, 0), some (.aload_n 0, 1, 0, 0, 0, 0), some (.getfield 39, 3, 7, 4, 285, 0), none, none, some (.iload_n 1, 1, 0, 0, 0, 0), some (.aaload, 1, 0, 0, 0, 0), some (.iload_n 2, 1, 0, 0, 0, 0), some (.iload 6, 2, 0, 0, 0, 0), none, some (.invokevirtual 270, 3, 55, 0, 709, 0), none, none, some (.iastore, 1, 0, 0, 0, 0), some (.iinc 6 1, 3, 0, 0, 0, 0), none, none, some (.goto (-37), 3, 0, 0, 0, 0), none, none, some (.aload_n 0, 1, 0, 0, 0, 0), some (.iload 4, 2, 0, 0, 0, 0), none, some (.invokevirtual 249, 3, 105, 0, 656, 0), none, none, some (.ireturn, 1, 0, 0, 0, 0)]
def ct_93 : List (Option mc_E) := [some (.iload_n 1, 1, 0, 0, 0, 0), some (.tableswitch 132 0 7 #[47, 58, 69, 80, 91, 102, 113, 124], 47, 0, 0, 0, 0), none, none, none, none, none, none, none, none, none, none, none, none, none, none, none, none, none, none, none, none, none, none, none, none, none, none, none, none, none, none, none, none, none, none, none, none, none, none, none, none, none, none, none, none, none, none, some (.aload_n 0, 1, 0, 0, 0, 0), some (.getfield 12, 3, 7, 0, 281, 0), none, none, some (.getfield 52, 3, 4, 0, 166, 0), none, none, some (.getfield 297, 3, 0, 0, 78, 0), none, none, some (.ireturn, 1, 0, 0, 0, 0), some (.aload_n 0, 1, 0, 0, 0, 0), some (.getfield 12, 3, 7, 0, 281, 0), none, none, some (.getfield 52, 3, 4, 0, 166, 0), none, none, some (.getfield 300, 3, 0, 1, 80, 0), none, none, some (.ireturn, 1, 0, 0, 0, 0), some (.aload_n 0, 1, 0, 0, 0, 0), some (.getfield 12, 3, 7, 0, 281, 0), none, none, some (.getfield 52, 3, 4, 0, 166, 0), none, none, some (.getfield 303, 3, 0, 2, 84, 0), none, none, some (.ireturn, 1, 0, 0, 0, 0), some (.aload_n 0, 1, 0, 0, 0, 0), some (.getfield 12, 3, 7, 0, 281, 0), none, none, some (.getfield 52, 3, 4, 0, 166, 0), none, none, some (.getfield 78, 3, 0, 3, 86, 0), none, none, some (.ireturn, 1, 0, 0, 0, 0), some (.aload_n 0, 1, 0, 0, 0, 0), some (.getfield 12, 3, 7, 0, 281, 0), none, none, some (.getfield 52, 3, 4, 0, 166, 0), none, none, some (.getfield 306, 3, 0, 4, 92, 0), none, none, some (.ireturn, 1, 0, 0, 0, 0), some (.aload_n 0, 1, 0, 0, 0, 0), some (.getfield 12, 3, 7, 0, 281, 0), none, none, some (.invokevirtual 144, 3, 32, 0, 454, 0), none, none, some (.invokestatic 309, 3, 175, 0, 738, 0), none, none, some (.ireturn, 1, 0, 0, 0, 0), some (.aload_n 0, 1, 0, 0, 0, 0), some (.getfield 12, 3, 7, 0, 281, 0), none, none, some (.invokevirtual 202, 3, 44, 0, 514, 0), none, none, some (.invokestatic 309, 3, 175, 0, 738, 0), none, none, some (.ireturn, 1, 0, 0, 0, 0), some (.aload_n 0, 1, 0, 0, 0, 0), some (.getfield 19, 3, 7, 1, 282, 0), none, none, some (.getfield 153, 3, 1, 2, 189, 0), none, none, some (.ireturn, 1, 0, 0, 0, 0), some (.iconst (-1), 1, 0, 0, 0, 0), some (.ireturn, 1, 0, 0, 0, 0)]
def ct_94 : List (Option mc_E) := [some (.aload_n 0, 1, 0, 0, 0, 0), some (.getfield 43, 3, 7, 5, 286, 0), none, none, some (.lreturn, 1, 0, 0, 0, 0)]
def ct_95 : List (Option mc_E) := [some (.aload_n 0, 1, 0, 0, 0, 0), some (.getfield 47, 3, 7, 6, 287, 0), none, none, some (.ireturn, 1, 0, 0, 0, 0)]
def ct_96 : List (Option mc_E) := [some (.iload_n 1, 1, 0, 0, 0, 0), some (.ifCond .lt 17, 3, 0, 0, 0, 0), none, none, some (.iload_n 1, 1, 0, 0, 0, 0), some (.aload_n 0, 1, 0, 0, 0, 0), some (.getfield 12, 3, 7, 0, 281, 0), none, none, some (.getfield 52, 3, 4, 0, 166, 0), none, none, some (.getfield 303, 3, 0, 2, 84, 0), none, none, some (.if_icmp .lt 7, 3, 0, 0, 0, 0), none, none, some (.iconst 1, 1, 0, 0, 0, 0), some (.goto 4, 3, 0, 0, 0, 0), none, none, some (.iconst 0, 1, 0, 0, 0, 0), some (.ireturn, 1, 0, 0, 0, 0)]
def ct_97 : List (Option mc_E) := [some (.iload_n 1, 1, 0, 0, 0, 0), some (.ifCond .lt 17, 3, 0, 0, 0, 0), none, none, some (.iload_n 1, 1, 0, 0, 0, 0), some (.aload_n 0, 1, 0, 0, 0, 0), some (.getfield 12, 3, 7, 0, 281, 0), none, none, some (.getfield 52, 3, 4, 0, 166, 0), none, none, some (.getfield 78, 3, 0, 3, 86, 0), none, none, some (.if_icmp .lt 7, 3, 0, 0, 0, 0), none, none, some (.iconst 1, 1, 0, 0, 0, 0), some (.goto 4, 3, 0, 0, 0, 0), none, none, some (.iconst 0, 1, 0, 0, 0, 0), some (.ireturn, 1, 0, 0, 0, 0)]
def ct_98 : List (Option mc_E) := [some (.iload_n 1, 1, 0, 0, 0, 0), some (.ifCond .lt 17, 3, 0, 0, 0, 0), none, none, some (.iload_n 1, 1, 0, 0, 0, 0), some (.aload_n 0, 1, 0, 0, 0, 0), some (.getfield 12, 3, 7, 0, 281, 0), none, none, some (.getfield 52, 3, 4, 0, 166, 0), none, none, some (.getfield 306, 3, 0, 4, 92, 0), none, none, some (.if_icmp .lt 7, 3, 0, 0, 0, 0), none, none, some (.iconst 1, 1, 0, 0, 0, 0), some (.goto 4, 3, 0, 0, 0, 0), none, none, some (.iconst 0, 1, 0, 0, 0, 0), some (.ireturn, 1, 0, 0, 0, 0)]
def ct_99 : List (Option mc_E) := [some (.iload_n 1, 1, 0, 0, 0, 0), some (.ifCond .lt 14, 3, 0, 0, 0, 0), none, none, some (.iload_n 1, 1, 0, 0, 0, 0), some (.aload_n 0, 1, 0, 0, 0, 0), some (.getfield 12, 3, 7, 0, 281, 0), none, none, some (.invokevirtual 314, 3, 27, 0, 450, 0), none, none, some (.if_icmp .lt 7, 3, 0, 0, 0, 0), none, none, some (.iconst 1, 1, 0, 0, 0, 0), some (.goto 4, 3, 0, 0, 0, 0), none, none, some (.iconst 0, 1, 0, 0, 0, 0), some (.ireturn, 1, 0, 0, 0, 0)]
def ct_100 : List (Option mc_E) := [some (.iload_n 0, 1, 0, 0, 0, 0), some (.sipush (-1000), 3, 0, 0, 0, 0), none, none, some (.if_icmp .lt 10, 3, 0, 0, 0, 0), none, none, some (.iload_n 0, 1, 0, 0, 0, 0), some (.sipush 1000, 3, 0, 0, 0, 0), none, none, some (.if_icmp .le 7, 3, 0, 0, 0, 0), none, none, some (.iconst 1, 1, 0, 0, 0, 0), some (.goto 4, 3, 0, 0, 0, 0), none, none, some (.iconst 0, 1, 0, 0, 0, 0), some (.ireturn, 1, 0, 0, 0, 0)]
def ct_101 : List (Option mc_E) := [some (.iload_n 0, 1, 0, 0, 0, 0), some (.ifCond .lt 8, 3, 0, 0, 0, 0), none, none, some (.iload_n 0, 1, 0, 0, 0, 0), some (.iconst 4, 1, 0, 0, 0, 0), some (.if_icmp .lt 7, 3, 0, 0, 0, 0), none, none, some (.iconst 1, 1, 0, 0, 0, 0), some (.goto 4, 3, 0, 0, 0, 0), none, none, some (.iconst 0, 1, 0, 0, 0, 0), some (.ireturn, 1, 0, 0, 0, 0)]
def ct_102 : List (Option mc_E) := [some (.iload_n 0, 1, 0, 0, 0, 0), some (.ifCond .lt 8, 3, 0, 0, 0, 0), none, none, some (.iload_n 0, 1, 0, 0, 0, 0), some (.iconst 3, 1, 0, 0, 0, 0), some (.if_icmp .lt 7, 3, 0, 0, 0, 0), none, none, some (.iconst 1, 1, 0, 0, 0, 0), some (.goto 4, 3, 0, 0, 0, 0), none, none, some (.iconst 0, 1, 0, 0, 0, 0), some (.ireturn, 1, 0, 0, 0, 0)]
def ct_103 : List (Option mc_E) := [some (.iload_n 0, 1, 0, 0, 0, 0), some (.ifCond .eq 7, 3, 0, 0, 0, 0), none, none, some (.iconst 1, 1, 0, 0, 0, 0), some (.goto 4, 3, 0, 0, 0, 0), none, none, some (.iconst 0, 1, 0, 0, 0, 0), some (.ireturn, 1, 0, 0, 0, 0)]
def ct_104 : List (Option mc_E) := [some (.aload_n 0, 1, 0, 0, 0, 0), some (.iload_n 1, 1, 0, 0, 0, 0), some (.putfield 47, 3, 7, 6, 287, 0), none, none, some (.iload_n 1, 1, 0, 0, 0, 0), some (.ireturn, 1, 0, 0, 0, 0)]
def ct_105 : List (Option mc_E) := [some (.aload_n 0, 1, 0, 0, 0, 0), some (.iconst 0, 1, 0, 0, 0, 0), some (.putfield 47, 3, 7, 6, 287, 0), none, none, some (.iload_n 1, 1, 0, 0, 0, 0), some (.ireturn, 1, 0, 0, 0, 0)]
def ct_106 : List (Option mc_E) := [some (.iload_n 1, 1, 0, 0, 0, 0), some (.invokestatic 237, 3, 101, 0, 641, 0), none, none, some (.ifCond .ne 10, 3, 0, 0, 0, 0), none, none, some (.iload_n 2, 1, 0, 0, 0, 0), some (.invokestatic 240, 3, 102, 0, 644, 0), none, none, some (.ifCond .eq 5, 3, 0, 0, 0, 0), none, none, some (.iconst (-1), 1, 0, 0, 0, 0), some (.ireturn, 1, 0, 0, 0, 0), some (.aload_n 0, 1, 0, 0, 0, 0), some (.getfield 39, 3, 7, 4, 285, 0), none, none, some (.iload_n 1, 1, 0, 0, 0, 0), some (.aaload, 1, 0, 0, 0, 0), some (.invokevirtual 252, 3, 49, 0, 664, 0), none, none, some (.ifCond .eq 6, 3, 0, 0, 0, 0), none, none, some (.bipush (-11), 2, 0, 0, 0, 0), none, some (.ireturn, 1, 0, 0, 0, 0), some (.aload_n 0, 1, 0, 0, 0, 0), some (.getfield 39, 3, 7, 4, 285, 0), none, none, some (.iload_n 1, 1, 0, 0, 0, 0), some (.aaload, 1, 0, 0, 0, 0), some (.getfield 317, 3, 6, 0, 245, 0), none, none, some (.iload_n 2, 1, 0, 0, 0, 0), some (.if_icmp .eq 6, 3, 0, 0, 0, 0), none, none, some (.bipush (-13), 2, 0, 0, 0, 0), none, some (.ireturn, 1, 0, 0, 0, 0), some (.aload_n 0, 1, 0, 0, 0, 0), some (.getfield 39, 3, 7, 4, 285, 0), none, none, some (.iload_n 1, 1, 0, 0, 0, 0), some (.aaload, 1, 0, 0, 0, 0), some (.iload_n 3, 1, 0, 0, 0, 0), some (.iload 4, 2, 0, 0, 0, 0), none, some (.invokevirtual 320, 3, 56, 0, 688, 0), none, none, some (.ireturn, 1, 0, 0, 0, 0)]
def ct_107 : List (Option mc_E) := [some (.aload_n 0, 1, 0, 0, 0, 0), some (.invokevirtual 252, 3, 49, 0, 664, 0), none, none, some (.ifCond .ne 10, 3, 0, 0, 0, 0), none, none, some (.aload_n 2, 1, 0, 0, 0, 0), some (.invokevirtual 252, 3, 49, 0, 664, 0), none, none, some (.ifCond .eq 6, 3, 0, 0, 0, 0), none, none, some (.bipush (-11), 2, 0, 0, 0, 0), none, some (.ireturn, 1, 0, 0, 0, 0), some (.aload_n 0, 1, 0, 0, 0, 0), some (.getfield 317, 3, 6, 0, 245, 0), none, none, some (.aload_n 2, 1, 0, 0, 0, 0), some (.getfield 317, 3, 6, 0, 245, 0), none, none, some (.if_icmp .eq 6, 3, 0, 0, 0, 0), none, none, some (.bipush (-13), 2, 0, 0, 0, 0), none, some (.ireturn, 1, 0, 0, 0, 0), some (.aload_n 0, 1, 0, 0, 0, 0), some (.iload_n 1, 1, 0, 0, 0, 0), some (.invokevirtual 256, 3, 51, 0, 668, 0), none, none, some (.ifCond .ne 11, 3, 0, 0, 0, 0), none, none, some (.aload_n 2, 1, 0, 0, 0, 0), some (.iload_n 3, 1, 0, 0, 0, 0), some (.invokevirtual 256, 3, 51, 0, 668, 0), none, none, some (.ifCond .eq 6, 3, 0, 0, 0, 0), none, none, some (.bipush (-12), 2, 0, 0, 0, 0), none, some (.ireturn, 1, 0, 0, 0, 0), some (.aload_n 0, 1, 0, 0, 0, 0), some (.iload_n 1, 1, 0, 0, 0, 0), some (.invokevirtual 323, 3, 52, 0, 720, 0), none, none, some (.ifCond .ne 11, 3, 0, 0, 0, 0), none, none, some (.aload_n 2, 1, 0, 0, 0, 0), some (.iload_n 3, 1, 0, 0, 0, 0), some (.invokevirtual 323, 3, 52, 0, 720, 0), none, none, some (.ifCond .eq 8, 3, 0, 0, 0, 0), none, none, some (.bipush (-11), 2, 0, 0, 0, 0), none, some (.goto 4, 3, 0, 0, 0, 0), none, none, some (.iconst 0, 1, 0, 0, 0, 0), some (.ireturn, 1, 0, 0, 0, 0)]
def ct_108 : List (Option mc_E) := [some (.iconst 0, 1, 0, 0, 0, 0), some (.istore_n 3, 1, 0, 0, 0, 0), some (.iload_n 3, 1, 0, 0, 0, 0), some (.iload_n 2, 1, 0, 0, 0, 0), some (.if_icmp .ge 51, 3, 0, 0, 0, 0), none, none, some (.aload_n 0, 1, 0, 0, 0, 0), some (.invokevirtual 252, 3, 49, 0, 664, 0), none, none, some (.ifCond .eq 8, 3, 0, 0, 0, 0), none, none, some (.bipush (-11), 2, 0, 0, 0, 0), none, some (.goto 9, 3, 0, 0, 0, 0), none, none, some (.aload_n 0, 1, 0, 0, 0, 0), some (.iload_n 1, 1, 0, 0, 0, 0), some (.iload_n 3, 1, 0, 0, 0, 0), some (.invokevirtual 320, 3, 56, 0, 688, 0), none, none, some (.istore 4, 2, 0, 0, 0, 0), none, some (.iload 4, 2, 0, 0, 0, 0), none, some (.ifCond .eq 6, 3, 0, 0, 0, 0), none, none, some (.iload 4, 2, 0, 0, 0, 0), none, some (.ireturn, 1, 0, 0, 0, 0), some (.aload_n 0, 1, 0, 0, 0, 0), some (.iload_n 1, 1, 0, 0, 0, 0), some (.iload_n 3, 1, 0, 0, 0, 0), some (.invokevirtual 270, 3, 55, 0, 709, 0), none, none, some (.invokestatic 135, 3, 100, 0, 439, 0), none, none, some (.ifCond .eq 5, 3, 0, 0, 0, 0), none, none, some (.iconst (-1), 1, 0, 0, 0, 0), some (.ireturn, 1, 0, 0, 0, 0), some (.iinc 3 1, 3, 0, 0, 0, 0), none, none, some (.goto (-50), 3, 0, 0, 0, 0), none, none, some (.iconst 0, 1, 0, 0, 0, 0), some (.ireturn, 1, 0, 0, 0, 0)]
def ct_109 : List (Option mc_E) := [some (.aload_n 0, 1, 0, 0, 0, 0), some (.getfield 19, 3, 7, 1, 282, 0), none, none, some (.aload_n 0, 1, 0, 0, 0, 0), some (.getfield 12, 3, 7, 0, 281, 0), none, none, some (.getfield 62, 3, 4, 1, 171, 0), none, none, some (.invokevirtual 114, 3, 7, 0, 334, 0), none, none, some (.aload_n 0, 1, 0, 0, 0, 0), some (.getfield 26, 3, 7, 2, 283, 0), none, none, some (.iconst 1, 1, 0, 0, 0, 0), some (.putfield 74, 3, 2, 1, 205, 0), none, none, some (.return_, 1, 0, 0, 0, 0)]
def ct_110 : List (Option mc_E) := [some (.aload_n 0, 1, 0, 0, 0, 0), some (.getfield 26, 3, 7, 2, 283, 0), none, none, some (.getfield 74, 3, 2, 1, 205, 0), none, none, some (.ifCond .eq 14, 3, 0, 0, 0, 0), none, none, some (.aload_n 0, 1, 0, 0, 0, 0), some (.getfield 26, 3, 7, 2, 283, 0), none, none, some (.aload_n 0, 1, 0, 0, 0, 0), some (.getfield 12, 3, 7, 0, 281, 0), none, none, some (.invokevirtual 326, 3, 11, 0, 577, 0), none, none, some (.aload_n 0, 1, 0, 0, 0, 0), some (.getfield 26, 3, 7, 2, 283, 0), none, none, some (.areturn, 1, 0, 0, 0, 0)]
def ct_111 : List (Option mc_E) := [some (.aload_n 0, 1, 0, 0, 0, 0), some (.invokespecial 1, 3, 999, 0, 752, 0), none, none, some (.aload_n 0, 1, 0, 0, 0, 0), some (.iconst 3, 1, 0, 0, 0, 0), some (.putfield 7, 3, 8, 3, 756, 0), none, none, some (.aload_n 0, 1, 0, 0, 0, 0), some (.iconst 3, 1, 0, 0, 0, 0), some (.putfield 13, 3, 8, 4, 757, 0), none, none, some (.aload_n 0, 1, 0, 0, 0, 0), some (.bipush 12, 2, 0, 0, 0, 0), none, some (.newarray .int, 2, 0, 0, 0, 0), none, some (.putfield 16, 3, 8, 5, 758, 0), none, none, some (.aload_n 0, 1, 0, 0, 0, 0), some (.bipush 12, 2, 0, 0, 0, 0), none, some (.newarray .int, 2, 0, 0, 0, 0), none, some (.putfield 20, 3, 8, 6, 759, 0), none, none, some (.aload_n 0, 1, 0, 0, 0, 0), some (.bipush 12, 2, 0, 0, 0, 0), none, some (.newarray .int, 2, 0, 0, 0, 0), none, some (.putfield 23, 3, 8, 7, 760, 0), none, none, some (.aload_n 0, 1, 0, 0, 0, 0), some (.bipush 12, 2, 0, 0, 0, 0), none, some (.newarray .boolean, 2, 1, 0, 0, 0), none, some (.putfield 26, 3, 8, 8, 761, 0), none, none, some (.aload_n 0, 1, 0, 0, 0, 0), some (.bipush 24, 2, 0, 0, 0, 0), none, some (.newarray .int, 2, 0, 0, 0, 0), none, some (.putfield 30, 3, 8, 9, 762, 0), none, none, some (.aload_n 0, 1, 0, 0, 0, 0), some (.sipush 1440, 3, 0, 0, 0, 0), none, none, some (.newarray .int, 2, 0, 0, 0, 0), none, some (.putfield 33, 3, 8, 10, 763, 0), none, none, some (.aload_n 0, 1, 0, 0, 0, 0), some (.iconst 4, 1, 0, 0, 0, 0), some (.newarray .boolean, 2, 1, 0, 0, 0), none, some (.putfield 36, 3, 8, 12, 765, 0), none, none, some (.aload_n 0, 1, 0, 0, 0, 0), some (.iconst 4, 1, 0, 0, 0, 0), some (.newarray .int, 2, 0, 0, 0, 0), none, some (.putfield 39, 3, 8, 13, 766, 0), none, none, some (.aload_n 0, 1, 0, 0, 0, 0), some (.iconst 4, 1, 0, 0, 0, 0), some (.newarray .int, 2, 0, 0, 0, 0), none, some (.putfield 42, 3, 8, 14, 767, 0), none, none, some (.aload_n 0, 1, 0, 0, 0, 0), some (.bipush 16, 2, 0, 0, 0, 0), none, some (.newarray .int, 2, 0, 0, 0, 0), none, some (.putfield 45, 3, 8, 15, 768, 0), none, none, some (.aload_n 0, 1, 0, 0, 0, 0), some (.sipush 192, 3, 0, 0, 0, 0), none, none, some (.newarray .int, 2, 0, 0, 0, 0), none, some (.putfield 48, 3, 8, 16, 769, 0), none, none, some (.aload_n 0, 1, 0, 0, 0, 0), some (.bipush 12, 2, 0, 0, 0, 0), none, some (.newarray .int, 2, 0, 0, 0, 0), none, some (.putfield 51, 3, 8, 17, 770, 0), none, none, some (.aload_n 0, 1, 0, 0, 0, 0), some (.bipush 64, 2, 0, 0, 0, 0), none, some (.newarray .int, 2, 0, 0, 0, 0), none, some (.putfield 54, 3, 8, 18, 771, 0), none, none, some (.aload_n 0, 1, 0, 0, 0, 0), some (.sipush 4096, 3, 0, 0, 0, 0), none, none, some (.newarray .int, 2, 0, 0, 0, 0), none, some (.putfield 57, 3, 8, 19, 772, 0), none, none, some (.return_, 1, 0, 0, 0, 0)]
def ct_112 : List (Option mc_E) := [some (.iload_n 0, 1, 0, 0, 0, 0), some (.iload_n 1, 1, 0, 0, 0, 0), some (.if_icmp .lt 12, 3, 0, 0, 0, 0), none, none, some (.iload_n 0, 1, 0, 0, 0, 0), some (.iload_n 2, 1, 0, 0, 0, 0), some (.if_icmp .gt 7, 3, 0, 0, 0, 0), none, none, some (.iconst 1, 1, 0, 0, 0, 0), some (.goto 4, 3, 0, 0, 0, 0), none, none, some (.iconst 0, 1, 0, 0, 0, 0), some (.ireturn, 1, 0, 0, 0, 0)]
def ct_113 : List (Option mc_E) := [some (.aload_n 0, 1, 0, 0, 0, 0), some (.getfield 7, 3, 8, 3, 756, 0), none, none, some (.aload_n 0, 1, 0, 0, 0, 0), some (.getfield 13, 3, 8, 4, 757, 0), none, none, some (.imul, 1, 0, 0, 0, 0), some (.ireturn, 1, 0, 0, 0, 0)]
def ct_114 : List (Option mc_E) := [some (.aload_n 0, 1, 0, 0, 0, 0), some (.getfield 7, 3, 8, 3, 756, 0), none, none, some (.aload_n 0, 1, 0, 0, 0, 0), some (.getfield 13, 3, 8, 4, 757, 0), none, none, some (.iconst 1, 1, 0, 0, 0, 0), some (.isub, 1, 0, 0, 0, 0), some (.imul, 1, 0, 0, 0, 0), some (.ireturn, 1, 0, 0, 0, 0)]
def ct_115 : List (Option mc_E) := [some (.aload_n 0, 1, 0, 0, 0, 0), some (.invokevirtual 63, 3, 114, 0, 826, 0), none, none, some (.aload_n 0, 1, 0, 0, 0, 0), some (.getfield 7, 3, 8, 3, 756, 0), none, none, some (.iconst 1, 1, 0, 0, 0, 0), some (.isub, 1, 0, 0, 0, 0), some (.aload_n 0, 1, 0, 0, 0, 0), some (.getfield 13, 3, 8, 4, 757, 0), none, none, some (.imul, 1, 0, 0, 0, 0), some (.iadd, 1, 0, 0, 0, 0), some (.ireturn, 1, 0, 0, 0, 0)]
def ct_116 : List (Option mc_E) := [some (.aload_n 0, 1, 0, 0, 0, 0), some (.getfield 7, 3, 8, 3, 756, 0), none, none, some (.iconst 1, 1, 0, 0, 0, 0), some (.isub, 1, 0, 0, 0, 0), some (.aload_n 0, 1, 0, 0, 0, 0), some (.getfield 13, 3, 8, 4, 757, 0), none, none, some (.iconst 1, 1, 0, 0, 0, 0), some (.isub, 1, 0, 0, 0, 0), some (.imul, 1, 0, 0, 0, 0), some (.iconst 1, 1, 0, 0, 0, 0), some (.iadd, 1, 0, 0, 0, 0), some (.ireturn, 1, 0, 0, 0, 0)]
def ct_117 : List (Option mc_E) := [some (.iload_n 1, 1, 0, 0, 0, 0), some (.iconst 0, 1, 0, 0, 0, 0), some (.aload_n 0, 1, 0, 0, 0, 0), some (.invokevirtual 67, 3, 113, 0, 838, 0), none, none, some (.iconst 1, 1, 0, 0, 0, 0), some (.isub, 1, 0, 0, 0, 0), some (.invokestatic 70, 3, 112, 0, 819, 0), none, none, some (.ireturn, 1, 0, 0, 0, 0)]
def ct_118 : List (Option mc_E) := [some (.iload_n 1, 1, 0, 0, 0, 0), some (.iconst 0, 1, 0, 0, 0, 0), some (.aload_n 0, 1, 0, 0, 0, 0), some (.invokevirtual 74, 3, 115, 0, 822, 0), none, none, some (.iconst 1, 1, 0, 0, 0, 0), some (.isub, 1, 0, 0, 0, 0), some (.invokestatic 70, 3, 112, 0, 819, 0), none, none, some (.ireturn, 1, 0, 0, 0, 0)]
def ct_119 : List (Option mc_E) := [some (.aload_n 0, 1, 0, 0, 0, 0), some (.getfield 77, 3, 8, 11, 764, 0), none, none, some (.bipush 20, 2, 0, 0, 0, 0), none, some (.if_icmp .ne 43, 3, 0, 0, 0, 0), none, none, some (.iconst 0, 1, 0, 0, 0, 0), some (.istore_n 1, 1, 0, 0, 0, 0), some (.iload_n 1, 1, 0, 0, 0, 0), some (.sipush 1368, 3, 0, 0, 0, 0), none, none, some (.if_icmp .ge 24, 3, 0, 0, 0, 0), none, none, some (.aload_n 0, 1, 0, 0, 0, 0), some (.getfield 33, 3, 8, 10, 763, 0), none, none, some (.iload_n 1, 1, 0, 0, 0, 0), some (.aload_n 0, 1, 0, 0, 0, 0), some (.getfield 33, 3, 8, 10, 763, 0), none, none, some (.iload_n 1, 1, 0, 0, 0, 0), some (.bipush 72, 2, 0, 0, 0, 0), none, some (.iadd, 1, 0, 0, 0, 0), some (.iaload, 1, 0, 0, 0, 0), some (.iastore, 1, 0, 0, 0, 0), some (.iinc 1 1, 3, 0, 0, 0, 0), none, none, some (.goto (-25), 3, 0, 0, 0, 0), none, none, some (.aload_n 0, 1, 0, 0, 0, 0), some (.dup, 1, 0, 0, 0, 0), some (.getfield 77, 3, 8, 11, 764, 0), none, none, some (.iconst 1, 1, 0, 0, 0, 0), some (.isub, 1, 0, 0, 0, 0), some (.putfield 77, 3, 8, 11, 764, 0), none, none, some (.bipush 72, 2, 0, 0, 0, 0), none, some (.aload_n 0, 1, 0, 0, 0, 0), some (.getfield 77, 3, 8, 11, 764, 0), none, none, some (.imul, 1, 0, 0, 0, 0), some (.istore_n 1, 1, 0, 0, 0, 0), some (.iconst 0, 1, 0, 0, 0, 0), some (.istore_n 2, 1, 0, 0, 0, 0), some (.iload_n 2, 1, 0, 0, 0, 0), some (.bipush 12, 2, 0, 0, 0, 0), none, some (.if_icmp .ge 87, 3, 0, 0, 0, 0), none, none, some (.aload_n 0, 1, 0, 0, 0, 0), some (.getfield 33, 3, 8, 10, 763, 0), none, none, some (.iload_n 1, 1, 0, 0, 0, 0), some (.iconst 4, 1, 0, 0, 0, 0), some (.iload_n 2, 1, 0, 0, 0, 0), some (.imul, 1, 0, 0, 0, 0), some (.iadd, 1, 0, 0, 0, 0), some (.aload_n 0, 1, 0, 0, 0, 0), some (.getfield 16, 3, 8, 5, 758, 0), none, none, some (.iload_n 2, 1, 0, 0, 0, 0), some (.iaload, 1, 0, 0, 0, 0), some (.iastore, 1, 0, 0, 0, 0), some (.aload_n 0, 1, 0, 0, 0, 0), some (.getfield 33, 3, 8, 10, 763, 0), none, none, some (.iload_n 1, 1, 0, 0, 0, 0), some (.iconst 4, 1, 0, 0, 0, 0), some (.iload_n 2, 1, 0, 0, 0, 0), some (.imul, 1, 0, 0, 0, 0), some (.iadd, 1, 0, 0, 0, 0), some (.iconst 1, 1, 0, 0, 0, 0), some (.iadd, 1, 0, 0, 0, 0), some (.aload_n 0, 1, 0, 0, 0, 0), some (.getfield 20, 3, 8, 6, 759, 0), none, none, some (.iload_n 2, 1, 0, 0, 0, 0), some (.iaload, 1, 0, 0, 0, 0), some (.iastore, 1, 0, 0, 0, 0), some (.aload_n 0, 1, 0, 0, 0, 0), some (.getfield 33, 3, 8, 10, 763, 0), none, none, some (.iload_n 1, 1, 0, 0, 0, 0), some (.iconst 4, 1, 0, 0, 0, 0), some (.iload_n 2, 1, 0, 0, 0, 0), some (.imul, 1, 0, 0, 0, 0), some (.iadd, 1, 0, 0, 0, 0), some (.iconst 2, 1, 0, 0, 0, 0), some (.iadd, 1, 0, 0, 0, 0), some (.aload_n 0, 1, 0, 0, 0, 0), some (.getfield 23, 3, 8, 7, 760, 0), none, none, some (.iload_n 2, 1, 0, 0, 0, 0), some (.iaload, 1, 0, 0, 0, 0), some (.iastore, 1, 0, 0, 0, 0), some (.aload_n 0, 1, 0, 0, 0, 0), some (.getfield 33, 3, 8, 10, 763, 0), none, none, some (.iload_n 1, 1, 0, 0, 0, 0), some (.iconst 4, 1, 0, 0, 0, 0), some (.iload_n 2, 1, 0, 0, 0, 0), some (.imul, 1, 0, 0, 0, 0), some (.iadd, 1, 0, 0, 0, 0), some (.iconst 3, 1, 0, 0, 0, 0), some (.iadd, 1, 0, 0, 0, 0), some (.aload_n 0, 1, 0, 0, 0, 0), some (.getfield 26, 3, 8, 8, 761, 0), none, none, some (.iload_n 2, 1, 0, 0, 0, 0), some (.baload, 1, 0, 0, 0, 0), some (.ifCond .eq 7, 3, 0, 0, 0, 0), none, none, some (.iconst 1, 1, 0, 0, 0, 0), some (.goto 4, 3, 0, 0, 0, 0), none, none, some (.iconst 0, 1, 0, 0, 0, 0), some (.iastore, 1, 0, 0, 0, 0), some (.iinc 2 1, 3, 0, 0, 0, 0), none, none, some (.goto (-87), 3, 0, 0, 0, 0), none, none, some (.iconst 0, 1, 0, 0, 0, 0), some (.istore_n 2, 1, 0, 0, 0, 0), some (.iload_n 2, 1, 0, 0, 0, 0), some (.bipush 24, 2, 0, 0, 0, 0), none, some (.if_icmp .ge 26, 3, 0, 0, 0, 0), none, none, some (.aload_n 0, 1, 0, 0, 0, 0), some (.getfield 33, 3, 8, 10, 763, 0), none, none, some (.iload_n 1, 1, 0, 0, 0, 0), some (.bipush 48, 2, 0, 0, 0, 0), none, some (.iadd, 1, 0, 0, 0, 0), some (.iload_n 2, 1, 0, 0, 0, 0), some (.iadd, 1, 0, 0, 0, 0), some (.aload_n 0, 1, 0, 0, 0, 0), some (.getfield 30, 3, 8, 9, 762, 0), none, none, some (.iload_n 2, 1, 0, 0, 0, 0), some (.iaload, 1, 0, 0, 0, 0), some (.iastore, 1, 0, 0, 0, 0), some (.iinc 2 1, 3, 0, 0, 0, 0), none, none, some (.goto (-26), 3, 0, 0, 0, 0), none, none, some (.aload_n 0, 1, 0, 0, 0, 0), some (.dup, 1, 0, 0, 0, 0), some (.getfield 77, 3, 8, 11, 764, 0), none, none, some (.iconst 1, 1, 0, 0, 0, 0), some (.iadd, 1, 0, 0, 0, 0), some (.putfield 77, 3, 8, 11, 764, 0), none, none, some (.return_, 1, 0, 0, 0, 0)]
def ct_120 : List (Option mc_E) := [some (.aload_n 0, 1, 0, 0, 0, 0), some (.getfield 23, 3, 8, 7, 760, 0), none, none, some (.iload_n 1, 1, 0, 0, 0, 0), some (.iaload, 1, 0, 0, 0, 0), some (.iconst 1, 1, 0, 0, 0, 0), some (.if_icmp .eq 22, 3, 0, 0, 0, 0), none, none, some (.aload_n 0, 1, 0, 0, 0, 0), some (.getfield 23, 3, 8, 7, 760, 0), none, none, some (.iload_n 1, 1, 0, 0, 0, 0), some (.iaload, 1, 0, 0, 0, 0), some (.iconst 4, 1, 0, 0, 0, 0), some (.if_icmp .ne 16, 3, 0, 0, 0, 0), none, none, some (.aload_n 0, 1, 0, 0, 0, 0), some (.getfield 26, 3, 8, 8, 761, 0), none, none, some (.iload_n 1, 1, 0, 0, 0, 0), some (.baload, 1, 0, 0, 0, 0), some (.ifCond .ne 7, 3, 0, 0, 0, 0), none, none, some (.iconst 1, 1, 0, 0, 0, 0), some (.goto 4, 3, 0, 0, 0, 0), none, none, some (.iconst 0, 1, 0, 0, 0, 0), some (.ireturn, 1, 0, 0, 0, 0)]
def ct_121 : List (Option mc_E) := [some (.aload_n 0, 1, 0, 0, 0, 0), some (.iload_n 1, 1, 0, 0, 0, 0), some (.invokevirtual 80, 3, 120, 0, 867, 0), none, none, some (.ifCond .eq 12, 3, 0, 0, 0, 0), none, none, some (.aload_n 0, 1, 0, 0, 0, 0), some (.getfield 20, 3, 8, 6, 759, 0), none, none, some (.iload_n 1, 1, 0, 0, 0, 0), some (.iaload, 1, 0, 0, 0, 0), some (.goto 9, 3, 0, 0, 0, 0), none, none, some (.aload_n 0, 1, 0, 0, 0, 0), some (.getfield 16, 3, 8, 5, 758, 0), none, none, some (.iload_n 1, 1, 0, 0, 0, 0), some (.iaload, 1, 0, 0, 0, 0), some (.ireturn, 1, 0, 0, 0, 0)]
def ct_122 : List (Option mc_E) := [some (.aload_n 0, 1, 0, 0, 0, 0), some (.getfield 23, 3, 8, 7, 760, 0), none, none, some (.iload_n 1, 1, 0, 0, 0, 0), some (.iaload, 1, 0, 0, 0, 0), some (.iconst 2, 1, 0, 0, 0, 0), some (.if_icmp .ne 7, 3, 0, 0, 0, 0), none, none, some (.iconst 2, 1, 0, 0, 0, 0), some (.goto 18, 3, 0, 0, 0, 0), none, none, some (.aload_n 0, 1, 0, 0, 0, 0), some (.getfield 23, 3, 8, 7, 760, 0), none, none, some (.iload_n 1, 1, 0, 0, 0, 0), some (.iaload, 1, 0, 0, 0, 0), some (.iconst 3, 1, 0, 0, 0, 0), some (.if_icmp .ne 7, 3, 0, 0, 0, 0), none, none, some (.iconst 0, 1, 0, 0, 0, 0), some (.goto 4, 3, 0, 0, 0, 0), none, none, some (.iconst 1, 1, 0, 0, 0, 0), some (.ireturn, 1, 0, 0, 0, 0)]
def ct_123 : List (Option mc_E) := [some (.aload_n 0, 1, 0, 0, 0, 0), some (.invokevirtual 63, 3, 114, 0, 826, 0), none, none, some (.istore_n 3, 1, 0, 0, 0, 0), some (.iload_n 1, 1, 0, 0, 0, 0), some (.iload_n 3, 1, 0, 0, 0, 0), some (.if_icmp .ge 41, 3, 0, 0, 0, 0), none, none, some (.iload_n 1, 1, 0, 0, 0, 0), some (.aload_n 0, 1, 0, 0, 0, 0), some (.getfield 13, 3, 8, 4, 757, 0), none, none, some (.iconst 1, 1, 0, 0, 0, 0), some (.isub, 1, 0, 0, 0, 0), some (.idiv, 1, 0, 0, 0, 0), some (.aload_n 0, 1, 0, 0, 0, 0), some (.getfield 13, 3, 8, 4, 757, 0), none, none, some (.imul, 1, 0, 0, 0, 0), some (.iload_n 1, 1, 0, 0, 0, 0), some (.aload_n 0, 1, 0, 0, 0, 0), some (.getfield 13, 3, 8, 4, 757, 0), none, none, some (.iconst 1, 1, 0, 0, 0, 0), some (.isub, 1, 0, 0, 0, 0), some (.irem, 1, 0, 0, 0, 0), some (.iadd, 1, 0, 0, 0, 0), some (.istore 4, 2, 0, 0, 0, 0), none, some (.iload_n 2, 1, 0, 0, 0, 0), some (.ifCond .eq 10, 3, 0, 0, 0, 0), none, none, some (.iload 4, 2, 0, 0, 0, 0), none, some (.iconst 1, 1, 0, 0, 0, 0), some (.iadd, 1, 0, 0, 0, 0), some (.goto 5, 3, 0, 0, 0, 0), none, none, some (.iload 4, 2, 0, 0, 0, 0), none, some (.ireturn, 1, 0, 0, 0, 0), some (.iload_n 1, 1, 0, 0, 0, 0), some (.iload_n 3, 1, 0, 0, 0, 0), some (.isub, 1, 0, 0, 0, 0), some (.istore 4, 2, 0, 0, 0, 0), none, some (.iload_n 2, 1, 0, 0, 0, 0), some (.ifCond .eq 13, 3, 0, 0, 0, 0), none, none, some (.iload 4, 2, 0, 0, 0, 0), none, some (.aload_n 0, 1, 0, 0, 0, 0), some (.getfield 13, 3, 8, 4, 757, 0), none, none, some (.iadd, 1, 0, 0, 0, 0), some (.goto 5, 3, 0, 0, 0, 0), none, none, some (.iload 4, 2, 0, 0, 0, 0), none, some (.ireturn, 1, 0, 0, 0, 0)]
def ct_124 : List (Option mc_E) := [some (.iload_n 1, 1, 0, 0, 0, 0), some (.ifCond .lt 27, 3, 0, 0, 0, 0), none, none, some (.iload_n 2, 1, 0, 0, 0, 0), some (.ifCond .lt 23, 3, 0, 0, 0, 0), none, none, some (.iload_n 1, 1, 0, 0, 0, 0), some (.aload_n 0, 1, 0, 0, 0, 0), some (.getfield 7, 3, 8, 3, 756, 0), none, none, some (.iconst 1, 1, 0, 0, 0, 0), some (.isub, 1, 0, 0, 0, 0), some (.if_icmp .ge 13, 3, 0, 0, 0, 0), none, none, some (.iload_n 2, 1, 0, 0, 0, 0), some (.aload_n 0, 1, 0, 0, 0, 0), some (.getfield 13, 3, 8, 4, 757, 0), none, none, some (.iconst 1, 1, 0, 0, 0, 0), some (.isub, 1, 0, 0, 0, 0), some (.if_icmp .lt 12, 3, 0, 0, 0, 0), none, none, some (.aload_n 0, 1, 0, 0, 0, 0), some (.invokevirtual 84, 3, 116, 0, 948, 0), none, none, some (.iconst 1, 1, 0, 0, 0, 0), some (.isub, 1, 0, 0, 0, 0), some (.goto 13, 3, 0, 0, 0, 0), none, none, some (.iload_n 1, 1, 0, 0, 0, 0), some (.aload_n 0, 1, 0, 0, 0, 0), some (.getfield 13, 3, 8, 4, 757, 0), none, none, some (.iconst 1, 1, 0, 0, 0, 0), some (.isub, 1, 0, 0, 0, 0), some (.imul, 1, 0, 0, 0, 0), some (.iload_n 2, 1, 0, 0, 0, 0), some (.iadd, 1, 0, 0, 0, 0), some (.ireturn, 1, 0, 0, 0, 0)]
def ct_125 : List (Option mc_E) := [some (.aload_n 0, 1, 0, 0, 0, 0), some (.invokevirtual 63, 3, 114, 0, 826, 0), none, none, some (.istore_n 3, 1, 0, 0, 0, 0), some (.iload_n 1, 1, 0, 0, 0, 0), some (.iload_n 3, 1, 0, 0, 0, 0), some (.if_icmp .ge 49, 3, 0, 0, 0, 0), none, none, some (.iload_n 1, 1, 0, 0, 0, 0), some (.aload_n 0, 1, 0, 0, 0, 0), some (.getfield 13, 3, 8, 4, 757, 0), none, none, some (.iconst 1, 1, 0, 0, 0, 0), some (.isub, 1, 0, 0, 0, 0), some (.idiv, 1, 0, 0, 0, 0), some (.istore 4, 2, 0, 0, 0, 0), none, some (.iload_n 1, 1, 0, 0, 0, 0), some (.aload_n 0, 1, 0, 0, 0, 0), some (.getfield 13, 3, 8, 4, 757, 0), none, none, some (.iconst 1, 1, 0, 0, 0, 0), some (.isub, 1, 0, 0, 0, 0), some (.irem, 1, 0, 0, 0, 0), some (.istore 5, 2, 0, 0, 0, 0), none, some (.iload_n 2, 1, 0, 0, 0, 0), some (.ifCond .eq 14, 3, 0, 0, 0, 0), none, none, some (.aload_n 0, 1, 0, 0, 0, 0), some (.iload 4, 2, 0, 0, 0, 0), none, some (.iload 5, 2, 0, 0, 0, 0), none, some (.invokevirtual 87, 3, 124, 0, 944, 0), none, none, some (.goto 13, 3, 0, 0, 0, 0), none, none, some (.aload_n 0, 1, 0, 0, 0, 0), some (.iload 4, 2, 0, 0, 0, 0), none, some (.iconst 1, 1, 0, 0, 0, 0), some (.isub, 1, 0, 0, 0, 0), some (.iload 5, 2, 0, 0, 0, 0), none, some (.invokevirtual 87, 3, 124, 0, 944, 0), none, none, some (.ireturn, 1, 0, 0, 0, 0), some (.iload_n 1, 1, 0, 0, 0, 0), some (.iload_n 3, 1, 0, 0, 0, 0), some (.isub, 1, 0, 0, 0, 0), some (.aload_n 0, 1, 0, 0, 0, 0), some (.getfield 13, 3, 8, 4, 757, 0), none, none, some (.idiv, 1, 0, 0, 0, 0), some (.istore 4, 2, 0, 0, 0, 0), none, some (.iload_n 1, 1, 0, 0, 0, 0), some (.iload_n 3, 1, 0, 0, 0, 0), some (.isub, 1, 0, 0, 0, 0), some (.aload_n 0, 1, 0, 0, 0, 0), some (.getfield 13, 3, 8, 4, 757, 0), none, none, some (.irem, 1, 0, 0, 0, 0), some (.istore 5, 2, 0, 0, 0, 0), none, some (.iload_n 2, 1, 0, 0, 0, 0), some (.ifCond .eq 14, 3, 0, 0, 0, 0), none, none, some (.aload_n 0, 1, 0, 0, 0, 0), some (.iload 4, 2, 0, 0, 0, 0), none, some (.iload 5, 2, 0, 0, 0, 0), none, some (.invokevirtual 87, 3, 124, 0, 944, 0), none, none, some (.goto 13, 3, 0, 0, 0, 0), none, none, some (.aload_n 0, 1, 0, 0, 0, 0), some (.iload 4, 2, 0, 0, 0, 0), none, some (.iload 5, 2, 0, 0, 0, 0), none, some (.iconst 1, 1, 0, 0, 0, 0), some (.isub, 1, 0, 0, 0, 0), some (.invokevirtual 87, 3, 124, 0, 944, 0), none, none, some (.ireturn, 1, 0, 0, 0, 0)]
def ct_126 : List (Option mc_E) := [some (.aload_n 0, 1, 0, 0, 0, 0), some (.getfield 30, 3, 8, 9, 762, 0), none, none, some (.iload_n 1, 1, 0, 0, 0, 0), some (.iaload, 1, 0, 0, 0, 0), some (.aload_n 0, 1, 0, 0, 0, 0), some (.aload_n 0, 1, 0, 0, 0, 0), some (.iload_n 1, 1, 0, 0, 0, 0), some (.iconst 0, 1, 0, 0, 0, 0), some (.invokevirtual 91, 3, 123, 0, 875, 0), none, none, some (.invokevirtual 95, 3, 122, 0, 886, 0), none, none, some (.imul, 1, 0, 0, 0, 0), some (.aload_n 0, 1, 0, 0, 0, 0), some (.aload_n 0, 1, 0, 0, 0, 0), some (.iload_n 1, 1, 0, 0, 0, 0), some (.iconst 1, 1, 0, 0, 0, 0), some (.invokevirtual 91, 3, 123, 0, 875, 0), none, none, some (.invokevirtual 95, 3, 122, 0, 886, 0), none, none, some (.imul, 1, 0, 0, 0, 0), some (.ireturn, 1, 0, 0, 0, 0)]
def ct_127 : List (Option mc_E) := [some (.aload_n 0, 1, 0, 0, 0, 0), some (.iload_n 1, 1, 0, 0, 0, 0), some (.invokevirtual 99, 3, 126, 0, 882, 0), none, none, some (.istore_n 2, 1, 0, 0, 0, 0), some (.iload_n 2, 1, 0, 0, 0, 0), some (.ifCond .ge 8, 3, 0, 0, 0, 0), none, none, some (.iload_n 2, 1, 0, 0, 0, 0), some (.ineg, 1, 0, 0, 0, 0), some (.goto 4, 3, 0, 0, 0, 0), none, none, some (.iload_n 2, 1, 0, 0, 0, 0), some (.ireturn, 1, 0, 0, 0, 0)]
def ct_128 : List (Option mc_E) := [some (.iload_n 0, 1, 0, 0, 0, 0), some (.iload_n 2, 1, 0, 0, 0, 0), some (.iconst 1, 1, 0, 0, 0, 0), some (.isub, 1, 0, 0, 0, 0), some (.iload_n 1, 1, 0, 0, 0, 0), some (.isub, 1, 0, 0, 0, 0), some (.ishr, 1, 0, 0, 0, 0), some (.iconst 1, 1, 0, 0, 0, 0), some (.iand, 1, 0, 0, 0, 0), some (.ireturn, 1, 0, 0, 0, 0)]
def ct_129 : List (Option mc_E) := [some (.iconst 0, 1, 0, 0, 0, 0), some (.istore_n 2, 1, 0, 0, 0, 0), some (.aload_n 0, 1, 0, 0, 0, 0), some (.invokevirtual 67, 3, 113, 0, 838, 0), none, none, some (.istore_n 3, 1, 0, 0, 0, 0), some (.iconst 0, 1, 0, 0, 0, 0), some (.istore 4, 2, 0, 0, 0, 0), none, some (.iload 4, 2, 0, 0, 0, 0), none, some (.aload_n 0, 1, 0, 0, 0, 0), some (.invokevirtual 74, 3, 115, 0, 822, 0), none, none, some (.if_icmp .ge 86, 3, 0, 0, 0, 0), none, none, some (.iload_n 1, 1, 0, 0, 0, 0), some (.aload_n 0, 1, 0, 0, 0, 0), some (.iload 4, 2, 0, 0, 0, 0), none, some (.iconst 0, 1, 0, 0, 0, 0), some (.invokevirtual 91, 3, 123, 0, 875, 0), none, none, some (.iload_n 3, 1, 0, 0, 0, 0), some (.invokestatic 102, 3, 128, 0, 879, 0), none, none, some (.iload_n 1, 1, 0, 0, 0, 0), some (.aload_n 0, 1, 0, 0, 0, 0), some (.iload 4, 2, 0, 0, 0, 0), none, some (.iconst 1, 1, 0, 0, 0, 0), some (.invokevirtual 91, 3, 123, 0, 875, 0), none, none, some (.iload_n 3, 1, 0, 0, 0, 0), some (.invokestatic 102, 3, 128, 0, 879, 0), none, none, some (.if_icmp .ne 7, 3, 0, 0, 0, 0), none, none, some (.iconst 1, 1, 0, 0, 0, 0), some (.goto 4, 3, 0, 0, 0, 0), none, none, some (.iconst 0, 1, 0, 0, 0, 0), some (.istore 5, 2, 0, 0, 0, 0), none, some (.aload_n 0, 1, 0, 0, 0, 0), some (.iload 4, 2, 0, 0, 0, 0), none, some (.invokevirtual 99, 3, 126, 0, 882, 0), none, none, some (.istore 6, 2, 0, 0, 0, 0), none, some (.iload_n 2, 1, 0, 0, 0, 0), some (.iload 6, 2, 0, 0, 0, 0), none, some (.ifCond .le 13, 3, 0, 0, 0, 0), none, none, some (.iload 5, 2, 0, 0, 0, 0), none, some (.ifCond .ne 8, 3, 0, 0, 0, 0), none, none, some (.iload 6, 2, 0, 0, 0, 0), none, some (.goto 20, 3, 0, 0, 0, 0), none, none, some (.iload 6, 2, 0, 0, 0, 0), none, some (.ifCond .ge 14, 3, 0, 0, 0, 0), none, none, some (.iload 5, 2, 0, 0, 0, 0), none, some (.ifCond .eq 9, 3, 0, 0, 0, 0), none, none, some (.iload 6, 2, 0, 0, 0, 0), none, some (.ineg, 1, 0, 0, 0, 0), some (.goto 4, 3, 0, 0, 0, 0), none, none, some (.iconst 0, 1, 0, 0, 0, 0), some (.iadd, 1, 0, 0, 0, 0), some (.istore_n 2, 1, 0, 0, 0, 0), some (.iinc 4 1, 3, 0, 0, 0, 0), none, none, some (.goto (-89), 3, 0, 0, 0, 0), none, none, some (.iload_n 2, 1, 0, 0, 0, 0), some (.ireturn, 1, 0, 0, 0, 0)]
def ct_130 : List (Option mc_E) := [some (.iconst 0, 1, 0, 0, 0, 0), some (.istore_n 1, 1, 0, 0, 0, 0), some (.iconst 0, 1, 0, 0, 0, 0), some (.istore_n 2, 1, 0, 0, 0, 0), some (.iload_n 2, 1, 0, 0, 0, 0), some (.aload_n 0, 1, 0, 0, 0, 0), some (.invokevirtual 67, 3, 113, 0, 838, 0), none, none, some (.if_icmp .ge 19, 3, 0, 0, 0, 0), none, none, some (.iconst 2, 1, 0, 0, 0, 0), some (.iload_n 1, 1, 0, 0, 0, 0), some (.imul, 1, 0, 0, 0, 0), some (.aload_n 0, 1, 0, 0, 0, 0), some (.iload_n 2, 1, 0, 0, 0, 0), some (.invokevirtual 106, 3, 121, 0, 863, 0), none, none, some (.iadd, 1, 0, 0, 0, 0), some (.istore_n 1, 1, 0, 0, 0, 0), some (.iinc 2 1, 3, 0, 0, 0, 0), none, none, some (.goto (-21), 3, 0, 0, 0, 0), none, none, some (.iload_n 1, 1, 0, 0, 0, 0), some (.ireturn, 1, 0, 0, 0, 0)]
def ct_131 : List (Option mc_E) := [some (.iconst 1, 1, 0, 0, 0, 0), some (.istore_n 2, 1, 0, 0, 0, 0), some (.iconst 0, 1, 0, 0, 0, 0), some (.istore_n 3, 1, 0, 0, 0, 0), some (.iload_n 3, 1, 0, 0, 0, 0), some (.aload_n 0, 1, 0, 0, 0, 0), some (.invokevirtual 67, 3, 113, 0, 838, 0), none, none, some (.if_icmp .ge 43, 3, 0, 0, 0, 0), none, none, some (.iload_n 2, 1, 0, 0, 0, 0), some (.aload_n 0, 1, 0, 0, 0, 0), some (.iload_n 3, 1, 0, 0, 0, 0), some (.invokevirtual 80, 3, 120, 0, 867, 0), none, none, some (.ifCond .eq 21, 3, 0, 0, 0, 0), none, none, some (.iload_n 1, 1, 0, 0, 0, 0), some (.iload_n 3, 1, 0, 0, 0, 0), some (.aload_n 0, 1, 0, 0, 0, 0), some (.invokevirtual 67, 3, 113, 0, 838, 0), none, none, some (.invokestatic 102, 3, 128, 0, 879, 0), none, none, some (.aload_n 0, 1, 0, 0, 0, 0), some (.getfield 20, 3, 8, 6, 759, 0), none, none, some (.iload_n 3, 1, 0, 0, 0, 0), some (.iaload, 1, 0, 0, 0, 0), some (.if_icmp .ne 7, 3, 0, 0, 0, 0), none, none, some (.iconst 1, 1, 0, 0, 0, 0), some (.goto 4, 3, 0, 0, 0, 0), none, none, some (.iconst 0, 1, 0, 0, 0, 0), some (.iand, 1, 0, 0, 0, 0), some (.istore_n 2, 1, 0, 0, 0, 0), some (.iinc 3 1, 3, 0, 0, 0, 0), none, none, some (.goto (-45), 3, 0, 0, 0, 0), none, none, some (.iload_n 2, 1, 0, 0, 0, 0), some (.ireturn, 1, 0, 0, 0, 0)]
def ct_132 : List (Option mc_E) := [some (.iconst 1, 1, 0, 0, 0, 0), some (.aload_n 0, 1, 0, 0, 0, 0), some (.invokevirtual 67, 3, 113, 0, 838, 0), none, none, some (.ishl, 1, 0, 0, 0, 0), some (.ireturn, 1, 0, 0, 0, 0)]
def ct_133 : List (Option mc_E) := [some (.aload_n 0, 1, 0, 0, 0, 0), some (.iconst 0, 1, 0, 0, 0, 0), some (.putfield 60, 3, 8, 0, 753, 0), none, none, some (.iload_n 1, 1, 0, 0, 0, 0), some (.iconst 1, 1, 0, 0, 0, 0), some (.bipush 6, 2, 0, 0, 0, 0), none, some (.invokestatic 70, 3, 112, 0, 819, 0), none, none, some (.ifCond .eq 21, 3, 0, 0, 0, 0), none, none, some (.iload_n 2, 1, 0, 0, 0, 0), some (.iconst 1, 1, 0, 0, 0, 0), some (.bipush 6, 2, 0, 0, 0, 0), none, some (.invokestatic 70, 3, 112, 0, 819, 0), none, none, some (.ifCond .eq 11, 3, 0, 0, 0, 0), none, none, some (.iload_n 1, 1, 0, 0, 0, 0), some (.iload_n 2, 1, 0, 0, 0, 0), some (.imul, 1, 0, 0, 0, 0), some (.bipush 12, 2, 0, 0, 0, 0), none, some (.if_icmp .le 5, 3, 0, 0, 0, 0), none, none, some (.iconst (-1), 1, 0, 0, 0, 0), some (.ireturn, 1, 0, 0, 0, 0), some (.aload_n 0, 1, 0, 0, 0, 0), some (.iload_n 1, 1, 0, 0, 0, 0), some (.putfield 7, 3, 8, 3, 756, 0), none, none, some (.aload_n 0, 1, 0, 0, 0, 0), some (.iload_n 2, 1, 0, 0, 0, 0), some (.putfield 13, 3, 8, 4, 757, 0), none, none, some (.iconst 0, 1, 0, 0, 0, 0), some (.istore_n 3, 1, 0, 0, 0, 0), some (.iload_n 3, 1, 0, 0, 0, 0), some (.bipush 12, 2, 0, 0, 0, 0), none, some (.if_icmp .ge 37, 3, 0, 0, 0, 0), none, none, some (.aload_n 0, 1, 0, 0, 0, 0), some (.getfield 16, 3, 8, 5, 758, 0), none, none, some (.iload_n 3, 1, 0, 0, 0, 0), some (.iconst 0, 1, 0, 0, 0, 0), some (.iastore, 1, 0, 0, 0, 0), some (.aload_n 0, 1, 0, 0, 0, 0), some (.getfield 20, 3, 8, 6, 759, 0), none, none, some (.iload_n 3, 1, 0, 0, 0, 0), some (.iconst 0, 1, 0, 0, 0, 0), some (.iastore, 1, 0, 0, 0, 0), some (.aload_n 0, 1, 0, 0, 0, 0), some (.getfield 23, 3, 8, 7, 760, 0), none, none, some (.iload_n 3, 1, 0, 0, 0, 0), some (.iconst 0, 1, 0, 0, 0, 0), some (.iastore, 1, 0, 0, 0, 0), some (.aload_n 0, 1, 0, 0, 0, 0), some (.getfield 26, 3, 8, 8, 761, 0), none, none, some (.iload_n 3, 1, 0, 0, 0, 0), some (.iconst 0, 1, 0, 0, 0, 0), some (.bastore, 1, 0, 0, 0, 0), some (.iinc 3 1, 3, 0, 0, 0, 0), none, none, some (.goto (-37), 3, 0, 0, 0, 0), none, none, some (.iconst 0, 1, 0, 0, 0, 0), some (.istore_n 3, 1, 0, 0, 0, 0), some (.iload_n 3, 1, 0, 0, 0, 0), some (.bipush 24, 2, 0, 0, 0, 0), none, some (.if_icmp .ge 16, 3, 0, 0, 0, 0), none, none, some (.aload_n 0, 1, 0, 0, 0, 0), some (.getfield 30, 3, 8, 9, 762, 0), none, none, some (.iload_n 3, 1, 0, 0, 0, 0), some (.iconst 0, 1, 0, 0, 0, 0), some (.iastore, 1, 0, 0, 0, 0), some (.iinc 3 1, 3, 0, 0, 0, 0), none, none, some (.goto (-16), 3, 0, 0, 0, 0), none, none, some (.aload_n 0, 1, 0, 0, 0, 0), some (.iconst 0, 1, 0, 0, 0, 0), some (.putfield 77, 3, 8, 11, 764, 0), none, none, some (.aload_n 0, 1, 0, 0, 0, 0), some (.invokevirtual 74, 3, 115, 0, 822, 0), none, none, some (.ireturn, 1, 0, 0, 0, 0)]
def ct_134 : List (Option mc_E) := [some (.aload_n 0, 1, 0, 0, 0, 0), some (.iconst 0, 1, 0, 0, 0, 0), some (.putfield 60, 3, 8, 0, 753, 0), none, none, some (.aload_n 0, 1, 0, 0, 0, 0), some (.iload_n 1, 1, 0, 0, 0, 0), some (.invokevirtual 109, 3, 117, 0, 834, 0), none, none, some (.ifCond .eq 12, 3, 0, 0, 0, 0), none, none, some (.iload_n 2, 1, 0, 0, 0, 0), some (.iconst 0, 1, 0, 0, 0, 0), some (.iconst 4, 1, 0, 0, 0, 0), some (.invokestatic 70, 3, 112, 0, 819, 0), none, none, some (.ifCond .ne 5, 3, 0, 0, 0, 0), none, none, some (.iconst (-1), 1, 0, 0, 0, 0), some (.ireturn, 1, 0, 0, 0, 0), some (.iload_n 1, 1, 0, 0, 0, 0), some (.aload_n 0, 1, 0, 0, 0, 0), some (.getfield 13, 3, 8, 4, 757, 0), none, none, some (.idiv, 1, 0, 0, 0, 0), some (.istore_n 3, 1, 0, 0, 0, 0), some (.iload_n 1, 1, 0, 0, 0, 0), some (.aload_n 0, 1, 0, 0, 0, 0), some (.getfield 13, 3, 8, 4, 757, 0), none, none, some (.irem, 1, 0, 0, 0, 0), some (.istore 4, 2, 0, 0, 0, 0), none, some (.iload_n 2, 1, 0, 0, 0, 0), some (.iconst 4, 1, 0, 0, 0, 0), some (.if_icmp .ne 35, 3, 0, 0, 0, 0), none, none, some (.iload_n 3, 1, 0, 0, 0, 0), some (.ifCond .le 31, 3, 0, 0, 0, 0), none, none, some (.iload_n 3, 1, 0, 0, 0, 0), some (.aload_n 0, 1, 0, 0, 0, 0), some (.getfield 7, 3, 8, 3, 756, 0), none, none, some (.iconst 1, 1, 0, 0, 0, 0), some (.isub, 1, 0, 0, 0, 0), some (.if_icmp .ge 21, 3, 0, 0, 0, 0), none, none, some (.iload 4, 2, 0, 0, 0, 0), none, some (.ifCond .le 16, 3, 0, 0, 0, 0), none, none, some (.iload 4, 2, 0, 0, 0, 0), none, some (.aload_n 0, 1, 0, 0, 0, 0), some (.getfield 13, 3, 8, 4, 757, 0), none, none, some (.iconst 1, 1, 0, 0, 0, 0), some (.isub, 1, 0, 0, 0, 0), some (.if_icmp .ge 5, 3, 0, 0, 0, 0), none, none, some (.iconst (-1), 1, 0, 0, 0, 0), some (.ireturn, 1, 0, 0, 0, 0), some (.aload_n 0, 1, 0, 0, 0, 0), some (.invokevirtual 112, 3, 119, 0, 842, 0), none, none, some (.aload_n 0, 1, 0, 0, 0, 0), some (.getfield 23, 3, 8, 7, 760, 0), none, none, some (.iload_n 1, 1, 0, 0, 0, 0), some (.iaload, 1, 0, 0, 0, 0), some (.istore 5, 2, 0, 0, 0, 0), none, some (.aload_n 0, 1, 0, 0, 0, 0), some (.getfield 23, 3, 8, 7, 760, 0), none, none, some (.iload_n 1, 1, 0, 0, 0, 0), some (.iload_n 2, 1, 0, 0, 0, 0), some (.iastore, 1, 0, 0, 0, 0), some (.aload_n 0, 1, 0, 0, 0, 0), some (.getfield 26, 3, 8, 8, 761, 0), none, none, some (.iload_n 1, 1, 0, 0, 0, 0), some (.iconst 0, 1, 0, 0, 0, 0), some (.bastore, 1, 0, 0, 0, 0), some (.iload 5, 2, 0, 0, 0, 0), none, some (.ireturn, 1, 0, 0, 0, 0)]
def ct_135 : List (Option mc_E) := [some (.aload_n 0, 1, 0, 0, 0, 0), some (.iconst 0, 1, 0, 0, 0, 0), some (.putfield 60, 3, 8, 0, 753, 0), none, none, some (.aload_n 0, 1, 0, 0, 0, 0), some (.iload_n 1, 1, 0, 0, 0, 0), some (.invokevirtual 109, 3, 117, 0, 834, 0), none, none, some (.ifCond .eq 12, 3, 0, 0, 0, 0), none, none, some (.iload_n 2, 1, 0, 0, 0, 0), some (.iconst 0, 1, 0, 0, 0, 0), some (.iconst 1, 1, 0, 0, 0, 0), some (.invokestatic 70, 3, 112, 0, 819, 0), none, none, some (.ifCond .ne 5, 3, 0, 0, 0, 0), none, none, some (.iconst (-1), 1, 0, 0, 0, 0), some (.ireturn, 1, 0, 0, 0, 0), some (.aload_n 0, 1, 0, 0, 0, 0), some (.invokevirtual 112, 3, 119, 0, 842, 0), none, none, some (.aload_n 0, 1, 0, 0, 0, 0), some (.getfield 20, 3, 8, 6, 759, 0), none, none, some (.iload_n 1, 1, 0, 0, 0, 0), some (.iaload, 1, 0, 0, 0, 0), some (.istore_n 3, 1, 0, 0, 0, 0), some (.aload_n 0, 1, 0, 0, 0, 0), some (.getfield 20, 3, 8, 6, 759, 0), none, none, some (.iload_n 1, 1, 0, 0, 0, 0), some (.iload_n 2, 1, 0, 0, 0, 0), some (.iastore, 1, 0, 0, 0, 0), some (.iload_n 3, 1, 0, 0, 0, 0), some (.ireturn, 1, 0, 0, 0, 0)]
def ct_136 : List (Option mc_E) := [some (.aload_n 0, 1, 0, 0, 0, 0), some (.iconst 0, 1, 0, 0, 0, 0), some (.putfield 60, 3, 8, 0, 753, 0), none, none, some (.aload_n 0, 1, 0, 0, 0, 0), some (.iload_n 1, 1, 0, 0, 0, 0), some (.invokevirtual 109, 3, 117, 0, 834, 0), none, none, some (.ifCond .eq 13, 3, 0, 0, 0, 0), none, none, some (.aload_n 0, 1, 0, 0, 0, 0), some (.getfield 23, 3, 8, 7, 760, 0), none, none, some (.iload_n 1, 1, 0, 0, 0, 0), some (.iaload, 1, 0, 0, 0, 0), some (.iconst 4, 1, 0, 0, 0, 0), some (.if_icmp .eq 5, 3, 0, 0, 0, 0), none, none, some (.iconst (-1), 1, 0, 0, 0, 0), some (.ireturn, 1, 0, 0, 0, 0), some (.aload_n 0, 1, 0, 0, 0, 0), some (.invokevirtual 112, 3, 119, 0, 842, 0), none, none, some (.aload_n 0, 1, 0, 0, 0, 0), some (.getfield 26, 3, 8, 8, 761, 0), none, none, some (.iload_n 1, 1, 0, 0, 0, 0), some (.baload, 1, 0, 0, 0, 0), some (.ifCond .eq 7, 3, 0, 0, 0, 0), none, none, some (.iconst 1, 1, 0, 0, 0, 0), some (.goto 4, 3, 0, 0, 0, 0), none, none, some (.iconst 0, 1, 0, 0, 0, 0), some (.istore_n 3, 1, 0, 0, 0, 0), some (.aload_n 0, 1, 0, 0, 0, 0), some (.getfield 26, 3, 8, 8, 761, 0), none, none, some (.iload_n 1, 1, 0, 0, 0, 0), some (.iload_n 2, 1, 0, 0, 0, 0), some (.bastore, 1, 0, 0, 0, 0), some (.iload_n 3, 1, 0, 0, 0, 0), some (.ireturn, 1, 0, 0, 0, 0)]
def ct_137 : List (Option mc_E) := [some (.aload_n 0, 1, 0, 0, 0, 0), some (.iconst 0, 1, 0, 0, 0, 0), some (.putfield 60, 3, 8, 0, 753, 0), none, none, some (.aload_n 0, 1, 0, 0, 0, 0), some (.iload_n 1, 1, 0, 0, 0, 0), some (.invokevirtual 109, 3, 117, 0, 834, 0), none, none, some (.ifCond .ne 6, 3, 0, 0, 0, 0), none, none, some (.ldc 115, 2, 0, 0, 858, -1000000), none, some (.ireturn, 1, 0, 0, 0, 0), some (.aload_n 0, 1, 0, 0, 0, 0), some (.invokevirtual 112, 3, 119, 0, 842, 0), none, none, some (.aload_n 0, 1, 0, 0, 0, 0), some (.aload_n 0, 1, 0, 0, 0, 0), some (.invokevirtual 116, 3, 130, 0, 859, 0), none, none, some (.invokevirtual 119, 3, 129, 0, 871, 0), none, none, some (.istore_n 2, 1, 0, 0, 0, 0), some (.aload_n 0, 1, 0, 0, 0, 0), some (.getfield 16, 3, 8, 5, 758, 0), none, none, some (.iload_n 1, 1, 0, 0, 0, 0), some (.iconst 1, 1, 0, 0, 0, 0), some (.aload_n 0, 1, 0, 0, 0, 0), some (.getfield 16, 3, 8, 5, 758, 0), none, none, some (.iload_n 1, 1, 0, 0, 0, 0), some (.iaload, 1, 0, 0, 0, 0), some (.isub, 1, 0, 0, 0, 0), some (.iastore, 1, 0, 0, 0, 0), some (.aload_n 0, 1, 0, 0, 0, 0), some (.aload_n 0, 1, 0, 0, 0, 0), some (.invokevirtual 116, 3, 130, 0, 859, 0), none, none, some (.invokevirtual 119, 3, 129, 0, 871, 0), none, none, some (.iload_n 2, 1, 0, 0, 0, 0), some (.isub, 1, 0, 0, 0, 0), some (.ireturn, 1, 0, 0, 0, 0)]
def ct_138 : List (Option mc_E) := [some (.aload_n 0, 1, 0, 0, 0, 0), some (.iconst 0, 1, 0, 0, 0, 0), some (.putfield 60, 3, 8, 0, 753, 0), none, none, some (.aload_n 0, 1, 0, 0, 0, 0), some (.iload_n 1, 1, 0, 0, 0, 0), some (.invokevirtual 109, 3, 117, 0, 834, 0), none, none, some (.ifCond .ne 6, 3, 0, 0, 0, 0), none, none, some (.ldc 115, 2, 0, 0, 858, -1000000), none, some (.ireturn, 1, 0, 0, 0, 0), some (.aload_n 0, 1, 0, 0, 0, 0), some (.invokevirtual 112, 3, 119, 0, 842, 0), none, none, some (.aload_n 0, 1, 0, 0, 0, 0), some (.aload_n 0, 1, 0, 0, 0, 0), some (.invokevirtual 116, 3, 130, 0, 859, 0), none, none, some (.invokevirtual 119, 3, 129, 0, 871, 0), none, none, some (.istore_n 2, 1, 0, 0, 0, 0), some (.aload_n 0, 1, 0, 0, 0, 0), some (.getfield 16, 3, 8, 5, 758, 0), none, none, some (.iload_n 1, 1, 0, 0, 0, 0), some (.iconst 1, 1, 0, 0, 0, 0), some (.aload_n 0, 1, 0, 0, 0, 0), some (.getfield 16, 3, 8, 5, 758, 0), none, none, some (.iload_n 1, 1, 0, 0, 0, 0), some (.iaload, 1, 0, 0, 0, 0), some (.isub, 1, 0, 0, 0, 0), some (.iastore, 1, 0, 0, 0, 0), some (.iconst 0, 1, 0, 0, 0, 0), some (.istore_n 3, 1, 0, 0, 0, 0), some (.iload_n 3, 1, 0, 0, 0, 0), some (.aload_n 0, 1, 0, 0, 0, 0), some (.invokevirtual 74, 3, 115, 0, 822, 0), none, none, some (.if_icmp .ge 51, 3, 0, 0, 0, 0), none, none, some (.aload_n 0, 1, 0, 0, 0, 0), some (.getfield 30, 3, 8, 9, 762, 0), none, none, some (.iload_n 3, 1, 0, 0, 0, 0), some (.aload_n 0, 1, 0, 0, 0, 0), some (.iload_n 3, 1, 0, 0, 0, 0), some (.iconst 0, 1, 0, 0, 0, 0), some (.invokevirtual 91, 3, 123, 0, 875, 0), none, none, some (.iload_n 1, 1, 0, 0, 0, 0), some (.if_icmp .eq 13, 3, 0, 0, 0, 0), none, none, some (.aload_n 0, 1, 0, 0, 0, 0), some (.iload_n 3, 1, 0, 0, 0, 0), some (.iconst 1, 1, 0, 0, 0, 0), some (.invokevirtual 91, 3, 123, 0, 875, 0), none, none, some (.iload_n 1, 1, 0, 0, 0, 0), some (.if_icmp .ne 13, 3, 0, 0, 0, 0), none, none, some (.aload_n 0, 1, 0, 0, 0, 0), some (.getfield 30, 3, 8, 9, 762, 0), none, none, some (.iload_n 3, 1, 0, 0, 0, 0), some (.iaload, 1, 0, 0, 0, 0), some (.ineg, 1, 0, 0, 0, 0), some (.goto 9, 3, 0, 0, 0, 0), none, none, some (.aload_n 0, 1, 0, 0, 0, 0), some (.getfield 30, 3, 8, 9, 762, 0), none, none, some (.iload_n 3, 1, 0, 0, 0, 0), some (.iaload, 1, 0, 0, 0, 0), some (.iastore, 1, 0, 0, 0, 0), some (.iinc 3 1, 3, 0, 0, 0, 0), none, none, some (.goto (-53), 3, 0, 0, 0, 0), none, none, some (.aload_n 0, 1, 0, 0, 0, 0), some (.aload_n 0, 1, 0, 0, 0, 0), some (.invokevirtual 116, 3, 130, 0, 859, 0), none, none, some (.invokevirtual 119, 3, 129, 0, 871, 0), none, none, some (.iload_n 2, 1, 0, 0, 0, 0), some (.isub, 1, 0, 0, 0, 0), some (.ireturn, 1, 0, 0, 0, 0)]
def ct_139 : List (Option mc_E) := [some (.aload_n 0, 1, 0, 0, 0, 0), some (.iconst 0, 1, 0, 0, 0, 0), some (.putfield 60, 3, 8, 0, 753, 0), none, none, some (.aload_n 0, 1, 0, 0, 0, 0), some (.iload_n 1, 1, 0, 0, 0, 0), some (.invokevirtual 122, 3, 118, 0, 898, 0), none, none, some (.ifCond .eq 16, 3, 0, 0, 0, 0), none, none, some (.iload_n 2, 1, 0, 0, 0, 0), some (.sipush (-1000), 3, 0, 0, 0, 0), none, none, some (.sipush 1000, 3, 0, 0, 0, 0), none, none, some (.invokestatic 70, 3, 112, 0, 819, 0), none, none, some (.ifCond .ne 6, 3, 0, 0, 0, 0), none, none, some (.ldc 115, 2, 0, 0, 858, -1000000), none, some (.ireturn, 1, 0, 0, 0, 0), some (.aload_n 0, 1, 0, 0, 0, 0), some (.invokevirtual 112, 3, 119, 0, 842, 0), none, none, some (.aload_n 0, 1, 0, 0, 0, 0), some (.getfield 30, 3, 8, 9, 762, 0), none, none, some (.iload_n 1, 1, 0, 0, 0, 0), some (.iaload, 1, 0, 0, 0, 0), some (.istore_n 3, 1, 0, 0, 0, 0), some (.aload_n 0, 1, 0, 0, 0, 0), some (.getfield 30, 3, 8, 9, 762, 0), none, none, some (.iload_n 1, 1, 0, 0, 0, 0), some (.iload_n 2, 1, 0, 0, 0, 0), some (.iastore, 1, 0, 0, 0, 0), some (.iload_n 3, 1, 0, 0, 0, 0), some (.ireturn, 1, 0, 0, 0, 0)]
def ct_140 : List (Option mc_E) := [some (.aload_n 0, 1, 0, 0, 0, 0), some (.iconst 0, 1, 0, 0, 0, 0), some (.putfield 60, 3, 8, 0, 753, 0), none, none, some (.iload_n 1, 1, 0, 0, 0, 0), some (.iconst 0, 1, 0, 0, 0, 0), some (.aload_n 0, 1, 0, 0, 0, 0), some (.invokevirtual 125, 3, 132, 0, 906, 0), none, none, some (.iconst 1, 1, 0, 0, 0, 0), some (.isub, 1, 0, 0, 0, 0), some (.invokestatic 70, 3, 112, 0, 819, 0), none, none, some (.ifCond .ne 5, 3, 0, 0, 0, 0), none, none, some (.iconst (-1), 1, 0, 0, 0, 0), some (.ireturn, 1, 0, 0, 0, 0), some (.aload_n 0, 1, 0, 0, 0, 0), some (.invokevirtual 112, 3, 119, 0, 842, 0), none, none, some (.iconst 0, 1, 0, 0, 0, 0), some (.istore_n 2, 1, 0, 0, 0, 0), some (.iload_n 2, 1, 0, 0, 0, 0), some (.aload_n 0, 1, 0, 0, 0, 0), some (.invokevirtual 67, 3, 113, 0, 838, 0), none, none, some (.if_icmp .ge 41, 3, 0, 0, 0, 0), none, none, some (.aload_n 0, 1, 0, 0, 0, 0), some (.getfield 16, 3, 8, 5, 758, 0), none, none, some (.iload_n 2, 1, 0, 0, 0, 0), some (.aload_n 0, 1, 0, 0, 0, 0), some (.iload_n 2, 1, 0, 0, 0, 0), some (.invokevirtual 80, 3, 120, 0, 867, 0), none, none, some (.ifCond .eq 12, 3, 0, 0, 0, 0), none, none, some (.aload_n 0, 1, 0, 0, 0, 0), some (.getfield 16, 3, 8, 5, 758, 0), none, none, some (.iload_n 2, 1, 0, 0, 0, 0), some (.iaload, 1, 0, 0, 0, 0), some (.goto 12, 3, 0, 0, 0, 0), none, none, some (.iload_n 1, 1, 0, 0, 0, 0), some (.iload_n 2, 1, 0, 0, 0, 0), some (.aload_n 0, 1, 0, 0, 0, 0), some (.invokevirtual 67, 3, 113, 0, 838, 0), none, none, some (.invokestatic 102, 3, 128, 0, 879, 0), none, none, some (.iastore, 1, 0, 0, 0, 0), some (.iinc 2 1, 3, 0, 0, 0, 0), none, none, some (.goto (-43), 3, 0, 0, 0, 0), none, none, some (.aload_n 0, 1, 0, 0, 0, 0), some (.aload_n 0, 1, 0, 0, 0, 0), some (.invokevirtual 116, 3, 130, 0, 859, 0), none, none, some (.invokevirtual 119, 3, 129, 0, 871, 0), none, none, some (.ireturn, 1, 0, 0, 0, 0)]
def ct_141 : List (Option mc_E) := [some (.aload_n 0, 1, 0, 0, 0, 0), some (.iconst 0, 1, 0, 0, 0, 0), some (.putfield 60, 3, 8, 0, 753, 0), none, none, some (.aload_n 0, 1, 0, 0, 0, 0), some (.invokevirtual 112, 3, 119, 0, 842, 0), none, none, some (.iconst 0, 1, 0, 0, 0, 0), some (.istore_n 1, 1, 0, 0, 0, 0), some (.iconst 0, 1, 0, 0, 0, 0), some (.istore_n 2, 1, 0, 0, 0, 0), some (.aload_n 0, 1, 0, 0, 0, 0), some (.aload_n 0, 1, 0, 0, 0, 0), some (.invokevirtual 116, 3, 130, 0, 859, 0), none, none, some (.invokevirtual 119, 3, 129, 0, 871, 0), none, none, some (.istore_n 3, 1, 0, 0, 0, 0), some (.iload_n 2, 1, 0, 0, 0, 0), some (.aload_n 0, 1, 0, 0, 0, 0), some (.invokevirtual 67, 3, 113, 0, 838, 0), none, none, some (.if_icmp .ge 64, 3, 0, 0, 0, 0), none, none, some (.aload_n 0, 1, 0, 0, 0, 0), some (.getfield 16, 3, 8, 5, 758, 0), none, none, some (.iload_n 2, 1, 0, 0, 0, 0), some (.iconst 1, 1, 0, 0, 0, 0), some (.aload_n 0, 1, 0, 0, 0, 0), some (.getfield 16, 3, 8, 5, 758, 0), none, none, some (.iload_n 2, 1, 0, 0, 0, 0), some (.iaload, 1, 0, 0, 0, 0), some (.isub, 1, 0, 0, 0, 0), some (.iastore, 1, 0, 0, 0, 0), some (.aload_n 0, 1, 0, 0, 0, 0), some (.aload_n 0, 1, 0, 0, 0, 0), some (.invokevirtual 116, 3, 130, 0, 859, 0), none, none, some (.invokevirtual 119, 3, 129, 0, 871, 0), none, none, some (.istore 4, 2, 0, 0, 0, 0), none, some (.iload 4, 2, 0, 0, 0, 0), none, some (.iload_n 3, 1, 0, 0, 0, 0), some (.if_icmp .ge 14, 3, 0, 0, 0, 0), none, none, some (.iload 4, 2, 0, 0, 0, 0), none, some (.istore_n 3, 1, 0, 0, 0, 0), some (.iinc 1 1, 3, 0, 0, 0, 0), none, none, some (.iconst 0, 1, 0, 0, 0, 0), some (.istore_n 2, 1, 0, 0, 0, 0), some (.goto 20, 3, 0, 0, 0, 0), none, none, some (.aload_n 0, 1, 0, 0, 0, 0), some (.getfield 16, 3, 8, 5, 758, 0), none, none, some (.iload_n 2, 1, 0, 0, 0, 0), some (.iconst 1, 1, 0, 0, 0, 0), some (.aload_n 0, 1, 0, 0, 0, 0), some (.getfield 16, 3, 8, 5, 758, 0), none, none, some (.iload_n 2, 1, 0, 0, 0, 0), some (.iaload, 1, 0, 0, 0, 0), some (.isub, 1, 0, 0, 0, 0), some (.iastore, 1, 0, 0, 0, 0), some (.iinc 2 1, 3, 0, 0, 0, 0), none, none, some (.goto (-66), 3, 0, 0, 0, 0), none, none, some (.iload_n 1, 1, 0, 0, 0, 0), some (.ireturn, 1, 0, 0, 0, 0)]
def ct_142 : List (Option mc_E) := [some (.aload_n 0, 1, 0, 0, 0, 0), some (.iconst 0, 1, 0, 0, 0, 0), some (.putfield 60, 3, 8, 0, 753, 0), none, none, some (.aload_n 0, 1, 0, 0, 0, 0), some (.getfield 77, 3, 8, 11, 764, 0), none, none, some (.ifCond .ne 6, 3, 0, 0, 0, 0), none, none, some (.bipush (-2), 2, 0, 0, 0, 0), none, some (.ireturn, 1, 0, 0, 0, 0), some (.aload_n 0, 1, 0, 0, 0, 0), some (.dup, 1, 0, 0, 0, 0), some (.getfield 77, 3, 8, 11, 764, 0), none, none, some (.iconst 1, 1, 0, 0, 0, 0), some (.isub, 1, 0, 0, 0, 0), some (.putfield 77, 3, 8, 11, 764, 0), none, none, some (.bipush 72, 2, 0, 0, 0, 0), none, some (.aload_n 0, 1, 0, 0, 0, 0), some (.getfield 77, 3, 8, 11, 764, 0), none, none, some (.imul, 1, 0, 0, 0, 0), some (.istore_n 1, 1, 0, 0, 0, 0), some (.iconst 0, 1, 0, 0, 0, 0), some (.istore_n 2, 1, 0, 0, 0, 0), some (.iload_n 2, 1, 0, 0, 0, 0), some (.bipush 12, 2, 0, 0, 0, 0), none, some (.if_icmp .ge 88, 3, 0, 0, 0, 0), none, none, some (.aload_n 0, 1, 0, 0, 0, 0), some (.getfield 16, 3, 8, 5, 758, 0), none, none, some (.iload_n 2, 1, 0, 0, 0, 0), some (.aload_n 0, 1, 0, 0, 0, 0), some (.getfield 33, 3, 8, 10, 763, 0), none, none, some (.iload_n 1, 1, 0, 0, 0, 0), some (.iconst 4, 1, 0, 0, 0, 0), some (.iload_n 2, 1, 0, 0, 0, 0), some (.imul, 1, 0, 0, 0, 0), some (.iadd, 1, 0, 0, 0, 0), some (.iaload, 1, 0, 0, 0, 0), some (.iastore, 1, 0, 0, 0, 0), some (.aload_n 0, 1, 0, 0, 0, 0), some (.getfield 20, 3, 8, 6, 759, 0), none, none, some (.iload_n 2, 1, 0, 0, 0, 0), some (.aload_n 0, 1, 0, 0, 0, 0), some (.getfield 33, 3, 8, 10, 763, 0), none, none, some (.iload_n 1, 1, 0, 0, 0, 0), some (.iconst 4, 1, 0, 0, 0, 0), some (.iload_n 2, 1, 0, 0, 0, 0), some (.imul, 1, 0, 0, 0, 0), some (.iadd, 1, 0, 0, 0, 0), some (.iconst 1, 1, 0, 0, 0, 0), some (.iadd, 1, 0, 0, 0, 0), some (.iaload, 1, 0, 0, 0, 0), some (.iastore, 1, 0, 0, 0, 0), some (.aload_n 0, 1, 0, 0, 0, 0), some (.getfield 23, 3, 8, 7, 760, 0), none, none, some (.iload_n 2, 1, 0, 0, 0, 0), some (.aload_n 0, 1, 0, 0, 0, 0), some (.getfield 33, 3, 8, 10, 763, 0), none, none, some (.iload_n 1, 1, 0, 0, 0, 0), some (.iconst 4, 1, 0, 0, 0, 0), some (.iload_n 2, 1, 0, 0, 0, 0), some (.imul, 1, 0, 0, 0, 0), some (.iadd, 1, 0, 0, 0, 0), some (.iconst 2, 1, 0, 0, 0, 0), some (.iadd, 1, 0, 0, 0, 0), some (.iaload, 1, 0, 0, 0, 0), some (.iastore, 1, 0, 0, 0, 0), some (.aload_n 0, 1, 0, 0, 0, 0), some (.getfield 26, 3, 8, 8, 761, 0), none, none, some (.iload_n 2, 1, 0, 0, 0, 0), some (.aload_n 0, 1, 0, 0, 0, 0), some (.getfield 33, 3, 8, 10, 763, 0), none, none, some (.iload_n 1, 1, 0, 0, 0, 0), some (.iconst 4, 1, 0, 0, 0, 0), some (.iload_n 2, 1, 0, 0, 0, 0), some (.imul, 1, 0, 0, 0, 0), some (.iadd, 1, 0, 0, 0, 0), some (.iconst 3, 1, 0, 0, 0, 0), some (.iadd, 1, 0, 0, 0, 0), some (.iaload, 1, 0, 0, 0, 0), some (.iconst 1, 1, 0, 0, 0, 0), some (.if_icmp .ne 7, 3, 0, 0, 0, 0), none, none, some (.iconst 1, 1, 0, 0, 0, 0), some (.goto 4, 3, 0, 0, 0, 0), none, none, some (.iconst 0, 1, 0, 0, 0, 0), some (.bastore, 1, 0, 0, 0, 0), some (.iinc 2 1, 3, 0, 0, 0, 0), none, none, some (.goto (-88), 3, 0, 0, 0, 0), none, none, some (.iconst 0, 1, 0, 0, 0, 0), some (.istore_n 2, 1, 0, 0, 0, 0), some (.iload_n 2, 1, 0, 0, 0, 0), some (.bipush 24, 2, 0, 0, 0, 0), none, some (.if_icmp .ge 26, 3, 0, 0, 0, 0), none, none, some (.aload_n 0, 1, 0, 0, 0, 0), some (.getfield 30, 3, 8, 9, 762, 0), none, none, some (.iload_n 2, 1, 0, 0, 0, 0), some (.aload_n 0, 1, 0, 0, 0, 0), some (.getfield 33, 3, 8, 10, 763, 0), none, none, some (.iload_n 1, 1, 0, 0, 0, 0), some (.bipush 48, 2, 0, 0, 0, 0), none, some (.iadd, 1, 0, 0, 0, 0), some (.iload_n 2, 1, 0, 0, 0, 0), some (.iadd, 1, 0, 0, 0, 0), some (.iaload, 1, 0, 0, 0, 0), some (.iastore, 1, 0, 0, 0, 0), some (.iinc 2 1, 3, 0, 0, 0, 0), none, none, some (.goto (-26), 3, 0, 0, 0, 0), none, none, some (.aload_n 0, 1, 0, 0, 0, 0), some (.getfield 77, 3, 8, 11, 764, 0), none, none, some (.ireturn, 1, 0, 0, 0, 0)]
def ct_143 : List (Option mc_E) := [some (.aload_n 0, 1, 0, 0, 0, 0), some (.iconst 0, 1, 0, 0, 0, 0), some (.putfield 60, 3, 8, 0, 753, 0), none, none, some (.aload_n 0, 1, 0, 0, 0, 0), some (.iload_n 1, 1, 0, 0, 0, 0), some (.invokevirtual 109, 3, 117, 0, 834, 0), none, none, some (.ifCond .ne 5, 3, 0, 0, 0, 0), none, none, some (.iconst (-1), 1, 0, 0, 0, 0), some (.ireturn, 1, 0, 0, 0, 0), some (.aload_n 0, 1, 0, 0, 0, 0), some (.getfield 23, 3, 8, 7, 760, 0), none, none, some (.iload_n 1, 1, 0, 0, 0, 0), some (.iaload, 1, 0, 0, 0, 0), some (.istore_n 2, 1, 0, 0, 0, 0), some (.aload_n 0, 1, 0, 0, 0, 0), some (.dup, 1, 0, 0, 0, 0), some (.getfield 128, 3, 8, 2, 755, 0), none, none, some (.iload_n 2, 1, 0, 0, 0, 0), some (.iconst 1, 1, 0, 0, 0, 0), some (.if_icmp .ne 9, 3, 0, 0, 0, 0), none, none, some (.ldc2_w 132, 3, 0, 0, 922, 10), none, none, some (.goto 30, 3, 0, 0, 0, 0), none, none, some (.iload_n 2, 1, 0, 0, 0, 0), some (.iconst 4, 1, 0, 0, 0, 0), some (.if_icmp .ne 24, 3, 0, 0, 0, 0), none, none, some (.aload_n 0, 1, 0, 0, 0, 0), some (.getfield 26, 3, 8, 8, 761, 0), none, none, some (.iload_n 1, 1, 0, 0, 0, 0), some (.baload, 1, 0, 0, 0, 0), some (.ifCond .eq 9, 3, 0, 0, 0, 0), none, none, some (.ldc2_w 134, 3, 0, 0, 923, 101), none, none, some (.goto 10, 3, 0, 0, 0, 0), none, none, some (.ldc2_w 136, 3, 0, 0, 924, 110), none, none, some (.goto 4, 3, 0, 0, 0, 0), none, none, some (.lconst 1, 1, 0, 0, 0, 0), some (.ladd, 1, 0, 0, 0, 0), some (.putfield 128, 3, 8, 2, 755, 0), none, none, some (.aload_n 0, 1, 0, 0, 0, 0), some (.iload_n 1, 1, 0, 0, 0, 0), some (.invokevirtual 106, 3, 121, 0, 863, 0), none, none, some (.ireturn, 1, 0, 0, 0, 0)]
def ct_144 : List (Option mc_E) := [some (.aload_n 0, 1, 0, 0, 0, 0), some (.iconst 0, 1, 0, 0, 0, 0), some (.putfield 60, 3, 8, 0, 753, 0), none, none, some (.aload_n 0, 1, 0, 0, 0, 0), some (.iload_n 1, 1, 0, 0, 0, 0), some (.invokevirtual 109, 3, 117, 0, 834, 0), none, none, some (.ifCond .ne 5, 3, 0, 0, 0, 0), none, none, some (.iconst (-1), 1, 0, 0, 0, 0), some (.ireturn, 1, 0, 0, 0, 0), some (.aload_n 0, 1, 0, 0, 0, 0), some (.dup, 1, 0, 0, 0, 0), some (.getfield 128, 3, 8, 2, 755, 0), none, none, some (.aload_n 0, 1, 0, 0, 0, 0), some (.getfield 23, 3, 8, 7, 760, 0), none, none, some (.iload_n 1, 1, 0, 0, 0, 0), some (.iaload, 1, 0, 0, 0, 0), some (.iconst 2, 1, 0, 0, 0, 0), some (.if_icmp .ne 9, 3, 0, 0, 0, 0), none, none, some (.ldc2_w 138, 3, 0, 0, 929, 12000), none, none, some (.goto 22, 3, 0, 0, 0, 0), none, none, some (.aload_n 0, 1, 0, 0, 0, 0), some (.getfield 23, 3, 8, 7, 760, 0), none, none, some (.iload_n 1, 1, 0, 0, 0, 0), some (.iaload, 1, 0, 0, 0, 0), some (.iconst 3, 1, 0, 0, 0, 0), some (.if_icmp .ne 9, 3, 0, 0, 0, 0), none, none, some (.ldc2_w 140, 3, 0, 0, 930, 100000), none, none, some (.goto 6, 3, 0, 0, 0, 0), none, none, some (.ldc2_w 142, 3, 0, 0, 931, 1000), none, none, some (.ladd, 1, 0, 0, 0, 0), some (.putfield 128, 3, 8, 2, 755, 0), none, none, some (.aload_n 0, 1, 0, 0, 0, 0), some (.iload_n 1, 1, 0, 0, 0, 0), some (.invokevirtual 95, 3, 122, 0, 886, 0), none, none, some (.ireturn, 1, 0, 0, 0, 0)]
def ct_145 : List (Option mc_E) := [some (.aload_n 0, 1, 0, 0, 0, 0), some (.iconst 0, 1, 0, 0, 0, 0), some (.putfield 60, 3, 8, 0, 753, 0), none, none, some (.aload_n 0, 1, 0, 0, 0, 0), some (.iload_n 1, 1, 0, 0, 0, 0), some (.invokevirtual 109, 3, 117, 0, 834, 0), none, none, some (.ifCond .eq 12, 3, 0, 0, 0, 0), none, none, some (.iload_n 2, 1, 0, 0, 0, 0), some (.iconst 0, 1, 0, 0, 0, 0), some (.iconst 4, 1, 0, 0, 0, 0), some (.invokestatic 70, 3, 112, 0, 819, 0), none, none, some (.ifCond .ne 5, 3, 0, 0, 0, 0), none, none, some (.iconst (-1), 1, 0, 0, 0, 0), some (.ireturn, 1, 0, 0, 0, 0), some (.iload_n 2, 1, 0, 0, 0, 0), some (.ifCond .ne 12, 3, 0, 0, 0, 0), none, none, some (.aload_n 0, 1, 0, 0, 0, 0), some (.getfield 16, 3, 8, 5, 758, 0), none, none, some (.iload_n 1, 1, 0, 0, 0, 0), some (.iaload, 1, 0, 0, 0, 0), some (.goto 66, 3, 0, 0, 0, 0), none, none, some (.iload_n 2, 1, 0, 0, 0, 0), some (.iconst 1, 1, 0, 0, 0, 0), some (.if_icmp .ne 12, 3, 0, 0, 0, 0), none, none, some (.aload_n 0, 1, 0, 0, 0, 0), some (.getfield 20, 3, 8, 6, 759, 0), none, none, some (.iload_n 1, 1, 0, 0, 0, 0), some (.iaload, 1, 0, 0, 0, 0), some (.goto 52, 3, 0, 0, 0, 0), none, none, some (.iload_n 2, 1, 0, 0, 0, 0), some (.iconst 2, 1, 0, 0, 0, 0), some (.if_icmp .ne 12, 3, 0, 0, 0, 0), none, none, some (.aload_n 0, 1, 0, 0, 0, 0), some (.getfield 23, 3, 8, 7, 760, 0), none, none, some (.iload_n 1, 1, 0, 0, 0, 0), some (.iaload, 1, 0, 0, 0, 0), some (.goto 38, 3, 0, 0, 0, 0), none, none, some (.iload_n 2, 1, 0, 0, 0, 0), some (.iconst 3, 1, 0, 0, 0, 0), some (.if_icmp .ne 20, 3, 0, 0, 0, 0), none, none, some (.aload_n 0, 1, 0, 0, 0, 0), some (.getfield 26, 3, 8, 8, 761, 0), none, none, some (.iload_n 1, 1, 0, 0, 0, 0), some (.baload, 1, 0, 0, 0, 0), some (.ifCond .eq 7, 3, 0, 0, 0, 0), none, none, some (.iconst 1, 1, 0, 0, 0, 0), some (.goto 20, 3, 0, 0, 0, 0), none, none, some (.iconst 0, 1, 0, 0, 0, 0), some (.goto 16, 3, 0, 0, 0, 0), none, none, some (.aload_n 0, 1, 0, 0, 0, 0), some (.iload_n 1, 1, 0, 0, 0, 0), some (.invokevirtual 80, 3, 120, 0, 867, 0), none, none, some (.ifCond .eq 7, 3, 0, 0, 0, 0), none, none, some (.iconst 1, 1, 0, 0, 0, 0), some (.goto 4, 3, 0, 0, 0, 0), none, none, some (.iconst 0, 1, 0, 0, 0, 0), some (.ireturn, 1, 0, 0, 0, 0)]
def ct_146 : List (Option mc_E) := [some (.aload_n 0, 1, 0, 0, 0, 0), some (.iconst 0, 1, 0, 0, 0, 0), some (.putfield 60, 3, 8, 0, 753, 0), none, none, some (.aload_n 0, 1, 0, 0, 0, 0), some (.iload_n 1, 1, 0, 0, 0, 0), some (.invokevirtual 122, 3, 118, 0, 898, 0), none, none, some (.ifCond .eq 13, 3, 0, 0, 0, 0), none, none, some (.iload_n 2, 1, 0, 0, 0, 0), some (.iconst 0, 1, 0, 0, 0, 0), some (.bipush 6, 2, 0, 0, 0, 0), none, some (.invokestatic 70, 3, 112, 0, 819, 0), none, none, some (.ifCond .ne 5, 3, 0, 0, 0, 0), none, none, some (.iconst (-1), 1, 0, 0, 0, 0), some (.ireturn, 1, 0, 0, 0, 0), some (.aload_n 0, 1, 0, 0, 0, 0), some (.iload_n 1, 1, 0, 0, 0, 0), some (.iconst 0, 1, 0, 0, 0, 0), some (.invokevirtual 91, 3, 123, 0, 875, 0), none, none, some (.istore_n 3, 1, 0, 0, 0, 0), some (.aload_n 0, 1, 0, 0, 0, 0), some (.iload_n 1, 1, 0, 0, 0, 0), some (.iconst 1, 1, 0, 0, 0, 0), some (.invokevirtual 91, 3, 123, 0, 875, 0), none, none, some (.istore 4, 2, 0, 0, 0, 0), none, some (.aload_n 0, 1, 0, 0, 0, 0), some (.iload_n 1, 1, 0, 0, 0, 0), some (.iconst 0, 1, 0, 0, 0, 0), some (.invokevirtual 144, 3, 125, 0, 940, 0), none, none, some (.istore 5, 2, 0, 0, 0, 0), none, some (.aload_n 0, 1, 0, 0, 0, 0), some (.iload_n 1, 1, 0, 0, 0, 0), some (.iconst 1, 1, 0, 0, 0, 0), some (.invokevirtual 144, 3, 125, 0, 940, 0), none, none, some (.istore 6, 2, 0, 0, 0, 0), none, some (.aload_n 0, 1, 0, 0, 0, 0), some (.iload_n 3, 1, 0, 0, 0, 0), some (.invokevirtual 106, 3, 121, 0, 863, 0), none, none, some (.aload_n 0, 1, 0, 0, 0, 0), some (.iload 4, 2, 0, 0, 0, 0), none, some (.invokevirtual 106, 3, 121, 0, 863, 0), none, none, some (.if_icmp .ne 7, 3, 0, 0, 0, 0), none, none, some (.iconst 1, 1, 0, 0, 0, 0), some (.goto 4, 3, 0, 0, 0, 0), none, none, some (.iconst 0, 1, 0, 0, 0, 0), some (.istore 7, 2, 0, 0, 0, 0), none, some (.aload_n 0, 1, 0, 0, 0, 0), some (.iload_n 1, 1, 0, 0, 0, 0), some (.invokevirtual 99, 3, 126, 0, 882, 0), none, none, some (.istore 8, 2, 0, 0, 0, 0), none, some (.iload_n 2, 1, 0, 0, 0, 0), some (.tableswitch 111 0 5 #[39, 41, 44, 59, 74, 85], 39, 0, 0, 0, 0), none, none, none, none, none, none, none, none, none, none, none, none, none, none, none, none, none, none, none, none, none, none, none, none, none, none, none, none, none, none, none, none, none, none, none, none, none, none, some (.iload_n 3, 1, 0, 0, 0, 0), some (.ireturn, 1, 0, 0, 0, 0), some (.iload 4, 2, 0, 0, 0, 0), none, some (.ireturn, 1, 0, 0, 0, 0), some (.iload 5, 2, 0, 0, 0, 0), none, some (.iload 6, 2, 0, 0, 0, 0), none, some (.if_icmp .ge 8, 3, 0, 0, 0, 0), none, none, some (.iload 5, 2, 0, 0, 0, 0), none, some (.goto 5, 3, 0, 0, 0, 0), none, none, some (.iload 6, 2, 0, 0, 0, 0), none, some (.ireturn, 1, 0, 0, 0, 0), some (.iload 5, 2, 0, 0, 0, 0), none, some (.iload 6, 2, 0, 0, 0, 0), none, some (.if_icmp .ge 8, 3, 0, 0, 0, 0), none, none, some (.iload 6, 2, 0, 0, 0, 0), none, some (.goto 5, 3, 0, 0, 0, 0), none, none, some (.iload 5, 2, 0, 0, 0, 0), none, some (.ireturn, 1, 0, 0, 0, 0), some (.aload_n 0, 1, 0, 0, 0, 0), some (.getfield 30, 3, 8, 9, 762, 0), none, none, some (.iload_n 1, 1, 0, 0, 0, 0), some (.iaload, 1, 0, 0, 0, 0), some (.sipush 1000, 3, 0, 0, 0, 0), none, none, some (.iadd, 1, 0, 0, 0, 0), some (.ireturn, 1, 0, 0, 0, 0), some (.iload 8, 2, 0, 0, 0, 0), none, some (.ifCond .le 8, 3, 0, 0, 0, 0), none, none, some (.iload 7, 2, 0, 0, 0, 0), none, some (.ifCond .eq 13, 3, 0, 0, 0, 0), none, none, some (.iload 8, 2, 0, 0, 0, 0), none, some (.ifCond .ge 12, 3, 0, 0, 0, 0), none, none, some (.iload 7, 2, 0, 0, 0, 0), none, some (.ifCond .eq 7, 3, 0, 0, 0, 0), none, none, some (.iconst 1, 1, 0, 0, 0, 0), some (.goto 4, 3, 0, 0, 0, 0), none, none, some (.iconst 0, 1, 0, 0, 0, 0), some (.ireturn, 1, 0, 0, 0, 0), some (.aload_n 0, 1, 0, 0, 0, 0), some (.iload_n 1, 1, 0, 0, 0, 0), some (.invokevirtual 147, 3, 127, 0, 952, 0), none, none, some (.ireturn, 1, 0, 0, 0, 0)]
def ct_147 : List (Option mc_E) := [some (.aload_n 0, 1, 0, 0, 0, 0), some (.iconst 0, 1, 0, 0, 0, 0), some (.putfield 60, 3, 8, 0, 753, 0), none, none, some (.aload_n 0, 1, 0, 0, 0, 0), some (.aload_n 0, 1, 0, 0, 0, 0), some (.invokevirtual 116, 3, 130, 0, 859, 0), none, none, some (.invokevirtual 119, 3, 129, 0, 871, 0), none, none, some (.ireturn, 1, 0, 0, 0, 0)]
def ct_148 : List (Option mc_E) := [some (.iconst 0, 1, 0, 0, 0, 0), some (.istore_n 2, 1, 0, 0, 0, 0), some (.iconst 0, 1, 0, 0, 0, 0), some (.istore_n 3, 1, 0, 0, 0, 0), some (.iload_n 3, 1, 0, 0, 0, 0), some (.aload_n 0, 1, 0, 0, 0, 0), some (.invokevirtual 74, 3, 115, 0, 822, 0), none, none, some (.if_icmp .ge 53, 3, 0, 0, 0, 0), none, none, some (.aload_n 0, 1, 0, 0, 0, 0), some (.iload_n 3, 1, 0, 0, 0, 0), some (.invokevirtual 99, 3, 126, 0, 882, 0), none, none, some (.ifCond .ge 39, 3, 0, 0, 0, 0), none, none, some (.iload_n 2, 1, 0, 0, 0, 0), some (.aload_n 0, 1, 0, 0, 0, 0), some (.iload_n 3, 1, 0, 0, 0, 0), some (.iconst 0, 1, 0, 0, 0, 0), some (.invokevirtual 144, 3, 125, 0, 940, 0), none, none, some (.iload_n 1, 1, 0, 0, 0, 0), some (.if_icmp .ne 7, 3, 0, 0, 0, 0), none, none, some (.iconst 1, 1, 0, 0, 0, 0), some (.goto 4, 3, 0, 0, 0, 0), none, none, some (.iconst 0, 1, 0, 0, 0, 0), some (.iadd, 1, 0, 0, 0, 0), some (.istore_n 2, 1, 0, 0, 0, 0), some (.iload_n 2, 1, 0, 0, 0, 0), some (.aload_n 0, 1, 0, 0, 0, 0), some (.iload_n 3, 1, 0, 0, 0, 0), some (.iconst 1, 1, 0, 0, 0, 0), some (.invokevirtual 144, 3, 125, 0, 940, 0), none, none, some (.iload_n 1, 1, 0, 0, 0, 0), some (.if_icmp .ne 7, 3, 0, 0, 0, 0), none, none, some (.iconst 1, 1, 0, 0, 0, 0), some (.goto 4, 3, 0, 0, 0, 0), none, none, some (.iconst 0, 1, 0, 0, 0, 0), some (.iadd, 1, 0, 0, 0, 0), some (.istore_n 2, 1, 0, 0, 0, 0), some (.iinc 3 1, 3, 0, 0, 0, 0), none, none, some (.goto (-55), 3, 0, 0, 0, 0), none, none, some (.iload_n 2, 1, 0, 0, 0, 0), some (.iconst 2, 1, 0, 0, 0, 0), some (.irem, 1, 0, 0, 0, 0), some (.iconst 1, 1, 0, 0, 0, 0), some (.if_icmp .ne 7, 3, 0, 0, 0, 0), none, none, some (.iconst 1, 1, 0, 0, 0, 0), some (.goto 4, 3, 0, 0, 0, 0), none, none, some (.iconst 0, 1, 0, 0, 0, 0), some (.ireturn, 1, 0, 0, 0, 0)]
def ct_149 : List (Option mc_E) := [some (.aload_n 0, 1, 0, 0, 0, 0), some (.iconst 0, 1, 0, 0, 0, 0), some (.putfield 60, 3, 8, 0, 753, 0), none, none, some (.iload_n 1, 1, 0, 0, 0, 0), some (.iconst 0, 1, 0, 0, 0, 0), some (.aload_n 0, 1, 0, 0, 0, 0), some (.invokevirtual 84, 3, 116, 0, 948, 0), none, none, some (.iconst 1, 1, 0, 0, 0, 0), some (.isub, 1, 0, 0, 0, 0), some (.invokestatic 70, 3, 112, 0, 819, 0), none, none, some (.ifCond .ne 7, 3, 0, 0, 0, 0), none, none, some (.iconst (-1), 1, 0, 0, 0, 0), some (.goto 16, 3, 0, 0, 0, 0), none, none, some (.aload_n 0, 1, 0, 0, 0, 0), some (.iload_n 1, 1, 0, 0, 0, 0), some (.invokevirtual 150, 3, 148, 0, 964, 0), none, none, some (.ifCond .eq 7, 3, 0, 0, 0, 0), none, none, some (.iconst 1, 1, 0, 0, 0, 0), some (.goto 4, 3, 0, 0, 0, 0), none, none, some (.iconst 0, 1, 0, 0, 0, 0), some (.ireturn, 1, 0, 0, 0, 0)]
def ct_150 : List (Option mc_E) := [some (.iconst 0, 1, 0, 0, 0, 0), some (.istore_n 2, 1, 0, 0, 0, 0), some (.iload_n 2, 1, 0, 0, 0, 0), some (.aload_n 0, 1, 0, 0, 0, 0), some (.invokevirtual 84, 3, 116, 0, 948, 0), none, none, some (.if_icmp .ge 26, 3, 0, 0, 0, 0), none, none, some (.aload_n 0, 1, 0, 0, 0, 0), some (.getfield 54, 3, 8, 18, 771, 0), none, none, some (.iload_n 2, 1, 0, 0, 0, 0), some (.iload_n 2, 1, 0, 0, 0, 0), some (.iload_n 1, 1, 0, 0, 0, 0), some (.if_icmp .ne 7, 3, 0, 0, 0, 0), none, none, some (.iconst 0, 1, 0, 0, 0, 0), some (.goto 5, 3, 0, 0, 0, 0), none, none, some (.ldc 153, 2, 0, 0, 976, 2147483647), none, some (.iastore, 1, 0, 0, 0, 0), some (.iinc 2 1, 3, 0, 0, 0, 0), none, none, some (.goto (-28), 3, 0, 0, 0, 0), none, none, some (.iconst 1, 1, 0, 0, 0, 0), some (.istore_n 2, 1, 0, 0, 0, 0), some (.iload_n 2, 1, 0, 0, 0, 0), some (.ifCond .eq 149, 3, 0, 0, 0, 0), none, none, some (.iconst 0, 1, 0, 0, 0, 0), some (.istore_n 2, 1, 0, 0, 0, 0), some (.iconst 0, 1, 0, 0, 0, 0), some (.istore_n 3, 1, 0, 0, 0, 0), some (.iload_n 3, 1, 0, 0, 0, 0), some (.aload_n 0, 1, 0, 0, 0, 0), some (.invokevirtual 74, 3, 115, 0, 822, 0), none, none, some (.if_icmp .ge 134, 3, 0, 0, 0, 0), none, none, some (.aload_n 0, 1, 0, 0, 0, 0), some (.iload_n 3, 1, 0, 0, 0, 0), some (.iconst 0, 1, 0, 0, 0, 0), some (.invokevirtual 144, 3, 125, 0, 940, 0), none, none, some (.istore 4, 2, 0, 0, 0, 0), none, some (.aload_n 0, 1, 0, 0, 0, 0), some (.iload_n 3, 1, 0, 0, 0, 0), some (.iconst 1, 1, 0, 0, 0, 0), some (.invokevirtual 144, 3, 125, 0, 940, 0), none, none, some (.istore 5, 2, 0, 0, 0, 0), none, some (.aload_n 0, 1, 0, 0, 0, 0), some (.iload_n 3, 1, 0, 0, 0, 0), some (.invokevirtual 147, 3, 127, 0, 952, 0), none, none, some (.istore 6, 2, 0, 0, 0, 0), none, some (.aload_n 0, 1, 0, 0, 0, 0), some (.getfield 54, 3, 8, 18, 771, 0), none, none, some (.iload 4, 2, 0, 0, 0, 0), none, some (.iaload, 1, 0, 0, 0, 0), some (.ldc 153, 2, 0, 0, 976, 2147483647), none, some (.if_icmp .ge 42, 3, 0, 0, 0, 0), none, none, some (.aload_n 0, 1, 0, 0, 0, 0), some (.getfield 54, 3, 8, 18, 771, 0), none, none, some (.iload 4, 2, 0, 0, 0, 0), none, some (.iaload, 1, 0, 0, 0, 0), some (.iload 6, 2, 0, 0, 0, 0), none, some (.iadd, 1, 0, 0, 0, 0), some (.aload_n 0, 1, 0, 0, 0, 0), some (.getfield 54, 3, 8, 18, 771, 0), none, none, some (.iload 5, 2, 0, 0, 0, 0), none, some (.iaload, 1, 0, 0, 0, 0), some (.if_icmp .ge 22, 3, 0, 0, 0, 0), none, none, some (.aload_n 0, 1, 0, 0, 0, 0), some (.getfield 54, 3, 8, 18, 771, 0), none, none, some (.iload 5, 2, 0, 0, 0, 0), none, some (.aload_n 0, 1, 0, 0, 0, 0), some (.getfield 54, 3, 8, 18, 771, 0), none, none, some (.iload 4, 2, 0, 0, 0, 0), none, some (.iaload, 1, 0, 0, 0, 0), some (.iload 6, 2, 0, 0, 0, 0), none, some (.iadd, 1, 0, 0, 0, 0), some (.iastore, 1, 0, 0, 0, 0), some (.iconst 1, 1, 0, 0, 0, 0), some (.istore_n 2, 1, 0, 0, 0, 0), some (.aload_n 0, 1, 0, 0, 0, 0), some (.getfield 54, 3, 8, 18, 771, 0), none, none, some (.iload 5, 2, 0, 0, 0, 0), none, some (.iaload, 1, 0, 0, 0, 0), some (.ldc 153, 2, 0, 0, 976, 2147483647), none, some (.if_icmp .ge 42, 3, 0, 0, 0, 0), none, none, some (.aload_n 0, 1, 0, 0, 0, 0), some (.getfield 54, 3, 8, 18, 771, 0), none, none, some (.iload 5, 2, 0, 0, 0, 0), none, some (.iaload, 1, 0, 0, 0, 0), some (.iload 6, 2, 0, 0, 0, 0), none, some (.iadd, 1, 0, 0, 0, 0), some (.aload_n 0, 1, 0, 0, 0, 0), some (.getfield 54, 3, 8, 18, 771, 0), none, none, some (.iload 4, 2, 0, 0, 0, 0), none, some (.iaload, 1, 0, 0, 0, 0), some (.if_icmp .ge 22, 3, 0, 0, 0, 0), none, none, some (.aload_n 0, 1, 0, 0, 0, 0), some (.getfield 54, 3, 8, 18, 771, 0), none, none, some (.iload 4, 2, 0, 0, 0, 0), none, some (.aload_n 0, 1, 0, 0, 0, 0), some (.getfield 54, 3, 8, 18, 771, 0), none, none, some (.iload 5, 2, 0, 0, 0, 0), none, some (.iaload, 1, 0, 0, 0, 0), some (.iload 6, 2, 0, 0, 0, 0), none, some (.iadd, 1, 0, 0, 0, 0), some (.iastore, 1, 0, 0, 0, 0), some (.iconst 1, 1, 0, 0, 0, 0), some (.istore_n 2, 1, 0, 0, 0, 0), some (.iinc 3 1, 3, 0, 0, 0, 0), none, none, some (.goto (-136), 3, 0, 0, 0, 0), none, none, some (.goto (-147), 3, 0, 0, 0, 0), none, none, some (.return_, 1, 0, 0, 0, 0)]
def ct_151 : List (Option mc_E) := [some (.aload_n 0, 1, 0, 0, 0, 0), some (.iconst 0, 1, 0, 0, 0, 0), some (.putfield 60, 3, 8, 0, 753, 0), none, none, some (.iload_n 1, 1, 0, 0, 0, 0), some (.iconst 0, 1, 0, 0, 0, 0), some (.aload_n 0, 1, 0, 0, 0, 0), some (.invokevirtual 84, 3, 116, 0, 948, 0), none, none, some (.iconst 1, 1, 0, 0, 0, 0), some (.isub, 1, 0, 0, 0, 0), some (.invokestatic 70, 3, 112, 0, 819, 0), none, none, some (.ifCond .eq 17, 3, 0, 0, 0, 0), none, none, some (.iload_n 2, 1, 0, 0, 0, 0), some (.iconst 0, 1, 0, 0, 0, 0), some (.aload_n 0, 1, 0, 0, 0, 0), some (.invokevirtual 84, 3, 116, 0, 948, 0), none, none, some (.iconst 1, 1, 0, 0, 0, 0), some (.isub, 1, 0, 0, 0, 0), some (.invokestatic 70, 3, 112, 0, 819, 0), none, none, some (.ifCond .ne 5, 3, 0, 0, 0, 0), none, none, some (.iconst (-1), 1, 0, 0, 0, 0), some (.ireturn, 1, 0, 0, 0, 0), some (.aload_n 0, 1, 0, 0, 0, 0), some (.iload_n 1, 1, 0, 0, 0, 0), some (.invokevirtual 154, 3, 150, 0, 972, 0), none, none, some (.aload_n 0, 1, 0, 0, 0, 0), some (.getfield 54, 3, 8, 18, 771, 0), none, none, some (.iload_n 2, 1, 0, 0, 0, 0), some (.iaload, 1, 0, 0, 0, 0), some (.ireturn, 1, 0, 0, 0, 0)]
def ct_152 : List (Option mc_E) := [some (.aload_n 0, 1, 0, 0, 0, 0), some (.iconst 0, 1, 0, 0, 0, 0), some (.putfield 60, 3, 8, 0, 753, 0), none, none, some (.iconst 0, 1, 0, 0, 0, 0), some (.istore_n 1, 1, 0, 0, 0, 0), some (.iload_n 1, 1, 0, 0, 0, 0), some (.aload_n 0, 1, 0, 0, 0, 0), some (.invokevirtual 67, 3, 113, 0, 838, 0), none, none, some (.if_icmp .ge 20, 3, 0, 0, 0, 0), none, none, some (.aload_n 0, 1, 0, 0, 0, 0), some (.iload_n 1, 1, 0, 0, 0, 0), some (.invokevirtual 80, 3, 120, 0, 867, 0), none, none, some (.ifCond .eq 6, 3, 0, 0, 0, 0), none, none, some (.bipush (-2), 2, 0, 0, 0, 0), none, some (.ireturn, 1, 0, 0, 0, 0), some (.iinc 1 1, 3, 0, 0, 0, 0), none, none, some (.goto (-22), 3, 0, 0, 0, 0), none, none, some (.iconst 0, 1, 0, 0, 0, 0), some (.istore_n 1, 1, 0, 0, 0, 0), some (.iconst 0, 1, 0, 0, 0, 0), some (.istore_n 2, 1, 0, 0, 0, 0), some (.iload_n 2, 1, 0, 0, 0, 0), some (.aload_n 0, 1, 0, 0, 0, 0), some (.invokevirtual 84, 3, 116, 0, 948, 0), none, none, some (.if_icmp .ge 27, 3, 0, 0, 0, 0), none, none, some (.iload_n 1, 1, 0, 0, 0, 0), some (.aload_n 0, 1, 0, 0, 0, 0), some (.iload_n 2, 1, 0, 0, 0, 0), some (.invokevirtual 150, 3, 148, 0, 964, 0), none, none, some (.ifCond .eq 9, 3, 0, 0, 0, 0), none, none, some (.iconst 1, 1, 0, 0, 0, 0), some (.iload_n 2, 1, 0, 0, 0, 0), some (.ishl, 1, 0, 0, 0, 0), some (.goto 4, 3, 0, 0, 0, 0), none, none, some (.iconst 0, 1, 0, 0, 0, 0), some (.ior, 1, 0, 0, 0, 0), some (.istore_n 1, 1, 0, 0, 0, 0), some (.iinc 2 1, 3, 0, 0, 0, 0), none, none, some (.goto (-29), 3, 0, 0, 0, 0), none, none, some (.aload_n 0, 1, 0, 0, 0, 0), some (.getfield 57, 3, 8, 19, 772, 0), none, none, some (.iconst 0, 1, 0, 0, 0, 0), some (.iconst 0, 1, 0, 0, 0, 0), some (.iastore, 1, 0, 0, 0, 0), some (.iconst 1, 1, 0, 0, 0, 0), some (.istore_n 2, 1, 0, 0, 0, 0), some (.iload_n 2, 1, 0, 0, 0, 0), some (.iload_n 1, 1, 0, 0, 0, 0), some (.if_icmp .gt 133, 3, 0, 0, 0, 0), none, none, some (.aload_n 0, 1, 0, 0, 0, 0), some (.getfield 57, 3, 8, 19, 772, 0), none, none, some (.iload_n 2, 1, 0, 0, 0, 0), some (.ldc 158, 2, 0, 0, 981, 1000000000), none, some (.iastore, 1, 0, 0, 0, 0), some (.iload_n 2, 1, 0, 0, 0, 0), some (.iload_n 1, 1, 0, 0, 0, 0), some (.iconst (-1), 1, 0, 0, 0, 0), some (.ixor, 1, 0, 0, 0, 0), some (.iand, 1, 0, 0, 0, 0), some (.ifCond .ne 111, 3, 0, 0, 0, 0), none, none, some (.iconst 0, 1, 0, 0, 0, 0), some (.istore_n 3, 1, 0, 0, 0, 0), some (.iload_n 2, 1, 0, 0, 0, 0), some (.iload_n 3, 1, 0, 0, 0, 0), some (.ishr, 1, 0, 0, 0, 0), some (.iconst 1, 1, 0, 0, 0, 0), some (.iand, 1, 0, 0, 0, 0), some (.ifCond .ne 9, 3, 0, 0, 0, 0), none, none, some (.iinc 3 1, 3, 0, 0, 0, 0), none, none, some (.goto (-11), 3, 0, 0, 0, 0), none, none, some (.aload_n 0, 1, 0, 0, 0, 0), some (.iload_n 3, 1, 0, 0, 0, 0), some (.invokevirtual 154, 3, 150, 0, 972, 0), none, none, some (.iload_n 3, 1, 0, 0, 0, 0), some (.iconst 1, 1, 0, 0, 0, 0), some (.iadd, 1, 0, 0, 0, 0), some (.istore 4, 2, 0, 0, 0, 0), none, some (.iload 4, 2, 0, 0, 0, 0), none, some (.aload_n 0, 1, 0, 0, 0, 0), some (.invokevirtual 84, 3, 116, 0, 948, 0), none, none, some (.if_icmp .ge 76, 3, 0, 0, 0, 0), none, none, some (.iload_n 2, 1, 0, 0, 0, 0), some (.iload 4, 2, 0, 0, 0, 0), none, some (.ishr, 1, 0, 0, 0, 0), some (.iconst 1, 1, 0, 0, 0, 0), some (.iand, 1, 0, 0, 0, 0), some (.iconst 1, 1, 0, 0, 0, 0), some (.if_icmp .ne 60, 3, 0, 0, 0, 0), none, none, some (.aload_n 0, 1, 0, 0, 0, 0), some (.getfield 57, 3, 8, 19, 772, 0), none, none, some (.iload_n 2, 1, 0, 0, 0, 0), some (.iconst 1, 1, 0, 0, 0, 0), some (.iload_n 3, 1, 0, 0, 0, 0), some (.ishl, 1, 0, 0, 0, 0), some (.iconst (-1), 1, 0, 0, 0, 0), some (.ixor, 1, 0, 0, 0, 0), some (.iand, 1, 0, 0, 0, 0), some (.iconst 1, 1, 0, 0, 0, 0), some (.iload 4, 2, 0, 0, 0, 0), none, some (.ishl, 1, 0, 0, 0, 0), some (.iconst (-1), 1, 0, 0, 0, 0), some (.ixor, 1, 0, 0, 0, 0), some (.iand, 1, 0, 0, 0, 0), some (.iaload, 1, 0, 0, 0, 0), some (.aload_n 0, 1, 0, 0, 0, 0), some (.getfield 54, 3, 8, 18, 771, 0), none, none, some (.iload 4, 2, 0, 0, 0, 0), none, some (.iaload, 1, 0, 0, 0, 0), some (.iadd, 1, 0, 0, 0, 0), some (.istore 5, 2, 0, 0, 0, 0), none, some (.aload_n 0, 1, 0, 0, 0, 0), some (.getfield 57, 3, 8, 19, 772, 0), none, none, some (.iload_n 2, 1, 0, 0, 0, 0), some (.iload 5, 2, 0, 0, 0, 0), none, some (.aload_n 0, 1, 0, 0, 0, 0), some (.getfield 57, 3, 8, 19, 772, 0), none, none, some (.iload_n 2, 1, 0, 0, 0, 0), some (.iaload, 1, 0, 0, 0, 0), some (.if_icmp .ge 8, 3, 0, 0, 0, 0), none, none, some (.iload 5, 2, 0, 0, 0, 0), none, some (.goto 9, 3, 0, 0, 0, 0), none, none, some (.aload_n 0, 1, 0, 0, 0, 0), some (.getfield 57, 3, 8, 19, 772, 0), none, none, some (.iload_n 2, 1, 0, 0, 0, 0), some (.iaload, 1, 0, 0, 0, 0), some (.iastore, 1, 0, 0, 0, 0), some (.iinc 4 1, 3, 0, 0, 0, 0), none, none, some (.goto (-79), 3, 0, 0, 0, 0), none, none, some (.iinc 2 1, 3, 0, 0, 0, 0), none, none, some (.goto (-132), 3, 0, 0, 0, 0), none, none, some (.aload_n 0, 1, 0, 0, 0, 0), some (.getfield 57, 3, 8, 19, 772, 0), none, none, some (.iload_n 1, 1, 0, 0, 0, 0), some (.iaload, 1, 0, 0, 0, 0), some (.ireturn, 1, 0, 0, 0, 0)]
def ct_153 : List (Option mc_E) := [some (.aload_n 0, 1, 0, 0, 0, 0), some (.iconst 0, 1, 0, 0, 0, 0), some (.putfield 60, 3, 8, 0, 753, 0), none, none, some (.iload_n 1, 1, 0, 0, 0, 0), some (.iconst 0, 1, 0, 0, 0, 0), some (.aload_n 0, 1, 0, 0, 0, 0), some (.invokevirtual 125, 3, 132, 0, 906, 0), none, none, some (.iconst 1, 1, 0, 0, 0, 0), some (.isub, 1, 0, 0, 0, 0), some (.invokestatic 70, 3, 112, 0, 819, 0), none, none, some (.ifCond .eq 11, 3, 0, 0, 0, 0), none, none, some (.aload_n 0, 1, 0, 0, 0, 0), some (.iload_n 1, 1, 0, 0, 0, 0), some (.invokevirtual 119, 3, 129, 0, 871, 0), none, none, some (.goto 4, 3, 0, 0, 0, 0), none, none, some (.iconst (-1), 1, 0, 0, 0, 0), some (.ireturn, 1, 0, 0, 0, 0)]
def ct_154 : List (Option mc_E) := [some (.ldc 153, 2, 0, 0, 976, 2147483647), none, some (.istore_n 1, 1, 0, 0, 0, 0), some (.iconst 0, 1, 0, 0, 0, 0), some (.istore_n 2, 1, 0, 0, 0, 0), some (.iload_n 2, 1, 0, 0, 0, 0), some (.aload_n 0, 1, 0, 0, 0, 0), some (.invokevirtual 125, 3, 132, 0, 906, 0), none, none, some (.if_icmp .ge 34, 3, 0, 0, 0, 0), none, none, some (.aload_n 0, 1, 0, 0, 0, 0), some (.iload_n 2, 1, 0, 0, 0, 0), some (.invokevirtual 159, 3, 131, 0, 994, 0), none, none, some (.ifCond .eq 20, 3, 0, 0, 0, 0), none, none, some (.aload_n 0, 1, 0, 0, 0, 0), some (.iload_n 2, 1, 0, 0, 0, 0), some (.invokevirtual 119, 3, 129, 0, 871, 0), none, none, some (.istore_n 3, 1, 0, 0, 0, 0), some (.iload_n 3, 1, 0, 0, 0, 0), some (.iload_n 1, 1, 0, 0, 0, 0), some (.if_icmp .ge 7, 3, 0, 0, 0, 0), none, none, some (.iload_n 3, 1, 0, 0, 0, 0), some (.goto 4, 3, 0, 0, 0, 0), none, none, some (.iload_n 1, 1, 0, 0, 0, 0), some (.istore_n 1, 1, 0, 0, 0, 0), some (.iinc 2 1, 3, 0, 0, 0, 0), none, none, some (.goto (-36), 3, 0, 0, 0, 0), none, none, some (.iload_n 1, 1, 0, 0, 0, 0), some (.ireturn, 1, 0, 0, 0, 0)]
def ct_155 : List (Option mc_E) := [some (.aload_n 0, 1, 0, 0, 0, 0), some (.iconst 0, 1, 0, 0, 0, 0), some (.putfield 60, 3, 8, 0, 753, 0), none, none, some (.aload_n 0, 1, 0, 0, 0, 0), some (.invokevirtual 162, 3, 154, 0, 990, 0), none, none, some (.ireturn, 1, 0, 0, 0, 0)]
def ct_156 : List (Option mc_E) := [some (.iconst 0, 1, 0, 0, 0, 0), some (.istore_n 3, 1, 0, 0, 0, 0), some (.iconst 0, 1, 0, 0, 0, 0), some (.istore 4, 2, 0, 0, 0, 0), none, some (.iload 4, 2, 0, 0, 0, 0), none, some (.aload_n 0, 1, 0, 0, 0, 0), some (.invokevirtual 125, 3, 132, 0, 906, 0), none, none, some (.if_icmp .ge 39, 3, 0, 0, 0, 0), none, none, some (.aload_n 0, 1, 0, 0, 0, 0), some (.iload 4, 2, 0, 0, 0, 0), none, some (.invokevirtual 159, 3, 131, 0, 994, 0), none, none, some (.ifCond .eq 24, 3, 0, 0, 0, 0), none, none, some (.aload_n 0, 1, 0, 0, 0, 0), some (.iload 4, 2, 0, 0, 0, 0), none, some (.invokevirtual 119, 3, 129, 0, 871, 0), none, none, some (.iload_n 1, 1, 0, 0, 0, 0), some (.if_icmp .ne 14, 3, 0, 0, 0, 0), none, none, some (.iload_n 3, 1, 0, 0, 0, 0), some (.iload_n 2, 1, 0, 0, 0, 0), some (.if_icmp .ne 6, 3, 0, 0, 0, 0), none, none, some (.iload 4, 2, 0, 0, 0, 0), none, some (.ireturn, 1, 0, 0, 0, 0), some (.iinc 3 1, 3, 0, 0, 0, 0), none, none, some (.iinc 4 1, 3, 0, 0, 0, 0), none, none, some (.goto (-42), 3, 0, 0, 0, 0), none, none, some (.iload_n 2, 1, 0, 0, 0, 0), some (.ifCond .ge 7, 3, 0, 0, 0, 0), none, none, some (.iload_n 3, 1, 0, 0, 0, 0), some (.goto 5, 3, 0, 0, 0, 0), none, none, some (.bipush (-9), 2, 0, 0, 0, 0), none, some (.ireturn, 1, 0, 0, 0, 0)]
def ct_157 : List (Option mc_E) := [some (.aload_n 0, 1, 0, 0, 0, 0), some (.iconst 0, 1, 0, 0, 0, 0), some (.putfield 60, 3, 8, 0, 753, 0), none, none, some (.aload_n 0, 1, 0, 0, 0, 0), some (.aload_n 0, 1, 0, 0, 0, 0), some (.invokevirtual 162, 3, 154, 0, 990, 0), none, none, some (.iconst (-1), 1, 0, 0, 0, 0), some (.invokevirtual 165, 3, 156, 0, 1002, 0), none, none, some (.ireturn, 1, 0, 0, 0, 0)]
def ct_158 : List (Option mc_E) := [some (.aload_n 0, 1, 0, 0, 0, 0), some (.iconst 0, 1, 0, 0, 0, 0), some (.putfield 60, 3, 8, 0, 753, 0), none, none, some (.iload_n 1, 1, 0, 0, 0, 0), some (.ifCond .ge 7, 3, 0, 0, 0, 0), none, none, some (.iconst (-1), 1, 0, 0, 0, 0), some (.goto 12, 3, 0, 0, 0, 0), none, none, some (.aload_n 0, 1, 0, 0, 0, 0), some (.aload_n 0, 1, 0, 0, 0, 0), some (.invokevirtual 162, 3, 154, 0, 990, 0), none, none, some (.iload_n 1, 1, 0, 0, 0, 0), some (.invokevirtual 165, 3, 156, 0, 1002, 0), none, none, some (.ireturn, 1, 0, 0, 0, 0)]
def ct_159 : List (Option mc_E) := [some (.aload_n 0, 1, 0, 0, 0, 0), some (.iconst 0, 1, 0, 0, 0, 0), some (.putfield 60, 3, 8, 0, 753, 0), none, none, some (.aload_n 0, 1, 0, 0, 0, 0), some (.iload_n 1, 1, 0, 0, 0, 0), some (.invokevirtual 122, 3, 118, 0, 898, 0), none, none, some (.ifCond .ne 6, 3, 0, 0, 0, 0), none, none, some (.ldc 115, 2, 0, 0, 858, -1000000), none, some (.ireturn, 1, 0, 0, 0, 0), some (.aload_n 0, 1, 0, 0, 0, 0), some (.invokevirtual 162, 3, 154, 0, 990, 0), none, none, some (.istore_n 2, 1, 0, 0, 0, 0), some (.iconst 1, 1, 0, 0, 0, 0), some (.istore_n 3, 1, 0, 0, 0, 0), some (.iconst 1, 1, 0, 0, 0, 0), some (.istore 4, 2, 0, 0, 0, 0), none, some (.iconst 0, 1, 0, 0, 0, 0), some (.istore 5, 2, 0, 0, 0, 0), none, some (.iload 5, 2, 0, 0, 0, 0), none, some (.aload_n 0, 1, 0, 0, 0, 0), some (.invokevirtual 125, 3, 132, 0, 906, 0), none, none, some (.if_icmp .ge 88, 3, 0, 0, 0, 0), none, none, some (.aload_n 0, 1, 0, 0, 0, 0), some (.iload 5, 2, 0, 0, 0, 0), none, some (.invokevirtual 159, 3, 131, 0, 994, 0), none, none, some (.ifCond .eq 73, 3, 0, 0, 0, 0), none, none, some (.aload_n 0, 1, 0, 0, 0, 0), some (.iload 5, 2, 0, 0, 0, 0), none, some (.invokevirtual 119, 3, 129, 0, 871, 0), none, none, some (.iload_n 2, 1, 0, 0, 0, 0), some (.if_icmp .ne 63, 3, 0, 0, 0, 0), none, none, some (.iload 5, 2, 0, 0, 0, 0), none, some (.aload_n 0, 1, 0, 0, 0, 0), some (.iload_n 1, 1, 0, 0, 0, 0), some (.iconst 0, 1, 0, 0, 0, 0), some (.invokevirtual 91, 3, 123, 0, 875, 0), none, none, some (.aload_n 0, 1, 0, 0, 0, 0), some (.invokevirtual 67, 3, 113, 0, 838, 0), none, none, some (.invokestatic 102, 3, 128, 0, 879, 0), none, none, some (.iload 5, 2, 0, 0, 0, 0), none, some (.aload_n 0, 1, 0, 0, 0, 0), some (.iload_n 1, 1, 0, 0, 0, 0), some (.iconst 1, 1, 0, 0, 0, 0), some (.invokevirtual 91, 3, 123, 0, 875, 0), none, none, some (.aload_n 0, 1, 0, 0, 0, 0), some (.invokevirtual 67, 3, 113, 0, 838, 0), none, none, some (.invokestatic 102, 3, 128, 0, 879, 0), none, none, some (.if_icmp .ne 7, 3, 0, 0, 0, 0), none, none, some (.iconst 1, 1, 0, 0, 0, 0), some (.goto 4, 3, 0, 0, 0, 0), none, none, some (.iconst 0, 1, 0, 0, 0, 0), some (.istore 6, 2, 0, 0, 0, 0), none, some (.iload_n 3, 1, 0, 0, 0, 0), some (.iload 6, 2, 0, 0, 0, 0), none, some (.iand, 1, 0, 0, 0, 0), some (.istore_n 3, 1, 0, 0, 0, 0), some (.iload 4, 2, 0, 0, 0, 0), none, some (.iload 6, 2, 0, 0, 0, 0), none, some (.ifCond .ne 7, 3, 0, 0, 0, 0), none, none, some (.iconst 1, 1, 0, 0, 0, 0), some (.goto 4, 3, 0, 0, 0, 0), none, none, some (.iconst 0, 1, 0, 0, 0, 0), some (.iand, 1, 0, 0, 0, 0), some (.istore 4, 2, 0, 0, 0, 0), none, some (.iinc 5 1, 3, 0, 0, 0, 0), none, none, some (.goto (-91), 3, 0, 0, 0, 0), none, none, some (.iload_n 3, 1, 0, 0, 0, 0), some (.ifCond .eq 7, 3, 0, 0, 0, 0), none, none, some (.iconst 1, 1, 0, 0, 0, 0), some (.goto 13, 3, 0, 0, 0, 0), none, none, some (.iload 4, 2, 0, 0, 0, 0), none, some (.ifCond .eq 7, 3, 0, 0, 0, 0), none, none, some (.iconst (-1), 1, 0, 0, 0, 0), some (.goto 4, 3, 0, 0, 0, 0), none, none, some (.iconst 0, 1, 0, 0, 0, 0), some (.ireturn, 1, 0, 0, 0, 0)]
def ct_160 : List (Option mc_E) := [some (.aload_n 0, 1, 0, 0, 0, 0), some (.iconst 0, 1, 0, 0, 0, 0), some (.putfield 60, 3, 8, 0, 753, 0), none, none, some (.iload_n 1, 1, 0, 0, 0, 0), some (.ifCond .ge 7, 3, 0, 0, 0, 0), none, none, some (.iconst (-1), 1, 0, 0, 0, 0), some (.goto 9, 3, 0, 0, 0, 0), none, none, some (.aload_n 0, 1, 0, 0, 0, 0), some (.iload_n 1, 1, 0, 0, 0, 0), some (.iconst (-1), 1, 0, 0, 0, 0), some (.invokevirtual 165, 3, 156, 0, 1002, 0), none, none, some (.ireturn, 1, 0, 0, 0, 0)]
def ct_161 : List (Option mc_E) := [some (.aload_n 0, 1, 0, 0, 0, 0), some (.iconst 0, 1, 0, 0, 0, 0), some (.putfield 60, 3, 8, 0, 753, 0), none, none, some (.iload_n 1, 1, 0, 0, 0, 0), some (.ifCond .lt 7, 3, 0, 0, 0, 0), none, none, some (.iload_n 2, 1, 0, 0, 0, 0), some (.ifCond .ge 7, 3, 0, 0, 0, 0), none, none, some (.iconst (-1), 1, 0, 0, 0, 0), some (.goto 9, 3, 0, 0, 0, 0), none, none, some (.aload_n 0, 1, 0, 0, 0, 0), some (.iload_n 1, 1, 0, 0, 0, 0), some (.iload_n 2, 1, 0, 0, 0, 0), some (.invokevirtual 165, 3, 156, 0, 1002, 0), none, none, some (.ireturn, 1, 0, 0, 0, 0)]
def ct_162 : List (Option mc_E) := [some (.aload_n 0, 1, 0, 0, 0, 0), some (.iconst 0, 1, 0, 0, 0, 0), some (.putfield 60, 3, 8, 0, 753, 0), none, none, some (.bipush (-9), 2, 0, 0, 0, 0), none, some (.istore_n 2, 1, 0, 0, 0, 0), some (.iconst 0, 1, 0, 0, 0, 0), some (.istore_n 3, 1, 0, 0, 0, 0), some (.iload_n 3, 1, 0, 0, 0, 0), some (.aload_n 0, 1, 0, 0, 0, 0), some (.invokevirtual 125, 3, 132, 0, 906, 0), none, none, some (.if_icmp .ge 49, 3, 0, 0, 0, 0), none, none, some (.aload_n 0, 1, 0, 0, 0, 0), some (.iload_n 3, 1, 0, 0, 0, 0), some (.invokevirtual 159, 3, 131, 0, 994, 0), none, none, some (.ifCond .eq 35, 3, 0, 0, 0, 0), none, none, some (.aload_n 0, 1, 0, 0, 0, 0), some (.iload_n 3, 1, 0, 0, 0, 0), some (.invokevirtual 119, 3, 129, 0, 871, 0), none, none, some (.istore 4, 2, 0, 0, 0, 0), none, some (.iload 4, 2, 0, 0, 0, 0), none, some (.iload_n 1, 1, 0, 0, 0, 0), some (.if_icmp .le 20, 3, 0, 0, 0, 0), none, none, some (.iload_n 2, 1, 0, 0, 0, 0), some (.bipush (-9), 2, 0, 0, 0, 0), none, some (.if_icmp .eq 9, 3, 0, 0, 0, 0), none, none, some (.iload 4, 2, 0, 0, 0, 0), none, some (.iload_n 2, 1, 0, 0, 0, 0), some (.if_icmp .ge 8, 3, 0, 0, 0, 0), none, none, some (.iload 4, 2, 0, 0, 0, 0), none, some (.goto 4, 3, 0, 0, 0, 0), none, none, some (.iload_n 2, 1, 0, 0, 0, 0), some (.istore_n 2, 1, 0, 0, 0, 0), some (.iinc 3 1, 3, 0, 0, 0, 0), none, none, some (.goto (-51), 3, 0, 0, 0, 0), none, none, some (.iload_n 2, 1, 0, 0, 0, 0), some (.ireturn, 1, 0, 0, 0, 0)]
def ct_163 : List (Option mc_E) := [some (.aload_n 0, 1, 0, 0, 0, 0), some (.iload_n 1, 1, 0, 0, 0, 0), some (.putfield 168, 3, 8, 1, 754, 0), none, none, some (.iload_n 1, 1, 0, 0, 0, 0), some (.ireturn, 1, 0, 0, 0, 0)]
def ct_164 : List (Option mc_E) := [some (.aload_n 0, 1, 0, 0, 0, 0), some (.iconst 0, 1, 0, 0, 0, 0), some (.putfield 60, 3, 8, 0, 753, 0), none, none, some (.aload_n 0, 1, 0, 0, 0, 0), some (.iconst 0, 1, 0, 0, 0, 0), some (.putfield 168, 3, 8, 1, 754, 0), none, none, some (.iload_n 1, 1, 0, 0, 0, 0), some (.iconst 0, 1, 0, 0, 0, 0), some (.iconst 3, 1, 0, 0, 0, 0), some (.invokestatic 70, 3, 112, 0, 819, 0), none, none, some (.ifCond .eq 17, 3, 0, 0, 0, 0), none, none, some (.iload_n 2, 1, 0, 0, 0, 0), some (.iconst 0, 1, 0, 0, 0, 0), some (.iconst 2, 1, 0, 0, 0, 0), some (.invokestatic 70, 3, 112, 0, 819, 0), none, none, some (.ifCond .eq 8, 3, 0, 0, 0, 0), none, none, some (.iload_n 3, 1, 0, 0, 0, 0), some (.iconst 4, 1, 0, 0, 0, 0), some (.if_icmp .le 9, 3, 0, 0, 0, 0), none, none, some (.aload_n 0, 1, 0, 0, 0, 0), some (.iconst (-1), 1, 0, 0, 0, 0), some (.invokevirtual 171, 3, 163, 0, 1030, 0), none, none, some (.ireturn, 1, 0, 0, 0, 0), some (.iload_n 3, 1, 0, 0, 0, 0), some (.ifCond .ge 10, 3, 0, 0, 0, 0), none, none, some (.aload_n 0, 1, 0, 0, 0, 0), some (.bipush (-15), 2, 0, 0, 0, 0), none, some (.invokevirtual 171, 3, 163, 0, 1030, 0), none, none, some (.ireturn, 1, 0, 0, 0, 0), some (.aload_n 0, 1, 0, 0, 0, 0), some (.getfield 36, 3, 8, 12, 765, 0), none, none, some (.iload_n 1, 1, 0, 0, 0, 0), some (.iconst 1, 1, 0, 0, 0, 0), some (.bastore, 1, 0, 0, 0, 0), some (.aload_n 0, 1, 0, 0, 0, 0), some (.getfield 39, 3, 8, 13, 766, 0), none, none, some (.iload_n 1, 1, 0, 0, 0, 0), some (.iload_n 2, 1, 0, 0, 0, 0), some (.iastore, 1, 0, 0, 0, 0), some (.aload_n 0, 1, 0, 0, 0, 0), some (.getfield 42, 3, 8, 14, 767, 0), none, none, some (.iload_n 1, 1, 0, 0, 0, 0), some (.iload_n 3, 1, 0, 0, 0, 0), some (.iastore, 1, 0, 0, 0, 0), some (.iconst 0, 1, 0, 0, 0, 0), some (.istore 4, 2, 0, 0, 0, 0), none, some (.iload 4, 2, 0, 0, 0, 0), none, some (.iconst 4, 1, 0, 0, 0, 0), some (.if_icmp .ge 22, 3, 0, 0, 0, 0), none, none, some (.aload_n 0, 1, 0, 0, 0, 0), some (.getfield 45, 3, 8, 15, 768, 0), none, none, some (.iconst 4, 1, 0, 0, 0, 0), some (.iload_n 1, 1, 0, 0, 0, 0), some (.imul, 1, 0, 0, 0, 0), some (.iload 4, 2, 0, 0, 0, 0), none, some (.iadd, 1, 0, 0, 0, 0), some (.bipush (-9), 2, 0, 0, 0, 0), none, some (.iastore, 1, 0, 0, 0, 0), some (.iinc 4 1, 3, 0, 0, 0, 0), none, none, some (.goto (-22), 3, 0, 0, 0, 0), none, none, some (.iconst 1, 1, 0, 0, 0, 0), some (.ireturn, 1, 0, 0, 0, 0)]
def ct_165 : List (Option mc_E) := [some (.aload_n 0, 1, 0, 0, 0, 0), some (.iconst 0, 1, 0, 0, 0, 0), some (.putfield 60, 3, 8, 0, 753, 0), none, none, some (.aload_n 0, 1, 0, 0, 0, 0), some (.iconst 0, 1, 0, 0, 0, 0), some (.putfield 168, 3, 8, 1, 754, 0), none, none, some (.iload_n 1, 1, 0, 0, 0, 0), some (.iconst 0, 1, 0, 0, 0, 0), some (.iconst 3, 1, 0, 0, 0, 0), some (.invokestatic 70, 3, 112, 0, 819, 0), none, none, some (.ifCond .eq 9, 3, 0, 0, 0, 0), none, none, some (.iload_n 3, 1, 0, 0, 0, 0), some (.bipush 12, 2, 0, 0, 0, 0), none, some (.if_icmp .le 9, 3, 0, 0, 0, 0), none, none, some (.aload_n 0, 1, 0, 0, 0, 0), some (.iconst (-1), 1, 0, 0, 0, 0), some (.invokevirtual 171, 3, 163, 0, 1030, 0), none, none, some (.ireturn, 1, 0, 0, 0, 0), some (.aload_n 0, 1, 0, 0, 0, 0), some (.getfield 36, 3, 8, 12, 765, 0), none, none, some (.iload_n 1, 1, 0, 0, 0, 0), some (.baload, 1, 0, 0, 0, 0), some (.ifCond .ne 10, 3, 0, 0, 0, 0), none, none, some (.aload_n 0, 1, 0, 0, 0, 0), some (.bipush (-11), 2, 0, 0, 0, 0), none, some (.invokevirtual 171, 3, 163, 0, 1030, 0), none, none, some (.ireturn, 1, 0, 0, 0, 0), some (.iload_n 2, 1, 0, 0, 0, 0), some (.iconst 0, 1, 0, 0, 0, 0), some (.aload_n 0, 1, 0, 0, 0, 0), some (.getfield 42, 3, 8, 14, 767, 0), none, none, some (.iload_n 1, 1, 0, 0, 0, 0), some (.iaload, 1, 0, 0, 0, 0), some (.iconst 1, 1, 0, 0, 0, 0), some (.isub, 1, 0, 0, 0, 0), some (.invokestatic 70, 3, 112, 0, 819, 0), none, none, some (.ifCond .ne 10, 3, 0, 0, 0, 0), none, none, some (.aload_n 0, 1, 0, 0, 0, 0), some (.bipush (-12), 2, 0, 0, 0, 0), none, some (.invokevirtual 171, 3, 163, 0, 1030, 0), none, none, some (.ireturn, 1, 0, 0, 0, 0), some (.iload_n 3, 1, 0, 0, 0, 0), some (.ifCond .ge 10, 3, 0, 0, 0, 0), none, none, some (.aload_n 0, 1, 0, 0, 0, 0), some (.bipush (-15), 2, 0, 0, 0, 0), none, some (.invokevirtual 171, 3, 163, 0, 1030, 0), none, none, some (.ireturn, 1, 0, 0, 0, 0), some (.aload_n 0, 1, 0, 0, 0, 0), some (.getfield 45, 3, 8, 15, 768, 0), none, none, some (.iconst 4, 1, 0, 0, 0, 0), some (.iload_n 1, 1, 0, 0, 0, 0), some (.imul, 1, 0, 0, 0, 0), some (.iload_n 2, 1, 0, 0, 0, 0), some (.iadd, 1, 0, 0, 0, 0), some (.iload_n 3, 1, 0, 0, 0, 0), some (.iastore, 1, 0, 0, 0, 0), some (.iconst 0, 1, 0, 0, 0, 0), some (.istore 4, 2, 0, 0, 0, 0), none, some (.iload 4, 2, 0, 0, 0, 0), none, some (.bipush 12, 2, 0, 0, 0, 0), none, some (.if_icmp .ge 27, 3, 0, 0, 0, 0), none, none, some (.aload_n 0, 1, 0, 0, 0, 0), some (.getfield 48, 3, 8, 16, 769, 0), none, none, some (.bipush 48, 2, 0, 0, 0, 0), none, some (.iload_n 1, 1, 0, 0, 0, 0), some (.imul, 1, 0, 0, 0, 0), some (.bipush 12, 2, 0, 0, 0, 0), none, some (.iload_n 2, 1, 0, 0, 0, 0), some (.imul, 1, 0, 0, 0, 0), some (.iadd, 1, 0, 0, 0, 0), some (.iload 4, 2, 0, 0, 0, 0), none, some (.iadd, 1, 0, 0, 0, 0), some (.iconst 0, 1, 0, 0, 0, 0), some (.iastore, 1, 0, 0, 0, 0), some (.iinc 4 1, 3, 0, 0, 0, 0), none, none, some (.goto (-28), 3, 0, 0, 0, 0), none, none, some (.iconst 1, 1, 0, 0, 0, 0), some (.ireturn, 1, 0, 0, 0, 0)]
def ct_166 : List (Option mc_E) := [some (.iload_n 1, 1, 0, 0, 0, 0), some (.iconst 0, 1, 0, 0, 0, 0), some (.iconst 3, 1, 0, 0, 0, 0), some (.invokestatic 70, 3, 112, 0, 819, 0), none, none, some (.ifCond .eq 12, 3, 0, 0, 0, 0), none, none, some (.iload_n 2, 1, 0, 0, 0, 0), some (.iconst 0, 1, 0, 0, 0, 0), some (.iconst 2, 1, 0, 0, 0, 0), some (.invokestatic 70, 3, 112, 0, 819, 0), none, none, some (.ifCond .ne 5, 3, 0, 0, 0, 0), none, none, some (.iconst (-1), 1, 0, 0, 0, 0), some (.ireturn, 1, 0, 0, 0, 0), some (.aload_n 0, 1, 0, 0, 0, 0), some (.getfield 36, 3, 8, 12, 765, 0), none, none, some (.iload_n 1, 1, 0, 0, 0, 0), some (.baload, 1, 0, 0, 0, 0), some (.ifCond .ne 6, 3, 0, 0, 0, 0), none, none, some (.bipush (-11), 2, 0, 0, 0, 0), none, some (.ireturn, 1, 0, 0, 0, 0), some (.aload_n 0, 1, 0, 0, 0, 0), some (.getfield 39, 3, 8, 13, 766, 0), none, none, some (.iload_n 1, 1, 0, 0, 0, 0), some (.iaload, 1, 0, 0, 0, 0), some (.iload_n 2, 1, 0, 0, 0, 0), some (.if_icmp .eq 6, 3, 0, 0, 0, 0), none, none, some (.bipush (-13), 2, 0, 0, 0, 0), none, some (.ireturn, 1, 0, 0, 0, 0), some (.iload_n 3, 1, 0, 0, 0, 0), some (.iconst 0, 1, 0, 0, 0, 0), some (.aload_n 0, 1, 0, 0, 0, 0), some (.getfield 42, 3, 8, 14, 767, 0), none, none, some (.iload_n 1, 1, 0, 0, 0, 0), some (.iaload, 1, 0, 0, 0, 0), some (.iconst 1, 1, 0, 0, 0, 0), some (.isub, 1, 0, 0, 0, 0), some (.invokestatic 70, 3, 112, 0, 819, 0), none, none, some (.ifCond .ne 6, 3, 0, 0, 0, 0), none, none, some (.bipush (-12), 2, 0, 0, 0, 0), none, some (.ireturn, 1, 0, 0, 0, 0), some (.aload_n 0, 1, 0, 0, 0, 0), some (.getfield 45, 3, 8, 15, 768, 0), none, none, some (.iconst 4, 1, 0, 0, 0, 0), some (.iload_n 1, 1, 0, 0, 0, 0), some (.imul, 1, 0, 0, 0, 0), some (.iload_n 3, 1, 0, 0, 0, 0), some (.iadd, 1, 0, 0, 0, 0), some (.iaload, 1, 0, 0, 0, 0), some (.istore 5, 2, 0, 0, 0, 0), none, some (.iload 5, 2, 0, 0, 0, 0), none, some (.bipush (-9), 2, 0, 0, 0, 0), none, some (.if_icmp .ne 8, 3, 0, 0, 0, 0), none, none, some (.bipush (-11), 2, 0, 0, 0, 0), none, some (.goto 22, 3, 0, 0, 0, 0), none, none, some (.iload 4, 2, 0, 0, 0, 0), none, some (.iconst 0, 1, 0, 0, 0, 0), some (.iload 5, 2, 0, 0, 0, 0), none, some (.iconst 1, 1, 0, 0, 0, 0), some (.isub, 1, 0, 0, 0, 0), some (.invokestatic 70, 3, 112, 0, 819, 0), none, none, some (.ifCond .eq 7, 3, 0, 0, 0, 0), none, none, some (.iconst 0, 1, 0, 0, 0, 0), some (.goto 5, 3, 0, 0, 0, 0), none, none, some (.bipush (-12), 2, 0, 0, 0, 0), none, some (.ireturn, 1, 0, 0, 0, 0)]
def ct_167 : List (Option mc_E) := [some (.aload_n 0, 1, 0, 0, 0, 0), some (.iconst 0, 1, 0, 0, 0, 0), some (.putfield 60, 3, 8, 0, 753, 0), none, none, some (.aload_n 0, 1, 0, 0, 0, 0), some (.aload_n 0, 1, 0, 0, 0, 0), some (.iload_n 1, 1, 0, 0, 0, 0), some (.iload_n 2, 1, 0, 0, 0, 0), some (.iload_n 3, 1, 0, 0, 0, 0), some (.iload 4, 2, 0, 0, 0, 0), none, some (.invokevirtual 174, 3, 166, 0, 1042, 0), none, none, some (.putfield 168, 3, 8, 1, 754, 0), none, none, some (.aload_n 0, 1, 0, 0, 0, 0), some (.getfield 168, 3, 8, 1, 754, 0), none, none, some (.ifCond .ge 8, 3, 0, 0, 0, 0), none, none, some (.aload_n 0, 1, 0, 0, 0, 0), some (.getfield 168, 3, 8, 1, 754, 0), none, none, some (.ireturn, 1, 0, 0, 0, 0), some (.aload_n 0, 1, 0, 0, 0, 0), some (.getfield 48, 3, 8, 16, 769, 0), none, none, some (.bipush 48, 2, 0, 0, 0, 0), none, some (.iload_n 1, 1, 0, 0, 0, 0), some (.imul, 1, 0, 0, 0, 0), some (.bipush 12, 2, 0, 0, 0, 0), none, some (.iload_n 3, 1, 0, 0, 0, 0), some (.imul, 1, 0, 0, 0, 0), some (.iadd, 1, 0, 0, 0, 0), some (.iload 4, 2, 0, 0, 0, 0), none, some (.iadd, 1, 0, 0, 0, 0), some (.iload_n 2, 1, 0, 0, 0, 0), some (.ifCond .ne 9, 3, 0, 0, 0, 0), none, none, some (.iload 5, 2, 0, 0, 0, 0), none, some (.i2b, 1, 0, 0, 0, 0), some (.goto 16, 3, 0, 0, 0, 0), none, none, some (.iload_n 2, 1, 0, 0, 0, 0), some (.iconst 1, 1, 0, 0, 0, 0), some (.if_icmp .ne 9, 3, 0, 0, 0, 0), none, none, some (.iload 5, 2, 0, 0, 0, 0), none, some (.i2s, 1, 0, 0, 0, 0), some (.goto 5, 3, 0, 0, 0, 0), none, none, some (.iload 5, 2, 0, 0, 0, 0), none, some (.iastore, 1, 0, 0, 0, 0), some (.iconst 1, 1, 0, 0, 0, 0), some (.ireturn, 1, 0, 0, 0, 0)]
def ct_168 : List (Option mc_E) := [some (.aload_n 0, 1, 0, 0, 0, 0), some (.iconst 0, 1, 0, 0, 0, 0), some (.putfield 60, 3, 8, 0, 753, 0), none, none, some (.aload_n 0, 1, 0, 0, 0, 0), some (.aload_n 0, 1, 0, 0, 0, 0), some (.iload_n 1, 1, 0, 0, 0, 0), some (.iload_n 2, 1, 0, 0, 0, 0), some (.iload_n 3, 1, 0, 0, 0, 0), some (.iload 4, 2, 0, 0, 0, 0), none, some (.invokevirtual 174, 3, 166, 0, 1042, 0), none, none, some (.putfield 168, 3, 8, 1, 754, 0), none, none, some (.aload_n 0, 1, 0, 0, 0, 0), some (.getfield 168, 3, 8, 1, 754, 0), none, none, some (.ifCond .ge 7, 3, 0, 0, 0, 0), none, none, some (.iconst 0, 1, 0, 0, 0, 0), some (.goto 20, 3, 0, 0, 0, 0), none, none, some (.aload_n 0, 1, 0, 0, 0, 0), some (.getfield 48, 3, 8, 16, 769, 0), none, none, some (.bipush 48, 2, 0, 0, 0, 0), none, some (.iload_n 1, 1, 0, 0, 0, 0), some (.imul, 1, 0, 0, 0, 0), some (.bipush 12, 2, 0, 0, 0, 0), none, some (.iload_n 3, 1, 0, 0, 0, 0), some (.imul, 1, 0, 0, 0, 0), some (.iadd, 1, 0, 0, 0, 0), some (.iload 4, 2, 0, 0, 0, 0), none, some (.iadd, 1, 0, 0, 0, 0), some (.iaload, 1, 0, 0, 0, 0), some (.ireturn, 1, 0, 0, 0, 0)]
def ct_169 : List (Option mc_E) := [some (.iload_n 0, 1, 0, 0, 0, 0), some (.ifCond .lt 22, 3, 0, 0, 0, 0), none, none, some (.iload_n 1, 1, 0, 0, 0, 0), some (.ifCond .lt 18, 3, 0, 0, 0, 0), none, none, some (.iload_n 0, 1, 0, 0, 0, 0), some (.i2l, 1, 0, 0, 0, 0), some (.iload_n 1, 1, 0, 0, 0, 0), some (.i2l, 1, 0, 0, 0, 0), some (.ladd, 1, 0, 0, 0, 0), some (.iload_n 2, 1, 0, 0, 0, 0), some (.i2l, 1, 0, 0, 0, 0), some (.lcmp, 1, 0, 0, 0, 0), some (.ifCond .gt 7, 3, 0, 0, 0, 0), none, none, some (.iconst 1, 1, 0, 0, 0, 0), some (.goto 4, 3, 0, 0, 0, 0), none, none, some (.iconst 0, 1, 0, 0, 0, 0), some (.ireturn, 1, 0, 0, 0, 0)]
def ct_170 : List (Option mc_E) := [some (.aload_n 0, 1, 0, 0, 0, 0), some (.iconst 0, 1, 0, 0, 0, 0), some (.putfield 60, 3, 8, 0, 753, 0), none, none, some (.aload_n 0, 1, 0, 0, 0, 0), some (.iconst 0, 1, 0, 0, 0, 0), some (.putfield 168, 3, 8, 1, 754, 0), none, none, some (.iload_n 1, 1, 0, 0, 0, 0), some (.iconst 0, 1, 0, 0, 0, 0), some (.iconst 3, 1, 0, 0, 0, 0), some (.invokestatic 70, 3, 112, 0, 819, 0), none, none, some (.ifCond .eq 13, 3, 0, 0, 0, 0), none, none, some (.iload 4, 2, 0, 0, 0, 0), none, some (.iconst 0, 1, 0, 0, 0, 0), some (.iconst 3, 1, 0, 0, 0, 0), some (.invokestatic 70, 3, 112, 0, 819, 0), none, none, some (.ifCond .ne 9, 3, 0, 0, 0, 0), none, none, some (.aload_n 0, 1, 0, 0, 0, 0), some (.iconst (-1), 1, 0, 0, 0, 0), some (.invokevirtual 171, 3, 163, 0, 1030, 0), none, none, some (.ireturn, 1, 0, 0, 0, 0), some (.aload_n 0, 1, 0, 0, 0, 0), some (.getfield 36, 3, 8, 12, 765, 0), none, none, some (.iload_n 1, 1, 0, 0, 0, 0), some (.baload, 1, 0, 0, 0, 0), some (.ifCond .eq 13, 3, 0, 0, 0, 0), none, none, some (.aload_n 0, 1, 0, 0, 0, 0), some (.getfield 36, 3, 8, 12, 765, 0), none, none, some (.iload 4, 2, 0, 0, 0, 0), none, some (.baload, 1, 0, 0, 0, 0), some (.ifCond .ne 10, 3, 0, 0, 0, 0), none, none, some (.aload_n 0, 1, 0, 0, 0, 0), some (.bipush (-11), 2, 0, 0, 0, 0), none, some (.invokevirtual 171, 3, 163, 0, 1030, 0), none, none, some (.ireturn, 1, 0, 0, 0, 0), some (.aload_n 0, 1, 0, 0, 0, 0), some (.getfield 39, 3, 8, 13, 766, 0), none, none, some (.iload_n 1, 1, 0, 0, 0, 0), some (.iaload, 1, 0, 0, 0, 0), some (.aload_n 0, 1, 0, 0, 0, 0), some (.getfield 39, 3, 8, 13, 766, 0), none, none, some (.iload 4, 2, 0, 0, 0, 0), none, some (.iaload, 1, 0, 0, 0, 0), some (.if_icmp .eq 10, 3, 0, 0, 0, 0), none, none, some (.aload_n 0, 1, 0, 0, 0, 0), some (.bipush (-13), 2, 0, 0, 0, 0), none, some (.invokevirtual 171, 3, 163, 0, 1030, 0), none, none, some (.ireturn, 1, 0, 0, 0, 0), some (.iload_n 2, 1, 0, 0, 0, 0), some (.iconst 0, 1, 0, 0, 0, 0), some (.aload_n 0, 1, 0, 0, 0, 0), some (.getfield 42, 3, 8, 14, 767, 0), none, none, some (.iload_n 1, 1, 0, 0, 0, 0), some (.iaload, 1, 0, 0, 0, 0), some (.iconst 1, 1, 0, 0, 0, 0), some (.isub, 1, 0, 0, 0, 0), some (.invokestatic 70, 3, 112, 0, 819, 0), none, none, some (.ifCond .eq 21, 3, 0, 0, 0, 0), none, none, some (.iload 5, 2, 0, 0, 0, 0), none, some (.iconst 0, 1, 0, 0, 0, 0), some (.aload_n 0, 1, 0, 0, 0, 0), some (.getfield 42, 3, 8, 14, 767, 0), none, none, some (.iload 4, 2, 0, 0, 0, 0), none, some (.iaload, 1, 0, 0, 0, 0), some (.iconst 1, 1, 0, 0, 0, 0), some (.isub, 1, 0, 0, 0, 0), some (.invokestatic 70, 3, 112, 0, 819, 0), none, none, some (.ifCond .ne 10, 3, 0, 0, 0, 0), none, none, some (.aload_n 0, 1, 0, 0, 0, 0), some (.bipush (-12), 2, 0, 0, 0, 0), none, some (.invokevirtual 171, 3, 163, 0, 1030, 0), none, none, some (.ireturn, 1, 0, 0, 0, 0), some (.aload_n 0, 1, 0, 0, 0, 0), some (.getfield 45, 3, 8, 15, 768, 0), none, none, some (.iconst 4, 1, 0, 0, 0, 0), some (.iload_n 1, 1, 0, 0, 0, 0), some (.imul, 1, 0, 0, 0, 0), some (.iload_n 2, 1, 0, 0, 0, 0), some (.iadd, 1, 0, 0, 0, 0), some (.iaload, 1, 0, 0, 0, 0), some (.istore 8, 2, 0, 0, 0, 0), none, some (.aload_n 0, 1, 0, 0, 0, 0), some (.getfield 45, 3, 8, 15, 768, 0), none, none, some (.iconst 4, 1, 0, 0, 0, 0), some (.iload 4, 2, 0, 0, 0, 0), none, some (.imul, 1, 0, 0, 0, 0), some (.iload 5, 2, 0, 0, 0, 0), none, some (.iadd, 1, 0, 0, 0, 0), some (.iaload, 1, 0, 0, 0, 0), some (.istore 9, 2, 0, 0, 0, 0), none, some (.iload 8, 2, 0, 0, 0, 0), none, some (.bipush (-9), 2, 0, 0, 0, 0), none, some (.if_icmp .eq 10, 3, 0, 0, 0, 0), none, none, some (.iload 9, 2, 0, 0, 0, 0), none, some (.bipush (-9), 2, 0, 0, 0, 0), none, some (.if_icmp .ne 10, 3, 0, 0, 0, 0), none, none, some (.aload_n 0, 1, 0, 0, 0, 0), some (.bipush (-11), 2, 0, 0, 0, 0), none, some (.invokevirtual 171, 3, 163, 0, 1030, 0), none, none, some (.ireturn, 1, 0, 0, 0, 0), some (.iload_n 3, 1, 0, 0, 0, 0), some (.iload 7, 2, 0, 0, 0, 0), none, some (.iload 8, 2, 0, 0, 0, 0), none, some (.invokestatic 178, 3, 169, 0, 1054, 0), none, none, some (.ifCond .eq 15, 3, 0, 0, 0, 0), none, none, some (.iload 6, 2, 0, 0, 0, 0), none, some (.iload 7, 2, 0, 0, 0, 0), none, some (.iload 9, 2, 0, 0, 0, 0), none, some (.invokestatic 178, 3, 169, 0, 1054, 0), none, none, some (.ifCond .ne 10, 3, 0, 0, 0, 0), none, none, some (.aload_n 0, 1, 0, 0, 0, 0), some (.bipush (-12), 2, 0, 0, 0, 0), none, some (.invokevirtual 171, 3, 163, 0, 1030, 0), none, none, some (.ireturn, 1, 0, 0, 0, 0), some (.iconst 0, 1, 0, 0, 0, 0), some (.istore 10, 2, 0, 0, 0, 0), none, some (.iload 10, 2, 0, 0, 0, 0), none, some (.iload 7, 2, 0, 0, 0, 0), none, some (.if_icmp .ge 35, 3, 0, 0, 0, 0), none, none, some (.aload_n 0, 1, 0, 0, 0, 0), some (.getfield 51, 3, 8, 17, 770, 0), none, none, some (.iload 10, 2, 0, 0, 0, 0), none, some (.aload_n 0, 1, 0, 0, 0, 0), some (.getfield 48, 3, 8, 16, 769, 0), none, none, some (.bipush 48, 2, 0, 0, 0, 0), none, some (.iload_n 1, 1, 0, 0, 0, 0), some (.imul, 1, 0, 0, 0, 0), some (.bipush 12, 2, 0, 0, 0, 0), none, some (.iload_n 2, 1, 0, 0, 0, 0), some (.imul, 1, 0, 0, 0, 0), some (.iadd, 1, 0, 0, 0, 0), some (.iload_n 3, 1, 0, 0, 0, 0), some (.iadd, 1, 0, 0, 0, 0), some (.iload 10, 2, 0, 0, 0, 0), none, some (.iadd, 1, 0, 0, 0, 0), some (.iaload, 1, 0, 0, 0, 0), some (.iastore, 1, 0, 0, 0, 0), some (.iinc 10 1, 3, 0, 0, 0, 0), none, none, some (.goto (-36), 3, 0, 0, 0, 0), none, none, some (.iconst 0, 1, 0, 0, 0, 0), some (.istore 10, 2, 0, 0, 0, 0), none, some (.iload 10, 2, 0, 0, 0, 0), none, some (.iload 7, 2, 0, 0, 0, 0), none, some (.if_icmp .ge 38, 3, 0, 0, 0, 0), none, none, some (.aload_n 0, 1, 0, 0, 0, 0), some (.getfield 48, 3, 8, 16, 769, 0), none, none, some (.bipush 48, 2, 0, 0, 0, 0), none, some (.iload 4, 2, 0, 0, 0, 0), none, some (.imul, 1, 0, 0, 0, 0), some (.bipush 12, 2, 0, 0, 0, 0), none, some (.iload 5, 2, 0, 0, 0, 0), none, some (.imul, 1, 0, 0, 0, 0), some (.iadd, 1, 0, 0, 0, 0), some (.iload 6, 2, 0, 0, 0, 0), none, some (.iadd, 1, 0, 0, 0, 0), some (.iload 10, 2, 0, 0, 0, 0), none, some (.iadd, 1, 0, 0, 0, 0), some (.aload_n 0, 1, 0, 0, 0, 0), some (.getfield 51, 3, 8, 17, 770, 0), none, none, some (.iload 10, 2, 0, 0, 0, 0), none, some (.iaload, 1, 0, 0, 0, 0), some (.iastore, 1, 0, 0, 0, 0), some (.iinc 10 1, 3, 0, 0, 0, 0), none, none, some (.goto (-39), 3, 0, 0, 0, 0), none, none, some (.iload 7, 2, 0, 0, 0, 0), none, some (.ireturn, 1, 0, 0, 0, 0)]
def ct_171 : List (Option mc_E) := [some (.aload_n 0, 1, 0, 0, 0, 0), some (.iconst 0, 1, 0, 0, 0, 0), some (.putfield 60, 3, 8, 0, 753, 0), none, none, some (.aload_n 0, 1, 0, 0, 0, 0), some (.iconst 0, 1, 0, 0, 0, 0), some (.putfield 168, 3, 8, 1, 754, 0), none, none, some (.iload_n 1, 1, 0, 0, 0, 0), some (.iconst 0, 1, 0, 0, 0, 0), some (.iconst 3, 1, 0, 0, 0, 0), some (.invokestatic 70, 3, 112, 0, 819, 0), none, none, some (.ifCond .eq 27, 3, 0, 0, 0, 0), none, none, some (.iload_n 3, 1, 0, 0, 0, 0), some (.ifCond .lt 23, 3, 0, 0, 0, 0), none, none, some (.iload 4, 2, 0, 0, 0, 0), none, some (.ifCond .lt 18, 3, 0, 0, 0, 0), none, none, some (.iload_n 3, 1, 0, 0, 0, 0), some (.i2l, 1, 0, 0, 0, 0), some (.iload 4, 2, 0, 0, 0, 0), none, some (.i2l, 1, 0, 0, 0, 0), some (.ladd, 1, 0, 0, 0, 0), some (.aload_n 0, 1, 0, 0, 0, 0), some (.invokevirtual 74, 3, 115, 0, 822, 0), none, none, some (.i2l, 1, 0, 0, 0, 0), some (.lcmp, 1, 0, 0, 0, 0), some (.ifCond .le 9, 3, 0, 0, 0, 0), none, none, some (.aload_n 0, 1, 0, 0, 0, 0), some (.iconst (-1), 1, 0, 0, 0, 0), some (.invokevirtual 171, 3, 163, 0, 1030, 0), none, none, some (.ireturn, 1, 0, 0, 0, 0), some (.iload 4, 2, 0, 0, 0, 0), none, some (.ifCond .le 19, 3, 0, 0, 0, 0), none, none, some (.aload_n 0, 1, 0, 0, 0, 0), some (.getfield 36, 3, 8, 12, 765, 0), none, none, some (.iload_n 1, 1, 0, 0, 0, 0), some (.baload, 1, 0, 0, 0, 0), some (.ifCond .ne 10, 3, 0, 0, 0, 0), none, none, some (.aload_n 0, 1, 0, 0, 0, 0), some (.bipush (-11), 2, 0, 0, 0, 0), none, some (.invokevirtual 171, 3, 163, 0, 1030, 0), none, none, some (.ireturn, 1, 0, 0, 0, 0), some (.iload 4, 2, 0, 0, 0, 0), none, some (.ifCond .le 26, 3, 0, 0, 0, 0), none, none, some (.iload_n 2, 1, 0, 0, 0, 0), some (.iconst 0, 1, 0, 0, 0, 0), some (.aload_n 0, 1, 0, 0, 0, 0), some (.getfield 42, 3, 8, 14, 767, 0), none, none, some (.iload_n 1, 1, 0, 0, 0, 0), some (.iaload, 1, 0, 0, 0, 0), some (.iconst 1, 1, 0, 0, 0, 0), some (.isub, 1, 0, 0, 0, 0), some (.invokestatic 70, 3, 112, 0, 819, 0), none, none, some (.ifCond .ne 10, 3, 0, 0, 0, 0), none, none, some (.aload_n 0, 1, 0, 0, 0, 0), some (.bipush (-12), 2, 0, 0, 0, 0), none, some (.invokevirtual 171, 3, 163, 0, 1030, 0), none, none, some (.ireturn, 1, 0, 0, 0, 0), some (.iload 4, 2, 0, 0, 0, 0), none, some (.ifCond .le 25, 3, 0, 0, 0, 0), none, none, some (.aload_n 0, 1, 0, 0, 0, 0), some (.getfield 45, 3, 8, 15, 768, 0), none, none, some (.iconst 4, 1, 0, 0, 0, 0), some (.iload_n 1, 1, 0, 0, 0, 0), some (.imul, 1, 0, 0, 0, 0), some (.iload_n 2, 1, 0, 0, 0, 0), some (.iadd, 1, 0, 0, 0, 0), some (.iaload, 1, 0, 0, 0, 0), some (.bipush (-9), 2, 0, 0, 0, 0), none, some (.if_icmp .ne 10, 3, 0, 0, 0, 0), none, none, some (.aload_n 0, 1, 0, 0, 0, 0), some (.bipush (-11), 2, 0, 0, 0, 0), none, some (.invokevirtual 171, 3, 163, 0, 1030, 0), none, none, some (.ireturn, 1, 0, 0, 0, 0), some (.iconst 0, 1, 0, 0, 0, 0), some (.istore 5, 2, 0, 0, 0, 0), none, some (.iload 5, 2, 0, 0, 0, 0), none, some (.iload 4, 2, 0, 0, 0, 0), none, some (.if_icmp .ge 66, 3, 0, 0, 0, 0), none, none, some (.iload 5, 2, 0, 0, 0, 0), none, some (.aload_n 0, 1, 0, 0, 0, 0), some (.getfield 45, 3, 8, 15, 768, 0), none, none, some (.iconst 4, 1, 0, 0, 0, 0), some (.iload_n 1, 1, 0, 0, 0, 0), some (.imul, 1, 0, 0, 0, 0), some (.iload_n 2, 1, 0, 0, 0, 0), some (.iadd, 1, 0, 0, 0, 0), some (.iaload, 1, 0, 0, 0, 0), some (.if_icmp .lt 10, 3, 0, 0, 0, 0), none, none, some (.aload_n 0, 1, 0, 0, 0, 0), some (.bipush (-12), 2, 0, 0, 0, 0), none, some (.invokevirtual 171, 3, 163, 0, 1030, 0), none, none, some (.ireturn, 1, 0, 0, 0, 0), some (.aload_n 0, 1, 0, 0, 0, 0), some (.getfield 48, 3, 8, 16, 769, 0), none, none, some (.bipush 48, 2, 0, 0, 0, 0), none, some (.iload_n 1, 1, 0, 0, 0, 0), some (.imul, 1, 0, 0, 0, 0), some (.bipush 12, 2, 0, 0, 0, 0), none, some (.iload_n 2, 1, 0, 0, 0, 0), some (.imul, 1, 0, 0, 0, 0), some (.iadd, 1, 0, 0, 0, 0), some (.iload 5, 2, 0, 0, 0, 0), none, some (.iadd, 1, 0, 0, 0, 0), some (.iaload, 1, 0, 0, 0, 0), some (.sipush (-1000), 3, 0, 0, 0, 0), none, none, some (.sipush 1000, 3, 0, 0, 0, 0), none, none, some (.invokestatic 70, 3, 112, 0, 819, 0), none, none, some (.ifCond .ne 9, 3, 0, 0, 0, 0), none, none, some (.aload_n 0, 1, 0, 0, 0, 0), some (.iconst (-1), 1, 0, 0, 0, 0), some (.invokevirtual 171, 3, 163, 0, 1030, 0), none, none, some (.ireturn, 1, 0, 0, 0, 0), some (.iinc 5 1, 3, 0, 0, 0, 0), none, none, some (.goto (-67), 3, 0, 0, 0, 0), none, none, some (.aload_n 0, 1, 0, 0, 0, 0), some (.invokevirtual 112, 3, 119, 0, 842, 0), none, none, some (.iconst 0, 1, 0, 0, 0, 0), some (.istore 5, 2, 0, 0, 0, 0), none, some (.iload 5, 2, 0, 0, 0, 0), none, some (.iload 4, 2, 0, 0, 0, 0), none, some (.if_icmp .ge 35, 3, 0, 0, 0, 0), none, none, some (.aload_n 0, 1, 0, 0, 0, 0), some (.getfield 30, 3, 8, 9, 762, 0), none, none, some (.iload_n 3, 1, 0, 0, 0, 0), some (.iload 5, 2, 0, 0, 0, 0), none, some (.iadd, 1, 0, 0, 0, 0), some (.aload_n 0, 1, 0, 0, 0, 0), some (.getfield 48, 3, 8, 16, 769, 0), none, none, some (.bipush 48, 2, 0, 0, 0, 0), none, some (.iload_n 1, 1, 0, 0, 0, 0), some (.imul, 1, 0, 0, 0, 0), some (.bipush 12, 2, 0, 0, 0, 0), none, some (.iload_n 2, 1, 0, 0, 0, 0), some (.imul, 1, 0, 0, 0, 0), some (.iadd, 1, 0, 0, 0, 0), some (.iload 5, 2, 0, 0, 0, 0), none, some (.iadd, 1, 0, 0, 0, 0), some (.iaload, 1, 0, 0, 0, 0), some (.iastore, 1, 0, 0, 0, 0), some (.iinc 5 1, 3, 0, 0, 0, 0), none, none, some (.goto (-36), 3, 0, 0, 0, 0), none, none, some (.iload 4, 2, 0, 0, 0, 0), none, some (.ireturn, 1, 0, 0, 0, 0)]
def ct_172 : List (Option mc_E) := [some (.aload_n 0, 1, 0, 0, 0, 0), some (.iconst 0, 1, 0, 0, 0, 0), some (.putfield 60, 3, 8, 0, 753, 0), none, none, some (.iconst 0, 1, 0, 0, 0, 0), some (.istore_n 2, 1, 0, 0, 0, 0), some (.iconst 0, 1, 0, 0, 0, 0), some (.istore_n 3, 1, 0, 0, 0, 0), some (.iload_n 3, 1, 0, 0, 0, 0), some (.aload_n 0, 1, 0, 0, 0, 0), some (.invokevirtual 67, 3, 113, 0, 838, 0), none, none, some (.if_icmp .ge 25, 3, 0, 0, 0, 0), none, none, some (.iload_n 2, 1, 0, 0, 0, 0), some (.aload_n 0, 1, 0, 0, 0, 0), some (.iload_n 3, 1, 0, 0, 0, 0), some (.invokevirtual 80, 3, 120, 0, 867, 0), none, none, some (.ifCond .eq 7, 3, 0, 0, 0, 0), none, none, some (.iconst 1, 1, 0, 0, 0, 0), some (.goto 4, 3, 0, 0, 0, 0), none, none, some (.iconst 0, 1, 0, 0, 0, 0), some (.iadd, 1, 0, 0, 0, 0), some (.istore_n 2, 1, 0, 0, 0, 0), some (.iinc 3 1, 3, 0, 0, 0, 0), none, none, some (.goto (-27), 3, 0, 0, 0, 0), none, none, some (.iconst 0, 1, 0, 0, 0, 0), some (.istore_n 3, 1, 0, 0, 0, 0), some (.iconst 0, 1, 0, 0, 0, 0), some (.istore 4, 2, 0, 0, 0, 0), none, some (.iload 4, 2, 0, 0, 0, 0), none, some (.aload_n 0, 1, 0, 0, 0, 0), some (.invokevirtual 84, 3, 116, 0, 948, 0), none, none, some (.if_icmp .ge 26, 3, 0, 0, 0, 0), none, none, some (.iload_n 3, 1, 0, 0, 0, 0), some (.aload_n 0, 1, 0, 0, 0, 0), some (.iload 4, 2, 0, 0, 0, 0), none, some (.invokevirtual 150, 3, 148, 0, 964, 0), none, none, some (.ifCond .eq 7, 3, 0, 0, 0, 0), none, none, some (.iconst 1, 1, 0, 0, 0, 0), some (.goto 4, 3, 0, 0, 0, 0), none, none, some (.iconst 0, 1, 0, 0, 0, 0), some (.iadd, 1, 0, 0, 0, 0), some (.istore_n 3, 1, 0, 0, 0, 0), some (.iinc 4 1, 3, 0, 0, 0, 0), none, none, some (.goto (-29), 3, 0, 0, 0, 0), none, none, some (.iload_n 1, 1, 0, 0, 0, 0), some (.tableswitch 81 0 7 #[47, 52, 57, 62, 67, 72, 74, 76], 47, 0, 0, 0, 0), none, none, none, none, none, none, none, none, none, none, none, none, none, none, none, none, none, none, none, none, none, none, none, none, none, none, none, none, none, none, none, none, none, none, none, none, none, none, none, none, none, none, none, none, none, none, some (.aload_n 0, 1, 0, 0, 0, 0), some (.getfield 7, 3, 8, 3, 756, 0), none, none, some (.ireturn, 1, 0, 0, 0, 0), some (.aload_n 0, 1, 0, 0, 0, 0), some (.getfield 13, 3, 8, 4, 757, 0), none, none, some (.ireturn, 1, 0, 0, 0, 0), some (.aload_n 0, 1, 0, 0, 0, 0), some (.invokevirtual 67, 3, 113, 0, 838, 0), none, none, some (.ireturn, 1, 0, 0, 0, 0), some (.aload_n 0, 1, 0, 0, 0, 0), some (.invokevirtual 74, 3, 115, 0, 822, 0), none, none, some (.ireturn, 1, 0, 0, 0, 0), some (.aload_n 0, 1, 0, 0, 0, 0), some (.invokevirtual 84, 3, 116, 0, 948, 0), none, none, some (.ireturn, 1, 0, 0, 0, 0), some (.iload_n 2, 1, 0, 0, 0, 0), some (.ireturn, 1, 0, 0, 0, 0), some (.iload_n 3, 1, 0, 0, 0, 0), some (.ireturn, 1, 0, 0, 0, 0), some (.aload_n 0, 1, 0, 0, 0, 0), some (.getfield 77, 3, 8, 11, 764, 0), none, none, some (.ireturn, 1, 0, 0, 0, 0), some (.iconst (-1), 1, 0, 0, 0, 0), some (.ireturn, 1, 0, 0, 0, 0)]
def ct_173 : List (Option mc_E) := [some (.aload_n 0, 1, 0, 0, 0, 0), some (.iconst 0, 1, 0, 0, 0, 0), some (.putfield 60, 3, 8, 0, 753, 0), none, none, some (.aload_n 0, 1, 0, 0, 0, 0), some (.getfield 128, 3, 8, 2, 755, 0), none, none, some (.lreturn, 1, 0, 0, 0, 0)]
def ct_174 : List (Option mc_E) := [some (.aload_n 0, 1, 0, 0, 0, 0), some (.iconst 0, 1, 0, 0, 0, 0), some (.putfield 60, 3, 8, 0, 753, 0), none, none, some (.aload_n 0, 1, 0, 0, 0, 0), some (.getfield 168, 3, 8, 1, 754, 0), none, none, some (.ireturn, 1, 0, 0, 0, 0)]
def ct_175 : List (Option mc_E) := [some (.iload_n 0, 1, 0, 0, 0, 0), some (.iload_n 0, 1, 0, 0, 0, 0), some (.iconst 1, 1, 0, 0, 0, 0), some (.iushr, 1, 0, 0, 0, 0), some (.ldc_w 265, 3, 0, 0, 554, 1431655765), none, none, some (.iand, 1, 0, 0, 0, 0), some (.isub, 1, 0, 0, 0, 0), some (.istore_n 0, 1, 0, 0, 0, 0), some (.iload_n 0, 1, 0, 0, 0, 0), some (.ldc_w 266, 3, 0, 0, 555, 858993459), none, none, some (.iand, 1, 0, 0, 0, 0), some (.iload_n 0, 1, 0, 0, 0, 0), some (.iconst 2, 1, 0, 0, 0, 0), some (.iushr, 1, 0, 0, 0, 0), some (.ldc_w 266, 3, 0, 0, 555, 858993459), none, none, some (.iand, 1, 0, 0, 0, 0), some (.iadd, 1, 0, 0, 0, 0), some (.istore_n 0, 1, 0, 0, 0, 0), some (.iload_n 0, 1, 0, 0, 0, 0), some (.iload_n 0, 1, 0, 0, 0, 0), some (.iconst 4, 1, 0, 0, 0, 0), some (.iushr, 1, 0, 0, 0, 0), some (.iadd, 1, 0, 0, 0, 0), some (.ldc_w 267, 3, 0, 0, 556, 252645135), none, none, some (.iand, 1, 0, 0, 0, 0), some (.istore_n 0, 1, 0, 0, 0, 0), some (.iload_n 0, 1, 0, 0, 0, 0), some (.iload_n 0, 1, 0, 0, 0, 0), some (.bipush 8, 2, 0, 0, 0, 0), none, some (.iushr, 1, 0, 0, 0, 0), some (.iadd, 1, 0, 0, 0, 0), some (.istore_n 0, 1, 0, 0, 0, 0), some (.iload_n 0, 1, 0, 0, 0, 0), some (.iload_n 0, 1, 0, 0, 0, 0), some (.bipush 16, 2, 0, 0, 0, 0), none, some (.iushr, 1, 0, 0, 0, 0), some (.iadd, 1, 0, 0, 0, 0), some (.istore_n 0, 1, 0, 0, 0, 0), some (.iload_n 0, 1, 0, 0, 0, 0), some (.bipush 63, 2, 0, 0, 0, 0), none, some (.iand, 1, 0, 0, 0, 0), some (.ireturn, 1, 0, 0, 0, 0)]
def ct_176 : List (Option mc_E) := [some (.iload_n 0, 1, 0, 0, 0, 0), some (.ifCond .ge 8, 3, 0, 0, 0, 0), none, none, some (.iload_n 0, 1, 0, 0, 0, 0), some (.ineg, 1, 0, 0, 0, 0), some (.goto 4, 3, 0, 0, 0, 0), none, none, some (.iload_n 0, 1, 0, 0, 0, 0), some (.ireturn, 1, 0, 0, 0, 0)]
def ct_177 : List (Option mc_E) := [some (.iload_n 0, 1, 0, 0, 0, 0), some (.iload_n 1, 1, 0, 0, 0, 0), some (.if_icmp .lt 7, 3, 0, 0, 0, 0), none, none, some (.iload_n 0, 1, 0, 0, 0, 0), some (.goto 4, 3, 0, 0, 0, 0), none, none, some (.iload_n 1, 1, 0, 0, 0, 0), some (.ireturn, 1, 0, 0, 0, 0)]
def ct_178 : List (Option mc_E) := [some (.iload_n 0, 1, 0, 0, 0, 0), some (.iload_n 1, 1, 0, 0, 0, 0), some (.if_icmp .gt 7, 3, 0, 0, 0, 0), none, none, some (.iload_n 0, 1, 0, 0, 0, 0), some (.goto 4, 3, 0, 0, 0, 0), none, none, some (.iload_n 1, 1, 0, 0, 0, 0), some (.ireturn, 1, 0, 0, 0, 0)]
def ct_179 : List (Option mc_E) := [some (.iconst 0, 1, 0, 0, 0, 0), some (.istore_n 2, 1, 0, 0, 0, 0), some (.aload_n 0, 1, 0, 0, 0, 0), some (.arraylength, 1, 0, 0, 0, 0), some (.istore_n 3, 1, 0, 0, 0, 0), some (.iload_n 2, 1, 0, 0, 0, 0), some (.iload_n 3, 1, 0, 0, 0, 0), some (.if_icmp .ge 13, 3, 0, 0, 0, 0), none, none, some (.aload_n 0, 1, 0, 0, 0, 0), some (.iload_n 2, 1, 0, 0, 0, 0), some (.iload_n 1, 1, 0, 0, 0, 0), some (.iastore, 1, 0, 0, 0, 0), some (.iinc 2 1, 3, 0, 0, 0, 0), none, none, some (.goto (-12), 3, 0, 0, 0, 0), none, none, some (.return_, 1, 0, 0, 0, 0)]
def ct_180 : List (Option mc_E) := [some (.new 7, 3, 7, 0, 57, 0), none, none, some (.dup, 1, 0, 0, 0, 0), some (.invokespecial 9, 3, 60, 0, 59, 0), none, none, some (.astore_n 1, 1, 0, 0, 0, 0), some (.new 10, 3, 8, 0, 747, 0), none, none, some (.dup, 1, 0, 0, 0, 0), some (.invokespecial 12, 3, 111, 0, 749, 0), none, none, some (.astore_n 2, 1, 0, 0, 0, 0), some (.iconst 0, 1, 0, 0, 0, 0), some (.istore_n 3, 1, 0, 0, 0, 0), some (.iload_n 3, 1, 0, 0, 0, 0), some (.aload_n 0, 1, 0, 0, 0, 0), some (.arraylength, 1, 0, 0, 0, 0), some (.bipush 8, 2, 0, 0, 0, 0), none, some (.isub, 1, 0, 0, 0, 0), some (.if_icmp .gt 1206, 3, 0, 0, 0, 0), none, none, some (.aload_n 0, 1, 0, 0, 0, 0), some (.iload_n 3, 1, 0, 0, 0, 0), some (.iaload, 1, 0, 0, 0, 0), some (.bipush 63, 2, 0, 0, 0, 0), none, some (.iand, 1, 0, 0, 0, 0), some (.tableswitch 1191 0 34 #[155, 188, 221, 254, 303, 326, 349, 382, 405, 418, 431, 454, 477, 510, 543, 556, 579, 612, 625, 648, 661, 674, 697, 720, 743, 776, 799, 842, 885, 948, 1001, 1088, 1141, 1164, 1178], 155, 0, 0, 0, 0), none, none, none, none, none, none, none, none, none, none, none, none, none, none, none, none, none, none, none, none, none, none, none, none, none, none, none, none, none, none, none, none, none, none, none, none, none, none, none, none, none, none, none, none, none, none, none, none, none, none, none, none, none, none, none, none, none, none, none, none, none, none, none, none, none, none, none, none, none, none, none, none, none, none, none, none, none, none, none, none, none, none, none, none, none, none, none, none, none, none, none, none, none, none, none, none, none, none, none, none, none, none, none, none, none, none, none, none, none, none, none, none, none, none, none, none, none, none, none, none, none, none, none, none, none, none, none, none, none, none, none, none, none, none, none, none, none, none, none, none, none, none, none, none, none, none, none, none, none, none, none, none, none, none, some (.aload_n 1, 1, 0, 0, 0, 0), some (.aload_n 0, 1, 0, 0, 0, 0), some (.iload_n 3, 1, 0, 0, 0, 0), some (.iconst 1, 1, 0, 0, 0, 0), some (.iadd, 1, 0, 0, 0, 0), some (.iaload, 1, 0, 0, 0, 0), some (.aload_n 0, 1, 0, 0, 0, 0), some (.iload_n 3, 1, 0, 0, 0, 0), some (.iconst 2, 1, 0, 0, 0, 0), some (.iadd, 1, 0, 0, 0, 0), some (.iaload, 1, 0, 0, 0, 0), some (.invokevirtual 13, 3, 61, 0, 303, 0), none, none, some (.aload_n 2, 1, 0, 0, 0, 0), some (.aload_n 0, 1, 0, 0, 0, 0), some (.iload_n 3, 1, 0, 0, 0, 0), some (.iconst 1, 1, 0, 0, 0, 0), some (.iadd, 1, 0, 0, 0, 0), some (.iaload, 1, 0, 0, 0, 0), some (.aload_n 0, 1, 0, 0, 0, 0), some (.iload_n 3, 1, 0, 0, 0, 0), some (.iconst 2, 1, 0, 0, 0, 0), some (.iadd, 1, 0, 0, 0, 0), some (.iaload, 1, 0, 0, 0, 0), some (.invokevirtual 17, 3, 133, 0, 815, 0), none, none, some (.if_icmp .eq 1008, 3, 0, 0, 0, 0), none, none, some (.iconst 0, 1, 0, 0, 0, 0), some (.ireturn, 1, 0, 0, 0, 0), some (.aload_n 1, 1, 0, 0, 0, 0), some (.aload_n 0, 1, 0, 0, 0, 0), some (.iload_n 3, 1, 0, 0, 0, 0), some (.iconst 1, 1, 0, 0, 0, 0), some (.iadd, 1, 0, 0, 0, 0), some (.iaload, 1, 0, 0, 0, 0), some (.aload_n 0, 1, 0, 0, 0, 0), some (.iload_n 3, 1, 0, 0, 0, 0), some (.iconst 2, 1, 0, 0, 0, 0), some (.iadd, 1, 0, 0, 0, 0), some (.iaload, 1, 0, 0, 0, 0), some (.invokevirtual 18, 3, 62, 0, 318, 0), none, none, some (.aload_n 2, 1, 0, 0, 0, 0), some (.aload_n 0, 1, 0, 0, 0, 0), some (.iload_n 3, 1, 0, 0, 0, 0), some (.iconst 1, 1, 0, 0, 0, 0), some (.iadd, 1, 0, 0, 0, 0), some (.iaload, 1, 0, 0, 0, 0), some (.aload_n 0, 1, 0, 0, 0, 0), some (.iload_n 3, 1, 0, 0, 0, 0), some (.iconst 2, 1, 0, 0, 0, 0), some (.iadd, 1, 0, 0, 0, 0), some (.iaload, 1, 0, 0, 0, 0), some (.invokevirtual 21, 3, 134, 0, 830, 0), none, none, some (.if_icmp .eq 975, 3, 0, 0, 0, 0), none, none, some (.iconst 0, 1, 0, 0, 0, 0), some (.ireturn, 1, 0, 0, 0, 0), some (.aload_n 1, 1, 0, 0, 0, 0), some (.aload_n 0, 1, 0, 0, 0, 0), some (.iload_n 3, 1, 0, 0, 0, 0), some (.iconst 1, 1, 0, 0, 0, 0), some (.iadd, 1, 0, 0, 0, 0), some (.iaload, 1, 0, 0, 0, 0), some (.aload_n 0, 1, 0, 0, 0, 0), some (.iload_n 3, 1, 0, 0, 0, 0), some (.iconst 2, 1, 0, 0, 0, 0), some (.iadd, 1, 0, 0, 0, 0), some (.iaload, 1, 0, 0, 0, 0), some (.invokevirtual 22, 3, 63, 0, 350, 0), none, none, some (.aload_n 2, 1, 0, 0, 0, 0), some (.aload_n 0, 1, 0, 0, 0, 0), some (.iload_n 3, 1, 0, 0, 0, 0), some (.iconst 1, 1, 0, 0, 0, 0), some (.iadd, 1, 0, 0, 0, 0), some (.iaload, 1, 0, 0, 0, 0), some (.aload_n 0, 1, 0, 0, 0, 0), some (.iload_n 3, 1, 0, 0, 0, 0), some (.iconst 2, 1, 0, 0, 0, 0), some (.iadd, 1, 0, 0, 0, 0), some (.iaload, 1, 0, 0, 0, 0), some (.invokevirtual 25, 3, 135, 0, 846, 0), none, none, some (.if_icmp .eq 942, 3, 0, 0, 0, 0), none, none, some (.iconst 0, 1, 0, 0, 0, 0), some (.ireturn, 1, 0, 0, 0, 0), some (.aload_n 1, 1, 0, 0, 0, 0), some (.aload_n 0, 1, 0, 0, 0, 0), some (.iload_n 3, 1, 0, 0, 0, 0), some (.iconst 1, 1, 0, 0, 0, 0), some (.iadd, 1, 0, 0, 0, 0), some (.iaload, 1, 0, 0, 0, 0), some (.aload_n 0, 1, 0, 0, 0, 0), some (.iload_n 3, 1, 0, 0, 0, 0), some (.iconst 2, 1, 0, 0, 0, 0), some (.iadd, 1, 0, 0, 0, 0), some (.iaload, 1, 0, 0, 0, 0), some (.ifCond .eq 7, 3, 0, 0, 0, 0), none, none, some (.iconst 1, 1, 0, 0, 0, 0), some (.goto 4, 3, 0, 0, 0, 0), none, none, some (.iconst 0, 1, 0, 0, 0, 0), some (.invokevirtual 26, 3, 64, 0, 363, 0), none, none, some (.aload_n 2, 1, 0, 0, 0, 0), some (.aload_n 0, 1, 0, 0, 0, 0), some (.iload_n 3, 1, 0, 0, 0, 0), some (.iconst 1, 1, 0, 0, 0, 0), some (.iadd, 1, 0, 0, 0, 0), some (.iaload, 1, 0, 0, 0, 0), some (.aload_n 0, 1, 0, 0, 0, 0), some (.iload_n 3, 1, 0, 0, 0, 0), some (.iconst 2, 1, 0, 0, 0, 0), some (.iadd, 1, 0, 0, 0, 0), some (.iaload, 1, 0, 0, 0, 0), some (.ifCond .eq 7, 3, 0, 0, 0, 0), none, none, some (.iconst 1, 1, 0, 0, 0, 0), some (.goto 4, 3, 0, 0, 0, 0), none, none, some (.iconst 0, 1, 0, 0, 0, 0), some (.invokevirtual 30, 3, 136, 0, 850, 0), none, none, some (.if_icmp .eq 893, 3, 0, 0, 0, 0), none, none, some (.iconst 0, 1, 0, 0, 0, 0), some (.ireturn, 1, 0, 0, 0, 0), some (.aload_n 1, 1, 0, 0, 0, 0), some (.aload_n 0, 1, 0, 0, 0, 0), some (.iload_n 3, 1, 0, 0, 0, 0), some (.iconst 1, 1, 0, 0, 0, 0), some (.iadd, 1, 0, 0, 0, 0), some (.iaload, 1, 0, 0, 0, 0), some (.invokevirtual 31, 3, 65, 0, 367, 0), none, none, some (.aload_n 2, 1, 0, 0, 0, 0), some (.aload_n 0, 1, 0, 0, 0, 0), some (.iload_n 3, 1, 0, 0, 0, 0), some (.iconst 1, 1, 0, 0, 0, 0), some (.iadd, 1, 0, 0, 0, 0), some (.iaload, 1, 0, 0, 0, 0), some (.invokevirtual 35, 3, 137, 0, 854, 0), none, none, some (.if_icmp .eq 870, 3, 0, 0, 0, 0), none, none, some (.iconst 0, 1, 0, 0, 0, 0), some (.ireturn, 1, 0, 0, 0, 0), some (.aload_n 1, 1, 0, 0, 0, 0), some (.aload_n 0, 1, 0, 0, 0, 0), some (.iload_n 3, 1, 0, 0, 0, 0), some (.iconst 1, 1, 0, 0, 0, 0), some (.iadd, 1, 0, 0, 0, 0), some (.iaload, 1, 0, 0, 0, 0), some (.invokevirtual 36, 3, 66, 0, 415, 0), none, none, some (.aload_n 2, 1, 0, 0, 0, 0), some (.aload_n 0, 1, 0, 0, 0, 0), some (.iload_n 3, 1, 0, 0, 0, 0), some (.iconst 1, 1, 0, 0, 0, 0), some (.iadd, 1, 0, 0, 0, 0), some (.iaload, 1, 0, 0, 0, 0), some (.invokevirtual 39, 3, 138, 0, 890, 0), none, none, some (.if_icmp .eq 847, 3, 0, 0, 0, 0), none, none, some (.iconst 0, 1, 0, 0, 0, 0), some (.ireturn, 1, 0, 0, 0, 0), some (.aload_n 1, 1, 0, 0, 0, 0), some (.aload_n 0, 1, 0, 0, 0, 0), some (.iload_n 3, 1, 0, 0, 0, 0), some (.iconst 1, 1, 0, 0, 0, 0), some (.iadd, 1, 0, 0, 0, 0), some (.iaload, 1, 0, 0, 0, 0), some (.aload_n 0, 1, 0, 0, 0, 0), some (.iload_n 3, 1, 0, 0, 0, 0), some (.iconst 2, 1, 0, 0, 0, 0), some (.iadd, 1, 0, 0, 0, 0), some (.iaload, 1, 0, 0, 0, 0), some (.invokevirtual 40, 3, 67, 0, 431, 0), none, none, some (.aload_n 2, 1, 0, 0, 0, 0), some (.aload_n 0, 1, 0, 0, 0, 0), some (.iload_n 3, 1, 0, 0, 0, 0), some (.iconst 1, 1, 0, 0, 0, 0), some (.iadd, 1, 0, 0, 0, 0), some (.iaload, 1, 0, 0, 0, 0), some (.aload_n 0, 1, 0, 0, 0, 0), some (.iload_n 3, 1, 0, 0, 0, 0), some (.iconst 2, 1, 0, 0, 0, 0), some (.iadd, 1, 0, 0, 0, 0), some (.iaload, 1, 0, 0, 0, 0), some (.invokevirtual 43, 3, 139, 0, 894, 0), none, none, some (.if_icmp .eq 814, 3, 0, 0, 0, 0), none, none, some (.iconst 0, 1, 0, 0, 0, 0), some (.ireturn, 1, 0, 0, 0, 0), some (.aload_n 1, 1, 0, 0, 0, 0), some (.aload_n 0, 1, 0, 0, 0, 0), some (.iload_n 3, 1, 0, 0, 0, 0), some (.iconst 1, 1, 0, 0, 0, 0), some (.iadd, 1, 0, 0, 0, 0), some (.iaload, 1, 0, 0, 0, 0), some (.invokevirtual 44, 3, 68, 0, 442, 0), none, none, some (.aload_n 2, 1, 0, 0, 0, 0), some (.aload_n 0, 1, 0, 0, 0, 0), some (.iload_n 3, 1, 0, 0, 0, 0), some (.iconst 1, 1, 0, 0, 0, 0), some (.iadd, 1, 0, 0, 0, 0), some (.iaload, 1, 0, 0, 0, 0), some (.invokevirtual 47, 3, 140, 0, 902, 0), none, none, some (.if_icmp .eq 791, 3, 0, 0, 0, 0), none, none, some (.iconst 0, 1, 0, 0, 0, 0), some (.ireturn, 1, 0, 0, 0, 0), some (.aload_n 1, 1, 0, 0, 0, 0), some (.invokevirtual 48, 3, 69, 0, 455, 0), none, none, some (.aload_n 2, 1, 0, 0, 0, 0), some (.invokevirtual 52, 3, 141, 0, 910, 0), none, none, some (.if_icmp .eq 778, 3, 0, 0, 0, 0), none, none, some (.iconst 0, 1, 0, 0, 0, 0), some (.ireturn, 1, 0, 0, 0, 0), some (.aload_n 1, 1, 0, 0, 0, 0), some (.invokevirtual 53, 3, 70, 0, 464, 0), none, none, some (.aload_n 2, 1, 0, 0, 0, 0), some (.invokevirtual 56, 3, 142, 0, 914, 0), none, none, some (.if_icmp .eq 765, 3, 0, 0, 0, 0), none, none, some (.iconst 0, 1, 0, 0, 0, 0), some (.ireturn, 1, 0, 0, 0, 0), some (.aload_n 1, 1, 0, 0, 0, 0), some (.aload_n 0, 1, 0, 0, 0, 0), some (.iload_n 3, 1, 0, 0, 0, 0), some (.iconst 1, 1, 0, 0, 0, 0), some (.iadd, 1, 0, 0, 0, 0), some (.iaload, 1, 0, 0, 0, 0), some (.invokevirtual 57, 3, 71, 0, 473, 0), none, none, some (.aload_n 2, 1, 0, 0, 0, 0), some (.aload_n 0, 1, 0, 0, 0, 0), some (.iload_n 3, 1, 0, 0, 0, 0), some (.iconst 1, 1, 0, 0, 0, 0), some (.iadd, 1, 0, 0, 0, 0), some (.iaload, 1, 0, 0, 0, 0), some (.invokevirtual 60, 3, 143, 0, 918, 0), none, none, some (.if_icmp .eq 742, 3, 0, 0, 0, 0), none, none, some (.iconst 0, 1, 0, 0, 0, 0), some (.ireturn, 1, 0, 0, 0, 0), some (.aload_n 1, 1, 0, 0, 0, 0), some (.aload_n 0, 1, 0, 0, 0, 0), some (.iload_n 3, 1, 0, 0, 0, 0), some (.iconst 1, 1, 0, 0, 0, 0), some (.iadd, 1, 0, 0, 0, 0), some (.iaload, 1, 0, 0, 0, 0), some (.invokevirtual 61, 3, 72, 0, 481, 0), none, none, some (.aload_n 2, 1, 0, 0, 0, 0), some (.aload_n 0, 1, 0, 0, 0, 0), some (.iload_n 3, 1, 0, 0, 0, 0), some (.iconst 1, 1, 0, 0, 0, 0), some (.iadd, 1, 0, 0, 0, 0), some (.iaload, 1, 0, 0, 0, 0), some (.invokevirtual 64, 3, 144, 0, 925, 0), none, none, some (.if_icmp .eq 719, 3, 0, 0, 0, 0), none, none, some (.iconst 0, 1, 0, 0, 0, 0), some (.ireturn, 1, 0, 0, 0, 0), some (.aload_n 1, 1, 0, 0, 0, 0), some (.aload_n 0, 1, 0, 0, 0, 0), some (.iload_n 3, 1, 0, 0, 0, 0), some (.iconst 1, 1, 0, 0, 0, 0), some (.iadd, 1, 0, 0, 0, 0), some (.iaload, 1, 0, 0, 0, 0), some (.aload_n 0, 1, 0, 0, 0, 0), some (.iload_n 3, 1, 0, 0, 0, 0), some (.iconst 2, 1, 0, 0, 0, 0), some (.iadd, 1, 0, 0, 0, 0), some (.iaload, 1, 0, 0, 0, 0), some (.invokevirtual 65, 3, 73, 0, 488, 0), none, none, some (.aload_n 2, 1, 0, 0, 0, 0), some (.aload_n 0, 1, 0, 0, 0, 0), some (.iload_n 3, 1, 0, 0, 0, 0), some (.iconst 1, 1, 0, 0, 0, 0), some (.iadd, 1, 0, 0, 0, 0), some (.iaload, 1, 0, 0, 0, 0), some (.aload_n 0, 1, 0, 0, 0, 0), some (.iload_n 3, 1, 0, 0, 0, 0), some (.iconst 2, 1, 0, 0, 0, 0), some (.iadd, 1, 0, 0, 0, 0), some (.iaload, 1, 0, 0, 0, 0), some (.invokevirtual 68, 3, 145, 0, 932, 0), none, none, some (.if_icmp .eq 686, 3, 0, 0, 0, 0), none, none, some (.iconst 0, 1, 0, 0, 0, 0), some (.ireturn, 1, 0, 0, 0, 0), some (.aload_n 1, 1, 0, 0, 0, 0), some (.aload_n 0, 1, 0, 0, 0, 0), some (.iload_n 3, 1, 0, 0, 0, 0), some (.iconst 1, 1, 0, 0, 0, 0), some (.iadd, 1, 0, 0, 0, 0), some (.iaload, 1, 0, 0, 0, 0), some (.aload_n 0, 1, 0, 0, 0, 0), some (.iload_n 3, 1, 0, 0, 0, 0), some (.iconst 2, 1, 0, 0, 0, 0), some (.iadd, 1, 0, 0, 0, 0), some (.iaload, 1, 0, 0, 0, 0), some (.invokevirtual 69, 3, 74, 0, 496, 0), none, none, some (.aload_n 2, 1, 0, 0, 0, 0), some (.aload_n 0, 1, 0, 0, 0, 0), some (.iload_n 3, 1, 0, 0, 0, 0), some (.iconst 1, 1, 0, 0, 0, 0), some (.iadd, 1, 0, 0, 0, 0), some (.iaload, 1, 0, 0, 0, 0), some (.aload_n 0, 1, 0, 0, 0, 0), some (.iload_n 3, 1, 0, 0, 0, 0), some (.iconst 2, 1, 0, 0, 0, 0), some (.iadd, 1, 0, 0, 0, 0), some (.iaload, 1, 0, 0, 0, 0), some (.invokevirtual 72, 3, 146, 0, 936, 0), none, none, some (.if_icmp .eq 653, 3, 0, 0, 0, 0), none, none, some (.iconst 0, 1, 0, 0, 0, 0), some (.ireturn, 1, 0, 0, 0, 0), some (.aload_n 1, 1, 0, 0, 0, 0), some (.invokevirtual 73, 3, 75, 0, 502, 0), none, none, some (.aload_n 2, 1, 0, 0, 0, 0), some (.invokevirtual 76, 3, 147, 0, 956, 0), none, none, some (.if_icmp .eq 640, 3, 0, 0, 0, 0), none, none, some (.iconst 0, 1, 0, 0, 0, 0), some (.ireturn, 1, 0, 0, 0, 0), some (.aload_n 1, 1, 0, 0, 0, 0), some (.aload_n 0, 1, 0, 0, 0, 0), some (.iload_n 3, 1, 0, 0, 0, 0), some (.iconst 1, 1, 0, 0, 0, 0), some (.iadd, 1, 0, 0, 0, 0), some (.iaload, 1, 0, 0, 0, 0), some (.invokevirtual 77, 3, 76, 0, 506, 0), none, none, some (.aload_n 2, 1, 0, 0, 0, 0), some (.aload_n 0, 1, 0, 0, 0, 0), some (.iload_n 3, 1, 0, 0, 0, 0), some (.iconst 1, 1, 0, 0, 0, 0), some (.iadd, 1, 0, 0, 0, 0), some (.iaload, 1, 0, 0, 0, 0), some (.invokevirtual 80, 3, 149, 0, 960, 0), none, none, some (.if_icmp .eq 617, 3, 0, 0, 0, 0), none, none, some (.iconst 0, 1, 0, 0, 0, 0), some (.ireturn, 1, 0, 0, 0, 0), some (.aload_n 1, 1, 0, 0, 0, 0), some (.aload_n 0, 1, 0, 0, 0, 0), some (.iload_n 3, 1, 0, 0, 0, 0), some (.iconst 1, 1, 0, 0, 0, 0), some (.iadd, 1, 0, 0, 0, 0), some (.iaload, 1, 0, 0, 0, 0), some (.aload_n 0, 1, 0, 0, 0, 0), some (.iload_n 3, 1, 0, 0, 0, 0), some (.iconst 2, 1, 0, 0, 0, 0), some (.iadd, 1, 0, 0, 0, 0), some (.iaload, 1, 0, 0, 0, 0), some (.invokevirtual 81, 3, 77, 0, 518, 0), none, none, some (.aload_n 2, 1, 0, 0, 0, 0), some (.aload_n 0, 1, 0, 0, 0, 0), some (.iload_n 3, 1, 0, 0, 0, 0), some (.iconst 1, 1, 0, 0, 0, 0), some (.iadd, 1, 0, 0, 0, 0), some (.iaload, 1, 0, 0, 0, 0), some (.aload_n 0, 1, 0, 0, 0, 0), some (.iload_n 3, 1, 0, 0, 0, 0), some (.iconst 2, 1, 0, 0, 0, 0), some (.iadd, 1, 0, 0, 0, 0), some (.iaload, 1, 0, 0, 0, 0), some (.invokevirtual 84, 3, 151, 0, 968, 0), none, none, some (.if_icmp .eq 584, 3, 0, 0, 0, 0), none, none, some (.iconst 0, 1, 0, 0, 0, 0), some (.ireturn, 1, 0, 0, 0, 0), some (.aload_n 1, 1, 0, 0, 0, 0), some (.invokevirtual 85, 3, 78, 0, 543, 0), none, none, some (.aload_n 2, 1, 0, 0, 0, 0), some (.invokevirtual 88, 3, 152, 0, 977, 0), none, none, some (.if_icmp .eq 571, 3, 0, 0, 0, 0), none, none, some (.iconst 0, 1, 0, 0, 0, 0), some (.ireturn, 1, 0, 0, 0, 0), some (.aload_n 1, 1, 0, 0, 0, 0), some (.aload_n 0, 1, 0, 0, 0, 0), some (.iload_n 3, 1, 0, 0, 0, 0), some (.iconst 1, 1, 0, 0, 0, 0), some (.iadd, 1, 0, 0, 0, 0), some (.iaload, 1, 0, 0, 0, 0), some (.invokevirtual 89, 3, 79, 0, 564, 0), none, none, some (.aload_n 2, 1, 0, 0, 0, 0), some (.aload_n 0, 1, 0, 0, 0, 0), some (.iload_n 3, 1, 0, 0, 0, 0), some (.iconst 1, 1, 0, 0, 0, 0), some (.iadd, 1, 0, 0, 0, 0), some (.iaload, 1, 0, 0, 0, 0), some (.invokevirtual 92, 3, 153, 0, 982, 0), none, none, some (.if_icmp .eq 548, 3, 0, 0, 0, 0), none, none, some (.iconst 0, 1, 0, 0, 0, 0), some (.ireturn, 1, 0, 0, 0, 0), some (.aload_n 1, 1, 0, 0, 0, 0), some (.invokevirtual 93, 3, 80, 0, 569, 0), none, none, some (.aload_n 2, 1, 0, 0, 0, 0), some (.invokevirtual 96, 3, 155, 0, 986, 0), none, none, some (.if_icmp .eq 535, 3, 0, 0, 0, 0), none, none, some (.iconst 0, 1, 0, 0, 0, 0), some (.ireturn, 1, 0, 0, 0, 0), some (.aload_n 1, 1, 0, 0, 0, 0), some (.invokevirtual 97, 3, 81, 0, 600, 0), none, none, some (.aload_n 2, 1, 0, 0, 0, 0), some (.invokevirtual 100, 3, 157, 0, 998, 0), none, none, some (.if_icmp .eq 522, 3, 0, 0, 0, 0), none, none, some (.iconst 0, 1, 0, 0, 0, 0), some (.ireturn, 1, 0, 0, 0, 0), some (.aload_n 1, 1, 0, 0, 0, 0), some (.aload_n 0, 1, 0, 0, 0, 0), some (.iload_n 3, 1, 0, 0, 0, 0), some (.iconst 1, 1, 0, 0, 0, 0), some (.iadd, 1, 0, 0, 0, 0), some (.iaload, 1, 0, 0, 0, 0), some (.invokevirtual 101, 3, 82, 0, 608, 0), none, none, some (.aload_n 2, 1, 0, 0, 0, 0), some (.aload_n 0, 1, 0, 0, 0, 0), some (.iload_n 3, 1, 0, 0, 0, 0), some (.iconst 1, 1, 0, 0, 0, 0), some (.iadd, 1, 0, 0, 0, 0), some (.iaload, 1, 0, 0, 0, 0), some (.invokevirtual 104, 3, 158, 0, 1006, 0), none, none, some (.if_icmp .eq 499, 3, 0, 0, 0, 0), none, none, some (.iconst 0, 1, 0, 0, 0, 0), some (.ireturn, 1, 0, 0, 0, 0), some (.aload_n 1, 1, 0, 0, 0, 0), some (.aload_n 0, 1, 0, 0, 0, 0), some (.iload_n 3, 1, 0, 0, 0, 0), some (.iconst 1, 1, 0, 0, 0, 0), some (.iadd, 1, 0, 0, 0, 0), some (.iaload, 1, 0, 0, 0, 0), some (.invokevirtual 105, 3, 83, 0, 616, 0), none, none, some (.aload_n 2, 1, 0, 0, 0, 0), some (.aload_n 0, 1, 0, 0, 0, 0), some (.iload_n 3, 1, 0, 0, 0, 0), some (.iconst 1, 1, 0, 0, 0, 0), some (.iadd, 1, 0, 0, 0, 0), some (.iaload, 1, 0, 0, 0, 0), some (.invokevirtual 108, 3, 159, 0, 1010, 0), none, none, some (.if_icmp .eq 476, 3, 0, 0, 0, 0), none, none, some (.iconst 0, 1, 0, 0, 0, 0), some (.ireturn, 1, 0, 0, 0, 0), some (.aload_n 1, 1, 0, 0, 0, 0), some (.aload_n 0, 1, 0, 0, 0, 0), some (.iload_n 3, 1, 0, 0, 0, 0), some (.iconst 1, 1, 0, 0, 0, 0), some (.iadd, 1, 0, 0, 0, 0), some (.iaload, 1, 0, 0, 0, 0), some (.invokevirtual 109, 3, 84, 0, 624, 0), none, none, some (.aload_n 2, 1, 0, 0, 0, 0), some (.aload_n 0, 1, 0, 0, 0, 0), some (.iload_n 3, 1, 0, 0, 0, 0), some (.iconst 1, 1, 0, 0, 0, 0), some (.iadd, 1, 0, 0, 0, 0), some (.iaload, 1, 0, 0, 0, 0), some (.invokevirtual 112, 3, 160, 0, 1014, 0), none, none, some (.if_icmp .eq 453, 3, 0, 0, 0, 0), none, none, some (.iconst 0, 1, 0, 0, 0, 0), some (.ireturn, 1, 0, 0, 0, 0), some (.aload_n 1, 1, 0, 0, 0, 0), some (.aload_n 0, 1, 0, 0, 0, 0), some (.iload_n 3, 1, 0, 0, 0, 0), some (.iconst 1, 1, 0, 0, 0, 0), some (.iadd, 1, 0, 0, 0, 0), some (.iaload, 1, 0, 0, 0, 0), some (.aload_n 0, 1, 0, 0, 0, 0), some (.iload_n 3, 1, 0, 0, 0, 0), some (.iconst 2, 1, 0, 0, 0, 0), some (.iadd, 1, 0, 0, 0, 0), some (.iaload, 1, 0, 0, 0, 0), some (.invokevirtual 113, 3, 85, 0, 628, 0), none, none, some (.aload_n 2, 1, 0, 0, 0, 0), some (.aload_n 0, 1, 0, 0, 0, 0), some (.iload_n 3, 1, 0, 0, 0, 0), some (.iconst 1, 1, 0, 0, 0, 0), some (.iadd, 1, 0, 0, 0, 0), some (.iaload, 1, 0, 0, 0, 0), some (.aload_n 0, 1, 0, 0, 0, 0), some (.iload_n 3, 1, 0, 0, 0, 0), some (.iconst 2, 1, 0, 0, 0, 0), some (.iadd, 1, 0, 0, 0, 0), some (.iaload, 1, 0, 0, 0, 0), some (.invokevirtual 116, 3, 161, 0, 1018, 0), none, none, some (.if_icmp .eq 420, 3, 0, 0, 0, 0), none, none, some (.iconst 0, 1, 0, 0, 0, 0), some (.ireturn, 1, 0, 0, 0, 0), some (.aload_n 1, 1, 0, 0, 0, 0), some (.aload_n 0, 1, 0, 0, 0, 0), some (.iload_n 3, 1, 0, 0, 0, 0), some (.iconst 1, 1, 0, 0, 0, 0), some (.iadd, 1, 0, 0, 0, 0), some (.iaload, 1, 0, 0, 0, 0), some (.invokevirtual 117, 3, 86, 0, 632, 0), none, none, some (.aload_n 2, 1, 0, 0, 0, 0), some (.aload_n 0, 1, 0, 0, 0, 0), some (.iload_n 3, 1, 0, 0, 0, 0), some (.iconst 1, 1, 0, 0, 0, 0), some (.iadd, 1, 0, 0, 0, 0), some (.iaload, 1, 0, 0, 0, 0), some (.invokevirtual 120, 3, 162, 0, 1022, 0), none, none, some (.if_icmp .eq 397, 3, 0, 0, 0, 0), none, none, some (.iconst 0, 1, 0, 0, 0, 0), some (.ireturn, 1, 0, 0, 0, 0), some (.aload_n 1, 1, 0, 0, 0, 0), some (.aload_n 0, 1, 0, 0, 0, 0), some (.iload_n 3, 1, 0, 0, 0, 0), some (.iconst 1, 1, 0, 0, 0, 0), some (.iadd, 1, 0, 0, 0, 0), some (.iaload, 1, 0, 0, 0, 0), some (.aload_n 0, 1, 0, 0, 0, 0), some (.iload_n 3, 1, 0, 0, 0, 0), some (.iconst 2, 1, 0, 0, 0, 0), some (.iadd, 1, 0, 0, 0, 0), some (.iaload, 1, 0, 0, 0, 0), some (.aload_n 0, 1, 0, 0, 0, 0), some (.iload_n 3, 1, 0, 0, 0, 0), some (.iconst 3, 1, 0, 0, 0, 0), some (.iadd, 1, 0, 0, 0, 0), some (.iaload, 1, 0, 0, 0, 0), some (.invokevirtual 121, 3, 87, 0, 637, 0), none, none, some (.aload_n 2, 1, 0, 0, 0, 0), some (.aload_n 0, 1, 0, 0, 0, 0), some (.iload_n 3, 1, 0, 0, 0, 0), some (.iconst 1, 1, 0, 0, 0, 0), some (.iadd, 1, 0, 0, 0, 0), some (.iaload, 1, 0, 0, 0, 0), some (.aload_n 0, 1, 0, 0, 0, 0), some (.iload_n 3, 1, 0, 0, 0, 0), some (.iconst 2, 1, 0, 0, 0, 0), some (.iadd, 1, 0, 0, 0, 0), some (.iaload, 1, 0, 0, 0, 0), some (.aload_n 0, 1, 0, 0, 0, 0), some (.iload_n 3, 1, 0, 0, 0, 0), some (.iconst 3, 1, 0, 0, 0, 0), some (.iadd, 1, 0, 0, 0, 0), some (.iaload, 1, 0, 0, 0, 0), some (.invokevirtual 125, 3, 164, 0, 1026, 0), none, none, some (.if_icmp .eq 354, 3, 0, 0, 0, 0), none, none, some (.iconst 0, 1, 0, 0, 0, 0), some (.ireturn, 1, 0, 0, 0, 0), some (.aload_n 1, 1, 0, 0, 0, 0), some (.aload_n 0, 1, 0, 0, 0, 0), some (.iload_n 3, 1, 0, 0, 0, 0), some (.iconst 1, 1, 0, 0, 0, 0), some (.iadd, 1, 0, 0, 0, 0), some (.iaload, 1, 0, 0, 0, 0), some (.aload_n 0, 1, 0, 0, 0, 0), some (.iload_n 3, 1, 0, 0, 0, 0), some (.iconst 2, 1, 0, 0, 0, 0), some (.iadd, 1, 0, 0, 0, 0), some (.iaload, 1, 0, 0, 0, 0), some (.aload_n 0, 1, 0, 0, 0, 0), some (.iload_n 3, 1, 0, 0, 0, 0), some (.iconst 3, 1, 0, 0, 0, 0), some (.iadd, 1, 0, 0, 0, 0), some (.iaload, 1, 0, 0, 0, 0), some (.invokevirtual 126, 3, 88, 0, 660, 0), none, none, some (.aload_n 2, 1, 0, 0, 0, 0), some (.aload_n 0, 1, 0, 0, 0, 0), some (.iload_n 3, 1, 0, 0, 0, 0), some (.iconst 1, 1, 0, 0, 0, 0), some (.iadd, 1, 0, 0, 0, 0), some (.iaload, 1, 0, 0, 0, 0), some (.aload_n 0, 1, 0, 0, 0, 0), some (.iload_n 3, 1, 0, 0, 0, 0), some (.iconst 2, 1, 0, 0, 0, 0), some (.iadd, 1, 0, 0, 0, 0), some (.iaload, 1, 0, 0, 0, 0), some (.aload_n 0, 1, 0, 0, 0, 0), some (.iload_n 3, 1, 0, 0, 0, 0), some (.iconst 3, 1, 0, 0, 0, 0), some (.iadd, 1, 0, 0, 0, 0), some (.iaload, 1, 0, 0, 0, 0), some (.invokevirtual 129, 3, 165, 0, 1034, 0), none, none, some (.if_icmp .eq 311, 3, 0, 0, 0, 0), none, none, some (.iconst 0, 1, 0, 0, 0, 0), some (.ireturn, 1, 0, 0, 0, 0), some (.aload_n 1, 1, 0, 0, 0, 0), some (.aload_n 0, 1, 0, 0, 0, 0), some (.iload_n 3, 1, 0, 0, 0, 0), some (.iconst 1, 1, 0, 0, 0, 0), some (.iadd, 1, 0, 0, 0, 0), some (.iaload, 1, 0, 0, 0, 0), some (.aload_n 0, 1, 0, 0, 0, 0), some (.iload_n 3, 1, 0, 0, 0, 0), some (.iconst 2, 1, 0, 0, 0, 0), some (.iadd, 1, 0, 0, 0, 0), some (.iaload, 1, 0, 0, 0, 0), some (.aload_n 0, 1, 0, 0, 0, 0), some (.iload_n 3, 1, 0, 0, 0, 0), some (.iconst 3, 1, 0, 0, 0, 0), some (.iadd, 1, 0, 0, 0, 0), some (.iaload, 1, 0, 0, 0, 0), some (.aload_n 0, 1, 0, 0, 0, 0), some (.iload_n 3, 1, 0, 0, 0, 0), some (.iconst 4, 1, 0, 0, 0, 0), some (.iadd, 1, 0, 0, 0, 0), some (.iaload, 1, 0, 0, 0, 0), some (.aload_n 0, 1, 0, 0, 0, 0), some (.iload_n 3, 1, 0, 0, 0, 0), some (.iconst 5, 1, 0, 0, 0, 0), some (.iadd, 1, 0, 0, 0, 0), some (.iaload, 1, 0, 0, 0, 0), some (.invokevirtual 130, 3, 89, 0, 680, 0), none, none, some (.aload_n 2, 1, 0, 0, 0, 0), some (.aload_n 0, 1, 0, 0, 0, 0), some (.iload_n 3, 1, 0, 0, 0, 0), some (.iconst 1, 1, 0, 0, 0, 0), some (.iadd, 1, 0, 0, 0, 0), some (.iaload, 1, 0, 0, 0, 0), some (.aload_n 0, 1, 0, 0, 0, 0), some (.iload_n 3, 1, 0, 0, 0, 0), some (.iconst 2, 1, 0, 0, 0, 0), some (.iadd, 1, 0, 0, 0, 0), some (.iaload, 1, 0, 0, 0, 0), some (.aload_n 0, 1, 0, 0, 0, 0), some (.iload_n 3, 1, 0, 0, 0, 0), some (.iconst 3, 1, 0, 0, 0, 0), some (.iadd, 1, 0, 0, 0, 0), some (.iaload, 1, 0, 0, 0, 0), some (.aload_n 0, 1, 0, 0, 0, 0), some (.iload_n 3, 1, 0, 0, 0, 0), some (.iconst 4, 1, 0, 0, 0, 0), some (.iadd, 1, 0, 0, 0, 0), some (.iaload, 1, 0, 0, 0, 0), some (.aload_n 0, 1, 0, 0, 0, 0), some (.iload_n 3, 1, 0, 0, 0, 0), some (.iconst 5, 1, 0, 0, 0, 0), some (.iadd, 1, 0, 0, 0, 0), some (.iaload, 1, 0, 0, 0, 0), some (.invokevirtual 134, 3, 167, 0, 1038, 0), none, none, some (.if_icmp .eq 248, 3, 0, 0, 0, 0), none, none, some (.iconst 0, 1, 0, 0, 0, 0), some (.ireturn, 1, 0, 0, 0, 0), some (.aload_n 1, 1, 0, 0, 0, 0), some (.aload_n 0, 1, 0, 0, 0, 0), some (.iload_n 3, 1, 0, 0, 0, 0), some (.iconst 1, 1, 0, 0, 0, 0), some (.iadd, 1, 0, 0, 0, 0), some (.iaload, 1, 0, 0, 0, 0), some (.aload_n 0, 1, 0, 0, 0, 0), some (.iload_n 3, 1, 0, 0, 0, 0), some (.iconst 2, 1, 0, 0, 0, 0), some (.iadd, 1, 0, 0, 0, 0), some (.iaload, 1, 0, 0, 0, 0), some (.aload_n 0, 1, 0, 0, 0, 0), some (.iload_n 3, 1, 0, 0, 0, 0), some (.iconst 3, 1, 0, 0, 0, 0), some (.iadd, 1, 0, 0, 0, 0), some (.iaload, 1, 0, 0, 0, 0), some (.aload_n 0, 1, 0, 0, 0, 0), some (.iload_n 3, 1, 0, 0, 0, 0), some (.iconst 4, 1, 0, 0, 0, 0), some (.iadd, 1, 0, 0, 0, 0), some (.iaload, 1, 0, 0, 0, 0), some (.invokevirtual 135, 3, 90, 0, 705, 0), none, none, some (.aload_n 2, 1, 0, 0, 0, 0), some (.aload_n 0, 1, 0, 0, 0, 0), some (.iload_n 3, 1, 0, 0, 0, 0), some (.iconst 1, 1, 0, 0, 0, 0), some (.iadd, 1, 0, 0, 0, 0), some (.iaload, 1, 0, 0, 0, 0), some (.aload_n 0, 1, 0, 0, 0, 0), some (.iload_n 3, 1, 0, 0, 0, 0), some (.iconst 2, 1, 0, 0, 0, 0), some (.iadd, 1, 0, 0, 0, 0), some (.iaload, 1, 0, 0, 0, 0), some (.aload_n 0, 1, 0, 0, 0, 0), some (.iload_n 3, 1, 0, 0, 0, 0), some (.iconst 3, 1, 0, 0, 0, 0), some (.iadd, 1, 0, 0, 0, 0), some (.iaload, 1, 0, 0, 0, 0), some (.aload_n 0, 1, 0, 0, 0, 0), some (.iload_n 3, 1, 0, 0, 0, 0), some (.iconst 4, 1, 0, 0, 0, 0), some (.iadd, 1, 0, 0, 0, 0), some (.iaload, 1, 0, 0, 0, 0), some (.invokevirtual 139, 3, 168, 0, 1046, 0), none, none, some (.if_icmp .eq 195, 3, 0, 0, 0, 0), none, none, some (.iconst 0, 1, 0, 0, 0, 0), some (.ireturn, 1, 0, 0, 0, 0), some (.aload_n 1, 1, 0, 0, 0, 0), some (.aload_n 0, 1, 0, 0, 0, 0), some (.iload_n 3, 1, 0, 0, 0, 0), some (.iconst 1, 1, 0, 0, 0, 0), some (.iadd, 1, 0, 0, 0, 0), some (.iaload, 1, 0, 0, 0, 0), some (.aload_n 0, 1, 0, 0, 0, 0), some (.iload_n 3, 1, 0, 0, 0, 0), some (.iconst 2, 1, 0, 0, 0, 0), some (.iadd, 1, 0, 0, 0, 0), some (.iaload, 1, 0, 0, 0, 0), some (.aload_n 0, 1, 0, 0, 0, 0), some (.iload_n 3, 1, 0, 0, 0, 0), some (.iconst 3, 1, 0, 0, 0, 0), some (.iadd, 1, 0, 0, 0, 0), some (.iaload, 1, 0, 0, 0, 0), some (.aload_n 0, 1, 0, 0, 0, 0), some (.iload_n 3, 1, 0, 0, 0, 0), some (.iconst 4, 1, 0, 0, 0, 0), some (.iadd, 1, 0, 0, 0, 0), some (.iaload, 1, 0, 0, 0, 0), some (.aload_n 0, 1, 0, 0, 0, 0), some (.iload_n 3, 1, 0, 0, 0, 0), some (.iconst 5, 1, 0, 0, 0, 0), some (.iadd, 1, 0, 0, 0, 0), some (.iaload, 1, 0, 0, 0, 0), some (.aload_n 0, 1, 0, 0, 0, 0), some (.iload_n 3, 1, 0, 0, 0, 0), some (.bipush 6, 2, 0, 0, 0, 0), none, some (.iadd, 1, 0, 0, 0, 0), some (.iaload, 1, 0, 0, 0, 0), some (.aload_n 0, 1, 0, 0, 0, 0), some (.iload_n 3, 1, 0, 0, 0, 0), some (.bipush 7, 2, 0, 0, 0, 0), none, some (.iadd, 1, 0, 0, 0, 0), some (.iaload, 1, 0, 0, 0, 0), some (.invokevirtual 140, 3, 91, 0, 713, 0), none, none, some (.aload_n 2, 1, 0, 0, 0, 0), some (.aload_n 0, 1, 0, 0, 0, 0), some (.iload_n 3, 1, 0, 0, 0, 0), some (.iconst 1, 1, 0, 0, 0, 0), some (.iadd, 1, 0, 0, 0, 0), some (.iaload, 1, 0, 0, 0, 0), some (.aload_n 0, 1, 0, 0, 0, 0), some (.iload_n 3, 1, 0, 0, 0, 0), some (.iconst 2, 1, 0, 0, 0, 0), some (.iadd, 1, 0, 0, 0, 0), some (.iaload, 1, 0, 0, 0, 0), some (.aload_n 0, 1, 0, 0, 0, 0), some (.iload_n 3, 1, 0, 0, 0, 0), some (.iconst 3, 1, 0, 0, 0, 0), some (.iadd, 1, 0, 0, 0, 0), some (.iaload, 1, 0, 0, 0, 0), some (.aload_n 0, 1, 0, 0, 0, 0), some (.iload_n 3, 1, 0, 0, 0, 0), some (.iconst 4, 1, 0, 0, 0, 0), some (.iadd, 1, 0, 0, 0, 0), some (.iaload, 1, 0, 0, 0, 0), some (.aload_n 0, 1, 0, 0, 0, 0), some (.iload_n 3, 1, 0, 0, 0, 0), some (.iconst 5, 1, 0, 0, 0, 0), some (.iadd, 1, 0, 0, 0, 0), some (.iaload, 1, 0, 0, 0, 0), some (.aload_n 0, 1, 0, 0, 0, 0), some (.iload_n 3, 1, 0, 0, 0, 0), some (.bipush 6, 2, 0, 0, 0, 0), none, some (.iadd, 1, 0, 0, 0, 0), some (.iaload, 1, 0, 0, 0, 0), some (.aload_n 0, 1, 0, 0, 0, 0), some (.iload_n 3, 1, 0, 0, 0, 0), some (.bipush 7, 2, 0, 0, 0, 0), none, some (.iadd, 1, 0, 0, 0, 0), some (.iaload, 1, 0, 0, 0, 0), some (.invokevirtual 144, 3, 170, 0, 1050, 0), none, none, some (.if_icmp .eq 108, 3, 0, 0, 0, 0), none, none, some (.iconst 0, 1, 0, 0, 0, 0), some (.ireturn, 1, 0, 0, 0, 0), some (.aload_n 1, 1, 0, 0, 0, 0), some (.aload_n 0, 1, 0, 0, 0, 0), some (.iload_n 3, 1, 0, 0, 0, 0), some (.iconst 1, 1, 0, 0, 0, 0), some (.iadd, 1, 0, 0, 0, 0), some (.iaload, 1, 0, 0, 0, 0), some (.aload_n 0, 1, 0, 0, 0, 0), some (.iload_n 3, 1, 0, 0, 0, 0), some (.iconst 2, 1, 0, 0, 0, 0), some (.iadd, 1, 0, 0, 0, 0), some (.iaload, 1, 0, 0, 0, 0), some (.aload_n 0, 1, 0, 0, 0, 0), some (.iload_n 3, 1, 0, 0, 0, 0), some (.iconst 3, 1, 0, 0, 0, 0), some (.iadd, 1, 0, 0, 0, 0), some (.iaload, 1, 0, 0, 0, 0), some (.aload_n 0, 1, 0, 0, 0, 0), some (.iload_n 3, 1, 0, 0, 0, 0), some (.iconst 4, 1, 0, 0, 0, 0), some (.iadd, 1, 0, 0, 0, 0), some (.iaload, 1, 0, 0, 0, 0), some (.invokevirtual 145, 3, 92, 0, 727, 0), none, none, some (.aload_n 2, 1, 0, 0, 0, 0), some (.aload_n 0, 1, 0, 0, 0, 0), some (.iload_n 3, 1, 0, 0, 0, 0), some (.iconst 1, 1, 0, 0, 0, 0), some (.iadd, 1, 0, 0, 0, 0), some (.iaload, 1, 0, 0, 0, 0), some (.aload_n 0, 1, 0, 0, 0, 0), some (.iload_n 3, 1, 0, 0, 0, 0), some (.iconst 2, 1, 0, 0, 0, 0), some (.iadd, 1, 0, 0, 0, 0), some (.iaload, 1, 0, 0, 0, 0), some (.aload_n 0, 1, 0, 0, 0, 0), some (.iload_n 3, 1, 0, 0, 0, 0), some (.iconst 3, 1, 0, 0, 0, 0), some (.iadd, 1, 0, 0, 0, 0), some (.iaload, 1, 0, 0, 0, 0), some (.aload_n 0, 1, 0, 0, 0, 0), some (.iload_n 3, 1, 0, 0, 0, 0), some (.iconst 4, 1, 0, 0, 0, 0), some (.iadd, 1, 0, 0, 0, 0), some (.iaload, 1, 0, 0, 0, 0), some (.invokevirtual 148, 3, 171, 0, 1057, 0), none, none, some (.if_icmp .eq 55, 3, 0, 0, 0, 0), none, none, some (.iconst 0, 1, 0, 0, 0, 0), some (.ireturn, 1, 0, 0, 0, 0), some (.aload_n 1, 1, 0, 0, 0, 0), some (.aload_n 0, 1, 0, 0, 0, 0), some (.iload_n 3, 1, 0, 0, 0, 0), some (.iconst 1, 1, 0, 0, 0, 0), some (.iadd, 1, 0, 0, 0, 0), some (.iaload, 1, 0, 0, 0, 0), some (.invokevirtual 149, 3, 93, 0, 734, 0), none, none, some (.aload_n 2, 1, 0, 0, 0, 0), some (.aload_n 0, 1, 0, 0, 0, 0), some (.iload_n 3, 1, 0, 0, 0, 0), some (.iconst 1, 1, 0, 0, 0, 0), some (.iadd, 1, 0, 0, 0, 0), some (.iaload, 1, 0, 0, 0, 0), some (.invokevirtual 152, 3, 172, 0, 1061, 0), none, none, some (.if_icmp .eq 32, 3, 0, 0, 0, 0), none, none, some (.iconst 0, 1, 0, 0, 0, 0), some (.ireturn, 1, 0, 0, 0, 0), some (.aload_n 1, 1, 0, 0, 0, 0), some (.invokevirtual 153, 3, 94, 0, 739, 0), none, none, some (.aload_n 2, 1, 0, 0, 0, 0), some (.invokevirtual 157, 3, 173, 0, 1065, 0), none, none, some (.lcmp, 1, 0, 0, 0, 0), some (.ifCond .eq 18, 3, 0, 0, 0, 0), none, none, some (.iconst 0, 1, 0, 0, 0, 0), some (.ireturn, 1, 0, 0, 0, 0), some (.aload_n 1, 1, 0, 0, 0, 0), some (.invokevirtual 158, 3, 95, 0, 743, 0), none, none, some (.aload_n 2, 1, 0, 0, 0, 0), some (.invokevirtual 161, 3, 174, 0, 1069, 0), none, none, some (.if_icmp .eq 5, 3, 0, 0, 0, 0), none, none, some (.iconst 0, 1, 0, 0, 0, 0), some (.ireturn, 1, 0, 0, 0, 0), some (.iinc 3 8, 3, 0, 0, 0, 0), none, none, some (.goto (-1209), 3, 0, 0, 0, 0), none, none, some (.iconst 1, 1, 0, 0, 0, 0), some (.ireturn, 1, 0, 0, 0, 0)]
def mc_ct : List (List (Option mc_E)) := [ct_0, ct_1, ct_2, ct_3, ct_4, ct_5, ct_6, ct_7, ct_8, ct_9, ct_10, ct_11, ct_12, ct_13, ct_14, ct_15, ct_16, ct_17, ct_18, ct_19, ct_20, ct_21, ct_22, ct_23, ct_24, ct_25, ct_26, ct_27, ct_28, ct_29, ct_30, ct_31, ct_32, ct_33, ct_34, ct_35, ct_36, ct_37, ct_38, ct_39, ct_40, ct_41, ct_42, ct_43, ct_44, ct_45, ct_46, ct_47, ct_48, ct_49, ct_50, ct_51, ct_52, ct_53, ct_54, ct_55, ct_56, ct_57, ct_58, ct_59, ct_60, ct_61, ct_62, ct_63, ct_64, ct_65, ct_66, ct_67, ct_68, ct_69, ct_70, ct_71, ct_72, ct_73, ct_74, ct_75, ct_76, ct_77, ct_78, ct_79, ct_80, ct_81, ct_82, ct_83, ct_84, ct_85, ct_86, ct_87, ct_88, ct_89, ct_90, ct_91, ct_92, ct_93, ct_94, ct_95, ct_96, ct_97, ct_98, ct_99, ct_100, ct_101, ct_102, ct_103, ct_104, ct_105, ct_106, ct_107, ct_108, ct_109, ct_110, ct_111, ct_112, ct_113, ct_114, ct_115, ct_116, ct_117, ct_118, ct_119, ct_120, ct_121, ct_122, ct_123, ct_124, ct_125, ct_126, ct_127, ct_128, ct_129, ct_130, ct_131, ct_132, ct_133, ct_134, ct_135, ct_136, ct_137, ct_138, ct_139, ct_140, ct_141, ct_142, ct_143, ct_144, ct_145, ct_146, ct_147, ct_148, ct_149, ct_150, ct_151, ct_152, ct_153, ct_154, ct_155, ct_156, ct_157, ct_158, ct_159, ct_160, ct_161, ct_162, ct_163, ct_164, ct_165, ct_166, ct_167, ct_168, ct_169, ct_170, ct_171, ct_172, ct_173, ct_174, ct_175, ct_176, ct_177, ct_178, ct_179, ct_180]
/-- a method: its class, name, bytes, locals, return type, static, parameters, rank; places of words: code, initialized, static or instance, selects -/
abbrev mc_M : Type := Nat × MethodName × ByteArray × Nat × Option FieldType × Bool × Nat × Nat × Nat × Nat × Nat × Nat
def mc_mt : List mc_M := [(0, yX0_init, cX0_init, 1, none, false, 0, 2, 75, 46, 74, 9999),
  (0, yX0_layOut, cX0_layOut, 5, none, false, 2, 3, 262, 46, 260, 261),
  (0, yX0_markRim, cX0_markRim, 3, none, false, 2, 1, 266, 46, 265, 0),
  (0, yX0_fieldAt, cX0_fieldAt, 4, (some .int), false, 2, 1, 270, 46, 269, 1),
  (0, yX0_addJoint, cX0_addJoint, 5, none, false, 4, 2, 274, 46, 273, 2),
  (0, yX0_isOnRim, cX0_isOnRim, 2, (some .boolean), false, 1, 1, 329, 46, 327, 328),
  (1, yX1_init, cX1_init, 2, none, false, 0, 3, 181, 48, 180, 9999),
  (1, yX1_keep, cX1_keep, 2, none, false, 1, 3, 337, 48, 335, 336),
  (1, yX1_giveBack, cX1_giveBack, 2, none, false, 1, 3, 471, 48, 469, 470),
  (1, yX1_forget, cX1_forget, 1, none, false, 0, 1, 317, 48, 315, 316),
  (2, yX2_init, cX2_init, 1, none, false, 0, 2, 201, 49, 200, 9999),
  (2, yX2_survey, cX2_survey, 3, none, false, 1, 4, 580, 49, 578, 579),
  (2, yX2_addNeedle, cX2_addNeedle, 11, none, false, 2, 2, 587, 49, 586, 12),
  (2, yX2_mayBe, cX2_mayBe, 2, (some .boolean), false, 1, 1, 599, 49, 598, 13),
  (2, yX2_countWith, cX2_countWith, 4, (some .int), false, 1, 2, 607, 49, 605, 606),
  (2, yX2_pick, cX2_pick, 5, (some .int), false, 2, 2, 615, 49, 613, 614),
  (2, yX2_nextAfter, cX2_nextAfter, 4, (some .int), false, 1, 2, 594, 49, 592, 593),
  (2, yX2_agreement, cX2_agreement, 7, (some .int), false, 2, 2, 623, 49, 621, 622),
  (3, yX3_init, cX3_init, 1, none, false, 0, 2, 228, 50, 227, 9999),
  (3, yX3_between, cX3_between, 3, (some .int), false, 2, 1, 535, 50, 533, 534),
  (3, yX3_measure, cX3_measure, 3, none, false, 1, 4, 525, 50, 523, 524),
  (3, yX3_shortenBy, cX3_shortenBy, 5, none, false, 2, 3, 541, 50, 540, 9),
  (3, yX3_shorten, cX3_shorten, 5, none, false, 3, 2, 531, 50, 530, 8),
  (3, yX3_cheapestOf, cX3_cheapestOf, 3, (some .int), false, 1, 3, 550, 50, 548, 549),
  (3, yX3_cheapestOfSet, cX3_cheapestOfSet, 6, (some .int), false, 1, 2, 560, 50, 559, 10),
  (3, yX3_lowestIn, cX3_lowestIn, 2, (some .int), true, 1, 1, 563, 50, 562, 9999),
  (4, yX4_init, cX4_init, 1, none, false, 0, 3, 69, 45, 68, 9999),
  (4, yX4_arrangements, cX4_arrangements, 1, (some .int), false, 0, 1, 453, 45, 451, 452),
  (4, yX4_bitOf, cX4_bitOf, 2, (some .int), false, 1, 1, 349, 45, 347, 348),
  (4, yX4_bitIn, cX4_bitIn, 3, (some .int), false, 2, 1, 357, 45, 355, 356),
  (4, yX4_withBit, cX4_withBit, 4, (some .int), false, 3, 2, 361, 45, 359, 360),
  (4, yX4_isHeld, cX4_isHeld, 3, (some .boolean), false, 1, 2, 379, 45, 377, 378),
  (4, yX4_heldBits, cX4_heldBits, 3, (some .int), false, 0, 3, 388, 45, 386, 387),
  (4, yX4_pointing, cX4_pointing, 2, (some .int), false, 0, 4, 384, 45, 382, 383),
  (4, yX4_countOf, cX4_countOf, 4, (some .int), false, 1, 1, 401, 45, 399, 400),
  (4, yX4_amountOf, cX4_amountOf, 2, (some .int), false, 1, 2, 407, 45, 405, 406),
  (4, yX4_isUnmet, cX4_isUnmet, 5, (some .boolean), false, 2, 2, 397, 45, 395, 396),
  (4, yX4_strainOf, cX4_strainOf, 4, (some .int), false, 1, 3, 426, 45, 424, 425),
  (4, yX4_strainNow, cX4_strainNow, 1, (some .int), false, 0, 5, 422, 45, 420, 421),
  (4, yX4_touches, cX4_touches, 3, (some .boolean), false, 2, 1, 393, 45, 391, 392),
  (4, yX4_moreByTurning, cX4_moreByTurning, 5, (some .int), false, 1, 5, 375, 45, 373, 374),
  (4, yX4_firstToRelax, cX4_firstToRelax, 2, (some .int), false, 0, 6, 462, 45, 460, 461),
  (4, yX4_turnOver, cX4_turnOver, 2, none, false, 1, 2, 414, 45, 412, 413),
  (4, yX4_negateWantsAround, cX4_negateWantsAround, 3, none, false, 1, 2, 430, 45, 428, 429),
  (4, yX4_troubledFields, cX4_troubledFields, 3, (some .int), false, 0, 2, 517, 45, 515, 516),
  (5, yX5_init, cX5_init, 1, none, false, 0, 2, 136, 47, 135, 9999),
  (5, yX5_reset, cX5_reset, 1, none, false, 0, 2, 310, 47, 308, 309),
  (5, yX5_takeOver, cX5_takeOver, 2, none, false, 1, 2, 341, 47, 339, 340),
  (6, yX6_init, cX6_init, 1, none, false, 0, 2, 242, 51, 241, 9999),
  (6, yX6_isAbsent, cX6_isAbsent, 1, (some .boolean), false, 0, 1, 667, 51, 665, 666),
  (6, yX6_begin, cX6_begin, 3, none, false, 2, 2, 654, 51, 652, 653),
  (6, yX6_lacksRow, cX6_lacksRow, 2, (some .boolean), false, 1, 1, 671, 51, 669, 670),
  (6, yX6_isMissing, cX6_isMissing, 2, (some .boolean), false, 1, 1, 696, 51, 694, 695),
  (6, yX6_renewRow, cX6_renewRow, 4, none, false, 2, 2, 675, 51, 673, 674),
  (6, yX6_placeOf, cX6_placeOf, 3, (some .int), false, 2, 1, 679, 51, 677, 678),
  (6, yX6_numberAt, cX6_numberAt, 3, (some .int), false, 2, 2, 712, 51, 710, 711),
  (6, yX6_findingAt, cX6_findingAt, 3, (some .int), false, 2, 2, 691, 51, 689, 690),
  (6, yX6_lacksRange, cX6_lacksRange, 4, (some .boolean), false, 3, 1, 724, 51, 722, 723),
  (6, yX6_write, cX6_write, 4, none, false, 3, 2, 700, 51, 698, 699),
  (6, yX6_asSorted, cX6_asSorted, 2, (some .int), false, 1, 1, 704, 51, 703, 17),
  (7, yX7_init, cX7_init, 2, none, false, 0, 4, 61, 44, 60, 9999),
  (7, yX7_plate, cX7_plate, 3, (some .int), false, 2, 4, 306, 44, 304, 305),
  (7, yX7_kind, cX7_kind, 4, (some .int), false, 2, 5, 321, 44, 319, 320),
  (7, yX7_tell, cX7_tell, 4, (some .int), false, 2, 5, 353, 44, 351, 352),
  (7, yX7_let, cX7_let, 4, (some .int), false, 2, 5, 366, 44, 364, 365),
  (7, yX7_turn, cX7_turn, 3, (some .int), false, 1, 6, 370, 44, 368, 369),
  (7, yX7_gauge, cX7_gauge, 3, (some .int), false, 1, 6, 418, 44, 416, 417),
  (7, yX7_want, cX7_want, 4, (some .int), false, 2, 5, 434, 44, 432, 433),
  (7, yX7_arrange, cX7_arrange, 3, (some .int), false, 1, 6, 445, 44, 443, 444),
  (7, yX7_one, cX7_one, 3, (some .int), false, 0, 7, 458, 44, 456, 457),
  (7, yX7_undo, cX7_undo, 1, (some .int), false, 0, 4, 467, 44, 465, 466),
  (7, yX7_point, cX7_point, 3, (some .int), false, 1, 5, 476, 44, 474, 475),
  (7, yX7_worth, cX7_worth, 3, (some .int), false, 1, 2, 484, 44, 482, 483),
  (7, yX7_needle, cX7_needle, 3, (some .int), false, 2, 3, 491, 44, 489, 490),
  (7, yX7_joint, cX7_joint, 3, (some .int), false, 2, 5, 499, 44, 497, 498),
  (7, yX7_strain, cX7_strain, 1, (some .int), false, 0, 6, 505, 44, 503, 504),
  (7, yX7_troubled, cX7_troubled, 2, (some .int), false, 1, 3, 509, 44, 507, 508),
  (7, yX7_apart, cX7_apart, 3, (some .int), false, 2, 5, 521, 44, 519, 520),
  (7, yX7_paired, cX7_paired, 1, (some .int), false, 0, 5, 546, 44, 544, 545),
  (7, yX7_of, cX7_of, 2, (some .int), false, 1, 4, 567, 44, 565, 566),
  (7, yX7_least, cX7_least, 1, (some .int), false, 0, 6, 572, 44, 570, 571),
  (7, yX7_many, cX7_many, 2, (some .int), false, 0, 6, 603, 44, 601, 602),
  (7, yX7_best, cX7_best, 3, (some .int), false, 1, 6, 611, 44, 609, 610),
  (7, yX7_sure, cX7_sure, 4, (some .int), false, 1, 6, 619, 44, 617, 618),
  (7, yX7_counts, cX7_counts, 2, (some .int), false, 1, 6, 627, 44, 625, 626),
  (7, yX7_draw, cX7_draw, 3, (some .int), false, 2, 6, 631, 44, 629, 630),
  (7, yX7_above, cX7_above, 2, (some .int), false, 1, 6, 635, 44, 633, 634),
  (7, yX7_strip, cX7_strip, 4, (some .int), false, 3, 3, 640, 44, 638, 639),
  (7, yX7_row, cX7_row, 4, (some .int), false, 3, 3, 663, 44, 661, 662),
  (7, yX7_put, cX7_put, 7, (some .int), false, 5, 4, 683, 44, 681, 682),
  (7, yX7_item, cX7_item, 5, (some .int), false, 4, 4, 708, 44, 706, 707),
  (7, yX7_copy, cX7_copy, 11, (some .int), false, 7, 3, 716, 44, 714, 715),
  (7, yX7_read, cX7_read, 7, (some .int), false, 4, 5, 730, 44, 728, 729),
  (7, yX7_about, cX7_about, 2, (some .int), false, 1, 4, 737, 44, 735, 736),
  (7, yX7_trace, cX7_trace, 1, (some .long), false, 0, 1, 742, 44, 740, 741),
  (7, yX7_status, cX7_status, 1, (some .int), false, 0, 1, 746, 44, 744, 745),
  (7, yX7_isNoNeedle, cX7_isNoNeedle, 2, (some .boolean), false, 1, 1, 325, 44, 324, 3),
  (7, yX7_isNoJoint, cX7_isNoJoint, 2, (some .boolean), false, 1, 1, 438, 44, 437, 5),
  (7, yX7_isNoField, cX7_isNoField, 2, (some .boolean), false, 1, 1, 513, 44, 512, 7),
  (7, yX7_isNoArrangement, cX7_isNoArrangement, 2, (some .boolean), false, 1, 2, 449, 44, 448, 6),
  (7, yX7_isNoWant, cX7_isNoWant, 1, (some .boolean), true, 1, 1, 441, 44, 440, 9999),
  (7, yX7_isNoStrip, cX7_isNoStrip, 1, (some .boolean), true, 1, 1, 643, 44, 642, 9999),
  (7, yX7_isNoSort, cX7_isNoSort, 1, (some .boolean), true, 1, 1, 646, 44, 645, 9999),
  (7, yX7_asNumber, cX7_asNumber, 1, (some .int), true, 1, 1, 495, 44, 494, 9999),
  (7, yX7_refuse, cX7_refuse, 2, (some .int), false, 1, 1, 650, 44, 649, 14),
  (7, yX7_accept, cX7_accept, 2, (some .int), false, 1, 1, 659, 44, 658, 15),
  (7, yX7_findingOfPlace, cX7_findingOfPlace, 5, (some .int), false, 4, 3, 687, 44, 686, 16),
  (7, yX7_findingOfTwoRows, cX7_findingOfTwoRows, 4, (some .int), true, 4, 2, 719, 44, 718, 9999),
  (7, yX7_findingOfWants, cX7_findingOfWants, 5, (some .int), true, 3, 3, 733, 44, 732, 9999),
  (7, yX7_keepAndReshape, cX7_keepAndReshape, 1, none, false, 0, 4, 333, 44, 332, 4),
  (7, yX7_surveyed, cX7_surveyed, 1, (some (.object "NeedlePlate$Landscape")), false, 0, 5, 576, 44, 575, 11),
  (8, yX8_init, cX8_init, 1, none, false, 0, 2, 751, 53, 750, 9999),
  (8, yX8_in, cX8_in, 3, (some .boolean), true, 3, 1, 821, 53, 820, 9999),
  (8, yX8_needles, cX8_needles, 1, (some .int), false, 0, 1, 841, 53, 840, 21),
  (8, yX8_across, cX8_across, 1, (some .int), false, 0, 1, 829, 53, 828, 19),
  (8, yX8_joints, cX8_joints, 1, (some .int), false, 0, 2, 825, 53, 824, 18),
  (8, yX8_fields, cX8_fields, 1, (some .int), false, 0, 1, 951, 53, 950, 34),
  (8, yX8_isNeedle, cX8_isNeedle, 2, (some .boolean), false, 1, 2, 837, 53, 836, 20),
  (8, yX8_isJoint, cX8_isJoint, 2, (some .boolean), false, 1, 3, 901, 53, 900, 30),
  (8, yX8_keeps, cX8_keeps, 3, none, false, 0, 1, 845, 53, 844, 22),
  (8, yX8_isHeld, cX8_isHeld, 2, (some .boolean), false, 1, 1, 870, 53, 869, 25),
  (8, yX8_pointOf, cX8_pointOf, 2, (some .int), false, 1, 2, 866, 53, 865, 24),
  (8, yX8_worthOf, cX8_worthOf, 2, (some .int), false, 1, 1, 889, 53, 888, 29),
  (8, yX8_end, cX8_end, 5, (some .int), false, 2, 2, 878, 53, 877, 27),
  (8, yX8_fieldAt, cX8_fieldAt, 3, (some .int), false, 2, 2, 947, 53, 946, 33),
  (8, yX8_side, cX8_side, 6, (some .int), false, 2, 3, 943, 53, 942, 32),
  (8, yX8_countsOf, cX8_countsOf, 2, (some .int), false, 1, 3, 885, 53, 884, 28),
  (8, yX8_amountOf, cX8_amountOf, 3, (some .int), false, 1, 4, 955, 53, 954, 35),
  (8, yX8_bitOf, cX8_bitOf, 3, (some .int), true, 3, 1, 881, 53, 880, 9999),
  (8, yX8_strainOf, cX8_strainOf, 7, (some .int), false, 1, 4, 874, 53, 873, 26),
  (8, yX8_now, cX8_now, 3, (some .int), false, 0, 3, 862, 53, 861, 23),
  (8, yX8_mayBe, cX8_mayBe, 4, (some .boolean), false, 1, 2, 997, 53, 996, 39),
  (8, yX8_all, cX8_all, 1, (some .int), false, 0, 2, 909, 53, 908, 31),
  (8, yX8_plate, cX8_plate, 4, (some .int), false, 2, 3, 818, 53, 816, 817),
  (8, yX8_kind, cX8_kind, 6, (some .int), false, 2, 3, 833, 53, 831, 832),
  (8, yX8_tell, cX8_tell, 4, (some .int), false, 2, 3, 849, 53, 847, 848),
  (8, yX8_let, cX8_let, 4, (some .int), false, 2, 3, 853, 53, 851, 852),
  (8, yX8_turn, cX8_turn, 3, (some .int), false, 1, 5, 857, 53, 855, 856),
  (8, yX8_gauge, cX8_gauge, 4, (some .int), false, 1, 5, 893, 53, 891, 892),
  (8, yX8_want, cX8_want, 4, (some .int), false, 2, 4, 897, 53, 895, 896),
  (8, yX8_arrange, cX8_arrange, 3, (some .int), false, 1, 5, 905, 53, 903, 904),
  (8, yX8_one, cX8_one, 5, (some .int), false, 0, 5, 913, 53, 911, 912),
  (8, yX8_undo, cX8_undo, 3, (some .int), false, 0, 1, 917, 53, 915, 916),
  (8, yX8_point, cX8_point, 3, (some .int), false, 1, 3, 921, 53, 919, 920),
  (8, yX8_worth, cX8_worth, 2, (some .int), false, 1, 3, 928, 53, 926, 927),
  (8, yX8_needle, cX8_needle, 3, (some .int), false, 2, 3, 935, 53, 933, 934),
  (8, yX8_joint, cX8_joint, 9, (some .int), false, 2, 5, 939, 53, 937, 938),
  (8, yX8_strain, cX8_strain, 1, (some .int), false, 0, 5, 959, 53, 957, 958),
  (8, yX8_isTroubled, cX8_isTroubled, 4, (some .boolean), false, 1, 4, 967, 53, 966, 36),
  (8, yX8_troubled, cX8_troubled, 2, (some .int), false, 1, 5, 963, 53, 961, 962),
  (8, yX8_spreads, cX8_spreads, 7, none, false, 1, 5, 975, 53, 974, 37),
  (8, yX8_apart, cX8_apart, 3, (some .int), false, 2, 6, 971, 53, 969, 970),
  (8, yX8_paired, cX8_paired, 6, (some .int), false, 0, 6, 980, 53, 978, 979),
  (8, yX8_of, cX8_of, 2, (some .int), false, 1, 5, 985, 53, 983, 984),
  (8, yX8_leastOf, cX8_leastOf, 4, (some .int), false, 0, 5, 993, 53, 992, 38),
  (8, yX8_least, cX8_least, 1, (some .int), false, 0, 6, 989, 53, 987, 988),
  (8, yX8_find, cX8_find, 5, (some .int), false, 2, 5, 1005, 53, 1004, 40),
  (8, yX8_many, cX8_many, 1, (some .int), false, 0, 6, 1001, 53, 999, 1000),
  (8, yX8_best, cX8_best, 2, (some .int), false, 1, 6, 1009, 53, 1007, 1008),
  (8, yX8_sure, cX8_sure, 7, (some .int), false, 1, 6, 1013, 53, 1011, 1012),
  (8, yX8_counts, cX8_counts, 2, (some .int), false, 1, 6, 1017, 53, 1015, 1016),
  (8, yX8_draw, cX8_draw, 3, (some .int), false, 2, 6, 1021, 53, 1019, 1020),
  (8, yX8_above, cX8_above, 5, (some .int), false, 1, 5, 1025, 53, 1023, 1024),
  (8, yX8_no, cX8_no, 2, (some .int), false, 1, 1, 1033, 53, 1032, 41),
  (8, yX8_strip, cX8_strip, 5, (some .int), false, 3, 2, 1029, 53, 1027, 1028),
  (8, yX8_row, cX8_row, 5, (some .int), false, 3, 2, 1037, 53, 1035, 1036),
  (8, yX8_wrong, cX8_wrong, 6, (some .int), false, 4, 2, 1045, 53, 1044, 42),
  (8, yX8_put, cX8_put, 6, (some .int), false, 5, 3, 1041, 53, 1039, 1040),
  (8, yX8_item, cX8_item, 5, (some .int), false, 4, 3, 1049, 53, 1047, 1048),
  (8, yX8_areThere, cX8_areThere, 3, (some .boolean), true, 3, 1, 1056, 53, 1055, 9999),
  (8, yX8_copy, cX8_copy, 11, (some .int), false, 7, 2, 1053, 53, 1051, 1052),
  (8, yX8_read, cX8_read, 6, (some .int), false, 4, 3, 1060, 53, 1058, 1059),
  (8, yX8_about, cX8_about, 5, (some .int), false, 1, 5, 1064, 53, 1062, 1063),
  (8, yX8_trace, cX8_trace, 1, (some .long), false, 0, 1, 1068, 53, 1066, 1067),
  (8, yX8_status, cX8_status, 1, (some .int), false, 0, 1, 1072, 53, 1070, 1071),
  (9, yJ6_bitCount_0f7a4, cJ6_bitCount_0f7a4, 1, (some .int), true, 1, 1, 553, 56, 552, 9999),
  (10, yJ9_abs_0f7a4, cJ9_abs_0f7a4, 1, (some .int), true, 1, 1, 410, 52, 409, 9999),
  (10, yJ9_max_7cf53, cJ9_max_7cf53, 2, (some .int), true, 2, 1, 280, 52, 279, 9999),
  (10, yJ9_min_7cf53, cJ9_min_7cf53, 2, (some .int), true, 2, 1, 277, 52, 276, 9999),
  (11, yJ7_fill_53178, cJ7_fill_53178, 4, none, true, 2, 1, 313, 54, 312, 9999),
  (12, yL_law, cL_law, 4, (some .boolean), true, 1, 8, 0, 43, 0, 9999)]
def mc_cn : List String := [RX0, RX1, RX2, RX3, RX4, RX5, RX6, RX7, RX8, RJ6, RJ9, RJ7, RL]
end
section
/-! what is told of a method -/
def mc_meth (mi : Nat) : mc_M := mc_mt.getD mi (0, yX0_init, cX0_init, 0, none, true, 0, 0, 0, 0, 0, 0)
def mc_own (mi : Nat) : Nat := (mc_meth mi).1
def mc_y (mi : Nat) : MethodName := (mc_meth mi).2.1
def mc_by (mi : Nat) : ByteArray := (mc_meth mi).2.2.1
def mc_ml (mi : Nat) : Nat := (mc_meth mi).2.2.2.1
def mc_rt (mi : Nat) : Option FieldType := (mc_meth mi).2.2.2.2.1
def mc_stc (mi : Nat) : Bool := (mc_meth mi).2.2.2.2.2.1
def mc_np (mi : Nat) : Nat := (mc_meth mi).2.2.2.2.2.2.1
def mc_rk (mi : Nat) : Nat := (mc_meth mi).2.2.2.2.2.2.2.1
def mc_nm (own : Nat) : String := mc_cn.getD own ""
end
section
/-! the tables are as the claim's words and bytes have them: by program -/
def mc_T (ci : Nat) : u_T := (vwCl.getD ci (RX0, TX0, 10)).2.1
def mc_N (ci : Nat) : Nat := (vwCl.getD ci (RX0, TX0, 10)).2.2
def mc_sn (i : Nat) : String := match i with
  | 0 => "WORTHS"
  | 1 => "POINT_TRACES"
  | _ => "WORTH_TRACES"
def mc_an (t : Nat) : String := match t with
  | 2 => RX5
  | _ => RX6
def mc_wd (E : mc_E) : Option Cond := lw_tbl[E.2.2.2.2.1]?
def mc_jmp (pc : Nat) (off : Int) : Bool := decide (0 ≤ (pc : Int) + off)
def mc_lk (own mi pc : Nat) (E : mc_E) : Bool := match E.1 with
  | .getfield i => decide (mc_wd E = some (Cond.fieldLink (mc_nm own) i (mc_T E.2.2.1 E.2.2.2.1).1 (mc_T E.2.2.1 E.2.2.2.1).2.1 (mc_T E.2.2.1 E.2.2.2.1).2.2.1)) && decide (E.2.2.1 < 9) && decide (E.2.2.2.1 < mc_N E.2.2.1)
  | .putfield i => decide (mc_wd E = some (Cond.fieldLink (mc_nm own) i (mc_T E.2.2.1 E.2.2.2.1).1 (mc_T E.2.2.1 E.2.2.2.1).2.1 (mc_T E.2.2.1 E.2.2.2.1).2.2.1)) && decide (E.2.2.1 < 9) && decide (E.2.2.2.1 < mc_N E.2.2.1) && (!(mc_T E.2.2.1 E.2.2.2.1).2.2.2 || (decide ((mc_y mi).name = "<init>") && decide ((mc_T E.2.2.1 E.2.2.2.1).1 = mc_nm own)))
  | .getstatic i => (if E.2.2.2.1 = 0 then decide (mc_wd E = some (Cond.fieldLink (mc_nm own) i "NeedlePlate" (mc_sn E.2.2.1) "[I")) else decide (mc_wd E = some (Cond.fieldLinkNest (mc_nm own) i "NeedlePlate" (mc_sn E.2.2.1) "[I" "NeedlePlate"))) && decide (E.2.2.1 < 3)
  | .ldc i => decide (mc_wd E = some (Cond.constant (mc_nm own) i (Int32.ofInt E.2.2.2.2.2)))
  | .ldc_w i => decide (mc_wd E = some (Cond.constant (mc_nm own) i (Int32.ofInt E.2.2.2.2.2)))
  | .ldc2_w i => decide (mc_wd E = some (Cond.constantLong (mc_nm own) i (Int64.ofInt E.2.2.2.2.2)))
  | .new i => decide (mc_wd E = some (Cond.classLink (mc_nm own) i (mc_nm E.2.2.1))) && decide (E.2.2.1 < 9)
  | .newarray t => decide ((E.2.2.1 = 0 ∧ t = .int) ∨ (E.2.2.1 = 1 ∧ t = .boolean))
  | .anewarray i => decide (mc_wd E = some (Cond.classLink (mc_nm own) i (mc_an E.2.2.1))) && decide (E.2.2.1 = 2 ∨ E.2.2.1 = 3)
  | .invokespecial i => if E.2.2.1 = 999 then decide (mc_wd E = some (Cond.methodLink (mc_nm own) i Lib.objectInit)) && decide (2 ≤ mc_rk mi)
    else (if E.2.2.2.1 = 0 then decide (mc_wd E = some (Cond.methodLink (mc_nm own) i (mc_y E.2.2.1))) else decide (mc_wd E = some (Cond.methodLinkNest (mc_nm own) i (mc_y E.2.2.1) "NeedlePlate"))) && decide (E.2.2.1 < mc_mt.length) && decide (mc_rk E.2.2.1 < mc_rk mi) && decide ((mc_y E.2.2.1).name = "<init>") && !mc_stc E.2.2.1 && decide (mc_rt E.2.2.1 = none)
  | .invokevirtual i => decide (mc_wd E = some (Cond.methodLink (mc_nm own) i (mc_y E.2.2.1))) && decide (E.2.2.1 < mc_mt.length) && decide (mc_rk E.2.2.1 < mc_rk mi) && !mc_stc E.2.2.1 && decide (mc_own E.2.2.1 < 9) && decide ((mc_y E.2.2.1).name ≠ "<init>")
  | .invokestatic i => if E.2.2.1 = 998 then decide (mc_wd E = some (Cond.methodLink (mc_nm own) i arraycopyName)) && decide (2 ≤ mc_rk mi)
    else decide (mc_wd E = some (Cond.methodLink (mc_nm own) i (mc_y E.2.2.1))) && decide (E.2.2.1 < mc_mt.length) && decide (mc_rk E.2.2.1 < mc_rk mi) && mc_stc E.2.2.1
  | .ifCond _ off => mc_jmp pc off
  | .if_icmp _ off => mc_jmp pc off
  | .goto off => mc_jmp pc off
  | .tableswitch d _ _ _ => mc_jmp pc d
  | .lookupswitch _ ps => (ps.toList.zip (ps.toList.drop 1)).all (fun (a, next) => a.1 < next.1)
  | _ => true
def mc_ck (own mi : Nat) (cc : ByteArray) (q : Option mc_E × Nat) : Bool := match q.1 with
  | some E => decide (decode cc q.2 = .ok (E.1, E.2.1)) && mc_lk own mi q.2 E
  | none => true
end
section
set_option maxRecDepth 100000 in
theorem ck_0 : (ct_0.zipIdx.all (mc_ck 0 0 cX0_init)) = true := by decide +kernel
set_option maxRecDepth 100000 in
theorem ck_1 : (ct_1.zipIdx.all (mc_ck 0 1 cX0_layOut)) = true := by decide +kernel
set_option maxRecDepth 100000 in
theorem ck_2 : (ct_2.zipIdx.all (mc_ck 0 2 cX0_markRim)) = true := by decide +kernel
set_option maxRecDepth 100000 in
theorem ck_3 : (ct_3.zipIdx.all (mc_ck 0 3 cX0_fieldAt)) = true := by decide +kernel
set_option maxRecDepth 100000 in
theorem ck_4 : (ct_4.zipIdx.all (mc_ck 0 4 cX0_addJoint)) = true := by decide +kernel
set_option maxRecDepth 100000 in
theorem ck_5 : (ct_5.zipIdx.all (mc_ck 0 5 cX0_isOnRim)) = true := by decide +kernel
set_option maxRecDepth 100000 in
theorem ck_6 : (ct_6.zipIdx.all (mc_ck 1 6 cX1_init)) = true := by decide +kernel
set_option maxRecDepth 100000 in
theorem ck_7 : (ct_7.zipIdx.all (mc_ck 1 7 cX1_keep)) = true := by decide +kernel
set_option maxRecDepth 100000 in
theorem ck_8 : (ct_8.zipIdx.all (mc_ck 1 8 cX1_giveBack)) = true := by decide +kernel
set_option maxRecDepth 100000 in
theorem ck_9 : (ct_9.zipIdx.all (mc_ck 1 9 cX1_forget)) = true := by decide +kernel
set_option maxRecDepth 100000 in
theorem ck_10 : (ct_10.zipIdx.all (mc_ck 2 10 cX2_init)) = true := by decide +kernel
set_option maxRecDepth 100000 in
theorem ck_11 : (ct_11.zipIdx.all (mc_ck 2 11 cX2_survey)) = true := by decide +kernel
set_option maxRecDepth 100000 in
theorem ck_12 : (ct_12.zipIdx.all (mc_ck 2 12 cX2_addNeedle)) = true := by decide +kernel
set_option maxRecDepth 100000 in
theorem ck_13 : (ct_13.zipIdx.all (mc_ck 2 13 cX2_mayBe)) = true := by decide +kernel
set_option maxRecDepth 100000 in
theorem ck_14 : (ct_14.zipIdx.all (mc_ck 2 14 cX2_countWith)) = true := by decide +kernel
set_option maxRecDepth 100000 in
theorem ck_15 : (ct_15.zipIdx.all (mc_ck 2 15 cX2_pick)) = true := by decide +kernel
set_option maxRecDepth 100000 in
theorem ck_16 : (ct_16.zipIdx.all (mc_ck 2 16 cX2_nextAfter)) = true := by decide +kernel
set_option maxRecDepth 100000 in
theorem ck_17 : (ct_17.zipIdx.all (mc_ck 2 17 cX2_agreement)) = true := by decide +kernel
set_option maxRecDepth 100000 in
theorem ck_18 : (ct_18.zipIdx.all (mc_ck 3 18 cX3_init)) = true := by decide +kernel
set_option maxRecDepth 100000 in
theorem ck_19 : (ct_19.zipIdx.all (mc_ck 3 19 cX3_between)) = true := by decide +kernel
set_option maxRecDepth 100000 in
theorem ck_20 : (ct_20.zipIdx.all (mc_ck 3 20 cX3_measure)) = true := by decide +kernel
set_option maxRecDepth 100000 in
theorem ck_21 : (ct_21.zipIdx.all (mc_ck 3 21 cX3_shortenBy)) = true := by decide +kernel
set_option maxRecDepth 100000 in
theorem ck_22 : (ct_22.zipIdx.all (mc_ck 3 22 cX3_shorten)) = true := by decide +kernel
set_option maxRecDepth 100000 in
theorem ck_23 : (ct_23.zipIdx.all (mc_ck 3 23 cX3_cheapestOf)) = true := by decide +kernel
set_option maxRecDepth 100000 in
theorem ck_24 : (ct_24.zipIdx.all (mc_ck 3 24 cX3_cheapestOfSet)) = true := by decide +kernel
set_option maxRecDepth 100000 in
theorem ck_25 : (ct_25.zipIdx.all (mc_ck 3 25 cX3_lowestIn)) = true := by decide +kernel
set_option maxRecDepth 100000 in
theorem ck_26 : (ct_26.zipIdx.all (mc_ck 4 26 cX4_init)) = true := by decide +kernel
set_option maxRecDepth 100000 in
theorem ck_27 : (ct_27.zipIdx.all (mc_ck 4 27 cX4_arrangements)) = true := by decide +kernel
set_option maxRecDepth 100000 in
theorem ck_28 : (ct_28.zipIdx.all (mc_ck 4 28 cX4_bitOf)) = true := by decide +kernel
set_option maxRecDepth 100000 in
theorem ck_29 : (ct_29.zipIdx.all (mc_ck 4 29 cX4_bitIn)) = true := by decide +kernel
set_option maxRecDepth 100000 in
theorem ck_30 : (ct_30.zipIdx.all (mc_ck 4 30 cX4_withBit)) = true := by decide +kernel
set_option maxRecDepth 100000 in
theorem ck_31 : (ct_31.zipIdx.all (mc_ck 4 31 cX4_isHeld)) = true := by decide +kernel
set_option maxRecDepth 100000 in
theorem ck_32 : (ct_32.zipIdx.all (mc_ck 4 32 cX4_heldBits)) = true := by decide +kernel
set_option maxRecDepth 100000 in
theorem ck_33 : (ct_33.zipIdx.all (mc_ck 4 33 cX4_pointing)) = true := by decide +kernel
set_option maxRecDepth 100000 in
theorem ck_34 : (ct_34.zipIdx.all (mc_ck 4 34 cX4_countOf)) = true := by decide +kernel
set_option maxRecDepth 100000 in
theorem ck_35 : (ct_35.zipIdx.all (mc_ck 4 35 cX4_amountOf)) = true := by decide +kernel
set_option maxRecDepth 100000 in
theorem ck_36 : (ct_36.zipIdx.all (mc_ck 4 36 cX4_isUnmet)) = true := by decide +kernel
set_option maxRecDepth 100000 in
theorem ck_37 : (ct_37.zipIdx.all (mc_ck 4 37 cX4_strainOf)) = true := by decide +kernel
set_option maxRecDepth 100000 in
theorem ck_38 : (ct_38.zipIdx.all (mc_ck 4 38 cX4_strainNow)) = true := by decide +kernel
set_option maxRecDepth 100000 in
theorem ck_39 : (ct_39.zipIdx.all (mc_ck 4 39 cX4_touches)) = true := by decide +kernel
set_option maxRecDepth 100000 in
theorem ck_40 : (ct_40.zipIdx.all (mc_ck 4 40 cX4_moreByTurning)) = true := by decide +kernel
set_option maxRecDepth 100000 in
theorem ck_41 : (ct_41.zipIdx.all (mc_ck 4 41 cX4_firstToRelax)) = true := by decide +kernel
set_option maxRecDepth 100000 in
theorem ck_42 : (ct_42.zipIdx.all (mc_ck 4 42 cX4_turnOver)) = true := by decide +kernel
set_option maxRecDepth 100000 in
theorem ck_43 : (ct_43.zipIdx.all (mc_ck 4 43 cX4_negateWantsAround)) = true := by decide +kernel
set_option maxRecDepth 100000 in
theorem ck_44 : (ct_44.zipIdx.all (mc_ck 4 44 cX4_troubledFields)) = true := by decide +kernel
set_option maxRecDepth 100000 in
theorem ck_45 : (ct_45.zipIdx.all (mc_ck 5 45 cX5_init)) = true := by decide +kernel
end
section
set_option maxRecDepth 100000 in
theorem ck_46 : (ct_46.zipIdx.all (mc_ck 5 46 cX5_reset)) = true := by decide +kernel
set_option maxRecDepth 100000 in
theorem ck_47 : (ct_47.zipIdx.all (mc_ck 5 47 cX5_takeOver)) = true := by decide +kernel
set_option maxRecDepth 100000 in
theorem ck_48 : (ct_48.zipIdx.all (mc_ck 6 48 cX6_init)) = true := by decide +kernel
set_option maxRecDepth 100000 in
theorem ck_49 : (ct_49.zipIdx.all (mc_ck 6 49 cX6_isAbsent)) = true := by decide +kernel
set_option maxRecDepth 100000 in
theorem ck_50 : (ct_50.zipIdx.all (mc_ck 6 50 cX6_begin)) = true := by decide +kernel
set_option maxRecDepth 100000 in
theorem ck_51 : (ct_51.zipIdx.all (mc_ck 6 51 cX6_lacksRow)) = true := by decide +kernel
set_option maxRecDepth 100000 in
theorem ck_52 : (ct_52.zipIdx.all (mc_ck 6 52 cX6_isMissing)) = true := by decide +kernel
set_option maxRecDepth 100000 in
theorem ck_53 : (ct_53.zipIdx.all (mc_ck 6 53 cX6_renewRow)) = true := by decide +kernel
set_option maxRecDepth 100000 in
theorem ck_54 : (ct_54.zipIdx.all (mc_ck 6 54 cX6_placeOf)) = true := by decide +kernel
set_option maxRecDepth 100000 in
theorem ck_55 : (ct_55.zipIdx.all (mc_ck 6 55 cX6_numberAt)) = true := by decide +kernel
set_option maxRecDepth 100000 in
theorem ck_56 : (ct_56.zipIdx.all (mc_ck 6 56 cX6_findingAt)) = true := by decide +kernel
set_option maxRecDepth 100000 in
theorem ck_57 : (ct_57.zipIdx.all (mc_ck 6 57 cX6_lacksRange)) = true := by decide +kernel
set_option maxRecDepth 100000 in
theorem ck_58 : (ct_58.zipIdx.all (mc_ck 6 58 cX6_write)) = true := by decide +kernel
set_option maxRecDepth 100000 in
theorem ck_59 : (ct_59.zipIdx.all (mc_ck 6 59 cX6_asSorted)) = true := by decide +kernel
set_option maxRecDepth 100000 in
theorem ck_60 : (ct_60.zipIdx.all (mc_ck 7 60 cX7_init)) = true := by decide +kernel
set_option maxRecDepth 100000 in
theorem ck_61 : (ct_61.zipIdx.all (mc_ck 7 61 cX7_plate)) = true := by decide +kernel
set_option maxRecDepth 100000 in
theorem ck_62 : (ct_62.zipIdx.all (mc_ck 7 62 cX7_kind)) = true := by decide +kernel
set_option maxRecDepth 100000 in
theorem ck_63 : (ct_63.zipIdx.all (mc_ck 7 63 cX7_tell)) = true := by decide +kernel
set_option maxRecDepth 100000 in
theorem ck_64 : (ct_64.zipIdx.all (mc_ck 7 64 cX7_let)) = true := by decide +kernel
set_option maxRecDepth 100000 in
theorem ck_65 : (ct_65.zipIdx.all (mc_ck 7 65 cX7_turn)) = true := by decide +kernel
set_option maxRecDepth 100000 in
theorem ck_66 : (ct_66.zipIdx.all (mc_ck 7 66 cX7_gauge)) = true := by decide +kernel
set_option maxRecDepth 100000 in
theorem ck_67 : (ct_67.zipIdx.all (mc_ck 7 67 cX7_want)) = true := by decide +kernel
set_option maxRecDepth 100000 in
theorem ck_68 : (ct_68.zipIdx.all (mc_ck 7 68 cX7_arrange)) = true := by decide +kernel
set_option maxRecDepth 100000 in
theorem ck_69 : (ct_69.zipIdx.all (mc_ck 7 69 cX7_one)) = true := by decide +kernel
set_option maxRecDepth 100000 in
theorem ck_70 : (ct_70.zipIdx.all (mc_ck 7 70 cX7_undo)) = true := by decide +kernel
set_option maxRecDepth 100000 in
theorem ck_71 : (ct_71.zipIdx.all (mc_ck 7 71 cX7_point)) = true := by decide +kernel
set_option maxRecDepth 100000 in
theorem ck_72 : (ct_72.zipIdx.all (mc_ck 7 72 cX7_worth)) = true := by decide +kernel
set_option maxRecDepth 100000 in
theorem ck_73 : (ct_73.zipIdx.all (mc_ck 7 73 cX7_needle)) = true := by decide +kernel
set_option maxRecDepth 100000 in
theorem ck_74 : (ct_74.zipIdx.all (mc_ck 7 74 cX7_joint)) = true := by decide +kernel
set_option maxRecDepth 100000 in
theorem ck_75 : (ct_75.zipIdx.all (mc_ck 7 75 cX7_strain)) = true := by decide +kernel
set_option maxRecDepth 100000 in
theorem ck_76 : (ct_76.zipIdx.all (mc_ck 7 76 cX7_troubled)) = true := by decide +kernel
set_option maxRecDepth 100000 in
theorem ck_77 : (ct_77.zipIdx.all (mc_ck 7 77 cX7_apart)) = true := by decide +kernel
set_option maxRecDepth 100000 in
theorem ck_78 : (ct_78.zipIdx.all (mc_ck 7 78 cX7_paired)) = true := by decide +kernel
set_option maxRecDepth 100000 in
theorem ck_79 : (ct_79.zipIdx.all (mc_ck 7 79 cX7_of)) = true := by decide +kernel
set_option maxRecDepth 100000 in
theorem ck_80 : (ct_80.zipIdx.all (mc_ck 7 80 cX7_least)) = true := by decide +kernel
set_option maxRecDepth 100000 in
theorem ck_81 : (ct_81.zipIdx.all (mc_ck 7 81 cX7_many)) = true := by decide +kernel
set_option maxRecDepth 100000 in
theorem ck_82 : (ct_82.zipIdx.all (mc_ck 7 82 cX7_best)) = true := by decide +kernel
set_option maxRecDepth 100000 in
theorem ck_83 : (ct_83.zipIdx.all (mc_ck 7 83 cX7_sure)) = true := by decide +kernel
set_option maxRecDepth 100000 in
theorem ck_84 : (ct_84.zipIdx.all (mc_ck 7 84 cX7_counts)) = true := by decide +kernel
set_option maxRecDepth 100000 in
theorem ck_85 : (ct_85.zipIdx.all (mc_ck 7 85 cX7_draw)) = true := by decide +kernel
set_option maxRecDepth 100000 in
theorem ck_86 : (ct_86.zipIdx.all (mc_ck 7 86 cX7_above)) = true := by decide +kernel
set_option maxRecDepth 100000 in
theorem ck_87 : (ct_87.zipIdx.all (mc_ck 7 87 cX7_strip)) = true := by decide +kernel
set_option maxRecDepth 100000 in
theorem ck_88 : (ct_88.zipIdx.all (mc_ck 7 88 cX7_row)) = true := by decide +kernel
set_option maxRecDepth 100000 in
theorem ck_89 : (ct_89.zipIdx.all (mc_ck 7 89 cX7_put)) = true := by decide +kernel
set_option maxRecDepth 100000 in
theorem ck_90 : (ct_90.zipIdx.all (mc_ck 7 90 cX7_item)) = true := by decide +kernel
set_option maxRecDepth 100000 in
theorem ck_91 : (ct_91.zipIdx.all (mc_ck 7 91 cX7_copy)) = true := by decide +kernel
end
section
set_option maxRecDepth 100000 in
theorem ck_92 : (ct_92.zipIdx.all (mc_ck 7 92 cX7_read)) = true := by decide +kernel
set_option maxRecDepth 100000 in
theorem ck_93 : (ct_93.zipIdx.all (mc_ck 7 93 cX7_about)) = true := by decide +kernel
set_option maxRecDepth 100000 in
theorem ck_94 : (ct_94.zipIdx.all (mc_ck 7 94 cX7_trace)) = true := by decide +kernel
set_option maxRecDepth 100000 in
theorem ck_95 : (ct_95.zipIdx.all (mc_ck 7 95 cX7_status)) = true := by decide +kernel
set_option maxRecDepth 100000 in
theorem ck_96 : (ct_96.zipIdx.all (mc_ck 7 96 cX7_isNoNeedle)) = true := by decide +kernel
set_option maxRecDepth 100000 in
theorem ck_97 : (ct_97.zipIdx.all (mc_ck 7 97 cX7_isNoJoint)) = true := by decide +kernel
set_option maxRecDepth 100000 in
theorem ck_98 : (ct_98.zipIdx.all (mc_ck 7 98 cX7_isNoField)) = true := by decide +kernel
set_option maxRecDepth 100000 in
theorem ck_99 : (ct_99.zipIdx.all (mc_ck 7 99 cX7_isNoArrangement)) = true := by decide +kernel
set_option maxRecDepth 100000 in
theorem ck_100 : (ct_100.zipIdx.all (mc_ck 7 100 cX7_isNoWant)) = true := by decide +kernel
set_option maxRecDepth 100000 in
theorem ck_101 : (ct_101.zipIdx.all (mc_ck 7 101 cX7_isNoStrip)) = true := by decide +kernel
set_option maxRecDepth 100000 in
theorem ck_102 : (ct_102.zipIdx.all (mc_ck 7 102 cX7_isNoSort)) = true := by decide +kernel
set_option maxRecDepth 100000 in
theorem ck_103 : (ct_103.zipIdx.all (mc_ck 7 103 cX7_asNumber)) = true := by decide +kernel
set_option maxRecDepth 100000 in
theorem ck_104 : (ct_104.zipIdx.all (mc_ck 7 104 cX7_refuse)) = true := by decide +kernel
set_option maxRecDepth 100000 in
theorem ck_105 : (ct_105.zipIdx.all (mc_ck 7 105 cX7_accept)) = true := by decide +kernel
set_option maxRecDepth 100000 in
theorem ck_106 : (ct_106.zipIdx.all (mc_ck 7 106 cX7_findingOfPlace)) = true := by decide +kernel
set_option maxRecDepth 100000 in
theorem ck_107 : (ct_107.zipIdx.all (mc_ck 7 107 cX7_findingOfTwoRows)) = true := by decide +kernel
set_option maxRecDepth 100000 in
theorem ck_108 : (ct_108.zipIdx.all (mc_ck 7 108 cX7_findingOfWants)) = true := by decide +kernel
set_option maxRecDepth 100000 in
theorem ck_109 : (ct_109.zipIdx.all (mc_ck 7 109 cX7_keepAndReshape)) = true := by decide +kernel
set_option maxRecDepth 100000 in
theorem ck_110 : (ct_110.zipIdx.all (mc_ck 7 110 cX7_surveyed)) = true := by decide +kernel
set_option maxRecDepth 100000 in
theorem ck_111 : (ct_111.zipIdx.all (mc_ck 8 111 cX8_init)) = true := by decide +kernel
set_option maxRecDepth 100000 in
theorem ck_112 : (ct_112.zipIdx.all (mc_ck 8 112 cX8_in)) = true := by decide +kernel
set_option maxRecDepth 100000 in
theorem ck_113 : (ct_113.zipIdx.all (mc_ck 8 113 cX8_needles)) = true := by decide +kernel
set_option maxRecDepth 100000 in
theorem ck_114 : (ct_114.zipIdx.all (mc_ck 8 114 cX8_across)) = true := by decide +kernel
set_option maxRecDepth 100000 in
theorem ck_115 : (ct_115.zipIdx.all (mc_ck 8 115 cX8_joints)) = true := by decide +kernel
set_option maxRecDepth 100000 in
theorem ck_116 : (ct_116.zipIdx.all (mc_ck 8 116 cX8_fields)) = true := by decide +kernel
set_option maxRecDepth 100000 in
theorem ck_117 : (ct_117.zipIdx.all (mc_ck 8 117 cX8_isNeedle)) = true := by decide +kernel
set_option maxRecDepth 100000 in
theorem ck_118 : (ct_118.zipIdx.all (mc_ck 8 118 cX8_isJoint)) = true := by decide +kernel
set_option maxRecDepth 100000 in
theorem ck_119 : (ct_119.zipIdx.all (mc_ck 8 119 cX8_keeps)) = true := by decide +kernel
set_option maxRecDepth 100000 in
theorem ck_120 : (ct_120.zipIdx.all (mc_ck 8 120 cX8_isHeld)) = true := by decide +kernel
set_option maxRecDepth 100000 in
theorem ck_121 : (ct_121.zipIdx.all (mc_ck 8 121 cX8_pointOf)) = true := by decide +kernel
set_option maxRecDepth 100000 in
theorem ck_122 : (ct_122.zipIdx.all (mc_ck 8 122 cX8_worthOf)) = true := by decide +kernel
set_option maxRecDepth 100000 in
theorem ck_123 : (ct_123.zipIdx.all (mc_ck 8 123 cX8_end)) = true := by decide +kernel
set_option maxRecDepth 100000 in
theorem ck_124 : (ct_124.zipIdx.all (mc_ck 8 124 cX8_fieldAt)) = true := by decide +kernel
set_option maxRecDepth 100000 in
theorem ck_125 : (ct_125.zipIdx.all (mc_ck 8 125 cX8_side)) = true := by decide +kernel
set_option maxRecDepth 100000 in
theorem ck_126 : (ct_126.zipIdx.all (mc_ck 8 126 cX8_countsOf)) = true := by decide +kernel
set_option maxRecDepth 100000 in
theorem ck_127 : (ct_127.zipIdx.all (mc_ck 8 127 cX8_amountOf)) = true := by decide +kernel
set_option maxRecDepth 100000 in
theorem ck_128 : (ct_128.zipIdx.all (mc_ck 8 128 cX8_bitOf)) = true := by decide +kernel
set_option maxRecDepth 100000 in
theorem ck_129 : (ct_129.zipIdx.all (mc_ck 8 129 cX8_strainOf)) = true := by decide +kernel
set_option maxRecDepth 100000 in
theorem ck_130 : (ct_130.zipIdx.all (mc_ck 8 130 cX8_now)) = true := by decide +kernel
set_option maxRecDepth 100000 in
theorem ck_131 : (ct_131.zipIdx.all (mc_ck 8 131 cX8_mayBe)) = true := by decide +kernel
set_option maxRecDepth 100000 in
theorem ck_132 : (ct_132.zipIdx.all (mc_ck 8 132 cX8_all)) = true := by decide +kernel
set_option maxRecDepth 100000 in
theorem ck_133 : (ct_133.zipIdx.all (mc_ck 8 133 cX8_plate)) = true := by decide +kernel
set_option maxRecDepth 100000 in
theorem ck_134 : (ct_134.zipIdx.all (mc_ck 8 134 cX8_kind)) = true := by decide +kernel
set_option maxRecDepth 100000 in
theorem ck_135 : (ct_135.zipIdx.all (mc_ck 8 135 cX8_tell)) = true := by decide +kernel
set_option maxRecDepth 100000 in
theorem ck_136 : (ct_136.zipIdx.all (mc_ck 8 136 cX8_let)) = true := by decide +kernel
set_option maxRecDepth 100000 in
theorem ck_137 : (ct_137.zipIdx.all (mc_ck 8 137 cX8_turn)) = true := by decide +kernel
end
section
set_option maxRecDepth 100000 in
theorem ck_138 : (ct_138.zipIdx.all (mc_ck 8 138 cX8_gauge)) = true := by decide +kernel
set_option maxRecDepth 100000 in
theorem ck_139 : (ct_139.zipIdx.all (mc_ck 8 139 cX8_want)) = true := by decide +kernel
set_option maxRecDepth 100000 in
theorem ck_140 : (ct_140.zipIdx.all (mc_ck 8 140 cX8_arrange)) = true := by decide +kernel
set_option maxRecDepth 100000 in
theorem ck_141 : (ct_141.zipIdx.all (mc_ck 8 141 cX8_one)) = true := by decide +kernel
set_option maxRecDepth 100000 in
theorem ck_142 : (ct_142.zipIdx.all (mc_ck 8 142 cX8_undo)) = true := by decide +kernel
set_option maxRecDepth 100000 in
theorem ck_143 : (ct_143.zipIdx.all (mc_ck 8 143 cX8_point)) = true := by decide +kernel
set_option maxRecDepth 100000 in
theorem ck_144 : (ct_144.zipIdx.all (mc_ck 8 144 cX8_worth)) = true := by decide +kernel
set_option maxRecDepth 100000 in
theorem ck_145 : (ct_145.zipIdx.all (mc_ck 8 145 cX8_needle)) = true := by decide +kernel
set_option maxRecDepth 100000 in
theorem ck_146 : (ct_146.zipIdx.all (mc_ck 8 146 cX8_joint)) = true := by decide +kernel
set_option maxRecDepth 100000 in
theorem ck_147 : (ct_147.zipIdx.all (mc_ck 8 147 cX8_strain)) = true := by decide +kernel
set_option maxRecDepth 100000 in
theorem ck_148 : (ct_148.zipIdx.all (mc_ck 8 148 cX8_isTroubled)) = true := by decide +kernel
set_option maxRecDepth 100000 in
theorem ck_149 : (ct_149.zipIdx.all (mc_ck 8 149 cX8_troubled)) = true := by decide +kernel
set_option maxRecDepth 100000 in
theorem ck_150 : (ct_150.zipIdx.all (mc_ck 8 150 cX8_spreads)) = true := by decide +kernel
set_option maxRecDepth 100000 in
theorem ck_151 : (ct_151.zipIdx.all (mc_ck 8 151 cX8_apart)) = true := by decide +kernel
set_option maxRecDepth 100000 in
theorem ck_152 : (ct_152.zipIdx.all (mc_ck 8 152 cX8_paired)) = true := by decide +kernel
set_option maxRecDepth 100000 in
theorem ck_153 : (ct_153.zipIdx.all (mc_ck 8 153 cX8_of)) = true := by decide +kernel
set_option maxRecDepth 100000 in
theorem ck_154 : (ct_154.zipIdx.all (mc_ck 8 154 cX8_leastOf)) = true := by decide +kernel
set_option maxRecDepth 100000 in
theorem ck_155 : (ct_155.zipIdx.all (mc_ck 8 155 cX8_least)) = true := by decide +kernel
set_option maxRecDepth 100000 in
theorem ck_156 : (ct_156.zipIdx.all (mc_ck 8 156 cX8_find)) = true := by decide +kernel
set_option maxRecDepth 100000 in
theorem ck_157 : (ct_157.zipIdx.all (mc_ck 8 157 cX8_many)) = true := by decide +kernel
set_option maxRecDepth 100000 in
theorem ck_158 : (ct_158.zipIdx.all (mc_ck 8 158 cX8_best)) = true := by decide +kernel
set_option maxRecDepth 100000 in
theorem ck_159 : (ct_159.zipIdx.all (mc_ck 8 159 cX8_sure)) = true := by decide +kernel
set_option maxRecDepth 100000 in
theorem ck_160 : (ct_160.zipIdx.all (mc_ck 8 160 cX8_counts)) = true := by decide +kernel
set_option maxRecDepth 100000 in
theorem ck_161 : (ct_161.zipIdx.all (mc_ck 8 161 cX8_draw)) = true := by decide +kernel
set_option maxRecDepth 100000 in
theorem ck_162 : (ct_162.zipIdx.all (mc_ck 8 162 cX8_above)) = true := by decide +kernel
set_option maxRecDepth 100000 in
theorem ck_163 : (ct_163.zipIdx.all (mc_ck 8 163 cX8_no)) = true := by decide +kernel
set_option maxRecDepth 100000 in
theorem ck_164 : (ct_164.zipIdx.all (mc_ck 8 164 cX8_strip)) = true := by decide +kernel
set_option maxRecDepth 100000 in
theorem ck_165 : (ct_165.zipIdx.all (mc_ck 8 165 cX8_row)) = true := by decide +kernel
set_option maxRecDepth 100000 in
theorem ck_166 : (ct_166.zipIdx.all (mc_ck 8 166 cX8_wrong)) = true := by decide +kernel
set_option maxRecDepth 100000 in
theorem ck_167 : (ct_167.zipIdx.all (mc_ck 8 167 cX8_put)) = true := by decide +kernel
set_option maxRecDepth 100000 in
theorem ck_168 : (ct_168.zipIdx.all (mc_ck 8 168 cX8_item)) = true := by decide +kernel
set_option maxRecDepth 100000 in
theorem ck_169 : (ct_169.zipIdx.all (mc_ck 8 169 cX8_areThere)) = true := by decide +kernel
set_option maxRecDepth 100000 in
theorem ck_170 : (ct_170.zipIdx.all (mc_ck 8 170 cX8_copy)) = true := by decide +kernel
set_option maxRecDepth 100000 in
theorem ck_171 : (ct_171.zipIdx.all (mc_ck 8 171 cX8_read)) = true := by decide +kernel
set_option maxRecDepth 100000 in
theorem ck_172 : (ct_172.zipIdx.all (mc_ck 8 172 cX8_about)) = true := by decide +kernel
set_option maxRecDepth 100000 in
theorem ck_173 : (ct_173.zipIdx.all (mc_ck 8 173 cX8_trace)) = true := by decide +kernel
set_option maxRecDepth 100000 in
theorem ck_174 : (ct_174.zipIdx.all (mc_ck 8 174 cX8_status)) = true := by decide +kernel
set_option maxRecDepth 100000 in
theorem ck_175 : (ct_175.zipIdx.all (mc_ck 9 175 cJ6_bitCount_0f7a4)) = true := by decide +kernel
set_option maxRecDepth 100000 in
theorem ck_176 : (ct_176.zipIdx.all (mc_ck 10 176 cJ9_abs_0f7a4)) = true := by decide +kernel
set_option maxRecDepth 100000 in
theorem ck_177 : (ct_177.zipIdx.all (mc_ck 10 177 cJ9_max_7cf53)) = true := by decide +kernel
set_option maxRecDepth 100000 in
theorem ck_178 : (ct_178.zipIdx.all (mc_ck 10 178 cJ9_min_7cf53)) = true := by decide +kernel
set_option maxRecDepth 100000 in
theorem ck_179 : (ct_179.zipIdx.all (mc_ck 11 179 cJ7_fill_53178)) = true := by decide +kernel
end
section
set_option maxRecDepth 100000 in
theorem ck_180_0 : (((ct_180.zipIdx).take 100).all (mc_ck 12 180 cL_law)) = true := by decide +kernel
set_option maxRecDepth 100000 in
theorem ck_180_1 : ((((ct_180.zipIdx).drop 100).take 100).all (mc_ck 12 180 cL_law)) = true := by decide +kernel
set_option maxRecDepth 100000 in
theorem ck_180_2 : (((((ct_180.zipIdx).drop 100).drop 100).take 100).all (mc_ck 12 180 cL_law)) = true := by decide +kernel
set_option maxRecDepth 100000 in
theorem ck_180_3 : ((((((ct_180.zipIdx).drop 100).drop 100).drop 100).take 100).all (mc_ck 12 180 cL_law)) = true := by decide +kernel
end
section
set_option maxRecDepth 100000 in
theorem ck_180_4 : (((((((ct_180.zipIdx).drop 100).drop 100).drop 100).drop 100).take 100).all (mc_ck 12 180 cL_law)) = true := by decide +kernel
set_option maxRecDepth 100000 in
theorem ck_180_5 : ((((((((ct_180.zipIdx).drop 100).drop 100).drop 100).drop 100).drop 100).take 100).all (mc_ck 12 180 cL_law)) = true := by decide +kernel
set_option maxRecDepth 100000 in
theorem ck_180_6 : (((((((((ct_180.zipIdx).drop 100).drop 100).drop 100).drop 100).drop 100).drop 100).take 100).all (mc_ck 12 180 cL_law)) = true := by decide +kernel
set_option maxRecDepth 100000 in
theorem ck_180_7 : ((((((((((ct_180.zipIdx).drop 100).drop 100).drop 100).drop 100).drop 100).drop 100).drop 100).take 100).all (mc_ck 12 180 cL_law)) = true := by decide +kernel
end
section
set_option maxRecDepth 100000 in
theorem ck_180_8 : (((((((((((ct_180.zipIdx).drop 100).drop 100).drop 100).drop 100).drop 100).drop 100).drop 100).drop 100).take 100).all (mc_ck 12 180 cL_law)) = true := by decide +kernel
set_option maxRecDepth 100000 in
theorem ck_180_9 : ((((((((((((ct_180.zipIdx).drop 100).drop 100).drop 100).drop 100).drop 100).drop 100).drop 100).drop 100).drop 100).take 100).all (mc_ck 12 180 cL_law)) = true := by decide +kernel
set_option maxRecDepth 100000 in
theorem ck_180_10 : (((((((((((((ct_180.zipIdx).drop 100).drop 100).drop 100).drop 100).drop 100).drop 100).drop 100).drop 100).drop 100).drop 100).take 100).all (mc_ck 12 180 cL_law)) = true := by decide +kernel
set_option maxRecDepth 100000 in
theorem ck_180_11 : ((((((((((((((ct_180.zipIdx).drop 100).drop 100).drop 100).drop 100).drop 100).drop 100).drop 100).drop 100).drop 100).drop 100).drop 100).take 100).all (mc_ck 12 180 cL_law)) = true := by decide +kernel
end
section
set_option maxRecDepth 100000 in
theorem ck_180_12 : ((((((((((((((ct_180.zipIdx).drop 100).drop 100).drop 100).drop 100).drop 100).drop 100).drop 100).drop 100).drop 100).drop 100).drop 100).drop 100).all (mc_ck 12 180 cL_law)) = true := by decide +kernel
end
section
theorem mc_chunk {α : Type} (f : α → Bool) (l : List α) (n : Nat) (h1 : (l.take n).all f = true) (h2 : (l.drop n).all f = true) : l.all f = true := by
  rw [← List.take_append_drop n l, List.all_append, h1, h2]; rfl
theorem ck_180 : (ct_180.zipIdx.all (mc_ck 12 180 cL_law)) = true := mc_chunk _ _ 100 ck_180_0 (mc_chunk _ _ 100 ck_180_1 (mc_chunk _ _ 100 ck_180_2 (mc_chunk _ _ 100 ck_180_3 (mc_chunk _ _ 100 ck_180_4 (mc_chunk _ _ 100 ck_180_5 (mc_chunk _ _ 100 ck_180_6 (mc_chunk _ _ 100 ck_180_7 (mc_chunk _ _ 100 ck_180_8 (mc_chunk _ _ 100 ck_180_9 (mc_chunk _ _ 100 ck_180_10 (mc_chunk _ _ 100 ck_180_11 (ck_180_12))))))))))))
end
section
def mc_code (mi pc : Nat) : Option mc_E := (mc_ct.getD mi []).getD pc none
def mc_lnb (E : mc_E) : Bool := match E.1 with
  | .iconst _ => decide (E.2.1 = 1)
  | .lconst _ => decide (E.2.1 = 1)
  | .iload_n _ => decide (E.2.1 = 1)
  | .aload_n _ => decide (E.2.1 = 1)
  | .istore_n _ => decide (E.2.1 = 1)
  | .astore_n _ => decide (E.2.1 = 1)
  | .iadd => decide (E.2.1 = 1)
  | .isub => decide (E.2.1 = 1)
  | .imul => decide (E.2.1 = 1)
  | .iand => decide (E.2.1 = 1)
  | .ior => decide (E.2.1 = 1)
  | .ixor => decide (E.2.1 = 1)
  | .idiv => decide (E.2.1 = 1)
  | .irem => decide (E.2.1 = 1)
  | .ineg => decide (E.2.1 = 1)
  | .ishl => decide (E.2.1 = 1)
  | .ishr => decide (E.2.1 = 1)
  | .iushr => decide (E.2.1 = 1)
  | .i2l => decide (E.2.1 = 1)
  | .i2b => decide (E.2.1 = 1)
  | .i2s => decide (E.2.1 = 1)
  | .ladd => decide (E.2.1 = 1)
  | .lcmp => decide (E.2.1 = 1)
  | .dup => decide (E.2.1 = 1)
  | .iaload => decide (E.2.1 = 1)
  | .baload => decide (E.2.1 = 1)
  | .iastore => decide (E.2.1 = 1)
  | .bastore => decide (E.2.1 = 1)
  | .arraylength => decide (E.2.1 = 1)
  | .aaload => decide (E.2.1 = 1)
  | .aastore => decide (E.2.1 = 1)
  | .ireturn => decide (E.2.1 = 1)
  | .lreturn => decide (E.2.1 = 1)
  | .areturn => decide (E.2.1 = 1)
  | .return_ => decide (E.2.1 = 1)
  | .bipush _ => decide (E.2.1 = 2)
  | .ldc _ => decide (E.2.1 = 2)
  | .iload _ => decide (E.2.1 = 2)
  | .aload _ => decide (E.2.1 = 2)
  | .istore _ => decide (E.2.1 = 2)
  | .astore _ => decide (E.2.1 = 2)
  | .newarray _ => decide (E.2.1 = 2)
  | .sipush _ => decide (E.2.1 = 3)
  | .ldc_w _ => decide (E.2.1 = 3)
  | .ldc2_w _ => decide (E.2.1 = 3)
  | .iinc _ _ => decide (E.2.1 = 3)
  | .ifCond _ _ => decide (E.2.1 = 3)
  | .if_icmp _ _ => decide (E.2.1 = 3)
  | .goto _ => decide (E.2.1 = 3)
  | .getfield _ => decide (E.2.1 = 3)
  | .putfield _ => decide (E.2.1 = 3)
  | .getstatic _ => decide (E.2.1 = 3)
  | .new _ => decide (E.2.1 = 3)
  | .anewarray _ => decide (E.2.1 = 3)
  | .invokespecial _ => decide (E.2.1 = 3)
  | .invokevirtual _ => decide (E.2.1 = 3)
  | .invokestatic _ => decide (E.2.1 = 3)
  | _ => true
def mc_lno (o : Option mc_E) : Bool := match o with
  | some E => mc_lnb E
  | none => true
set_option maxRecDepth 100000 in
theorem ln_all : mc_ct.all (fun l => l.all mc_lno) = true := by decide +kernel
def mc_ckP (i : Nat) (l : List (Option mc_E)) : Prop := l.zipIdx.all (mc_ck (mc_own i) i (mc_by i)) = true
def mc_ckA : Nat → List (List (Option mc_E)) → Prop
  | _, [] => True
  | i, l :: ls => mc_ckP i l ∧ mc_ckA (i + 1) ls
theorem mc_ckA_at : ∀ (ls : List (List (Option mc_E))) (i k : Nat) (l : List (Option mc_E)), mc_ckA i ls → ls[k]? = some l → mc_ckP (i + k) l
  | [], _, _, _, _, h => by simp at h
  | l0 :: ls, i, 0, l, hA, h => by simp at h; subst h; exact hA.1
  | l0 :: ls, i, k + 1, l, hA, h => by
    have := mc_ckA_at ls (i + 1) k l hA.2 (by simpa using h)
    rw [show i + (k + 1) = i + 1 + k by omega]
    exact this
theorem ckk_0 : mc_ckP 0 ct_0 := ck_0
theorem ckk_1 : mc_ckP 1 ct_1 := ck_1
theorem ckk_2 : mc_ckP 2 ct_2 := ck_2
theorem ckk_3 : mc_ckP 3 ct_3 := ck_3
theorem ckk_4 : mc_ckP 4 ct_4 := ck_4
theorem ckk_5 : mc_ckP 5 ct_5 := ck_5
theorem ckk_6 : mc_ckP 6 ct_6 := ck_6
theorem ckk_7 : mc_ckP 7 ct_7 := ck_7
theorem ckk_8 : mc_ckP 8 ct_8 := ck_8
theorem ckk_9 : mc_ckP 9 ct_9 := ck_9
theorem ckk_10 : mc_ckP 10 ct_10 := ck_10
theorem ckk_11 : mc_ckP 11 ct_11 := ck_11
theorem ckk_12 : mc_ckP 12 ct_12 := ck_12
theorem ckk_13 : mc_ckP 13 ct_13 := ck_13
theorem ckk_14 : mc_ckP 14 ct_14 := ck_14
theorem ckk_15 : mc_ckP 15 ct_15 := ck_15
theorem ckk_16 : mc_ckP 16 ct_16 := ck_16
theorem ckk_17 : mc_ckP 17 ct_17 := ck_17
theorem ckk_18 : mc_ckP 18 ct_18 := ck_18
theorem ckk_19 : mc_ckP 19 ct_19 := ck_19
theorem ckk_20 : mc_ckP 20 ct_20 := ck_20
theorem ckk_21 : mc_ckP 21 ct_21 := ck_21
theorem ckk_22 : mc_ckP 22 ct_22 := ck_22
theorem ckk_23 : mc_ckP 23 ct_23 := ck_23
theorem ckk_24 : mc_ckP 24 ct_24 := ck_24
theorem ckk_25 : mc_ckP 25 ct_25 := ck_25
theorem ckk_26 : mc_ckP 26 ct_26 := ck_26
theorem ckk_27 : mc_ckP 27 ct_27 := ck_27
theorem ckk_28 : mc_ckP 28 ct_28 := ck_28
theorem ckk_29 : mc_ckP 29 ct_29 := ck_29
theorem ckk_30 : mc_ckP 30 ct_30 := ck_30
theorem ckk_31 : mc_ckP 31 ct_31 := ck_31
theorem ckk_32 : mc_ckP 32 ct_32 := ck_32
theorem ckk_33 : mc_ckP 33 ct_33 := ck_33
theorem ckk_34 : mc_ckP 34 ct_34 := ck_34
theorem ckk_35 : mc_ckP 35 ct_35 := ck_35
theorem ckk_36 : mc_ckP 36 ct_36 := ck_36
theorem ckk_37 : mc_ckP 37 ct_37 := ck_37
theorem ckk_38 : mc_ckP 38 ct_38 := ck_38
theorem ckk_39 : mc_ckP 39 ct_39 := ck_39
theorem ckk_40 : mc_ckP 40 ct_40 := ck_40
theorem ckk_41 : mc_ckP 41 ct_41 := ck_41
theorem ckk_42 : mc_ckP 42 ct_42 := ck_42
theorem ckk_43 : mc_ckP 43 ct_43 := ck_43
theorem ckk_44 : mc_ckP 44 ct_44 := ck_44
theorem ckk_45 : mc_ckP 45 ct_45 := ck_45
theorem ckk_46 : mc_ckP 46 ct_46 := ck_46
theorem ckk_47 : mc_ckP 47 ct_47 := ck_47
theorem ckk_48 : mc_ckP 48 ct_48 := ck_48
theorem ckk_49 : mc_ckP 49 ct_49 := ck_49
theorem ckk_50 : mc_ckP 50 ct_50 := ck_50
theorem ckk_51 : mc_ckP 51 ct_51 := ck_51
theorem ckk_52 : mc_ckP 52 ct_52 := ck_52
theorem ckk_53 : mc_ckP 53 ct_53 := ck_53
theorem ckk_54 : mc_ckP 54 ct_54 := ck_54
theorem ckk_55 : mc_ckP 55 ct_55 := ck_55
theorem ckk_56 : mc_ckP 56 ct_56 := ck_56
theorem ckk_57 : mc_ckP 57 ct_57 := ck_57
theorem ckk_58 : mc_ckP 58 ct_58 := ck_58
theorem ckk_59 : mc_ckP 59 ct_59 := ck_59
theorem ckk_60 : mc_ckP 60 ct_60 := ck_60
theorem ckk_61 : mc_ckP 61 ct_61 := ck_61
theorem ckk_62 : mc_ckP 62 ct_62 := ck_62
theorem ckk_63 : mc_ckP 63 ct_63 := ck_63
theorem ckk_64 : mc_ckP 64 ct_64 := ck_64
theorem ckk_65 : mc_ckP 65 ct_65 := ck_65
theorem ckk_66 : mc_ckP 66 ct_66 := ck_66
theorem ckk_67 : mc_ckP 67 ct_67 := ck_67
theorem ckk_68 : mc_ckP 68 ct_68 := ck_68
theorem ckk_69 : mc_ckP 69 ct_69 := ck_69
theorem ckk_70 : mc_ckP 70 ct_70 := ck_70
theorem ckk_71 : mc_ckP 71 ct_71 := ck_71
theorem ckk_72 : mc_ckP 72 ct_72 := ck_72
theorem ckk_73 : mc_ckP 73 ct_73 := ck_73
theorem ckk_74 : mc_ckP 74 ct_74 := ck_74
theorem ckk_75 : mc_ckP 75 ct_75 := ck_75
theorem ckk_76 : mc_ckP 76 ct_76 := ck_76
theorem ckk_77 : mc_ckP 77 ct_77 := ck_77
theorem ckk_78 : mc_ckP 78 ct_78 := ck_78
theorem ckk_79 : mc_ckP 79 ct_79 := ck_79
theorem ckk_80 : mc_ckP 80 ct_80 := ck_80
theorem ckk_81 : mc_ckP 81 ct_81 := ck_81
theorem ckk_82 : mc_ckP 82 ct_82 := ck_82
theorem ckk_83 : mc_ckP 83 ct_83 := ck_83
theorem ckk_84 : mc_ckP 84 ct_84 := ck_84
theorem ckk_85 : mc_ckP 85 ct_85 := ck_85
theorem ckk_86 : mc_ckP 86 ct_86 := ck_86
theorem ckk_87 : mc_ckP 87 ct_87 := ck_87
theorem ckk_88 : mc_ckP 88 ct_88 := ck_88
theorem ckk_89 : mc_ckP 89 ct_89 := ck_89
theorem ckk_90 : mc_ckP 90 ct_90 := ck_90
theorem ckk_91 : mc_ckP 91 ct_91 := ck_91
theorem ckk_92 : mc_ckP 92 ct_92 := ck_92
theorem ckk_93 : mc_ckP 93 ct_93 := ck_93
theorem ckk_94 : mc_ckP 94 ct_94 := ck_94
theorem ckk_95 : mc_ckP 95 ct_95 := ck_95
theorem ckk_96 : mc_ckP 96 ct_96 := ck_96
theorem ckk_97 : mc_ckP 97 ct_97 := ck_97
theorem ckk_98 : mc_ckP 98 ct_98 := ck_98
theorem ckk_99 : mc_ckP 99 ct_99 := ck_99
theorem ckk_100 : mc_ckP 100 ct_100 := ck_100
theorem ckk_101 : mc_ckP 101 ct_101 := ck_101
theorem ckk_102 : mc_ckP 102 ct_102 := ck_102
theorem ckk_103 : mc_ckP 103 ct_103 := ck_103
theorem ckk_104 : mc_ckP 104 ct_104 := ck_104
theorem ckk_105 : mc_ckP 105 ct_105 := ck_105
theorem ckk_106 : mc_ckP 106 ct_106 := ck_106
theorem ckk_107 : mc_ckP 107 ct_107 := ck_107
theorem ckk_108 : mc_ckP 108 ct_108 := ck_108
theorem ckk_109 : mc_ckP 109 ct_109 := ck_109
theorem ckk_110 : mc_ckP 110 ct_110 := ck_110
theorem ckk_111 : mc_ckP 111 ct_111 := ck_111
theorem ckk_112 : mc_ckP 112 ct_112 := ck_112
theorem ckk_113 : mc_ckP 113 ct_113 := ck_113
theorem ckk_114 : mc_ckP 114 ct_114 := ck_114
theorem ckk_115 : mc_ckP 115 ct_115 := ck_115
theorem ckk_116 : mc_ckP 116 ct_116 := ck_116
theorem ckk_117 : mc_ckP 117 ct_117 := ck_117
theorem ckk_118 : mc_ckP 118 ct_118 := ck_118
theorem ckk_119 : mc_ckP 119 ct_119 := ck_119
theorem ckk_120 : mc_ckP 120 ct_120 := ck_120
theorem ckk_121 : mc_ckP 121 ct_121 := ck_121
theorem ckk_122 : mc_ckP 122 ct_122 := ck_122
theorem ckk_123 : mc_ckP 123 ct_123 := ck_123
theorem ckk_124 : mc_ckP 124 ct_124 := ck_124
theorem ckk_125 : mc_ckP 125 ct_125 := ck_125
theorem ckk_126 : mc_ckP 126 ct_126 := ck_126
theorem ckk_127 : mc_ckP 127 ct_127 := ck_127
theorem ckk_128 : mc_ckP 128 ct_128 := ck_128
theorem ckk_129 : mc_ckP 129 ct_129 := ck_129
theorem ckk_130 : mc_ckP 130 ct_130 := ck_130
theorem ckk_131 : mc_ckP 131 ct_131 := ck_131
theorem ckk_132 : mc_ckP 132 ct_132 := ck_132
theorem ckk_133 : mc_ckP 133 ct_133 := ck_133
theorem ckk_134 : mc_ckP 134 ct_134 := ck_134
theorem ckk_135 : mc_ckP 135 ct_135 := ck_135
theorem ckk_136 : mc_ckP 136 ct_136 := ck_136
theorem ckk_137 : mc_ckP 137 ct_137 := ck_137
theorem ckk_138 : mc_ckP 138 ct_138 := ck_138
theorem ckk_139 : mc_ckP 139 ct_139 := ck_139
theorem ckk_140 : mc_ckP 140 ct_140 := ck_140
theorem ckk_141 : mc_ckP 141 ct_141 := ck_141
theorem ckk_142 : mc_ckP 142 ct_142 := ck_142
theorem ckk_143 : mc_ckP 143 ct_143 := ck_143
theorem ckk_144 : mc_ckP 144 ct_144 := ck_144
theorem ckk_145 : mc_ckP 145 ct_145 := ck_145
theorem ckk_146 : mc_ckP 146 ct_146 := ck_146
theorem ckk_147 : mc_ckP 147 ct_147 := ck_147
theorem ckk_148 : mc_ckP 148 ct_148 := ck_148
theorem ckk_149 : mc_ckP 149 ct_149 := ck_149
theorem ckk_150 : mc_ckP 150 ct_150 := ck_150
theorem ckk_151 : mc_ckP 151 ct_151 := ck_151
theorem ckk_152 : mc_ckP 152 ct_152 := ck_152
theorem ckk_153 : mc_ckP 153 ct_153 := ck_153
theorem ckk_154 : mc_ckP 154 ct_154 := ck_154
theorem ckk_155 : mc_ckP 155 ct_155 := ck_155
theorem ckk_156 : mc_ckP 156 ct_156 := ck_156
theorem ckk_157 : mc_ckP 157 ct_157 := ck_157
theorem ckk_158 : mc_ckP 158 ct_158 := ck_158
theorem ckk_159 : mc_ckP 159 ct_159 := ck_159
theorem ckk_160 : mc_ckP 160 ct_160 := ck_160
theorem ckk_161 : mc_ckP 161 ct_161 := ck_161
theorem ckk_162 : mc_ckP 162 ct_162 := ck_162
theorem ckk_163 : mc_ckP 163 ct_163 := ck_163
theorem ckk_164 : mc_ckP 164 ct_164 := ck_164
theorem ckk_165 : mc_ckP 165 ct_165 := ck_165
theorem ckk_166 : mc_ckP 166 ct_166 := ck_166
theorem ckk_167 : mc_ckP 167 ct_167 := ck_167
theorem ckk_168 : mc_ckP 168 ct_168 := ck_168
theorem ckk_169 : mc_ckP 169 ct_169 := ck_169
theorem ckk_170 : mc_ckP 170 ct_170 := ck_170
theorem ckk_171 : mc_ckP 171 ct_171 := ck_171
theorem ckk_172 : mc_ckP 172 ct_172 := ck_172
theorem ckk_173 : mc_ckP 173 ct_173 := ck_173
theorem ckk_174 : mc_ckP 174 ct_174 := ck_174
theorem ckk_175 : mc_ckP 175 ct_175 := ck_175
theorem ckk_176 : mc_ckP 176 ct_176 := ck_176
theorem ckk_177 : mc_ckP 177 ct_177 := ck_177
theorem ckk_178 : mc_ckP 178 ct_178 := ck_178
theorem ckk_179 : mc_ckP 179 ct_179 := ck_179
theorem ckk_180 : mc_ckP 180 ct_180 := ck_180
theorem ck_all : mc_ckA 0 mc_ct := ⟨ckk_0, ckk_1, ckk_2, ckk_3, ckk_4, ckk_5, ckk_6, ckk_7, ckk_8, ckk_9, ckk_10, ckk_11, ckk_12, ckk_13, ckk_14, ckk_15, ckk_16, ckk_17, ckk_18, ckk_19, ckk_20, ckk_21, ckk_22, ckk_23, ckk_24, ckk_25, ckk_26, ckk_27, ckk_28, ckk_29, ckk_30, ckk_31, ckk_32, ckk_33, ckk_34, ckk_35, ckk_36, ckk_37, ckk_38, ckk_39, ckk_40, ckk_41, ckk_42, ckk_43, ckk_44, ckk_45, ckk_46, ckk_47, ckk_48, ckk_49, ckk_50, ckk_51, ckk_52, ckk_53, ckk_54, ckk_55, ckk_56, ckk_57, ckk_58, ckk_59, ckk_60, ckk_61, ckk_62, ckk_63, ckk_64, ckk_65, ckk_66, ckk_67, ckk_68, ckk_69, ckk_70, ckk_71, ckk_72, ckk_73, ckk_74, ckk_75, ckk_76, ckk_77, ckk_78, ckk_79, ckk_80, ckk_81, ckk_82, ckk_83, ckk_84, ckk_85, ckk_86, ckk_87, ckk_88, ckk_89, ckk_90, ckk_91, ckk_92, ckk_93, ckk_94, ckk_95, ckk_96, ckk_97, ckk_98, ckk_99, ckk_100, ckk_101, ckk_102, ckk_103, ckk_104, ckk_105, ckk_106, ckk_107, ckk_108, ckk_109, ckk_110, ckk_111, ckk_112, ckk_113, ckk_114, ckk_115, ckk_116, ckk_117, ckk_118, ckk_119, ckk_120, ckk_121, ckk_122, ckk_123, ckk_124, ckk_125, ckk_126, ckk_127, ckk_128, ckk_129, ckk_130, ckk_131, ckk_132, ckk_133, ckk_134, ckk_135, ckk_136, ckk_137, ckk_138, ckk_139, ckk_140, ckk_141, ckk_142, ckk_143, ckk_144, ckk_145, ckk_146, ckk_147, ckk_148, ckk_149, ckk_150, ckk_151, ckk_152, ckk_153, ckk_154, ckk_155, ckk_156, ckk_157, ckk_158, ckk_159, ckk_160, ckk_161, ckk_162, ckk_163, ckk_164, ckk_165, ckk_166, ckk_167, ckk_168, ckk_169, ckk_170, ckk_171, ckk_172, ckk_173, ckk_174, ckk_175, ckk_176, ckk_177, ckk_178, ckk_179, ckk_180, trivial⟩
def mc_mok (M : mc_M) : Bool := decide (lw_tbl[M.2.2.2.2.2.2.2.2.2.1]? = some (Cond.initialized M.2.1.cls)) && (if M.2.2.2.2.2.1 then decide (lw_tbl[M.2.2.2.2.2.2.2.2.2.2.1]? = some (Cond.static M.2.1)) else decide (lw_tbl[M.2.2.2.2.2.2.2.2.2.2.1]? = some (Cond.instanceMethod M.2.1))) &&
  (M.2.2.2.2.2.1 || decide (M.2.1.name = "<init>") || decide (lw_tbl[M.2.2.2.2.2.2.2.2.2.2.2]? = some (Cond.selects M.2.1.cls M.2.1 M.2.1))) && decide (M.2.1.cls ≠ "java/lang/invoke/MethodHandle") && decide (M.2.1.cls ≠ "java/lang/invoke/VarHandle") && plainName M.2.1.cls &&
  decide ((parseMethodDescriptor M.2.1.desc).map (fun d => d.parameters.length) = some M.2.2.2.2.2.2.1) && decide (mc_nm M.1 = M.2.1.cls) && decide (M.2.2.2.2.2.2.1 + (if M.2.2.2.2.2.1 then 0 else 1) ≤ M.2.2.2.1) && decide (M.2.2.2.1 ≤ 11)
def mc_mtP (M : mc_M) : Prop := lw_tbl[M.2.2.2.2.2.2.2.2.1]? = some (Cond.code M.2.1 M.2.2.1 M.2.2.2.1 M.2.2.2.2.1) ∧ mc_mok M = true
set_option maxRecDepth 100000 in
theorem mok_0 : mc_mtP (mc_meth 0) := ⟨rfl, by decide +kernel⟩
set_option maxRecDepth 100000 in
theorem mok_1 : mc_mtP (mc_meth 1) := ⟨rfl, by decide +kernel⟩
set_option maxRecDepth 100000 in
theorem mok_2 : mc_mtP (mc_meth 2) := ⟨rfl, by decide +kernel⟩
set_option maxRecDepth 100000 in
theorem mok_3 : mc_mtP (mc_meth 3) := ⟨rfl, by decide +kernel⟩
set_option maxRecDepth 100000 in
theorem mok_4 : mc_mtP (mc_meth 4) := ⟨rfl, by decide +kernel⟩
set_option maxRecDepth 100000 in
theorem mok_5 : mc_mtP (mc_meth 5) := ⟨rfl, by decide +kernel⟩
set_option maxRecDepth 100000 in
theorem mok_6 : mc_mtP (mc_meth 6) := ⟨rfl, by decide +kernel⟩
set_option maxRecDepth 100000 in
theorem mok_7 : mc_mtP (mc_meth 7) := ⟨rfl, by decide +kernel⟩
set_option maxRecDepth 100000 in
theorem mok_8 : mc_mtP (mc_meth 8) := ⟨rfl, by decide +kernel⟩
set_option maxRecDepth 100000 in
theorem mok_9 : mc_mtP (mc_meth 9) := ⟨rfl, by decide +kernel⟩
set_option maxRecDepth 100000 in
theorem mok_10 : mc_mtP (mc_meth 10) := ⟨rfl, by decide +kernel⟩
set_option maxRecDepth 100000 in
theorem mok_11 : mc_mtP (mc_meth 11) := ⟨rfl, by decide +kernel⟩
set_option maxRecDepth 100000 in
theorem mok_12 : mc_mtP (mc_meth 12) := ⟨rfl, by decide +kernel⟩
set_option maxRecDepth 100000 in
theorem mok_13 : mc_mtP (mc_meth 13) := ⟨rfl, by decide +kernel⟩
set_option maxRecDepth 100000 in
theorem mok_14 : mc_mtP (mc_meth 14) := ⟨rfl, by decide +kernel⟩
set_option maxRecDepth 100000 in
theorem mok_15 : mc_mtP (mc_meth 15) := ⟨rfl, by decide +kernel⟩
set_option maxRecDepth 100000 in
theorem mok_16 : mc_mtP (mc_meth 16) := ⟨rfl, by decide +kernel⟩
set_option maxRecDepth 100000 in
theorem mok_17 : mc_mtP (mc_meth 17) := ⟨rfl, by decide +kernel⟩
set_option maxRecDepth 100000 in
theorem mok_18 : mc_mtP (mc_meth 18) := ⟨rfl, by decide +kernel⟩
set_option maxRecDepth 100000 in
theorem mok_19 : mc_mtP (mc_meth 19) := ⟨rfl, by decide +kernel⟩
set_option maxRecDepth 100000 in
theorem mok_20 : mc_mtP (mc_meth 20) := ⟨rfl, by decide +kernel⟩
set_option maxRecDepth 100000 in
theorem mok_21 : mc_mtP (mc_meth 21) := ⟨rfl, by decide +kernel⟩
set_option maxRecDepth 100000 in
theorem mok_22 : mc_mtP (mc_meth 22) := ⟨rfl, by decide +kernel⟩
set_option maxRecDepth 100000 in
theorem mok_23 : mc_mtP (mc_meth 23) := ⟨rfl, by decide +kernel⟩
set_option maxRecDepth 100000 in
theorem mok_24 : mc_mtP (mc_meth 24) := ⟨rfl, by decide +kernel⟩
set_option maxRecDepth 100000 in
theorem mok_25 : mc_mtP (mc_meth 25) := ⟨rfl, by decide +kernel⟩
set_option maxRecDepth 100000 in
theorem mok_26 : mc_mtP (mc_meth 26) := ⟨rfl, by decide +kernel⟩
set_option maxRecDepth 100000 in
theorem mok_27 : mc_mtP (mc_meth 27) := ⟨rfl, by decide +kernel⟩
set_option maxRecDepth 100000 in
theorem mok_28 : mc_mtP (mc_meth 28) := ⟨rfl, by decide +kernel⟩
set_option maxRecDepth 100000 in
theorem mok_29 : mc_mtP (mc_meth 29) := ⟨rfl, by decide +kernel⟩
set_option maxRecDepth 100000 in
theorem mok_30 : mc_mtP (mc_meth 30) := ⟨rfl, by decide +kernel⟩
set_option maxRecDepth 100000 in
theorem mok_31 : mc_mtP (mc_meth 31) := ⟨rfl, by decide +kernel⟩
set_option maxRecDepth 100000 in
theorem mok_32 : mc_mtP (mc_meth 32) := ⟨rfl, by decide +kernel⟩
set_option maxRecDepth 100000 in
theorem mok_33 : mc_mtP (mc_meth 33) := ⟨rfl, by decide +kernel⟩
set_option maxRecDepth 100000 in
theorem mok_34 : mc_mtP (mc_meth 34) := ⟨rfl, by decide +kernel⟩
set_option maxRecDepth 100000 in
theorem mok_35 : mc_mtP (mc_meth 35) := ⟨rfl, by decide +kernel⟩
set_option maxRecDepth 100000 in
theorem mok_36 : mc_mtP (mc_meth 36) := ⟨rfl, by decide +kernel⟩
set_option maxRecDepth 100000 in
theorem mok_37 : mc_mtP (mc_meth 37) := ⟨rfl, by decide +kernel⟩
set_option maxRecDepth 100000 in
theorem mok_38 : mc_mtP (mc_meth 38) := ⟨rfl, by decide +kernel⟩
set_option maxRecDepth 100000 in
theorem mok_39 : mc_mtP (mc_meth 39) := ⟨rfl, by decide +kernel⟩
set_option maxRecDepth 100000 in
theorem mok_40 : mc_mtP (mc_meth 40) := ⟨rfl, by decide +kernel⟩
set_option maxRecDepth 100000 in
theorem mok_41 : mc_mtP (mc_meth 41) := ⟨rfl, by decide +kernel⟩
set_option maxRecDepth 100000 in
theorem mok_42 : mc_mtP (mc_meth 42) := ⟨rfl, by decide +kernel⟩
set_option maxRecDepth 100000 in
theorem mok_43 : mc_mtP (mc_meth 43) := ⟨rfl, by decide +kernel⟩
set_option maxRecDepth 100000 in
theorem mok_44 : mc_mtP (mc_meth 44) := ⟨rfl, by decide +kernel⟩
set_option maxRecDepth 100000 in
theorem mok_45 : mc_mtP (mc_meth 45) := ⟨rfl, by decide +kernel⟩
set_option maxRecDepth 100000 in
theorem mok_46 : mc_mtP (mc_meth 46) := ⟨rfl, by decide +kernel⟩
set_option maxRecDepth 100000 in
theorem mok_47 : mc_mtP (mc_meth 47) := ⟨rfl, by decide +kernel⟩
set_option maxRecDepth 100000 in
theorem mok_48 : mc_mtP (mc_meth 48) := ⟨rfl, by decide +kernel⟩
set_option maxRecDepth 100000 in
theorem mok_49 : mc_mtP (mc_meth 49) := ⟨rfl, by decide +kernel⟩
set_option maxRecDepth 100000 in
theorem mok_50 : mc_mtP (mc_meth 50) := ⟨rfl, by decide +kernel⟩
set_option maxRecDepth 100000 in
theorem mok_51 : mc_mtP (mc_meth 51) := ⟨rfl, by decide +kernel⟩
set_option maxRecDepth 100000 in
theorem mok_52 : mc_mtP (mc_meth 52) := ⟨rfl, by decide +kernel⟩
set_option maxRecDepth 100000 in
theorem mok_53 : mc_mtP (mc_meth 53) := ⟨rfl, by decide +kernel⟩
set_option maxRecDepth 100000 in
theorem mok_54 : mc_mtP (mc_meth 54) := ⟨rfl, by decide +kernel⟩
set_option maxRecDepth 100000 in
theorem mok_55 : mc_mtP (mc_meth 55) := ⟨rfl, by decide +kernel⟩
set_option maxRecDepth 100000 in
theorem mok_56 : mc_mtP (mc_meth 56) := ⟨rfl, by decide +kernel⟩
set_option maxRecDepth 100000 in
theorem mok_57 : mc_mtP (mc_meth 57) := ⟨rfl, by decide +kernel⟩
set_option maxRecDepth 100000 in
theorem mok_58 : mc_mtP (mc_meth 58) := ⟨rfl, by decide +kernel⟩
set_option maxRecDepth 100000 in
theorem mok_59 : mc_mtP (mc_meth 59) := ⟨rfl, by decide +kernel⟩
set_option maxRecDepth 100000 in
theorem mok_60 : mc_mtP (mc_meth 60) := ⟨rfl, by decide +kernel⟩
set_option maxRecDepth 100000 in
theorem mok_61 : mc_mtP (mc_meth 61) := ⟨rfl, by decide +kernel⟩
set_option maxRecDepth 100000 in
theorem mok_62 : mc_mtP (mc_meth 62) := ⟨rfl, by decide +kernel⟩
set_option maxRecDepth 100000 in
theorem mok_63 : mc_mtP (mc_meth 63) := ⟨rfl, by decide +kernel⟩
set_option maxRecDepth 100000 in
theorem mok_64 : mc_mtP (mc_meth 64) := ⟨rfl, by decide +kernel⟩
set_option maxRecDepth 100000 in
theorem mok_65 : mc_mtP (mc_meth 65) := ⟨rfl, by decide +kernel⟩
set_option maxRecDepth 100000 in
theorem mok_66 : mc_mtP (mc_meth 66) := ⟨rfl, by decide +kernel⟩
set_option maxRecDepth 100000 in
theorem mok_67 : mc_mtP (mc_meth 67) := ⟨rfl, by decide +kernel⟩
set_option maxRecDepth 100000 in
theorem mok_68 : mc_mtP (mc_meth 68) := ⟨rfl, by decide +kernel⟩
set_option maxRecDepth 100000 in
theorem mok_69 : mc_mtP (mc_meth 69) := ⟨rfl, by decide +kernel⟩
set_option maxRecDepth 100000 in
theorem mok_70 : mc_mtP (mc_meth 70) := ⟨rfl, by decide +kernel⟩
set_option maxRecDepth 100000 in
theorem mok_71 : mc_mtP (mc_meth 71) := ⟨rfl, by decide +kernel⟩
set_option maxRecDepth 100000 in
theorem mok_72 : mc_mtP (mc_meth 72) := ⟨rfl, by decide +kernel⟩
set_option maxRecDepth 100000 in
theorem mok_73 : mc_mtP (mc_meth 73) := ⟨rfl, by decide +kernel⟩
set_option maxRecDepth 100000 in
theorem mok_74 : mc_mtP (mc_meth 74) := ⟨rfl, by decide +kernel⟩
set_option maxRecDepth 100000 in
theorem mok_75 : mc_mtP (mc_meth 75) := ⟨rfl, by decide +kernel⟩
set_option maxRecDepth 100000 in
theorem mok_76 : mc_mtP (mc_meth 76) := ⟨rfl, by decide +kernel⟩
set_option maxRecDepth 100000 in
theorem mok_77 : mc_mtP (mc_meth 77) := ⟨rfl, by decide +kernel⟩
set_option maxRecDepth 100000 in
theorem mok_78 : mc_mtP (mc_meth 78) := ⟨rfl, by decide +kernel⟩
set_option maxRecDepth 100000 in
theorem mok_79 : mc_mtP (mc_meth 79) := ⟨rfl, by decide +kernel⟩
set_option maxRecDepth 100000 in
theorem mok_80 : mc_mtP (mc_meth 80) := ⟨rfl, by decide +kernel⟩
set_option maxRecDepth 100000 in
theorem mok_81 : mc_mtP (mc_meth 81) := ⟨rfl, by decide +kernel⟩
set_option maxRecDepth 100000 in
theorem mok_82 : mc_mtP (mc_meth 82) := ⟨rfl, by decide +kernel⟩
set_option maxRecDepth 100000 in
theorem mok_83 : mc_mtP (mc_meth 83) := ⟨rfl, by decide +kernel⟩
set_option maxRecDepth 100000 in
theorem mok_84 : mc_mtP (mc_meth 84) := ⟨rfl, by decide +kernel⟩
set_option maxRecDepth 100000 in
theorem mok_85 : mc_mtP (mc_meth 85) := ⟨rfl, by decide +kernel⟩
set_option maxRecDepth 100000 in
theorem mok_86 : mc_mtP (mc_meth 86) := ⟨rfl, by decide +kernel⟩
set_option maxRecDepth 100000 in
theorem mok_87 : mc_mtP (mc_meth 87) := ⟨rfl, by decide +kernel⟩
set_option maxRecDepth 100000 in
theorem mok_88 : mc_mtP (mc_meth 88) := ⟨rfl, by decide +kernel⟩
set_option maxRecDepth 100000 in
theorem mok_89 : mc_mtP (mc_meth 89) := ⟨rfl, by decide +kernel⟩
set_option maxRecDepth 100000 in
theorem mok_90 : mc_mtP (mc_meth 90) := ⟨rfl, by decide +kernel⟩
set_option maxRecDepth 100000 in
theorem mok_91 : mc_mtP (mc_meth 91) := ⟨rfl, by decide +kernel⟩
set_option maxRecDepth 100000 in
theorem mok_92 : mc_mtP (mc_meth 92) := ⟨rfl, by decide +kernel⟩
set_option maxRecDepth 100000 in
theorem mok_93 : mc_mtP (mc_meth 93) := ⟨rfl, by decide +kernel⟩
set_option maxRecDepth 100000 in
theorem mok_94 : mc_mtP (mc_meth 94) := ⟨rfl, by decide +kernel⟩
set_option maxRecDepth 100000 in
theorem mok_95 : mc_mtP (mc_meth 95) := ⟨rfl, by decide +kernel⟩
set_option maxRecDepth 100000 in
theorem mok_96 : mc_mtP (mc_meth 96) := ⟨rfl, by decide +kernel⟩
set_option maxRecDepth 100000 in
theorem mok_97 : mc_mtP (mc_meth 97) := ⟨rfl, by decide +kernel⟩
set_option maxRecDepth 100000 in
theorem mok_98 : mc_mtP (mc_meth 98) := ⟨rfl, by decide +kernel⟩
set_option maxRecDepth 100000 in
theorem mok_99 : mc_mtP (mc_meth 99) := ⟨rfl, by decide +kernel⟩
set_option maxRecDepth 100000 in
theorem mok_100 : mc_mtP (mc_meth 100) := ⟨rfl, by decide +kernel⟩
set_option maxRecDepth 100000 in
theorem mok_101 : mc_mtP (mc_meth 101) := ⟨rfl, by decide +kernel⟩
set_option maxRecDepth 100000 in
theorem mok_102 : mc_mtP (mc_meth 102) := ⟨rfl, by decide +kernel⟩
set_option maxRecDepth 100000 in
theorem mok_103 : mc_mtP (mc_meth 103) := ⟨rfl, by decide +kernel⟩
set_option maxRecDepth 100000 in
theorem mok_104 : mc_mtP (mc_meth 104) := ⟨rfl, by decide +kernel⟩
set_option maxRecDepth 100000 in
theorem mok_105 : mc_mtP (mc_meth 105) := ⟨rfl, by decide +kernel⟩
set_option maxRecDepth 100000 in
theorem mok_106 : mc_mtP (mc_meth 106) := ⟨rfl, by decide +kernel⟩
set_option maxRecDepth 100000 in
theorem mok_107 : mc_mtP (mc_meth 107) := ⟨rfl, by decide +kernel⟩
set_option maxRecDepth 100000 in
theorem mok_108 : mc_mtP (mc_meth 108) := ⟨rfl, by decide +kernel⟩
set_option maxRecDepth 100000 in
theorem mok_109 : mc_mtP (mc_meth 109) := ⟨rfl, by decide +kernel⟩
set_option maxRecDepth 100000 in
theorem mok_110 : mc_mtP (mc_meth 110) := ⟨rfl, by decide +kernel⟩
set_option maxRecDepth 100000 in
theorem mok_111 : mc_mtP (mc_meth 111) := ⟨rfl, by decide +kernel⟩
set_option maxRecDepth 100000 in
theorem mok_112 : mc_mtP (mc_meth 112) := ⟨rfl, by decide +kernel⟩
set_option maxRecDepth 100000 in
theorem mok_113 : mc_mtP (mc_meth 113) := ⟨rfl, by decide +kernel⟩
set_option maxRecDepth 100000 in
theorem mok_114 : mc_mtP (mc_meth 114) := ⟨rfl, by decide +kernel⟩
set_option maxRecDepth 100000 in
theorem mok_115 : mc_mtP (mc_meth 115) := ⟨rfl, by decide +kernel⟩
set_option maxRecDepth 100000 in
theorem mok_116 : mc_mtP (mc_meth 116) := ⟨rfl, by decide +kernel⟩
set_option maxRecDepth 100000 in
theorem mok_117 : mc_mtP (mc_meth 117) := ⟨rfl, by decide +kernel⟩
set_option maxRecDepth 100000 in
theorem mok_118 : mc_mtP (mc_meth 118) := ⟨rfl, by decide +kernel⟩
set_option maxRecDepth 100000 in
theorem mok_119 : mc_mtP (mc_meth 119) := ⟨rfl, by decide +kernel⟩
set_option maxRecDepth 100000 in
theorem mok_120 : mc_mtP (mc_meth 120) := ⟨rfl, by decide +kernel⟩
set_option maxRecDepth 100000 in
theorem mok_121 : mc_mtP (mc_meth 121) := ⟨rfl, by decide +kernel⟩
set_option maxRecDepth 100000 in
theorem mok_122 : mc_mtP (mc_meth 122) := ⟨rfl, by decide +kernel⟩
set_option maxRecDepth 100000 in
theorem mok_123 : mc_mtP (mc_meth 123) := ⟨rfl, by decide +kernel⟩
set_option maxRecDepth 100000 in
theorem mok_124 : mc_mtP (mc_meth 124) := ⟨rfl, by decide +kernel⟩
set_option maxRecDepth 100000 in
theorem mok_125 : mc_mtP (mc_meth 125) := ⟨rfl, by decide +kernel⟩
set_option maxRecDepth 100000 in
theorem mok_126 : mc_mtP (mc_meth 126) := ⟨rfl, by decide +kernel⟩
set_option maxRecDepth 100000 in
theorem mok_127 : mc_mtP (mc_meth 127) := ⟨rfl, by decide +kernel⟩
set_option maxRecDepth 100000 in
theorem mok_128 : mc_mtP (mc_meth 128) := ⟨rfl, by decide +kernel⟩
set_option maxRecDepth 100000 in
theorem mok_129 : mc_mtP (mc_meth 129) := ⟨rfl, by decide +kernel⟩
set_option maxRecDepth 100000 in
theorem mok_130 : mc_mtP (mc_meth 130) := ⟨rfl, by decide +kernel⟩
set_option maxRecDepth 100000 in
theorem mok_131 : mc_mtP (mc_meth 131) := ⟨rfl, by decide +kernel⟩
set_option maxRecDepth 100000 in
theorem mok_132 : mc_mtP (mc_meth 132) := ⟨rfl, by decide +kernel⟩
set_option maxRecDepth 100000 in
theorem mok_133 : mc_mtP (mc_meth 133) := ⟨rfl, by decide +kernel⟩
set_option maxRecDepth 100000 in
theorem mok_134 : mc_mtP (mc_meth 134) := ⟨rfl, by decide +kernel⟩
set_option maxRecDepth 100000 in
theorem mok_135 : mc_mtP (mc_meth 135) := ⟨rfl, by decide +kernel⟩
set_option maxRecDepth 100000 in
theorem mok_136 : mc_mtP (mc_meth 136) := ⟨rfl, by decide +kernel⟩
set_option maxRecDepth 100000 in
theorem mok_137 : mc_mtP (mc_meth 137) := ⟨rfl, by decide +kernel⟩
set_option maxRecDepth 100000 in
theorem mok_138 : mc_mtP (mc_meth 138) := ⟨rfl, by decide +kernel⟩
set_option maxRecDepth 100000 in
theorem mok_139 : mc_mtP (mc_meth 139) := ⟨rfl, by decide +kernel⟩
set_option maxRecDepth 100000 in
theorem mok_140 : mc_mtP (mc_meth 140) := ⟨rfl, by decide +kernel⟩
set_option maxRecDepth 100000 in
theorem mok_141 : mc_mtP (mc_meth 141) := ⟨rfl, by decide +kernel⟩
set_option maxRecDepth 100000 in
theorem mok_142 : mc_mtP (mc_meth 142) := ⟨rfl, by decide +kernel⟩
set_option maxRecDepth 100000 in
theorem mok_143 : mc_mtP (mc_meth 143) := ⟨rfl, by decide +kernel⟩
set_option maxRecDepth 100000 in
theorem mok_144 : mc_mtP (mc_meth 144) := ⟨rfl, by decide +kernel⟩
set_option maxRecDepth 100000 in
theorem mok_145 : mc_mtP (mc_meth 145) := ⟨rfl, by decide +kernel⟩
set_option maxRecDepth 100000 in
theorem mok_146 : mc_mtP (mc_meth 146) := ⟨rfl, by decide +kernel⟩
set_option maxRecDepth 100000 in
theorem mok_147 : mc_mtP (mc_meth 147) := ⟨rfl, by decide +kernel⟩
set_option maxRecDepth 100000 in
theorem mok_148 : mc_mtP (mc_meth 148) := ⟨rfl, by decide +kernel⟩
set_option maxRecDepth 100000 in
theorem mok_149 : mc_mtP (mc_meth 149) := ⟨rfl, by decide +kernel⟩
set_option maxRecDepth 100000 in
theorem mok_150 : mc_mtP (mc_meth 150) := ⟨rfl, by decide +kernel⟩
set_option maxRecDepth 100000 in
theorem mok_151 : mc_mtP (mc_meth 151) := ⟨rfl, by decide +kernel⟩
set_option maxRecDepth 100000 in
theorem mok_152 : mc_mtP (mc_meth 152) := ⟨rfl, by decide +kernel⟩
set_option maxRecDepth 100000 in
theorem mok_153 : mc_mtP (mc_meth 153) := ⟨rfl, by decide +kernel⟩
set_option maxRecDepth 100000 in
theorem mok_154 : mc_mtP (mc_meth 154) := ⟨rfl, by decide +kernel⟩
set_option maxRecDepth 100000 in
theorem mok_155 : mc_mtP (mc_meth 155) := ⟨rfl, by decide +kernel⟩
set_option maxRecDepth 100000 in
theorem mok_156 : mc_mtP (mc_meth 156) := ⟨rfl, by decide +kernel⟩
set_option maxRecDepth 100000 in
theorem mok_157 : mc_mtP (mc_meth 157) := ⟨rfl, by decide +kernel⟩
set_option maxRecDepth 100000 in
theorem mok_158 : mc_mtP (mc_meth 158) := ⟨rfl, by decide +kernel⟩
set_option maxRecDepth 100000 in
theorem mok_159 : mc_mtP (mc_meth 159) := ⟨rfl, by decide +kernel⟩
set_option maxRecDepth 100000 in
theorem mok_160 : mc_mtP (mc_meth 160) := ⟨rfl, by decide +kernel⟩
set_option maxRecDepth 100000 in
theorem mok_161 : mc_mtP (mc_meth 161) := ⟨rfl, by decide +kernel⟩
set_option maxRecDepth 100000 in
theorem mok_162 : mc_mtP (mc_meth 162) := ⟨rfl, by decide +kernel⟩
set_option maxRecDepth 100000 in
theorem mok_163 : mc_mtP (mc_meth 163) := ⟨rfl, by decide +kernel⟩
set_option maxRecDepth 100000 in
theorem mok_164 : mc_mtP (mc_meth 164) := ⟨rfl, by decide +kernel⟩
set_option maxRecDepth 100000 in
theorem mok_165 : mc_mtP (mc_meth 165) := ⟨rfl, by decide +kernel⟩
set_option maxRecDepth 100000 in
theorem mok_166 : mc_mtP (mc_meth 166) := ⟨rfl, by decide +kernel⟩
set_option maxRecDepth 100000 in
theorem mok_167 : mc_mtP (mc_meth 167) := ⟨rfl, by decide +kernel⟩
set_option maxRecDepth 100000 in
theorem mok_168 : mc_mtP (mc_meth 168) := ⟨rfl, by decide +kernel⟩
set_option maxRecDepth 100000 in
theorem mok_169 : mc_mtP (mc_meth 169) := ⟨rfl, by decide +kernel⟩
set_option maxRecDepth 100000 in
theorem mok_170 : mc_mtP (mc_meth 170) := ⟨rfl, by decide +kernel⟩
set_option maxRecDepth 100000 in
theorem mok_171 : mc_mtP (mc_meth 171) := ⟨rfl, by decide +kernel⟩
set_option maxRecDepth 100000 in
theorem mok_172 : mc_mtP (mc_meth 172) := ⟨rfl, by decide +kernel⟩
set_option maxRecDepth 100000 in
theorem mok_173 : mc_mtP (mc_meth 173) := ⟨rfl, by decide +kernel⟩
set_option maxRecDepth 100000 in
theorem mok_174 : mc_mtP (mc_meth 174) := ⟨rfl, by decide +kernel⟩
set_option maxRecDepth 100000 in
theorem mok_175 : mc_mtP (mc_meth 175) := ⟨rfl, by decide +kernel⟩
set_option maxRecDepth 100000 in
theorem mok_179 : mc_mtP (mc_meth 179) := ⟨rfl, by decide +kernel⟩
def mc_mtA : List Nat → Prop
  | [] => True
  | i :: is => mc_mtP (mc_meth i) ∧ mc_mtA is
theorem mc_mtA_at : ∀ (is : List Nat), mc_mtA is → ∀ i ∈ is, mc_mtP (mc_meth i)
  | [], _, i, h => absurd h List.not_mem_nil
  | j :: is, hA, i, h => (List.mem_cons.mp h).elim (fun e => e ▸ hA.1) (fun h => mc_mtA_at is hA.2 i h)
theorem mt_all : mc_mtA [0, 1, 2, 3, 4, 5, 6, 7, 8, 9, 10, 11, 12, 13, 14, 15, 16, 17, 18, 19, 20, 21, 22, 23, 24, 25, 26, 27, 28, 29, 30, 31, 32, 33, 34, 35, 36, 37, 38, 39, 40, 41, 42, 43, 44, 45, 46, 47, 48, 49, 50, 51, 52, 53, 54, 55, 56, 57, 58, 59, 60, 61, 62, 63, 64, 65, 66, 67, 68, 69, 70, 71, 72, 73, 74, 75, 76, 77, 78, 79, 80, 81, 82, 83, 84, 85, 86, 87, 88, 89, 90, 91, 92, 93, 94, 95, 96, 97, 98, 99, 100, 101, 102, 103, 104, 105, 106, 107, 108, 109, 110, 111, 112, 113, 114, 115, 116, 117, 118, 119, 120, 121, 122, 123, 124, 125, 126, 127, 128, 129, 130, 131, 132, 133, 134, 135, 136, 137, 138, 139, 140, 141, 142, 143, 144, 145, 146, 147, 148, 149, 150, 151, 152, 153, 154, 155, 156, 157, 158, 159, 160, 161, 162, 163, 164, 165, 166, 167, 168, 169, 170, 171, 172, 173, 174, 175, 179] := ⟨mok_0, mok_1, mok_2, mok_3, mok_4, mok_5, mok_6, mok_7, mok_8, mok_9, mok_10, mok_11, mok_12, mok_13, mok_14, mok_15, mok_16, mok_17, mok_18, mok_19, mok_20, mok_21, mok_22, mok_23, mok_24, mok_25, mok_26, mok_27, mok_28, mok_29, mok_30, mok_31, mok_32, mok_33, mok_34, mok_35, mok_36, mok_37, mok_38, mok_39, mok_40, mok_41, mok_42, mok_43, mok_44, mok_45, mok_46, mok_47, mok_48, mok_49, mok_50, mok_51, mok_52, mok_53, mok_54, mok_55, mok_56, mok_57, mok_58, mok_59, mok_60, mok_61, mok_62, mok_63, mok_64, mok_65, mok_66, mok_67, mok_68, mok_69, mok_70, mok_71, mok_72, mok_73, mok_74, mok_75, mok_76, mok_77, mok_78, mok_79, mok_80, mok_81, mok_82, mok_83, mok_84, mok_85, mok_86, mok_87, mok_88, mok_89, mok_90, mok_91, mok_92, mok_93, mok_94, mok_95, mok_96, mok_97, mok_98, mok_99, mok_100, mok_101, mok_102, mok_103, mok_104, mok_105, mok_106, mok_107, mok_108, mok_109, mok_110, mok_111, mok_112, mok_113, mok_114, mok_115, mok_116, mok_117, mok_118, mok_119, mok_120, mok_121, mok_122, mok_123, mok_124, mok_125, mok_126, mok_127, mok_128, mok_129, mok_130, mok_131, mok_132, mok_133, mok_134, mok_135, mok_136, mok_137, mok_138, mok_139, mok_140, mok_141, mok_142, mok_143, mok_144, mok_145, mok_146, mok_147, mok_148, mok_149, mok_150, mok_151, mok_152, mok_153, mok_154, mok_155, mok_156, mok_157, mok_158, mok_159, mok_160, mok_161, mok_162, mok_163, mok_164, mok_165, mok_166, mok_167, mok_168, mok_169, mok_170, mok_171, mok_172, mok_173, mok_174, mok_175, mok_179, trivial⟩
set_option maxRecDepth 100000 in
theorem mc_rk_le : ∀ mi, mi < 181 → mc_rk mi ≤ 8 := by decide +kernel
theorem mc_mt_at {i : Nat} (hi : i < mc_mt.length) (hk : mc_rk i < 8) (h9 : i ≠ 176 ∧ i ≠ 177 ∧ i ≠ 178) : mc_mtP (mc_meth i) := by
  refine mc_mtA_at _ mt_all i ?_
  have hl : mc_mt.length = 181 := rfl
  rw [hl] at hi
  have hne : i ≠ 180 := fun e => by subst e; exact absurd hk (by decide +kernel)
  have e : ∀ j, j < 181 → j = 180 ∨ j = 176 ∨ j = 177 ∨ j = 178 ∨ j ∈ [0, 1, 2, 3, 4, 5, 6, 7, 8, 9, 10, 11, 12, 13, 14, 15, 16, 17, 18, 19, 20, 21, 22, 23, 24, 25, 26, 27, 28, 29, 30, 31, 32, 33, 34, 35, 36, 37, 38, 39, 40, 41, 42, 43, 44, 45, 46, 47, 48, 49, 50, 51, 52, 53, 54, 55, 56, 57, 58, 59, 60, 61, 62, 63, 64, 65, 66, 67, 68, 69, 70, 71, 72, 73, 74, 75, 76, 77, 78, 79, 80, 81, 82, 83, 84, 85, 86, 87, 88, 89, 90, 91, 92, 93, 94, 95, 96, 97, 98, 99, 100, 101, 102, 103, 104, 105, 106, 107, 108, 109, 110, 111, 112, 113, 114, 115, 116, 117, 118, 119, 120, 121, 122, 123, 124, 125, 126, 127, 128, 129, 130, 131, 132, 133, 134, 135, 136, 137, 138, 139, 140, 141, 142, 143, 144, 145, 146, 147, 148, 149, 150, 151, 152, 153, 154, 155, 156, 157, 158, 159, 160, 161, 162, 163, 164, 165, 166, 167, 168, 169, 170, 171, 172, 173, 174, 175, 179] := by decide +kernel
  rcases e i hi with q | q | q | q | q
  · exact absurd q hne
  · exact absurd q h9.1
  · exact absurd q h9.2.1
  · exact absurd q h9.2.2
  · exact q
theorem mc_rk8 (mi : Nat) : mc_rk mi ≤ 8 := by
  rcases Nat.lt_or_ge mi 181 with h | h
  · exact mc_rk_le mi h
  · have e : mc_mt[mi]? = none := List.getElem?_eq_none (by show 181 ≤ mi; exact h)
    unfold mc_rk mc_meth
    rw [List.getD_eq_getElem?_getD, e]
    exact Nat.zero_le _
end
section
theorem mc_dec {mi pc : Nat} {E : mc_E} (h : mc_code mi pc = some E) : decode (mc_by mi) pc = .ok (E.1, E.2.1) ∧ mc_lk (mc_own mi) mi pc E = true ∧ mc_lnb E = true := by
  unfold mc_code at h
  cases hl : mc_ct[mi]? with
  | none =>
    have e : mc_ct.getD mi [] = [] := by rw [List.getD_eq_getElem?_getD, hl]; rfl
    rw [e] at h
    simp at h
  | some l =>
    have e : mc_ct.getD mi [] = l := by rw [List.getD_eq_getElem?_getD, hl]; rfl
    rw [e] at h
    have hp : l[pc]? = some (some E) := by
      rw [List.getD_eq_getElem?_getD] at h
      cases hq : l[pc]? with
      | none => rw [hq] at h; simp at h
      | some o => rw [hq] at h; simp at h; rw [h]
    have h1 := mc_ckA_at mc_ct 0 mi l ck_all hl
    rw [Nat.zero_add] at h1
    have h2 := List.all_eq_true.mp h1 (some E, pc) (List.mem_of_getElem? (i := pc) (by rw [List.getElem?_zipIdx, hp]; simp))
    have h3 : (decide (decode (mc_by mi) pc = .ok (E.1, E.2.1)) && mc_lk (mc_own mi) mi pc E) = true := h2
    simp only [Bool.and_eq_true, decide_eq_true_eq] at h3
    have h4 := List.all_eq_true.mp (List.all_eq_true.mp ln_all l (List.mem_of_getElem? hl)) (some E) (List.mem_of_getElem? hp)
    exact ⟨h3.1, h3.2, h4⟩
end
section
/-! A SMALL MACHINE of our own: references are numbers of cells, counted from the law's start; a static table (and the script) is written .float i; a variable that holds nothing yet is written .null. One step, calls and ends apart; then a run with fuel. -/
abbrev mc_C : Type := (Nat × Nat × (Nat → Int32)) ⊕ (Nat × Nat × (Nat → Option Nat)) ⊕ (Nat × List Value)
abbrev mc_H : Type := List mc_C
abbrev mc_R : Type := Option (Option Value × mc_H)
abbrev mc_K : Type := Nat → Nat → List Value → List Value → mc_H → mc_R
/-- the tables: how long, what they hold -/
abbrev mc_X : Type := Nat → Nat × (Nat → Int32)
/-- what one step comes to: a next place of the same frame; a call (method, its variables, the stack below); an end -/
abbrev mc_S : Type := (Nat × List Value × List Value × mc_H) ⊕ (Nat × List Value × List Value) ⊕ Option Value
def mc_ty (ci j : Nat) : FieldType := match ci with
  | 0 => tyX0 j
  | 1 => tyX1 j
  | 2 => tyX2 j
  | 3 => tyX3 j
  | 4 => tyX4 j
  | 5 => tyX5 j
  | 6 => tyX6 j
  | 7 => tyX7 j
  | _ => tyX8 j
/-- a new object's fields -/
def mc_df (ci : Nat) : List Value := match ci with
  | 0 => [.int 0, .int 0, .int 0, .int 0, .int 0, .int 0, .null, .null, .null, .null]
  | 1 => [.null, .int 0, .int 0]
  | 2 => [.null, .int 0, .int 0, .int 0, .int 0, .int 0]
  | 3 => [.null, .null]
  | 4 => [.null, .null]
  | 5 => [.int 0, .int 0, .int 0, .null, .null]
  | 6 => [.int 0, .int 0, .null, .null]
  | 7 => [.null, .null, .null, .null, .null, .long 0, .int 0]
  | _ => [.int 0, .int 0, .long 0, .int 0, .int 0, .null, .null, .null, .null, .null, .null, .int 0, .null, .null, .null, .null, .null, .null, .null, .null]
def mc_getf (G : mc_H) (k ci j : Nat) : Option Value := match G[k]? with
  | some (.inr (.inr (c, fs))) => if c = ci then fs[j]? else none
  | _ => none
def mc_fit (ty : FieldType) (v : Value) : Bool := match ty, v with
  | .int, .int _ => true
  | .boolean, .int x => x == 0 || x == 1
  | .long, .long _ => true
  | .object _, .ref _ => true
  | .array _, .ref _ => true
  | _, _ => false
def mc_setf (G : mc_H) (k ci j : Nat) (v : Value) : Option mc_H := match G[k]? with
  | some (.inr (.inr (c, fs))) => if c = ci ∧ j < fs.length ∧ mc_fit (mc_ty ci j) v = true then some (G.set k (.inr (.inr (c, fs.set j v)))) else none
  | _ => none
/-- a number of an array (t: 0 int, 1 boolean) or of a table -/
def mc_getA (X : mc_X) (G : mc_H) (t : Nat) (r : Value) (i : Int32) : Option Int32 := match r with
  | .ref k => match G[k]? with
    | some (.inl (t', n, f)) => if t' = t ∧ ¬ (i < 0 ∨ n ≤ i.toNatClampNeg) then some (f i.toNatClampNeg) else none
    | _ => none
  | .float w => if t = 0 ∧ w.toNat < 4 ∧ ¬ (i < 0 ∨ (X w.toNat).1 ≤ i.toNatClampNeg) then some ((X w.toNat).2 i.toNatClampNeg) else none
  | _ => none
def mc_setA (G : mc_H) (t k : Nat) (i x : Int32) : Option mc_H := match G[k]? with
  | some (.inl (t', n, f)) => if t' = t ∧ ¬ (i < 0 ∨ n ≤ i.toNatClampNeg) then some (G.set k (.inl (t', n, upd f i.toNatClampNeg x))) else none
  | _ => none
def mc_len (X : mc_X) (G : mc_H) (r : Value) : Option Int32 := match r with
  | .ref k => match G[k]? with
    | some (.inl (t', n, _)) => if t' = 0 then some (Int32.ofNat n) else none
    | _ => none
  | .float w => if w.toNat < 4 then some (Int32.ofNat (X w.toNat).1) else none
  | _ => none
def mc_getQ (G : mc_H) (k : Nat) (i : Int32) : Option Nat := match G[k]? with
  | some (.inr (.inl (t, n, f))) => if (t = 2 ∨ t = 3) ∧ ¬ (i < 0 ∨ n ≤ i.toNatClampNeg) then f i.toNatClampNeg else none
  | _ => none
def mc_cls (G : mc_H) (k : Nat) : Option Nat := match G[k]? with
  | some (.inr (.inr (c, _))) => some c
  | _ => none
def mc_setQ (G : mc_H) (k : Nat) (i : Int32) (v : Nat) : Option mc_H := match G[k]? with
  | some (.inr (.inl (t, n, f))) => if ((t = 2 ∧ mc_cls G v = some 5) ∨ (t = 3 ∧ mc_cls G v = some 6)) ∧ ¬ (i < 0 ∨ n ≤ i.toNatClampNeg) then some (G.set k (.inr (.inl (t, n, va_up f i.toNatClampNeg (some v))))) else none
  | _ => none
def mc_cpy (G : mc_H) (a0 a : Nat) (sp dp n : Int32) : Option mc_H := match G[a0]?, G[a]? with
  | some (.inl (t0, n0, f)), some (.inl (t1, n1, g)) =>
    if t0 = 0 ∧ t1 = 0 ∧ ¬ sp < 0 ∧ ¬ dp < 0 ∧ ¬ n < 0 ∧ sp.toNatClampNeg + n.toNatClampNeg ≤ n0 ∧ dp.toNatClampNeg + n.toNatClampNeg ≤ n1 then
      some (G.set a (.inl (t1, n1, va_cpy f g sp.toNatClampNeg dp.toNatClampNeg n.toNatClampNeg))) else none
  | _, _ => none
def mc_tgt (pc : Nat) (off : Int) : Nat := ((pc : Int) + off).toNat
/-- the variables at a call -/
def mc_pad (n : Nat) (vs : List Value) : List Value := vs ++ List.replicate (n - vs.length) .null
/-- all of one word -/
def mc_c1 (vs : List Value) : Bool := vs.all (fun v => v.category == 1)
/-- one step at an instruction -/
def mc_ex (X : mc_X) (mi pc : Nat) (E : mc_E) (ls st : List Value) (G : mc_H) : Option mc_S := match E.1 with
  | .iconst n => some (.inl (pc + 1, ls, .int (Int32.ofInt n) :: st, G))
  | .bipush n => some (.inl (pc + 2, ls, .int (Int8.ofInt n).toInt32 :: st, G))
  | .sipush n => some (.inl (pc + 3, ls, .int (Int16.ofInt n).toInt32 :: st, G))
  | .lconst n => some (.inl (pc + 1, ls, .long (Int64.ofNat (n : Nat)) :: st, G))
  | .ldc _ => some (.inl (pc + 2, ls, .int (Int32.ofInt E.2.2.2.2.2) :: st, G))
  | .ldc_w _ => some (.inl (pc + 3, ls, .int (Int32.ofInt E.2.2.2.2.2) :: st, G))
  | .ldc2_w _ => some (.inl (pc + 3, ls, .long (Int64.ofInt E.2.2.2.2.2) :: st, G))
  | .iload_n k => match ls[(k : Nat)]? with
    | some (.int x) => some (.inl (pc + 1, ls, .int x :: st, G))
    | _ => none
  | .iload k => match ls[k]? with
    | some (.int x) => some (.inl (pc + 2, ls, .int x :: st, G))
    | _ => none
  | .aload_n k => match ls[(k : Nat)]? with
    | some (.ref x) => some (.inl (pc + 1, ls, .ref x :: st, G))
    | some (.float x) => some (.inl (pc + 1, ls, .float x :: st, G))
    | _ => none
  | .aload k => match ls[k]? with
    | some (.ref x) => some (.inl (pc + 2, ls, .ref x :: st, G))
    | some (.float x) => some (.inl (pc + 2, ls, .float x :: st, G))
    | _ => none
  | .istore_n k => match st with
    | .int x :: st => if (k : Nat) < ls.length then some (.inl (pc + 1, ls.set k (.int x), st, G)) else none
    | _ => none
  | .istore k => match st with
    | .int x :: st => if k < ls.length then some (.inl (pc + 2, ls.set k (.int x), st, G)) else none
    | _ => none
  | .astore_n k => match st with
    | .ref x :: st => if (k : Nat) < ls.length then some (.inl (pc + 1, ls.set k (.ref x), st, G)) else none
    | _ => none
  | .astore k => match st with
    | .ref x :: st => if k < ls.length then some (.inl (pc + 2, ls.set k (.ref x), st, G)) else none
    | _ => none
  | .iinc k n => match ls[k]? with
    | some (.int x) => some (.inl (pc + 3, ls.set k (.int (x + Int32.ofInt n)), st, G))
    | _ => none
  | .iadd => match st with
    | .int y :: .int x :: st => some (.inl (pc + 1, ls, .int (x + y) :: st, G))
    | _ => none
  | .isub => match st with
    | .int y :: .int x :: st => some (.inl (pc + 1, ls, .int (x - y) :: st, G))
    | _ => none
  | .imul => match st with
    | .int y :: .int x :: st => some (.inl (pc + 1, ls, .int (x * y) :: st, G))
    | _ => none
  | .iand => match st with
    | .int y :: .int x :: st => some (.inl (pc + 1, ls, .int (x &&& y) :: st, G))
    | _ => none
  | .ior => match st with
    | .int y :: .int x :: st => some (.inl (pc + 1, ls, .int (x ||| y) :: st, G))
    | _ => none
  | .ixor => match st with
    | .int y :: .int x :: st => some (.inl (pc + 1, ls, .int (x ^^^ y) :: st, G))
    | _ => none
  | .idiv => match st with
    | .int y :: .int x :: st => if y = 0 then none else some (.inl (pc + 1, ls, .int (x / y) :: st, G))
    | _ => none
  | .irem => match st with
    | .int y :: .int x :: st => if y = 0 then none else some (.inl (pc + 1, ls, .int (x - x / y * y) :: st, G))
    | _ => none
  | .ineg => match st with
    | .int x :: st => some (.inl (pc + 1, ls, .int (-x) :: st, G))
    | _ => none
  | .ishl => match st with
    | .int y :: .int x :: st => some (.inl (pc + 1, ls, .int (x <<< (y &&& 31)) :: st, G))
    | _ => none
  | .ishr => match st with
    | .int y :: .int x :: st => some (.inl (pc + 1, ls, .int (x >>> (y &&& 31)) :: st, G))
    | _ => none
  | .iushr => match st with
    | .int y :: .int x :: st => some (.inl (pc + 1, ls, .int ((x.toUInt32 >>> (y.toUInt32 &&& Int32.toUInt32 31)).toInt32) :: st, G))
    | _ => none
  | .i2l => match st with
    | .int x :: st => some (.inl (pc + 1, ls, .long x.toInt64 :: st, G))
    | _ => none
  | .i2b => match st with
    | .int x :: st => some (.inl (pc + 1, ls, .int x.toInt8.toInt32 :: st, G))
    | _ => none
  | .i2s => match st with
    | .int x :: st => some (.inl (pc + 1, ls, .int x.toInt16.toInt32 :: st, G))
    | _ => none
  | .ladd => match st with
    | .long y :: .long x :: st => some (.inl (pc + 1, ls, .long (x + y) :: st, G))
    | _ => none
  | .lcmp => match st with
    | .long y :: .long x :: st => some (.inl (pc + 1, ls, .int (lg_cmp x y) :: st, G))
    | _ => none
  | .dup => match st with
    | v :: st => if v.category = 1 then some (.inl (pc + 1, ls, v :: v :: st, G)) else none
    | _ => none
  | .ifCond c off => match st with
    | .int x :: st => match c with
      | .eq => if x = 0 then some (.inl (mc_tgt pc off, ls, st, G)) else some (.inl (pc + 3, ls, st, G))
      | .ne => if x = 0 then some (.inl (pc + 3, ls, st, G)) else some (.inl (mc_tgt pc off, ls, st, G))
      | .lt => if x < 0 then some (.inl (mc_tgt pc off, ls, st, G)) else some (.inl (pc + 3, ls, st, G))
      | .ge => if x < 0 then some (.inl (pc + 3, ls, st, G)) else some (.inl (mc_tgt pc off, ls, st, G))
      | .gt => if 0 < x then some (.inl (mc_tgt pc off, ls, st, G)) else some (.inl (pc + 3, ls, st, G))
      | .le => if 0 < x then some (.inl (pc + 3, ls, st, G)) else some (.inl (mc_tgt pc off, ls, st, G))
    | _ => none
  | .if_icmp c off => match st with
    | .int y :: .int x :: st => match c with
      | .eq => if x = y then some (.inl (mc_tgt pc off, ls, st, G)) else some (.inl (pc + 3, ls, st, G))
      | .ne => if x = y then some (.inl (pc + 3, ls, st, G)) else some (.inl (mc_tgt pc off, ls, st, G))
      | .lt => if x < y then some (.inl (mc_tgt pc off, ls, st, G)) else some (.inl (pc + 3, ls, st, G))
      | .ge => if x < y then some (.inl (pc + 3, ls, st, G)) else some (.inl (mc_tgt pc off, ls, st, G))
      | .gt => if y < x then some (.inl (mc_tgt pc off, ls, st, G)) else some (.inl (pc + 3, ls, st, G))
      | .le => if y < x then some (.inl (pc + 3, ls, st, G)) else some (.inl (mc_tgt pc off, ls, st, G))
    | _ => none
  | .goto off => some (.inl (mc_tgt pc off, ls, st, G))
  | .tableswitch d lo hi offs => match st with
    | .int x :: st => if x.toInt < lo ∨ hi < x.toInt then some (.inl (mc_tgt pc d, ls, st, G)) else
      match offs[(x.toInt - lo).toNat]? with
      | some off => if 0 ≤ (pc : Int) + off then some (.inl (mc_tgt pc off, ls, st, G)) else none
      | none => none
    | _ => none
  | .lookupswitch d ps => match st with
    | .int x :: st => if 0 ≤ (pc : Int) + Op.lookupswitch.offset ps.toList d x.toInt then some (.inl (mc_tgt pc (Op.lookupswitch.offset ps.toList d x.toInt), ls, st, G)) else none
    | _ => none
  | .getfield _ => match st with
    | .ref k :: st => match mc_getf G k E.2.2.1 E.2.2.2.1 with
      | some v => some (.inl (pc + 3, ls, v :: st, G))
      | none => none
    | _ => none
  | .putfield _ => match st with
    | v :: .ref k :: st => match mc_setf G k E.2.2.1 E.2.2.2.1 v with
      | some G' => some (.inl (pc + 3, ls, st, G'))
      | none => none
    | _ => none
  | .getstatic _ => some (.inl (pc + 3, ls, .float (UInt32.ofNat E.2.2.1) :: st, G))
  | .iaload => match st with
    | .int i :: r :: st => match mc_getA X G 0 r i with
      | some x => some (.inl (pc + 1, ls, .int x :: st, G))
      | none => none
    | _ => none
  | .baload => match st with
    | .int i :: r :: st => match mc_getA X G 1 r i with
      | some x => some (.inl (pc + 1, ls, .int x :: st, G))
      | none => none
    | _ => none
  | .iastore => match st with
    | .int x :: .int i :: .ref k :: st => match mc_setA G 0 k i x with
      | some G' => some (.inl (pc + 1, ls, st, G'))
      | none => none
    | _ => none
  | .bastore => match st with
    | .int x :: .int i :: .ref k :: st => match mc_setA G 1 k i (vp_nar .boolean x) with
      | some G' => some (.inl (pc + 1, ls, st, G'))
      | none => none
    | _ => none
  | .arraylength => match st with
    | r :: st => match mc_len X G r with
      | some n => some (.inl (pc + 1, ls, .int n :: st, G))
      | none => none
    | _ => none
  | .aaload => match st with
    | .int i :: .ref k :: st => match mc_getQ G k i with
      | some x => some (.inl (pc + 1, ls, .ref x :: st, G))
      | none => none
    | _ => none
  | .aastore => match st with
    | .ref v :: .int i :: .ref k :: st => match mc_setQ G k i v with
      | some G' => some (.inl (pc + 1, ls, st, G'))
      | none => none
    | _ => none
  | .new _ => some (.inl (pc + 3, ls, .ref G.length :: st, G ++ [.inr (.inr (E.2.2.1, mc_df E.2.2.1))]))
  | .newarray _ => match st with
    | .int n :: st => if n < 0 ∨ 65536 < n.toNatClampNeg then none else some (.inl (pc + 2, ls, .ref G.length :: st, G ++ [.inl (E.2.2.1, n.toNatClampNeg, fun _ => 0)]))
    | _ => none
  | .anewarray _ => match st with
    | .int n :: st => if n < 0 ∨ 65536 < n.toNatClampNeg then none else some (.inl (pc + 3, ls, .ref G.length :: st, G ++ [.inr (.inl (E.2.2.1, n.toNatClampNeg, fun _ => none))]))
    | _ => none
  | .invokespecial _ => if E.2.2.1 = 999 then
      match st with
      | .ref _ :: rest => if rest.length ≤ 4 then some (.inl (pc + 3, ls, rest, G)) else none
      | _ => none
    else match st.drop (mc_np E.2.2.1) with
      | .ref b :: rest => if rest.length ≤ 4 ∧ mc_c1 (st.take (mc_np E.2.2.1)) = true then some (.inr (.inl (E.2.2.1, mc_pad (mc_ml E.2.2.1) (.ref b :: (st.take (mc_np E.2.2.1)).reverse), rest))) else none
      | _ => none
  | .invokevirtual _ => match st.drop (mc_np E.2.2.1) with
      | .ref b :: rest => if rest.length ≤ 4 ∧ mc_cls G b = some (mc_own E.2.2.1) ∧ mc_c1 (st.take (mc_np E.2.2.1)) = true then some (.inr (.inl (E.2.2.1, mc_pad (mc_ml E.2.2.1) (.ref b :: (st.take (mc_np E.2.2.1)).reverse), rest))) else none
      | _ => none
  | .invokestatic _ => if E.2.2.1 = 998 then
      match st with
      | .int n :: .int dp :: .ref a :: .int sp :: .ref a0 :: rest => if rest.length ≤ 4 then
          match mc_cpy G a0 a sp dp n with
          | some G' => some (.inl (pc + 3, ls, rest, G'))
          | none => none
        else none
      | _ => none
    else if E.2.2.1 = 176 then
      match st with
      | .int x :: rest => if rest.length ≤ 4 then some (.inl (pc + 3, ls, .int (if 0 ≤ x then x else 0 - x) :: rest, G)) else none
      | _ => none
    else if E.2.2.1 = 177 then
      match st with
      | .int y :: .int x :: rest => if rest.length ≤ 4 then some (.inl (pc + 3, ls, .int (if x < y then y else x) :: rest, G)) else none
      | _ => none
    else if E.2.2.1 = 178 then
      match st with
      | .int y :: .int x :: rest => if rest.length ≤ 4 then some (.inl (pc + 3, ls, .int (if y < x then y else x) :: rest, G)) else none
      | _ => none
    else if mc_np E.2.2.1 ≤ st.length ∧ (st.drop (mc_np E.2.2.1)).length ≤ 4 ∧ mc_c1 (st.take (mc_np E.2.2.1)) = true then some (.inr (.inl (E.2.2.1, mc_pad (mc_ml E.2.2.1) (st.take (mc_np E.2.2.1)).reverse, st.drop (mc_np E.2.2.1)))) else none
  | .ireturn => match st with
    | [.int v] => if mc_rt mi = some .int ∨ (mc_rt mi = some .boolean ∧ (v = 0 ∨ v = 1)) then some (.inr (.inr (some (.int v)))) else none
    | _ => none
  | .lreturn => match st with
    | [.long v] => if mc_rt mi = some .long then some (.inr (.inr (some (.long v)))) else none
    | _ => none
  | .areturn => match st, mc_rt mi with
    | [.ref v], some (.object _) => some (.inr (.inr (some (.ref v))))
    | _, _ => none
  | .return_ => match st with
    | [] => if mc_rt mi = none then some (.inr (.inr none)) else none
    | _ => none
  | _ => none
def mc_st (X : mc_X) (mi pc : Nat) (ls st : List Value) (G : mc_H) : Option mc_S := match mc_code mi pc with
  | some E => mc_ex X mi pc E ls st G
  | none => none
def mc_F (X : mc_X) (kk : mc_K) : mc_K := fun mi pc ls st G => match mc_st X mi pc ls st G with
  | some (.inl (pc', ls', st', G')) => kk mi pc' ls' st' G'
  | some (.inr (.inl (cm, cl, rest))) => match kk cm 0 cl [] G with
    | some (v, G') => kk mi (pc + 3) ls (v.toList ++ rest) G'
    | none => none
  | some (.inr (.inr v)) => some (v, G)
  | none => none
def mc_run (X : mc_X) : Nat → mc_K
  | 0 => fun _ _ _ _ _ => none
  | n + 1 => mc_F X (mc_run X n)
theorem mc_F_mono {X : mc_X} {k1 k2 : mc_K} (h : ∀ mi pc ls st G r, k1 mi pc ls st G = some r → k2 mi pc ls st G = some r) : ∀ mi pc ls st G r, mc_F X k1 mi pc ls st G = some r → mc_F X k2 mi pc ls st G = some r := by
  intro mi pc ls st G r hr
  unfold mc_F at hr ⊢
  split at hr
  · exact h _ _ _ _ _ _ hr
  · rename_i cm cl rest _
    cases h1 : k1 cm 0 cl [] G with
    | none => rw [h1] at hr; cases hr
    | some q =>
      rw [h1] at hr
      rw [h _ _ _ _ _ _ h1]
      exact h _ _ _ _ _ _ hr
  · exact hr
  · cases hr
theorem mc_run_succ {X : mc_X} : ∀ (n : Nat) mi pc ls st G r, mc_run X n mi pc ls st G = some r → mc_run X (n + 1) mi pc ls st G = some r
  | 0 => fun _ _ _ _ _ _ h => by cases h
  | n + 1 => mc_F_mono (mc_run_succ n)
theorem mc_run_le {X : mc_X} {n n' : Nat} (hn : n ≤ n') {mi pc : Nat} {ls st : List Value} {G : mc_H} {r : Option Value × mc_H} (h : mc_run X n mi pc ls st G = some r) : mc_run X n' mi pc ls st G = some r := by
  induction hn with
  | refl => exact h
  | step _ ih => exact mc_run_succ _ _ _ _ _ _ _ ih
/-- what a run comes to, without fuel -/
noncomputable def mc_ev (X : mc_X) : mc_K := fun mi pc ls st G => by
  classical exact if h : ∃ r, ∃ n, mc_run X n mi pc ls st G = some r then some (Classical.choose h) else none
theorem mc_ev_iff {X : mc_X} {mi pc : Nat} {ls st : List Value} {G : mc_H} {r : Option Value × mc_H} : mc_ev X mi pc ls st G = some r ↔ ∃ n, mc_run X n mi pc ls st G = some r := by
  unfold mc_ev
  constructor
  · intro h
    split at h
    · rename_i hh
      obtain ⟨n, hn⟩ := Classical.choose_spec hh
      exact ⟨n, by rw [hn]; exact h⟩
    · cases h
  · intro h
    have hh : ∃ r, ∃ n, mc_run X n mi pc ls st G = some r := ⟨r, h⟩
    rw [dif_pos hh]
    obtain ⟨n, hn⟩ := h
    obtain ⟨n2, hn2⟩ := Classical.choose_spec hh
    have a := mc_run_le (Nat.le_max_left n n2) hn
    have b := mc_run_le (Nat.le_max_right n n2) hn2
    rw [a] at b
    exact b.symm
theorem mc_ev_eq {X : mc_X} (mi pc : Nat) (ls st : List Value) (G : mc_H) : mc_ev X mi pc ls st G = mc_F X (mc_ev X) mi pc ls st G := by
  apply Option.ext
  intro r
  constructor
  · intro h
    obtain ⟨n, hn⟩ := mc_ev_iff.mp h
    cases n with
    | zero => cases hn
    | succ n => exact mc_F_mono (fun _ _ _ _ _ _ h => mc_ev_iff.mpr ⟨n, h⟩) _ _ _ _ _ _ hn
  · intro h
    apply mc_ev_iff.mpr
    unfold mc_F at h
    split at h
    · rename_i hs
      obtain ⟨n, hn⟩ := mc_ev_iff.mp h
      refine ⟨n + 1, ?_⟩
      show mc_F X (mc_run X n) mi pc ls st G = some r
      unfold mc_F
      rw [hs]
      exact hn
    · rename_i cm cl rest hs
      cases h1 : mc_ev X cm 0 cl [] G with
      | none => rw [h1] at h; cases h
      | some q =>
        rw [h1] at h
        obtain ⟨v, G'⟩ := q
        obtain ⟨n1, hn1⟩ := mc_ev_iff.mp h1
        obtain ⟨n2, hn2⟩ := mc_ev_iff.mp h
        refine ⟨max n1 n2 + 1, ?_⟩
        show mc_F X (mc_run X (max n1 n2)) mi pc ls st G = some r
        unfold mc_F
        rw [hs]
        dsimp only
        rw [mc_run_le (Nat.le_max_left n1 n2) hn1]
        exact mc_run_le (Nat.le_max_right n1 n2) hn2
    · rename_i v hs
      refine ⟨1, ?_⟩
      show mc_F X (mc_run X 0) mi pc ls st G = some r
      unfold mc_F
      rw [hs]
      exact h
    · cases h
set_option maxHeartbeats 4000000 in
theorem mc_ex_grow0 {X : mc_X} {mi pc pc' : Nat} {E : mc_E} {ls st ls' st' : List Value} {G G' : mc_H} (h : mc_ex X mi pc E ls st G = some (.inl (pc', ls', st', G'))) :
    G' = G ∨ (∃ c, G' = G ++ [c]) ∨ (∃ k ci j v, mc_setf G k ci j v = some G') ∨ (∃ t k i x, mc_setA G t k i x = some G') ∨ (∃ k i v, mc_setQ G k i v = some G') ∨ (∃ a0 a sp dp n, mc_cpy G a0 a sp dp n = some G') := by
  obtain ⟨ins, len, a, b, w, kc⟩ := E
  unfold mc_ex at h
  dsimp only at h
  split at h
  all_goals try (cases h; done)
  all_goals try (cases h; exact Or.inl rfl)
  all_goals try (cases h; exact Or.inr (Or.inl ⟨_, rfl⟩))
  all_goals try split at h
  all_goals try (cases h; done)
  all_goals try (cases h; exact Or.inl rfl)
  all_goals try (cases h; exact Or.inr (Or.inl ⟨_, rfl⟩))
  all_goals try split at h
  all_goals try (cases h; done)
  all_goals try (cases h; exact Or.inl rfl)
  all_goals try (cases h; exact Or.inr (Or.inl ⟨_, rfl⟩))
  all_goals try split at h
  all_goals try (cases h; done)
  all_goals try (cases h; exact Or.inl rfl)
  all_goals try split at h
  all_goals try (cases h; done)
  all_goals try (cases h; exact Or.inl rfl)
  all_goals try split at h
  all_goals try (cases h; done)
  all_goals try (cases h; exact Or.inl rfl)
  all_goals try split at h
  all_goals try (cases h; done)
  all_goals try (cases h; exact Or.inl rfl)
  all_goals first
    | (cases h; exact Or.inr (Or.inr (Or.inl ⟨_, _, _, _, by assumption⟩)))
    | (cases h; exact Or.inr (Or.inr (Or.inr (Or.inl ⟨_, _, _, _, by assumption⟩))))
    | (cases h; exact Or.inr (Or.inr (Or.inr (Or.inr (Or.inl ⟨_, _, _, by assumption⟩)))))
    | (cases h; exact Or.inr (Or.inr (Or.inr (Or.inr (Or.inr ⟨_, _, _, _, _, by assumption⟩)))))
end
section
/-! cells and values of the small machine as the machine has them -/
def mc_cv (z : Nat) (ta : Nat → Nat) : Value → Value
  | .ref k => .ref (z + k)
  | .float w => .ref (ta w.toNat)
  | .int x => .int x
  | .long x => .long x
  | .double x => .double x
  | .null => .null
  | .retAddr x => .retAddr x
theorem mc_cv_cat (z : Nat) (ta : Nat → Nat) (v : Value) : (mc_cv z ta v).category = v.category := by cases v <;> rfl
def mc_ce (z : Nat) (ta : Nat → Nat) (cA : Nat → ClassId) : mc_C → va_E
  | .inl (t, n, f) => .inl (cA t, n, .inl f)
  | .inr (.inl (t, n, f)) => .inl (cA t, n, .inr (.inr (.inr (.inr (fun j => (f j).map (z + ·))))))
  | .inr (.inr (ci, fs)) => .inr (ci, fs.map (mc_cv z ta))
def mc_w (z : Nat) (ta : Nat → Nat) (cA : Nat → ClassId) (G : mc_H) : va_W := G.mapIdx (fun k c => (z + k, mc_ce z ta cA c))
def mc_sz : mc_C → Nat
  | .inl (_, n, _) => n
  | .inr (.inl (_, n, _)) => n
  | .inr (.inr (_, fs)) => fs.length
def mc_sl (G : mc_H) : Nat := (G.map mc_sz).sum
section MCW
variable {z : Nat} {ta : Nat → Nat} {cA : Nat → ClassId} {G : mc_H}
theorem mc_w_get (k : Nat) : (mc_w z ta cA G)[k]? = (G[k]?).map (fun c => (z + k, mc_ce z ta cA c)) := by
  unfold mc_w
  rw [List.getElem?_mapIdx]
theorem mc_w_at {k : Nat} {c : mc_C} (h : G[k]? = some c) : (mc_w z ta cA G)[k]? = some (z + k, mc_ce z ta cA c) := by
  rw [mc_w_get, h]; rfl
theorem mc_w_len : (mc_w z ta cA G).length = G.length := by simp [mc_w]
theorem mc_w_set (k : Nat) (c : mc_C) : (mc_w z ta cA G).set k (z + k, mc_ce z ta cA c) = mc_w z ta cA (G.set k c) := by
  apply List.ext_getElem?
  intro i
  rw [List.getElem?_set, mc_w_get, mc_w_get, List.getElem?_set, mc_w_len]
  by_cases hk : k = i
  · subst hk
    by_cases hl : k < G.length
    · simp [hl]
    · simp [hl]
  · simp [hk]
theorem mc_w_app (c : mc_C) : mc_w z ta cA (G ++ [c]) = mc_w z ta cA G ++ [(z + G.length, mc_ce z ta cA c)] := by
  unfold mc_w
  rw [List.mapIdx_append]
  simp
theorem mc_w_D : va_D (fun q => z ≤ q) (mc_w z ta cA G) := by
  refine ⟨fun i j p q hi hj hpq => ?_, fun k q hk => ?_⟩
  · rw [mc_w_get] at hi hj
    obtain ⟨a, -, rfl⟩ := Option.map_eq_some_iff.mp hi
    obtain ⟨b, -, rfl⟩ := Option.map_eq_some_iff.mp hj
    dsimp only at hpq
    omega
  · rw [mc_w_get] at hk
    obtain ⟨a, -, rfl⟩ := Option.map_eq_some_iff.mp hk
    exact Nat.le_add_right _ _
theorem mc_sl_set {k : Nat} {c c' : mc_C} (h : G[k]? = some c) (hs : mc_sz c' = mc_sz c) : mc_sl (G.set k c') = mc_sl G := by
  unfold mc_sl
  congr 1
  apply List.ext_getElem?
  intro i
  rw [List.getElem?_map, List.getElem?_map, List.getElem?_set]
  by_cases hk : k = i
  · subst hk
    have hl := (List.getElem?_eq_some_iff.mp h).1
    simp [hl, h, hs]
    obtain ⟨_, he⟩ := List.getElem?_eq_some_iff.mp h
    rw [he]
  · simp [hk]
theorem mc_sl_app (c : mc_C) : mc_sl (G ++ [c]) = mc_sl G + mc_sz c := by simp [mc_sl]
end MCW
/-- the variables -/
def mc_L (z : Nat) (ta : Nat → Nat) (la : Array Slot) (nL : Nat) (lv : List Value) : Prop :=
  lv.length = nL ∧ la.size = nL ∧ lv_wf la ∧ (∀ (k : Nat) (v : Value), lv[k]? = some v → v.category = 1) ∧ ∀ (k : Nat) (v : Value), lv[k]? = some v → v ≠ Value.null → la[k]? = some (Slot.val (mc_cv z ta v))
def mc_as (z : Nat) (ta : Nat → Nat) (lv : List Value) : List (Nat × Value) := (List.range lv.length).filterMap (fun (k : Nat) => match lv[k]? with
  | some Value.null => none
  | some v => some (k, mc_cv z ta v)
  | none => none)
section MCL
variable {z : Nat} {ta : Nat → Nat} {la : Array Slot} {nL : Nat} {lv : List Value}
theorem mc_as_mem {k : Nat} {v : Value} (h : lv[k]? = some v) (hn : v ≠ .null) : (k, mc_cv z ta v) ∈ mc_as z ta lv := by
  refine List.mem_filterMap.mpr ⟨k, List.mem_range.mpr (List.getElem?_eq_some_iff.mp h).1, ?_⟩
  rw [h]
  cases v <;> first | rfl | exact absurd rfl hn
theorem mc_L.has (h : mc_L z ta la nL lv) : lv_has la nL (mc_as z ta lv) := by
  obtain ⟨h1, h2, h3, h4, h5⟩ := h
  refine ⟨h2, h3, fun q hq => ?_⟩
  obtain ⟨k, -, hk⟩ := List.mem_filterMap.mp hq
  cases hv : lv[k]? with
  | none => rw [hv] at hk; cases hk
  | some v =>
    rw [hv] at hk
    have h6 := h5 k v hv
    cases v <;> first | (cases hk; done) | (cases hk; exact h6 (fun e => by cases e))
theorem mc_L.at (h : mc_L z ta la nL lv) {k : Nat} {v : Value} (hk : lv[k]? = some v) (hn : v ≠ .null) : la[k]? = some (.val (mc_cv z ta v)) := h.2.2.2.2 k v hk hn
theorem mc_L.set (h : mc_L z ta la nL lv) {k : Nat} {v : Value} (hv : v.category = 1) {la' : Array Slot} (h' : lv_has la' nL ((k, mc_cv z ta v) :: (mc_as z ta lv).filter (fun q => !(q.1 == k) && !(q.1 + 1 == k && q.2.category == 2)))) : mc_L z ta la' nL (lv.set k v) := by
  obtain ⟨h1, h2, h3, h4, h5⟩ := h
  refine ⟨by rw [List.length_set]; exact h1, h'.1, h'.2.1, fun j w hj => ?_, fun j w hj hn => ?_⟩
  · rw [List.getElem?_set] at hj
    by_cases hk : k = j
    · rw [if_pos hk] at hj
      split at hj
      · cases hj; exact hv
      · cases hj
    · rw [if_neg hk] at hj
      exact h4 j w hj
  · rw [List.getElem?_set] at hj
    by_cases hk : k = j
    · rw [if_pos hk] at hj
      split at hj
      · cases hj
        rw [← hk]
        exact h'.2.2 _ List.mem_cons_self
      · cases hj
    · rw [if_neg hk] at hj
      have hc := h4 j w hj
      refine h'.2.2 (j, mc_cv z ta w) (List.mem_cons_of_mem _ (List.mem_filter.mpr ⟨mc_as_mem hj hn, ?_⟩))
      have e1 : (j == k) = false := by simp [Ne.symm hk]
      have e2 : ((mc_cv z ta w).category == 2) = false := by rw [mc_cv_cat, hc]; rfl
      simp only [e1, e2]
      simp
theorem mc_args_mem : ∀ (vs : List Value) (i : Nat), (∀ v ∈ vs, v.category = 1) → ∀ (k : Nat) (v : Value), vs[k]? = some v → (i + k, v) ∈ lv_args i vs
  | [], _, _ => fun k v h => by simp at h
  | w :: vs, i, hc => fun k v h => by
    have hw : w.category = 1 := hc w List.mem_cons_self
    have e : lv_args i (w :: vs) = (i, w) :: lv_args (i + 1) vs := by
      show (i, w) :: lv_args (if w.category = 2 then i + 2 else i + 1) vs = _
      rw [hw]; rfl
    rw [e]
    cases k with
    | zero => simp at h; rw [h]; exact List.mem_cons_self
    | succ k =>
      rw [List.getElem?_cons_succ] at h
      have := mc_args_mem vs (i + 1) (fun v hv => hc v (List.mem_cons_of_mem _ hv)) k v h
      rw [show i + (k + 1) = i + 1 + k by omega]
      exact List.mem_cons_of_mem _ this
theorem mc_sl_len : ∀ (vs : List Value), (∀ v ∈ vs, v.category = 1) → (lg_sl vs).length = vs.length
  | [], _ => rfl
  | w :: vs, hc => by
    have hw : w.category = 1 := hc w List.mem_cons_self
    have := mc_sl_len vs (fun v hv => hc v (List.mem_cons_of_mem _ hv))
    unfold lg_sl at this ⊢
    rw [List.flatMap_cons, hw]
    simp only [List.length_append, this]
    simp
    omega
/-- at a method's entry -/
theorem mc_L.entry (vs : List Value) {n : Nat} (hc : ∀ v ∈ vs, v.category = 1) (hn : vs.length ≤ n) : mc_L z ta ((lg_sl (vs.map (mc_cv z ta)) ++ List.replicate (n - (lg_sl (vs.map (mc_cv z ta))).length) Slot.unset).toArray) n (mc_pad n vs) := by
  have hc' : ∀ v ∈ vs.map (mc_cv z ta), v.category = 1 := by
    intro v hv
    obtain ⟨w, hw, rfl⟩ := List.mem_map.mp hv
    rw [mc_cv_cat]; exact hc w hw
  have hlen := mc_sl_len _ hc'
  rw [List.length_map] at hlen
  obtain ⟨g1, g2, g3⟩ := lv_entry (vs.map (mc_cv z ta)) (n := n) (by omega)
  refine ⟨by simp [mc_pad]; omega, g1, g2, fun k v hk => ?_, fun k v hk hv => ?_⟩
  · unfold mc_pad at hk
    rcases List.mem_append.mp (List.mem_of_getElem? hk) with h | h
    · exact hc v h
    · rw [(List.mem_replicate.mp h).2]; rfl
  · unfold mc_pad at hk
    by_cases hkl : k < vs.length
    · rw [List.getElem?_append_left hkl] at hk
      have := mc_args_mem (vs.map (mc_cv z ta)) 0 hc' k (mc_cv z ta v) (by rw [List.getElem?_map, hk]; rfl)
      rw [Nat.zero_add] at this
      exact g3 _ this
    · rw [List.getElem?_append_right (by omega)] at hk
      exact absurd (List.mem_replicate.mp (List.mem_of_getElem? hk)).2 hv
end MCL
/-- the words that live through a call -/
def mc_Ts : List Cond := lw_tbl.filter goodWord
def mc_tys (cA : Nat → ClassId) : List (ClassId × FieldType) := [(cA 0, .int), (cA 1, .boolean), (cA 2, .object RX5), (cA 3, .object RX6)]
/-- what stands around all calls: class tables, static tables, words of nest mates -/
def mc_U (z : Nat) (ta : Nat → Nat) (cA : Nat → ClassId) (D : va_G) (X : mc_X) (U : State) : Prop :=
  va_K D vwCl (mc_tys cA) U ∧ (∀ i, i < 3 → va_Z "NeedlePlate" (mc_sn i) "[I" (.ref (ta i)) (fun q => z ≤ q) U U.heap) ∧ (∀ i, i < 4 → va_T .int (ta i) (X i).1 (fun j => .int ((X i).2 j)) (fun q => z ≤ q) U U.heap) ∧
  (∀ a i b n d h, Cond.fieldLinkNest a i b n d h ∈ lw_tbl → va_Nw (.fieldLinkNest a i b n d h) U) ∧ (∀ a i x h, Cond.methodLinkNest a i x h ∈ lw_tbl → va_Nw (.methodLinkNest a i x h) U) ∧ (va_AO RX5 U ∧ va_AO RX6 U) ∧ z ≤ U.heap.size
section MCU
variable {z : Nat} {ta : Nat → Nat} {cA : Nat → ClassId} {D : va_G} {X : mc_X}
theorem mc_U.at {s U : State} (h : mc_U z ta cA D X s) (hW : s.WarmedH U.vm) (hz : z ≤ U.heap.size) (hq : ∀ q : Nat, q < s.heap.size → ¬ z ≤ q → U.heap[q]? = s.heap[q]?) : mc_U z ta cA D X U := by
  obtain ⟨h1, h2, h3, h4, h5, ⟨h6, h7⟩, h8⟩ := h
  refine ⟨va_K.moved hW.alike h1, fun i hi => ((h2 i hi).moved hW.alike).kept hq, fun i hi => ((h3 i hi).moved hW.alike).kept hq, fun a i b n d hh hm => va_Nw.warmF hW (h4 a i b n d hh hm), fun a i x hh hm => va_Nw.warmM hW (h5 a i x hh hm), ⟨va_AO.moved hW.alike h6, va_AO.moved hW.alike h7⟩, hz⟩
theorem mc_U.blind {U : State} {g : JFrame} {mk : MethodId} {a : Array Value} (h : mc_U z ta cA D X U) : mc_U z ta cA D X (U.calling g mk a) := by
  obtain ⟨h1, h2, h3, h4, h5, ⟨h6, h7⟩, h8⟩ := h
  have e : U.vm.Alike (U.calling g mk a).vm := Vm.Alike.refl U.vm
  exact ⟨va_K.moved e h1, fun i hi => (h2 i hi).moved e, fun i hi => (h3 i hi).moved e, fun a i b n d hh hm => va_Nw.same rfl rfl (h4 a i b n d hh hm), fun a i x hh hm => va_Nw.same rfl rfl (h5 a i x hh hm), ⟨va_AO.moved e h6, va_AO.moved e h7⟩, h8⟩
end MCU
end
section
theorem mc_Ts_in {w : Cond} {i : Nat} (h : lw_tbl[i]? = some w) (hg : goodWord w = true) : w ∈ mc_Ts := List.mem_filter.mpr ⟨List.mem_of_getElem? h, hg⟩
theorem mc_cl : ∀ ci, ci < 9 → vwCl[ci]? = some (mc_nm ci, mc_T ci, mc_N ci) := by
  intro ci h
  rcases (show ci = 0 ∨ ci = 1 ∨ ci = 2 ∨ ci = 3 ∨ ci = 4 ∨ ci = 5 ∨ ci = 6 ∨ ci = 7 ∨ ci = 8 by omega) with rfl | rfl | rfl | rfl | rfl | rfl | rfl | rfl | rfl
  · rfl
  · rfl
  · rfl
  · rfl
  · rfl
  · rfl
  · rfl
  · rfl
  · rfl
theorem mc_in_Ts {ws : List Cond} (h1 : ∀ w ∈ ws, w ∈ lw_tbl) (h2 : ws.all goodWord = true) : ∀ w ∈ ws, w ∈ mc_Ts := fun w hw => List.mem_filter.mpr ⟨h1 w hw, List.all_eq_true.mp h2 w hw⟩
theorem mc_hin : ∀ ci, ci < 9 → ∀ w ∈ u_ws (mc_nm ci) (mc_T ci) (mc_N ci), w ∈ mc_Ts := by
  intro ci h
  rcases (show ci = 0 ∨ ci = 1 ∨ ci = 2 ∨ ci = 3 ∨ ci = 4 ∨ ci = 5 ∨ ci = 6 ∨ ci = 7 ∨ ci = 8 by omega) with rfl | rfl | rfl | rfl | rfl | rfl | rfl | rfl | rfl
  · exact mc_in_Ts iX0 (by decide +kernel)
  · exact mc_in_Ts iX1 (by decide +kernel)
  · exact mc_in_Ts iX2 (by decide +kernel)
  · exact mc_in_Ts iX3 (by decide +kernel)
  · exact mc_in_Ts iX4 (by decide +kernel)
  · exact mc_in_Ts iX5 (by decide +kernel)
  · exact mc_in_Ts iX6 (by decide +kernel)
  · exact mc_in_Ts iX7 (by decide +kernel)
  · exact mc_in_Ts iX8 (by decide +kernel)
theorem mc_hty : ∀ ci, ci < 9 → ∀ k, k < mc_N ci → parseFieldDescriptor (mc_T ci k).2.2.1 = some (mc_ty ci k) := by
  intro ci h
  rcases (show ci = 0 ∨ ci = 1 ∨ ci = 2 ∨ ci = 3 ∨ ci = 4 ∨ ci = 5 ∨ ci = 6 ∨ ci = 7 ∨ ci = 8 by omega) with rfl | rfl | rfl | rfl | rfl | rfl | rfl | rfl | rfl
  · exact tyX0_ok
  · exact tyX1_ok
  · exact tyX2_ok
  · exact tyX3_ok
  · exact tyX4_ok
  · exact tyX5_ok
  · exact tyX6_ok
  · exact tyX7_ok
  · exact tyX8_ok
theorem mc_hnm : ∀ ci, ci < 9 → ∀ a, a < mc_N ci → ∀ b, b < mc_N ci → a ≠ b → (mc_T ci a).2.1 ≠ (mc_T ci b).2.1 := by
  intro ci h
  rcases (show ci = 0 ∨ ci = 1 ∨ ci = 2 ∨ ci = 3 ∨ ci = 4 ∨ ci = 5 ∨ ci = 6 ∨ ci = 7 ∨ ci = 8 by omega) with rfl | rfl | rfl | rfl | rfl | rfl | rfl | rfl | rfl
  · exact nmX0
  · exact nmX1
  · exact nmX2
  · exact nmX3
  · exact nmX4
  · exact nmX5
  · exact nmX6
  · exact nmX7
  · exact nmX8
theorem mc_hins : ∀ ci, ci < 9 → Cond.instantiable (mc_nm ci) (mc_N ci) ∈ mc_Ts := by
  intro ci h
  rcases (show ci = 0 ∨ ci = 1 ∨ ci = 2 ∨ ci = 3 ∨ ci = 4 ∨ ci = 5 ∨ ci = 6 ∨ ci = 7 ∨ ci = 8 by omega) with rfl | rfl | rfl | rfl | rfl | rfl | rfl | rfl | rfl
  · exact mc_Ts_in (i := 72) (by decide +kernel) rfl
  · exact mc_Ts_in (i := 178) (by decide +kernel) rfl
  · exact mc_Ts_in (i := 198) (by decide +kernel) rfl
  · exact mc_Ts_in (i := 225) (by decide +kernel) rfl
  · exact mc_Ts_in (i := 66) (by decide +kernel) rfl
  · exact mc_Ts_in (i := 133) (by decide +kernel) rfl
  · exact mc_Ts_in (i := 239) (by decide +kernel) rfl
  · exact mc_Ts_in (i := 58) (by decide +kernel) rfl
  · exact mc_Ts_in (i := 748) (by decide +kernel) rfl
theorem mc_hini : ∀ ci, ci < 9 → Cond.initialized (mc_nm ci) ∈ mc_Ts := by
  intro ci h
  rcases (show ci = 0 ∨ ci = 1 ∨ ci = 2 ∨ ci = 3 ∨ ci = 4 ∨ ci = 5 ∨ ci = 6 ∨ ci = 7 ∨ ci = 8 by omega) with rfl | rfl | rfl | rfl | rfl | rfl | rfl | rfl | rfl
  · exact mc_Ts_in (i := 46) (by decide +kernel) rfl
  · exact mc_Ts_in (i := 48) (by decide +kernel) rfl
  · exact mc_Ts_in (i := 49) (by decide +kernel) rfl
  · exact mc_Ts_in (i := 50) (by decide +kernel) rfl
  · exact mc_Ts_in (i := 45) (by decide +kernel) rfl
  · exact mc_Ts_in (i := 47) (by decide +kernel) rfl
  · exact mc_Ts_in (i := 51) (by decide +kernel) rfl
  · exact mc_Ts_in (i := 44) (by decide +kernel) rfl
  · exact mc_Ts_in (i := 53) (by decide +kernel) rfl
theorem mc_dfl : ∀ ci, ci < 9 → (mc_df ci).length = mc_N ci := by
  intro ci h
  rcases (show ci = 0 ∨ ci = 1 ∨ ci = 2 ∨ ci = 3 ∨ ci = 4 ∨ ci = 5 ∨ ci = 6 ∨ ci = 7 ∨ ci = 8 by omega) with rfl | rfl | rfl | rfl | rfl | rfl | rfl | rfl | rfl
  · rfl
  · rfl
  · rfl
  · rfl
  · rfl
  · rfl
  · rfl
  · rfl
  · rfl
theorem mc_dfo0 : ∀ ci, ci < 9 → ∀ j, j < mc_N ci → defaultValue (mc_ty ci j) = vp_V (mc_df ci) j := by
  intro ci h
  rcases (show ci = 0 ∨ ci = 1 ∨ ci = 2 ∨ ci = 3 ∨ ci = 4 ∨ ci = 5 ∨ ci = 6 ∨ ci = 7 ∨ ci = 8 by omega) with rfl | rfl | rfl | rfl | rfl | rfl | rfl | rfl | rfl
  · decide +kernel
  · decide +kernel
  · decide +kernel
  · decide +kernel
  · decide +kernel
  · decide +kernel
  · decide +kernel
  · decide +kernel
  · decide +kernel
theorem mc_dfc (z : Nat) (ta : Nat → Nat) : ∀ ci, (mc_df ci).map (mc_cv z ta) = mc_df ci := by
  intro ci
  unfold mc_df
  split <;> rfl
theorem mc_dfo {z : Nat} {ta : Nat → Nat} (ci : Nat) (h : ci < 9) (j : Nat) (hj : j < mc_N ci) : defaultValue (mc_ty ci j) = vp_V ((mc_df ci).map (mc_cv z ta)) j := by
  rw [mc_dfc]; exact mc_dfo0 ci h j hj
theorem mc_acI : Cond.arrayClass (newarray.typeOf .int) ∈ mc_Ts := mc_Ts_in (i := 131) (by decide +kernel) rfl
theorem mc_acZ : Cond.arrayClass (newarray.typeOf .boolean) ∈ mc_Ts := mc_Ts_in (i := 814) (by decide +kernel) rfl
theorem mc_oi1 : Cond.instanceMethod Lib.objectInit ∈ mc_Ts := mc_Ts_in (i := 63) (by decide +kernel) rfl
theorem mc_oi2 : Cond.code Lib.objectInit ⟨#[0xb1]⟩ 1 none ∈ mc_Ts := mc_Ts_in (i := 64) (by decide +kernel) rfl
theorem mc_ac1 : Cond.native arraycopyName ∈ mc_Ts := mc_Ts_in (i := 344) (by decide +kernel) rfl
theorem mc_ac2 : Cond.static arraycopyName ∈ mc_Ts := mc_Ts_in (i := 343) (by decide +kernel) rfl
theorem mc_Mabs1 : Cond.static Lib.Math.abs.name ∈ mc_Ts := mc_Ts_in (i := 409) (by decide +kernel) rfl
theorem mc_Mabs2 : Cond.code Lib.Math.abs.name Lib.Math.abs.code 1 (some .int) ∈ mc_Ts := mc_Ts_in (i := 410) (by decide +kernel) rfl
theorem mc_Mmax1 : Cond.static Lib.Math.max.name ∈ mc_Ts := mc_Ts_in (i := 279) (by decide +kernel) rfl
theorem mc_Mmax2 : Cond.code Lib.Math.max.name Lib.Math.max.code 2 (some .int) ∈ mc_Ts := mc_Ts_in (i := 280) (by decide +kernel) rfl
theorem mc_Mmin1 : Cond.static Lib.Math.min.name ∈ mc_Ts := mc_Ts_in (i := 276) (by decide +kernel) rfl
theorem mc_Mmin2 : Cond.code Lib.Math.min.name Lib.Math.min.code 2 (some .int) ∈ mc_Ts := mc_Ts_in (i := 277) (by decide +kernel) rfl
theorem mc_Mi : Cond.initialized "java/lang/Math" ∈ mc_Ts := mc_Ts_in (i := 52) (by decide +kernel) rfl
theorem mc_ac3 : Cond.initialized "java/lang/System" ∈ mc_Ts := mc_Ts_in (i := 55) (by decide +kernel) rfl
theorem mc_new_at {z q : Nat} {ta : Nat → Nat} {cA : Nat → ClassId} {D : va_G} {G : mc_H} {e : va_E} {H1 : Heap} (hP : va_P D vwCl (mc_w z ta cA G ++ [(q, e)]) H1) (hD : va_D (fun q => z ≤ q) (mc_w z ta cA G ++ [(q, e)])) (hs : H1.size ≤ z + G.length + 1) : q = z + G.length := by
  have hi : (mc_w z ta cA G ++ [(q, e)])[G.length]? = some (q, e) := by
    rw [List.getElem?_append_right (by rw [mc_w_len]; exact Nat.le_refl _), mc_w_len]; simp
  have h1 := (hP _ _ hi).lt
  have h2 : z ≤ q := hD.2 _ _ hi
  dsimp only at h1
  rcases Nat.lt_or_ge q (z + G.length) with hlt | hge
  · have hk : q - z < G.length := by omega
    have hj : (mc_w z ta cA G ++ [(q, e)])[q - z]? = some (z + (q - z), mc_ce z ta cA G[q - z]) := by
      rw [List.getElem?_append_left (by rw [mc_w_len]; exact hk)]
      exact mc_w_at (List.getElem?_eq_getElem hk)
    have := hD.1 _ _ _ _ hi hj (by show q = z + (q - z); omega)
    omega
  · omega
theorem mc_cats0 : ∀ (vs : List Value), (vs.map fun v => v.category).sum ≤ 2 * vs.length
  | [] => by simp
  | v :: vs => by
    have := mc_cats0 vs
    have hv : v.category ≤ 2 := by cases v <;> simp [Value.category]
    simp only [List.map_cons, List.sum_cons, List.length_cons]
    omega
theorem mc_cats {z : Nat} {ta : Nat → Nat} {rest : List Value} (h : rest.length ≤ 4) : ((rest.map (mc_cv z ta)).map fun v => v.category).sum ≤ 8 := by
  have := mc_cats0 (rest.map (mc_cv z ta))
  rw [List.length_map] at this
  omega
end
section
section MCS
variable {z : Nat} {ta : Nat → Nat} {cA : Nat → ClassId} {D : va_G} {X : mc_X}
variable {p : Program} {l : Launch} {e : Env} {R : Room} {s : State} {m : MethodId} {args : Array Value} {below : List Frame} {meth : Method} {c : Code} {H : Heap} {locs : List Loc} {cells slots sl0 : Nat} {Q : State → Prop}
theorem mc_Wsz {g : JFrame} (k : H.size ≤ s.heap.size + cells → W p l e R s m args below meth c H locs cells slots Q g) : W p l e R s m args below meth c H locs cells slots Q g := fun T hT X => k (by rw [← hT]; exact X.heapSize) T hT X
/-- what holds of a frame of method mi -/
def mc_Cx (z : Nat) (ta : Nat → Nat) (cA : Nat → ClassId) (D : va_G) (X : mc_X) (p : Program) (R : Room) (s : State) (m : MethodId) (args : Array Value) (meth : Method) (c : Code) (mi : Nat) : Prop :=
  p.tables.exec = Jvm.exec ∧ c.code = mc_by mi ∧ c.maxLocals = mc_ml mi ∧ s.vm.findClass (mc_nm (mc_own mi)) = some m.cls ∧ (∀ w ∈ mc_Ts, w.before args s = true) ∧ mc_U z ta cA D X s ∧ ((mc_y mi).name = "<init>" → meth.name = "<init>") ∧ mc_rk mi ≤ R.frames ∧ 30 * mc_rk mi ≤ R.locals
theorem mc_fit_ok {ty : FieldType} {v : Value} (h : mc_fit ty v = true) : narrow ty (mc_cv z ta v) = mc_cv z ta v ∧ fits ty (mc_cv z ta v) = true := by
  unfold mc_fit at h
  split at h
  · exact ⟨rfl, rfl⟩
  · rename_i x
    simp only [Bool.or_eq_true, beq_iff_eq] at h
    rcases h with rfl | rfl <;> exact ⟨rfl, rfl⟩
  · exact ⟨rfl, rfl⟩
  · exact ⟨rfl, rfl⟩
  · exact ⟨rfl, rfl⟩
  · cases h
set_option maxHeartbeats 4000000 in
set_option maxRecDepth 100000 in
/-- ONE STEP that stays in its frame -/
theorem mc_step_sound {mi pc pc' : Nat} {E : mc_E} {ls st ls' st' : List Value} {G G' : mc_H} {la : Array Slot} (C : mc_Cx z ta cA D X p R s m args meth c mi) (hE : mc_code mi pc = some E) (h : mc_ex X mi pc E ls st G = some (.inl (pc', ls', st', G')))
    (hP : va_P D vwCl (mc_w z ta cA G) H) (hS : va_S (fun q => z ≤ q) s.heap H locs) (hl : mc_L z ta la (mc_ml mi) ls) (hc : s.heap.size + cells = z + G.length) (hs : sl0 + slots = mc_sl G) (hRc : z + G'.length ≤ s.heap.size + R.cells) (hRs : mc_sl G' ≤ sl0 + R.slots)
    (kk : ∀ (H' : Heap) (locs' : List Loc) (cells' slots' : Nat) (la' : Array Slot), va_P D vwCl (mc_w z ta cA G') H' → va_S (fun q => z ≤ q) s.heap H' locs' → mc_L z ta la' (mc_ml mi) ls' → s.heap.size + cells' = z + G'.length → sl0 + slots' = mc_sl G' → W p l e R s m args below meth c H' locs' cells' slots' Q (F0 m pc' la' (st'.map (mc_cv z ta)))) :
    W p l e R s m args below meth c H locs cells slots Q (F0 m pc la (st.map (mc_cv z ta))) := by
  obtain ⟨hx, hb, hml, hown, hts, hU, hnm, hrf, hrl⟩ := C
  obtain ⟨hd, hk, hln⟩ := mc_dec hE
  have hA : ∀ q : Nat, s.heap.size ≤ q → z ≤ q := fun q hq => Nat.le_trans hU.2.2.2.2.2.2 hq
  have hD := mc_w_D (z := z) (ta := ta) (cA := cA) (G := G)
  have hKK := hU.1
  have jmp : ∀ {off : Int}, mc_jmp pc off = true → (pc : Int) + off = ((mc_tgt pc off : Nat) : Int) := by
    intro off hj
    have hj' : (0 : Int) ≤ (pc : Int) + off := of_decide_eq_true hj
    unfold mc_tgt
    omega
  obtain ⟨ins, len, a, b, w, kc⟩ := E
  dsimp only at hd hk hln h
  unfold mc_ex at h
  dsimp only at h
  split at h
  -- iconst
  · cases h
    cases of_decide_eq_true hln
    exact lv_iconst hx hb hd rfl (kk H locs cells slots la hP hS hl hc hs)
  · cases h
    cases of_decide_eq_true hln
    exact lv_bipush hx hb hd rfl (kk H locs cells slots la hP hS hl hc hs)
  · cases h
    cases of_decide_eq_true hln
    exact lv_sipush hx hb hd rfl (kk H locs cells slots la hP hS hl hc hs)
  · cases h
    cases of_decide_eq_true hln
    exact lv_lconst hx hb hd rfl (kk H locs cells slots la hP hS hl hc hs)
  -- ldc
  · cases h
    cases of_decide_eq_true hln
    exact lv_ldc hx hb hown (hts _ (mc_Ts_in (of_decide_eq_true hk) rfl)) hd (kk H locs cells slots la hP hS hl hc hs)
  · cases h
    cases of_decide_eq_true hln
    exact lv_ldcw hx hb hown (hts _ (mc_Ts_in (of_decide_eq_true hk) rfl)) hd (kk H locs cells slots la hP hS hl hc hs)
  · cases h
    cases of_decide_eq_true hln
    exact lv_ldc2 hx hb hown (hts _ (mc_Ts_in (of_decide_eq_true hk) rfl)) hd (kk H locs cells slots la hP hS hl hc hs)
  -- iload
  · split at h
    · rename_i hv
      cases h
      cases of_decide_eq_true hln
      exact lv_iload_n hx hb hd rfl (hl.at hv (fun q => by cases q)) (kk H locs cells slots la hP hS hl hc hs)
    · cases h
  · split at h
    · rename_i hv
      cases h
      cases of_decide_eq_true hln
      exact lv_iload hx hb hd (hl.at hv (fun q => by cases q)) (kk H locs cells slots la hP hS hl hc hs)
    · cases h
  -- aload
  · split at h
    · rename_i hv
      cases h
      cases of_decide_eq_true hln
      exact lv_aload_n hx hb hd rfl (hl.at hv (fun q => by cases q)) (kk H locs cells slots la hP hS hl hc hs)
    · rename_i hv
      cases h
      cases of_decide_eq_true hln
      exact lv_aload_n hx hb hd rfl (hl.at hv (fun q => by cases q)) (kk H locs cells slots la hP hS hl hc hs)
    · cases h
  · split at h
    · rename_i hv
      cases h
      cases of_decide_eq_true hln
      exact lv_aload hx hb hd (hl.at hv (fun q => by cases q)) (kk H locs cells slots la hP hS hl hc hs)
    · rename_i hv
      cases h
      cases of_decide_eq_true hln
      exact lv_aload hx hb hd (hl.at hv (fun q => by cases q)) (kk H locs cells slots la hP hS hl hc hs)
    · cases h
  -- istore
  · split at h
    · split at h
      · rename_i hlt
        cases h
        cases of_decide_eq_true hln
        exact lv_istore_n hx hb hd rfl hl.has (by rw [← hl.1]; exact hlt) rfl (fun la' h' => kk H locs cells slots la' hP hS (hl.set rfl h') hc hs)
      · cases h
    · cases h
  · split at h
    · split at h
      · rename_i hlt
        cases h
        cases of_decide_eq_true hln
        exact lv_istore hx hb hd hl.has (by rw [← hl.1]; exact hlt) rfl (fun la' h' => kk H locs cells slots la' hP hS (hl.set rfl h') hc hs)
      · cases h
    · cases h
  -- astore
  · split at h
    · split at h
      · rename_i x _ hlt
        cases h
        cases of_decide_eq_true hln
        exact lv_astore_n hx hb hd rfl hl.has (by rw [← hl.1]; exact hlt) rfl (fun la' h' => kk H locs cells slots la' hP hS (hl.set (v := .ref _) rfl h') hc hs)
      · cases h
    · cases h
  · split at h
    · split at h
      · rename_i x _ hlt
        cases h
        cases of_decide_eq_true hln
        exact lv_astore hx hb hd hl.has (by rw [← hl.1]; exact hlt) rfl (fun la' h' => kk H locs cells slots la' hP hS (hl.set (v := .ref _) rfl h') hc hs)
      · cases h
    · cases h
  -- iinc
  · split at h
    · rename_i k n _ x hv
      cases h
      cases of_decide_eq_true hln
      have hlt : k < mc_ml mi := by rw [← hl.1]; exact (List.getElem?_eq_some_iff.mp hv).1
      obtain ⟨j, hj⟩ := List.getElem?_of_mem (mc_as_mem (z := z) (ta := ta) hv (fun q => by cases q))
      exact lv_iinc hx hb hd hl.has hj rfl hlt rfl (fun la' h' => kk H locs cells slots la' hP hS (hl.set (v := .int _) rfl h') hc hs)
    · cases h
  -- arithmetic
  · split at h
    · cases h
      cases of_decide_eq_true hln
      exact lv_iadd hx hb hd (kk H locs cells slots la hP hS hl hc hs)
    · cases h
  · split at h
    · cases h
      cases of_decide_eq_true hln
      exact lv_isub hx hb hd (kk H locs cells slots la hP hS hl hc hs)
    · cases h
  · split at h
    · cases h
      cases of_decide_eq_true hln
      exact lv_imul hx hb hd (kk H locs cells slots la hP hS hl hc hs)
    · cases h
  · split at h
    · cases h
      cases of_decide_eq_true hln
      exact lv_iand hx hb hd (kk H locs cells slots la hP hS hl hc hs)
    · cases h
  · split at h
    · cases h
      cases of_decide_eq_true hln
      exact lv_ior hx hb hd (kk H locs cells slots la hP hS hl hc hs)
    · cases h
  · split at h
    · cases h
      cases of_decide_eq_true hln
      exact lv_ixor hx hb hd (kk H locs cells slots la hP hS hl hc hs)
    · cases h
  · split at h
    · split at h
      · cases h
      · rename_i hne
        cases h
        cases of_decide_eq_true hln
        exact lv_idiv hx hb hd hne (kk H locs cells slots la hP hS hl hc hs)
    · cases h
  · split at h
    · split at h
      · cases h
      · rename_i hne
        cases h
        cases of_decide_eq_true hln
        exact lv_irem hx hb hd hne (kk H locs cells slots la hP hS hl hc hs)
    · cases h
  · split at h
    · cases h
      cases of_decide_eq_true hln
      exact lv_ineg hx hb hd (kk H locs cells slots la hP hS hl hc hs)
    · cases h
  · split at h
    · cases h
      cases of_decide_eq_true hln
      exact lv_ishl hx hb hd (kk H locs cells slots la hP hS hl hc hs)
    · cases h
  · split at h
    · cases h
      cases of_decide_eq_true hln
      exact lv_ishr hx hb hd (kk H locs cells slots la hP hS hl hc hs)
    · cases h
  · split at h
    · cases h
      cases of_decide_eq_true hln
      exact lv_iushr hx hb hd rfl (kk H locs cells slots la hP hS hl hc hs)
    · cases h
  · split at h
    · cases h
      cases of_decide_eq_true hln
      exact lv_i2l hx hb hd rfl (kk H locs cells slots la hP hS hl hc hs)
    · cases h
  · split at h
    · cases h
      cases of_decide_eq_true hln
      exact lv_i2b hx hb hd rfl (kk H locs cells slots la hP hS hl hc hs)
    · cases h
  · split at h
    · cases h
      cases of_decide_eq_true hln
      exact lv_i2s hx hb hd rfl (kk H locs cells slots la hP hS hl hc hs)
    · cases h
  · split at h
    · cases h
      cases of_decide_eq_true hln
      exact lv_ladd hx hb hd (kk H locs cells slots la hP hS hl hc hs)
    · cases h
  · split at h
    · cases h
      cases of_decide_eq_true hln
      exact W.lcmp hx hb hd (kk H locs cells slots la hP hS hl hc hs)
    · cases h
  -- dup
  · split at h
    · split at h
      · rename_i hv
        cases h
        cases of_decide_eq_true hln
        exact lv_dup hx hb hd (by rw [mc_cv_cat]; exact hv) (kk H locs cells slots la hP hS hl hc hs)
      · cases h
    · cases h
  -- ifCond
  · cases of_decide_eq_true hln
    have ht := jmp hk
    split at h
    · split at h
      · exact lv_if_eq hx hb hd ht (fun q => by rw [if_pos q] at h; cases h; exact kk H locs cells slots la hP hS hl hc hs) (fun q => by rw [if_neg q] at h; cases h; exact kk H locs cells slots la hP hS hl hc hs)
      · exact lv_if_ne hx hb hd ht (fun q => by rw [if_neg q] at h; cases h; exact kk H locs cells slots la hP hS hl hc hs) (fun q => by rw [if_pos q] at h; cases h; exact kk H locs cells slots la hP hS hl hc hs)
      · exact lv_if_lt hx hb hd ht (fun q => by rw [if_pos q] at h; cases h; exact kk H locs cells slots la hP hS hl hc hs) (fun q => by rw [if_neg q] at h; cases h; exact kk H locs cells slots la hP hS hl hc hs)
      · exact lv_if_ge hx hb hd ht (fun q => by rw [if_neg (Int32.not_lt.mpr q)] at h; cases h; exact kk H locs cells slots la hP hS hl hc hs) (fun q => by rw [if_pos (Int32.not_le.mp q)] at h; cases h; exact kk H locs cells slots la hP hS hl hc hs)
      · exact lv_if_gt hx hb hd ht (fun q => by rw [if_pos q] at h; cases h; exact kk H locs cells slots la hP hS hl hc hs) (fun q => by rw [if_neg q] at h; cases h; exact kk H locs cells slots la hP hS hl hc hs)
      · exact lv_if_le hx hb hd ht (fun q => by rw [if_neg (Int32.not_lt.mpr q)] at h; cases h; exact kk H locs cells slots la hP hS hl hc hs) (fun q => by rw [if_pos (Int32.not_le.mp q)] at h; cases h; exact kk H locs cells slots la hP hS hl hc hs)
    · cases h
  -- if_icmp
  · cases of_decide_eq_true hln
    have ht := jmp hk
    split at h
    · split at h
      · exact lv_icmp_eq hx hb hd ht (fun q => by rw [if_pos q] at h; cases h; exact kk H locs cells slots la hP hS hl hc hs) (fun q => by rw [if_neg q] at h; cases h; exact kk H locs cells slots la hP hS hl hc hs)
      · exact lv_icmp_ne hx hb hd ht (fun q => by rw [if_neg q] at h; cases h; exact kk H locs cells slots la hP hS hl hc hs) (fun q => by rw [if_pos q] at h; cases h; exact kk H locs cells slots la hP hS hl hc hs)
      · exact lv_icmp_lt hx hb hd ht (fun q => by rw [if_pos q] at h; cases h; exact kk H locs cells slots la hP hS hl hc hs) (fun q => by rw [if_neg q] at h; cases h; exact kk H locs cells slots la hP hS hl hc hs)
      · exact lv_icmp_ge hx hb hd ht (fun q => by rw [if_neg (Int32.not_lt.mpr q)] at h; cases h; exact kk H locs cells slots la hP hS hl hc hs) (fun q => by rw [if_pos (Int32.not_le.mp q)] at h; cases h; exact kk H locs cells slots la hP hS hl hc hs)
      · exact lv_icmp_gt hx hb hd ht (fun q => by rw [if_pos q] at h; cases h; exact kk H locs cells slots la hP hS hl hc hs) (fun q => by rw [if_neg q] at h; cases h; exact kk H locs cells slots la hP hS hl hc hs)
      · exact lv_icmp_le hx hb hd ht (fun q => by rw [if_neg (Int32.not_lt.mpr q)] at h; cases h; exact kk H locs cells slots la hP hS hl hc hs) (fun q => by rw [if_pos (Int32.not_le.mp q)] at h; cases h; exact kk H locs cells slots la hP hS hl hc hs)
    · cases h
  -- goto
  · cases h
    cases of_decide_eq_true hln
    exact lv_goto hx hb hd (jmp hk) (kk H locs cells slots la hP hS hl hc hs)
  -- tableswitch
  · split at h
    · split at h
      · rename_i q
        cases h
        exact lv_tableOut hx hb hd q (jmp hk) (kk H locs cells slots la hP hS hl hc hs)
      · rename_i q
        split at h
        · rename_i off hoff
          split at h
          · rename_i hj
            cases h
            exact lv_tableIn hx hb hd (fun t => q (Or.inl t)) (fun t => q (Or.inr t)) hoff (jmp (decide_eq_true hj)) (kk H locs cells slots la hP hS hl hc hs)
          · cases h
        · cases h
    · cases h
  -- lookupswitch
  · split at h
    · split at h
      · rename_i hj
        cases h
        exact lv_lookup hx hb hd hk rfl (jmp (decide_eq_true hj)) (kk H locs cells slots la hP hS hl hc hs)
      · cases h
    · cases h
  -- getfield
  · split at h
    · rename_i k _
      split at h
      · rename_i v hv
        cases h
        cases of_decide_eq_true hln
        simp only [mc_lk, Bool.and_eq_true, decide_eq_true_eq] at hk
        obtain ⟨⟨hk1, hk2⟩, hk3⟩ := hk
        unfold mc_getf at hv
        split at hv
        · rename_i cc fs hG
          split at hv
          · rename_i he
            subst he
            exact va_get hx hb hts (mc_hin cc hk2) hown hKK hP k (mc_w_at hG) (mc_cl cc hk2) b hk3 (hts _ (mc_Ts_in hk1 rfl)) (fun _ q => q) (by rw [List.getElem?_map, hv]; rfl) hd (kk H locs cells slots la hP hS hl hc hs)
          · cases hv
        · cases hv
      · cases h
    · cases h
  -- putfield
  · split at h
    · rename_i v k _
      split at h
      · rename_i G2 hv
        cases h
        cases of_decide_eq_true hln
        simp only [mc_lk, Bool.and_eq_true, Bool.or_eq_true, Bool.not_eq_true', decide_eq_true_eq] at hk
        obtain ⟨⟨⟨hk1, hk2⟩, hk3⟩, hk4⟩ := hk
        unfold mc_setf at hv
        split at hv
        · rename_i cc fs hG
          split at hv
          · rename_i he
            obtain ⟨he, hlt, hfit⟩ := he
            subst he
            cases hv
            have e1 : ∀ H1 locs1, va_P D vwCl ((mc_w z ta cA G).set k (z + k, .inr (cc, (fs.map (mc_cv z ta)).set b (mc_cv z ta v)))) H1 → va_S (fun q => z ≤ q) s.heap H1 locs1 → W p l e R s m args below meth c H1 locs1 cells slots Q (F0 m (pc + 3) la (st'.map (mc_cv z ta))) := by
              intro H1 locs1 hP1 hS1
              refine kk H1 locs1 cells slots la ?_ hS1 hl (by rw [List.length_set]; exact hc) (by rw [mc_sl_set hG (by simp [mc_sz])]; exact hs)
              rw [← mc_w_set]
              show va_P D vwCl ((mc_w z ta cA G).set k (z + k, .inr (cc, (fs.set b v).map (mc_cv z ta)))) H1
              rw [List.map_set]
              exact hP1
            rcases hk4 with hk4 | ⟨hk4, hk5⟩
            · exact va_put hx hb hts (mc_hin cc hk2) (mc_ty cc) (mc_hty cc hk2) (mc_hnm cc hk2) hown hKK hP hD hS k (mc_w_at hG) (mc_cl cc hk2) b hk3 (hts _ (mc_Ts_in hk1 rfl)) (fun _ q => q) hk4 (mc_hty cc hk2 b hk3) (mc_fit_ok hfit).1 (mc_fit_ok hfit).2 (by rw [List.length_map]; exact hlt) hd (fun H1 locs1 hP1 _ hS1 => e1 H1 locs1 hP1 hS1)
            · cases hfn : (mc_T cc b).2.2.2 with
              | false => exact va_put hx hb hts (mc_hin cc hk2) (mc_ty cc) (mc_hty cc hk2) (mc_hnm cc hk2) hown hKK hP hD hS k (mc_w_at hG) (mc_cl cc hk2) b hk3 (hts _ (mc_Ts_in hk1 rfl)) (fun _ q => q) hfn (mc_hty cc hk2 b hk3) (mc_fit_ok hfit).1 (mc_fit_ok hfit).2 (by rw [List.length_map]; exact hlt) hd (fun H1 locs1 hP1 _ hS1 => e1 H1 locs1 hP1 hS1)
              | true => exact va_putF hx hb hts (mc_hin cc hk2) (mc_ty cc) (mc_hty cc hk2) (mc_hnm cc hk2) hown hKK hP hD hS k (mc_w_at hG) (mc_cl cc hk2) b hk3 (hts _ (mc_Ts_in hk1 rfl)) (fun _ q => q) hfn (hnm hk4) hk5 (mc_hty cc hk2 b hk3) (mc_fit_ok hfit).1 (mc_fit_ok hfit).2 (by rw [List.length_map]; exact hlt) hd (fun H1 locs1 hP1 _ hS1 => e1 H1 locs1 hP1 hS1)
          · cases hv
        · cases hv
      · cases h
    · cases h
  -- getstatic
  · cases h
    cases of_decide_eq_true hln
    simp only [mc_lk, Bool.and_eq_true, decide_eq_true_eq] at hk
    obtain ⟨hk1, hk2⟩ := hk
    have hZ := hU.2.1 a hk2
    have ea : (UInt32.ofNat a).toNat = a := by
      rcases (show a = 0 ∨ a = 1 ∨ a = 2 by omega) with rfl | rfl | rfl <;> rfl
    have kk1 := kk H locs cells slots la hP hS hl hc hs
    have e2 : mc_cv z ta (.float (UInt32.ofNat a)) = .ref (ta a) := by show Value.ref (ta (UInt32.ofNat a).toNat) = _; rw [ea]
    rw [List.map_cons, e2] at kk1
    split at hk1
    · exact va_gets hx hb hZ hS hown (hts _ (mc_Ts_in (of_decide_eq_true hk1) rfl)) (fun _ q => q) hd kk1
    · exact va_getsN hx hb hZ hS hown (va_Nw.use rfl (hU.2.2.2.1 _ _ _ _ _ _ (List.mem_of_getElem? (of_decide_eq_true hk1)))) (fun _ q => q) hd kk1
  -- iaload
  · split at h
    · rename_i i r _
      split at h
      · rename_i x hv
        cases h
        cases of_decide_eq_true hln
        unfold mc_getA at hv
        split at hv
        · rename_i k
          split at hv
          · rename_i t' n f hG
            split at hv
            · rename_i he
              cases hv
              exact va_iald hx hb hKK hP k 0 (mc_w_at hG) (by rw [he.1]; rfl) he.2 hd (kk H locs cells slots la hP hS hl hc hs)
            · cases hv
          · cases hv
        · rename_i wq
          split at hv
          · rename_i he
            cases hv
            exact va_ti hx hb (hU.2.2.1 _ he.2.1) hS he.2.2 rfl hd (kk H locs cells slots la hP hS hl hc hs)
          · cases hv
        · cases hv
      · cases h
    · cases h
  -- baload
  · split at h
    · rename_i i r _
      split at h
      · rename_i x hv
        cases h
        cases of_decide_eq_true hln
        unfold mc_getA at hv
        split at hv
        · rename_i k
          split at hv
          · rename_i t' n f hG
            split at hv
            · rename_i he
              cases hv
              exact va_zald hx hb hKK hP k 1 (mc_w_at hG) (by rw [he.1]; rfl) he.2 hd (kk H locs cells slots la hP hS hl hc hs)
            · cases hv
          · cases hv
        · rename_i wq
          split at hv
          · rename_i he
            exact absurd he.1 (by decide)
          · cases hv
        · cases hv
      · cases h
    · cases h
  -- iastore
  · split at h
    · rename_i x i k _
      split at h
      · rename_i G2 hv
        cases h
        cases of_decide_eq_true hln
        unfold mc_setA at hv
        split at hv
        · rename_i t' n f hG
          split at hv
          · rename_i he
            cases hv
            refine va_iast hx hb hKK hP hD hS k 0 (mc_w_at hG) (by rw [he.1]; rfl) he.2 hd (fun H1 locs1 hP1 _ hS1 => kk H1 locs1 cells slots la ?_ hS1 hl (by rw [List.length_set]; exact hc) (hs.trans (mc_sl_set hG (by rfl)).symm))
            rw [← mc_w_set]
            exact hP1
          · cases hv
        · cases hv
      · cases h
    · cases h
  -- bastore
  · split at h
    · rename_i x i k _
      split at h
      · rename_i G2 hv
        cases h
        cases of_decide_eq_true hln
        unfold mc_setA at hv
        split at hv
        · rename_i t' n f hG
          split at hv
          · rename_i he
            cases hv
            refine va_zast hx hb hKK hP hD hS k 1 (mc_w_at hG) (by rw [he.1]; rfl) he.2 hd (fun H1 locs1 hP1 _ hS1 => kk H1 locs1 cells slots la ?_ hS1 hl (by rw [List.length_set]; exact hc) (hs.trans (mc_sl_set hG (by rfl)).symm))
            rw [← mc_w_set]
            exact hP1
          · cases hv
        · cases hv
      · cases h
    · cases h
  -- arraylength
  · split at h
    · rename_i r _
      split at h
      · rename_i n hv
        cases h
        cases of_decide_eq_true hln
        unfold mc_len at hv
        split at hv
        · rename_i k
          split at hv
          · rename_i t' n f hG
            split at hv
            · rename_i he
              cases hv
              exact va_alen hx hb hKK hP k 0 (mc_w_at hG) (by rw [he]; rfl) rfl hd (kk H locs cells slots la hP hS hl hc hs)
            · cases hv
          · cases hv
        · rename_i wq
          split at hv
          · rename_i he
            cases hv
            exact va_tlen hx hb (hU.2.2.1 _ he) hS rfl hd (kk H locs cells slots la hP hS hl hc hs)
          · cases hv
        · cases hv
      · cases h
    · cases h
  -- aaload
  · split at h
    · rename_i i k _
      split at h
      · rename_i x hv
        cases h
        cases of_decide_eq_true hln
        unfold mc_getQ at hv
        split at hv
        · rename_i t n f hG
          split at hv
          · rename_i he
            have kk1 := kk H locs cells slots la hP hS hl hc hs
            have e1 : va_rf ((fun j => (f j).map (z + ·)) i.toNatClampNeg) = mc_cv z ta (.ref x) := by
              show va_rf ((f i.toNatClampNeg).map (z + ·)) = _
              rw [hv]; rfl
            rw [List.map_cons, ← e1] at kk1
            rcases he.1 with rfl | rfl
            · exact va_aldq (C := RX5) hx hb hKK hP k 2 (mc_w_at hG) rfl he.2 hd kk1
            · exact va_aldq (C := RX6) hx hb hKK hP k 3 (mc_w_at hG) rfl he.2 hd kk1
          · cases hv
        · cases hv
      · cases h
    · cases h
  -- aastore
  · split at h
    · rename_i v i k _
      split at h
      · rename_i G2 hv
        cases h
        cases of_decide_eq_true hln
        unfold mc_setQ at hv
        split at hv
        · rename_i t n f hG
          split at hv
          · rename_i he
            cases hv
            have e1 : ∀ H1 locs1, va_P D vwCl ((mc_w z ta cA G).set k (z + k, .inl (cA t, n, .inr (.inr (.inr (.inr (va_up (fun j => (f j).map (z + ·)) i.toNatClampNeg (some (z + v))))))))) H1 → va_S (fun q => z ≤ q) s.heap H1 locs1 → W p l e R s m args below meth c H1 locs1 cells slots Q (F0 m (pc + 1) la (st'.map (mc_cv z ta))) := by
              intro H1 locs1 hP1 hS1
              refine kk H1 locs1 cells slots la ?_ hS1 hl (by rw [List.length_set]; exact hc) (hs.trans (mc_sl_set hG (by rfl)).symm)
              rw [← mc_w_set]
              have e2 : (fun j => ((va_up f i.toNatClampNeg (some v)) j).map (z + ·)) = va_up (fun j => (f j).map (z + ·)) i.toNatClampNeg (some (z + v)) := by
                funext j
                unfold va_up
                by_cases hj : j = i.toNatClampNeg <;> simp [hj]
              show va_P D vwCl ((mc_w z ta cA G).set k (z + k, .inl (cA t, n, .inr (.inr (.inr (.inr (fun j => ((va_up f i.toNatClampNeg (some v)) j).map (z + ·)))))))) H1
              rw [e2]
              exact hP1
            have e3 : ∀ ci, mc_cls G v = some ci → ∃ fs, G[v]? = some (.inr (.inr (ci, fs))) := by
              intro ci hci
              unfold mc_cls at hci
              split at hci
              · rename_i hv2
                cases hci
                exact ⟨_, hv2⟩
              · cases hci
            rcases he.1 with ⟨rfl, hcl⟩ | ⟨rfl, hcl⟩
            · obtain ⟨fs, hf⟩ := e3 5 hcl
              exact va_astq (r := (RX5, TX5, 5)) hx hb hKK hP hD hS k 2 v 5 (mc_w_at hG) rfl (mc_w_at hf) rfl he.2 hd (fun H1 locs1 hP1 _ hS1 => e1 H1 locs1 hP1 hS1)
            · obtain ⟨fs, hf⟩ := e3 6 hcl
              exact va_astq (r := (RX6, TX6, 4)) hx hb hKK hP hD hS k 3 v 6 (mc_w_at hG) rfl (mc_w_at hf) rfl he.2 hd (fun H1 locs1 hP1 _ hS1 => e1 H1 locs1 hP1 hS1)
          · cases hv
        · cases hv
      · cases h
    · cases h
  -- new
  · cases h
    cases of_decide_eq_true hln
    simp only [mc_lk, Bool.and_eq_true, decide_eq_true_eq] at hk
    obtain ⟨hk1, hk2⟩ := hk
    have hlen : (G ++ [(Sum.inr (Sum.inr (a, mc_df a)) : mc_C)]).length = G.length + 1 := by simp
    rw [hlen] at hRc
    have hdl := mc_dfl a hk2
    rw [mc_sl_app] at hRs
    have hsz : mc_sz (Sum.inr (Sum.inr (a, mc_df a)) : mc_C) = mc_N a := hdl
    rw [hsz] at hRs
    refine va_new (ci := a) hx hb hts (mc_hin a hk2) (mc_ty a) (mc_hty a hk2) hown (hts _ (mc_Ts_in hk1 rfl)) (hts _ (mc_hins a hk2)) (hts _ (mc_hini a hk2)) hKK hP hD hS hA (mc_cl a hk2) (fs := (mc_df a).map (mc_cv z ta)) (mc_dfo a hk2) (by omega) (by omega) hd (fun q H1 hP1 hD1 hS1 => ?_)
    refine mc_Wsz (fun hszH => ?_)
    have hqe := mc_new_at hP1 hD1 (by omega)
    subst hqe
    have kk1 := kk H1 locs (cells + 1) (slots + mc_N a) la (by rw [mc_w_app]; exact hP1) hS1 hl (by rw [hlen]; omega) (by rw [mc_sl_app, hsz]; omega)
    exact kk1
  -- newarray
  · split at h
    · rename_i n st1
      split at h
      · cases h
      · rename_i hn
        cases h
        cases of_decide_eq_true hln
        simp only [mc_lk, decide_eq_true_eq] at hk
        have hlen : (G ++ [(Sum.inl (a, n.toNatClampNeg, fun _ => 0) : mc_C)]).length = G.length + 1 := by simp
        rw [hlen] at hRc
        rw [mc_sl_app] at hRs
        have hsz : mc_sz (Sum.inl (a, n.toNatClampNeg, fun _ => 0) : mc_C) = n.toNatClampNeg := rfl
        rw [hsz] at hRs
        have n0 : ¬ n < 0 := fun q => hn (Or.inl q)
        have n1 : n.toNatClampNeg ≤ 65536 := Nat.not_lt.mp fun q => hn (Or.inr q)
        rcases hk with ⟨rfl, rfl⟩ | ⟨rfl, rfl⟩
        · refine va_newa (a0 := (n.toNatClampNeg, .inl fun _ => 0)) (ty := .int) hx hb (hts _ mc_acI) rfl hKK hP hD hS hA (fun _ => rfl) n0 rfl (by show _ * 4 ≤ _; omega) (by omega) (by omega) hd (fun q cA1 H1 hK1 hP1 hD1 hS1 => ?_)
          have ec : cA1 = cA 0 := by
            have g1 : va_RA s cA1 .int := (hK1.2 4 _ rfl).2
            have g0 : va_RA s (cA 0) .int := (hKK.2 0 _ rfl).2
            exact Option.some.inj ((show _ = some cA1 from g1).symm.trans g0)
          subst ec
          refine mc_Wsz (fun hszH => ?_)
          have hqe := mc_new_at hP1 hD1 (by omega)
          subst hqe
          exact kk H1 locs (cells + 1) (slots + n.toNatClampNeg) la (by rw [mc_w_app]; exact hP1) hS1 hl (by rw [hlen]; omega) (by rw [mc_sl_app, hsz]; omega)
        · refine va_newa (a0 := (n.toNatClampNeg, .inl fun _ => 0)) (ty := .boolean) hx hb (hts _ mc_acZ) rfl hKK hP hD hS hA (fun _ => rfl) n0 rfl (by show _ * 1 ≤ _; omega) (by omega) (by omega) hd (fun q cA1 H1 hK1 hP1 hD1 hS1 => ?_)
          have ec : cA1 = cA 1 := by
            have g1 : va_RA s cA1 .boolean := (hK1.2 4 _ rfl).2
            have g0 : va_RA s (cA 1) .boolean := (hKK.2 1 _ rfl).2
            exact Option.some.inj ((show _ = some cA1 from g1).symm.trans g0)
          subst ec
          refine mc_Wsz (fun hszH => ?_)
          have hqe := mc_new_at hP1 hD1 (by omega)
          subst hqe
          exact kk H1 locs (cells + 1) (slots + n.toNatClampNeg) la (by rw [mc_w_app]; exact hP1) hS1 hl (by rw [hlen]; omega) (by rw [mc_sl_app, hsz]; omega)
    · cases h
  -- anewarray
  · split at h
    · rename_i n st1
      split at h
      · cases h
      · rename_i hn
        cases h
        cases of_decide_eq_true hln
        simp only [mc_lk, Bool.and_eq_true, decide_eq_true_eq] at hk
        obtain ⟨hk1, hk2⟩ := hk
        have hlen : (G ++ [(Sum.inr (Sum.inl (a, n.toNatClampNeg, fun _ => none)) : mc_C)]).length = G.length + 1 := by simp
        rw [hlen] at hRc
        rw [mc_sl_app] at hRs
        have hsz : mc_sz (Sum.inr (Sum.inl (a, n.toNatClampNeg, fun _ => none)) : mc_C) = n.toNatClampNeg := rfl
        rw [hsz] at hRs
        have n0 : ¬ n < 0 := fun q => hn (Or.inl q)
        have n1 : n.toNatClampNeg ≤ 65536 := Nat.not_lt.mp fun q => hn (Or.inr q)
        have go : ∀ (t : Nat) (Cn : String), (t, Cn) = (2, RX5) ∨ (t, Cn) = (3, RX6) → va_AO Cn s → mc_an t = Cn → t = a → W p l e R s m args below meth c H locs cells slots Q (F0 m pc la ((.int n :: st1).map (mc_cv z ta))) := by
          intro t Cn ht hAO hCn hta
          subst hta
          refine va_newq (C := Cn) hx hb hown (hts _ (mc_Ts_in hk1 rfl |> fun q => by rw [hCn] at q; exact q)) hAO hKK hP hD hS hA n0 rfl (by omega) (by omega) (by omega) hd (fun q cA1 H1 hK1 hP1 hD1 hS1 => ?_)
          have ec : cA1 = cA t := by
            obtain ⟨_, _, _, _, _, g1⟩ : va_RA s cA1 (.object Cn) := (hK1.2 4 _ rfl).2
            rcases ht with ht | ht
            · cases ht
              obtain ⟨_, _, _, _, _, g0⟩ : va_RA s (cA 2) (.object RX5) := (hKK.2 2 _ rfl).2
              exact Option.some.inj (g1.symm.trans g0)
            · cases ht
              obtain ⟨_, _, _, _, _, g0⟩ : va_RA s (cA 3) (.object RX6) := (hKK.2 3 _ rfl).2
              exact Option.some.inj (g1.symm.trans g0)
          subst ec
          refine mc_Wsz (fun hszH => ?_)
          have hqe := mc_new_at hP1 hD1 (by omega)
          subst hqe
          exact kk H1 locs (cells + 1) (slots + n.toNatClampNeg) la (by rw [mc_w_app]; exact hP1) hS1 hl (by rw [hlen]; omega) (by rw [mc_sl_app, hsz]; omega)
        rcases hk2 with rfl | rfl
        · exact go 2 RX5 (Or.inl rfl) hU.2.2.2.2.2.1.1 rfl rfl
        · exact go 3 RX6 (Or.inr rfl) hU.2.2.2.2.2.1.2 rfl rfl
    · cases h
  -- invokespecial
  · split at h
    · rename_i ha
      subst ha
      split at h
      · rename_i k rest
        split at h
        · rename_i hr4
          cases h
          cases of_decide_eq_true hln
          simp only [mc_lk, if_true, Bool.and_eq_true, decide_eq_true_eq] at hk
          obtain ⟨hk1, hk2⟩ := hk
          exact W.objInit hx hb hown (hts _ (mc_Ts_in hk1 rfl)) (hts _ mc_oi1) (hts _ mc_oi2) rfl (by rw [hml]; exact hl.2.1) rfl hd (by omega) (by show 2 * 0 + _ + 12 ≤ _; have := mc_cats (z := z) (ta := ta) hr4; omega) (kk H locs cells slots la hP hS hl hc hs)
        · cases h
      · cases h
    · split at h
      · split at h <;> cases h
      · cases h
  -- invokevirtual
  · split at h
    · split at h <;> cases h
    · cases h
  -- invokestatic
  · split at h
    · rename_i ha
      subst ha
      split at h
      · rename_i n dp aa sp a0 rest
        split at h
        · rename_i hr4
          split at h
          · rename_i G2 hv
            cases h
            cases of_decide_eq_true hln
            simp only [mc_lk, if_true, Bool.and_eq_true, decide_eq_true_eq] at hk
            obtain ⟨hk1, hk2⟩ := hk
            unfold mc_cpy at hv
            split at hv
            · rename_i t0 n0 f t1 n1 g hG0 hG1
              split at hv
              · rename_i he
                obtain ⟨e0, e1, e2, e3, e4, e5, e6⟩ := he
                cases hv
                have h7 : nativeFrameWords "java/lang/System" "arraycopy" 5 = 7 := by decide +kernel
                have h8 := mc_cats (z := z) (ta := ta) hr4
                refine va_copyi (ty := .int) hx hb (by rw [hml]; exact hl.2.1.symm) hown (hts _ (mc_Ts_in hk1 rfl)) (hts _ mc_ac1) (hts _ mc_ac2) (hts _ mc_ac3) hKK hP hD hS a0 aa 0 0 (mc_w_at hG0) (mc_w_at hG1) (by rw [e0]; rfl) (by rw [e1]; rfl) rfl e2 e3 e4 e5 e6 (fun _ _ => rfl) (by omega) (by rw [h7]; omega) hd (fun H1 locs1 hP1 _ hS1 => kk H1 locs1 cells slots la ?_ hS1 hl (by rw [List.length_set]; exact hc) (hs.trans (mc_sl_set hG1 (by rfl)).symm))
                rw [← mc_w_set]
                exact hP1
              · cases hv
            · cases hv
          · cases h
        · cases h
      · cases h
    · split at h
      · rename_i ha
        subst ha
        split at h
        · rename_i x rest
          split at h
          · rename_i hr4
            cases h
            cases of_decide_eq_true hln
            simp only [mc_lk, Bool.and_eq_true, decide_eq_true_eq] at hk
            rw [if_neg (by decide)] at hk
            simp only [Bool.and_eq_true, decide_eq_true_eq] at hk
            obtain ⟨⟨⟨hk1, hk2⟩, hk3⟩, hk4⟩ := hk
            have hk3 : 1 < mc_rk mi := hk3
            exact va_mabs hx hb (by rw [hml]; exact hl.2.1.symm) hown (hts _ (mc_Ts_in hk1 rfl)) (hts _ mc_Mabs1) (hts _ mc_Mi) (hts _ mc_Mabs2) (by omega) (by have := mc_cats (z := z) (ta := ta) hr4; omega) (by omega) (by omega) hd (kk H locs cells slots la hP hS hl hc hs)
          · cases h
        · cases h
      · split at h
        · rename_i ha
          subst ha
          split at h
          · rename_i y x rest
            split at h
            · rename_i hr4
              cases h
              cases of_decide_eq_true hln
              simp only [mc_lk, Bool.and_eq_true, decide_eq_true_eq] at hk
              rw [if_neg (by decide)] at hk
              simp only [Bool.and_eq_true, decide_eq_true_eq] at hk
              obtain ⟨⟨⟨hk1, hk2⟩, hk3⟩, hk4⟩ := hk
              have hk3 : 1 < mc_rk mi := hk3
              exact va_mmax hx hb (by rw [hml]; exact hl.2.1.symm) hown (hts _ (mc_Ts_in hk1 rfl)) (hts _ mc_Mmax1) (hts _ mc_Mi) (hts _ mc_Mmax2) (by omega) (by have := mc_cats (z := z) (ta := ta) hr4; omega) (by omega) (by omega) hd (kk H locs cells slots la hP hS hl hc hs)
            · cases h
          · cases h
        · split at h
          · rename_i ha
            subst ha
            split at h
            · rename_i y x rest
              split at h
              · rename_i hr4
                cases h
                cases of_decide_eq_true hln
                simp only [mc_lk, Bool.and_eq_true, decide_eq_true_eq] at hk
                rw [if_neg (by decide)] at hk
                simp only [Bool.and_eq_true, decide_eq_true_eq] at hk
                obtain ⟨⟨⟨hk1, hk2⟩, hk3⟩, hk4⟩ := hk
                have hk3 : 1 < mc_rk mi := hk3
                exact va_mmin hx hb (by rw [hml]; exact hl.2.1.symm) hown (hts _ (mc_Ts_in hk1 rfl)) (hts _ mc_Mmin1) (hts _ mc_Mi) (hts _ mc_Mmin2) (by omega) (by have := mc_cats (z := z) (ta := ta) hr4; omega) (by omega) (by omega) hd (kk H locs cells slots la hP hS hl hc hs)
              · cases h
            · cases h
          · split at h <;> cases h
  -- ends
  · split at h
    · split at h <;> cases h
    · cases h
  · split at h
    · split at h <;> cases h
    · cases h
  · split at h <;> cases h
  · split at h
    · split at h <;> cases h
    · cases h
  · cases h
end MCS
end
section
def mc_end (mi pc : Nat) (r : Option Value) : Prop := match r with
  | none => decode (mc_by mi) pc = .ok (.return_, 1) ∧ mc_rt mi = none
  | some (.int v) => decode (mc_by mi) pc = .ok (.ireturn, 1) ∧ (mc_rt mi = some .int ∨ (mc_rt mi = some .boolean ∧ (v = 0 ∨ v = 1)))
  | some (.long _) => decode (mc_by mi) pc = .ok (.lreturn, 1) ∧ mc_rt mi = some .long
  | some (.ref _) => decode (mc_by mi) pc = .ok (.areturn, 1) ∧ ∃ C, mc_rt mi = some (.object C)
  | _ => False
set_option maxHeartbeats 4000000 in
theorem mc_ex_end {X : mc_X} {mi pc : Nat} {E : mc_E} {ls st : List Value} {G : mc_H} {r : Option Value} (hE : mc_code mi pc = some E) (h : mc_ex X mi pc E ls st G = some (.inr (.inr r))) : mc_end mi pc r ∧ st = r.toList := by
  obtain ⟨hd, -, hln⟩ := mc_dec hE
  obtain ⟨ins, len, a, b, w, kc⟩ := E
  dsimp only at hd hln h
  unfold mc_ex at h
  dsimp only at h
  split at h
  all_goals try (cases h; done)
  all_goals try split at h
  all_goals try (cases h; done)
  all_goals try split at h
  all_goals try (cases h; done)
  all_goals try split at h
  all_goals try (cases h; done)
  all_goals try split at h
  all_goals try (cases h; done)
  all_goals try split at h
  all_goals try (cases h; done)
  all_goals try split at h
  all_goals try (cases h; done)
  all_goals try split at h
  all_goals try (cases h; done)
  all_goals try split at h
  all_goals try (cases h; done)
  · rename_i hq
    cases h
    cases of_decide_eq_true hln
    exact ⟨⟨hd, hq⟩, rfl⟩
  · rename_i hq
    cases h
    cases of_decide_eq_true hln
    exact ⟨⟨hd, hq⟩, rfl⟩
  · rename_i hq
    cases h
    cases of_decide_eq_true hln
    exact ⟨⟨hd, _, hq⟩, rfl⟩
  · rename_i hq
    cases h
    cases of_decide_eq_true hln
    exact ⟨⟨hd, hq⟩, rfl⟩
set_option maxHeartbeats 4000000 in
theorem mc_ex_call {X : mc_X} {mi pc cm : Nat} {E : mc_E} {ls st cl rest : List Value} {G : mc_H} (h : mc_ex X mi pc E ls st G = some (.inr (.inl (cm, cl, rest)))) :
    rest.length ≤ 4 ∧ cm = E.2.2.1 ∧ mc_c1 (st.take (mc_np cm)) = true ∧
    ((∃ i b, E.1 = .invokevirtual i ∧ st = st.take (mc_np cm) ++ .ref b :: rest ∧ mc_cls G b = some (mc_own cm) ∧ cl = mc_pad (mc_ml cm) (.ref b :: (st.take (mc_np cm)).reverse)) ∨
     (∃ i b, E.1 = .invokespecial i ∧ cm ≠ 999 ∧ st = st.take (mc_np cm) ++ .ref b :: rest ∧ cl = mc_pad (mc_ml cm) (.ref b :: (st.take (mc_np cm)).reverse)) ∨
     (∃ i, E.1 = .invokestatic i ∧ (cm ≠ 998 ∧ cm ≠ 176 ∧ cm ≠ 177 ∧ cm ≠ 178) ∧ mc_np cm ≤ st.length ∧ st = st.take (mc_np cm) ++ rest ∧ cl = mc_pad (mc_ml cm) (st.take (mc_np cm)).reverse)) := by
  obtain ⟨ins, len, a, b, w, kc⟩ := E
  unfold mc_ex at h
  dsimp only at h
  split at h
  all_goals try (cases h; done)
  all_goals try split at h
  all_goals try (cases h; done)
  all_goals try split at h
  all_goals try (cases h; done)
  all_goals try split at h
  all_goals try (cases h; done)
  all_goals try split at h
  all_goals try (cases h; done)
  all_goals try split at h
  all_goals try (cases h; done)
  all_goals try split at h
  all_goals try (cases h; done)
  all_goals try split at h
  all_goals try (cases h; done)
  all_goals try split at h
  all_goals try (cases h; done)
  · rename_i b0 rest0 hdr hq
    cases h
    refine ⟨hq.1, rfl, hq.2, Or.inr (Or.inl ⟨_, b0, rfl, by assumption, ?_, rfl⟩)⟩
    rw [← hdr, List.take_append_drop]
  · rename_i b0 rest0 hdr hq
    cases h
    refine ⟨hq.1, rfl, hq.2.2, Or.inl ⟨_, b0, rfl, ?_, hq.2.1, rfl⟩⟩
    rw [← hdr, List.take_append_drop]
  · rename_i hq
    cases h
    refine ⟨hq.2.1, rfl, hq.2.2, Or.inr (Or.inr ⟨_, rfl, ⟨by assumption, by assumption, by assumption, by assumption⟩, hq.1, ?_, rfl⟩)⟩
    rw [List.take_append_drop]
theorem mc_ex_grow {X : mc_X} {mi pc pc' : Nat} {E : mc_E} {ls st ls' st' : List Value} {G G' : mc_H} (h : mc_ex X mi pc E ls st G = some (.inl (pc', ls', st', G'))) : G.length ≤ G'.length ∧ mc_sl G ≤ mc_sl G' := by
  have key : ∀ {k : Nat} {c c' : mc_C}, G[k]? = some c → mc_sz c' = mc_sz c → G.length ≤ (G.set k c').length ∧ mc_sl G ≤ mc_sl (G.set k c') := fun h1 h2 => ⟨by rw [List.length_set]; exact Nat.le_refl _, by rw [mc_sl_set h1 h2]; exact Nat.le_refl _⟩
  rcases mc_ex_grow0 h with rfl | ⟨c, rfl⟩ | ⟨k, ci, j, v, hq⟩ | ⟨t, k, i, x, hq⟩ | ⟨k, i, v, hq⟩ | ⟨a0, a, sp, dp, n, hq⟩
  · exact ⟨Nat.le_refl _, Nat.le_refl _⟩
  · exact ⟨by simp, by rw [mc_sl_app]; exact Nat.le_add_right _ _⟩
  · unfold mc_setf at hq
    split at hq
    · rename_i hG
      split at hq
      · cases hq
        exact key hG (by simp [mc_sz])
      · cases hq
    · cases hq
  · unfold mc_setA at hq
    split at hq
    · rename_i hG
      split at hq
      · cases hq
        exact key hG rfl
      · cases hq
    · cases hq
  · unfold mc_setQ at hq
    split at hq
    · rename_i hG
      split at hq
      · cases hq
        exact key hG rfl
      · cases hq
    · cases hq
  · unfold mc_cpy at hq
    split at hq
    · rename_i hG0 hG1
      split at hq
      · cases hq
        exact key hG1 rfl
      · cases hq
    · cases hq
/-- a method's start and end in words of the small machine -/
def mc_Pc (z : Nat) (ta : Nat → Nat) (cA : Nat → ClassId) (D : va_G) (X : mc_X) (vs : List Value) (G : mc_H) : Array Value → State → Prop := va_Pc (vs.map (mc_cv z ta)) (fun U => mc_U z ta cA D X U ∧ va_P D vwCl (mc_w z ta cA G) U.heap ∧ U.heap.size = z + G.length)
def mc_Qc (z : Nat) (ta : Nat → Nat) (cA : Nat → ClassId) (D : va_G) (r : Option Value) (G' : mc_H) : Array Value → State → Outcome → State → Prop := fun _ st oc t => oc = .returned (r.map (mc_cv z ta)) ∧ va_P D vwCl (mc_w z ta cA G') t.heap ∧ va_F (fun q => z ≤ q) st t
def mc_Wd (mi : Nat) : List Cond := Cond.code (mc_y mi) (mc_by mi) (mc_ml mi) (mc_rt mi) :: mc_Ts
def mc_rm (mi : Nat) (G G' : mc_H) : Room := { frames := mc_rk mi, cells := G'.length - G.length, slots := mc_sl G' - mc_sl G, locals := 30 * mc_rk mi }
section MCC
variable {z : Nat} {ta : Nat → Nat} {cA : Nat → ClassId} {D : va_G} {X : mc_X}
variable {p : Program} {l : Launch} {e : Env} {R : Room} {s : State} {m : MethodId} {args : Array Value} {below : List Frame} {meth : Method} {c : Code} {H : Heap} {locs : List Loc} {cells slots sl0 : Nat} {Q : State → Prop}
theorem mc_Pc_blind {vs : List Value} {G : mc_H} : FrameBlind (mc_Pc z ta cA D X vs G) := fun a U g mk h => ⟨h.1, h.2.1.blind, h.2.2.1, h.2.2.2⟩
theorem mc_good (mi : Nat) (h : mc_mtP (mc_meth mi)) : GoodIn mc_Ts (mc_Wd mi) := by
  intro w hw
  have key : ∀ w ∈ mc_Ts, w ∈ mc_Ts ∧ ((w.onTables && w.keeps) = true ∨ ∃ ty, w = .arrayClass ty) := fun w hw => ⟨hw, good_of_word (List.mem_filter.mp hw).2⟩
  rcases List.mem_cons.mp hw with rfl | hw
  · exact key _ (mc_Ts_in h.1 rfl)
  · exact key _ hw
/-- behind a call -/
theorem mc_call_go {mc ms pc : Nat} {la : Array Slot} {st0 rest : List Value} {r : Option Value} {G' : mc_H} {a : Array Value} (hr : va_Run p l e R s m args below meth c H locs cells slots mc ms (F0 m pc la st0) rest (mc_Qc z ta cA D r G' a) (fun q => z ≤ q)) (hS : va_S (fun q => z ≤ q) s.heap H locs)
    (kk : ∀ (H1 : Heap) (locs1 : List Loc), va_P D vwCl (mc_w z ta cA G') H1 → va_S (fun q => z ≤ q) s.heap H1 locs1 → W p l e R s m args below meth c H1 locs1 (cells + mc) (slots + ms) Q (F0 m (pc + 3) la ((r.map (mc_cv z ta)).toList ++ rest))) : W p l e R s m args below meth c H locs cells slots Q (F0 m pc la st0) := by
  intro T hT Y
  obtain ⟨v, st₀, t, T', L, h0, Y', hL, e1, e2, ⟨hv, hP1, hF1, hF2⟩, st⟩ := hr T hT Y
  cases hv
  obtain ⟨t2, a1, b1⟩ := kk T'.heap (locs ++ L) (by rw [e1]; exact hP1) ⟨by rw [e1]; rw [h0] at hF1; exact Nat.le_trans hS.1 hF1, fun q h1 h2 => by
    rw [e1, hF2 q (by rw [h0]; exact Nat.lt_of_lt_of_le h1 hS.1) h2, h0]
    exact hS.2.1 q h1 h2, fun q hq => (List.mem_append.mp hq).elim (hS.2.2 q) (hL q)⟩ T' rfl Y'
  exact ⟨t2, st t2 a1, b1⟩
/-- from every frame of the small machine that comes to its end, the machine comes to the same end -/
def mc_Snd (z : Nat) (ta : Nat → Nat) (cA : Nat → ClassId) (D : va_G) (X : mc_X) (l : Launch) (mi pc : Nat) (ls st : List Value) (G : mc_H) (r : Option Value) (Gf : mc_H) : Prop :=
  (G.length ≤ Gf.length ∧ mc_sl G ≤ mc_sl Gf) ∧ ∀ (p : Program) (e : Env) (R : Room) (s : State) (m : MethodId) (args : Array Value) (below : List Frame) (meth : Method) (c : Code) (H : Heap) (locs : List Loc) (cells slots sl0 : Nat) (la : Array Slot) (Q : State → Prop),
    mc_Cx z ta cA D X p R s m args meth c mi → va_P D vwCl (mc_w z ta cA G) H → va_S (fun q => z ≤ q) s.heap H locs → mc_L z ta la (mc_ml mi) ls → s.heap.size + cells = z + G.length → sl0 + slots = mc_sl G → z + Gf.length ≤ s.heap.size + R.cells → mc_sl Gf ≤ sl0 + R.slots →
    (∀ (pc' : Nat) (H' : Heap) (locs' : List Loc) (cells' slots' : Nat) (la' : Array Slot), mc_end mi pc' r → va_P D vwCl (mc_w z ta cA Gf) H' → va_S (fun q => z ≤ q) s.heap H' locs' → s.heap.size + cells' = z + Gf.length → sl0 + slots' = mc_sl Gf → W p l e R s m args below meth c H' locs' cells' slots' Q (F0 m pc' la' (r.map (mc_cv z ta)).toList)) →
    W p l e R s m args below meth c H locs cells slots Q (F0 m pc la (st.map (mc_cv z ta)))
set_option maxHeartbeats 4000000 in
/-- a contract out of a run -/
theorem mc_met {cm : Nat} {vs : List Value} {G Gf : mc_H} {r : Option Value} (hM : mc_mtP (mc_meth cm)) (hv1 : ∀ v ∈ vs, v.category = 1) (hv2 : vs.length ≤ mc_ml cm) (hS : mc_Snd z ta cA D X l cm 0 (mc_pad (mc_ml cm) vs) [] G r Gf) :
    Met l (mc_y cm) (mc_Wd cm) (mc_rm cm G Gf) (mc_Pc z ta cA D X vs G) (mc_Qc z ta cA D r Gf) (Gf.length - G.length) (mc_sl Gf - mc_sl G) (fun q => z ≤ q) := by
  obtain ⟨⟨hg1, hg2⟩, hrun⟩ := hS
  have hmok := hM.2
  simp only [mc_mok, Bool.and_eq_true, decide_eq_true_eq] at hmok
  obtain ⟨⟨⟨⟨⟨⟨⟨⟨⟨-, -⟩, -⟩, -⟩, -⟩, hpl⟩, -⟩, hnm⟩, -⟩, -⟩ := hmok
  refine Met.ofW (cc := mc_by cm) (maxL := mc_ml cm) (ret := mc_rt cm) hpl rfl ?_
  intro p e s m args below meth c s₁ B hml hv
  obtain ⟨rfl, hU, hP, hsz⟩ := hv
  have hts := atoms_spec (ws := mc_Wd cm) B.pre
  have hown : s.vm.findClass (mc_nm (mc_own cm)) = some m.cls := by
    have := findClass_of_methodNamed B.named
    rw [show mc_nm (mc_own cm) = (mc_y cm).cls from hnm]
    exact this
  have hlocks := B.notSynchronized
  have hret : meth.sig.returnType = mc_rt cm := B.returns
  have hx := B.exec
  have hb : c.code = mc_by cm := B.bytes
  rw [lg_entry_eq]
  refine hrun p e _ s m _ below meth c s.heap [] 0 0 (mc_sl G) _ _ ⟨B.exec, B.bytes, hml, hown, fun w hw => hts w (List.mem_cons_of_mem _ hw), hU, fun q => by rw [(name_of_methodNamed B.named B.method).1]; exact q, Nat.le_refl _, Nat.le_refl _⟩ hP va_S.rf (mc_L.entry vs hv1 hv2) hsz rfl (by show z + Gf.length ≤ s.heap.size + (Gf.length - G.length); omega) (by show mc_sl Gf ≤ mc_sl G + (mc_sl Gf - mc_sl G); omega) ?_
  intro pc' H' locs' cells' slots' la' hend hP' hS' hc' hs'
  have e1 : cells' = Gf.length - G.length := by omega
  have e2 : slots' = mc_sl Gf - mc_sl G := by omega
  subst e1
  subst e2
  have hq : ∀ t : State, t.heap = H' → mc_Qc z ta cA D r Gf (vs.map (mc_cv z ta)).toArray s (.returned (r.map (mc_cv z ta))) t := fun t ht => ⟨rfl, by rw [ht]; exact hP', hS'.F ht⟩
  unfold mc_end at hend
  split at hend
  · exact W.vret hx hb (by rw [hret]; exact hend.2) (fun t ht _ => hq t ht) hS'.2.2 hend.1
  · rcases hend.2 with h | ⟨h, h2⟩
    · exact W.iret hx hb (by rw [hret]; exact h) (fun t ht _ => hq t ht) hS'.2.2 hend.1
    · refine W.zret (ty := .boolean) hx hb (by rw [hret]; exact h) ?_ (fun t ht _ => hq t ht) hS'.2.2 hend.1
      rcases h2 with rfl | rfl <;> rfl
  · exact W.lret hx hb (by rw [hret]; exact hend.2) (fun t ht _ => hq t ht) hS'.2.2 hend.1
  · obtain ⟨C, hC⟩ := hend.2
    exact W.aret hx hb (by rw [hret]; exact hC) (Or.inl ⟨C, rfl⟩) (Or.inr ⟨_, rfl⟩) (fun t ht _ => hq t ht) hS'.2.2 hend.1
  · exact hend.elim
set_option maxHeartbeats 4000000 in
/-- THE SMALL MACHINE IS SOUND -/
theorem mc_sound : ∀ (n mi pc : Nat) (ls st : List Value) (G : mc_H) (r : Option Value) (Gf : mc_H), mc_run X n mi pc ls st G = some (r, Gf) → mc_Snd z ta cA D X l mi pc ls st G r Gf
  | 0, _, _, _, _, _, _, _, h => by cases h
  | n + 1, mi, pc, ls, st, G, r, Gf, h => by
    have h : mc_F X (mc_run X n) mi pc ls st G = some (r, Gf) := h
    unfold mc_F at h
    cases hE : mc_code mi pc with
    | none =>
      have hst0 : mc_st X mi pc ls st G = none := by unfold mc_st; rw [hE]
      rw [hst0] at h
      cases h
    | some E =>
    have hst0 : mc_st X mi pc ls st G = mc_ex X mi pc E ls st G := by unfold mc_st; rw [hE]
    rw [hst0] at h
    clear hst0
    split at h
    · rename_i pc' ls' st' G' hx
      have ih := mc_sound n mi pc' ls' st' G' r Gf h
      have hg := mc_ex_grow hx
      refine ⟨⟨Nat.le_trans hg.1 ih.1.1, Nat.le_trans hg.2 ih.1.2⟩, ?_⟩
      intro p e R s m args below meth c H locs cells slots sl0 la Q C hP hS hl hc hs hRc hRs hend
      refine mc_step_sound C hE hx hP hS hl hc hs (Nat.le_trans (Nat.add_le_add_left ih.1.1 z) hRc) (Nat.le_trans ih.1.2 hRs) ?_
      intro H' locs' cells' slots' la' hP' hS' hl' hc' hs'
      exact ih.2 p e R s m args below meth c H' locs' cells' slots' sl0 la' Q C hP' hS' hl' hc' hs' hRc hRs hend
    · rename_i cm cl rest hx
      cases h1 : mc_run X n cm 0 cl [] G with
      | none => rw [h1] at h; cases h
      | some q =>
      obtain ⟨v, G1⟩ := q
      rw [h1] at h
      have ih1 := mc_sound n cm 0 cl [] G v G1 h1
      have ih2 := mc_sound n mi (pc + 3) ls (v.toList ++ rest) G1 r Gf h
      refine ⟨⟨Nat.le_trans ih1.1.1 ih2.1.1, Nat.le_trans ih1.1.2 ih2.1.2⟩, ?_⟩
      intro p e R s m args below meth c H locs cells slots sl0 la Q C hP hS hl hc hs hRc hRs hend
      obtain ⟨hd, hk, hln⟩ := mc_dec hE
      obtain ⟨hx0, hb, hml, hown, hts, hU, hnm, hrf, hrl⟩ := id C
      obtain ⟨hr4, hcm, hc1, hcall⟩ := mc_ex_call hx
      obtain ⟨ins, len, a, b, w, kc⟩ := E
      dsimp only at hd hk hln hcm hcall
      subst hcm
      have hcat : ∀ v ∈ st.take (mc_np cm), v.category = 1 := by
        intro v hv
        have := List.all_eq_true.mp hc1 v hv
        simpa using this
      have hg1 := ih1.1
      have hg2 := ih2.1
      have hpre : ∀ U : State, U.heap = H → s.WarmedH U.vm → mc_U z ta cA D X U ∧ va_P D vwCl (mc_w z ta cA G) U.heap := by
        intro U hUh hUw
        refine ⟨hU.at hUw (by rw [hUh]; exact Nat.le_trans hU.2.2.2.2.2.2 hS.1) (fun q h1 h2 => by rw [hUh]; exact hS.2.1 q h1 h2), by rw [hUh]; exact hP⟩
      have hcont : ∀ (H1 : Heap) (locs1 : List Loc), va_P D vwCl (mc_w z ta cA G1) H1 → va_S (fun q => z ≤ q) s.heap H1 locs1 → W p l e R s m args below meth c H1 locs1 (cells + (G1.length - G.length)) (slots + (mc_sl G1 - mc_sl G)) Q (F0 m (pc + 3) la ((v.map (mc_cv z ta)).toList ++ rest.map (mc_cv z ta))) := by
        intro H1 locs1 hP1 hS1
        have := ih2.2 p e R s m args below meth c H1 locs1 (cells + (G1.length - G.length)) (slots + (mc_sl G1 - mc_sl G)) sl0 la Q C hP1 hS1 hl (by omega) (by omega) hRc hRs hend
        have e1 : (v.toList ++ rest).map (mc_cv z ta) = (v.map (mc_cv z ta)).toList ++ rest.map (mc_cv z ta) := by
          rw [List.map_append]; cases v <;> rfl
        rw [e1] at this
        exact this
      have hW8 : ∀ (st0 : List Value), 2 * (F0 m pc la st0).monitorRoom + ((rest.map (mc_cv z ta)).map fun v => v.category).sum ≤ 8 := fun _ => lv_room (mc_cats hr4)
      have hRq : z + G.length ≤ H.size := by
        rcases Nat.eq_zero_or_pos G.length with h0 | h0
        · rw [h0]; exact Nat.le_trans hU.2.2.2.2.2.2 hS.1
        · have hi : (mc_w z ta cA G)[G.length - 1]? = some (z + (G.length - 1), mc_ce z ta cA G[G.length - 1]) := mc_w_at (List.getElem?_eq_getElem (by omega))
          have := (hP _ _ hi).lt
          dsimp only at this
          omega
      refine mc_Wsz (fun hszH => ?_)
      have hHsz : H.size = z + G.length := by omega
      rcases hcall with ⟨i, b0, hi, hst, hcl, hcle⟩ | ⟨i, b0, hi, h999, hst, hcle⟩ | ⟨i, hi, h998, hnp, hst, hcle⟩
      · -- invokevirtual
        subst hi
        cases of_decide_eq_true hln
        simp only [mc_lk, Bool.and_eq_true, Bool.not_eq_true', decide_eq_true_eq] at hk
        obtain ⟨⟨⟨⟨⟨hk1, hk2⟩, hk3⟩, hk4⟩, hk5⟩, hk6⟩ := hk
        have hM := mc_mt_at hk2 (Nat.lt_of_lt_of_le hk3 (mc_rk8 mi)) ⟨fun q => by subst q; exact absurd hk5 (by decide), fun q => by subst q; exact absurd hk5 (by decide), fun q => by subst q; exact absurd hk5 (by decide)⟩
        have hmok := hM.2
        simp only [mc_mok, Bool.and_eq_true, Bool.or_eq_true, decide_eq_true_eq] at hmok
        obtain ⟨⟨⟨⟨⟨⟨⟨⟨⟨m1, m2⟩, m3⟩, m4⟩, m5⟩, hpl⟩, m6⟩, m7⟩, m8⟩, m9⟩ := hmok
        rw [show (mc_meth cm).2.2.2.2.2.1 = false from hk4] at m2 m3 m8
        have m3 : lw_tbl[(mc_meth cm).2.2.2.2.2.2.2.2.2.2.2]? = some (Cond.selects (mc_y cm).cls (mc_y cm) (mc_y cm)) := by
          rcases m3 with (m3 | m3) | m3
          · cases m3
          · exact absurd m3 hk6
          · exact m3
        have m2 : lw_tbl[(mc_meth cm).2.2.2.2.2.2.2.2.2.2.1]? = some (Cond.instanceMethod (mc_y cm)) := of_decide_eq_true m2
        have m8 : mc_np cm + 1 ≤ mc_ml cm := m8
        have m9 : mc_ml cm ≤ 11 := m9
        have hlen : (st.take (mc_np cm)).length = mc_np cm := by
          have h2 := congrArg List.length hst
          rw [List.length_append, List.length_cons, List.length_take] at h2
          rw [List.length_take]
          omega
        subst hcle
        have hMet := mc_met (l := l) (z := z) (ta := ta) (cA := cA) (D := D) (X := X) (cm := cm) (vs := .ref b0 :: (st.take (mc_np cm)).reverse) hM (by
          intro v hv
          rcases List.mem_cons.mp hv with rfl | hv
          · rfl
          · exact hcat v (List.mem_reverse.mp hv)) (by rw [List.length_cons, List.length_reverse, hlen]; exact m8) ih1
        obtain ⟨fs, hGb⟩ : ∃ fs, G[b0]? = some (.inr (.inr (mc_own cm, fs))) := by
          unfold mc_cls at hcl
          split at hcl
          · rename_i hv2
            cases hcl
            exact ⟨_, hv2⟩
          · cases hcl
        have hrecv := va_recv hU.1 hP (mc_cl _ hk5) (mc_w_at hGb)
        dsimp only at hrecv
        rw [show mc_nm (mc_own cm) = (mc_y cm).cls from m7] at hrecv
        refine mc_call_go (va_runV (As := (st.take (mc_np cm)).reverse.map (mc_cv z ta)) (rest := rest.map (mc_cv z ta)) (C := (mc_y cm).cls) (n := mc_np cm) ⟨hx0, hb, hml, hown, hts⟩ hMet ⟨callB_of (mc_np cm) hts (mc_good cm hM) rfl rfl rfl (hts _ (mc_Ts_in m1 rfl)) (hts _ (mc_Ts_in hk1 rfl)) ⟨m4, m5, m6⟩ ⟨?_, ?_⟩, hts _ (mc_Ts_in m2 rfl), hts _ (mc_Ts_in m3 rfl)⟩ ⟨mc_Pc_blind, hrecv, fun U hUh hUw => ⟨rfl, (hpre U hUh hUw).1, (hpre U hUh hUw).2, by rw [hUh]; exact hHsz⟩⟩ rfl (by rw [List.length_map, List.length_reverse]; exact hlen) hl.2.1 ?_ (hW8 _) hd ⟨by show cells + (G1.length - G.length) ≤ _; omega, by show slots + (mc_sl G1 - mc_sl G) ≤ _; omega⟩) hS hcont
        · show mc_rk cm + 1 ≤ R.frames; omega
        · show 8 + (mc_ml cm + 11) + 30 * mc_rk cm ≤ R.locals; omega
        · show st.map (mc_cv z ta) = _
          rw [← List.map_reverse, List.reverse_reverse]
          conv => lhs; rw [hst]
          rw [List.map_append]
          rfl
      · -- invokespecial
        subst hi
        cases of_decide_eq_true hln
        simp only [mc_lk, if_neg h999, Bool.and_eq_true, Bool.not_eq_true', decide_eq_true_eq] at hk
        obtain ⟨⟨⟨⟨⟨hk1, hk2⟩, hk3⟩, hk4⟩, hk5⟩, hk6⟩ := hk
        have hM := mc_mt_at hk2 (Nat.lt_of_lt_of_le hk3 (mc_rk8 mi)) ⟨fun q => by subst q; exact absurd hk4 (by decide +kernel), fun q => by subst q; exact absurd hk4 (by decide +kernel), fun q => by subst q; exact absurd hk4 (by decide +kernel)⟩
        have hmok := hM.2
        simp only [mc_mok, Bool.and_eq_true, Bool.or_eq_true, decide_eq_true_eq] at hmok
        obtain ⟨⟨⟨⟨⟨⟨⟨⟨⟨m1, m2⟩, m3⟩, m4⟩, m5⟩, hpl⟩, m6⟩, m7⟩, m8⟩, m9⟩ := hmok
        rw [show (mc_meth cm).2.2.2.2.2.1 = false from hk5] at m2 m3 m8
        have m2 : lw_tbl[(mc_meth cm).2.2.2.2.2.2.2.2.2.2.1]? = some (Cond.instanceMethod (mc_y cm)) := of_decide_eq_true m2
        have m8 : mc_np cm + 1 ≤ mc_ml cm := m8
        have m9 : mc_ml cm ≤ 11 := m9
        have hlen : (st.take (mc_np cm)).length = mc_np cm := by
          have h2 := congrArg List.length hst
          rw [List.length_append, List.length_cons, List.length_take] at h2
          rw [List.length_take]
          omega
        subst hcle
        have hMet := mc_met (l := l) (z := z) (ta := ta) (cA := cA) (D := D) (X := X) (cm := cm) (vs := .ref b0 :: (st.take (mc_np cm)).reverse) hM (by
          intro v hv
          rcases List.mem_cons.mp hv with rfl | hv
          · rfl
          · exact hcat v (List.mem_reverse.mp hv)) (by rw [List.length_cons, List.length_reverse, hlen]; exact m8) ih1
        have hstk : st.map (mc_cv z ta) = ((st.take (mc_np cm)).reverse.map (mc_cv z ta)).reverse ++ .ref (z + b0) :: rest.map (mc_cv z ta) := by
          rw [← List.map_reverse, List.reverse_reverse]
          conv => lhs; rw [hst]
          rw [List.map_append]
          rfl
        have hgd := mc_good cm hM
        have hwd : mc_Wd cm = Cond.code (mc_y cm) (mc_by cm) (mc_ml cm) none :: mc_Ts := by unfold mc_Wd; rw [hk6]
        split at hk1
        · refine mc_call_go (va_runI (As := (st.take (mc_np cm)).reverse.map (mc_cv z ta)) (rest := rest.map (mc_cv z ta)) (n := mc_np cm) ⟨hx0, hb, hml, hown, hts⟩ hMet ⟨callB_of (mc_np cm) hts hgd hwd rfl rfl (hts _ (mc_Ts_in m1 rfl)) (hts _ (mc_Ts_in (of_decide_eq_true hk1) rfl)) ⟨m4, m5, m6⟩ ⟨?_, ?_⟩, hk4, hts _ (mc_Ts_in m2 rfl)⟩ ⟨mc_Pc_blind, fun U hUh hUw => ⟨rfl, (hpre U hUh hUw).1, (hpre U hUh hUw).2, by rw [hUh]; exact hHsz⟩⟩ rfl (by rw [List.length_map, List.length_reverse]; exact hlen) hl.2.1 hstk (hW8 _) hd ⟨by show cells + (G1.length - G.length) ≤ _; omega, by show slots + (mc_sl G1 - mc_sl G) ≤ _; omega⟩) hS hcont
          · show mc_rk cm + 1 ≤ R.frames; omega
          · show 8 + (mc_ml cm + 11) + 30 * mc_rk cm ≤ R.locals; omega
        · refine mc_call_go (va_runIN (As := (st.take (mc_np cm)).reverse.map (mc_cv z ta)) (rest := rest.map (mc_cv z ta)) (n := mc_np cm) ⟨hx0, hb, hml, hown, hts⟩ hMet ⟨va_cnB (mc_np cm) hts hgd hwd rfl rfl (hU.2.2.2.2.1 _ _ _ _ (List.mem_of_getElem? (of_decide_eq_true hk1))) (hts _ (mc_Ts_in m1 rfl)) ⟨m4, m5, m6⟩ ⟨?_, ?_⟩, hk4, hts _ (mc_Ts_in m2 rfl)⟩ ⟨mc_Pc_blind, fun U hUh hUw => ⟨rfl, (hpre U hUh hUw).1, (hpre U hUh hUw).2, by rw [hUh]; exact hHsz⟩⟩ rfl (by rw [List.length_map, List.length_reverse]; exact hlen) hl.2.1 hstk (hW8 _) hd ⟨by show cells + (G1.length - G.length) ≤ _; omega, by show slots + (mc_sl G1 - mc_sl G) ≤ _; omega⟩) hS hcont
          · show mc_rk cm + 1 ≤ R.frames; omega
          · show 8 + (mc_ml cm + 11) + 30 * mc_rk cm ≤ R.locals; omega
      · -- invokestatic
        subst hi
        cases of_decide_eq_true hln
        simp only [mc_lk, if_neg h998.1, Bool.and_eq_true, decide_eq_true_eq] at hk
        obtain ⟨⟨⟨hk1, hk2⟩, hk3⟩, hk4⟩ := hk
        have hM := mc_mt_at hk2 (Nat.lt_of_lt_of_le hk3 (mc_rk8 mi)) h998.2
        have hmok := hM.2
        simp only [mc_mok, Bool.and_eq_true, Bool.or_eq_true, decide_eq_true_eq] at hmok
        obtain ⟨⟨⟨⟨⟨⟨⟨⟨⟨m1, m2⟩, m3⟩, m4⟩, m5⟩, hpl⟩, m6⟩, m7⟩, m8⟩, m9⟩ := hmok
        rw [show (mc_meth cm).2.2.2.2.2.1 = true from hk4] at m2 m8
        have m2 : lw_tbl[(mc_meth cm).2.2.2.2.2.2.2.2.2.2.1]? = some (Cond.static (mc_y cm)) := of_decide_eq_true m2
        have m8 : mc_np cm + 0 ≤ mc_ml cm := m8
        have m9 : mc_ml cm ≤ 11 := m9
        have hlen : (st.take (mc_np cm)).length = mc_np cm := by
          rw [List.length_take]
          omega
        subst hcle
        have hMet := mc_met (l := l) (z := z) (ta := ta) (cA := cA) (D := D) (X := X) (cm := cm) (vs := (st.take (mc_np cm)).reverse) hM (fun v hv => hcat v (List.mem_reverse.mp hv)) (by rw [List.length_reverse, hlen]; exact m8) ih1
        refine mc_call_go (va_runS (As := (st.take (mc_np cm)).reverse.map (mc_cv z ta)) (rest := rest.map (mc_cv z ta)) (n := mc_np cm) ⟨hx0, hb, hml, hown, hts⟩ hMet ⟨callB_of (mc_np cm) hts (mc_good cm hM) rfl rfl rfl (hts _ (mc_Ts_in m1 rfl)) (hts _ (mc_Ts_in hk1 rfl)) ⟨m4, m5, m6⟩ ⟨?_, ?_⟩, hts _ (mc_Ts_in m2 rfl)⟩ ⟨mc_Pc_blind, fun U hUh hUw => ⟨rfl, (hpre U hUh hUw).1, (hpre U hUh hUw).2, by rw [hUh]; exact hHsz⟩⟩ rfl (by rw [List.length_map, List.length_reverse]; exact hlen) hl.2.1 ?_ (hW8 _) hd ⟨by show cells + (G1.length - G.length) ≤ _; omega, by show slots + (mc_sl G1 - mc_sl G) ≤ _; omega⟩) hS hcont
        · show mc_rk cm + 1 ≤ R.frames; omega
        · show 8 + (mc_ml cm + 11) + 30 * mc_rk cm ≤ R.locals; omega
        · show st.map (mc_cv z ta) = _
          rw [← List.map_reverse, List.reverse_reverse]
          conv => lhs; rw [hst]
          rw [List.map_append]
    · rename_i v hx
      cases h
      obtain ⟨he, hst⟩ := mc_ex_end hE hx
      refine ⟨⟨Nat.le_refl _, Nat.le_refl _⟩, ?_⟩
      intro p e R s m args below meth c H locs cells slots sl0 la Q C hP hS hl hc hs hRc hRs hend
      have := hend pc H locs cells slots la he hP hS hc hs
      have e1 : st.map (mc_cv z ta) = (r.map (mc_cv z ta)).toList := by rw [hst]; cases r <;> rfl
      rw [e1]
      exact this
    · cases h
end MCC
end
section
/-! THE CLAIM OUT OF ONE WALK OF THE LAW'S BODY. Your part is whole_start (and what it stands on); all else here is the same for every law, but numbers. -/
def R_law : String := "NeedlePlateLaw"
def lw_P (b : Addr) (xs : List Int32) (args : Array Value) (s : State) : Prop := args = #[.ref b] ∧ s.IntsAt b xs ∧ xs.length ≤ 4096 ∧ (Jvm.Cond.and given_1 narrow_1).before args s = true
def lw_Q (_ : Array Value) (s : State) (o : Outcome) (t : State) : Prop := o = .returned (some (.int 1)) ∧ Framed s o t [] 600000 7302250
def lw_Z (below : List Frame) (a : Array Value) (s : State) : State → Prop := fun t => ∃ o, t.status = .running ∧ Ended t below o ∧ lw_Q a s o t
/-- the law's own end, with 1 on the stack, nothing written that was there before, its room as the claim has it -/
theorem lw_ret {p : Program} {l : Launch} {e : Env} {s : State} {m : MethodId} {below : List Frame} {meth : Method} {c : Code} {b : Nat} (hx : p.tables.exec = Jvm.exec) (hb : c.code = code) (hr : meth.sig.returnType = ret) (hlocks : meth.locks = false) {pc : Nat} {H : Heap} {ls : Array Slot} (hdg : decode code pc = .ok (.ireturn, 1)) : W p l e room_1 s m #[Value.ref b] below meth c H [] 600000 7302250 (lw_Z below #[Value.ref b] s) (F0 m pc ls [.int 1]) := by
  intro T hT X
  obtain ⟨fs, hret, hrun, hended, hW, hframe⟩ := X.leave (v := some (.int 1)) (hlocks := hlocks) (fun h => by rw [hr] at h; cases h)
  have hmeth' : T.vm.method? m = some meth := X.method'
  refine ⟨T.setFrames fs, ?_, .returned (some (.int 1)), hrun, hended, rfl, ⟨_, rfl⟩, hW, hframe⟩
  jvm_step X.here [X.here.top, hx, hb, hdg, hmeth', hr, ret, narrow_b1]
  (try refine ⟨rfl, ?_⟩); (try refine ⟨rfl, ?_⟩)
  first | (intro acts; rw [hret _ acts rfl rfl rfl]) | rw [hret _ _ rfl rfl rfl]
  exact Steps.refl _
/-- what holds at the law's entry: the machine, the code, the tables' words (any of lw_tbl by 'hts w (by decide +kernel)'), the script of L ints xs at the cell b, what the Statement gives of the start (any of its parts by flat_of_before) -/
def lw_At (p : Program) (s : State) (m : MethodId) (meth : Method) (c : Code) (b L : Nat) (xs : Nat → Int32) : Prop :=
  p.tables.exec = Jvm.exec ∧ c.code = code ∧ meth.sig.returnType = ret ∧ c.maxLocals = 4 ∧ s.vm.findClass R_law = some m.cls ∧ (∀ w ∈ lw_tbl, w.before #[Value.ref b] s = true) ∧ va_X b L xs s s.heap ∧ b < s.heap.size ∧ meth.locks = false ∧ (Jvm.Cond.and given_1 narrow_1).before #[Value.ref b] s = true
/-- the static tables, and the script -/
def mc_t0 (j : Nat) : Int32 := match j with
  | 0 => 1
  | 1 => 1
  | 2 => 2
  | 3 => 0
  | _ => 1
def mc_t1 (j : Nat) : Int32 := match j with
  | 0 => 1
  | 1 => 10
  | 2 => 1
  | 3 => 1
  | _ => 110
def mc_t2 (j : Nat) : Int32 := match j with
  | 0 => 1000
  | 1 => 1000
  | 2 => 12000
  | 3 => 100000
  | _ => 1000
def mc_X0 (L : Nat) (xs : Nat → Int32) : mc_X := fun i => match i with
  | 0 => (5, mc_t0)
  | 1 => (5, mc_t1)
  | 2 => (5, mc_t2)
  | _ => (L, xs)
/-- what the small machine owes -/
def mc_Owed : Prop := ∀ (L : Nat) (xs : Nat → Int32), L ≤ 4096 → ∃ Gf : mc_H, mc_ev (mc_X0 L xs) 180 0 [.float 3, .null, .null, .null] [] [] = some (some (.int 1), Gf) ∧ Gf.length ≤ 600000 ∧ mc_sl Gf ≤ 7302250
set_option maxHeartbeats 4000000 in
set_option maxRecDepth 100000 in
theorem mc_start (hO : mc_Owed) {p : Program} {e : Env} {s : State} {m : MethodId} {below : List Frame} {meth : Method} {c : Code} (l : Launch) {b L : Nat} {xs : Nat → Int32} (hL : L ≤ 4096) (C0 : lw_At p s m meth c b L xs) : W p l e room_1 s m #[Value.ref b] below meth c s.heap [] 0 0 (lw_Z below #[Value.ref b] s) (entryFrame m ([Value.ref b] : List Value).toArray 4) := by
  obtain ⟨hx, hb, hr, hml, hown, hts, hX, hbl, hlocks, hgv⟩ := id C0
  have hA0 : ∀ a : Nat, a < s.heap.size → ¬ (fun q => s.heap.size ≤ q) a := fun a h => Nat.not_le.mpr h
  have hfl := flat_of_before _ hgv
  obtain ⟨t0, ht0, hT0⟩ := va_Tof (tm := .static "NeedlePlate" "WORTHS" "[I") (ty := .int) (N := 5) (f := fun j => .int (mc_t0 j)) (A := fun q => s.heap.size ≤ q) (by decide) (hfl _ (by decide +kernel)) (va_eqt (hfl (.eq (.length (.static "NeedlePlate" "WORTHS" "[I")) (.int 5)) (by decide +kernel))) (fun j hj => by
    rcases (show j = 0 ∨ j = 1 ∨ j = 2 ∨ j = 3 ∨ j = 4 by omega) with rfl | rfl | rfl | rfl | rfl
    · exact va_eqt (hfl (.eq (.elem (.static "NeedlePlate" "WORTHS" "[I") (.int 0)) (.int 1)) (by decide +kernel))
    · exact va_eqt (hfl (.eq (.elem (.static "NeedlePlate" "WORTHS" "[I") (.int 1)) (.int 1)) (by decide +kernel))
    · exact va_eqt (hfl (.eq (.elem (.static "NeedlePlate" "WORTHS" "[I") (.int 2)) (.int 2)) (by decide +kernel))
    · exact va_eqt (hfl (.eq (.elem (.static "NeedlePlate" "WORTHS" "[I") (.int 3)) (.int 0)) (by decide +kernel))
    · exact va_eqt (hfl (.eq (.elem (.static "NeedlePlate" "WORTHS" "[I") (.int 4)) (.int 1)) (by decide +kernel))) hA0
  have hZ0 := va_Zref (hts (.laysStatic "NeedlePlate" "WORTHS" "[I") (List.mem_of_getElem? (i := 403) (by decide +kernel))) (hts (.initialized "NeedlePlate") (List.mem_of_getElem? (i := 44) (by decide +kernel))) ht0 hA0
  obtain ⟨t1, ht1, hT1⟩ := va_Tof (tm := .static "NeedlePlate" "POINT_TRACES" "[I") (ty := .int) (N := 5) (f := fun j => .int (mc_t1 j)) (A := fun q => s.heap.size ≤ q) (by decide) (hfl _ (by decide +kernel)) (va_eqt (hfl (.eq (.length (.static "NeedlePlate" "POINT_TRACES" "[I")) (.int 5)) (by decide +kernel))) (fun j hj => by
    rcases (show j = 0 ∨ j = 1 ∨ j = 2 ∨ j = 3 ∨ j = 4 by omega) with rfl | rfl | rfl | rfl | rfl
    · exact va_eqt (hfl (.eq (.elem (.static "NeedlePlate" "POINT_TRACES" "[I") (.int 0)) (.int 1)) (by decide +kernel))
    · exact va_eqt (hfl (.eq (.elem (.static "NeedlePlate" "POINT_TRACES" "[I") (.int 1)) (.int 10)) (by decide +kernel))
    · exact va_eqt (hfl (.eq (.elem (.static "NeedlePlate" "POINT_TRACES" "[I") (.int 2)) (.int 1)) (by decide +kernel))
    · exact va_eqt (hfl (.eq (.elem (.static "NeedlePlate" "POINT_TRACES" "[I") (.int 3)) (.int 1)) (by decide +kernel))
    · exact va_eqt (hfl (.eq (.elem (.static "NeedlePlate" "POINT_TRACES" "[I") (.int 4)) (.int 110)) (by decide +kernel))) hA0
  have hZ1 := va_Zref (hts (.laysStatic "NeedlePlate" "POINT_TRACES" "[I") (List.mem_of_getElem? (i := 479) (by decide +kernel))) (hts (.initialized "NeedlePlate") (List.mem_of_getElem? (i := 44) (by decide +kernel))) ht1 hA0
  obtain ⟨t2, ht2, hT2⟩ := va_Tof (tm := .static "NeedlePlate" "WORTH_TRACES" "[I") (ty := .int) (N := 5) (f := fun j => .int (mc_t2 j)) (A := fun q => s.heap.size ≤ q) (by decide) (hfl _ (by decide +kernel)) (va_eqt (hfl (.eq (.length (.static "NeedlePlate" "WORTH_TRACES" "[I")) (.int 5)) (by decide +kernel))) (fun j hj => by
    rcases (show j = 0 ∨ j = 1 ∨ j = 2 ∨ j = 3 ∨ j = 4 by omega) with rfl | rfl | rfl | rfl | rfl
    · exact va_eqt (hfl (.eq (.elem (.static "NeedlePlate" "WORTH_TRACES" "[I") (.int 0)) (.int 1000)) (by decide +kernel))
    · exact va_eqt (hfl (.eq (.elem (.static "NeedlePlate" "WORTH_TRACES" "[I") (.int 1)) (.int 1000)) (by decide +kernel))
    · exact va_eqt (hfl (.eq (.elem (.static "NeedlePlate" "WORTH_TRACES" "[I") (.int 2)) (.int 12000)) (by decide +kernel))
    · exact va_eqt (hfl (.eq (.elem (.static "NeedlePlate" "WORTH_TRACES" "[I") (.int 3)) (.int 100000)) (by decide +kernel))
    · exact va_eqt (hfl (.eq (.elem (.static "NeedlePlate" "WORTH_TRACES" "[I") (.int 4)) (.int 1000)) (by decide +kernel))) hA0
  have hZ2 := va_Zref (hts (.laysStatic "NeedlePlate" "WORTH_TRACES" "[I") (List.mem_of_getElem? (i := 486) (by decide +kernel))) (hts (.initialized "NeedlePlate") (List.mem_of_getElem? (i := 44) (by decide +kernel))) ht2 hA0
  have hT3 : va_T .int b L (fun j => .int (xs j)) (fun q => s.heap.size ≤ q) s s.heap := by
    obtain ⟨scr, h1, h2, h3, h4, h5⟩ := hX
    exact ⟨scr, h1, h2, h3, Nat.le_of_eq h4.symm, by rw [h4], h5, hA0 b hbl⟩
  obtain ⟨c0, iS0, hKn0⟩ := u_known (C := RX0) (T := TX0) (N := 10) (n := 10) hts iX0 (hts (.instantiable RX0 10) (List.mem_of_getElem? (i := 72) (by decide +kernel)))
  obtain ⟨c1, iS1, hKn1⟩ := u_known (C := RX1) (T := TX1) (N := 3) (n := 3) hts iX1 (hts (.instantiable RX1 3) (List.mem_of_getElem? (i := 178) (by decide +kernel)))
  obtain ⟨c2, iS2, hKn2⟩ := u_known (C := RX2) (T := TX2) (N := 6) (n := 6) hts iX2 (hts (.instantiable RX2 6) (List.mem_of_getElem? (i := 198) (by decide +kernel)))
  obtain ⟨c3, iS3, hKn3⟩ := u_known (C := RX3) (T := TX3) (N := 2) (n := 2) hts iX3 (hts (.instantiable RX3 2) (List.mem_of_getElem? (i := 225) (by decide +kernel)))
  obtain ⟨c4, iS4, hKn4⟩ := u_known (C := RX4) (T := TX4) (N := 2) (n := 2) hts iX4 (hts (.instantiable RX4 2) (List.mem_of_getElem? (i := 66) (by decide +kernel)))
  obtain ⟨c5, iS5, hKn5⟩ := u_known (C := RX5) (T := TX5) (N := 5) (n := 5) hts iX5 (hts (.instantiable RX5 5) (List.mem_of_getElem? (i := 133) (by decide +kernel)))
  obtain ⟨c6, iS6, hKn6⟩ := u_known (C := RX6) (T := TX6) (N := 4) (n := 4) hts iX6 (hts (.instantiable RX6 4) (List.mem_of_getElem? (i := 239) (by decide +kernel)))
  obtain ⟨c7, iS7, hKn7⟩ := u_known (C := RX7) (T := TX7) (N := 7) (n := 7) hts iX7 (hts (.instantiable RX7 7) (List.mem_of_getElem? (i := 58) (by decide +kernel)))
  obtain ⟨c8, iS8, hKn8⟩ := u_known (C := RX8) (T := TX8) (N := 20) (n := 20) hts iX8 (hts (.instantiable RX8 20) (List.mem_of_getElem? (i := 748) (by decide +kernel)))
  obtain ⟨dC, dI, hKc⟩ : ∃ (dC : Nat → ClassId) (dI : Nat → Nat → Nat), ∀ (k : Nat) (q : vw_C), vwCl[k]? = some q → u_Kn s q.1 q.2.1 q.2.2 (dC k) (dI k) := by
    refine ⟨fun k => if k = 0 then c0 else if k = 1 then c1 else if k = 2 then c2 else if k = 3 then c3 else if k = 4 then c4 else if k = 5 then c5 else if k = 6 then c6 else if k = 7 then c7 else c8, fun k => if k = 0 then iS0 else if k = 1 then iS1 else if k = 2 then iS2 else if k = 3 then iS3 else if k = 4 then iS4 else if k = 5 then iS5 else if k = 6 then iS6 else if k = 7 then iS7 else iS8, ?_⟩
    intro k q hq
    match k, hq with
    | 0, hq => cases hq; exact hKn0
    | 1, hq => cases hq; exact hKn1
    | 2, hq => cases hq; exact hKn2
    | 3, hq => cases hq; exact hKn3
    | 4, hq => cases hq; exact hKn4
    | 5, hq => cases hq; exact hKn5
    | 6, hq => cases hq; exact hKn6
    | 7, hq => cases hq; exact hKn7
    | 8, hq => cases hq; exact hKn8
    | k + 9, hq => simp [vwCl] at hq
  obtain ⟨cI, kI, pI, aI1, aI2, aI3⟩ := Cond.arrayClass_spec (hts (.arrayClass .int) (List.mem_of_getElem? (i := 131) (by decide +kernel)))
  obtain ⟨cZ, kZ, pZ, aZ1, aZ2, aZ3⟩ := Cond.arrayClass_spec (hts (.arrayClass .boolean) (List.mem_of_getElem? (i := 814) (by decide +kernel)))
  have hO5 : va_AO RX5 s := va_AO.of (hts (.arrayOver (.object RX5)) (List.mem_of_getElem? (i := 184) (by decide +kernel)))
  have hO6 : va_AO RX6 s := va_AO.of (hts (.arrayOver (.object RX6)) (List.mem_of_getElem? (i := 238) (by decide +kernel)))
  obtain ⟨p5, c5a, k5, b51, b52, b53, b54, b55⟩ := Cond.arrayOver_spec hO5
  obtain ⟨p6, c6a, k6, b61, b62, b63, b64, b65⟩ := Cond.arrayOver_spec hO6
  let cA : Nat → ClassId := fun t => if t = 0 then cI else if t = 1 then cZ else if t = 2 then c5a else c6a
  let ta : Nat → Nat := fun i => if i = 0 then t0 else if i = 1 then t1 else if i = 2 then t2 else b
  have hK : va_K (dC, dI) vwCl (mc_tys cA) s := by
    refine ⟨hKc, fun k q h => ?_⟩
    match k, h with
    | 0, h => cases h; exact ⟨fun n z => ⟨fun k h => (by cases h), kI, aI2, pI, aI3⟩, aI1⟩
    | 1, h => cases h; exact ⟨fun n z => ⟨fun k h => (by cases h), kZ, aZ2, pZ, aZ3⟩, aZ1⟩
    | 2, h => cases h; exact ⟨fun n z => ⟨fun k h => (by cases h), k5, b53, p5, b54⟩, k5, p5, b53, b54, b51, b55⟩
    | 3, h => cases h; exact ⟨fun n z => ⟨fun k h => (by cases h), k6, b63, p6, b64⟩, k6, p6, b63, b64, b61, b65⟩
    | k + 4, h => simp [mc_tys] at h
  have hU : mc_U s.heap.size ta cA (dC, dI) (mc_X0 L xs) s := by
    refine ⟨hK, fun i hi => ?_, fun i hi => ?_, fun a i b n d h hm => va_Nw.of rfl (hts _ hm), fun a i x h hm => va_Nw.of rfl (hts _ hm), ⟨hO5, hO6⟩, Nat.le_refl _⟩
    · rcases (show i = 0 ∨ i = 1 ∨ i = 2 by omega) with rfl | rfl | rfl
      · exact hZ0
      · exact hZ1
      · exact hZ2
    · rcases (show i = 0 ∨ i = 1 ∨ i = 2 ∨ i = 3 by omega) with rfl | rfl | rfl | rfl
      · exact hT0
      · exact hT1
      · exact hT2
      · exact hT3
  obtain ⟨Gf, hev, hGc, hGs⟩ := hO L xs hL
  obtain ⟨n, hn⟩ := mc_ev_iff.mp hev
  have hsnd := mc_sound (z := s.heap.size) (ta := ta) (cA := cA) (D := (dC, dI)) (l := l) n _ _ _ _ _ _ _ hn
  rw [lg_entry_eq]
  have hP0 : va_P (dC, dI) vwCl (mc_w s.heap.size ta cA []) s.heap := fun k q h => by simp [mc_w] at h
  have hl0 : mc_L s.heap.size ta ((lg_sl ([Value.ref b] : List Value) ++ List.replicate (4 - (lg_sl ([Value.ref b] : List Value)).length) Slot.unset).toArray) (mc_ml 180) [.float 3, .null, .null, .null] := mc_L.entry (z := s.heap.size) (ta := ta) [.float 3] (n := 4) (by intro v hv; rw [List.mem_singleton.mp hv]; rfl) (by decide)
  refine hsnd.2 p e room_1 s m _ below meth c s.heap [] 0 0 0 _ _ ⟨hx, hb, hml, hown, fun w hw => hts w (List.mem_filter.mp hw).1, hU, ?_, by decide +kernel, by decide +kernel⟩ hP0 va_S.rf hl0 rfl rfl ?_ ?_ ?_
  · exact fun q => absurd q (by decide +kernel)
  · show s.heap.size + Gf.length ≤ s.heap.size + 600000; omega
  · show mc_sl Gf ≤ 0 + 7302250; omega
  · intro pc' H' locs' cells' slots' la' hend hP' hS' hc' hs'
    refine va_forget hS'.2.2 ?_
    refine W.widen (k := 600000) (n := 7302250) (by omega) (by omega) ?_
    exact lw_ret hx hb hr hlocks hend.1
end
section
/-! what a run comes to, an instruction at a time: equations without fuel -/
section EV
variable {X : mc_X} {k pc a b w : Nat} {cc : Int} {ls st : List Value} {G : mc_H}
theorem ev_next {E : mc_E} (h : mc_code k pc = some E) {pc' : Nat} {ls' st' : List Value} {G' : mc_H} (hx : mc_ex X k pc E ls st G = some (.inl (pc', ls', st', G'))) : mc_ev X k pc ls st G = mc_ev X k pc' ls' st' G' := by
  rw [mc_ev_eq]; unfold mc_F mc_st; rw [h]; dsimp only; rw [hx]
theorem ev_iconst {n : Int} (h : mc_code k pc = some (.iconst n, 1, a, b, w, cc)) {v : Int32} (hv : Int32.ofInt n = v) : mc_ev X k pc ls st G = mc_ev X k (pc + 1) ls (.int v :: st) G := by subst hv; exact ev_next h rfl
theorem ev_bipush {n : Int} (h : mc_code k pc = some (.bipush n, 2, a, b, w, cc)) {v : Int32} (hv : (Int8.ofInt n).toInt32 = v) : mc_ev X k pc ls st G = mc_ev X k (pc + 2) ls (.int v :: st) G := by subst hv; exact ev_next h rfl
theorem ev_sipush {n : Int} (h : mc_code k pc = some (.sipush n, 3, a, b, w, cc)) {v : Int32} (hv : (Int16.ofInt n).toInt32 = v) : mc_ev X k pc ls st G = mc_ev X k (pc + 3) ls (.int v :: st) G := by subst hv; exact ev_next h rfl
theorem ev_lconst {n : Fin 2} (h : mc_code k pc = some (.lconst n, 1, a, b, w, cc)) {v : Int64} (hv : Int64.ofNat (n : Nat) = v) : mc_ev X k pc ls st G = mc_ev X k (pc + 1) ls (.long v :: st) G := by subst hv; exact ev_next h rfl
theorem ev_ldc {i : Nat} (h : mc_code k pc = some (.ldc i, 2, a, b, w, cc)) {v : Int32} (hv : Int32.ofInt cc = v) : mc_ev X k pc ls st G = mc_ev X k (pc + 2) ls (.int v :: st) G := by subst hv; exact ev_next h rfl
theorem ev_ldc_w {i : Nat} (h : mc_code k pc = some (.ldc_w i, 3, a, b, w, cc)) {v : Int32} (hv : Int32.ofInt cc = v) : mc_ev X k pc ls st G = mc_ev X k (pc + 3) ls (.int v :: st) G := by subst hv; exact ev_next h rfl
theorem ev_ldc2_w {i : Nat} (h : mc_code k pc = some (.ldc2_w i, 3, a, b, w, cc)) {v : Int64} (hv : Int64.ofInt cc = v) : mc_ev X k pc ls st G = mc_ev X k (pc + 3) ls (.long v :: st) G := by subst hv; exact ev_next h rfl
theorem ev_iload_n {j : Fin 4} (h : mc_code k pc = some (.iload_n j, 1, a, b, w, cc)) {x : Int32} (hl : ls[(j : Nat)]? = some (.int x)) : mc_ev X k pc ls st G = mc_ev X k (pc + 1) ls (.int x :: st) G := ev_next h (by unfold mc_ex; dsimp only; rw [hl])
theorem ev_iload {j : Nat} (h : mc_code k pc = some (.iload j, 2, a, b, w, cc)) {x : Int32} (hl : ls[j]? = some (.int x)) : mc_ev X k pc ls st G = mc_ev X k (pc + 2) ls (.int x :: st) G := ev_next h (by unfold mc_ex; dsimp only; rw [hl])
theorem ev_aload_n {j : Fin 4} (h : mc_code k pc = some (.aload_n j, 1, a, b, w, cc)) {x : Nat} (hl : ls[(j : Nat)]? = some (.ref x)) : mc_ev X k pc ls st G = mc_ev X k (pc + 1) ls (.ref x :: st) G := ev_next h (by unfold mc_ex; dsimp only; rw [hl])
theorem ev_aload {j : Nat} (h : mc_code k pc = some (.aload j, 2, a, b, w, cc)) {x : Nat} (hl : ls[j]? = some (.ref x)) : mc_ev X k pc ls st G = mc_ev X k (pc + 2) ls (.ref x :: st) G := ev_next h (by unfold mc_ex; dsimp only; rw [hl])
theorem ev_aload_nF {j : Fin 4} (h : mc_code k pc = some (.aload_n j, 1, a, b, w, cc)) {x : UInt32} (hl : ls[(j : Nat)]? = some (.float x)) : mc_ev X k pc ls st G = mc_ev X k (pc + 1) ls (.float x :: st) G := ev_next h (by unfold mc_ex; dsimp only; rw [hl])
theorem ev_istore_n {j : Fin 4} (h : mc_code k pc = some (.istore_n j, 1, a, b, w, cc)) {x : Int32} (hl : (j : Nat) < ls.length) : mc_ev X k pc ls (.int x :: st) G = mc_ev X k (pc + 1) (ls.set j (.int x)) st G := ev_next h (by unfold mc_ex; dsimp only; rw [if_pos hl])
theorem ev_istore {j : Nat} (h : mc_code k pc = some (.istore j, 2, a, b, w, cc)) {x : Int32} (hl : j < ls.length) : mc_ev X k pc ls (.int x :: st) G = mc_ev X k (pc + 2) (ls.set j (.int x)) st G := ev_next h (by unfold mc_ex; dsimp only; rw [if_pos hl])
theorem ev_astore_n {j : Fin 4} (h : mc_code k pc = some (.astore_n j, 1, a, b, w, cc)) {x : Nat} (hl : (j : Nat) < ls.length) : mc_ev X k pc ls (.ref x :: st) G = mc_ev X k (pc + 1) (ls.set j (.ref x)) st G := ev_next h (by unfold mc_ex; dsimp only; rw [if_pos hl])
theorem ev_astore {j : Nat} (h : mc_code k pc = some (.astore j, 2, a, b, w, cc)) {x : Nat} (hl : j < ls.length) : mc_ev X k pc ls (.ref x :: st) G = mc_ev X k (pc + 2) (ls.set j (.ref x)) st G := ev_next h (by unfold mc_ex; dsimp only; rw [if_pos hl])
theorem ev_iinc {j : Nat} {n : Int} (h : mc_code k pc = some (.iinc j n, 3, a, b, w, cc)) {x v : Int32} (hl : ls[j]? = some (.int x)) (hv : Int32.ofInt n = v) : mc_ev X k pc ls st G = mc_ev X k (pc + 3) (ls.set j (.int (x + v))) st G := by subst hv; exact ev_next h (by unfold mc_ex; dsimp only; rw [hl])
theorem ev_iadd (h : mc_code k pc = some (.iadd, 1, a, b, w, cc)) {x y : Int32} : mc_ev X k pc ls (.int y :: .int x :: st) G = mc_ev X k (pc + 1) ls (.int (x + y) :: st) G := ev_next h rfl
theorem ev_isub (h : mc_code k pc = some (.isub, 1, a, b, w, cc)) {x y : Int32} : mc_ev X k pc ls (.int y :: .int x :: st) G = mc_ev X k (pc + 1) ls (.int (x - y) :: st) G := ev_next h rfl
theorem ev_imul (h : mc_code k pc = some (.imul, 1, a, b, w, cc)) {x y : Int32} : mc_ev X k pc ls (.int y :: .int x :: st) G = mc_ev X k (pc + 1) ls (.int (x * y) :: st) G := ev_next h rfl
theorem ev_iand (h : mc_code k pc = some (.iand, 1, a, b, w, cc)) {x y : Int32} : mc_ev X k pc ls (.int y :: .int x :: st) G = mc_ev X k (pc + 1) ls (.int (x &&& y) :: st) G := ev_next h rfl
theorem ev_ior (h : mc_code k pc = some (.ior, 1, a, b, w, cc)) {x y : Int32} : mc_ev X k pc ls (.int y :: .int x :: st) G = mc_ev X k (pc + 1) ls (.int (x ||| y) :: st) G := ev_next h rfl
theorem ev_ixor (h : mc_code k pc = some (.ixor, 1, a, b, w, cc)) {x y : Int32} : mc_ev X k pc ls (.int y :: .int x :: st) G = mc_ev X k (pc + 1) ls (.int (x ^^^ y) :: st) G := ev_next h rfl
theorem ev_idiv (h : mc_code k pc = some (.idiv, 1, a, b, w, cc)) {x y : Int32} : mc_ev X k pc ls (.int y :: .int x :: st) G = if y = 0 then none else mc_ev X k (pc + 1) ls (.int (x / y) :: st) G := by
  by_cases hy : y = 0
  · rw [if_pos hy, mc_ev_eq]; unfold mc_F mc_st; rw [h]; unfold mc_ex; dsimp only; rw [if_pos hy]
  · rw [if_neg hy]; exact ev_next h (by unfold mc_ex; dsimp only; rw [if_neg hy])
theorem ev_irem (h : mc_code k pc = some (.irem, 1, a, b, w, cc)) {x y : Int32} : mc_ev X k pc ls (.int y :: .int x :: st) G = if y = 0 then none else mc_ev X k (pc + 1) ls (.int (x - x / y * y) :: st) G := by
  by_cases hy : y = 0
  · rw [if_pos hy, mc_ev_eq]; unfold mc_F mc_st; rw [h]; unfold mc_ex; dsimp only; rw [if_pos hy]
  · rw [if_neg hy]; exact ev_next h (by unfold mc_ex; dsimp only; rw [if_neg hy])
theorem ev_ineg (h : mc_code k pc = some (.ineg, 1, a, b, w, cc)) {x : Int32} : mc_ev X k pc ls (.int x :: st) G = mc_ev X k (pc + 1) ls (.int (-x) :: st) G := ev_next h rfl
theorem ev_ishl (h : mc_code k pc = some (.ishl, 1, a, b, w, cc)) {x y : Int32} : mc_ev X k pc ls (.int y :: .int x :: st) G = mc_ev X k (pc + 1) ls (.int (x <<< (y &&& 31)) :: st) G := ev_next h rfl
theorem ev_ishr (h : mc_code k pc = some (.ishr, 1, a, b, w, cc)) {x y : Int32} : mc_ev X k pc ls (.int y :: .int x :: st) G = mc_ev X k (pc + 1) ls (.int (x >>> (y &&& 31)) :: st) G := ev_next h rfl
theorem ev_iushr (h : mc_code k pc = some (.iushr, 1, a, b, w, cc)) {x y : Int32} : mc_ev X k pc ls (.int y :: .int x :: st) G = mc_ev X k (pc + 1) ls (.int ((x.toUInt32 >>> (y.toUInt32 &&& Int32.toUInt32 31)).toInt32) :: st) G := ev_next h rfl
theorem ev_i2l (h : mc_code k pc = some (.i2l, 1, a, b, w, cc)) {x : Int32} : mc_ev X k pc ls (.int x :: st) G = mc_ev X k (pc + 1) ls (.long x.toInt64 :: st) G := ev_next h rfl
theorem ev_i2b (h : mc_code k pc = some (.i2b, 1, a, b, w, cc)) {x : Int32} : mc_ev X k pc ls (.int x :: st) G = mc_ev X k (pc + 1) ls (.int x.toInt8.toInt32 :: st) G := ev_next h rfl
theorem ev_i2s (h : mc_code k pc = some (.i2s, 1, a, b, w, cc)) {x : Int32} : mc_ev X k pc ls (.int x :: st) G = mc_ev X k (pc + 1) ls (.int x.toInt16.toInt32 :: st) G := ev_next h rfl
theorem ev_ladd (h : mc_code k pc = some (.ladd, 1, a, b, w, cc)) {x y : Int64} : mc_ev X k pc ls (.long y :: .long x :: st) G = mc_ev X k (pc + 1) ls (.long (x + y) :: st) G := ev_next h rfl
theorem ev_lcmp (h : mc_code k pc = some (.lcmp, 1, a, b, w, cc)) {x y : Int64} : mc_ev X k pc ls (.long y :: .long x :: st) G = mc_ev X k (pc + 1) ls (.int (lg_cmp x y) :: st) G := ev_next h rfl
theorem ev_dup (h : mc_code k pc = some (.dup, 1, a, b, w, cc)) {x : Nat} : mc_ev X k pc ls (.ref x :: st) G = mc_ev X k (pc + 1) ls (.ref x :: .ref x :: st) G := ev_next h rfl
theorem ev_br {E : mc_E} (h : mc_code k pc = some E) {c : Prop} [Decidable c] {p1 p2 : Nat} {st' : List Value} (hx : mc_ex X k pc E ls st G = if c then some (.inl (p1, ls, st', G)) else some (.inl (p2, ls, st', G))) : mc_ev X k pc ls st G = if c then mc_ev X k p1 ls st' G else mc_ev X k p2 ls st' G := by
  by_cases hc : c
  · rw [if_pos hc]; rw [if_pos hc] at hx; exact ev_next h hx
  · rw [if_neg hc]; rw [if_neg hc] at hx; exact ev_next h hx
theorem ev_goto {off : Int} (h : mc_code k pc = some (.goto off, 3, a, b, w, cc)) {tgt : Nat} (ht : mc_tgt pc off = tgt) : mc_ev X k pc ls st G = mc_ev X k tgt ls st G := by subst ht; exact ev_next h rfl
theorem ev_opt {α : Type} {E : mc_E} (h : mc_code k pc = some E) (o : Option α) {pc' : Nat} (ls' : α → List Value) (st' : α → List Value) (G' : α → mc_H) (hs : ∀ q, o = some q → mc_ex X k pc E ls st G = some (.inl (pc', ls' q, st' q, G' q))) (hn : o = none → mc_ex X k pc E ls st G = none) : mc_ev X k pc ls st G = o.bind (fun q => mc_ev X k pc' (ls' q) (st' q) (G' q)) := by
  cases o with
  | none => rw [mc_ev_eq]; unfold mc_F mc_st; rw [h]; dsimp only; rw [hn rfl]; rfl
  | some q => exact ev_next h (hs q rfl)
theorem ev_getfield {i : Nat} (h : mc_code k pc = some (.getfield i, 3, a, b, w, cc)) {r : Nat} : mc_ev X k pc ls (.ref r :: st) G = (mc_getf G r a b).bind (fun v => mc_ev X k (pc + 3) ls (v :: st) G) := ev_opt h (mc_getf G r a b) (fun _ => ls) (fun v => v :: st) (fun _ => G) (fun q hq => by unfold mc_ex; dsimp only; rw [hq]) (fun hq => by unfold mc_ex; dsimp only; rw [hq])
theorem ev_putfield {i : Nat} (h : mc_code k pc = some (.putfield i, 3, a, b, w, cc)) {r : Nat} {v : Value} : mc_ev X k pc ls (v :: .ref r :: st) G = (mc_setf G r a b v).bind (fun G' => mc_ev X k (pc + 3) ls st G') := ev_opt h (mc_setf G r a b v) (fun _ => ls) (fun _ => st) (fun G' => G') (fun q hq => by unfold mc_ex; dsimp only; rw [hq]) (fun hq => by unfold mc_ex; dsimp only; rw [hq])
theorem ev_getstatic {i : Nat} (h : mc_code k pc = some (.getstatic i, 3, a, b, w, cc)) {u : UInt32} (hu : UInt32.ofNat a = u) : mc_ev X k pc ls st G = mc_ev X k (pc + 3) ls (.float u :: st) G := by subst hu; exact ev_next h rfl
theorem ev_iaload (h : mc_code k pc = some (.iaload, 1, a, b, w, cc)) {i : Int32} {r : Value} : mc_ev X k pc ls (.int i :: r :: st) G = (mc_getA X G 0 r i).bind (fun x => mc_ev X k (pc + 1) ls (.int x :: st) G) := ev_opt h (mc_getA X G 0 r i) (fun _ => ls) (fun v => .int v :: st) (fun _ => G) (fun q hq => by unfold mc_ex; dsimp only; rw [hq]) (fun hq => by unfold mc_ex; dsimp only; rw [hq])
theorem ev_baload (h : mc_code k pc = some (.baload, 1, a, b, w, cc)) {i : Int32} {r : Value} : mc_ev X k pc ls (.int i :: r :: st) G = (mc_getA X G 1 r i).bind (fun x => mc_ev X k (pc + 1) ls (.int x :: st) G) := ev_opt h (mc_getA X G 1 r i) (fun _ => ls) (fun v => .int v :: st) (fun _ => G) (fun q hq => by unfold mc_ex; dsimp only; rw [hq]) (fun hq => by unfold mc_ex; dsimp only; rw [hq])
theorem ev_iastore (h : mc_code k pc = some (.iastore, 1, a, b, w, cc)) {i x : Int32} {r : Nat} : mc_ev X k pc ls (.int x :: .int i :: .ref r :: st) G = (mc_setA G 0 r i x).bind (fun G' => mc_ev X k (pc + 1) ls st G') := ev_opt h (mc_setA G 0 r i x) (fun _ => ls) (fun _ => st) (fun G' => G') (fun q hq => by unfold mc_ex; dsimp only; rw [hq]) (fun hq => by unfold mc_ex; dsimp only; rw [hq])
theorem ev_bastore (h : mc_code k pc = some (.bastore, 1, a, b, w, cc)) {i x : Int32} {r : Nat} : mc_ev X k pc ls (.int x :: .int i :: .ref r :: st) G = (mc_setA G 1 r i (vp_nar .boolean x)).bind (fun G' => mc_ev X k (pc + 1) ls st G') := ev_opt h (mc_setA G 1 r i (vp_nar .boolean x)) (fun _ => ls) (fun _ => st) (fun G' => G') (fun q hq => by unfold mc_ex; dsimp only; rw [hq]) (fun hq => by unfold mc_ex; dsimp only; rw [hq])
theorem ev_arraylength (h : mc_code k pc = some (.arraylength, 1, a, b, w, cc)) {r : Value} : mc_ev X k pc ls (r :: st) G = (mc_len X G r).bind (fun x => mc_ev X k (pc + 1) ls (.int x :: st) G) := ev_opt h (mc_len X G r) (fun _ => ls) (fun v => .int v :: st) (fun _ => G) (fun q hq => by unfold mc_ex; dsimp only; rw [hq]) (fun hq => by unfold mc_ex; dsimp only; rw [hq])
theorem ev_aaload (h : mc_code k pc = some (.aaload, 1, a, b, w, cc)) {i : Int32} {r : Nat} : mc_ev X k pc ls (.int i :: .ref r :: st) G = (mc_getQ G r i).bind (fun x => mc_ev X k (pc + 1) ls (.ref x :: st) G) := ev_opt h (mc_getQ G r i) (fun _ => ls) (fun v => .ref v :: st) (fun _ => G) (fun q hq => by unfold mc_ex; dsimp only; rw [hq]) (fun hq => by unfold mc_ex; dsimp only; rw [hq])
theorem ev_aastore (h : mc_code k pc = some (.aastore, 1, a, b, w, cc)) {i : Int32} {r v : Nat} : mc_ev X k pc ls (.ref v :: .int i :: .ref r :: st) G = (mc_setQ G r i v).bind (fun G' => mc_ev X k (pc + 1) ls st G') := ev_opt h (mc_setQ G r i v) (fun _ => ls) (fun _ => st) (fun G' => G') (fun q hq => by unfold mc_ex; dsimp only; rw [hq]) (fun hq => by unfold mc_ex; dsimp only; rw [hq])
theorem ev_new {i : Nat} (h : mc_code k pc = some (.new i, 3, a, b, w, cc)) : mc_ev X k pc ls st G = mc_ev X k (pc + 3) ls (.ref G.length :: st) (G ++ [.inr (.inr (a, mc_df a))]) := ev_next h rfl
theorem ev_newarray {t : ArrayType} (h : mc_code k pc = some (.newarray t, 2, a, b, w, cc)) {n : Int32} (hn : ¬ (n < 0 ∨ 65536 < n.toNatClampNeg)) : mc_ev X k pc ls (.int n :: st) G = mc_ev X k (pc + 2) ls (.ref G.length :: st) (G ++ [.inl (a, n.toNatClampNeg, fun _ => 0)]) := ev_next h (by unfold mc_ex; dsimp only; rw [if_neg hn])
theorem ev_anewarray {i : Nat} (h : mc_code k pc = some (.anewarray i, 3, a, b, w, cc)) {n : Int32} (hn : ¬ (n < 0 ∨ 65536 < n.toNatClampNeg)) : mc_ev X k pc ls (.int n :: st) G = mc_ev X k (pc + 3) ls (.ref G.length :: st) (G ++ [.inr (.inl (a, n.toNatClampNeg, fun _ => none))]) := ev_next h (by unfold mc_ex; dsimp only; rw [if_neg hn])
theorem ev_objinit {i : Nat} (h : mc_code k pc = some (.invokespecial i, 3, 999, b, w, cc)) {r : Nat} (hr : st.length ≤ 4) : mc_ev X k pc ls (.ref r :: st) G = mc_ev X k (pc + 3) ls st G := ev_next h (by unfold mc_ex; dsimp only; rw [if_pos rfl, if_pos hr])
theorem ev_copy {i : Nat} (h : mc_code k pc = some (.invokestatic i, 3, 998, b, w, cc)) {n dp sp : Int32} {a1 a0 : Nat} (hr : st.length ≤ 4) : mc_ev X k pc ls (.int n :: .int dp :: .ref a1 :: .int sp :: .ref a0 :: st) G = (mc_cpy G a0 a1 sp dp n).bind (fun G' => mc_ev X k (pc + 3) ls st G') := ev_opt h (mc_cpy G a0 a1 sp dp n) (fun _ => ls) (fun _ => st) (fun G' => G') (fun q hq => by unfold mc_ex; dsimp only; rw [if_pos rfl, if_pos hr, hq]) (fun hq => by unfold mc_ex; dsimp only; rw [if_pos rfl, if_pos hr, hq])
theorem ev_abs {i : Nat} (h : mc_code k pc = some (.invokestatic i, 3, 176, b, w, cc)) {x : Int32} (hr : st.length ≤ 4) : mc_ev X k pc ls (.int x :: st) G = mc_ev X k (pc + 3) ls (.int (if 0 ≤ x then x else 0 - x) :: st) G := ev_next h (by unfold mc_ex; dsimp only; rw [if_neg (by decide), if_pos rfl, if_pos hr])
theorem ev_max {i : Nat} (h : mc_code k pc = some (.invokestatic i, 3, 177, b, w, cc)) {x y : Int32} (hr : st.length ≤ 4) : mc_ev X k pc ls (.int y :: .int x :: st) G = mc_ev X k (pc + 3) ls (.int (if x < y then y else x) :: st) G := ev_next h (by unfold mc_ex; dsimp only; rw [if_neg (by decide), if_neg (by decide), if_pos rfl, if_pos hr])
theorem ev_min {i : Nat} (h : mc_code k pc = some (.invokestatic i, 3, 178, b, w, cc)) {x y : Int32} (hr : st.length ≤ 4) : mc_ev X k pc ls (.int y :: .int x :: st) G = mc_ev X k (pc + 3) ls (.int (if y < x then y else x) :: st) G := ev_next h (by unfold mc_ex; dsimp only; rw [if_neg (by decide), if_neg (by decide), if_neg (by decide), if_pos rfl, if_pos hr])
theorem ev_call0 {E : mc_E} (h : mc_code k pc = some E) {cm : Nat} {cl rest : List Value} (hx : mc_ex X k pc E ls st G = some (.inr (.inl (cm, cl, rest)))) : mc_ev X k pc ls st G = (mc_ev X cm 0 cl [] G).bind (fun q => mc_ev X k (pc + 3) ls (q.1.toList ++ rest) q.2) := by
  rw [mc_ev_eq]; unfold mc_F mc_st; rw [h]; dsimp only; rw [hx]; dsimp only
  cases mc_ev X cm 0 cl [] G <;> rfl
theorem ev_virt {i : Nat} (h : mc_code k pc = some (.invokevirtual i, 3, a, b, w, cc)) {As rest : List Value} {r : Nat} (hst : st = As.reverse ++ .ref r :: rest) (hn : As.length = mc_np a) (hc : mc_c1 As.reverse = true) {cl : List Value} (hcl : mc_pad (mc_ml a) (.ref r :: As) = cl) {o : Nat} (ho : mc_own a = o) (hr : rest.length ≤ 4) (hG : mc_cls G r = some o) : mc_ev X k pc ls st G = (mc_ev X a 0 cl [] G).bind (fun q => mc_ev X k (pc + 3) ls (q.1.toList ++ rest) q.2) := by
  subst hcl ho
  have hl : As.reverse.length = mc_np a := by rw [List.length_reverse]; exact hn
  refine ev_call0 h ?_
  unfold mc_ex
  dsimp only
  have e1 : st.drop (mc_np a) = .ref r :: rest := by rw [hst, ← hl, List.drop_left]
  have e2 : st.take (mc_np a) = As.reverse := by rw [hst, ← hl, List.take_left]
  rw [e1, e2]
  dsimp only
  rw [if_pos ⟨hr, hG, hc⟩, List.reverse_reverse]
theorem ev_spec {i : Nat} (h : mc_code k pc = some (.invokespecial i, 3, a, b, w, cc)) (ha : a ≠ 999) {As rest : List Value} {r : Nat} (hst : st = As.reverse ++ .ref r :: rest) (hn : As.length = mc_np a) (hc : mc_c1 As.reverse = true) {cl : List Value} (hcl : mc_pad (mc_ml a) (.ref r :: As) = cl) (hr : rest.length ≤ 4) : mc_ev X k pc ls st G = (mc_ev X a 0 cl [] G).bind (fun q => mc_ev X k (pc + 3) ls (q.1.toList ++ rest) q.2) := by
  subst hcl
  have hl : As.reverse.length = mc_np a := by rw [List.length_reverse]; exact hn
  refine ev_call0 h ?_
  unfold mc_ex
  dsimp only
  have e1 : st.drop (mc_np a) = .ref r :: rest := by rw [hst, ← hl, List.drop_left]
  have e2 : st.take (mc_np a) = As.reverse := by rw [hst, ← hl, List.take_left]
  rw [if_neg ha, e1, e2]
  dsimp only
  rw [if_pos ⟨hr, hc⟩, List.reverse_reverse]
theorem ev_stat {i : Nat} (h : mc_code k pc = some (.invokestatic i, 3, a, b, w, cc)) (ha : a ≠ 998 ∧ a ≠ 176 ∧ a ≠ 177 ∧ a ≠ 178) {As rest : List Value} (hst : st = As.reverse ++ rest) (hn : As.length = mc_np a) (hc : mc_c1 As.reverse = true) {cl : List Value} (hcl : mc_pad (mc_ml a) As = cl) (hr : rest.length ≤ 4) : mc_ev X k pc ls st G = (mc_ev X a 0 cl [] G).bind (fun q => mc_ev X k (pc + 3) ls (q.1.toList ++ rest) q.2) := by
  subst hcl
  have hl : As.reverse.length = mc_np a := by rw [List.length_reverse]; exact hn
  refine ev_call0 h ?_
  unfold mc_ex
  dsimp only
  have e1 : st.drop (mc_np a) = rest := by rw [hst, ← hl, List.drop_left]
  have e2 : st.take (mc_np a) = As.reverse := by rw [hst, ← hl, List.take_left]
  have e3 : mc_np a ≤ st.length := by rw [hst, List.length_append]; omega
  rw [if_neg ha.1, if_neg ha.2.1, if_neg ha.2.2.1, if_neg ha.2.2.2, e1, e2, if_pos ⟨e3, hr, hc⟩, List.reverse_reverse]
theorem ev_end {E : mc_E} (h : mc_code k pc = some E) {v : Option Value} (hx : mc_ex X k pc E ls st G = some (.inr (.inr v))) : mc_ev X k pc ls st G = some (v, G) := by
  rw [mc_ev_eq]; unfold mc_F mc_st; rw [h]; dsimp only; rw [hx]
theorem ev_ireturn (h : mc_code k pc = some (.ireturn, 1, a, b, w, cc)) (hr : mc_rt k = some .int) {v : Int32} : mc_ev X k pc ls [.int v] G = some (some (.int v), G) := ev_end h (by unfold mc_ex; dsimp only; rw [if_pos (Or.inl hr)])
theorem ev_zreturn (h : mc_code k pc = some (.ireturn, 1, a, b, w, cc)) (hr : mc_rt k = some .boolean) {v : Int32} (hv : v = 0 ∨ v = 1) : mc_ev X k pc ls [.int v] G = some (some (.int v), G) := ev_end h (by unfold mc_ex; dsimp only; rw [if_pos (Or.inr ⟨hr, hv⟩)])
theorem ev_lreturn (h : mc_code k pc = some (.lreturn, 1, a, b, w, cc)) (hr : mc_rt k = some .long) {v : Int64} : mc_ev X k pc ls [.long v] G = some (some (.long v), G) := ev_end h (by unfold mc_ex; dsimp only; rw [if_pos hr])
theorem ev_areturn (h : mc_code k pc = some (.areturn, 1, a, b, w, cc)) {C : String} (hr : mc_rt k = some (.object C)) {v : Nat} : mc_ev X k pc ls [.ref v] G = some (some (.ref v), G) := ev_end h (by unfold mc_ex; dsimp only; rw [hr])
theorem ev_return (h : mc_code k pc = some (.return_, 1, a, b, w, cc)) (hr : mc_rt k = none) : mc_ev X k pc ls [] G = some (none, G) := ev_end h (by unfold mc_ex; dsimp only; rw [if_pos hr])
theorem ev_tabOut {d lo hi : Int} {offs : Array Int} {len : Nat} (h : mc_code k pc = some (.tableswitch d lo hi offs, len, a, b, w, cc)) {x : Int32} {tgt : Nat} (ht : mc_tgt pc d = tgt) (hx : x.toInt < lo ∨ hi < x.toInt) : mc_ev X k pc ls (.int x :: st) G = mc_ev X k tgt ls st G := by
  subst ht; exact ev_next h (by unfold mc_ex; dsimp only; rw [if_pos hx])
theorem ev_tabIn {d lo hi : Int} {offs : Array Int} {len : Nat} (h : mc_code k pc = some (.tableswitch d lo hi offs, len, a, b, w, cc)) {x : Int32} {off : Int} {tgt : Nat} (hx : ¬ (x.toInt < lo ∨ hi < x.toInt)) (ho : offs[(x.toInt - lo).toNat]? = some off) (hj : 0 ≤ (pc : Int) + off) (ht : mc_tgt pc off = tgt) : mc_ev X k pc ls (.int x :: st) G = mc_ev X k tgt ls st G := by
  subst ht; exact ev_next h (by unfold mc_ex; dsimp only; rw [if_neg hx, ho]; dsimp only; rw [if_pos hj])
theorem ev_look {d : Int} {ps : Array (Int × Int)} {len : Nat} (h : mc_code k pc = some (.lookupswitch d ps, len, a, b, w, cc)) {x : Int32} {tgt : Nat} (hj : 0 ≤ (pc : Int) + Op.lookupswitch.offset ps.toList d x.toInt) (ht : mc_tgt pc (Op.lookupswitch.offset ps.toList d x.toInt) = tgt) : mc_ev X k pc ls (.int x :: st) G = mc_ev X k tgt ls st G := by
  subst ht; exact ev_next h (by unfold mc_ex; dsimp only; rw [if_pos hj])
end EV
end
