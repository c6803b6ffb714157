def mc_code (mi pc : Nat) : Option mc_E := (mc_ct.getD mi []).getD pc none
def mc_lnb (E : mc_E) : Bool := match E.1 with
  | .iconst _ => decide (E.2.1 = 1)
  | .lconst _ => decide (E.2.1 = 1)
  | .iload_n _ => decide (E.2.1 = 1)
  | .aload_n _ => decide (E.2.1 = 1)
  | .istore_n _ => decide (E.2.1 = 1)
  | .astore_n _ => decide (E.2.1 = 1)
  | .iadd => decide (E.2.1 = 1)
  | .isub => decide (E.2.1 = 1)
  | .imul => decide (E.2.1 = 1)
  | .iand => decide (E.2.1 = 1)
  | .ior => decide (E.2.1 = 1)
  | .ixor => decide (E.2.1 = 1)
  | .idiv => decide (E.2.1 = 1)
  | .irem => decide (E.2.1 = 1)
  | .ineg => decide (E.2.1 = 1)
  | .ishl => decide (E.2.1 = 1)
  | .ishr => decide (E.2.1 = 1)
  | .iushr => decide (E.2.1 = 1)
  | .i2l => decide (E.2.1 = 1)
  | .i2b => decide (E.2.1 = 1)
  | .i2s => decide (E.2.1 = 1)
  | .ladd => decide (E.2.1 = 1)
  | .lcmp => decide (E.2.1 = 1)
  | .dup => decide (E.2.1 = 1)
  | .iaload => decide (E.2.1 = 1)
  | .baload => decide (E.2.1 = 1)
  | .iastore => decide (E.2.1 = 1)
  | .bastore => decide (E.2.1 = 1)
  | .arraylength => decide (E.2.1 = 1)
  | .aaload => decide (E.2.1 = 1)
  | .aastore => decide (E.2.1 = 1)
  | .ireturn => decide (E.2.1 = 1)
  | .lreturn => decide (E.2.1 = 1)
  | .areturn => decide (E.2.1 = 1)
  | .return_ => decide (E.2.1 = 1)
  | .bipush _ => decide (E.2.1 = 2)
  | .ldc _ => decide (E.2.1 = 2)
  | .iload _ => decide (E.2.1 = 2)
  | .aload _ => decide (E.2.1 = 2)
  | .istore _ => decide (E.2.1 = 2)
  | .astore _ => decide (E.2.1 = 2)
  | .newarray _ => decide (E.2.1 = 2)
  | .sipush _ => decide (E.2.1 = 3)
  | .ldc_w _ => decide (E.2.1 = 3)
  | .ldc2_w _ => decide (E.2.1 = 3)
  | .iinc _ _ => decide (E.2.1 = 3)
  | .ifCond _ _ => decide (E.2.1 = 3)
  | .if_icmp _ _ => decide (E.2.1 = 3)
  | .goto _ => decide (E.2.1 = 3)
  | .getfield _ => decide (E.2.1 = 3)
  | .putfield _ => decide (E.2.1 = 3)
  | .getstatic _ => decide (E.2.1 = 3)
  | .new _ => decide (E.2.1 = 3)
  | .anewarray _ => decide (E.2.1 = 3)
  | .invokespecial _ => decide (E.2.1 = 3)
  | .invokevirtual _ => decide (E.2.1 = 3)
  | .invokestatic _ => decide (E.2.1 = 3)
  | _ => true
def mc_lno (o : Option mc_E) : Bool := match o with
  | some E => mc_lnb E
  | none => true
set_option maxRecDepth 100000 in
theorem ln_all : mc_ct.all (fun l => l.all mc_lno) = true := by decide +kernel
def mc_ckP (i : Nat) (l : List (Option mc_E)) : Prop := l.zipIdx.all (mc_ck (mc_own i) i (mc_by i)) = true
def mc_ckA : Nat → List (List (Option mc_E)) → Prop
  | _, [] => True
  | i, l :: ls => mc_ckP i l ∧ mc_ckA (i + 1) ls
theorem mc_ckA_at : ∀ (ls : List (List (Option mc_E))) (i k : Nat) (l : List (Option mc_E)), mc_ckA i ls → ls[k]? = some l → mc_ckP (i + k) l
  | [], _, _, _, _, h => by simp at h
  | l0 :: ls, i, 0, l, hA, h => by simp at h; subst h; exact hA.1
  | l0 :: ls, i, k + 1, l, hA, h => by
    have := mc_ckA_at ls (i + 1) k l hA.2 (by simpa using h)
    rw [show i + (k + 1) = i + 1 + k by omega]
    exact this
theorem ckk_0 : mc_ckP 0 ct_0 := ck_0
theorem ckk_1 : mc_ckP 1 ct_1 := ck_1
theorem ckk_2 : mc_ckP 2 ct_2 := ck_2
theorem ckk_3 : mc_ckP 3 ct_3 := ck_3
theorem ckk_4 : mc_ckP 4 ct_4 := ck_4
theorem ckk_5 : mc_ckP 5 ct_5 := ck_5
theorem ckk_6 : mc_ckP 6 ct_6 := ck_6
theorem ckk_7 : mc_ckP 7 ct_7 := ck_7
theorem ckk_8 : mc_ckP 8 ct_8 := ck_8
theorem ckk_9 : mc_ckP 9 ct_9 := ck_9
theorem ckk_10 : mc_ckP 10 ct_10 := ck_10
theorem ckk_11 : mc_ckP 11 ct_11 := ck_11
theorem ckk_12 : mc_ckP 12 ct_12 := ck_12
theorem ckk_13 : mc_ckP 13 ct_13 := ck_13
theorem ckk_14 : mc_ckP 14 ct_14 := ck_14
theorem ckk_15 : mc_ckP 15 ct_15 := ck_15
theorem ckk_16 : mc_ckP 16 ct_16 := ck_16
theorem ckk_17 : mc_ckP 17 ct_17 := ck_17
theorem ckk_18 : mc_ckP 18 ct_18 := ck_18
theorem ckk_19 : mc_ckP 19 ct_19 := ck_19
theorem ckk_20 : mc_ckP 20 ct_20 := ck_20
theorem ckk_21 : mc_ckP 21 ct_21 := ck_21
theorem ckk_22 : mc_ckP 22 ct_22 := ck_22
theorem ckk_23 : mc_ckP 23 ct_23 := ck_23
theorem ckk_24 : mc_ckP 24 ct_24 := ck_24
theorem ckk_25 : mc_ckP 25 ct_25 := ck_25
theorem ckk_26 : mc_ckP 26 ct_26 := ck_26
theorem ckk_27 : mc_ckP 27 ct_27 := ck_27
theorem ckk_28 : mc_ckP 28 ct_28 := ck_28
theorem ckk_29 : mc_ckP 29 ct_29 := ck_29
theorem ckk_30 : mc_ckP 30 ct_30 := ck_30
theorem ckk_31 : mc_ckP 31 ct_31 := ck_31
theorem ckk_32 : mc_ckP 32 ct_32 := ck_32
theorem ckk_33 : mc_ckP 33 ct_33 := ck_33
theorem ckk_34 : mc_ckP 34 ct_34 := ck_34
theorem ckk_35 : mc_ckP 35 ct_35 := ck_35
theorem ckk_36 : mc_ckP 36 ct_36 := ck_36
theorem ckk_37 : mc_ckP 37 ct_37 := ck_37
theorem ckk_38 : mc_ckP 38 ct_38 := ck_38
theorem ckk_39 : mc_ckP 39 ct_39 := ck_39
theorem ckk_40 : mc_ckP 40 ct_40 := ck_40
theorem ckk_41 : mc_ckP 41 ct_41 := ck_41
theorem ckk_42 : mc_ckP 42 ct_42 := ck_42
theorem ckk_43 : mc_ckP 43 ct_43 := ck_43
theorem ckk_44 : mc_ckP 44 ct_44 := ck_44
theorem ckk_45 : mc_ckP 45 ct_45 := ck_45
theorem ckk_46 : mc_ckP 46 ct_46 := ck_46
theorem ckk_47 : mc_ckP 47 ct_47 := ck_47
theorem ckk_48 : mc_ckP 48 ct_48 := ck_48
theorem ckk_49 : mc_ckP 49 ct_49 := ck_49
theorem ckk_50 : mc_ckP 50 ct_50 := ck_50
theorem ckk_51 : mc_ckP 51 ct_51 := ck_51
theorem ckk_52 : mc_ckP 52 ct_52 := ck_52
theorem ckk_53 : mc_ckP 53 ct_53 := ck_53
theorem ckk_54 : mc_ckP 54 ct_54 := ck_54
theorem ckk_55 : mc_ckP 55 ct_55 := ck_55
theorem ckk_56 : mc_ckP 56 ct_56 := ck_56
theorem ckk_57 : mc_ckP 57 ct_57 := ck_57
theorem ckk_58 : mc_ckP 58 ct_58 := ck_58
theorem ckk_59 : mc_ckP 59 ct_59 := ck_59
theorem ckk_60 : mc_ckP 60 ct_60 := ck_60
theorem ckk_61 : mc_ckP 61 ct_61 := ck_61
theorem ckk_62 : mc_ckP 62 ct_62 := ck_62
theorem ckk_63 : mc_ckP 63 ct_63 := ck_63
theorem ckk_64 : mc_ckP 64 ct_64 := ck_64
theorem ckk_65 : mc_ckP 65 ct_65 := ck_65
theorem ckk_66 : mc_ckP 66 ct_66 := ck_66
theorem ckk_67 : mc_ckP 67 ct_67 := ck_67
theorem ckk_68 : mc_ckP 68 ct_68 := ck_68
theorem ckk_69 : mc_ckP 69 ct_69 := ck_69
theorem ckk_70 : mc_ckP 70 ct_70 := ck_70
theorem ckk_71 : mc_ckP 71 ct_71 := ck_71
theorem ckk_72 : mc_ckP 72 ct_72 := ck_72
theorem ckk_73 : mc_ckP 73 ct_73 := ck_73
theorem ckk_74 : mc_ckP 74 ct_74 := ck_74
theorem ckk_75 : mc_ckP 75 ct_75 := ck_75
theorem ckk_76 : mc_ckP 76 ct_76 := ck_76
theorem ckk_77 : mc_ckP 77 ct_77 := ck_77
theorem ckk_78 : mc_ckP 78 ct_78 := ck_78
theorem ckk_79 : mc_ckP 79 ct_79 := ck_79
theorem ckk_80 : mc_ckP 80 ct_80 := ck_80
theorem ckk_81 : mc_ckP 81 ct_81 := ck_81
theorem ckk_82 : mc_ckP 82 ct_82 := ck_82
theorem ckk_83 : mc_ckP 83 ct_83 := ck_83
theorem ckk_84 : mc_ckP 84 ct_84 := ck_84
theorem ckk_85 : mc_ckP 85 ct_85 := ck_85
theorem ckk_86 : mc_ckP 86 ct_86 := ck_86
theorem ckk_87 : mc_ckP 87 ct_87 := ck_87
theorem ckk_88 : mc_ckP 88 ct_88 := ck_88
theorem ckk_89 : mc_ckP 89 ct_89 := ck_89
theorem ckk_90 : mc_ckP 90 ct_90 := ck_90
theorem ckk_91 : mc_ckP 91 ct_91 := ck_91
theorem ckk_92 : mc_ckP 92 ct_92 := ck_92
theorem ckk_93 : mc_ckP 93 ct_93 := ck_93
theorem ckk_94 : mc_ckP 94 ct_94 := ck_94
theorem ckk_95 : mc_ckP 95 ct_95 := ck_95
theorem ckk_96 : mc_ckP 96 ct_96 := ck_96
theorem ckk_97 : mc_ckP 97 ct_97 := ck_97
theorem ckk_98 : mc_ckP 98 ct_98 := ck_98
theorem ckk_99 : mc_ckP 99 ct_99 := ck_99
theorem ckk_100 : mc_ckP 100 ct_100 := ck_100
theorem ckk_101 : mc_ckP 101 ct_101 := ck_101
theorem ckk_102 : mc_ckP 102 ct_102 := ck_102
theorem ckk_103 : mc_ckP 103 ct_103 := ck_103
theorem ckk_104 : mc_ckP 104 ct_104 := ck_104
theorem ckk_105 : mc_ckP 105 ct_105 := ck_105
theorem ckk_106 : mc_ckP 106 ct_106 := ck_106
theorem ckk_107 : mc_ckP 107 ct_107 := ck_107
theorem ckk_108 : mc_ckP 108 ct_108 := ck_108
theorem ckk_109 : mc_ckP 109 ct_109 := ck_109
theorem ckk_110 : mc_ckP 110 ct_110 := ck_110
theorem ckk_111 : mc_ckP 111 ct_111 := ck_111
theorem ckk_112 : mc_ckP 112 ct_112 := ck_112
theorem ckk_113 : mc_ckP 113 ct_113 := ck_113
theorem ckk_114 : mc_ckP 114 ct_114 := ck_114
theorem ckk_115 : mc_ckP 115 ct_115 := ck_115
theorem ckk_116 : mc_ckP 116 ct_116 := ck_116
theorem ckk_117 : mc_ckP 117 ct_117 := ck_117
theorem ckk_118 : mc_ckP 118 ct_118 := ck_118
theorem ckk_119 : mc_ckP 119 ct_119 := ck_119
theorem ckk_120 : mc_ckP 120 ct_120 := ck_120
theorem ckk_121 : mc_ckP 121 ct_121 := ck_121
theorem ckk_122 : mc_ckP 122 ct_122 := ck_122
theorem ckk_123 : mc_ckP 123 ct_123 := ck_123
theorem ckk_124 : mc_ckP 124 ct_124 := ck_124
theorem ckk_125 : mc_ckP 125 ct_125 := ck_125
theorem ckk_126 : mc_ckP 126 ct_126 := ck_126
theorem ckk_127 : mc_ckP 127 ct_127 := ck_127
theorem ckk_128 : mc_ckP 128 ct_128 := ck_128
theorem ckk_129 : mc_ckP 129 ct_129 := ck_129
theorem ckk_130 : mc_ckP 130 ct_130 := ck_130
theorem ckk_131 : mc_ckP 131 ct_131 := ck_131
theorem ckk_132 : mc_ckP 132 ct_132 := ck_132
theorem ckk_133 : mc_ckP 133 ct_133 := ck_133
theorem ckk_134 : mc_ckP 134 ct_134 := ck_134
theorem ckk_135 : mc_ckP 135 ct_135 := ck_135
theorem ckk_136 : mc_ckP 136 ct_136 := ck_136
theorem ckk_137 : mc_ckP 137 ct_137 := ck_137
theorem ckk_138 : mc_ckP 138 ct_138 := ck_138
theorem ckk_139 : mc_ckP 139 ct_139 := ck_139
theorem ckk_140 : mc_ckP 140 ct_140 := ck_140
theorem ckk_141 : mc_ckP 141 ct_141 := ck_141
theorem ckk_142 : mc_ckP 142 ct_142 := ck_142
theorem ckk_143 : mc_ckP 143 ct_143 := ck_143
theorem ckk_144 : mc_ckP 144 ct_144 := ck_144
theorem ckk_145 : mc_ckP 145 ct_145 := ck_145
theorem ckk_146 : mc_ckP 146 ct_146 := ck_146
theorem ckk_147 : mc_ckP 147 ct_147 := ck_147
theorem ckk_148 : mc_ckP 148 ct_148 := ck_148
theorem ckk_149 : mc_ckP 149 ct_149 := ck_149
theorem ckk_150 : mc_ckP 150 ct_150 := ck_150
theorem ckk_151 : mc_ckP 151 ct_151 := ck_151
theorem ckk_152 : mc_ckP 152 ct_152 := ck_152
theorem ckk_153 : mc_ckP 153 ct_153 := ck_153
theorem ckk_154 : mc_ckP 154 ct_154 := ck_154
theorem ckk_155 : mc_ckP 155 ct_155 := ck_155
theorem ckk_156 : mc_ckP 156 ct_156 := ck_156
theorem ckk_157 : mc_ckP 157 ct_157 := ck_157
theorem ckk_158 : mc_ckP 158 ct_158 := ck_158
theorem ckk_159 : mc_ckP 159 ct_159 := ck_159
theorem ckk_160 : mc_ckP 160 ct_160 := ck_160
theorem ckk_161 : mc_ckP 161 ct_161 := ck_161
theorem ckk_162 : mc_ckP 162 ct_162 := ck_162
theorem ckk_163 : mc_ckP 163 ct_163 := ck_163
theorem ckk_164 : mc_ckP 164 ct_164 := ck_164
theorem ckk_165 : mc_ckP 165 ct_165 := ck_165
theorem ckk_166 : mc_ckP 166 ct_166 := ck_166
theorem ckk_167 : mc_ckP 167 ct_167 := ck_167
theorem ckk_168 : mc_ckP 168 ct_168 := ck_168
theorem ckk_169 : mc_ckP 169 ct_169 := ck_169
theorem ckk_170 : mc_ckP 170 ct_170 := ck_170
theorem ckk_171 : mc_ckP 171 ct_171 := ck_171
theorem ckk_172 : mc_ckP 172 ct_172 := ck_172
theorem ckk_173 : mc_ckP 173 ct_173 := ck_173
theorem ckk_174 : mc_ckP 174 ct_174 := ck_174
theorem ckk_175 : mc_ckP 175 ct_175 := ck_175
theorem ckk_176 : mc_ckP 176 ct_176 := ck_176
theorem ckk_177 : mc_ckP 177 ct_177 := ck_177
theorem ckk_178 : mc_ckP 178 ct_178 := ck_178
theorem ckk_179 : mc_ckP 179 ct_179 := ck_179
theorem ckk_180 : mc_ckP 180 ct_180 := ck_180
theorem ck_all : mc_ckA 0 mc_ct := ⟨ckk_0, ckk_1, ckk_2, ckk_3, ckk_4, ckk_5, ckk_6, ckk_7, ckk_8, ckk_9, ckk_10, ckk_11, ckk_12, ckk_13, ckk_14, ckk_15, ckk_16, ckk_17, ckk_18, ckk_19, ckk_20, ckk_21, ckk_22, ckk_23, ckk_24, ckk_25, ckk_26, ckk_27, ckk_28, ckk_29, ckk_30, ckk_31, ckk_32, ckk_33, ckk_34, ckk_35, ckk_36, ckk_37, ckk_38, ckk_39, ckk_40, ckk_41, ckk_42, ckk_43, ckk_44, ckk_45, ckk_46, ckk_47, ckk_48, ckk_49, ckk_50, ckk_51, ckk_52, ckk_53, ckk_54, ckk_55, ckk_56, ckk_57, ckk_58, ckk_59, ckk_60, ckk_61, ckk_62, ckk_63, ckk_64, ckk_65, ckk_66, ckk_67, ckk_68, ckk_69, ckk_70, ckk_71, ckk_72, ckk_73, ckk_74, ckk_75, ckk_76, ckk_77, ckk_78, ckk_79, ckk_80, ckk_81, ckk_82, ckk_83, ckk_84, ckk_85, ckk_86, ckk_87, ckk_88, ckk_89, ckk_90, ckk_91, ckk_92, ckk_93, ckk_94, ckk_95, ckk_96, ckk_97, ckk_98, ckk_99, ckk_100, ckk_101, ckk_102, ckk_103, ckk_104, ckk_105, ckk_106, ckk_107, ckk_108, ckk_109, ckk_110, ckk_111, ckk_112, ckk_113, ckk_114, ckk_115, ckk_116, ckk_117, ckk_118, ckk_119, ckk_120, ckk_121, ckk_122, ckk_123, ckk_124, ckk_125, ckk_126, ckk_127, ckk_128, ckk_129, ckk_130, ckk_131, ckk_132, ckk_133, ckk_134, ckk_135, ckk_136, ckk_137, ckk_138, ckk_139, ckk_140, ckk_141, ckk_142, ckk_143, ckk_144, ckk_145, ckk_146, ckk_147, ckk_148, ckk_149, ckk_150, ckk_151, ckk_152, ckk_153, ckk_154, ckk_155, ckk_156, ckk_157, ckk_158, ckk_159, ckk_160, ckk_161, ckk_162, ckk_163, ckk_164, ckk_165, ckk_166, ckk_167, ckk_168, ckk_169, ckk_170, ckk_171, ckk_172, ckk_173, ckk_174, ckk_175, ckk_176, ckk_177, ckk_178, ckk_179, ckk_180, trivial⟩
def mc_mok (M : mc_M) : Bool := decide (lw_tbl[M.2.2.2.2.2.2.2.2.2.1]? = some (Cond.initialized M.2.1.cls)) && (if M.2.2.2.2.2.1 then decide (lw_tbl[M.2.2.2.2.2.2.2.2.2.2.1]? = some (Cond.static M.2.1)) else decide (lw_tbl[M.2.2.2.2.2.2.2.2.2.2.1]? = some (Cond.instanceMethod M.2.1))) &&
  (M.2.2.2.2.2.1 || decide (M.2.1.name = "<init>") || decide (lw_tbl[M.2.2.2.2.2.2.2.2.2.2.2]? = some (Cond.selects M.2.1.cls M.2.1 M.2.1))) && decide (M.2.1.cls ≠ "java/lang/invoke/MethodHandle") && decide (M.2.1.cls ≠ "java/lang/invoke/VarHandle") && plainName M.2.1.cls &&
  decide ((parseMethodDescriptor M.2.1.desc).map (fun d => d.parameters.length) = some M.2.2.2.2.2.2.1) && decide (mc_nm M.1 = M.2.1.cls) && decide (M.2.2.2.2.2.2.1 + (if M.2.2.2.2.2.1 then 0 else 1) ≤ M.2.2.2.1) && decide (M.2.2.2.1 ≤ 11)
def mc_mtP (M : mc_M) : Prop := lw_tbl[M.2.2.2.2.2.2.2.2.1]? = some (Cond.code M.2.1 M.2.2.1 M.2.2.2.1 M.2.2.2.2.1) ∧ mc_mok M = true
set_option maxRecDepth 100000 in
theorem mok_0 : mc_mtP (mc_meth 0) := ⟨rfl, by decide +kernel⟩
set_option maxRecDepth 100000 in
theorem mok_1 : mc_mtP (mc_meth 1) := ⟨rfl, by decide +kernel⟩
set_option maxRecDepth 100000 in
theorem mok_2 : mc_mtP (mc_meth 2) := ⟨rfl, by decide +kernel⟩
set_option maxRecDepth 100000 in
theorem mok_3 : mc_mtP (mc_meth 3) := ⟨rfl, by decide +kernel⟩
set_option maxRecDepth 100000 in
theorem mok_4 : mc_mtP (mc_meth 4) := ⟨rfl, by decide +kernel⟩
set_option maxRecDepth 100000 in
theorem mok_5 : mc_mtP (mc_meth 5) := ⟨rfl, by decide +kernel⟩
set_option maxRecDepth 100000 in
theorem mok_6 : mc_mtP (mc_meth 6) := ⟨rfl, by decide +kernel⟩
set_option maxRecDepth 100000 in
theorem mok_7 : mc_mtP (mc_meth 7) := ⟨rfl, by decide +kernel⟩
set_option maxRecDepth 100000 in
theorem mok_8 : mc_mtP (mc_meth 8) := ⟨rfl, by decide +kernel⟩
set_option maxRecDepth 100000 in
theorem mok_9 : mc_mtP (mc_meth 9) := ⟨rfl, by decide +kernel⟩
set_option maxRecDepth 100000 in
theorem mok_10 : mc_mtP (mc_meth 10) := ⟨rfl, by decide +kernel⟩
set_option maxRecDepth 100000 in
theorem mok_11 : mc_mtP (mc_meth 11) := ⟨rfl, by decide +kernel⟩
set_option maxRecDepth 100000 in
theorem mok_12 : mc_mtP (mc_meth 12) := ⟨rfl, by decide +kernel⟩
set_option maxRecDepth 100000 in
theorem mok_13 : mc_mtP (mc_meth 13) := ⟨rfl, by decide +kernel⟩
set_option maxRecDepth 100000 in
theorem mok_14 : mc_mtP (mc_meth 14) := ⟨rfl, by decide +kernel⟩
set_option maxRecDepth 100000 in
theorem mok_15 : mc_mtP (mc_meth 15) := ⟨rfl, by decide +kernel⟩
set_option maxRecDepth 100000 in
theorem mok_16 : mc_mtP (mc_meth 16) := ⟨rfl, by decide +kernel⟩
set_option maxRecDepth 100000 in
theorem mok_17 : mc_mtP (mc_meth 17) := ⟨rfl, by decide +kernel⟩
set_option maxRecDepth 100000 in
theorem mok_18 : mc_mtP (mc_meth 18) := ⟨rfl, by decide +kernel⟩
set_option maxRecDepth 100000 in
theorem mok_19 : mc_mtP (mc_meth 19) := ⟨rfl, by decide +kernel⟩
set_option maxRecDepth 100000 in
theorem mok_20 : mc_mtP (mc_meth 20) := ⟨rfl, by decide +kernel⟩
set_option maxRecDepth 100000 in
theorem mok_21 : mc_mtP (mc_meth 21) := ⟨rfl, by decide +kernel⟩
set_option maxRecDepth 100000 in
theorem mok_22 : mc_mtP (mc_meth 22) := ⟨rfl, by decide +kernel⟩
set_option maxRecDepth 100000 in
theorem mok_23 : mc_mtP (mc_meth 23) := ⟨rfl, by decide +kernel⟩
set_option maxRecDepth 100000 in
theorem mok_24 : mc_mtP (mc_meth 24) := ⟨rfl, by decide +kernel⟩
set_option maxRecDepth 100000 in
theorem mok_25 : mc_mtP (mc_meth 25) := ⟨rfl, by decide +kernel⟩
set_option maxRecDepth 100000 in
theorem mok_26 : mc_mtP (mc_meth 26) := ⟨rfl, by decide +kernel⟩
set_option maxRecDepth 100000 in
theorem mok_27 : mc_mtP (mc_meth 27) := ⟨rfl, by decide +kernel⟩
set_option maxRecDepth 100000 in
theorem mok_28 : mc_mtP (mc_meth 28) := ⟨rfl, by decide +kernel⟩
set_option maxRecDepth 100000 in
theorem mok_29 : mc_mtP (mc_meth 29) := ⟨rfl, by decide +kernel⟩
set_option maxRecDepth 100000 in
theorem mok_30 : mc_mtP (mc_meth 30) := ⟨rfl, by decide +kernel⟩
set_option maxRecDepth 100000 in
theorem mok_31 : mc_mtP (mc_meth 31) := ⟨rfl, by decide +kernel⟩
set_option maxRecDepth 100000 in
theorem mok_32 : mc_mtP (mc_meth 32) := ⟨rfl, by decide +kernel⟩
set_option maxRecDepth 100000 in
theorem mok_33 : mc_mtP (mc_meth 33) := ⟨rfl, by decide +kernel⟩
set_option maxRecDepth 100000 in
theorem mok_34 : mc_mtP (mc_meth 34) := ⟨rfl, by decide +kernel⟩
set_option maxRecDepth 100000 in
theorem mok_35 : mc_mtP (mc_meth 35) := ⟨rfl, by decide +kernel⟩
set_option maxRecDepth 100000 in
theorem mok_36 : mc_mtP (mc_meth 36) := ⟨rfl, by decide +kernel⟩
set_option maxRecDepth 100000 in
theorem mok_37 : mc_mtP (mc_meth 37) := ⟨rfl, by decide +kernel⟩
set_option maxRecDepth 100000 in
theorem mok_38 : mc_mtP (mc_meth 38) := ⟨rfl, by decide +kernel⟩
set_option maxRecDepth 100000 in
theorem mok_39 : mc_mtP (mc_meth 39) := ⟨rfl, by decide +kernel⟩
set_option maxRecDepth 100000 in
theorem mok_40 : mc_mtP (mc_meth 40) := ⟨rfl, by decide +kernel⟩
set_option maxRecDepth 100000 in
theorem mok_41 : mc_mtP (mc_meth 41) := ⟨rfl, by decide +kernel⟩
set_option maxRecDepth 100000 in
theorem mok_42 : mc_mtP (mc_meth 42) := ⟨rfl, by decide +kernel⟩
set_option maxRecDepth 100000 in
theorem mok_43 : mc_mtP (mc_meth 43) := ⟨rfl, by decide +kernel⟩
set_option maxRecDepth 100000 in
theorem mok_44 : mc_mtP (mc_meth 44) := ⟨rfl, by decide +kernel⟩
set_option maxRecDepth 100000 in
theorem mok_45 : mc_mtP (mc_meth 45) := ⟨rfl, by decide +kernel⟩
set_option maxRecDepth 100000 in
theorem mok_46 : mc_mtP (mc_meth 46) := ⟨rfl, by decide +kernel⟩
set_option maxRecDepth 100000 in
theorem mok_47 : mc_mtP (mc_meth 47) := ⟨rfl, by decide +kernel⟩
set_option maxRecDepth 100000 in
theorem mok_48 : mc_mtP (mc_meth 48) := ⟨rfl, by decide +kernel⟩
set_option maxRecDepth 100000 in
theorem mok_49 : mc_mtP (mc_meth 49) := ⟨rfl, by decide +kernel⟩
set_option maxRecDepth 100000 in
theorem mok_50 : mc_mtP (mc_meth 50) := ⟨rfl, by decide +kernel⟩
set_option maxRecDepth 100000 in
theorem mok_51 : mc_mtP (mc_meth 51) := ⟨rfl, by decide +kernel⟩
set_option maxRecDepth 100000 in
theorem mok_52 : mc_mtP (mc_meth 52) := ⟨rfl, by decide +kernel⟩
set_option maxRecDepth 100000 in
theorem mok_53 : mc_mtP (mc_meth 53) := ⟨rfl, by decide +kernel⟩
set_option maxRecDepth 100000 in
theorem mok_54 : mc_mtP (mc_meth 54) := ⟨rfl, by decide +kernel⟩
set_option maxRecDepth 100000 in
theorem mok_55 : mc_mtP (mc_meth 55) := ⟨rfl, by decide +kernel⟩
set_option maxRecDepth 100000 in
theorem mok_56 : mc_mtP (mc_meth 56) := ⟨rfl, by decide +kernel⟩
set_option maxRecDepth 100000 in
theorem mok_57 : mc_mtP (mc_meth 57) := ⟨rfl, by decide +kernel⟩
set_option maxRecDepth 100000 in
theorem mok_58 : mc_mtP (mc_meth 58) := ⟨rfl, by decide +kernel⟩
set_option maxRecDepth 100000 in
theorem mok_59 : mc_mtP (mc_meth 59) := ⟨rfl, by decide +kernel⟩
set_option maxRecDepth 100000 in
theorem mok_60 : mc_mtP (mc_meth 60) := ⟨rfl, by decide +kernel⟩
set_option maxRecDepth 100000 in
theorem mok_61 : mc_mtP (mc_meth 61) := ⟨rfl, by decide +kernel⟩
set_option maxRecDepth 100000 in
theorem mok_62 : mc_mtP (mc_meth 62) := ⟨rfl, by decide +kernel⟩
set_option maxRecDepth 100000 in
theorem mok_63 : mc_mtP (mc_meth 63) := ⟨rfl, by decide +kernel⟩
set_option maxRecDepth 100000 in
theorem mok_64 : mc_mtP (mc_meth 64) := ⟨rfl, by decide +kernel⟩
set_option maxRecDepth 100000 in
theorem mok_65 : mc_mtP (mc_meth 65) := ⟨rfl, by decide +kernel⟩
set_option maxRecDepth 100000 in
theorem mok_66 : mc_mtP (mc_meth 66) := ⟨rfl, by decide +kernel⟩
set_option maxRecDepth 100000 in
theorem mok_67 : mc_mtP (mc_meth 67) := ⟨rfl, by decide +kernel⟩
set_option maxRecDepth 100000 in
theorem mok_68 : mc_mtP (mc_meth 68) := ⟨rfl, by decide +kernel⟩
set_option maxRecDepth 100000 in
theorem mok_69 : mc_mtP (mc_meth 69) := ⟨rfl, by decide +kernel⟩
set_option maxRecDepth 100000 in
theorem mok_70 : mc_mtP (mc_meth 70) := ⟨rfl, by decide +kernel⟩
set_option maxRecDepth 100000 in
theorem mok_71 : mc_mtP (mc_meth 71) := ⟨rfl, by decide +kernel⟩
set_option maxRecDepth 100000 in
theorem mok_72 : mc_mtP (mc_meth 72) := ⟨rfl, by decide +kernel⟩
set_option maxRecDepth 100000 in
theorem mok_73 : mc_mtP (mc_meth 73) := ⟨rfl, by decide +kernel⟩
set_option maxRecDepth 100000 in
theorem mok_74 : mc_mtP (mc_meth 74) := ⟨rfl, by decide +kernel⟩
set_option maxRecDepth 100000 in
theorem mok_75 : mc_mtP (mc_meth 75) := ⟨rfl, by decide +kernel⟩
set_option maxRecDepth 100000 in
theorem mok_76 : mc_mtP (mc_meth 76) := ⟨rfl, by decide +kernel⟩
set_option maxRecDepth 100000 in
theorem mok_77 : mc_mtP (mc_meth 77) := ⟨rfl, by decide +kernel⟩
set_option maxRecDepth 100000 in
theorem mok_78 : mc_mtP (mc_meth 78) := ⟨rfl, by decide +kernel⟩
set_option maxRecDepth 100000 in
theorem mok_79 : mc_mtP (mc_meth 79) := ⟨rfl, by decide +kernel⟩
set_option maxRecDepth 100000 in
theorem mok_80 : mc_mtP (mc_meth 80) := ⟨rfl, by decide +kernel⟩
set_option maxRecDepth 100000 in
theorem mok_81 : mc_mtP (mc_meth 81) := ⟨rfl, by decide +kernel⟩
set_option maxRecDepth 100000 in
theorem mok_82 : mc_mtP (mc_meth 82) := ⟨rfl, by decide +kernel⟩
set_option maxRecDepth 100000 in
theorem mok_83 : mc_mtP (mc_meth 83) := ⟨rfl, by decide +kernel⟩
set_option maxRecDepth 100000 in
theorem mok_84 : mc_mtP (mc_meth 84) := ⟨rfl, by decide +kernel⟩
set_option maxRecDepth 100000 in
theorem mok_85 : mc_mtP (mc_meth 85) := ⟨rfl, by decide +kernel⟩
set_option maxRecDepth 100000 in
theorem mok_86 : mc_mtP (mc_meth 86) := ⟨rfl, by decide +kernel⟩
set_option maxRecDepth 100000 in
theorem mok_87 : mc_mtP (mc_meth 87) := ⟨rfl, by decide +kernel⟩
set_option maxRecDepth 100000 in
theorem mok_88 : mc_mtP (mc_meth 88) := ⟨rfl, by decide +kernel⟩
set_option maxRecDepth 100000 in
theorem mok_89 : mc_mtP (mc_meth 89) := ⟨rfl, by decide +kernel⟩
set_option maxRecDepth 100000 in
theorem mok_90 : mc_mtP (mc_meth 90) := ⟨rfl, by decide +kernel⟩
set_option maxRecDepth 100000 in
theorem mok_91 : mc_mtP (mc_meth 91) := ⟨rfl, by decide +kernel⟩
set_option maxRecDepth 100000 in
theorem mok_92 : mc_mtP (mc_meth 92) := ⟨rfl, by decide +kernel⟩
set_option maxRecDepth 100000 in
theorem mok_93 : mc_mtP (mc_meth 93) := ⟨rfl, by decide +kernel⟩
set_option maxRecDepth 100000 in
theorem mok_94 : mc_mtP (mc_meth 94) := ⟨rfl, by decide +kernel⟩
set_option maxRecDepth 100000 in
theorem mok_95 : mc_mtP (mc_meth 95) := ⟨rfl, by decide +kernel⟩
set_option maxRecDepth 100000 in
theorem mok_96 : mc_mtP (mc_meth 96) := ⟨rfl, by decide +kernel⟩
set_option maxRecDepth 100000 in
theorem mok_97 : mc_mtP (mc_meth 97) := ⟨rfl, by decide +kernel⟩
set_option maxRecDepth 100000 in
theorem mok_98 : mc_mtP (mc_meth 98) := ⟨rfl, by decide +kernel⟩
set_option maxRecDepth 100000 in
theorem mok_99 : mc_mtP (mc_meth 99) := ⟨rfl, by decide +kernel⟩
set_option maxRecDepth 100000 in
theorem mok_100 : mc_mtP (mc_meth 100) := ⟨rfl, by decide +kernel⟩
set_option maxRecDepth 100000 in
theorem mok_101 : mc_mtP (mc_meth 101) := ⟨rfl, by decide +kernel⟩
set_option maxRecDepth 100000 in
theorem mok_102 : mc_mtP (mc_meth 102) := ⟨rfl, by decide +kernel⟩
set_option maxRecDepth 100000 in
theorem mok_103 : mc_mtP (mc_meth 103) := ⟨rfl, by decide +kernel⟩
set_option maxRecDepth 100000 in
theorem mok_104 : mc_mtP (mc_meth 104) := ⟨rfl, by decide +kernel⟩
set_option maxRecDepth 100000 in
theorem mok_105 : mc_mtP (mc_meth 105) := ⟨rfl, by decide +kernel⟩
set_option maxRecDepth 100000 in
theorem mok_106 : mc_mtP (mc_meth 106) := ⟨rfl, by decide +kernel⟩
set_option maxRecDepth 100000 in
theorem mok_107 : mc_mtP (mc_meth 107) := ⟨rfl, by decide +kernel⟩
set_option maxRecDepth 100000 in
theorem mok_108 : mc_mtP (mc_meth 108) := ⟨rfl, by decide +kernel⟩
set_option maxRecDepth 100000 in
theorem mok_109 : mc_mtP (mc_meth 109) := ⟨rfl, by decide +kernel⟩
set_option maxRecDepth 100000 in
theorem mok_110 : mc_mtP (mc_meth 110) := ⟨rfl, by decide +kernel⟩
set_option maxRecDepth 100000 in
theorem mok_111 : mc_mtP (mc_meth 111) := ⟨rfl, by decide +kernel⟩
set_option maxRecDepth 100000 in
theorem mok_112 : mc_mtP (mc_meth 112) := ⟨rfl, by decide +kernel⟩
set_option maxRecDepth 100000 in
theorem mok_113 : mc_mtP (mc_meth 113) := ⟨rfl, by decide +kernel⟩
set_option maxRecDepth 100000 in
theorem mok_114 : mc_mtP (mc_meth 114) := ⟨rfl, by decide +kernel⟩
set_option maxRecDepth 100000 in
theorem mok_115 : mc_mtP (mc_meth 115) := ⟨rfl, by decide +kernel⟩
set_option maxRecDepth 100000 in
theorem mok_116 : mc_mtP (mc_meth 116) := ⟨rfl, by decide +kernel⟩
set_option maxRecDepth 100000 in
theorem mok_117 : mc_mtP (mc_meth 117) := ⟨rfl, by decide +kernel⟩
set_option maxRecDepth 100000 in
theorem mok_118 : mc_mtP (mc_meth 118) := ⟨rfl, by decide +kernel⟩
set_option maxRecDepth 100000 in
theorem mok_119 : mc_mtP (mc_meth 119) := ⟨rfl, by decide +kernel⟩
set_option maxRecDepth 100000 in
theorem mok_120 : mc_mtP (mc_meth 120) := ⟨rfl, by decide +kernel⟩
set_option maxRecDepth 100000 in
theorem mok_121 : mc_mtP (mc_meth 121) := ⟨rfl, by decide +kernel⟩
set_option maxRecDepth 100000 in
theorem mok_122 : mc_mtP (mc_meth 122) := ⟨rfl, by decide +kernel⟩
set_option maxRecDepth 100000 in
theorem mok_123 : mc_mtP (mc_meth 123) := ⟨rfl, by decide +kernel⟩
set_option maxRecDepth 100000 in
theorem mok_124 : mc_mtP (mc_meth 124) := ⟨rfl, by decide +kernel⟩
set_option maxRecDepth 100000 in
theorem mok_125 : mc_mtP (mc_meth 125) := ⟨rfl, by decide +kernel⟩
set_option maxRecDepth 100000 in
theorem mok_126 : mc_mtP (mc_meth 126) := ⟨rfl, by decide +kernel⟩
set_option maxRecDepth 100000 in
theorem mok_127 : mc_mtP (mc_meth 127) := ⟨rfl, by decide +kernel⟩
set_option maxRecDepth 100000 in
theorem mok_128 : mc_mtP (mc_meth 128) := ⟨rfl, by decide +kernel⟩
set_option maxRecDepth 100000 in
theorem mok_129 : mc_mtP (mc_meth 129) := ⟨rfl, by decide +kernel⟩
set_option maxRecDepth 100000 in
theorem mok_130 : mc_mtP (mc_meth 130) := ⟨rfl, by decide +kernel⟩
set_option maxRecDepth 100000 in
theorem mok_131 : mc_mtP (mc_meth 131) := ⟨rfl, by decide +kernel⟩
set_option maxRecDepth 100000 in
theorem mok_132 : mc_mtP (mc_meth 132) := ⟨rfl, by decide +kernel⟩
set_option maxRecDepth 100000 in
theorem mok_133 : mc_mtP (mc_meth 133) := ⟨rfl, by decide +kernel⟩
set_option maxRecDepth 100000 in
theorem mok_134 : mc_mtP (mc_meth 134) := ⟨rfl, by decide +kernel⟩
set_option maxRecDepth 100000 in
theorem mok_135 : mc_mtP (mc_meth 135) := ⟨rfl, by decide +kernel⟩
set_option maxRecDepth 100000 in
theorem mok_136 : mc_mtP (mc_meth 136) := ⟨rfl, by decide +kernel⟩
set_option maxRecDepth 100000 in
theorem mok_137 : mc_mtP (mc_meth 137) := ⟨rfl, by decide +kernel⟩
set_option maxRecDepth 100000 in
theorem mok_138 : mc_mtP (mc_meth 138) := ⟨rfl, by decide +kernel⟩
set_option maxRecDepth 100000 in
theorem mok_139 : mc_mtP (mc_meth 139) := ⟨rfl, by decide +kernel⟩
set_option maxRecDepth 100000 in
theorem mok_140 : mc_mtP (mc_meth 140) := ⟨rfl, by decide +kernel⟩
set_option maxRecDepth 100000 in
theorem mok_141 : mc_mtP (mc_meth 141) := ⟨rfl, by decide +kernel⟩
set_option maxRecDepth 100000 in
theorem mok_142 : mc_mtP (mc_meth 142) := ⟨rfl, by decide +kernel⟩
set_option maxRecDepth 100000 in
theorem mok_143 : mc_mtP (mc_meth 143) := ⟨rfl, by decide +kernel⟩
set_option maxRecDepth 100000 in
theorem mok_144 : mc_mtP (mc_meth 144) := ⟨rfl, by decide +kernel⟩
set_option maxRecDepth 100000 in
theorem mok_145 : mc_mtP (mc_meth 145) := ⟨rfl, by decide +kernel⟩
set_option maxRecDepth 100000 in
theorem mok_146 : mc_mtP (mc_meth 146) := ⟨rfl, by decide +kernel⟩
set_option maxRecDepth 100000 in
theorem mok_147 : mc_mtP (mc_meth 147) := ⟨rfl, by decide +kernel⟩
set_option maxRecDepth 100000 in
theorem mok_148 : mc_mtP (mc_meth 148) := ⟨rfl, by decide +kernel⟩
set_option maxRecDepth 100000 in
theorem mok_149 : mc_mtP (mc_meth 149) := ⟨rfl, by decide +kernel⟩
set_option maxRecDepth 100000 in
theorem mok_150 : mc_mtP (mc_meth 150) := ⟨rfl, by decide +kernel⟩
set_option maxRecDepth 100000 in
theorem mok_151 : mc_mtP (mc_meth 151) := ⟨rfl, by decide +kernel⟩
set_option maxRecDepth 100000 in
theorem mok_152 : mc_mtP (mc_meth 152) := ⟨rfl, by decide +kernel⟩
set_option maxRecDepth 100000 in
theorem mok_153 : mc_mtP (mc_meth 153) := ⟨rfl, by decide +kernel⟩
set_option maxRecDepth 100000 in
theorem mok_154 : mc_mtP (mc_meth 154) := ⟨rfl, by decide +kernel⟩
set_option maxRecDepth 100000 in
theorem mok_155 : mc_mtP (mc_meth 155) := ⟨rfl, by decide +kernel⟩
set_option maxRecDepth 100000 in
theorem mok_156 : mc_mtP (mc_meth 156) := ⟨rfl, by decide +kernel⟩
set_option maxRecDepth 100000 in
theorem mok_157 : mc_mtP (mc_meth 157) := ⟨rfl, by decide +kernel⟩
set_option maxRecDepth 100000 in
theorem mok_158 : mc_mtP (mc_meth 158) := ⟨rfl, by decide +kernel⟩
set_option maxRecDepth 100000 in
theorem mok_159 : mc_mtP (mc_meth 159) := ⟨rfl, by decide +kernel⟩
set_option maxRecDepth 100000 in
theorem mok_160 : mc_mtP (mc_meth 160) := ⟨rfl, by decide +kernel⟩
set_option maxRecDepth 100000 in
theorem mok_161 : mc_mtP (mc_meth 161) := ⟨rfl, by decide +kernel⟩
set_option maxRecDepth 100000 in
theorem mok_162 : mc_mtP (mc_meth 162) := ⟨rfl, by decide +kernel⟩
set_option maxRecDepth 100000 in
theorem mok_163 : mc_mtP (mc_meth 163) := ⟨rfl, by decide +kernel⟩
set_option maxRecDepth 100000 in
theorem mok_164 : mc_mtP (mc_meth 164) := ⟨rfl, by decide +kernel⟩
set_option maxRecDepth 100000 in
theorem mok_165 : mc_mtP (mc_meth 165) := ⟨rfl, by decide +kernel⟩
set_option maxRecDepth 100000 in
theorem mok_166 : mc_mtP (mc_meth 166) := ⟨rfl, by decide +kernel⟩
set_option maxRecDepth 100000 in
theorem mok_167 : mc_mtP (mc_meth 167) := ⟨rfl, by decide +kernel⟩
set_option maxRecDepth 100000 in
theorem mok_168 : mc_mtP (mc_meth 168) := ⟨rfl, by decide +kernel⟩
set_option maxRecDepth 100000 in
theorem mok_169 : mc_mtP (mc_meth 169) := ⟨rfl, by decide +kernel⟩
set_option maxRecDepth 100000 in
theorem mok_170 : mc_mtP (mc_meth 170) := ⟨rfl, by decide +kernel⟩
set_option maxRecDepth 100000 in
theorem mok_171 : mc_mtP (mc_meth 171) := ⟨rfl, by decide +kernel⟩
set_option maxRecDepth 100000 in
theorem mok_172 : mc_mtP (mc_meth 172) := ⟨rfl, by decide +kernel⟩
set_option maxRecDepth 100000 in
theorem mok_173 : mc_mtP (mc_meth 173) := ⟨rfl, by decide +kernel⟩
set_option maxRecDepth 100000 in
theorem mok_174 : mc_mtP (mc_meth 174) := ⟨rfl, by decide +kernel⟩
set_option maxRecDepth 100000 in
theorem mok_175 : mc_mtP (mc_meth 175) := ⟨rfl, by decide +kernel⟩
set_option maxRecDepth 100000 in
theorem mok_179 : mc_mtP (mc_meth 179) := ⟨rfl, by decide +kernel⟩
def mc_mtA : List Nat → Prop
  | [] => True
  | i :: is => mc_mtP (mc_meth i) ∧ mc_mtA is
theorem mc_mtA_at : ∀ (is : List Nat), mc_mtA is → ∀ i ∈ is, mc_mtP (mc_meth i)
  | [], _, i, h => absurd h List.not_mem_nil
  | j :: is, hA, i, h => (List.mem_cons.mp h).elim (fun e => e ▸ hA.1) (fun h => mc_mtA_at is hA.2 i h)
theorem mt_all : mc_mtA [0, 1, 2, 3, 4, 5, 6, 7, 8, 9, 10, 11, 12, 13, 14, 15, 16, 17, 18, 19, 20, 21, 22, 23, 24, 25, 26, 27, 28, 29, 30, 31, 32, 33, 34, 35, 36, 37, 38, 39, 40, 41, 42, 43, 44, 45, 46, 47, 48, 49, 50, 51, 52, 53, 54, 55, 56, 57, 58, 59, 60, 61, 62, 63, 64, 65, 66, 67, 68, 69, 70, 71, 72, 73, 74, 75, 76, 77, 78, 79, 80, 81, 82, 83, 84, 85, 86, 87, 88, 89, 90, 91, 92, 93, 94, 95, 96, 97, 98, 99, 100, 101, 102, 103, 104, 105, 106, 107, 108, 109, 110, 111, 112, 113, 114, 115, 116, 117, 118, 119, 120, 121, 122, 123, 124, 125, 126, 127, 128, 129, 130, 131, 132, 133, 134, 135, 136, 137, 138, 139, 140, 141, 142, 143, 144, 145, 146, 147, 148, 149, 150, 151, 152, 153, 154, 155, 156, 157, 158, 159, 160, 161, 162, 163, 164, 165, 166, 167, 168, 169, 170, 171, 172, 173, 174, 175, 179] := ⟨mok_0, mok_1, mok_2, mok_3, mok_4, mok_5, mok_6, mok_7, mok_8, mok_9, mok_10, mok_11, mok_12, mok_13, mok_14, mok_15, mok_16, mok_17, mok_18, mok_19, mok_20, mok_21, mok_22, mok_23, mok_24, mok_25, mok_26, mok_27, mok_28, mok_29, mok_30, mok_31, mok_32, mok_33, mok_34, mok_35, mok_36, mok_37, mok_38, mok_39, mok_40, mok_41, mok_42, mok_43, mok_44, mok_45, mok_46, mok_47, mok_48, mok_49, mok_50, mok_51, mok_52, mok_53, mok_54, mok_55, mok_56, mok_57, mok_58, mok_59, mok_60, mok_61, mok_62, mok_63, mok_64, mok_65, mok_66, mok_67, mok_68, mok_69, mok_70, mok_71, mok_72, mok_73, mok_74, mok_75, mok_76, mok_77, mok_78, mok_79, mok_80, mok_81, mok_82, mok_83, mok_84, mok_85, mok_86, mok_87, mok_88, mok_89, mok_90, mok_91, mok_92, mok_93, mok_94, mok_95, mok_96, mok_97, mok_98, mok_99, mok_100, mok_101, mok_102, mok_103, mok_104, mok_105, mok_106, mok_107, mok_108, mok_109, mok_110, mok_111, mok_112, mok_113, mok_114, mok_115, mok_116, mok_117, mok_118, mok_119, mok_120, mok_121, mok_122, mok_123, mok_124, mok_125, mok_126, mok_127, mok_128, mok_129, mok_130, mok_131, mok_132, mok_133, mok_134, mok_135, mok_136, mok_137, mok_138, mok_139, mok_140, mok_141, mok_142, mok_143, mok_144, mok_145, mok_146, mok_147, mok_148, mok_149, mok_150, mok_151, mok_152, mok_153, mok_154, mok_155, mok_156, mok_157, mok_158, mok_159, mok_160, mok_161, mok_162, mok_163, mok_164, mok_165, mok_166, mok_167, mok_168, mok_169, mok_170, mok_171, mok_172, mok_173, mok_174, mok_175, mok_179, trivial⟩
set_option maxRecDepth 100000 in
theorem mc_rk_le : ∀ mi, mi < 181 → mc_rk mi ≤ 8 := by decide +kernel
theorem mc_mt_at {i : Nat} (hi : i < mc_mt.length) (hk : mc_rk i < 8) (h9 : i ≠ 176 ∧ i ≠ 177 ∧ i ≠ 178) : mc_mtP (mc_meth i) := by
  refine mc_mtA_at _ mt_all i ?_
  have hl : mc_mt.length = 181 := rfl
  rw [hl] at hi
  have hne : i ≠ 180 := fun e => by subst e; exact absurd hk (by decide +kernel)
  have e : ∀ j, j < 181 → j = 180 ∨ j = 176 ∨ j = 177 ∨ j = 178 ∨ j ∈ [0, 1, 2, 3, 4, 5, 6, 7, 8, 9, 10, 11, 12, 13, 14, 15, 16, 17, 18, 19, 20, 21, 22, 23, 24, 25, 26, 27, 28, 29, 30, 31, 32, 33, 34, 35, 36, 37, 38, 39, 40, 41, 42, 43, 44, 45, 46, 47, 48, 49, 50, 51, 52, 53, 54, 55, 56, 57, 58, 59, 60, 61, 62, 63, 64, 65, 66, 67, 68, 69, 70, 71, 72, 73, 74, 75, 76, 77, 78, 79, 80, 81, 82, 83, 84, 85, 86, 87, 88, 89, 90, 91, 92, 93, 94, 95, 96, 97, 98, 99, 100, 101, 102, 103, 104, 105, 106, 107, 108, 109, 110, 111, 112, 113, 114, 115, 116, 117, 118, 119, 120, 121, 122, 123, 124, 125, 126, 127, 128, 129, 130, 131, 132, 133, 134, 135, 136, 137, 138, 139, 140, 141, 142, 143, 144, 145, 146, 147, 148, 149, 150, 151, 152, 153, 154, 155, 156, 157, 158, 159, 160, 161, 162, 163, 164, 165, 166, 167, 168, 169, 170, 171, 172, 173, 174, 175, 179] := by decide +kernel
  rcases e i hi with q | q | q | q | q
  · exact absurd q hne
  · exact absurd q h9.1
  · exact absurd q h9.2.1
  · exact absurd q h9.2.2
  · exact q
theorem mc_rk8 (mi : Nat) : mc_rk mi ≤ 8 := by
  rcases Nat.lt_or_ge mi 181 with h | h
  · exact mc_rk_le mi h
  · have e : mc_mt[mi]? = none := List.getElem?_eq_none (by show 181 ≤ mi; exact h)
    unfold mc_rk mc_meth
    rw [List.getD_eq_getElem?_getD, e]
    exact Nat.zero_le _
