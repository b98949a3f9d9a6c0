abbrev y_Model_init : MethodName := ⟨"PermitRulesModel", "<init>", "()V"⟩
abbrev cw_Model_init : Cond := .code y_Model_init prog_10_method_1_code 1 none
theorem d_Model_init_0 : decode prog_10_method_1_code 0 = .ok (.aload_n 0, 1) := by decide +kernel
theorem d_Model_init_1 : decode prog_10_method_1_code 1 = .ok (.invokespecial 1, 3) := by decide +kernel
theorem d_Model_init_4 : decode prog_10_method_1_code 4 = .ok (.aload_n 0, 1) := by decide +kernel
theorem d_Model_init_5 : decode prog_10_method_1_code 5 = .ok (.sipush 800, 3) := by decide +kernel
theorem d_Model_init_8 : decode prog_10_method_1_code 8 = .ok (.newarray .int, 2) := by decide +kernel
theorem d_Model_init_10 : decode prog_10_method_1_code 10 = .ok (.putfield 7, 3) := by decide +kernel
theorem d_Model_init_13 : decode prog_10_method_1_code 13 = .ok (.aload_n 0, 1) := by decide +kernel
theorem d_Model_init_14 : decode prog_10_method_1_code 14 = .ok (.bipush 24, 2) := by decide +kernel
theorem d_Model_init_16 : decode prog_10_method_1_code 16 = .ok (.newarray .long, 2) := by decide +kernel
theorem d_Model_init_18 : decode prog_10_method_1_code 18 = .ok (.putfield 13, 3) := by decide +kernel
theorem d_Model_init_21 : decode prog_10_method_1_code 21 = .ok (.aload_n 0, 1) := by decide +kernel
theorem d_Model_init_22 : decode prog_10_method_1_code 22 = .ok (.bipush 24, 2) := by decide +kernel
theorem d_Model_init_24 : decode prog_10_method_1_code 24 = .ok (.newarray .long, 2) := by decide +kernel
theorem d_Model_init_26 : decode prog_10_method_1_code 26 = .ok (.putfield 17, 3) := by decide +kernel
theorem d_Model_init_29 : decode prog_10_method_1_code 29 = .ok (.aload_n 0, 1) := by decide +kernel
theorem d_Model_init_30 : decode prog_10_method_1_code 30 = .ok (.bipush 26, 2) := by decide +kernel
theorem d_Model_init_32 : decode prog_10_method_1_code 32 = .ok (.newarray .int, 2) := by decide +kernel
theorem d_Model_init_34 : decode prog_10_method_1_code 34 = .ok (.putfield 20, 3) := by decide +kernel
theorem d_Model_init_37 : decode prog_10_method_1_code 37 = .ok (.aload_n 0, 1) := by decide +kernel
theorem d_Model_init_38 : decode prog_10_method_1_code 38 = .ok (.sipush 240, 3) := by decide +kernel
theorem d_Model_init_41 : decode prog_10_method_1_code 41 = .ok (.newarray .int, 2) := by decide +kernel
theorem d_Model_init_43 : decode prog_10_method_1_code 43 = .ok (.putfield 23, 3) := by decide +kernel
theorem d_Model_init_46 : decode prog_10_method_1_code 46 = .ok (.aload_n 0, 1) := by decide +kernel
theorem d_Model_init_47 : decode prog_10_method_1_code 47 = .ok (.sipush 240, 3) := by decide +kernel
theorem d_Model_init_50 : decode prog_10_method_1_code 50 = .ok (.newarray .int, 2) := by decide +kernel
theorem d_Model_init_52 : decode prog_10_method_1_code 52 = .ok (.putfield 26, 3) := by decide +kernel
theorem d_Model_init_55 : decode prog_10_method_1_code 55 = .ok (.aload_n 0, 1) := by decide +kernel
theorem d_Model_init_56 : decode prog_10_method_1_code 56 = .ok (.sipush 240, 3) := by decide +kernel
theorem d_Model_init_59 : decode prog_10_method_1_code 59 = .ok (.newarray .int, 2) := by decide +kernel
theorem d_Model_init_61 : decode prog_10_method_1_code 61 = .ok (.putfield 29, 3) := by decide +kernel
theorem d_Model_init_64 : decode prog_10_method_1_code 64 = .ok (.aload_n 0, 1) := by decide +kernel
theorem d_Model_init_65 : decode prog_10_method_1_code 65 = .ok (.sipush 240, 3) := by decide +kernel
theorem d_Model_init_68 : decode prog_10_method_1_code 68 = .ok (.newarray .int, 2) := by decide +kernel
theorem d_Model_init_70 : decode prog_10_method_1_code 70 = .ok (.putfield 32, 3) := by decide +kernel
theorem d_Model_init_73 : decode prog_10_method_1_code 73 = .ok (.aload_n 0, 1) := by decide +kernel
theorem d_Model_init_74 : decode prog_10_method_1_code 74 = .ok (.sipush 480, 3) := by decide +kernel
theorem d_Model_init_77 : decode prog_10_method_1_code 77 = .ok (.newarray .int, 2) := by decide +kernel
theorem d_Model_init_79 : decode prog_10_method_1_code 79 = .ok (.putfield 35, 3) := by decide +kernel
theorem d_Model_init_82 : decode prog_10_method_1_code 82 = .ok (.aload_n 0, 1) := by decide +kernel
theorem d_Model_init_83 : decode prog_10_method_1_code 83 = .ok (.sipush 480, 3) := by decide +kernel
theorem d_Model_init_86 : decode prog_10_method_1_code 86 = .ok (.newarray .long, 2) := by decide +kernel
theorem d_Model_init_88 : decode prog_10_method_1_code 88 = .ok (.putfield 38, 3) := by decide +kernel
theorem d_Model_init_91 : decode prog_10_method_1_code 91 = .ok (.aload_n 0, 1) := by decide +kernel
theorem d_Model_init_92 : decode prog_10_method_1_code 92 = .ok (.sipush 130, 3) := by decide +kernel
theorem d_Model_init_95 : decode prog_10_method_1_code 95 = .ok (.newarray .int, 2) := by decide +kernel
theorem d_Model_init_97 : decode prog_10_method_1_code 97 = .ok (.putfield 41, 3) := by decide +kernel
theorem d_Model_init_100 : decode prog_10_method_1_code 100 = .ok (.aload_n 0, 1) := by decide +kernel
theorem d_Model_init_101 : decode prog_10_method_1_code 101 = .ok (.bipush 40, 2) := by decide +kernel
theorem d_Model_init_103 : decode prog_10_method_1_code 103 = .ok (.newarray .long, 2) := by decide +kernel
theorem d_Model_init_105 : decode prog_10_method_1_code 105 = .ok (.putfield 44, 3) := by decide +kernel
theorem d_Model_init_108 : decode prog_10_method_1_code 108 = .ok (.aload_n 0, 1) := by decide +kernel
theorem d_Model_init_109 : decode prog_10_method_1_code 109 = .ok (.bipush 40, 2) := by decide +kernel
theorem d_Model_init_111 : decode prog_10_method_1_code 111 = .ok (.newarray .long, 2) := by decide +kernel
theorem d_Model_init_113 : decode prog_10_method_1_code 113 = .ok (.putfield 47, 3) := by decide +kernel
theorem d_Model_init_116 : decode prog_10_method_1_code 116 = .ok (.aload_n 0, 1) := by decide +kernel
theorem d_Model_init_117 : decode prog_10_method_1_code 117 = .ok (.sipush 130, 3) := by decide +kernel
theorem d_Model_init_120 : decode prog_10_method_1_code 120 = .ok (.newarray .long, 2) := by decide +kernel
theorem d_Model_init_122 : decode prog_10_method_1_code 122 = .ok (.putfield 50, 3) := by decide +kernel
theorem d_Model_init_125 : decode prog_10_method_1_code 125 = .ok (.aload_n 0, 1) := by decide +kernel
theorem d_Model_init_126 : decode prog_10_method_1_code 126 = .ok (.sipush 130, 3) := by decide +kernel
theorem d_Model_init_129 : decode prog_10_method_1_code 129 = .ok (.newarray .long, 2) := by decide +kernel
theorem d_Model_init_131 : decode prog_10_method_1_code 131 = .ok (.putfield 53, 3) := by decide +kernel
theorem d_Model_init_134 : decode prog_10_method_1_code 134 = .ok (.aload_n 0, 1) := by decide +kernel
theorem d_Model_init_135 : decode prog_10_method_1_code 135 = .ok (.bipush 12, 2) := by decide +kernel
theorem d_Model_init_137 : decode prog_10_method_1_code 137 = .ok (.newarray .int, 2) := by decide +kernel
theorem d_Model_init_139 : decode prog_10_method_1_code 139 = .ok (.putfield 56, 3) := by decide +kernel
theorem d_Model_init_142 : decode prog_10_method_1_code 142 = .ok (.aload_n 0, 1) := by decide +kernel
theorem d_Model_init_143 : decode prog_10_method_1_code 143 = .ok (.bipush 72, 2) := by decide +kernel
theorem d_Model_init_145 : decode prog_10_method_1_code 145 = .ok (.newarray .long, 2) := by decide +kernel
theorem d_Model_init_147 : decode prog_10_method_1_code 147 = .ok (.putfield 59, 3) := by decide +kernel
theorem d_Model_init_150 : decode prog_10_method_1_code 150 = .ok (.return_, 1) := by decide +kernel
abbrev y_Model_thrown : MethodName := ⟨"PermitRulesModel", "thrown", "()I"⟩
abbrev cw_Model_thrown : Cond := .code y_Model_thrown prog_10_method_2_code 1 (some .int)
theorem d_Model_thrown_0 : decode prog_10_method_2_code 0 = .ok (.aload_n 0, 1) := by decide +kernel
theorem d_Model_thrown_1 : decode prog_10_method_2_code 1 = .ok (.getfield 62, 3) := by decide +kernel
theorem d_Model_thrown_4 : decode prog_10_method_2_code 4 = .ok (.ireturn, 1) := by decide +kernel
abbrev y_Model_in : MethodName := ⟨"PermitRulesModel", "in", "(JJJ)Z"⟩
abbrev cw_Model_in : Cond := .code y_Model_in prog_10_method_3_code 6 (some .boolean)
theorem d_Model_in_0 : decode prog_10_method_3_code 0 = .ok (.lload_n 0, 1) := by decide +kernel
theorem d_Model_in_1 : decode prog_10_method_3_code 1 = .ok (.lload_n 2, 1) := by decide +kernel
theorem d_Model_in_2 : decode prog_10_method_3_code 2 = .ok (.lcmp, 1) := by decide +kernel
theorem d_Model_in_3 : decode prog_10_method_3_code 3 = .ok (.ifCond .lt 14, 3) := by decide +kernel
theorem d_Model_in_6 : decode prog_10_method_3_code 6 = .ok (.lload_n 0, 1) := by decide +kernel
theorem d_Model_in_7 : decode prog_10_method_3_code 7 = .ok (.lload 4, 2) := by decide +kernel
theorem d_Model_in_9 : decode prog_10_method_3_code 9 = .ok (.lcmp, 1) := by decide +kernel
theorem d_Model_in_10 : decode prog_10_method_3_code 10 = .ok (.ifCond .gt 7, 3) := by decide +kernel
theorem d_Model_in_13 : decode prog_10_method_3_code 13 = .ok (.iconst 1, 1) := by decide +kernel
theorem d_Model_in_14 : decode prog_10_method_3_code 14 = .ok (.goto 4, 3) := by decide +kernel
theorem d_Model_in_17 : decode prog_10_method_3_code 17 = .ok (.iconst 0, 1) := by decide +kernel
theorem d_Model_in_18 : decode prog_10_method_3_code 18 = .ok (.ireturn, 1) := by decide +kernel
abbrev y_Model_say : MethodName := ⟨"PermitRulesModel", "say", "(J)I"⟩
abbrev cw_Model_say : Cond := .code y_Model_say prog_10_method_4_code 6 (some .int)
theorem d_Model_say_0 : decode prog_10_method_4_code 0 = .ok (.aload_n 0, 1) := by decide +kernel
theorem d_Model_say_1 : decode prog_10_method_4_code 1 = .ok (.iconst 0, 1) := by decide +kernel
theorem d_Model_say_2 : decode prog_10_method_4_code 2 = .ok (.putfield 62, 3) := by decide +kernel
theorem d_Model_say_5 : decode prog_10_method_4_code 5 = .ok (.iconst 0, 1) := by decide +kernel
theorem d_Model_say_6 : decode prog_10_method_4_code 6 = .ok (.istore_n 3, 1) := by decide +kernel
theorem d_Model_say_7 : decode prog_10_method_4_code 7 = .ok (.bipush 56, 2) := by decide +kernel
theorem d_Model_say_9 : decode prog_10_method_4_code 9 = .ok (.istore 4, 2) := by decide +kernel
theorem d_Model_say_11 : decode prog_10_method_4_code 11 = .ok (.iload 4, 2) := by decide +kernel
theorem d_Model_say_13 : decode prog_10_method_4_code 13 = .ok (.ifCond .lt 69, 3) := by decide +kernel
theorem d_Model_say_16 : decode prog_10_method_4_code 16 = .ok (.lload_n 1, 1) := by decide +kernel
theorem d_Model_say_17 : decode prog_10_method_4_code 17 = .ok (.iload 4, 2) := by decide +kernel
theorem d_Model_say_19 : decode prog_10_method_4_code 19 = .ok (.lshr, 1) := by decide +kernel
theorem d_Model_say_20 : decode prog_10_method_4_code 20 = .ok (.ldc2_w 66, 3) := by decide +kernel
theorem d_Model_say_23 : decode prog_10_method_4_code 23 = .ok (.land, 1) := by decide +kernel
theorem d_Model_say_24 : decode prog_10_method_4_code 24 = .ok (.l2i, 1) := by decide +kernel
theorem d_Model_say_25 : decode prog_10_method_4_code 25 = .ok (.istore 5, 2) := by decide +kernel
theorem d_Model_say_27 : decode prog_10_method_4_code 27 = .ok (.aload_n 0, 1) := by decide +kernel
theorem d_Model_say_28 : decode prog_10_method_4_code 28 = .ok (.iload 5, 2) := by decide +kernel
theorem d_Model_say_30 : decode prog_10_method_4_code 30 = .ok (.ifCond .eq 22, 3) := by decide +kernel
theorem d_Model_say_33 : decode prog_10_method_4_code 33 = .ok (.iload 5, 2) := by decide +kernel
theorem d_Model_say_35 : decode prog_10_method_4_code 35 = .ok (.i2l, 1) := by decide +kernel
theorem d_Model_say_36 : decode prog_10_method_4_code 36 = .ok (.ldc2_w 68, 3) := by decide +kernel
theorem d_Model_say_39 : decode prog_10_method_4_code 39 = .ok (.ldc2_w 70, 3) := by decide +kernel
theorem d_Model_say_42 : decode prog_10_method_4_code 42 = .ok (.invokestatic 72, 3) := by decide +kernel
theorem d_Model_say_45 : decode prog_10_method_4_code 45 = .ok (.ifCond .ne 7, 3) := by decide +kernel
theorem d_Model_say_48 : decode prog_10_method_4_code 48 = .ok (.iconst 1, 1) := by decide +kernel
theorem d_Model_say_49 : decode prog_10_method_4_code 49 = .ok (.goto 7, 3) := by decide +kernel
theorem d_Model_say_52 : decode prog_10_method_4_code 52 = .ok (.aload_n 0, 1) := by decide +kernel
theorem d_Model_say_53 : decode prog_10_method_4_code 53 = .ok (.getfield 62, 3) := by decide +kernel
theorem d_Model_say_56 : decode prog_10_method_4_code 56 = .ok (.putfield 62, 3) := by decide +kernel
theorem d_Model_say_59 : decode prog_10_method_4_code 59 = .ok (.iload 5, 2) := by decide +kernel
theorem d_Model_say_61 : decode prog_10_method_4_code 61 = .ok (.ifCond .eq 9, 3) := by decide +kernel
theorem d_Model_say_64 : decode prog_10_method_4_code 64 = .ok (.iload_n 3, 1) := by decide +kernel
theorem d_Model_say_65 : decode prog_10_method_4_code 65 = .ok (.iconst 1, 1) := by decide +kernel
theorem d_Model_say_66 : decode prog_10_method_4_code 66 = .ok (.iadd, 1) := by decide +kernel
theorem d_Model_say_67 : decode prog_10_method_4_code 67 = .ok (.goto 4, 3) := by decide +kernel
theorem d_Model_say_70 : decode prog_10_method_4_code 70 = .ok (.iload_n 3, 1) := by decide +kernel
theorem d_Model_say_71 : decode prog_10_method_4_code 71 = .ok (.istore_n 3, 1) := by decide +kernel
theorem d_Model_say_72 : decode prog_10_method_4_code 72 = .ok (.iload 4, 2) := by decide +kernel
theorem d_Model_say_74 : decode prog_10_method_4_code 74 = .ok (.bipush 8, 2) := by decide +kernel
theorem d_Model_say_76 : decode prog_10_method_4_code 76 = .ok (.isub, 1) := by decide +kernel
theorem d_Model_say_77 : decode prog_10_method_4_code 77 = .ok (.istore 4, 2) := by decide +kernel
theorem d_Model_say_79 : decode prog_10_method_4_code 79 = .ok (.goto (-68), 3) := by decide +kernel
theorem d_Model_say_82 : decode prog_10_method_4_code 82 = .ok (.aload_n 0, 1) := by decide +kernel
theorem d_Model_say_83 : decode prog_10_method_4_code 83 = .ok (.aload_n 0, 1) := by decide +kernel
theorem d_Model_say_84 : decode prog_10_method_4_code 84 = .ok (.getfield 62, 3) := by decide +kernel
theorem d_Model_say_87 : decode prog_10_method_4_code 87 = .ok (.ifCond .ne 19, 3) := by decide +kernel
theorem d_Model_say_90 : decode prog_10_method_4_code 90 = .ok (.aload_n 0, 1) := by decide +kernel
theorem d_Model_say_91 : decode prog_10_method_4_code 91 = .ok (.getfield 76, 3) := by decide +kernel
theorem d_Model_say_94 : decode prog_10_method_4_code 94 = .ok (.iload_n 3, 1) := by decide +kernel
theorem d_Model_say_95 : decode prog_10_method_4_code 95 = .ok (.iadd, 1) := by decide +kernel
theorem d_Model_say_96 : decode prog_10_method_4_code 96 = .ok (.sipush 800, 3) := by decide +kernel
theorem d_Model_say_99 : decode prog_10_method_4_code 99 = .ok (.if_icmp .le 7, 3) := by decide +kernel
theorem d_Model_say_102 : decode prog_10_method_4_code 102 = .ok (.iconst 2, 1) := by decide +kernel
theorem d_Model_say_103 : decode prog_10_method_4_code 103 = .ok (.goto 7, 3) := by decide +kernel
theorem d_Model_say_106 : decode prog_10_method_4_code 106 = .ok (.aload_n 0, 1) := by decide +kernel
theorem d_Model_say_107 : decode prog_10_method_4_code 107 = .ok (.getfield 62, 3) := by decide +kernel
theorem d_Model_say_110 : decode prog_10_method_4_code 110 = .ok (.putfield 62, 3) := by decide +kernel
theorem d_Model_say_113 : decode prog_10_method_4_code 113 = .ok (.bipush 56, 2) := by decide +kernel
theorem d_Model_say_115 : decode prog_10_method_4_code 115 = .ok (.istore 4, 2) := by decide +kernel
theorem d_Model_say_117 : decode prog_10_method_4_code 117 = .ok (.iload 4, 2) := by decide +kernel
theorem d_Model_say_119 : decode prog_10_method_4_code 119 = .ok (.ifCond .lt 57, 3) := by decide +kernel
theorem d_Model_say_122 : decode prog_10_method_4_code 122 = .ok (.aload_n 0, 1) := by decide +kernel
theorem d_Model_say_123 : decode prog_10_method_4_code 123 = .ok (.getfield 62, 3) := by decide +kernel
theorem d_Model_say_126 : decode prog_10_method_4_code 126 = .ok (.ifCond .ne 50, 3) := by decide +kernel
theorem d_Model_say_129 : decode prog_10_method_4_code 129 = .ok (.lload_n 1, 1) := by decide +kernel
theorem d_Model_say_130 : decode prog_10_method_4_code 130 = .ok (.iload 4, 2) := by decide +kernel
theorem d_Model_say_132 : decode prog_10_method_4_code 132 = .ok (.lshr, 1) := by decide +kernel
theorem d_Model_say_133 : decode prog_10_method_4_code 133 = .ok (.ldc2_w 66, 3) := by decide +kernel
theorem d_Model_say_136 : decode prog_10_method_4_code 136 = .ok (.land, 1) := by decide +kernel
theorem d_Model_say_137 : decode prog_10_method_4_code 137 = .ok (.l2i, 1) := by decide +kernel
theorem d_Model_say_138 : decode prog_10_method_4_code 138 = .ok (.istore 5, 2) := by decide +kernel
theorem d_Model_say_140 : decode prog_10_method_4_code 140 = .ok (.iload 5, 2) := by decide +kernel
theorem d_Model_say_142 : decode prog_10_method_4_code 142 = .ok (.ifCond .eq 24, 3) := by decide +kernel
theorem d_Model_say_145 : decode prog_10_method_4_code 145 = .ok (.aload_n 0, 1) := by decide +kernel
theorem d_Model_say_146 : decode prog_10_method_4_code 146 = .ok (.getfield 7, 3) := by decide +kernel
theorem d_Model_say_149 : decode prog_10_method_4_code 149 = .ok (.aload_n 0, 1) := by decide +kernel
theorem d_Model_say_150 : decode prog_10_method_4_code 150 = .ok (.getfield 76, 3) := by decide +kernel
theorem d_Model_say_153 : decode prog_10_method_4_code 153 = .ok (.iload 5, 2) := by decide +kernel
theorem d_Model_say_155 : decode prog_10_method_4_code 155 = .ok (.iastore, 1) := by decide +kernel
theorem d_Model_say_156 : decode prog_10_method_4_code 156 = .ok (.aload_n 0, 1) := by decide +kernel
theorem d_Model_say_157 : decode prog_10_method_4_code 157 = .ok (.dup, 1) := by decide +kernel
theorem d_Model_say_158 : decode prog_10_method_4_code 158 = .ok (.getfield 76, 3) := by decide +kernel
theorem d_Model_say_161 : decode prog_10_method_4_code 161 = .ok (.iconst 1, 1) := by decide +kernel
theorem d_Model_say_162 : decode prog_10_method_4_code 162 = .ok (.iadd, 1) := by decide +kernel
theorem d_Model_say_163 : decode prog_10_method_4_code 163 = .ok (.putfield 76, 3) := by decide +kernel
theorem d_Model_say_166 : decode prog_10_method_4_code 166 = .ok (.iload 4, 2) := by decide +kernel
theorem d_Model_say_168 : decode prog_10_method_4_code 168 = .ok (.bipush 8, 2) := by decide +kernel
theorem d_Model_say_170 : decode prog_10_method_4_code 170 = .ok (.isub, 1) := by decide +kernel
theorem d_Model_say_171 : decode prog_10_method_4_code 171 = .ok (.istore 4, 2) := by decide +kernel
theorem d_Model_say_173 : decode prog_10_method_4_code 173 = .ok (.goto (-56), 3) := by decide +kernel
theorem d_Model_say_176 : decode prog_10_method_4_code 176 = .ok (.aload_n 0, 1) := by decide +kernel
theorem d_Model_say_177 : decode prog_10_method_4_code 177 = .ok (.getfield 62, 3) := by decide +kernel
theorem d_Model_say_180 : decode prog_10_method_4_code 180 = .ok (.ifCond .le 7, 3) := by decide +kernel
theorem d_Model_say_183 : decode prog_10_method_4_code 183 = .ok (.iconst 0, 1) := by decide +kernel
theorem d_Model_say_184 : decode prog_10_method_4_code 184 = .ok (.goto 7, 3) := by decide +kernel
theorem d_Model_say_187 : decode prog_10_method_4_code 187 = .ok (.aload_n 0, 1) := by decide +kernel
theorem d_Model_say_188 : decode prog_10_method_4_code 188 = .ok (.getfield 76, 3) := by decide +kernel
theorem d_Model_say_191 : decode prog_10_method_4_code 191 = .ok (.ireturn, 1) := by decide +kernel
abbrev y_Model_trim : MethodName := ⟨"PermitRulesModel", "trim", "(I)I"⟩
abbrev cw_Model_trim : Cond := .code y_Model_trim prog_10_method_5_code 2 (some .int)
theorem d_Model_trim_0 : decode prog_10_method_5_code 0 = .ok (.aload_n 0, 1) := by decide +kernel
theorem d_Model_trim_1 : decode prog_10_method_5_code 1 = .ok (.iload_n 1, 1) := by decide +kernel
theorem d_Model_trim_2 : decode prog_10_method_5_code 2 = .ok (.i2l, 1) := by decide +kernel
theorem d_Model_trim_3 : decode prog_10_method_5_code 3 = .ok (.lconst 0, 1) := by decide +kernel
theorem d_Model_trim_4 : decode prog_10_method_5_code 4 = .ok (.aload_n 0, 1) := by decide +kernel
theorem d_Model_trim_5 : decode prog_10_method_5_code 5 = .ok (.getfield 76, 3) := by decide +kernel
theorem d_Model_trim_8 : decode prog_10_method_5_code 8 = .ok (.i2l, 1) := by decide +kernel
theorem d_Model_trim_9 : decode prog_10_method_5_code 9 = .ok (.invokestatic 72, 3) := by decide +kernel
theorem d_Model_trim_12 : decode prog_10_method_5_code 12 = .ok (.ifCond .eq 7, 3) := by decide +kernel
theorem d_Model_trim_15 : decode prog_10_method_5_code 15 = .ok (.iconst 0, 1) := by decide +kernel
theorem d_Model_trim_16 : decode prog_10_method_5_code 16 = .ok (.goto 4, 3) := by decide +kernel
theorem d_Model_trim_19 : decode prog_10_method_5_code 19 = .ok (.iconst 1, 1) := by decide +kernel
theorem d_Model_trim_20 : decode prog_10_method_5_code 20 = .ok (.putfield 62, 3) := by decide +kernel
theorem d_Model_trim_23 : decode prog_10_method_5_code 23 = .ok (.aload_n 0, 1) := by decide +kernel
theorem d_Model_trim_24 : decode prog_10_method_5_code 24 = .ok (.getfield 62, 3) := by decide +kernel
theorem d_Model_trim_27 : decode prog_10_method_5_code 27 = .ok (.ifCond .le 5, 3) := by decide +kernel
theorem d_Model_trim_30 : decode prog_10_method_5_code 30 = .ok (.iconst 0, 1) := by decide +kernel
theorem d_Model_trim_31 : decode prog_10_method_5_code 31 = .ok (.ireturn, 1) := by decide +kernel
theorem d_Model_trim_32 : decode prog_10_method_5_code 32 = .ok (.aload_n 0, 1) := by decide +kernel
theorem d_Model_trim_33 : decode prog_10_method_5_code 33 = .ok (.aload_n 0, 1) := by decide +kernel
theorem d_Model_trim_34 : decode prog_10_method_5_code 34 = .ok (.getfield 76, 3) := by decide +kernel
theorem d_Model_trim_37 : decode prog_10_method_5_code 37 = .ok (.iload_n 1, 1) := by decide +kernel
theorem d_Model_trim_38 : decode prog_10_method_5_code 38 = .ok (.isub, 1) := by decide +kernel
theorem d_Model_trim_39 : decode prog_10_method_5_code 39 = .ok (.putfield 76, 3) := by decide +kernel
theorem d_Model_trim_42 : decode prog_10_method_5_code 42 = .ok (.aload_n 0, 1) := by decide +kernel
theorem d_Model_trim_43 : decode prog_10_method_5_code 43 = .ok (.getfield 76, 3) := by decide +kernel
theorem d_Model_trim_46 : decode prog_10_method_5_code 46 = .ok (.ireturn, 1) := by decide +kernel
abbrev y_Model_character : MethodName := ⟨"PermitRulesModel", "character", "(I)I"⟩
abbrev cw_Model_character : Cond := .code y_Model_character prog_10_method_6_code 2 (some .int)
theorem d_Model_character_0 : decode prog_10_method_6_code 0 = .ok (.iload_n 1, 1) := by decide +kernel
theorem d_Model_character_1 : decode prog_10_method_6_code 1 = .ok (.aload_n 0, 1) := by decide +kernel
theorem d_Model_character_2 : decode prog_10_method_6_code 2 = .ok (.getfield 76, 3) := by decide +kernel
theorem d_Model_character_5 : decode prog_10_method_6_code 5 = .ok (.if_icmp .ge 12, 3) := by decide +kernel
theorem d_Model_character_8 : decode prog_10_method_6_code 8 = .ok (.aload_n 0, 1) := by decide +kernel
theorem d_Model_character_9 : decode prog_10_method_6_code 9 = .ok (.getfield 7, 3) := by decide +kernel
theorem d_Model_character_12 : decode prog_10_method_6_code 12 = .ok (.iload_n 1, 1) := by decide +kernel
theorem d_Model_character_13 : decode prog_10_method_6_code 13 = .ok (.iaload, 1) := by decide +kernel
theorem d_Model_character_14 : decode prog_10_method_6_code 14 = .ok (.goto 4, 3) := by decide +kernel
theorem d_Model_character_17 : decode prog_10_method_6_code 17 = .ok (.iconst (-1), 1) := by decide +kernel
theorem d_Model_character_18 : decode prog_10_method_6_code 18 = .ok (.ireturn, 1) := by decide +kernel
abbrev y_Model_isDigit : MethodName := ⟨"PermitRulesModel", "isDigit", "(I)Z"⟩
abbrev cw_Model_isDigit : Cond := .code y_Model_isDigit prog_10_method_7_code 2 (some .boolean)
theorem d_Model_isDigit_0 : decode prog_10_method_7_code 0 = .ok (.aload_n 0, 1) := by decide +kernel
theorem d_Model_isDigit_1 : decode prog_10_method_7_code 1 = .ok (.iload_n 1, 1) := by decide +kernel
theorem d_Model_isDigit_2 : decode prog_10_method_7_code 2 = .ok (.invokevirtual 79, 3) := by decide +kernel
theorem d_Model_isDigit_5 : decode prog_10_method_7_code 5 = .ok (.i2l, 1) := by decide +kernel
theorem d_Model_isDigit_6 : decode prog_10_method_7_code 6 = .ok (.ldc2_w 83, 3) := by decide +kernel
theorem d_Model_isDigit_9 : decode prog_10_method_7_code 9 = .ok (.ldc2_w 85, 3) := by decide +kernel
theorem d_Model_isDigit_12 : decode prog_10_method_7_code 12 = .ok (.invokestatic 72, 3) := by decide +kernel
theorem d_Model_isDigit_15 : decode prog_10_method_7_code 15 = .ok (.ireturn, 1) := by decide +kernel
abbrev y_Model_isLetter : MethodName := ⟨"PermitRulesModel", "isLetter", "(I)Z"⟩
abbrev cw_Model_isLetter : Cond := .code y_Model_isLetter prog_10_method_8_code 2 (some .boolean)
theorem d_Model_isLetter_0 : decode prog_10_method_8_code 0 = .ok (.aload_n 0, 1) := by decide +kernel
theorem d_Model_isLetter_1 : decode prog_10_method_8_code 1 = .ok (.iload_n 1, 1) := by decide +kernel
theorem d_Model_isLetter_2 : decode prog_10_method_8_code 2 = .ok (.invokevirtual 79, 3) := by decide +kernel
theorem d_Model_isLetter_5 : decode prog_10_method_8_code 5 = .ok (.i2l, 1) := by decide +kernel
theorem d_Model_isLetter_6 : decode prog_10_method_8_code 6 = .ok (.ldc2_w 87, 3) := by decide +kernel
theorem d_Model_isLetter_9 : decode prog_10_method_8_code 9 = .ok (.ldc2_w 89, 3) := by decide +kernel
theorem d_Model_isLetter_12 : decode prog_10_method_8_code 12 = .ok (.invokestatic 72, 3) := by decide +kernel
theorem d_Model_isLetter_15 : decode prog_10_method_8_code 15 = .ok (.ireturn, 1) := by decide +kernel
abbrev y_Model_isSign : MethodName := ⟨"PermitRulesModel", "isSign", "(I)Z"⟩
abbrev cw_Model_isSign : Cond := .code y_Model_isSign prog_10_method_9_code 1 (some .boolean)
theorem d_Model_isSign_0 : decode prog_10_method_9_code 0 = .ok (.iload_n 0, 1) := by decide +kernel
theorem d_Model_isSign_1 : decode prog_10_method_9_code 1 = .ok (.bipush 43, 2) := by decide +kernel
theorem d_Model_isSign_3 : decode prog_10_method_9_code 3 = .ok (.if_icmp .eq 75, 3) := by decide +kernel
theorem d_Model_isSign_6 : decode prog_10_method_9_code 6 = .ok (.iload_n 0, 1) := by decide +kernel
theorem d_Model_isSign_7 : decode prog_10_method_9_code 7 = .ok (.bipush 45, 2) := by decide +kernel
theorem d_Model_isSign_9 : decode prog_10_method_9_code 9 = .ok (.if_icmp .eq 69, 3) := by decide +kernel
theorem d_Model_isSign_12 : decode prog_10_method_9_code 12 = .ok (.iload_n 0, 1) := by decide +kernel
theorem d_Model_isSign_13 : decode prog_10_method_9_code 13 = .ok (.bipush 42, 2) := by decide +kernel
theorem d_Model_isSign_15 : decode prog_10_method_9_code 15 = .ok (.if_icmp .eq 63, 3) := by decide +kernel
theorem d_Model_isSign_18 : decode prog_10_method_9_code 18 = .ok (.iload_n 0, 1) := by decide +kernel
theorem d_Model_isSign_19 : decode prog_10_method_9_code 19 = .ok (.bipush 47, 2) := by decide +kernel
theorem d_Model_isSign_21 : decode prog_10_method_9_code 21 = .ok (.if_icmp .eq 57, 3) := by decide +kernel
theorem d_Model_isSign_24 : decode prog_10_method_9_code 24 = .ok (.iload_n 0, 1) := by decide +kernel
theorem d_Model_isSign_25 : decode prog_10_method_9_code 25 = .ok (.bipush 40, 2) := by decide +kernel
theorem d_Model_isSign_27 : decode prog_10_method_9_code 27 = .ok (.if_icmp .eq 51, 3) := by decide +kernel
theorem d_Model_isSign_30 : decode prog_10_method_9_code 30 = .ok (.iload_n 0, 1) := by decide +kernel
theorem d_Model_isSign_31 : decode prog_10_method_9_code 31 = .ok (.bipush 41, 2) := by decide +kernel
theorem d_Model_isSign_33 : decode prog_10_method_9_code 33 = .ok (.if_icmp .eq 45, 3) := by decide +kernel
theorem d_Model_isSign_36 : decode prog_10_method_9_code 36 = .ok (.iload_n 0, 1) := by decide +kernel
theorem d_Model_isSign_37 : decode prog_10_method_9_code 37 = .ok (.bipush 60, 2) := by decide +kernel
theorem d_Model_isSign_39 : decode prog_10_method_9_code 39 = .ok (.if_icmp .eq 39, 3) := by decide +kernel
theorem d_Model_isSign_42 : decode prog_10_method_9_code 42 = .ok (.iload_n 0, 1) := by decide +kernel
theorem d_Model_isSign_43 : decode prog_10_method_9_code 43 = .ok (.bipush 61, 2) := by decide +kernel
theorem d_Model_isSign_45 : decode prog_10_method_9_code 45 = .ok (.if_icmp .eq 33, 3) := by decide +kernel
theorem d_Model_isSign_48 : decode prog_10_method_9_code 48 = .ok (.iload_n 0, 1) := by decide +kernel
theorem d_Model_isSign_49 : decode prog_10_method_9_code 49 = .ok (.bipush 62, 2) := by decide +kernel
theorem d_Model_isSign_51 : decode prog_10_method_9_code 51 = .ok (.if_icmp .eq 27, 3) := by decide +kernel
theorem d_Model_isSign_54 : decode prog_10_method_9_code 54 = .ok (.iload_n 0, 1) := by decide +kernel
theorem d_Model_isSign_55 : decode prog_10_method_9_code 55 = .ok (.bipush 58, 2) := by decide +kernel
theorem d_Model_isSign_57 : decode prog_10_method_9_code 57 = .ok (.if_icmp .eq 21, 3) := by decide +kernel
theorem d_Model_isSign_60 : decode prog_10_method_9_code 60 = .ok (.iload_n 0, 1) := by decide +kernel
theorem d_Model_isSign_61 : decode prog_10_method_9_code 61 = .ok (.bipush 59, 2) := by decide +kernel
theorem d_Model_isSign_63 : decode prog_10_method_9_code 63 = .ok (.if_icmp .eq 15, 3) := by decide +kernel
theorem d_Model_isSign_66 : decode prog_10_method_9_code 66 = .ok (.iload_n 0, 1) := by decide +kernel
theorem d_Model_isSign_67 : decode prog_10_method_9_code 67 = .ok (.bipush 33, 2) := by decide +kernel
theorem d_Model_isSign_69 : decode prog_10_method_9_code 69 = .ok (.if_icmp .eq 9, 3) := by decide +kernel
theorem d_Model_isSign_72 : decode prog_10_method_9_code 72 = .ok (.iload_n 0, 1) := by decide +kernel
theorem d_Model_isSign_73 : decode prog_10_method_9_code 73 = .ok (.bipush 64, 2) := by decide +kernel
theorem d_Model_isSign_75 : decode prog_10_method_9_code 75 = .ok (.if_icmp .ne 7, 3) := by decide +kernel
theorem d_Model_isSign_78 : decode prog_10_method_9_code 78 = .ok (.iconst 1, 1) := by decide +kernel
theorem d_Model_isSign_79 : decode prog_10_method_9_code 79 = .ok (.goto 4, 3) := by decide +kernel
theorem d_Model_isSign_82 : decode prog_10_method_9_code 82 = .ok (.iconst 0, 1) := by decide +kernel
theorem d_Model_isSign_83 : decode prog_10_method_9_code 83 = .ok (.ireturn, 1) := by decide +kernel
abbrev y_Model_next : MethodName := ⟨"PermitRulesModel", "next", "()V"⟩
abbrev cw_Model_next : Cond := .code y_Model_next prog_10_method_10_code 3 none
theorem d_Model_next_0 : decode prog_10_method_10_code 0 = .ok (.aload_n 0, 1) := by decide +kernel
theorem d_Model_next_1 : decode prog_10_method_10_code 1 = .ok (.aload_n 0, 1) := by decide +kernel
theorem d_Model_next_2 : decode prog_10_method_10_code 2 = .ok (.getfield 91, 3) := by decide +kernel
theorem d_Model_next_5 : decode prog_10_method_10_code 5 = .ok (.invokevirtual 79, 3) := by decide +kernel
theorem d_Model_next_8 : decode prog_10_method_10_code 8 = .ok (.bipush 32, 2) := by decide +kernel
theorem d_Model_next_10 : decode prog_10_method_10_code 10 = .ok (.if_icmp .ne 16, 3) := by decide +kernel
theorem d_Model_next_13 : decode prog_10_method_10_code 13 = .ok (.aload_n 0, 1) := by decide +kernel
theorem d_Model_next_14 : decode prog_10_method_10_code 14 = .ok (.dup, 1) := by decide +kernel
theorem d_Model_next_15 : decode prog_10_method_10_code 15 = .ok (.getfield 91, 3) := by decide +kernel
theorem d_Model_next_18 : decode prog_10_method_10_code 18 = .ok (.iconst 1, 1) := by decide +kernel
theorem d_Model_next_19 : decode prog_10_method_10_code 19 = .ok (.iadd, 1) := by decide +kernel
theorem d_Model_next_20 : decode prog_10_method_10_code 20 = .ok (.putfield 91, 3) := by decide +kernel
theorem d_Model_next_23 : decode prog_10_method_10_code 23 = .ok (.goto (-23), 3) := by decide +kernel
theorem d_Model_next_26 : decode prog_10_method_10_code 26 = .ok (.aload_n 0, 1) := by decide +kernel
theorem d_Model_next_27 : decode prog_10_method_10_code 27 = .ok (.aload_n 0, 1) := by decide +kernel
theorem d_Model_next_28 : decode prog_10_method_10_code 28 = .ok (.getfield 91, 3) := by decide +kernel
theorem d_Model_next_31 : decode prog_10_method_10_code 31 = .ok (.putfield 94, 3) := by decide +kernel
theorem d_Model_next_34 : decode prog_10_method_10_code 34 = .ok (.aload_n 0, 1) := by decide +kernel
theorem d_Model_next_35 : decode prog_10_method_10_code 35 = .ok (.aload_n 0, 1) := by decide +kernel
theorem d_Model_next_36 : decode prog_10_method_10_code 36 = .ok (.getfield 91, 3) := by decide +kernel
theorem d_Model_next_39 : decode prog_10_method_10_code 39 = .ok (.invokevirtual 79, 3) := by decide +kernel
theorem d_Model_next_42 : decode prog_10_method_10_code 42 = .ok (.istore_n 1, 1) := by decide +kernel
theorem d_Model_next_43 : decode prog_10_method_10_code 43 = .ok (.iload_n 1, 1) := by decide +kernel
theorem d_Model_next_44 : decode prog_10_method_10_code 44 = .ok (.ifCond .ge 9, 3) := by decide +kernel
theorem d_Model_next_47 : decode prog_10_method_10_code 47 = .ok (.aload_n 0, 1) := by decide +kernel
theorem d_Model_next_48 : decode prog_10_method_10_code 48 = .ok (.iconst 0, 1) := by decide +kernel
theorem d_Model_next_49 : decode prog_10_method_10_code 49 = .ok (.putfield 97, 3) := by decide +kernel
theorem d_Model_next_52 : decode prog_10_method_10_code 52 = .ok (.return_, 1) := by decide +kernel
theorem d_Model_next_53 : decode prog_10_method_10_code 53 = .ok (.aload_n 0, 1) := by decide +kernel
theorem d_Model_next_54 : decode prog_10_method_10_code 54 = .ok (.dup, 1) := by decide +kernel
theorem d_Model_next_55 : decode prog_10_method_10_code 55 = .ok (.getfield 100, 3) := by decide +kernel
theorem d_Model_next_58 : decode prog_10_method_10_code 58 = .ok (.iconst 1, 1) := by decide +kernel
theorem d_Model_next_59 : decode prog_10_method_10_code 59 = .ok (.iadd, 1) := by decide +kernel
theorem d_Model_next_60 : decode prog_10_method_10_code 60 = .ok (.putfield 100, 3) := by decide +kernel
theorem d_Model_next_63 : decode prog_10_method_10_code 63 = .ok (.aload_n 0, 1) := by decide +kernel
theorem d_Model_next_64 : decode prog_10_method_10_code 64 = .ok (.lconst 0, 1) := by decide +kernel
theorem d_Model_next_65 : decode prog_10_method_10_code 65 = .ok (.putfield 103, 3) := by decide +kernel
theorem d_Model_next_68 : decode prog_10_method_10_code 68 = .ok (.iconst 0, 1) := by decide +kernel
theorem d_Model_next_69 : decode prog_10_method_10_code 69 = .ok (.istore_n 2, 1) := by decide +kernel
theorem d_Model_next_70 : decode prog_10_method_10_code 70 = .ok (.aload_n 0, 1) := by decide +kernel
theorem d_Model_next_71 : decode prog_10_method_10_code 71 = .ok (.aload_n 0, 1) := by decide +kernel
theorem d_Model_next_72 : decode prog_10_method_10_code 72 = .ok (.getfield 91, 3) := by decide +kernel
theorem d_Model_next_75 : decode prog_10_method_10_code 75 = .ok (.invokevirtual 107, 3) := by decide +kernel
theorem d_Model_next_78 : decode prog_10_method_10_code 78 = .ok (.ifCond .eq 87, 3) := by decide +kernel
theorem d_Model_next_81 : decode prog_10_method_10_code 81 = .ok (.aload_n 0, 1) := by decide +kernel
theorem d_Model_next_82 : decode prog_10_method_10_code 82 = .ok (.aload_n 0, 1) := by decide +kernel
theorem d_Model_next_83 : decode prog_10_method_10_code 83 = .ok (.getfield 91, 3) := by decide +kernel
theorem d_Model_next_86 : decode prog_10_method_10_code 86 = .ok (.invokevirtual 107, 3) := by decide +kernel
theorem d_Model_next_89 : decode prog_10_method_10_code 89 = .ok (.ifCond .eq 58, 3) := by decide +kernel
theorem d_Model_next_92 : decode prog_10_method_10_code 92 = .ok (.aload_n 0, 1) := by decide +kernel
theorem d_Model_next_93 : decode prog_10_method_10_code 93 = .ok (.iload_n 2, 1) := by decide +kernel
theorem d_Model_next_94 : decode prog_10_method_10_code 94 = .ok (.bipush 9, 2) := by decide +kernel
theorem d_Model_next_96 : decode prog_10_method_10_code 96 = .ok (.if_icmp .ge 28, 3) := by decide +kernel
theorem d_Model_next_99 : decode prog_10_method_10_code 99 = .ok (.ldc2_w 111, 3) := by decide +kernel
theorem d_Model_next_102 : decode prog_10_method_10_code 102 = .ok (.aload_n 0, 1) := by decide +kernel
theorem d_Model_next_103 : decode prog_10_method_10_code 103 = .ok (.getfield 103, 3) := by decide +kernel
theorem d_Model_next_106 : decode prog_10_method_10_code 106 = .ok (.lmul, 1) := by decide +kernel
theorem d_Model_next_107 : decode prog_10_method_10_code 107 = .ok (.aload_n 0, 1) := by decide +kernel
theorem d_Model_next_108 : decode prog_10_method_10_code 108 = .ok (.aload_n 0, 1) := by decide +kernel
theorem d_Model_next_109 : decode prog_10_method_10_code 109 = .ok (.getfield 91, 3) := by decide +kernel
theorem d_Model_next_112 : decode prog_10_method_10_code 112 = .ok (.invokevirtual 79, 3) := by decide +kernel
theorem d_Model_next_115 : decode prog_10_method_10_code 115 = .ok (.i2l, 1) := by decide +kernel
theorem d_Model_next_116 : decode prog_10_method_10_code 116 = .ok (.ladd, 1) := by decide +kernel
theorem d_Model_next_117 : decode prog_10_method_10_code 117 = .ok (.ldc2_w 83, 3) := by decide +kernel
theorem d_Model_next_120 : decode prog_10_method_10_code 120 = .ok (.lsub, 1) := by decide +kernel
theorem d_Model_next_121 : decode prog_10_method_10_code 121 = .ok (.goto 7, 3) := by decide +kernel
theorem d_Model_next_124 : decode prog_10_method_10_code 124 = .ok (.aload_n 0, 1) := by decide +kernel
theorem d_Model_next_125 : decode prog_10_method_10_code 125 = .ok (.getfield 103, 3) := by decide +kernel
theorem d_Model_next_128 : decode prog_10_method_10_code 128 = .ok (.putfield 103, 3) := by decide +kernel
theorem d_Model_next_131 : decode prog_10_method_10_code 131 = .ok (.iinc 2 1, 3) := by decide +kernel
theorem d_Model_next_134 : decode prog_10_method_10_code 134 = .ok (.aload_n 0, 1) := by decide +kernel
theorem d_Model_next_135 : decode prog_10_method_10_code 135 = .ok (.dup, 1) := by decide +kernel
theorem d_Model_next_136 : decode prog_10_method_10_code 136 = .ok (.getfield 91, 3) := by decide +kernel
theorem d_Model_next_139 : decode prog_10_method_10_code 139 = .ok (.iconst 1, 1) := by decide +kernel
theorem d_Model_next_140 : decode prog_10_method_10_code 140 = .ok (.iadd, 1) := by decide +kernel
theorem d_Model_next_141 : decode prog_10_method_10_code 141 = .ok (.putfield 91, 3) := by decide +kernel
theorem d_Model_next_144 : decode prog_10_method_10_code 144 = .ok (.goto (-63), 3) := by decide +kernel
theorem d_Model_next_147 : decode prog_10_method_10_code 147 = .ok (.aload_n 0, 1) := by decide +kernel
theorem d_Model_next_148 : decode prog_10_method_10_code 148 = .ok (.iload_n 2, 1) := by decide +kernel
theorem d_Model_next_149 : decode prog_10_method_10_code 149 = .ok (.bipush 9, 2) := by decide +kernel
theorem d_Model_next_151 : decode prog_10_method_10_code 151 = .ok (.if_icmp .le 7, 3) := by decide +kernel
theorem d_Model_next_154 : decode prog_10_method_10_code 154 = .ok (.iconst 3, 1) := by decide +kernel
theorem d_Model_next_155 : decode prog_10_method_10_code 155 = .ok (.goto 4, 3) := by decide +kernel
theorem d_Model_next_158 : decode prog_10_method_10_code 158 = .ok (.iconst 1, 1) := by decide +kernel
theorem d_Model_next_159 : decode prog_10_method_10_code 159 = .ok (.putfield 97, 3) := by decide +kernel
theorem d_Model_next_162 : decode prog_10_method_10_code 162 = .ok (.goto 164, 3) := by decide +kernel
theorem d_Model_next_165 : decode prog_10_method_10_code 165 = .ok (.aload_n 0, 1) := by decide +kernel
theorem d_Model_next_166 : decode prog_10_method_10_code 166 = .ok (.aload_n 0, 1) := by decide +kernel
theorem d_Model_next_167 : decode prog_10_method_10_code 167 = .ok (.getfield 91, 3) := by decide +kernel
theorem d_Model_next_170 : decode prog_10_method_10_code 170 = .ok (.invokevirtual 113, 3) := by decide +kernel
theorem d_Model_next_173 : decode prog_10_method_10_code 173 = .ok (.ifCond .eq 83, 3) := by decide +kernel
theorem d_Model_next_176 : decode prog_10_method_10_code 176 = .ok (.aload_n 0, 1) := by decide +kernel
theorem d_Model_next_177 : decode prog_10_method_10_code 177 = .ok (.aload_n 0, 1) := by decide +kernel
theorem d_Model_next_178 : decode prog_10_method_10_code 178 = .ok (.getfield 91, 3) := by decide +kernel
theorem d_Model_next_181 : decode prog_10_method_10_code 181 = .ok (.invokevirtual 113, 3) := by decide +kernel
theorem d_Model_next_184 : decode prog_10_method_10_code 184 = .ok (.ifCond .eq 54, 3) := by decide +kernel
theorem d_Model_next_187 : decode prog_10_method_10_code 187 = .ok (.aload_n 0, 1) := by decide +kernel
theorem d_Model_next_188 : decode prog_10_method_10_code 188 = .ok (.iload_n 2, 1) := by decide +kernel
theorem d_Model_next_189 : decode prog_10_method_10_code 189 = .ok (.bipush 8, 2) := by decide +kernel
theorem d_Model_next_191 : decode prog_10_method_10_code 191 = .ok (.if_icmp .ge 24, 3) := by decide +kernel
theorem d_Model_next_194 : decode prog_10_method_10_code 194 = .ok (.aload_n 0, 1) := by decide +kernel
theorem d_Model_next_195 : decode prog_10_method_10_code 195 = .ok (.getfield 103, 3) := by decide +kernel
theorem d_Model_next_198 : decode prog_10_method_10_code 198 = .ok (.ldc2_w 116, 3) := by decide +kernel
theorem d_Model_next_201 : decode prog_10_method_10_code 201 = .ok (.lmul, 1) := by decide +kernel
theorem d_Model_next_202 : decode prog_10_method_10_code 202 = .ok (.aload_n 0, 1) := by decide +kernel
theorem d_Model_next_203 : decode prog_10_method_10_code 203 = .ok (.aload_n 0, 1) := by decide +kernel
theorem d_Model_next_204 : decode prog_10_method_10_code 204 = .ok (.getfield 91, 3) := by decide +kernel
theorem d_Model_next_207 : decode prog_10_method_10_code 207 = .ok (.invokevirtual 79, 3) := by decide +kernel
theorem d_Model_next_210 : decode prog_10_method_10_code 210 = .ok (.i2l, 1) := by decide +kernel
theorem d_Model_next_211 : decode prog_10_method_10_code 211 = .ok (.ladd, 1) := by decide +kernel
theorem d_Model_next_212 : decode prog_10_method_10_code 212 = .ok (.goto 7, 3) := by decide +kernel
theorem d_Model_next_215 : decode prog_10_method_10_code 215 = .ok (.aload_n 0, 1) := by decide +kernel
theorem d_Model_next_216 : decode prog_10_method_10_code 216 = .ok (.getfield 103, 3) := by decide +kernel
theorem d_Model_next_219 : decode prog_10_method_10_code 219 = .ok (.putfield 103, 3) := by decide +kernel
theorem d_Model_next_222 : decode prog_10_method_10_code 222 = .ok (.iinc 2 1, 3) := by decide +kernel
theorem d_Model_next_225 : decode prog_10_method_10_code 225 = .ok (.aload_n 0, 1) := by decide +kernel
theorem d_Model_next_226 : decode prog_10_method_10_code 226 = .ok (.dup, 1) := by decide +kernel
theorem d_Model_next_227 : decode prog_10_method_10_code 227 = .ok (.getfield 91, 3) := by decide +kernel
theorem d_Model_next_230 : decode prog_10_method_10_code 230 = .ok (.iconst 1, 1) := by decide +kernel
theorem d_Model_next_231 : decode prog_10_method_10_code 231 = .ok (.iadd, 1) := by decide +kernel
theorem d_Model_next_232 : decode prog_10_method_10_code 232 = .ok (.putfield 91, 3) := by decide +kernel
theorem d_Model_next_235 : decode prog_10_method_10_code 235 = .ok (.goto (-59), 3) := by decide +kernel
theorem d_Model_next_238 : decode prog_10_method_10_code 238 = .ok (.aload_n 0, 1) := by decide +kernel
theorem d_Model_next_239 : decode prog_10_method_10_code 239 = .ok (.iload_n 2, 1) := by decide +kernel
theorem d_Model_next_240 : decode prog_10_method_10_code 240 = .ok (.bipush 8, 2) := by decide +kernel
theorem d_Model_next_242 : decode prog_10_method_10_code 242 = .ok (.if_icmp .le 7, 3) := by decide +kernel
theorem d_Model_next_245 : decode prog_10_method_10_code 245 = .ok (.iconst 3, 1) := by decide +kernel
theorem d_Model_next_246 : decode prog_10_method_10_code 246 = .ok (.goto 4, 3) := by decide +kernel
theorem d_Model_next_249 : decode prog_10_method_10_code 249 = .ok (.iconst 2, 1) := by decide +kernel
theorem d_Model_next_250 : decode prog_10_method_10_code 250 = .ok (.putfield 97, 3) := by decide +kernel
theorem d_Model_next_253 : decode prog_10_method_10_code 253 = .ok (.goto 73, 3) := by decide +kernel
theorem d_Model_next_256 : decode prog_10_method_10_code 256 = .ok (.aload_n 0, 1) := by decide +kernel
theorem d_Model_next_257 : decode prog_10_method_10_code 257 = .ok (.dup, 1) := by decide +kernel
theorem d_Model_next_258 : decode prog_10_method_10_code 258 = .ok (.getfield 91, 3) := by decide +kernel
theorem d_Model_next_261 : decode prog_10_method_10_code 261 = .ok (.iconst 1, 1) := by decide +kernel
theorem d_Model_next_262 : decode prog_10_method_10_code 262 = .ok (.iadd, 1) := by decide +kernel
theorem d_Model_next_263 : decode prog_10_method_10_code 263 = .ok (.putfield 91, 3) := by decide +kernel
theorem d_Model_next_266 : decode prog_10_method_10_code 266 = .ok (.aload_n 0, 1) := by decide +kernel
theorem d_Model_next_267 : decode prog_10_method_10_code 267 = .ok (.iload_n 1, 1) := by decide +kernel
theorem d_Model_next_268 : decode prog_10_method_10_code 268 = .ok (.invokestatic 118, 3) := by decide +kernel
theorem d_Model_next_271 : decode prog_10_method_10_code 271 = .ok (.ifCond .eq 7, 3) := by decide +kernel
theorem d_Model_next_274 : decode prog_10_method_10_code 274 = .ok (.iload_n 1, 1) := by decide +kernel
theorem d_Model_next_275 : decode prog_10_method_10_code 275 = .ok (.goto 4, 3) := by decide +kernel
theorem d_Model_next_278 : decode prog_10_method_10_code 278 = .ok (.iconst 3, 1) := by decide +kernel
theorem d_Model_next_279 : decode prog_10_method_10_code 279 = .ok (.putfield 97, 3) := by decide +kernel
theorem d_Model_next_282 : decode prog_10_method_10_code 282 = .ok (.iload_n 1, 1) := by decide +kernel
theorem d_Model_next_283 : decode prog_10_method_10_code 283 = .ok (.bipush 60, 2) := by decide +kernel
theorem d_Model_next_285 : decode prog_10_method_10_code 285 = .ok (.if_icmp .eq 9, 3) := by decide +kernel
theorem d_Model_next_288 : decode prog_10_method_10_code 288 = .ok (.iload_n 1, 1) := by decide +kernel
theorem d_Model_next_289 : decode prog_10_method_10_code 289 = .ok (.bipush 62, 2) := by decide +kernel
theorem d_Model_next_291 : decode prog_10_method_10_code 291 = .ok (.if_icmp .ne 35, 3) := by decide +kernel
theorem d_Model_next_294 : decode prog_10_method_10_code 294 = .ok (.aload_n 0, 1) := by decide +kernel
theorem d_Model_next_295 : decode prog_10_method_10_code 295 = .ok (.aload_n 0, 1) := by decide +kernel
theorem d_Model_next_296 : decode prog_10_method_10_code 296 = .ok (.getfield 91, 3) := by decide +kernel
theorem d_Model_next_299 : decode prog_10_method_10_code 299 = .ok (.invokevirtual 79, 3) := by decide +kernel
theorem d_Model_next_302 : decode prog_10_method_10_code 302 = .ok (.bipush 61, 2) := by decide +kernel
theorem d_Model_next_304 : decode prog_10_method_10_code 304 = .ok (.if_icmp .ne 22, 3) := by decide +kernel
theorem d_Model_next_307 : decode prog_10_method_10_code 307 = .ok (.aload_n 0, 1) := by decide +kernel
theorem d_Model_next_308 : decode prog_10_method_10_code 308 = .ok (.iload_n 1, 1) := by decide +kernel
theorem d_Model_next_309 : decode prog_10_method_10_code 309 = .ok (.sipush 256, 3) := by decide +kernel
theorem d_Model_next_312 : decode prog_10_method_10_code 312 = .ok (.iadd, 1) := by decide +kernel
theorem d_Model_next_313 : decode prog_10_method_10_code 313 = .ok (.putfield 97, 3) := by decide +kernel
theorem d_Model_next_316 : decode prog_10_method_10_code 316 = .ok (.aload_n 0, 1) := by decide +kernel
theorem d_Model_next_317 : decode prog_10_method_10_code 317 = .ok (.dup, 1) := by decide +kernel
theorem d_Model_next_318 : decode prog_10_method_10_code 318 = .ok (.getfield 91, 3) := by decide +kernel
theorem d_Model_next_321 : decode prog_10_method_10_code 321 = .ok (.iconst 1, 1) := by decide +kernel
theorem d_Model_next_322 : decode prog_10_method_10_code 322 = .ok (.iadd, 1) := by decide +kernel
theorem d_Model_next_323 : decode prog_10_method_10_code 323 = .ok (.putfield 91, 3) := by decide +kernel
theorem d_Model_next_326 : decode prog_10_method_10_code 326 = .ok (.aload_n 0, 1) := by decide +kernel
theorem d_Model_next_327 : decode prog_10_method_10_code 327 = .ok (.aload_n 0, 1) := by decide +kernel
theorem d_Model_next_328 : decode prog_10_method_10_code 328 = .ok (.getfield 100, 3) := by decide +kernel
theorem d_Model_next_331 : decode prog_10_method_10_code 331 = .ok (.bipush 120, 2) := by decide +kernel
theorem d_Model_next_333 : decode prog_10_method_10_code 333 = .ok (.if_icmp .le 7, 3) := by decide +kernel
theorem d_Model_next_336 : decode prog_10_method_10_code 336 = .ok (.iconst 3, 1) := by decide +kernel
theorem d_Model_next_337 : decode prog_10_method_10_code 337 = .ok (.goto 7, 3) := by decide +kernel
theorem d_Model_next_340 : decode prog_10_method_10_code 340 = .ok (.aload_n 0, 1) := by decide +kernel
theorem d_Model_next_341 : decode prog_10_method_10_code 341 = .ok (.getfield 97, 3) := by decide +kernel
theorem d_Model_next_344 : decode prog_10_method_10_code 344 = .ok (.putfield 97, 3) := by decide +kernel
theorem d_Model_next_347 : decode prog_10_method_10_code 347 = .ok (.return_, 1) := by decide +kernel
abbrev y_Model_compares : MethodName := ⟨"PermitRulesModel", "compares", "(I)Z"⟩
abbrev cw_Model_compares : Cond := .code y_Model_compares prog_10_method_11_code 1 (some .boolean)
theorem d_Model_compares_0 : decode prog_10_method_11_code 0 = .ok (.iload_n 0, 1) := by decide +kernel
theorem d_Model_compares_1 : decode prog_10_method_11_code 1 = .ok (.bipush 60, 2) := by decide +kernel
theorem d_Model_compares_3 : decode prog_10_method_11_code 3 = .ok (.if_icmp .eq 29, 3) := by decide +kernel
theorem d_Model_compares_6 : decode prog_10_method_11_code 6 = .ok (.iload_n 0, 1) := by decide +kernel
theorem d_Model_compares_7 : decode prog_10_method_11_code 7 = .ok (.bipush 61, 2) := by decide +kernel
theorem d_Model_compares_9 : decode prog_10_method_11_code 9 = .ok (.if_icmp .eq 23, 3) := by decide +kernel
theorem d_Model_compares_12 : decode prog_10_method_11_code 12 = .ok (.iload_n 0, 1) := by decide +kernel
theorem d_Model_compares_13 : decode prog_10_method_11_code 13 = .ok (.bipush 62, 2) := by decide +kernel
theorem d_Model_compares_15 : decode prog_10_method_11_code 15 = .ok (.if_icmp .eq 17, 3) := by decide +kernel
theorem d_Model_compares_18 : decode prog_10_method_11_code 18 = .ok (.iload_n 0, 1) := by decide +kernel
theorem d_Model_compares_19 : decode prog_10_method_11_code 19 = .ok (.sipush 316, 3) := by decide +kernel
theorem d_Model_compares_22 : decode prog_10_method_11_code 22 = .ok (.if_icmp .eq 10, 3) := by decide +kernel
theorem d_Model_compares_25 : decode prog_10_method_11_code 25 = .ok (.iload_n 0, 1) := by decide +kernel
theorem d_Model_compares_26 : decode prog_10_method_11_code 26 = .ok (.sipush 318, 3) := by decide +kernel
theorem d_Model_compares_29 : decode prog_10_method_11_code 29 = .ok (.if_icmp .ne 7, 3) := by decide +kernel
theorem d_Model_compares_32 : decode prog_10_method_11_code 32 = .ok (.iconst 1, 1) := by decide +kernel
theorem d_Model_compares_33 : decode prog_10_method_11_code 33 = .ok (.goto 4, 3) := by decide +kernel
theorem d_Model_compares_36 : decode prog_10_method_11_code 36 = .ok (.iconst 0, 1) := by decide +kernel
theorem d_Model_compares_37 : decode prog_10_method_11_code 37 = .ok (.ireturn, 1) := by decide +kernel
abbrev y_Model_step : MethodName := ⟨"PermitRulesModel", "step", "(IJ)V"⟩
abbrev cw_Model_step : Cond := .code y_Model_step prog_10_method_12_code 4 none
theorem d_Model_step_0 : decode prog_10_method_12_code 0 = .ok (.aload_n 0, 1) := by decide +kernel
theorem d_Model_step_1 : decode prog_10_method_12_code 1 = .ok (.getfield 35, 3) := by decide +kernel
theorem d_Model_step_4 : decode prog_10_method_12_code 4 = .ok (.aload_n 0, 1) := by decide +kernel
theorem d_Model_step_5 : decode prog_10_method_12_code 5 = .ok (.getfield 121, 3) := by decide +kernel
theorem d_Model_step_8 : decode prog_10_method_12_code 8 = .ok (.iload_n 1, 1) := by decide +kernel
theorem d_Model_step_9 : decode prog_10_method_12_code 9 = .ok (.iastore, 1) := by decide +kernel
theorem d_Model_step_10 : decode prog_10_method_12_code 10 = .ok (.aload_n 0, 1) := by decide +kernel
theorem d_Model_step_11 : decode prog_10_method_12_code 11 = .ok (.getfield 38, 3) := by decide +kernel
theorem d_Model_step_14 : decode prog_10_method_12_code 14 = .ok (.aload_n 0, 1) := by decide +kernel
theorem d_Model_step_15 : decode prog_10_method_12_code 15 = .ok (.getfield 121, 3) := by decide +kernel
theorem d_Model_step_18 : decode prog_10_method_12_code 18 = .ok (.lload_n 2, 1) := by decide +kernel
theorem d_Model_step_19 : decode prog_10_method_12_code 19 = .ok (.lastore, 1) := by decide +kernel
theorem d_Model_step_20 : decode prog_10_method_12_code 20 = .ok (.aload_n 0, 1) := by decide +kernel
theorem d_Model_step_21 : decode prog_10_method_12_code 21 = .ok (.dup, 1) := by decide +kernel
theorem d_Model_step_22 : decode prog_10_method_12_code 22 = .ok (.getfield 121, 3) := by decide +kernel
theorem d_Model_step_25 : decode prog_10_method_12_code 25 = .ok (.iconst 1, 1) := by decide +kernel
theorem d_Model_step_26 : decode prog_10_method_12_code 26 = .ok (.iadd, 1) := by decide +kernel
theorem d_Model_step_27 : decode prog_10_method_12_code 27 = .ok (.putfield 121, 3) := by decide +kernel
theorem d_Model_step_30 : decode prog_10_method_12_code 30 = .ok (.return_, 1) := by decide +kernel
abbrev y_Model_rank : MethodName := ⟨"PermitRulesModel", "rank", "(I)I"⟩
abbrev cw_Model_rank : Cond := .code y_Model_rank prog_10_method_13_code 1 (some .int)
theorem d_Model_rank_0 : decode prog_10_method_13_code 0 = .ok (.iload_n 0, 1) := by decide +kernel
theorem d_Model_rank_1 : decode prog_10_method_13_code 1 = .ok (.bipush 42, 2) := by decide +kernel
theorem d_Model_rank_3 : decode prog_10_method_13_code 3 = .ok (.if_icmp .eq 9, 3) := by decide +kernel
theorem d_Model_rank_6 : decode prog_10_method_13_code 6 = .ok (.iload_n 0, 1) := by decide +kernel
theorem d_Model_rank_7 : decode prog_10_method_13_code 7 = .ok (.bipush 47, 2) := by decide +kernel
theorem d_Model_rank_9 : decode prog_10_method_13_code 9 = .ok (.if_icmp .ne 7, 3) := by decide +kernel
theorem d_Model_rank_12 : decode prog_10_method_13_code 12 = .ok (.iconst 3, 1) := by decide +kernel
theorem d_Model_rank_13 : decode prog_10_method_13_code 13 = .ok (.goto 30, 3) := by decide +kernel
theorem d_Model_rank_16 : decode prog_10_method_13_code 16 = .ok (.iload_n 0, 1) := by decide +kernel
theorem d_Model_rank_17 : decode prog_10_method_13_code 17 = .ok (.bipush 78, 2) := by decide +kernel
theorem d_Model_rank_19 : decode prog_10_method_13_code 19 = .ok (.if_icmp .ne 7, 3) := by decide +kernel
theorem d_Model_rank_22 : decode prog_10_method_13_code 22 = .ok (.iconst 2, 1) := by decide +kernel
theorem d_Model_rank_23 : decode prog_10_method_13_code 23 = .ok (.goto 20, 3) := by decide +kernel
theorem d_Model_rank_26 : decode prog_10_method_13_code 26 = .ok (.iload_n 0, 1) := by decide +kernel
theorem d_Model_rank_27 : decode prog_10_method_13_code 27 = .ok (.bipush 43, 2) := by decide +kernel
theorem d_Model_rank_29 : decode prog_10_method_13_code 29 = .ok (.if_icmp .eq 9, 3) := by decide +kernel
theorem d_Model_rank_32 : decode prog_10_method_13_code 32 = .ok (.iload_n 0, 1) := by decide +kernel
theorem d_Model_rank_33 : decode prog_10_method_13_code 33 = .ok (.bipush 45, 2) := by decide +kernel
theorem d_Model_rank_35 : decode prog_10_method_13_code 35 = .ok (.if_icmp .ne 7, 3) := by decide +kernel
theorem d_Model_rank_38 : decode prog_10_method_13_code 38 = .ok (.iconst 1, 1) := by decide +kernel
theorem d_Model_rank_39 : decode prog_10_method_13_code 39 = .ok (.goto 4, 3) := by decide +kernel
theorem d_Model_rank_42 : decode prog_10_method_13_code 42 = .ok (.iconst 0, 1) := by decide +kernel
theorem d_Model_rank_43 : decode prog_10_method_13_code 43 = .ok (.ireturn, 1) := by decide +kernel
abbrev y_Model_reduce : MethodName := ⟨"PermitRulesModel", "reduce", "(I)V"⟩
abbrev cw_Model_reduce : Cond := .code y_Model_reduce prog_10_method_14_code 2 none
theorem d_Model_reduce_0 : decode prog_10_method_14_code 0 = .ok (.aload_n 0, 1) := by decide +kernel
theorem d_Model_reduce_1 : decode prog_10_method_14_code 1 = .ok (.getfield 124, 3) := by decide +kernel
theorem d_Model_reduce_4 : decode prog_10_method_14_code 4 = .ok (.ifCond .le 48, 3) := by decide +kernel
theorem d_Model_reduce_7 : decode prog_10_method_14_code 7 = .ok (.aload_n 0, 1) := by decide +kernel
theorem d_Model_reduce_8 : decode prog_10_method_14_code 8 = .ok (.getfield 41, 3) := by decide +kernel
theorem d_Model_reduce_11 : decode prog_10_method_14_code 11 = .ok (.aload_n 0, 1) := by decide +kernel
theorem d_Model_reduce_12 : decode prog_10_method_14_code 12 = .ok (.getfield 124, 3) := by decide +kernel
theorem d_Model_reduce_15 : decode prog_10_method_14_code 15 = .ok (.iconst 1, 1) := by decide +kernel
theorem d_Model_reduce_16 : decode prog_10_method_14_code 16 = .ok (.isub, 1) := by decide +kernel
theorem d_Model_reduce_17 : decode prog_10_method_14_code 17 = .ok (.iaload, 1) := by decide +kernel
theorem d_Model_reduce_18 : decode prog_10_method_14_code 18 = .ok (.invokestatic 127, 3) := by decide +kernel
theorem d_Model_reduce_21 : decode prog_10_method_14_code 21 = .ok (.iload_n 1, 1) := by decide +kernel
theorem d_Model_reduce_22 : decode prog_10_method_14_code 22 = .ok (.if_icmp .lt 30, 3) := by decide +kernel
theorem d_Model_reduce_25 : decode prog_10_method_14_code 25 = .ok (.aload_n 0, 1) := by decide +kernel
theorem d_Model_reduce_26 : decode prog_10_method_14_code 26 = .ok (.dup, 1) := by decide +kernel
theorem d_Model_reduce_27 : decode prog_10_method_14_code 27 = .ok (.getfield 124, 3) := by decide +kernel
theorem d_Model_reduce_30 : decode prog_10_method_14_code 30 = .ok (.iconst 1, 1) := by decide +kernel
theorem d_Model_reduce_31 : decode prog_10_method_14_code 31 = .ok (.isub, 1) := by decide +kernel
theorem d_Model_reduce_32 : decode prog_10_method_14_code 32 = .ok (.putfield 124, 3) := by decide +kernel
theorem d_Model_reduce_35 : decode prog_10_method_14_code 35 = .ok (.aload_n 0, 1) := by decide +kernel
theorem d_Model_reduce_36 : decode prog_10_method_14_code 36 = .ok (.aload_n 0, 1) := by decide +kernel
theorem d_Model_reduce_37 : decode prog_10_method_14_code 37 = .ok (.getfield 41, 3) := by decide +kernel
theorem d_Model_reduce_40 : decode prog_10_method_14_code 40 = .ok (.aload_n 0, 1) := by decide +kernel
theorem d_Model_reduce_41 : decode prog_10_method_14_code 41 = .ok (.getfield 124, 3) := by decide +kernel
theorem d_Model_reduce_44 : decode prog_10_method_14_code 44 = .ok (.iaload, 1) := by decide +kernel
theorem d_Model_reduce_45 : decode prog_10_method_14_code 45 = .ok (.lconst 0, 1) := by decide +kernel
theorem d_Model_reduce_46 : decode prog_10_method_14_code 46 = .ok (.invokevirtual 130, 3) := by decide +kernel
theorem d_Model_reduce_49 : decode prog_10_method_14_code 49 = .ok (.goto (-49), 3) := by decide +kernel
theorem d_Model_reduce_52 : decode prog_10_method_14_code 52 = .ok (.return_, 1) := by decide +kernel
abbrev y_Model_push : MethodName := ⟨"PermitRulesModel", "push", "(I)V"⟩
abbrev cw_Model_push : Cond := .code y_Model_push prog_10_method_15_code 2 none
theorem d_Model_push_0 : decode prog_10_method_15_code 0 = .ok (.aload_n 0, 1) := by decide +kernel
theorem d_Model_push_1 : decode prog_10_method_15_code 1 = .ok (.getfield 41, 3) := by decide +kernel
theorem d_Model_push_4 : decode prog_10_method_15_code 4 = .ok (.aload_n 0, 1) := by decide +kernel
theorem d_Model_push_5 : decode prog_10_method_15_code 5 = .ok (.getfield 124, 3) := by decide +kernel
theorem d_Model_push_8 : decode prog_10_method_15_code 8 = .ok (.iload_n 1, 1) := by decide +kernel
theorem d_Model_push_9 : decode prog_10_method_15_code 9 = .ok (.iastore, 1) := by decide +kernel
theorem d_Model_push_10 : decode prog_10_method_15_code 10 = .ok (.aload_n 0, 1) := by decide +kernel
theorem d_Model_push_11 : decode prog_10_method_15_code 11 = .ok (.dup, 1) := by decide +kernel
theorem d_Model_push_12 : decode prog_10_method_15_code 12 = .ok (.getfield 124, 3) := by decide +kernel
theorem d_Model_push_15 : decode prog_10_method_15_code 15 = .ok (.iconst 1, 1) := by decide +kernel
theorem d_Model_push_16 : decode prog_10_method_15_code 16 = .ok (.iadd, 1) := by decide +kernel
theorem d_Model_push_17 : decode prog_10_method_15_code 17 = .ok (.putfield 124, 3) := by decide +kernel
theorem d_Model_push_20 : decode prog_10_method_15_code 20 = .ok (.return_, 1) := by decide +kernel
abbrev y_Model_isTaken : MethodName := ⟨"PermitRulesModel", "isTaken", "(J)Z"⟩
abbrev cw_Model_isTaken : Cond := .code y_Model_isTaken prog_10_method_16_code 5 (some .boolean)
theorem d_Model_isTaken_0 : decode prog_10_method_16_code 0 = .ok (.iconst 0, 1) := by decide +kernel
theorem d_Model_isTaken_1 : decode prog_10_method_16_code 1 = .ok (.istore_n 3, 1) := by decide +kernel
theorem d_Model_isTaken_2 : decode prog_10_method_16_code 2 = .ok (.iconst 0, 1) := by decide +kernel
theorem d_Model_isTaken_3 : decode prog_10_method_16_code 3 = .ok (.istore 4, 2) := by decide +kernel
theorem d_Model_isTaken_5 : decode prog_10_method_16_code 5 = .ok (.iload 4, 2) := by decide +kernel
theorem d_Model_isTaken_7 : decode prog_10_method_16_code 7 = .ok (.aload_n 0, 1) := by decide +kernel
theorem d_Model_isTaken_8 : decode prog_10_method_16_code 8 = .ok (.getfield 134, 3) := by decide +kernel
theorem d_Model_isTaken_11 : decode prog_10_method_16_code 11 = .ok (.if_icmp .ge 31, 3) := by decide +kernel
theorem d_Model_isTaken_14 : decode prog_10_method_16_code 14 = .ok (.iload_n 3, 1) := by decide +kernel
theorem d_Model_isTaken_15 : decode prog_10_method_16_code 15 = .ok (.ifCond .ne 15, 3) := by decide +kernel
theorem d_Model_isTaken_18 : decode prog_10_method_16_code 18 = .ok (.aload_n 0, 1) := by decide +kernel
theorem d_Model_isTaken_19 : decode prog_10_method_16_code 19 = .ok (.getfield 13, 3) := by decide +kernel
theorem d_Model_isTaken_22 : decode prog_10_method_16_code 22 = .ok (.iload 4, 2) := by decide +kernel
theorem d_Model_isTaken_24 : decode prog_10_method_16_code 24 = .ok (.laload, 1) := by decide +kernel
theorem d_Model_isTaken_25 : decode prog_10_method_16_code 25 = .ok (.lload_n 1, 1) := by decide +kernel
theorem d_Model_isTaken_26 : decode prog_10_method_16_code 26 = .ok (.lcmp, 1) := by decide +kernel
theorem d_Model_isTaken_27 : decode prog_10_method_16_code 27 = .ok (.ifCond .ne 7, 3) := by decide +kernel
theorem d_Model_isTaken_30 : decode prog_10_method_16_code 30 = .ok (.iconst 1, 1) := by decide +kernel
theorem d_Model_isTaken_31 : decode prog_10_method_16_code 31 = .ok (.goto 4, 3) := by decide +kernel
theorem d_Model_isTaken_34 : decode prog_10_method_16_code 34 = .ok (.iconst 0, 1) := by decide +kernel
theorem d_Model_isTaken_35 : decode prog_10_method_16_code 35 = .ok (.istore_n 3, 1) := by decide +kernel
theorem d_Model_isTaken_36 : decode prog_10_method_16_code 36 = .ok (.iinc 4 1, 3) := by decide +kernel
theorem d_Model_isTaken_39 : decode prog_10_method_16_code 39 = .ok (.goto (-34), 3) := by decide +kernel
theorem d_Model_isTaken_42 : decode prog_10_method_16_code 42 = .ok (.iload_n 3, 1) := by decide +kernel
theorem d_Model_isTaken_43 : decode prog_10_method_16_code 43 = .ok (.ireturn, 1) := by decide +kernel
abbrev y_Model_read : MethodName := ⟨"PermitRulesModel", "read", "()I"⟩
abbrev cw_Model_read : Cond := .code y_Model_read prog_10_method_17_code 8 (some .int)
theorem d_Model_read_0 : decode prog_10_method_17_code 0 = .ok (.aload_n 0, 1) := by decide +kernel
theorem d_Model_read_1 : decode prog_10_method_17_code 1 = .ok (.iconst 0, 1) := by decide +kernel
theorem d_Model_read_2 : decode prog_10_method_17_code 2 = .ok (.putfield 62, 3) := by decide +kernel
theorem d_Model_read_5 : decode prog_10_method_17_code 5 = .ok (.aload_n 0, 1) := by decide +kernel
theorem d_Model_read_6 : decode prog_10_method_17_code 6 = .ok (.iconst 0, 1) := by decide +kernel
theorem d_Model_read_7 : decode prog_10_method_17_code 7 = .ok (.putfield 91, 3) := by decide +kernel
theorem d_Model_read_10 : decode prog_10_method_17_code 10 = .ok (.aload_n 0, 1) := by decide +kernel
theorem d_Model_read_11 : decode prog_10_method_17_code 11 = .ok (.iconst 0, 1) := by decide +kernel
theorem d_Model_read_12 : decode prog_10_method_17_code 12 = .ok (.putfield 100, 3) := by decide +kernel
theorem d_Model_read_15 : decode prog_10_method_17_code 15 = .ok (.aload_n 0, 1) := by decide +kernel
theorem d_Model_read_16 : decode prog_10_method_17_code 16 = .ok (.iconst 0, 1) := by decide +kernel
theorem d_Model_read_17 : decode prog_10_method_17_code 17 = .ok (.putfield 134, 3) := by decide +kernel
theorem d_Model_read_20 : decode prog_10_method_17_code 20 = .ok (.aload_n 0, 1) := by decide +kernel
theorem d_Model_read_21 : decode prog_10_method_17_code 21 = .ok (.iconst 0, 1) := by decide +kernel
theorem d_Model_read_22 : decode prog_10_method_17_code 22 = .ok (.putfield 137, 3) := by decide +kernel
theorem d_Model_read_25 : decode prog_10_method_17_code 25 = .ok (.aload_n 0, 1) := by decide +kernel
theorem d_Model_read_26 : decode prog_10_method_17_code 26 = .ok (.iconst 0, 1) := by decide +kernel
theorem d_Model_read_27 : decode prog_10_method_17_code 27 = .ok (.putfield 121, 3) := by decide +kernel
theorem d_Model_read_30 : decode prog_10_method_17_code 30 = .ok (.aload_n 0, 1) := by decide +kernel
theorem d_Model_read_31 : decode prog_10_method_17_code 31 = .ok (.iconst 0, 1) := by decide +kernel
theorem d_Model_read_32 : decode prog_10_method_17_code 32 = .ok (.putfield 124, 3) := by decide +kernel
theorem d_Model_read_35 : decode prog_10_method_17_code 35 = .ok (.iconst 0, 1) := by decide +kernel
theorem d_Model_read_36 : decode prog_10_method_17_code 36 = .ok (.istore_n 1, 1) := by decide +kernel
theorem d_Model_read_37 : decode prog_10_method_17_code 37 = .ok (.iconst 0, 1) := by decide +kernel
theorem d_Model_read_38 : decode prog_10_method_17_code 38 = .ok (.istore_n 2, 1) := by decide +kernel
theorem d_Model_read_39 : decode prog_10_method_17_code 39 = .ok (.iconst 0, 1) := by decide +kernel
theorem d_Model_read_40 : decode prog_10_method_17_code 40 = .ok (.istore_n 3, 1) := by decide +kernel
theorem d_Model_read_41 : decode prog_10_method_17_code 41 = .ok (.iconst 0, 1) := by decide +kernel
theorem d_Model_read_42 : decode prog_10_method_17_code 42 = .ok (.istore 4, 2) := by decide +kernel
theorem d_Model_read_44 : decode prog_10_method_17_code 44 = .ok (.iconst 1, 1) := by decide +kernel
theorem d_Model_read_45 : decode prog_10_method_17_code 45 = .ok (.istore 5, 2) := by decide +kernel
theorem d_Model_read_47 : decode prog_10_method_17_code 47 = .ok (.iconst 1, 1) := by decide +kernel
theorem d_Model_read_48 : decode prog_10_method_17_code 48 = .ok (.istore 6, 2) := by decide +kernel
theorem d_Model_read_50 : decode prog_10_method_17_code 50 = .ok (.iload 6, 2) := by decide +kernel
theorem d_Model_read_52 : decode prog_10_method_17_code 52 = .ok (.ifCond .eq 712, 3) := by decide +kernel
theorem d_Model_read_55 : decode prog_10_method_17_code 55 = .ok (.aload_n 0, 1) := by decide +kernel
theorem d_Model_read_56 : decode prog_10_method_17_code 56 = .ok (.invokevirtual 140, 3) := by decide +kernel
theorem d_Model_read_59 : decode prog_10_method_17_code 59 = .ok (.iload_n 1, 1) := by decide +kernel
theorem d_Model_read_60 : decode prog_10_method_17_code 60 = .ok (.ifCond .ne 137, 3) := by decide +kernel
theorem d_Model_read_63 : decode prog_10_method_17_code 63 = .ok (.aload_n 0, 1) := by decide +kernel
theorem d_Model_read_64 : decode prog_10_method_17_code 64 = .ok (.getfield 97, 3) := by decide +kernel
theorem d_Model_read_67 : decode prog_10_method_17_code 67 = .ok (.ifCond .ne 14, 3) := by decide +kernel
theorem d_Model_read_70 : decode prog_10_method_17_code 70 = .ok (.aload_n 0, 1) := by decide +kernel
theorem d_Model_read_71 : decode prog_10_method_17_code 71 = .ok (.getfield 134, 3) := by decide +kernel
theorem d_Model_read_74 : decode prog_10_method_17_code 74 = .ok (.ifCond .le 7, 3) := by decide +kernel
theorem d_Model_read_77 : decode prog_10_method_17_code 77 = .ok (.iconst 1, 1) := by decide +kernel
theorem d_Model_read_78 : decode prog_10_method_17_code 78 = .ok (.goto 4, 3) := by decide +kernel
theorem d_Model_read_81 : decode prog_10_method_17_code 81 = .ok (.iconst 0, 1) := by decide +kernel
theorem d_Model_read_82 : decode prog_10_method_17_code 82 = .ok (.istore 7, 2) := by decide +kernel
theorem d_Model_read_84 : decode prog_10_method_17_code 84 = .ok (.iload 7, 2) := by decide +kernel
theorem d_Model_read_86 : decode prog_10_method_17_code 86 = .ok (.ifCond .ne 31, 3) := by decide +kernel
theorem d_Model_read_89 : decode prog_10_method_17_code 89 = .ok (.aload_n 0, 1) := by decide +kernel
theorem d_Model_read_90 : decode prog_10_method_17_code 90 = .ok (.getfield 97, 3) := by decide +kernel
theorem d_Model_read_93 : decode prog_10_method_17_code 93 = .ok (.iconst 2, 1) := by decide +kernel
theorem d_Model_read_94 : decode prog_10_method_17_code 94 = .ok (.if_icmp .ne 27, 3) := by decide +kernel
theorem d_Model_read_97 : decode prog_10_method_17_code 97 = .ok (.aload_n 0, 1) := by decide +kernel
theorem d_Model_read_98 : decode prog_10_method_17_code 98 = .ok (.aload_n 0, 1) := by decide +kernel
theorem d_Model_read_99 : decode prog_10_method_17_code 99 = .ok (.getfield 103, 3) := by decide +kernel
theorem d_Model_read_102 : decode prog_10_method_17_code 102 = .ok (.invokevirtual 143, 3) := by decide +kernel
theorem d_Model_read_105 : decode prog_10_method_17_code 105 = .ok (.ifCond .ne 16, 3) := by decide +kernel
theorem d_Model_read_108 : decode prog_10_method_17_code 108 = .ok (.aload_n 0, 1) := by decide +kernel
theorem d_Model_read_109 : decode prog_10_method_17_code 109 = .ok (.getfield 134, 3) := by decide +kernel
theorem d_Model_read_112 : decode prog_10_method_17_code 112 = .ok (.bipush 12, 2) := by decide +kernel
theorem d_Model_read_114 : decode prog_10_method_17_code 114 = .ok (.if_icmp .ge 7, 3) := by decide +kernel
theorem d_Model_read_117 : decode prog_10_method_17_code 117 = .ok (.iconst 1, 1) := by decide +kernel
theorem d_Model_read_118 : decode prog_10_method_17_code 118 = .ok (.goto 4, 3) := by decide +kernel
theorem d_Model_read_121 : decode prog_10_method_17_code 121 = .ok (.iconst 0, 1) := by decide +kernel
theorem d_Model_read_122 : decode prog_10_method_17_code 122 = .ok (.istore 5, 2) := by decide +kernel
theorem d_Model_read_124 : decode prog_10_method_17_code 124 = .ok (.iload 5, 2) := by decide +kernel
theorem d_Model_read_126 : decode prog_10_method_17_code 126 = .ok (.ifCond .eq 12, 3) := by decide +kernel
theorem d_Model_read_129 : decode prog_10_method_17_code 129 = .ok (.iload 7, 2) := by decide +kernel
theorem d_Model_read_131 : decode prog_10_method_17_code 131 = .ok (.ifCond .ne 7, 3) := by decide +kernel
theorem d_Model_read_134 : decode prog_10_method_17_code 134 = .ok (.iconst 1, 1) := by decide +kernel
theorem d_Model_read_135 : decode prog_10_method_17_code 135 = .ok (.goto 4, 3) := by decide +kernel
theorem d_Model_read_138 : decode prog_10_method_17_code 138 = .ok (.iconst 0, 1) := by decide +kernel
theorem d_Model_read_139 : decode prog_10_method_17_code 139 = .ok (.istore 6, 2) := by decide +kernel
theorem d_Model_read_141 : decode prog_10_method_17_code 141 = .ok (.iload 6, 2) := by decide +kernel
theorem d_Model_read_143 : decode prog_10_method_17_code 143 = .ok (.ifCond .eq 49, 3) := by decide +kernel
theorem d_Model_read_146 : decode prog_10_method_17_code 146 = .ok (.aload_n 0, 1) := by decide +kernel
theorem d_Model_read_147 : decode prog_10_method_17_code 147 = .ok (.getfield 13, 3) := by decide +kernel
theorem d_Model_read_150 : decode prog_10_method_17_code 150 = .ok (.aload_n 0, 1) := by decide +kernel
theorem d_Model_read_151 : decode prog_10_method_17_code 151 = .ok (.getfield 134, 3) := by decide +kernel
theorem d_Model_read_154 : decode prog_10_method_17_code 154 = .ok (.aload_n 0, 1) := by decide +kernel
theorem d_Model_read_155 : decode prog_10_method_17_code 155 = .ok (.getfield 103, 3) := by decide +kernel
theorem d_Model_read_158 : decode prog_10_method_17_code 158 = .ok (.lastore, 1) := by decide +kernel
theorem d_Model_read_159 : decode prog_10_method_17_code 159 = .ok (.aload_n 0, 1) := by decide +kernel
theorem d_Model_read_160 : decode prog_10_method_17_code 160 = .ok (.getfield 17, 3) := by decide +kernel
theorem d_Model_read_163 : decode prog_10_method_17_code 163 = .ok (.aload_n 0, 1) := by decide +kernel
theorem d_Model_read_164 : decode prog_10_method_17_code 164 = .ok (.getfield 134, 3) := by decide +kernel
theorem d_Model_read_167 : decode prog_10_method_17_code 167 = .ok (.lconst 0, 1) := by decide +kernel
theorem d_Model_read_168 : decode prog_10_method_17_code 168 = .ok (.lastore, 1) := by decide +kernel
theorem d_Model_read_169 : decode prog_10_method_17_code 169 = .ok (.aload_n 0, 1) := by decide +kernel
theorem d_Model_read_170 : decode prog_10_method_17_code 170 = .ok (.getfield 20, 3) := by decide +kernel
theorem d_Model_read_173 : decode prog_10_method_17_code 173 = .ok (.aload_n 0, 1) := by decide +kernel
theorem d_Model_read_174 : decode prog_10_method_17_code 174 = .ok (.getfield 134, 3) := by decide +kernel
theorem d_Model_read_177 : decode prog_10_method_17_code 177 = .ok (.aload_n 0, 1) := by decide +kernel
theorem d_Model_read_178 : decode prog_10_method_17_code 178 = .ok (.getfield 137, 3) := by decide +kernel
theorem d_Model_read_181 : decode prog_10_method_17_code 181 = .ok (.iastore, 1) := by decide +kernel
theorem d_Model_read_182 : decode prog_10_method_17_code 182 = .ok (.aload_n 0, 1) := by decide +kernel
theorem d_Model_read_183 : decode prog_10_method_17_code 183 = .ok (.dup, 1) := by decide +kernel
theorem d_Model_read_184 : decode prog_10_method_17_code 184 = .ok (.getfield 134, 3) := by decide +kernel
theorem d_Model_read_187 : decode prog_10_method_17_code 187 = .ok (.iconst 1, 1) := by decide +kernel
theorem d_Model_read_188 : decode prog_10_method_17_code 188 = .ok (.iadd, 1) := by decide +kernel
theorem d_Model_read_189 : decode prog_10_method_17_code 189 = .ok (.putfield 134, 3) := by decide +kernel
theorem d_Model_read_192 : decode prog_10_method_17_code 192 = .ok (.iconst 1, 1) := by decide +kernel
theorem d_Model_read_193 : decode prog_10_method_17_code 193 = .ok (.istore_n 1, 1) := by decide +kernel
theorem d_Model_read_194 : decode prog_10_method_17_code 194 = .ok (.goto 550, 3) := by decide +kernel
theorem d_Model_read_197 : decode prog_10_method_17_code 197 = .ok (.iload_n 1, 1) := by decide +kernel
theorem d_Model_read_198 : decode prog_10_method_17_code 198 = .ok (.iconst 1, 1) := by decide +kernel
theorem d_Model_read_199 : decode prog_10_method_17_code 199 = .ok (.if_icmp .ne 42, 3) := by decide +kernel
theorem d_Model_read_202 : decode prog_10_method_17_code 202 = .ok (.aload_n 0, 1) := by decide +kernel
theorem d_Model_read_203 : decode prog_10_method_17_code 203 = .ok (.getfield 97, 3) := by decide +kernel
theorem d_Model_read_206 : decode prog_10_method_17_code 206 = .ok (.bipush 58, 2) := by decide +kernel
theorem d_Model_read_208 : decode prog_10_method_17_code 208 = .ok (.if_icmp .ne 7, 3) := by decide +kernel
theorem d_Model_read_211 : decode prog_10_method_17_code 211 = .ok (.iconst 1, 1) := by decide +kernel
theorem d_Model_read_212 : decode prog_10_method_17_code 212 = .ok (.goto 4, 3) := by decide +kernel
theorem d_Model_read_215 : decode prog_10_method_17_code 215 = .ok (.iconst 0, 1) := by decide +kernel
theorem d_Model_read_216 : decode prog_10_method_17_code 216 = .ok (.istore 5, 2) := by decide +kernel
theorem d_Model_read_218 : decode prog_10_method_17_code 218 = .ok (.iconst 2, 1) := by decide +kernel
theorem d_Model_read_219 : decode prog_10_method_17_code 219 = .ok (.istore_n 1, 1) := by decide +kernel
theorem d_Model_read_220 : decode prog_10_method_17_code 220 = .ok (.iconst 1, 1) := by decide +kernel
theorem d_Model_read_221 : decode prog_10_method_17_code 221 = .ok (.istore_n 3, 1) := by decide +kernel
theorem d_Model_read_222 : decode prog_10_method_17_code 222 = .ok (.iconst 0, 1) := by decide +kernel
theorem d_Model_read_223 : decode prog_10_method_17_code 223 = .ok (.istore 4, 2) := by decide +kernel
theorem d_Model_read_225 : decode prog_10_method_17_code 225 = .ok (.aload_n 0, 1) := by decide +kernel
theorem d_Model_read_226 : decode prog_10_method_17_code 226 = .ok (.getfield 26, 3) := by decide +kernel
theorem d_Model_read_229 : decode prog_10_method_17_code 229 = .ok (.aload_n 0, 1) := by decide +kernel
theorem d_Model_read_230 : decode prog_10_method_17_code 230 = .ok (.getfield 137, 3) := by decide +kernel
theorem d_Model_read_233 : decode prog_10_method_17_code 233 = .ok (.aload_n 0, 1) := by decide +kernel
theorem d_Model_read_234 : decode prog_10_method_17_code 234 = .ok (.getfield 121, 3) := by decide +kernel
theorem d_Model_read_237 : decode prog_10_method_17_code 237 = .ok (.iastore, 1) := by decide +kernel
theorem d_Model_read_238 : decode prog_10_method_17_code 238 = .ok (.goto 506, 3) := by decide +kernel
theorem d_Model_read_241 : decode prog_10_method_17_code 241 = .ok (.iload_n 1, 1) := by decide +kernel
theorem d_Model_read_242 : decode prog_10_method_17_code 242 = .ok (.iconst 2, 1) := by decide +kernel
theorem d_Model_read_243 : decode prog_10_method_17_code 243 = .ok (.if_icmp .ne 95, 3) := by decide +kernel
theorem d_Model_read_246 : decode prog_10_method_17_code 246 = .ok (.aload_n 0, 1) := by decide +kernel
theorem d_Model_read_247 : decode prog_10_method_17_code 247 = .ok (.getfield 97, 3) := by decide +kernel
theorem d_Model_read_250 : decode prog_10_method_17_code 250 = .ok (.bipush 45, 2) := by decide +kernel
theorem d_Model_read_252 : decode prog_10_method_17_code 252 = .ok (.if_icmp .ne 18, 3) := by decide +kernel
theorem d_Model_read_255 : decode prog_10_method_17_code 255 = .ok (.iload_n 3, 1) := by decide +kernel
theorem d_Model_read_256 : decode prog_10_method_17_code 256 = .ok (.ifCond .eq 14, 3) := by decide +kernel
theorem d_Model_read_259 : decode prog_10_method_17_code 259 = .ok (.aload_n 0, 1) := by decide +kernel
theorem d_Model_read_260 : decode prog_10_method_17_code 260 = .ok (.bipush 78, 2) := by decide +kernel
theorem d_Model_read_262 : decode prog_10_method_17_code 262 = .ok (.invokevirtual 147, 3) := by decide +kernel
theorem d_Model_read_265 : decode prog_10_method_17_code 265 = .ok (.iconst 0, 1) := by decide +kernel
theorem d_Model_read_266 : decode prog_10_method_17_code 266 = .ok (.istore_n 3, 1) := by decide +kernel
theorem d_Model_read_267 : decode prog_10_method_17_code 267 = .ok (.goto 477, 3) := by decide +kernel
theorem d_Model_read_270 : decode prog_10_method_17_code 270 = .ok (.aload_n 0, 1) := by decide +kernel
theorem d_Model_read_271 : decode prog_10_method_17_code 271 = .ok (.getfield 97, 3) := by decide +kernel
theorem d_Model_read_274 : decode prog_10_method_17_code 274 = .ok (.iconst 1, 1) := by decide +kernel
theorem d_Model_read_275 : decode prog_10_method_17_code 275 = .ok (.if_icmp .eq 11, 3) := by decide +kernel
theorem d_Model_read_278 : decode prog_10_method_17_code 278 = .ok (.aload_n 0, 1) := by decide +kernel
theorem d_Model_read_279 : decode prog_10_method_17_code 279 = .ok (.getfield 97, 3) := by decide +kernel
theorem d_Model_read_282 : decode prog_10_method_17_code 282 = .ok (.iconst 2, 1) := by decide +kernel
theorem d_Model_read_283 : decode prog_10_method_17_code 283 = .ok (.if_icmp .ne 20, 3) := by decide +kernel
theorem d_Model_read_286 : decode prog_10_method_17_code 286 = .ok (.aload_n 0, 1) := by decide +kernel
theorem d_Model_read_287 : decode prog_10_method_17_code 287 = .ok (.aload_n 0, 1) := by decide +kernel
theorem d_Model_read_288 : decode prog_10_method_17_code 288 = .ok (.getfield 97, 3) := by decide +kernel
theorem d_Model_read_291 : decode prog_10_method_17_code 291 = .ok (.aload_n 0, 1) := by decide +kernel
theorem d_Model_read_292 : decode prog_10_method_17_code 292 = .ok (.getfield 103, 3) := by decide +kernel
theorem d_Model_read_295 : decode prog_10_method_17_code 295 = .ok (.invokevirtual 130, 3) := by decide +kernel
theorem d_Model_read_298 : decode prog_10_method_17_code 298 = .ok (.iconst 3, 1) := by decide +kernel
theorem d_Model_read_299 : decode prog_10_method_17_code 299 = .ok (.istore_n 1, 1) := by decide +kernel
theorem d_Model_read_300 : decode prog_10_method_17_code 300 = .ok (.goto 444, 3) := by decide +kernel
theorem d_Model_read_303 : decode prog_10_method_17_code 303 = .ok (.aload_n 0, 1) := by decide +kernel
theorem d_Model_read_304 : decode prog_10_method_17_code 304 = .ok (.getfield 97, 3) := by decide +kernel
theorem d_Model_read_307 : decode prog_10_method_17_code 307 = .ok (.bipush 40, 2) := by decide +kernel
theorem d_Model_read_309 : decode prog_10_method_17_code 309 = .ok (.if_icmp .ne 23, 3) := by decide +kernel
theorem d_Model_read_312 : decode prog_10_method_17_code 312 = .ok (.iload_n 2, 1) := by decide +kernel
theorem d_Model_read_313 : decode prog_10_method_17_code 313 = .ok (.bipush 8, 2) := by decide +kernel
theorem d_Model_read_315 : decode prog_10_method_17_code 315 = .ok (.if_icmp .ge 17, 3) := by decide +kernel
theorem d_Model_read_318 : decode prog_10_method_17_code 318 = .ok (.aload_n 0, 1) := by decide +kernel
theorem d_Model_read_319 : decode prog_10_method_17_code 319 = .ok (.bipush 40, 2) := by decide +kernel
theorem d_Model_read_321 : decode prog_10_method_17_code 321 = .ok (.invokevirtual 147, 3) := by decide +kernel
theorem d_Model_read_324 : decode prog_10_method_17_code 324 = .ok (.iinc 2 1, 3) := by decide +kernel
theorem d_Model_read_327 : decode prog_10_method_17_code 327 = .ok (.iconst 1, 1) := by decide +kernel
theorem d_Model_read_328 : decode prog_10_method_17_code 328 = .ok (.istore_n 3, 1) := by decide +kernel
theorem d_Model_read_329 : decode prog_10_method_17_code 329 = .ok (.goto 415, 3) := by decide +kernel
theorem d_Model_read_332 : decode prog_10_method_17_code 332 = .ok (.iconst 0, 1) := by decide +kernel
theorem d_Model_read_333 : decode prog_10_method_17_code 333 = .ok (.istore 5, 2) := by decide +kernel
theorem d_Model_read_335 : decode prog_10_method_17_code 335 = .ok (.goto 409, 3) := by decide +kernel
theorem d_Model_read_338 : decode prog_10_method_17_code 338 = .ok (.iload_n 1, 1) := by decide +kernel
theorem d_Model_read_339 : decode prog_10_method_17_code 339 = .ok (.iconst 3, 1) := by decide +kernel
theorem d_Model_read_340 : decode prog_10_method_17_code 340 = .ok (.if_icmp .ne 325, 3) := by decide +kernel
theorem d_Model_read_343 : decode prog_10_method_17_code 343 = .ok (.iload_n 2, 1) := by decide +kernel
theorem d_Model_read_344 : decode prog_10_method_17_code 344 = .ok (.ifCond .ne 12, 3) := by decide +kernel
theorem d_Model_read_347 : decode prog_10_method_17_code 347 = .ok (.iload 4, 2) := by decide +kernel
theorem d_Model_read_349 : decode prog_10_method_17_code 349 = .ok (.ifCond .eq 7, 3) := by decide +kernel
theorem d_Model_read_352 : decode prog_10_method_17_code 352 = .ok (.iconst 1, 1) := by decide +kernel
theorem d_Model_read_353 : decode prog_10_method_17_code 353 = .ok (.goto 4, 3) := by decide +kernel
theorem d_Model_read_356 : decode prog_10_method_17_code 356 = .ok (.iconst 0, 1) := by decide +kernel
theorem d_Model_read_357 : decode prog_10_method_17_code 357 = .ok (.istore 7, 2) := by decide +kernel
theorem d_Model_read_359 : decode prog_10_method_17_code 359 = .ok (.aload_n 0, 1) := by decide +kernel
theorem d_Model_read_360 : decode prog_10_method_17_code 360 = .ok (.getfield 97, 3) := by decide +kernel
theorem d_Model_read_363 : decode prog_10_method_17_code 363 = .ok (.bipush 42, 2) := by decide +kernel
theorem d_Model_read_365 : decode prog_10_method_17_code 365 = .ok (.if_icmp .eq 12, 3) := by decide +kernel
theorem d_Model_read_368 : decode prog_10_method_17_code 368 = .ok (.aload_n 0, 1) := by decide +kernel
theorem d_Model_read_369 : decode prog_10_method_17_code 369 = .ok (.getfield 97, 3) := by decide +kernel
theorem d_Model_read_372 : decode prog_10_method_17_code 372 = .ok (.bipush 47, 2) := by decide +kernel
theorem d_Model_read_374 : decode prog_10_method_17_code 374 = .ok (.if_icmp .ne 23, 3) := by decide +kernel
theorem d_Model_read_377 : decode prog_10_method_17_code 377 = .ok (.aload_n 0, 1) := by decide +kernel
theorem d_Model_read_378 : decode prog_10_method_17_code 378 = .ok (.iconst 3, 1) := by decide +kernel
theorem d_Model_read_379 : decode prog_10_method_17_code 379 = .ok (.invokevirtual 151, 3) := by decide +kernel
theorem d_Model_read_382 : decode prog_10_method_17_code 382 = .ok (.aload_n 0, 1) := by decide +kernel
theorem d_Model_read_383 : decode prog_10_method_17_code 383 = .ok (.aload_n 0, 1) := by decide +kernel
theorem d_Model_read_384 : decode prog_10_method_17_code 384 = .ok (.getfield 97, 3) := by decide +kernel
theorem d_Model_read_387 : decode prog_10_method_17_code 387 = .ok (.invokevirtual 147, 3) := by decide +kernel
theorem d_Model_read_390 : decode prog_10_method_17_code 390 = .ok (.iconst 2, 1) := by decide +kernel
theorem d_Model_read_391 : decode prog_10_method_17_code 391 = .ok (.istore_n 1, 1) := by decide +kernel
theorem d_Model_read_392 : decode prog_10_method_17_code 392 = .ok (.iconst 0, 1) := by decide +kernel
theorem d_Model_read_393 : decode prog_10_method_17_code 393 = .ok (.istore_n 3, 1) := by decide +kernel
theorem d_Model_read_394 : decode prog_10_method_17_code 394 = .ok (.goto 268, 3) := by decide +kernel
theorem d_Model_read_397 : decode prog_10_method_17_code 397 = .ok (.aload_n 0, 1) := by decide +kernel
theorem d_Model_read_398 : decode prog_10_method_17_code 398 = .ok (.getfield 97, 3) := by decide +kernel
theorem d_Model_read_401 : decode prog_10_method_17_code 401 = .ok (.bipush 43, 2) := by decide +kernel
theorem d_Model_read_403 : decode prog_10_method_17_code 403 = .ok (.if_icmp .eq 12, 3) := by decide +kernel
theorem d_Model_read_406 : decode prog_10_method_17_code 406 = .ok (.aload_n 0, 1) := by decide +kernel
theorem d_Model_read_407 : decode prog_10_method_17_code 407 = .ok (.getfield 97, 3) := by decide +kernel
theorem d_Model_read_410 : decode prog_10_method_17_code 410 = .ok (.bipush 45, 2) := by decide +kernel
theorem d_Model_read_412 : decode prog_10_method_17_code 412 = .ok (.if_icmp .ne 23, 3) := by decide +kernel
theorem d_Model_read_415 : decode prog_10_method_17_code 415 = .ok (.aload_n 0, 1) := by decide +kernel
theorem d_Model_read_416 : decode prog_10_method_17_code 416 = .ok (.iconst 1, 1) := by decide +kernel
theorem d_Model_read_417 : decode prog_10_method_17_code 417 = .ok (.invokevirtual 151, 3) := by decide +kernel
theorem d_Model_read_420 : decode prog_10_method_17_code 420 = .ok (.aload_n 0, 1) := by decide +kernel
theorem d_Model_read_421 : decode prog_10_method_17_code 421 = .ok (.aload_n 0, 1) := by decide +kernel
theorem d_Model_read_422 : decode prog_10_method_17_code 422 = .ok (.getfield 97, 3) := by decide +kernel
theorem d_Model_read_425 : decode prog_10_method_17_code 425 = .ok (.invokevirtual 147, 3) := by decide +kernel
theorem d_Model_read_428 : decode prog_10_method_17_code 428 = .ok (.iconst 2, 1) := by decide +kernel
theorem d_Model_read_429 : decode prog_10_method_17_code 429 = .ok (.istore_n 1, 1) := by decide +kernel
theorem d_Model_read_430 : decode prog_10_method_17_code 430 = .ok (.iconst 0, 1) := by decide +kernel
theorem d_Model_read_431 : decode prog_10_method_17_code 431 = .ok (.istore_n 3, 1) := by decide +kernel
theorem d_Model_read_432 : decode prog_10_method_17_code 432 = .ok (.goto 230, 3) := by decide +kernel
theorem d_Model_read_435 : decode prog_10_method_17_code 435 = .ok (.aload_n 0, 1) := by decide +kernel
theorem d_Model_read_436 : decode prog_10_method_17_code 436 = .ok (.getfield 97, 3) := by decide +kernel
theorem d_Model_read_439 : decode prog_10_method_17_code 439 = .ok (.bipush 41, 2) := by decide +kernel
theorem d_Model_read_441 : decode prog_10_method_17_code 441 = .ok (.if_icmp .ne 28, 3) := by decide +kernel
theorem d_Model_read_444 : decode prog_10_method_17_code 444 = .ok (.iload_n 2, 1) := by decide +kernel
theorem d_Model_read_445 : decode prog_10_method_17_code 445 = .ok (.ifCond .le 24, 3) := by decide +kernel
theorem d_Model_read_448 : decode prog_10_method_17_code 448 = .ok (.aload_n 0, 1) := by decide +kernel
theorem d_Model_read_449 : decode prog_10_method_17_code 449 = .ok (.iconst 1, 1) := by decide +kernel
theorem d_Model_read_450 : decode prog_10_method_17_code 450 = .ok (.invokevirtual 151, 3) := by decide +kernel
theorem d_Model_read_453 : decode prog_10_method_17_code 453 = .ok (.aload_n 0, 1) := by decide +kernel
theorem d_Model_read_454 : decode prog_10_method_17_code 454 = .ok (.dup, 1) := by decide +kernel
theorem d_Model_read_455 : decode prog_10_method_17_code 455 = .ok (.getfield 124, 3) := by decide +kernel
theorem d_Model_read_458 : decode prog_10_method_17_code 458 = .ok (.iconst 1, 1) := by decide +kernel
theorem d_Model_read_459 : decode prog_10_method_17_code 459 = .ok (.isub, 1) := by decide +kernel
theorem d_Model_read_460 : decode prog_10_method_17_code 460 = .ok (.putfield 124, 3) := by decide +kernel
theorem d_Model_read_463 : decode prog_10_method_17_code 463 = .ok (.iinc 2 (-1), 3) := by decide +kernel
theorem d_Model_read_466 : decode prog_10_method_17_code 466 = .ok (.goto 196, 3) := by decide +kernel
theorem d_Model_read_469 : decode prog_10_method_17_code 469 = .ok (.aload_n 0, 1) := by decide +kernel
theorem d_Model_read_470 : decode prog_10_method_17_code 470 = .ok (.getfield 97, 3) := by decide +kernel
theorem d_Model_read_473 : decode prog_10_method_17_code 473 = .ok (.invokestatic 154, 3) := by decide +kernel
theorem d_Model_read_476 : decode prog_10_method_17_code 476 = .ok (.ifCond .eq 53, 3) := by decide +kernel
theorem d_Model_read_479 : decode prog_10_method_17_code 479 = .ok (.iload_n 2, 1) := by decide +kernel
theorem d_Model_read_480 : decode prog_10_method_17_code 480 = .ok (.ifCond .ne 49, 3) := by decide +kernel
theorem d_Model_read_483 : decode prog_10_method_17_code 483 = .ok (.iload 4, 2) := by decide +kernel
theorem d_Model_read_485 : decode prog_10_method_17_code 485 = .ok (.ifCond .ne 44, 3) := by decide +kernel
theorem d_Model_read_488 : decode prog_10_method_17_code 488 = .ok (.aload_n 0, 1) := by decide +kernel
theorem d_Model_read_489 : decode prog_10_method_17_code 489 = .ok (.iconst 1, 1) := by decide +kernel
theorem d_Model_read_490 : decode prog_10_method_17_code 490 = .ok (.invokevirtual 151, 3) := by decide +kernel
theorem d_Model_read_493 : decode prog_10_method_17_code 493 = .ok (.aload_n 0, 1) := by decide +kernel
theorem d_Model_read_494 : decode prog_10_method_17_code 494 = .ok (.getfield 23, 3) := by decide +kernel
theorem d_Model_read_497 : decode prog_10_method_17_code 497 = .ok (.aload_n 0, 1) := by decide +kernel
theorem d_Model_read_498 : decode prog_10_method_17_code 498 = .ok (.getfield 137, 3) := by decide +kernel
theorem d_Model_read_501 : decode prog_10_method_17_code 501 = .ok (.aload_n 0, 1) := by decide +kernel
theorem d_Model_read_502 : decode prog_10_method_17_code 502 = .ok (.getfield 97, 3) := by decide +kernel
theorem d_Model_read_505 : decode prog_10_method_17_code 505 = .ok (.iastore, 1) := by decide +kernel
theorem d_Model_read_506 : decode prog_10_method_17_code 506 = .ok (.aload_n 0, 1) := by decide +kernel
theorem d_Model_read_507 : decode prog_10_method_17_code 507 = .ok (.getfield 29, 3) := by decide +kernel
theorem d_Model_read_510 : decode prog_10_method_17_code 510 = .ok (.aload_n 0, 1) := by decide +kernel
theorem d_Model_read_511 : decode prog_10_method_17_code 511 = .ok (.getfield 137, 3) := by decide +kernel
theorem d_Model_read_514 : decode prog_10_method_17_code 514 = .ok (.aload_n 0, 1) := by decide +kernel
theorem d_Model_read_515 : decode prog_10_method_17_code 515 = .ok (.getfield 121, 3) := by decide +kernel
theorem d_Model_read_518 : decode prog_10_method_17_code 518 = .ok (.iastore, 1) := by decide +kernel
theorem d_Model_read_519 : decode prog_10_method_17_code 519 = .ok (.iconst 1, 1) := by decide +kernel
theorem d_Model_read_520 : decode prog_10_method_17_code 520 = .ok (.istore 4, 2) := by decide +kernel
theorem d_Model_read_522 : decode prog_10_method_17_code 522 = .ok (.iconst 2, 1) := by decide +kernel
theorem d_Model_read_523 : decode prog_10_method_17_code 523 = .ok (.istore_n 1, 1) := by decide +kernel
theorem d_Model_read_524 : decode prog_10_method_17_code 524 = .ok (.iconst 1, 1) := by decide +kernel
theorem d_Model_read_525 : decode prog_10_method_17_code 525 = .ok (.istore_n 3, 1) := by decide +kernel
theorem d_Model_read_526 : decode prog_10_method_17_code 526 = .ok (.goto 136, 3) := by decide +kernel
theorem d_Model_read_529 : decode prog_10_method_17_code 529 = .ok (.iload 7, 2) := by decide +kernel
theorem d_Model_read_531 : decode prog_10_method_17_code 531 = .ok (.ifCond .eq 128, 3) := by decide +kernel
theorem d_Model_read_534 : decode prog_10_method_17_code 534 = .ok (.aload_n 0, 1) := by decide +kernel
theorem d_Model_read_535 : decode prog_10_method_17_code 535 = .ok (.getfield 97, 3) := by decide +kernel
theorem d_Model_read_538 : decode prog_10_method_17_code 538 = .ok (.bipush 33, 2) := by decide +kernel
theorem d_Model_read_540 : decode prog_10_method_17_code 540 = .ok (.if_icmp .eq 28, 3) := by decide +kernel
theorem d_Model_read_543 : decode prog_10_method_17_code 543 = .ok (.aload_n 0, 1) := by decide +kernel
theorem d_Model_read_544 : decode prog_10_method_17_code 544 = .ok (.getfield 97, 3) := by decide +kernel
theorem d_Model_read_547 : decode prog_10_method_17_code 547 = .ok (.bipush 64, 2) := by decide +kernel
theorem d_Model_read_549 : decode prog_10_method_17_code 549 = .ok (.if_icmp .eq 19, 3) := by decide +kernel
theorem d_Model_read_552 : decode prog_10_method_17_code 552 = .ok (.aload_n 0, 1) := by decide +kernel
theorem d_Model_read_553 : decode prog_10_method_17_code 553 = .ok (.getfield 97, 3) := by decide +kernel
theorem d_Model_read_556 : decode prog_10_method_17_code 556 = .ok (.bipush 59, 2) := by decide +kernel
theorem d_Model_read_558 : decode prog_10_method_17_code 558 = .ok (.if_icmp .eq 10, 3) := by decide +kernel
theorem d_Model_read_561 : decode prog_10_method_17_code 561 = .ok (.aload_n 0, 1) := by decide +kernel
theorem d_Model_read_562 : decode prog_10_method_17_code 562 = .ok (.getfield 97, 3) := by decide +kernel
theorem d_Model_read_565 : decode prog_10_method_17_code 565 = .ok (.ifCond .ne 94, 3) := by decide +kernel
theorem d_Model_read_568 : decode prog_10_method_17_code 568 = .ok (.aload_n 0, 1) := by decide +kernel
theorem d_Model_read_569 : decode prog_10_method_17_code 569 = .ok (.iconst 1, 1) := by decide +kernel
theorem d_Model_read_570 : decode prog_10_method_17_code 570 = .ok (.invokevirtual 151, 3) := by decide +kernel
theorem d_Model_read_573 : decode prog_10_method_17_code 573 = .ok (.aload_n 0, 1) := by decide +kernel
theorem d_Model_read_574 : decode prog_10_method_17_code 574 = .ok (.getfield 32, 3) := by decide +kernel
theorem d_Model_read_577 : decode prog_10_method_17_code 577 = .ok (.aload_n 0, 1) := by decide +kernel
theorem d_Model_read_578 : decode prog_10_method_17_code 578 = .ok (.getfield 137, 3) := by decide +kernel
theorem d_Model_read_581 : decode prog_10_method_17_code 581 = .ok (.aload_n 0, 1) := by decide +kernel
theorem d_Model_read_582 : decode prog_10_method_17_code 582 = .ok (.getfield 121, 3) := by decide +kernel
theorem d_Model_read_585 : decode prog_10_method_17_code 585 = .ok (.iastore, 1) := by decide +kernel
theorem d_Model_read_586 : decode prog_10_method_17_code 586 = .ok (.aload_n 0, 1) := by decide +kernel
theorem d_Model_read_587 : decode prog_10_method_17_code 587 = .ok (.dup, 1) := by decide +kernel
theorem d_Model_read_588 : decode prog_10_method_17_code 588 = .ok (.getfield 137, 3) := by decide +kernel
theorem d_Model_read_591 : decode prog_10_method_17_code 591 = .ok (.iconst 1, 1) := by decide +kernel
theorem d_Model_read_592 : decode prog_10_method_17_code 592 = .ok (.iadd, 1) := by decide +kernel
theorem d_Model_read_593 : decode prog_10_method_17_code 593 = .ok (.putfield 137, 3) := by decide +kernel
theorem d_Model_read_596 : decode prog_10_method_17_code 596 = .ok (.aload_n 0, 1) := by decide +kernel
theorem d_Model_read_597 : decode prog_10_method_17_code 597 = .ok (.getfield 97, 3) := by decide +kernel
theorem d_Model_read_600 : decode prog_10_method_17_code 600 = .ok (.ifCond .eq 7, 3) := by decide +kernel
theorem d_Model_read_603 : decode prog_10_method_17_code 603 = .ok (.iconst 1, 1) := by decide +kernel
theorem d_Model_read_604 : decode prog_10_method_17_code 604 = .ok (.goto 4, 3) := by decide +kernel
theorem d_Model_read_607 : decode prog_10_method_17_code 607 = .ok (.iconst 0, 1) := by decide +kernel
theorem d_Model_read_608 : decode prog_10_method_17_code 608 = .ok (.istore 6, 2) := by decide +kernel
theorem d_Model_read_610 : decode prog_10_method_17_code 610 = .ok (.aload_n 0, 1) := by decide +kernel
theorem d_Model_read_611 : decode prog_10_method_17_code 611 = .ok (.getfield 97, 3) := by decide +kernel
theorem d_Model_read_614 : decode prog_10_method_17_code 614 = .ok (.bipush 33, 2) := by decide +kernel
theorem d_Model_read_616 : decode prog_10_method_17_code 616 = .ok (.if_icmp .ne 7, 3) := by decide +kernel
theorem d_Model_read_619 : decode prog_10_method_17_code 619 = .ok (.iconst 2, 1) := by decide +kernel
theorem d_Model_read_620 : decode prog_10_method_17_code 620 = .ok (.goto 17, 3) := by decide +kernel
theorem d_Model_read_623 : decode prog_10_method_17_code 623 = .ok (.aload_n 0, 1) := by decide +kernel
theorem d_Model_read_624 : decode prog_10_method_17_code 624 = .ok (.getfield 97, 3) := by decide +kernel
theorem d_Model_read_627 : decode prog_10_method_17_code 627 = .ok (.bipush 64, 2) := by decide +kernel
theorem d_Model_read_629 : decode prog_10_method_17_code 629 = .ok (.if_icmp .ne 7, 3) := by decide +kernel
theorem d_Model_read_632 : decode prog_10_method_17_code 632 = .ok (.iconst 4, 1) := by decide +kernel
theorem d_Model_read_633 : decode prog_10_method_17_code 633 = .ok (.goto 4, 3) := by decide +kernel
theorem d_Model_read_636 : decode prog_10_method_17_code 636 = .ok (.iconst 0, 1) := by decide +kernel
theorem d_Model_read_637 : decode prog_10_method_17_code 637 = .ok (.istore_n 1, 1) := by decide +kernel
theorem d_Model_read_638 : decode prog_10_method_17_code 638 = .ok (.iconst 1, 1) := by decide +kernel
theorem d_Model_read_639 : decode prog_10_method_17_code 639 = .ok (.istore_n 3, 1) := by decide +kernel
theorem d_Model_read_640 : decode prog_10_method_17_code 640 = .ok (.iconst 0, 1) := by decide +kernel
theorem d_Model_read_641 : decode prog_10_method_17_code 641 = .ok (.istore 4, 2) := by decide +kernel
theorem d_Model_read_643 : decode prog_10_method_17_code 643 = .ok (.aload_n 0, 1) := by decide +kernel
theorem d_Model_read_644 : decode prog_10_method_17_code 644 = .ok (.getfield 26, 3) := by decide +kernel
theorem d_Model_read_647 : decode prog_10_method_17_code 647 = .ok (.aload_n 0, 1) := by decide +kernel
theorem d_Model_read_648 : decode prog_10_method_17_code 648 = .ok (.getfield 137, 3) := by decide +kernel
theorem d_Model_read_651 : decode prog_10_method_17_code 651 = .ok (.aload_n 0, 1) := by decide +kernel
theorem d_Model_read_652 : decode prog_10_method_17_code 652 = .ok (.getfield 121, 3) := by decide +kernel
theorem d_Model_read_655 : decode prog_10_method_17_code 655 = .ok (.iastore, 1) := by decide +kernel
theorem d_Model_read_656 : decode prog_10_method_17_code 656 = .ok (.goto 6, 3) := by decide +kernel
theorem d_Model_read_659 : decode prog_10_method_17_code 659 = .ok (.iconst 0, 1) := by decide +kernel
theorem d_Model_read_660 : decode prog_10_method_17_code 660 = .ok (.istore 5, 2) := by decide +kernel
theorem d_Model_read_662 : decode prog_10_method_17_code 662 = .ok (.goto 82, 3) := by decide +kernel
theorem d_Model_read_665 : decode prog_10_method_17_code 665 = .ok (.iload_n 1, 1) := by decide +kernel
theorem d_Model_read_666 : decode prog_10_method_17_code 666 = .ok (.iconst 4, 1) := by decide +kernel
theorem d_Model_read_667 : decode prog_10_method_17_code 667 = .ok (.if_icmp .ne 38, 3) := by decide +kernel
theorem d_Model_read_670 : decode prog_10_method_17_code 670 = .ok (.aload_n 0, 1) := by decide +kernel
theorem d_Model_read_671 : decode prog_10_method_17_code 671 = .ok (.getfield 97, 3) := by decide +kernel
theorem d_Model_read_674 : decode prog_10_method_17_code 674 = .ok (.iconst 1, 1) := by decide +kernel
theorem d_Model_read_675 : decode prog_10_method_17_code 675 = .ok (.if_icmp .ne 7, 3) := by decide +kernel
theorem d_Model_read_678 : decode prog_10_method_17_code 678 = .ok (.iconst 1, 1) := by decide +kernel
theorem d_Model_read_679 : decode prog_10_method_17_code 679 = .ok (.goto 4, 3) := by decide +kernel
theorem d_Model_read_682 : decode prog_10_method_17_code 682 = .ok (.iconst 0, 1) := by decide +kernel
theorem d_Model_read_683 : decode prog_10_method_17_code 683 = .ok (.istore 5, 2) := by decide +kernel
theorem d_Model_read_685 : decode prog_10_method_17_code 685 = .ok (.aload_n 0, 1) := by decide +kernel
theorem d_Model_read_686 : decode prog_10_method_17_code 686 = .ok (.getfield 17, 3) := by decide +kernel
theorem d_Model_read_689 : decode prog_10_method_17_code 689 = .ok (.aload_n 0, 1) := by decide +kernel
theorem d_Model_read_690 : decode prog_10_method_17_code 690 = .ok (.getfield 134, 3) := by decide +kernel
theorem d_Model_read_693 : decode prog_10_method_17_code 693 = .ok (.iconst 1, 1) := by decide +kernel
theorem d_Model_read_694 : decode prog_10_method_17_code 694 = .ok (.isub, 1) := by decide +kernel
theorem d_Model_read_695 : decode prog_10_method_17_code 695 = .ok (.aload_n 0, 1) := by decide +kernel
theorem d_Model_read_696 : decode prog_10_method_17_code 696 = .ok (.getfield 103, 3) := by decide +kernel
theorem d_Model_read_699 : decode prog_10_method_17_code 699 = .ok (.lastore, 1) := by decide +kernel
theorem d_Model_read_700 : decode prog_10_method_17_code 700 = .ok (.iconst 5, 1) := by decide +kernel
theorem d_Model_read_701 : decode prog_10_method_17_code 701 = .ok (.istore_n 1, 1) := by decide +kernel
theorem d_Model_read_702 : decode prog_10_method_17_code 702 = .ok (.goto 42, 3) := by decide +kernel
theorem d_Model_read_705 : decode prog_10_method_17_code 705 = .ok (.aload_n 0, 1) := by decide +kernel
theorem d_Model_read_706 : decode prog_10_method_17_code 706 = .ok (.getfield 97, 3) := by decide +kernel
theorem d_Model_read_709 : decode prog_10_method_17_code 709 = .ok (.bipush 59, 2) := by decide +kernel
theorem d_Model_read_711 : decode prog_10_method_17_code 711 = .ok (.if_icmp .eq 10, 3) := by decide +kernel
theorem d_Model_read_714 : decode prog_10_method_17_code 714 = .ok (.aload_n 0, 1) := by decide +kernel
theorem d_Model_read_715 : decode prog_10_method_17_code 715 = .ok (.getfield 97, 3) := by decide +kernel
theorem d_Model_read_718 : decode prog_10_method_17_code 718 = .ok (.ifCond .ne 7, 3) := by decide +kernel
theorem d_Model_read_721 : decode prog_10_method_17_code 721 = .ok (.iconst 1, 1) := by decide +kernel
theorem d_Model_read_722 : decode prog_10_method_17_code 722 = .ok (.goto 4, 3) := by decide +kernel
theorem d_Model_read_725 : decode prog_10_method_17_code 725 = .ok (.iconst 0, 1) := by decide +kernel
theorem d_Model_read_726 : decode prog_10_method_17_code 726 = .ok (.istore 5, 2) := by decide +kernel
theorem d_Model_read_728 : decode prog_10_method_17_code 728 = .ok (.aload_n 0, 1) := by decide +kernel
theorem d_Model_read_729 : decode prog_10_method_17_code 729 = .ok (.getfield 97, 3) := by decide +kernel
theorem d_Model_read_732 : decode prog_10_method_17_code 732 = .ok (.ifCond .eq 7, 3) := by decide +kernel
theorem d_Model_read_735 : decode prog_10_method_17_code 735 = .ok (.iconst 1, 1) := by decide +kernel
theorem d_Model_read_736 : decode prog_10_method_17_code 736 = .ok (.goto 4, 3) := by decide +kernel
theorem d_Model_read_739 : decode prog_10_method_17_code 739 = .ok (.iconst 0, 1) := by decide +kernel
theorem d_Model_read_740 : decode prog_10_method_17_code 740 = .ok (.istore 6, 2) := by decide +kernel
theorem d_Model_read_742 : decode prog_10_method_17_code 742 = .ok (.iconst 0, 1) := by decide +kernel
theorem d_Model_read_743 : decode prog_10_method_17_code 743 = .ok (.istore_n 1, 1) := by decide +kernel
theorem d_Model_read_744 : decode prog_10_method_17_code 744 = .ok (.iload 6, 2) := by decide +kernel
theorem d_Model_read_746 : decode prog_10_method_17_code 746 = .ok (.ifCond .eq 12, 3) := by decide +kernel
theorem d_Model_read_749 : decode prog_10_method_17_code 749 = .ok (.iload 5, 2) := by decide +kernel
theorem d_Model_read_751 : decode prog_10_method_17_code 751 = .ok (.ifCond .eq 7, 3) := by decide +kernel
theorem d_Model_read_754 : decode prog_10_method_17_code 754 = .ok (.iconst 1, 1) := by decide +kernel
theorem d_Model_read_755 : decode prog_10_method_17_code 755 = .ok (.goto 4, 3) := by decide +kernel
theorem d_Model_read_758 : decode prog_10_method_17_code 758 = .ok (.iconst 0, 1) := by decide +kernel
theorem d_Model_read_759 : decode prog_10_method_17_code 759 = .ok (.istore 6, 2) := by decide +kernel
theorem d_Model_read_761 : decode prog_10_method_17_code 761 = .ok (.goto (-711), 3) := by decide +kernel
theorem d_Model_read_764 : decode prog_10_method_17_code 764 = .ok (.iload 5, 2) := by decide +kernel
theorem d_Model_read_766 : decode prog_10_method_17_code 766 = .ok (.ifCond .ne 10, 3) := by decide +kernel
theorem d_Model_read_769 : decode prog_10_method_17_code 769 = .ok (.iconst (-1), 1) := by decide +kernel
theorem d_Model_read_770 : decode prog_10_method_17_code 770 = .ok (.aload_n 0, 1) := by decide +kernel
theorem d_Model_read_771 : decode prog_10_method_17_code 771 = .ok (.getfield 94, 3) := by decide +kernel
theorem d_Model_read_774 : decode prog_10_method_17_code 774 = .ok (.isub, 1) := by decide +kernel
theorem d_Model_read_775 : decode prog_10_method_17_code 775 = .ok (.ireturn, 1) := by decide +kernel
theorem d_Model_read_776 : decode prog_10_method_17_code 776 = .ok (.aload_n 0, 1) := by decide +kernel
theorem d_Model_read_777 : decode prog_10_method_17_code 777 = .ok (.invokevirtual 157, 3) := by decide +kernel
theorem d_Model_read_780 : decode prog_10_method_17_code 780 = .ok (.aload_n 0, 1) := by decide +kernel
theorem d_Model_read_781 : decode prog_10_method_17_code 781 = .ok (.getfield 160, 3) := by decide +kernel
theorem d_Model_read_784 : decode prog_10_method_17_code 784 = .ok (.ireturn, 1) := by decide +kernel
abbrev y_Model_take : MethodName := ⟨"PermitRulesModel", "take", "()V"⟩
abbrev cw_Model_take : Cond := .code y_Model_take prog_10_method_18_code 2 none
theorem d_Model_take_0 : decode prog_10_method_18_code 0 = .ok (.aload_n 0, 1) := by decide +kernel
theorem d_Model_take_1 : decode prog_10_method_18_code 1 = .ok (.aload_n 0, 1) := by decide +kernel
theorem d_Model_take_2 : decode prog_10_method_18_code 2 = .ok (.getfield 134, 3) := by decide +kernel
theorem d_Model_take_5 : decode prog_10_method_18_code 5 = .ok (.putfield 160, 3) := by decide +kernel
theorem d_Model_take_8 : decode prog_10_method_18_code 8 = .ok (.aload_n 0, 1) := by decide +kernel
theorem d_Model_take_9 : decode prog_10_method_18_code 9 = .ok (.aload_n 0, 1) := by decide +kernel
theorem d_Model_take_10 : decode prog_10_method_18_code 10 = .ok (.getfield 137, 3) := by decide +kernel
theorem d_Model_take_13 : decode prog_10_method_18_code 13 = .ok (.putfield 163, 3) := by decide +kernel
theorem d_Model_take_16 : decode prog_10_method_18_code 16 = .ok (.aload_n 0, 1) := by decide +kernel
theorem d_Model_take_17 : decode prog_10_method_18_code 17 = .ok (.getfield 20, 3) := by decide +kernel
theorem d_Model_take_20 : decode prog_10_method_18_code 20 = .ok (.aload_n 0, 1) := by decide +kernel
theorem d_Model_take_21 : decode prog_10_method_18_code 21 = .ok (.getfield 134, 3) := by decide +kernel
theorem d_Model_take_24 : decode prog_10_method_18_code 24 = .ok (.aload_n 0, 1) := by decide +kernel
theorem d_Model_take_25 : decode prog_10_method_18_code 25 = .ok (.getfield 137, 3) := by decide +kernel
theorem d_Model_take_28 : decode prog_10_method_18_code 28 = .ok (.iastore, 1) := by decide +kernel
theorem d_Model_take_29 : decode prog_10_method_18_code 29 = .ok (.iconst 0, 1) := by decide +kernel
theorem d_Model_take_30 : decode prog_10_method_18_code 30 = .ok (.istore_n 1, 1) := by decide +kernel
theorem d_Model_take_31 : decode prog_10_method_18_code 31 = .ok (.iload_n 1, 1) := by decide +kernel
theorem d_Model_take_32 : decode prog_10_method_18_code 32 = .ok (.aload_n 0, 1) := by decide +kernel
theorem d_Model_take_33 : decode prog_10_method_18_code 33 = .ok (.getfield 160, 3) := by decide +kernel
theorem d_Model_take_36 : decode prog_10_method_18_code 36 = .ok (.if_icmp .gt 27, 3) := by decide +kernel
theorem d_Model_take_39 : decode prog_10_method_18_code 39 = .ok (.aload_n 0, 1) := by decide +kernel
theorem d_Model_take_40 : decode prog_10_method_18_code 40 = .ok (.getfield 20, 3) := by decide +kernel
theorem d_Model_take_43 : decode prog_10_method_18_code 43 = .ok (.bipush 13, 2) := by decide +kernel
theorem d_Model_take_45 : decode prog_10_method_18_code 45 = .ok (.iload_n 1, 1) := by decide +kernel
theorem d_Model_take_46 : decode prog_10_method_18_code 46 = .ok (.iadd, 1) := by decide +kernel
theorem d_Model_take_47 : decode prog_10_method_18_code 47 = .ok (.bipush 120, 2) := by decide +kernel
theorem d_Model_take_49 : decode prog_10_method_18_code 49 = .ok (.aload_n 0, 1) := by decide +kernel
theorem d_Model_take_50 : decode prog_10_method_18_code 50 = .ok (.getfield 20, 3) := by decide +kernel
theorem d_Model_take_53 : decode prog_10_method_18_code 53 = .ok (.iload_n 1, 1) := by decide +kernel
theorem d_Model_take_54 : decode prog_10_method_18_code 54 = .ok (.iaload, 1) := by decide +kernel
theorem d_Model_take_55 : decode prog_10_method_18_code 55 = .ok (.iadd, 1) := by decide +kernel
theorem d_Model_take_56 : decode prog_10_method_18_code 56 = .ok (.iastore, 1) := by decide +kernel
theorem d_Model_take_57 : decode prog_10_method_18_code 57 = .ok (.iinc 1 1, 3) := by decide +kernel
theorem d_Model_take_60 : decode prog_10_method_18_code 60 = .ok (.goto (-29), 3) := by decide +kernel
theorem d_Model_take_63 : decode prog_10_method_18_code 63 = .ok (.iconst 0, 1) := by decide +kernel
theorem d_Model_take_64 : decode prog_10_method_18_code 64 = .ok (.istore_n 1, 1) := by decide +kernel
theorem d_Model_take_65 : decode prog_10_method_18_code 65 = .ok (.iload_n 1, 1) := by decide +kernel
theorem d_Model_take_66 : decode prog_10_method_18_code 66 = .ok (.aload_n 0, 1) := by decide +kernel
theorem d_Model_take_67 : decode prog_10_method_18_code 67 = .ok (.getfield 160, 3) := by decide +kernel
theorem d_Model_take_70 : decode prog_10_method_18_code 70 = .ok (.if_icmp .ge 39, 3) := by decide +kernel
theorem d_Model_take_73 : decode prog_10_method_18_code 73 = .ok (.aload_n 0, 1) := by decide +kernel
theorem d_Model_take_74 : decode prog_10_method_18_code 74 = .ok (.getfield 13, 3) := by decide +kernel
theorem d_Model_take_77 : decode prog_10_method_18_code 77 = .ok (.bipush 12, 2) := by decide +kernel
theorem d_Model_take_79 : decode prog_10_method_18_code 79 = .ok (.iload_n 1, 1) := by decide +kernel
theorem d_Model_take_80 : decode prog_10_method_18_code 80 = .ok (.iadd, 1) := by decide +kernel
theorem d_Model_take_81 : decode prog_10_method_18_code 81 = .ok (.aload_n 0, 1) := by decide +kernel
theorem d_Model_take_82 : decode prog_10_method_18_code 82 = .ok (.getfield 13, 3) := by decide +kernel
theorem d_Model_take_85 : decode prog_10_method_18_code 85 = .ok (.iload_n 1, 1) := by decide +kernel
theorem d_Model_take_86 : decode prog_10_method_18_code 86 = .ok (.laload, 1) := by decide +kernel
theorem d_Model_take_87 : decode prog_10_method_18_code 87 = .ok (.lastore, 1) := by decide +kernel
theorem d_Model_take_88 : decode prog_10_method_18_code 88 = .ok (.aload_n 0, 1) := by decide +kernel
theorem d_Model_take_89 : decode prog_10_method_18_code 89 = .ok (.getfield 17, 3) := by decide +kernel
theorem d_Model_take_92 : decode prog_10_method_18_code 92 = .ok (.bipush 12, 2) := by decide +kernel
theorem d_Model_take_94 : decode prog_10_method_18_code 94 = .ok (.iload_n 1, 1) := by decide +kernel
theorem d_Model_take_95 : decode prog_10_method_18_code 95 = .ok (.iadd, 1) := by decide +kernel
theorem d_Model_take_96 : decode prog_10_method_18_code 96 = .ok (.aload_n 0, 1) := by decide +kernel
theorem d_Model_take_97 : decode prog_10_method_18_code 97 = .ok (.getfield 17, 3) := by decide +kernel
theorem d_Model_take_100 : decode prog_10_method_18_code 100 = .ok (.iload_n 1, 1) := by decide +kernel
theorem d_Model_take_101 : decode prog_10_method_18_code 101 = .ok (.laload, 1) := by decide +kernel
theorem d_Model_take_102 : decode prog_10_method_18_code 102 = .ok (.lastore, 1) := by decide +kernel
theorem d_Model_take_103 : decode prog_10_method_18_code 103 = .ok (.iinc 1 1, 3) := by decide +kernel
theorem d_Model_take_106 : decode prog_10_method_18_code 106 = .ok (.goto (-41), 3) := by decide +kernel
theorem d_Model_take_109 : decode prog_10_method_18_code 109 = .ok (.iconst 0, 1) := by decide +kernel
theorem d_Model_take_110 : decode prog_10_method_18_code 110 = .ok (.istore_n 1, 1) := by decide +kernel
theorem d_Model_take_111 : decode prog_10_method_18_code 111 = .ok (.iload_n 1, 1) := by decide +kernel
theorem d_Model_take_112 : decode prog_10_method_18_code 112 = .ok (.aload_n 0, 1) := by decide +kernel
theorem d_Model_take_113 : decode prog_10_method_18_code 113 = .ok (.getfield 163, 3) := by decide +kernel
theorem d_Model_take_116 : decode prog_10_method_18_code 116 = .ok (.if_icmp .ge 81, 3) := by decide +kernel
theorem d_Model_take_119 : decode prog_10_method_18_code 119 = .ok (.aload_n 0, 1) := by decide +kernel
theorem d_Model_take_120 : decode prog_10_method_18_code 120 = .ok (.getfield 23, 3) := by decide +kernel
theorem d_Model_take_123 : decode prog_10_method_18_code 123 = .ok (.bipush 120, 2) := by decide +kernel
theorem d_Model_take_125 : decode prog_10_method_18_code 125 = .ok (.iload_n 1, 1) := by decide +kernel
theorem d_Model_take_126 : decode prog_10_method_18_code 126 = .ok (.iadd, 1) := by decide +kernel
theorem d_Model_take_127 : decode prog_10_method_18_code 127 = .ok (.aload_n 0, 1) := by decide +kernel
theorem d_Model_take_128 : decode prog_10_method_18_code 128 = .ok (.getfield 23, 3) := by decide +kernel
theorem d_Model_take_131 : decode prog_10_method_18_code 131 = .ok (.iload_n 1, 1) := by decide +kernel
theorem d_Model_take_132 : decode prog_10_method_18_code 132 = .ok (.iaload, 1) := by decide +kernel
theorem d_Model_take_133 : decode prog_10_method_18_code 133 = .ok (.iastore, 1) := by decide +kernel
theorem d_Model_take_134 : decode prog_10_method_18_code 134 = .ok (.aload_n 0, 1) := by decide +kernel
theorem d_Model_take_135 : decode prog_10_method_18_code 135 = .ok (.getfield 26, 3) := by decide +kernel
theorem d_Model_take_138 : decode prog_10_method_18_code 138 = .ok (.bipush 120, 2) := by decide +kernel
theorem d_Model_take_140 : decode prog_10_method_18_code 140 = .ok (.iload_n 1, 1) := by decide +kernel
theorem d_Model_take_141 : decode prog_10_method_18_code 141 = .ok (.iadd, 1) := by decide +kernel
theorem d_Model_take_142 : decode prog_10_method_18_code 142 = .ok (.sipush 240, 3) := by decide +kernel
theorem d_Model_take_145 : decode prog_10_method_18_code 145 = .ok (.aload_n 0, 1) := by decide +kernel
theorem d_Model_take_146 : decode prog_10_method_18_code 146 = .ok (.getfield 26, 3) := by decide +kernel
theorem d_Model_take_149 : decode prog_10_method_18_code 149 = .ok (.iload_n 1, 1) := by decide +kernel
theorem d_Model_take_150 : decode prog_10_method_18_code 150 = .ok (.iaload, 1) := by decide +kernel
theorem d_Model_take_151 : decode prog_10_method_18_code 151 = .ok (.iadd, 1) := by decide +kernel
theorem d_Model_take_152 : decode prog_10_method_18_code 152 = .ok (.iastore, 1) := by decide +kernel
theorem d_Model_take_153 : decode prog_10_method_18_code 153 = .ok (.aload_n 0, 1) := by decide +kernel
theorem d_Model_take_154 : decode prog_10_method_18_code 154 = .ok (.getfield 29, 3) := by decide +kernel
theorem d_Model_take_157 : decode prog_10_method_18_code 157 = .ok (.bipush 120, 2) := by decide +kernel
theorem d_Model_take_159 : decode prog_10_method_18_code 159 = .ok (.iload_n 1, 1) := by decide +kernel
theorem d_Model_take_160 : decode prog_10_method_18_code 160 = .ok (.iadd, 1) := by decide +kernel
theorem d_Model_take_161 : decode prog_10_method_18_code 161 = .ok (.sipush 240, 3) := by decide +kernel
theorem d_Model_take_164 : decode prog_10_method_18_code 164 = .ok (.aload_n 0, 1) := by decide +kernel
theorem d_Model_take_165 : decode prog_10_method_18_code 165 = .ok (.getfield 29, 3) := by decide +kernel
theorem d_Model_take_168 : decode prog_10_method_18_code 168 = .ok (.iload_n 1, 1) := by decide +kernel
theorem d_Model_take_169 : decode prog_10_method_18_code 169 = .ok (.iaload, 1) := by decide +kernel
theorem d_Model_take_170 : decode prog_10_method_18_code 170 = .ok (.iadd, 1) := by decide +kernel
theorem d_Model_take_171 : decode prog_10_method_18_code 171 = .ok (.iastore, 1) := by decide +kernel
theorem d_Model_take_172 : decode prog_10_method_18_code 172 = .ok (.aload_n 0, 1) := by decide +kernel
theorem d_Model_take_173 : decode prog_10_method_18_code 173 = .ok (.getfield 32, 3) := by decide +kernel
theorem d_Model_take_176 : decode prog_10_method_18_code 176 = .ok (.bipush 120, 2) := by decide +kernel
theorem d_Model_take_178 : decode prog_10_method_18_code 178 = .ok (.iload_n 1, 1) := by decide +kernel
theorem d_Model_take_179 : decode prog_10_method_18_code 179 = .ok (.iadd, 1) := by decide +kernel
theorem d_Model_take_180 : decode prog_10_method_18_code 180 = .ok (.sipush 240, 3) := by decide +kernel
theorem d_Model_take_183 : decode prog_10_method_18_code 183 = .ok (.aload_n 0, 1) := by decide +kernel
theorem d_Model_take_184 : decode prog_10_method_18_code 184 = .ok (.getfield 32, 3) := by decide +kernel
theorem d_Model_take_187 : decode prog_10_method_18_code 187 = .ok (.iload_n 1, 1) := by decide +kernel
theorem d_Model_take_188 : decode prog_10_method_18_code 188 = .ok (.iaload, 1) := by decide +kernel
theorem d_Model_take_189 : decode prog_10_method_18_code 189 = .ok (.iadd, 1) := by decide +kernel
theorem d_Model_take_190 : decode prog_10_method_18_code 190 = .ok (.iastore, 1) := by decide +kernel
theorem d_Model_take_191 : decode prog_10_method_18_code 191 = .ok (.iinc 1 1, 3) := by decide +kernel
theorem d_Model_take_194 : decode prog_10_method_18_code 194 = .ok (.goto (-83), 3) := by decide +kernel
theorem d_Model_take_197 : decode prog_10_method_18_code 197 = .ok (.iconst 0, 1) := by decide +kernel
theorem d_Model_take_198 : decode prog_10_method_18_code 198 = .ok (.istore_n 1, 1) := by decide +kernel
theorem d_Model_take_199 : decode prog_10_method_18_code 199 = .ok (.iload_n 1, 1) := by decide +kernel
theorem d_Model_take_200 : decode prog_10_method_18_code 200 = .ok (.aload_n 0, 1) := by decide +kernel
theorem d_Model_take_201 : decode prog_10_method_18_code 201 = .ok (.getfield 121, 3) := by decide +kernel
theorem d_Model_take_204 : decode prog_10_method_18_code 204 = .ok (.if_icmp .ge 41, 3) := by decide +kernel
theorem d_Model_take_207 : decode prog_10_method_18_code 207 = .ok (.aload_n 0, 1) := by decide +kernel
theorem d_Model_take_208 : decode prog_10_method_18_code 208 = .ok (.getfield 35, 3) := by decide +kernel
theorem d_Model_take_211 : decode prog_10_method_18_code 211 = .ok (.sipush 240, 3) := by decide +kernel
theorem d_Model_take_214 : decode prog_10_method_18_code 214 = .ok (.iload_n 1, 1) := by decide +kernel
theorem d_Model_take_215 : decode prog_10_method_18_code 215 = .ok (.iadd, 1) := by decide +kernel
theorem d_Model_take_216 : decode prog_10_method_18_code 216 = .ok (.aload_n 0, 1) := by decide +kernel
theorem d_Model_take_217 : decode prog_10_method_18_code 217 = .ok (.getfield 35, 3) := by decide +kernel
theorem d_Model_take_220 : decode prog_10_method_18_code 220 = .ok (.iload_n 1, 1) := by decide +kernel
theorem d_Model_take_221 : decode prog_10_method_18_code 221 = .ok (.iaload, 1) := by decide +kernel
theorem d_Model_take_222 : decode prog_10_method_18_code 222 = .ok (.iastore, 1) := by decide +kernel
theorem d_Model_take_223 : decode prog_10_method_18_code 223 = .ok (.aload_n 0, 1) := by decide +kernel
theorem d_Model_take_224 : decode prog_10_method_18_code 224 = .ok (.getfield 38, 3) := by decide +kernel
theorem d_Model_take_227 : decode prog_10_method_18_code 227 = .ok (.sipush 240, 3) := by decide +kernel
theorem d_Model_take_230 : decode prog_10_method_18_code 230 = .ok (.iload_n 1, 1) := by decide +kernel
theorem d_Model_take_231 : decode prog_10_method_18_code 231 = .ok (.iadd, 1) := by decide +kernel
theorem d_Model_take_232 : decode prog_10_method_18_code 232 = .ok (.aload_n 0, 1) := by decide +kernel
theorem d_Model_take_233 : decode prog_10_method_18_code 233 = .ok (.getfield 38, 3) := by decide +kernel
theorem d_Model_take_236 : decode prog_10_method_18_code 236 = .ok (.iload_n 1, 1) := by decide +kernel
theorem d_Model_take_237 : decode prog_10_method_18_code 237 = .ok (.laload, 1) := by decide +kernel
theorem d_Model_take_238 : decode prog_10_method_18_code 238 = .ok (.lastore, 1) := by decide +kernel
theorem d_Model_take_239 : decode prog_10_method_18_code 239 = .ok (.iinc 1 1, 3) := by decide +kernel
theorem d_Model_take_242 : decode prog_10_method_18_code 242 = .ok (.goto (-43), 3) := by decide +kernel
theorem d_Model_take_245 : decode prog_10_method_18_code 245 = .ok (.aload_n 0, 1) := by decide +kernel
theorem d_Model_take_246 : decode prog_10_method_18_code 246 = .ok (.iconst 0, 1) := by decide +kernel
theorem d_Model_take_247 : decode prog_10_method_18_code 247 = .ok (.putfield 76, 3) := by decide +kernel
theorem d_Model_take_250 : decode prog_10_method_18_code 250 = .ok (.aload_n 0, 1) := by decide +kernel
theorem d_Model_take_251 : decode prog_10_method_18_code 251 = .ok (.iconst 0, 1) := by decide +kernel
theorem d_Model_take_252 : decode prog_10_method_18_code 252 = .ok (.putfield 166, 3) := by decide +kernel
theorem d_Model_take_255 : decode prog_10_method_18_code 255 = .ok (.return_, 1) := by decide +kernel
abbrev y_Model_isName : MethodName := ⟨"PermitRulesModel", "isName", "(J)Z"⟩
abbrev cw_Model_isName : Cond := .code y_Model_isName prog_10_method_19_code 5 (some .boolean)
theorem d_Model_isName_0 : decode prog_10_method_19_code 0 = .ok (.lload_n 0, 1) := by decide +kernel
theorem d_Model_isName_1 : decode prog_10_method_19_code 1 = .ok (.lstore_n 2, 1) := by decide +kernel
theorem d_Model_isName_2 : decode prog_10_method_19_code 2 = .ok (.iconst 0, 1) := by decide +kernel
theorem d_Model_isName_3 : decode prog_10_method_19_code 3 = .ok (.istore 4, 2) := by decide +kernel
theorem d_Model_isName_5 : decode prog_10_method_19_code 5 = .ok (.lload_n 2, 1) := by decide +kernel
theorem d_Model_isName_6 : decode prog_10_method_19_code 6 = .ok (.lconst 0, 1) := by decide +kernel
theorem d_Model_isName_7 : decode prog_10_method_19_code 7 = .ok (.lcmp, 1) := by decide +kernel
theorem d_Model_isName_8 : decode prog_10_method_19_code 8 = .ok (.ifCond .eq 38, 3) := by decide +kernel
theorem d_Model_isName_11 : decode prog_10_method_19_code 11 = .ok (.iload 4, 2) := by decide +kernel
theorem d_Model_isName_13 : decode prog_10_method_19_code 13 = .ok (.bipush 8, 2) := by decide +kernel
theorem d_Model_isName_15 : decode prog_10_method_19_code 15 = .ok (.if_icmp .ge 31, 3) := by decide +kernel
theorem d_Model_isName_18 : decode prog_10_method_19_code 18 = .ok (.lload_n 2, 1) := by decide +kernel
theorem d_Model_isName_19 : decode prog_10_method_19_code 19 = .ok (.ldc2_w 66, 3) := by decide +kernel
theorem d_Model_isName_22 : decode prog_10_method_19_code 22 = .ok (.land, 1) := by decide +kernel
theorem d_Model_isName_23 : decode prog_10_method_19_code 23 = .ok (.ldc2_w 87, 3) := by decide +kernel
theorem d_Model_isName_26 : decode prog_10_method_19_code 26 = .ok (.ldc2_w 89, 3) := by decide +kernel
theorem d_Model_isName_29 : decode prog_10_method_19_code 29 = .ok (.invokestatic 72, 3) := by decide +kernel
theorem d_Model_isName_32 : decode prog_10_method_19_code 32 = .ok (.ifCond .eq 14, 3) := by decide +kernel
theorem d_Model_isName_35 : decode prog_10_method_19_code 35 = .ok (.lload_n 2, 1) := by decide +kernel
theorem d_Model_isName_36 : decode prog_10_method_19_code 36 = .ok (.bipush 8, 2) := by decide +kernel
theorem d_Model_isName_38 : decode prog_10_method_19_code 38 = .ok (.lushr, 1) := by decide +kernel
theorem d_Model_isName_39 : decode prog_10_method_19_code 39 = .ok (.lstore_n 2, 1) := by decide +kernel
theorem d_Model_isName_40 : decode prog_10_method_19_code 40 = .ok (.iinc 4 1, 3) := by decide +kernel
theorem d_Model_isName_43 : decode prog_10_method_19_code 43 = .ok (.goto (-38), 3) := by decide +kernel
theorem d_Model_isName_46 : decode prog_10_method_19_code 46 = .ok (.iload 4, 2) := by decide +kernel
theorem d_Model_isName_48 : decode prog_10_method_19_code 48 = .ok (.ifCond .le 13, 3) := by decide +kernel
theorem d_Model_isName_51 : decode prog_10_method_19_code 51 = .ok (.lload_n 2, 1) := by decide +kernel
theorem d_Model_isName_52 : decode prog_10_method_19_code 52 = .ok (.lconst 0, 1) := by decide +kernel
theorem d_Model_isName_53 : decode prog_10_method_19_code 53 = .ok (.lcmp, 1) := by decide +kernel
theorem d_Model_isName_54 : decode prog_10_method_19_code 54 = .ok (.ifCond .ne 7, 3) := by decide +kernel
theorem d_Model_isName_57 : decode prog_10_method_19_code 57 = .ok (.iconst 1, 1) := by decide +kernel
theorem d_Model_isName_58 : decode prog_10_method_19_code 58 = .ok (.goto 4, 3) := by decide +kernel
theorem d_Model_isName_61 : decode prog_10_method_19_code 61 = .ok (.iconst 0, 1) := by decide +kernel
theorem d_Model_isName_62 : decode prog_10_method_19_code 62 = .ok (.ireturn, 1) := by decide +kernel
abbrev y_Model_factOf : MethodName := ⟨"PermitRulesModel", "factOf", "(J)I"⟩
abbrev cw_Model_factOf : Cond := .code y_Model_factOf prog_10_method_20_code 5 (some .int)
theorem d_Model_factOf_0 : decode prog_10_method_20_code 0 = .ok (.iconst (-1), 1) := by decide +kernel
theorem d_Model_factOf_1 : decode prog_10_method_20_code 1 = .ok (.istore_n 3, 1) := by decide +kernel
theorem d_Model_factOf_2 : decode prog_10_method_20_code 2 = .ok (.iconst 0, 1) := by decide +kernel
theorem d_Model_factOf_3 : decode prog_10_method_20_code 3 = .ok (.istore 4, 2) := by decide +kernel
theorem d_Model_factOf_5 : decode prog_10_method_20_code 5 = .ok (.iload 4, 2) := by decide +kernel
theorem d_Model_factOf_7 : decode prog_10_method_20_code 7 = .ok (.aload_n 0, 1) := by decide +kernel
theorem d_Model_factOf_8 : decode prog_10_method_20_code 8 = .ok (.getfield 170, 3) := by decide +kernel
theorem d_Model_factOf_11 : decode prog_10_method_20_code 11 = .ok (.if_icmp .ge 28, 3) := by decide +kernel
theorem d_Model_factOf_14 : decode prog_10_method_20_code 14 = .ok (.aload_n 0, 1) := by decide +kernel
theorem d_Model_factOf_15 : decode prog_10_method_20_code 15 = .ok (.getfield 44, 3) := by decide +kernel
theorem d_Model_factOf_18 : decode prog_10_method_20_code 18 = .ok (.iload 4, 2) := by decide +kernel
theorem d_Model_factOf_20 : decode prog_10_method_20_code 20 = .ok (.laload, 1) := by decide +kernel
theorem d_Model_factOf_21 : decode prog_10_method_20_code 21 = .ok (.lload_n 1, 1) := by decide +kernel
theorem d_Model_factOf_22 : decode prog_10_method_20_code 22 = .ok (.lcmp, 1) := by decide +kernel
theorem d_Model_factOf_23 : decode prog_10_method_20_code 23 = .ok (.ifCond .ne 8, 3) := by decide +kernel
theorem d_Model_factOf_26 : decode prog_10_method_20_code 26 = .ok (.iload 4, 2) := by decide +kernel
theorem d_Model_factOf_28 : decode prog_10_method_20_code 28 = .ok (.goto 4, 3) := by decide +kernel
theorem d_Model_factOf_31 : decode prog_10_method_20_code 31 = .ok (.iload_n 3, 1) := by decide +kernel
theorem d_Model_factOf_32 : decode prog_10_method_20_code 32 = .ok (.istore_n 3, 1) := by decide +kernel
theorem d_Model_factOf_33 : decode prog_10_method_20_code 33 = .ok (.iinc 4 1, 3) := by decide +kernel
theorem d_Model_factOf_36 : decode prog_10_method_20_code 36 = .ok (.goto (-31), 3) := by decide +kernel
theorem d_Model_factOf_39 : decode prog_10_method_20_code 39 = .ok (.iload_n 3, 1) := by decide +kernel
theorem d_Model_factOf_40 : decode prog_10_method_20_code 40 = .ok (.ireturn, 1) := by decide +kernel
abbrev y_Model_fact : MethodName := ⟨"PermitRulesModel", "fact", "(JI)J"⟩
abbrev cw_Model_fact : Cond := .code y_Model_fact prog_10_method_21_code 7 (some .long)
theorem d_Model_fact_0 : decode prog_10_method_21_code 0 = .ok (.aload_n 0, 1) := by decide +kernel
theorem d_Model_fact_1 : decode prog_10_method_21_code 1 = .ok (.lload_n 1, 1) := by decide +kernel
theorem d_Model_fact_2 : decode prog_10_method_21_code 2 = .ok (.invokevirtual 173, 3) := by decide +kernel
theorem d_Model_fact_5 : decode prog_10_method_21_code 5 = .ok (.istore 4, 2) := by decide +kernel
theorem d_Model_fact_7 : decode prog_10_method_21_code 7 = .ok (.aload_n 0, 1) := by decide +kernel
theorem d_Model_fact_8 : decode prog_10_method_21_code 8 = .ok (.lload_n 1, 1) := by decide +kernel
theorem d_Model_fact_9 : decode prog_10_method_21_code 9 = .ok (.invokestatic 177, 3) := by decide +kernel
theorem d_Model_fact_12 : decode prog_10_method_21_code 12 = .ok (.ifCond .eq 17, 3) := by decide +kernel
theorem d_Model_fact_15 : decode prog_10_method_21_code 15 = .ok (.iload_n 3, 1) := by decide +kernel
theorem d_Model_fact_16 : decode prog_10_method_21_code 16 = .ok (.i2l, 1) := by decide +kernel
theorem d_Model_fact_17 : decode prog_10_method_21_code 17 = .ok (.ldc2_w 180, 3) := by decide +kernel
theorem d_Model_fact_20 : decode prog_10_method_21_code 20 = .ok (.ldc2_w 182, 3) := by decide +kernel
theorem d_Model_fact_23 : decode prog_10_method_21_code 23 = .ok (.invokestatic 72, 3) := by decide +kernel
theorem d_Model_fact_26 : decode prog_10_method_21_code 26 = .ok (.ifCond .ne 7, 3) := by decide +kernel
theorem d_Model_fact_29 : decode prog_10_method_21_code 29 = .ok (.iconst 1, 1) := by decide +kernel
theorem d_Model_fact_30 : decode prog_10_method_21_code 30 = .ok (.goto 22, 3) := by decide +kernel
theorem d_Model_fact_33 : decode prog_10_method_21_code 33 = .ok (.iload 4, 2) := by decide +kernel
theorem d_Model_fact_35 : decode prog_10_method_21_code 35 = .ok (.ifCond .ge 16, 3) := by decide +kernel
theorem d_Model_fact_38 : decode prog_10_method_21_code 38 = .ok (.aload_n 0, 1) := by decide +kernel
theorem d_Model_fact_39 : decode prog_10_method_21_code 39 = .ok (.getfield 170, 3) := by decide +kernel
theorem d_Model_fact_42 : decode prog_10_method_21_code 42 = .ok (.bipush 40, 2) := by decide +kernel
theorem d_Model_fact_44 : decode prog_10_method_21_code 44 = .ok (.if_icmp .ne 7, 3) := by decide +kernel
theorem d_Model_fact_47 : decode prog_10_method_21_code 47 = .ok (.iconst 2, 1) := by decide +kernel
theorem d_Model_fact_48 : decode prog_10_method_21_code 48 = .ok (.goto 4, 3) := by decide +kernel
theorem d_Model_fact_51 : decode prog_10_method_21_code 51 = .ok (.iconst 0, 1) := by decide +kernel
theorem d_Model_fact_52 : decode prog_10_method_21_code 52 = .ok (.putfield 62, 3) := by decide +kernel
theorem d_Model_fact_55 : decode prog_10_method_21_code 55 = .ok (.aload_n 0, 1) := by decide +kernel
theorem d_Model_fact_56 : decode prog_10_method_21_code 56 = .ok (.getfield 62, 3) := by decide +kernel
theorem d_Model_fact_59 : decode prog_10_method_21_code 59 = .ok (.ifCond .le 5, 3) := by decide +kernel
theorem d_Model_fact_62 : decode prog_10_method_21_code 62 = .ok (.lconst 0, 1) := by decide +kernel
theorem d_Model_fact_63 : decode prog_10_method_21_code 63 = .ok (.lreturn, 1) := by decide +kernel
theorem d_Model_fact_64 : decode prog_10_method_21_code 64 = .ok (.iload 4, 2) := by decide +kernel
theorem d_Model_fact_66 : decode prog_10_method_21_code 66 = .ok (.ifCond .ge 38, 3) := by decide +kernel
theorem d_Model_fact_69 : decode prog_10_method_21_code 69 = .ok (.aload_n 0, 1) := by decide +kernel
theorem d_Model_fact_70 : decode prog_10_method_21_code 70 = .ok (.getfield 44, 3) := by decide +kernel
theorem d_Model_fact_73 : decode prog_10_method_21_code 73 = .ok (.aload_n 0, 1) := by decide +kernel
theorem d_Model_fact_74 : decode prog_10_method_21_code 74 = .ok (.getfield 170, 3) := by decide +kernel
theorem d_Model_fact_77 : decode prog_10_method_21_code 77 = .ok (.lload_n 1, 1) := by decide +kernel
theorem d_Model_fact_78 : decode prog_10_method_21_code 78 = .ok (.lastore, 1) := by decide +kernel
theorem d_Model_fact_79 : decode prog_10_method_21_code 79 = .ok (.aload_n 0, 1) := by decide +kernel
theorem d_Model_fact_80 : decode prog_10_method_21_code 80 = .ok (.getfield 47, 3) := by decide +kernel
theorem d_Model_fact_83 : decode prog_10_method_21_code 83 = .ok (.aload_n 0, 1) := by decide +kernel
theorem d_Model_fact_84 : decode prog_10_method_21_code 84 = .ok (.getfield 170, 3) := by decide +kernel
theorem d_Model_fact_87 : decode prog_10_method_21_code 87 = .ok (.iload_n 3, 1) := by decide +kernel
theorem d_Model_fact_88 : decode prog_10_method_21_code 88 = .ok (.i2l, 1) := by decide +kernel
theorem d_Model_fact_89 : decode prog_10_method_21_code 89 = .ok (.lastore, 1) := by decide +kernel
theorem d_Model_fact_90 : decode prog_10_method_21_code 90 = .ok (.aload_n 0, 1) := by decide +kernel
theorem d_Model_fact_91 : decode prog_10_method_21_code 91 = .ok (.dup, 1) := by decide +kernel
theorem d_Model_fact_92 : decode prog_10_method_21_code 92 = .ok (.getfield 170, 3) := by decide +kernel
theorem d_Model_fact_95 : decode prog_10_method_21_code 95 = .ok (.iconst 1, 1) := by decide +kernel
theorem d_Model_fact_96 : decode prog_10_method_21_code 96 = .ok (.iadd, 1) := by decide +kernel
theorem d_Model_fact_97 : decode prog_10_method_21_code 97 = .ok (.putfield 170, 3) := by decide +kernel
theorem d_Model_fact_100 : decode prog_10_method_21_code 100 = .ok (.ldc2_w 184, 3) := by decide +kernel
theorem d_Model_fact_103 : decode prog_10_method_21_code 103 = .ok (.lreturn, 1) := by decide +kernel
theorem d_Model_fact_104 : decode prog_10_method_21_code 104 = .ok (.aload_n 0, 1) := by decide +kernel
theorem d_Model_fact_105 : decode prog_10_method_21_code 105 = .ok (.getfield 47, 3) := by decide +kernel
theorem d_Model_fact_108 : decode prog_10_method_21_code 108 = .ok (.iload 4, 2) := by decide +kernel
theorem d_Model_fact_110 : decode prog_10_method_21_code 110 = .ok (.laload, 1) := by decide +kernel
theorem d_Model_fact_111 : decode prog_10_method_21_code 111 = .ok (.lstore 5, 2) := by decide +kernel
theorem d_Model_fact_113 : decode prog_10_method_21_code 113 = .ok (.aload_n 0, 1) := by decide +kernel
theorem d_Model_fact_114 : decode prog_10_method_21_code 114 = .ok (.getfield 47, 3) := by decide +kernel
theorem d_Model_fact_117 : decode prog_10_method_21_code 117 = .ok (.iload 4, 2) := by decide +kernel
theorem d_Model_fact_119 : decode prog_10_method_21_code 119 = .ok (.iload_n 3, 1) := by decide +kernel
theorem d_Model_fact_120 : decode prog_10_method_21_code 120 = .ok (.i2l, 1) := by decide +kernel
theorem d_Model_fact_121 : decode prog_10_method_21_code 121 = .ok (.lastore, 1) := by decide +kernel
theorem d_Model_fact_122 : decode prog_10_method_21_code 122 = .ok (.lload 5, 2) := by decide +kernel
theorem d_Model_fact_124 : decode prog_10_method_21_code 124 = .ok (.lreturn, 1) := by decide +kernel
abbrev y_Model_forget : MethodName := ⟨"PermitRulesModel", "forget", "(J)J"⟩
abbrev cw_Model_forget : Cond := .code y_Model_forget prog_10_method_22_code 6 (some .long)
theorem d_Model_forget_0 : decode prog_10_method_22_code 0 = .ok (.aload_n 0, 1) := by decide +kernel
theorem d_Model_forget_1 : decode prog_10_method_22_code 1 = .ok (.lload_n 1, 1) := by decide +kernel
theorem d_Model_forget_2 : decode prog_10_method_22_code 2 = .ok (.invokestatic 177, 3) := by decide +kernel
theorem d_Model_forget_5 : decode prog_10_method_22_code 5 = .ok (.ifCond .eq 7, 3) := by decide +kernel
theorem d_Model_forget_8 : decode prog_10_method_22_code 8 = .ok (.iconst 0, 1) := by decide +kernel
theorem d_Model_forget_9 : decode prog_10_method_22_code 9 = .ok (.goto 4, 3) := by decide +kernel
theorem d_Model_forget_12 : decode prog_10_method_22_code 12 = .ok (.iconst 1, 1) := by decide +kernel
theorem d_Model_forget_13 : decode prog_10_method_22_code 13 = .ok (.putfield 62, 3) := by decide +kernel
theorem d_Model_forget_16 : decode prog_10_method_22_code 16 = .ok (.aload_n 0, 1) := by decide +kernel
theorem d_Model_forget_17 : decode prog_10_method_22_code 17 = .ok (.lload_n 1, 1) := by decide +kernel
theorem d_Model_forget_18 : decode prog_10_method_22_code 18 = .ok (.invokevirtual 173, 3) := by decide +kernel
theorem d_Model_forget_21 : decode prog_10_method_22_code 21 = .ok (.istore_n 3, 1) := by decide +kernel
theorem d_Model_forget_22 : decode prog_10_method_22_code 22 = .ok (.aload_n 0, 1) := by decide +kernel
theorem d_Model_forget_23 : decode prog_10_method_22_code 23 = .ok (.getfield 62, 3) := by decide +kernel
theorem d_Model_forget_26 : decode prog_10_method_22_code 26 = .ok (.ifCond .gt 7, 3) := by decide +kernel
theorem d_Model_forget_29 : decode prog_10_method_22_code 29 = .ok (.iload_n 3, 1) := by decide +kernel
theorem d_Model_forget_30 : decode prog_10_method_22_code 30 = .ok (.ifCond .ge 18, 3) := by decide +kernel
theorem d_Model_forget_33 : decode prog_10_method_22_code 33 = .ok (.aload_n 0, 1) := by decide +kernel
theorem d_Model_forget_34 : decode prog_10_method_22_code 34 = .ok (.getfield 62, 3) := by decide +kernel
theorem d_Model_forget_37 : decode prog_10_method_22_code 37 = .ok (.ifCond .le 7, 3) := by decide +kernel
theorem d_Model_forget_40 : decode prog_10_method_22_code 40 = .ok (.lconst 0, 1) := by decide +kernel
theorem d_Model_forget_41 : decode prog_10_method_22_code 41 = .ok (.goto 6, 3) := by decide +kernel
theorem d_Model_forget_44 : decode prog_10_method_22_code 44 = .ok (.ldc2_w 184, 3) := by decide +kernel
theorem d_Model_forget_47 : decode prog_10_method_22_code 47 = .ok (.lreturn, 1) := by decide +kernel
theorem d_Model_forget_48 : decode prog_10_method_22_code 48 = .ok (.aload_n 0, 1) := by decide +kernel
theorem d_Model_forget_49 : decode prog_10_method_22_code 49 = .ok (.getfield 47, 3) := by decide +kernel
theorem d_Model_forget_52 : decode prog_10_method_22_code 52 = .ok (.iload_n 3, 1) := by decide +kernel
theorem d_Model_forget_53 : decode prog_10_method_22_code 53 = .ok (.laload, 1) := by decide +kernel
theorem d_Model_forget_54 : decode prog_10_method_22_code 54 = .ok (.lstore 4, 2) := by decide +kernel
theorem d_Model_forget_56 : decode prog_10_method_22_code 56 = .ok (.aload_n 0, 1) := by decide +kernel
theorem d_Model_forget_57 : decode prog_10_method_22_code 57 = .ok (.dup, 1) := by decide +kernel
theorem d_Model_forget_58 : decode prog_10_method_22_code 58 = .ok (.getfield 170, 3) := by decide +kernel
theorem d_Model_forget_61 : decode prog_10_method_22_code 61 = .ok (.iconst 1, 1) := by decide +kernel
theorem d_Model_forget_62 : decode prog_10_method_22_code 62 = .ok (.isub, 1) := by decide +kernel
theorem d_Model_forget_63 : decode prog_10_method_22_code 63 = .ok (.putfield 170, 3) := by decide +kernel
theorem d_Model_forget_66 : decode prog_10_method_22_code 66 = .ok (.aload_n 0, 1) := by decide +kernel
theorem d_Model_forget_67 : decode prog_10_method_22_code 67 = .ok (.getfield 44, 3) := by decide +kernel
theorem d_Model_forget_70 : decode prog_10_method_22_code 70 = .ok (.iload_n 3, 1) := by decide +kernel
theorem d_Model_forget_71 : decode prog_10_method_22_code 71 = .ok (.aload_n 0, 1) := by decide +kernel
theorem d_Model_forget_72 : decode prog_10_method_22_code 72 = .ok (.getfield 44, 3) := by decide +kernel
theorem d_Model_forget_75 : decode prog_10_method_22_code 75 = .ok (.aload_n 0, 1) := by decide +kernel
theorem d_Model_forget_76 : decode prog_10_method_22_code 76 = .ok (.getfield 170, 3) := by decide +kernel
theorem d_Model_forget_79 : decode prog_10_method_22_code 79 = .ok (.laload, 1) := by decide +kernel
theorem d_Model_forget_80 : decode prog_10_method_22_code 80 = .ok (.lastore, 1) := by decide +kernel
theorem d_Model_forget_81 : decode prog_10_method_22_code 81 = .ok (.aload_n 0, 1) := by decide +kernel
theorem d_Model_forget_82 : decode prog_10_method_22_code 82 = .ok (.getfield 47, 3) := by decide +kernel
theorem d_Model_forget_85 : decode prog_10_method_22_code 85 = .ok (.iload_n 3, 1) := by decide +kernel
theorem d_Model_forget_86 : decode prog_10_method_22_code 86 = .ok (.aload_n 0, 1) := by decide +kernel
theorem d_Model_forget_87 : decode prog_10_method_22_code 87 = .ok (.getfield 47, 3) := by decide +kernel
theorem d_Model_forget_90 : decode prog_10_method_22_code 90 = .ok (.aload_n 0, 1) := by decide +kernel
theorem d_Model_forget_91 : decode prog_10_method_22_code 91 = .ok (.getfield 170, 3) := by decide +kernel
theorem d_Model_forget_94 : decode prog_10_method_22_code 94 = .ok (.laload, 1) := by decide +kernel
theorem d_Model_forget_95 : decode prog_10_method_22_code 95 = .ok (.lastore, 1) := by decide +kernel
theorem d_Model_forget_96 : decode prog_10_method_22_code 96 = .ok (.lload 4, 2) := by decide +kernel
theorem d_Model_forget_98 : decode prog_10_method_22_code 98 = .ok (.lreturn, 1) := by decide +kernel
abbrev y_Model_stop : MethodName := ⟨"PermitRulesModel", "stop", "(I)V"⟩
abbrev cw_Model_stop : Cond := .code y_Model_stop prog_10_method_23_code 2 none
theorem d_Model_stop_0 : decode prog_10_method_23_code 0 = .ok (.aload_n 0, 1) := by decide +kernel
theorem d_Model_stop_1 : decode prog_10_method_23_code 1 = .ok (.aload_n 0, 1) := by decide +kernel
theorem d_Model_stop_2 : decode prog_10_method_23_code 2 = .ok (.getfield 186, 3) := by decide +kernel
theorem d_Model_stop_5 : decode prog_10_method_23_code 5 = .ok (.ifCond .ne 7, 3) := by decide +kernel
theorem d_Model_stop_8 : decode prog_10_method_23_code 8 = .ok (.iload_n 1, 1) := by decide +kernel
theorem d_Model_stop_9 : decode prog_10_method_23_code 9 = .ok (.goto 7, 3) := by decide +kernel
theorem d_Model_stop_12 : decode prog_10_method_23_code 12 = .ok (.aload_n 0, 1) := by decide +kernel
theorem d_Model_stop_13 : decode prog_10_method_23_code 13 = .ok (.getfield 186, 3) := by decide +kernel
theorem d_Model_stop_16 : decode prog_10_method_23_code 16 = .ok (.putfield 186, 3) := by decide +kernel
theorem d_Model_stop_19 : decode prog_10_method_23_code 19 = .ok (.return_, 1) := by decide +kernel
abbrev y_Model_times : MethodName := ⟨"PermitRulesModel", "times", "(JJ)J"⟩
abbrev cw_Model_times : Cond := .code y_Model_times prog_10_method_24_code 8 (some .long)
theorem d_Model_times_0 : decode prog_10_method_24_code 0 = .ok (.lload_n 1, 1) := by decide +kernel
theorem d_Model_times_1 : decode prog_10_method_24_code 1 = .ok (.lload_n 3, 1) := by decide +kernel
theorem d_Model_times_2 : decode prog_10_method_24_code 2 = .ok (.lmul, 1) := by decide +kernel
theorem d_Model_times_3 : decode prog_10_method_24_code 3 = .ok (.lstore 5, 2) := by decide +kernel
theorem d_Model_times_5 : decode prog_10_method_24_code 5 = .ok (.lload_n 1, 1) := by decide +kernel
theorem d_Model_times_6 : decode prog_10_method_24_code 6 = .ok (.lconst 0, 1) := by decide +kernel
theorem d_Model_times_7 : decode prog_10_method_24_code 7 = .ok (.lcmp, 1) := by decide +kernel
theorem d_Model_times_8 : decode prog_10_method_24_code 8 = .ok (.ifCond .eq 28, 3) := by decide +kernel
theorem d_Model_times_11 : decode prog_10_method_24_code 11 = .ok (.lload 5, 2) := by decide +kernel
theorem d_Model_times_13 : decode prog_10_method_24_code 13 = .ok (.lload_n 1, 1) := by decide +kernel
theorem d_Model_times_14 : decode prog_10_method_24_code 14 = .ok (.ldiv, 1) := by decide +kernel
theorem d_Model_times_15 : decode prog_10_method_24_code 15 = .ok (.lload_n 3, 1) := by decide +kernel
theorem d_Model_times_16 : decode prog_10_method_24_code 16 = .ok (.lcmp, 1) := by decide +kernel
theorem d_Model_times_17 : decode prog_10_method_24_code 17 = .ok (.ifCond .ne 23, 3) := by decide +kernel
theorem d_Model_times_20 : decode prog_10_method_24_code 20 = .ok (.lload_n 1, 1) := by decide +kernel
theorem d_Model_times_21 : decode prog_10_method_24_code 21 = .ok (.ldc2_w 189, 3) := by decide +kernel
theorem d_Model_times_24 : decode prog_10_method_24_code 24 = .ok (.lcmp, 1) := by decide +kernel
theorem d_Model_times_25 : decode prog_10_method_24_code 25 = .ok (.ifCond .ne 11, 3) := by decide +kernel
theorem d_Model_times_28 : decode prog_10_method_24_code 28 = .ok (.lload_n 3, 1) := by decide +kernel
theorem d_Model_times_29 : decode prog_10_method_24_code 29 = .ok (.ldc2_w 191, 3) := by decide +kernel
theorem d_Model_times_32 : decode prog_10_method_24_code 32 = .ok (.lcmp, 1) := by decide +kernel
theorem d_Model_times_33 : decode prog_10_method_24_code 33 = .ok (.ifCond .eq 7, 3) := by decide +kernel
theorem d_Model_times_36 : decode prog_10_method_24_code 36 = .ok (.iconst 1, 1) := by decide +kernel
theorem d_Model_times_37 : decode prog_10_method_24_code 37 = .ok (.goto 4, 3) := by decide +kernel
theorem d_Model_times_40 : decode prog_10_method_24_code 40 = .ok (.iconst 0, 1) := by decide +kernel
theorem d_Model_times_41 : decode prog_10_method_24_code 41 = .ok (.istore 7, 2) := by decide +kernel
theorem d_Model_times_43 : decode prog_10_method_24_code 43 = .ok (.iload 7, 2) := by decide +kernel
theorem d_Model_times_45 : decode prog_10_method_24_code 45 = .ok (.ifCond .ne 8, 3) := by decide +kernel
theorem d_Model_times_48 : decode prog_10_method_24_code 48 = .ok (.aload_n 0, 1) := by decide +kernel
theorem d_Model_times_49 : decode prog_10_method_24_code 49 = .ok (.iconst 2, 1) := by decide +kernel
theorem d_Model_times_50 : decode prog_10_method_24_code 50 = .ok (.invokevirtual 193, 3) := by decide +kernel
theorem d_Model_times_53 : decode prog_10_method_24_code 53 = .ok (.lload 5, 2) := by decide +kernel
theorem d_Model_times_55 : decode prog_10_method_24_code 55 = .ok (.lreturn, 1) := by decide +kernel
abbrev y_Model_plus : MethodName := ⟨"PermitRulesModel", "plus", "(JJ)J"⟩
abbrev cw_Model_plus : Cond := .code y_Model_plus prog_10_method_25_code 7 (some .long)
theorem d_Model_plus_0 : decode prog_10_method_25_code 0 = .ok (.lload_n 1, 1) := by decide +kernel
theorem d_Model_plus_1 : decode prog_10_method_25_code 1 = .ok (.lload_n 3, 1) := by decide +kernel
theorem d_Model_plus_2 : decode prog_10_method_25_code 2 = .ok (.ladd, 1) := by decide +kernel
theorem d_Model_plus_3 : decode prog_10_method_25_code 3 = .ok (.lstore 5, 2) := by decide +kernel
theorem d_Model_plus_5 : decode prog_10_method_25_code 5 = .ok (.lload_n 1, 1) := by decide +kernel
theorem d_Model_plus_6 : decode prog_10_method_25_code 6 = .ok (.lload 5, 2) := by decide +kernel
theorem d_Model_plus_8 : decode prog_10_method_25_code 8 = .ok (.lxor, 1) := by decide +kernel
theorem d_Model_plus_9 : decode prog_10_method_25_code 9 = .ok (.lload_n 3, 1) := by decide +kernel
theorem d_Model_plus_10 : decode prog_10_method_25_code 10 = .ok (.lload 5, 2) := by decide +kernel
theorem d_Model_plus_12 : decode prog_10_method_25_code 12 = .ok (.lxor, 1) := by decide +kernel
theorem d_Model_plus_13 : decode prog_10_method_25_code 13 = .ok (.land, 1) := by decide +kernel
theorem d_Model_plus_14 : decode prog_10_method_25_code 14 = .ok (.lconst 0, 1) := by decide +kernel
theorem d_Model_plus_15 : decode prog_10_method_25_code 15 = .ok (.lcmp, 1) := by decide +kernel
theorem d_Model_plus_16 : decode prog_10_method_25_code 16 = .ok (.ifCond .ge 8, 3) := by decide +kernel
theorem d_Model_plus_19 : decode prog_10_method_25_code 19 = .ok (.aload_n 0, 1) := by decide +kernel
theorem d_Model_plus_20 : decode prog_10_method_25_code 20 = .ok (.iconst 2, 1) := by decide +kernel
theorem d_Model_plus_21 : decode prog_10_method_25_code 21 = .ok (.invokevirtual 193, 3) := by decide +kernel
theorem d_Model_plus_24 : decode prog_10_method_25_code 24 = .ok (.lload 5, 2) := by decide +kernel
theorem d_Model_plus_26 : decode prog_10_method_25_code 26 = .ok (.lreturn, 1) := by decide +kernel
abbrev y_Model_less : MethodName := ⟨"PermitRulesModel", "less", "(JJ)J"⟩
abbrev cw_Model_less : Cond := .code y_Model_less prog_10_method_26_code 7 (some .long)
theorem d_Model_less_0 : decode prog_10_method_26_code 0 = .ok (.lload_n 1, 1) := by decide +kernel
theorem d_Model_less_1 : decode prog_10_method_26_code 1 = .ok (.lload_n 3, 1) := by decide +kernel
theorem d_Model_less_2 : decode prog_10_method_26_code 2 = .ok (.lsub, 1) := by decide +kernel
theorem d_Model_less_3 : decode prog_10_method_26_code 3 = .ok (.lstore 5, 2) := by decide +kernel
theorem d_Model_less_5 : decode prog_10_method_26_code 5 = .ok (.lload_n 1, 1) := by decide +kernel
theorem d_Model_less_6 : decode prog_10_method_26_code 6 = .ok (.lload_n 3, 1) := by decide +kernel
theorem d_Model_less_7 : decode prog_10_method_26_code 7 = .ok (.lxor, 1) := by decide +kernel
theorem d_Model_less_8 : decode prog_10_method_26_code 8 = .ok (.lload_n 1, 1) := by decide +kernel
theorem d_Model_less_9 : decode prog_10_method_26_code 9 = .ok (.lload 5, 2) := by decide +kernel
theorem d_Model_less_11 : decode prog_10_method_26_code 11 = .ok (.lxor, 1) := by decide +kernel
theorem d_Model_less_12 : decode prog_10_method_26_code 12 = .ok (.land, 1) := by decide +kernel
theorem d_Model_less_13 : decode prog_10_method_26_code 13 = .ok (.lconst 0, 1) := by decide +kernel
theorem d_Model_less_14 : decode prog_10_method_26_code 14 = .ok (.lcmp, 1) := by decide +kernel
theorem d_Model_less_15 : decode prog_10_method_26_code 15 = .ok (.ifCond .ge 8, 3) := by decide +kernel
theorem d_Model_less_18 : decode prog_10_method_26_code 18 = .ok (.aload_n 0, 1) := by decide +kernel
theorem d_Model_less_19 : decode prog_10_method_26_code 19 = .ok (.iconst 2, 1) := by decide +kernel
theorem d_Model_less_20 : decode prog_10_method_26_code 20 = .ok (.invokevirtual 193, 3) := by decide +kernel
theorem d_Model_less_23 : decode prog_10_method_26_code 23 = .ok (.lload 5, 2) := by decide +kernel
theorem d_Model_less_25 : decode prog_10_method_26_code 25 = .ok (.lreturn, 1) := by decide +kernel
abbrev y_Model_give : MethodName := ⟨"PermitRulesModel", "give", "(JJ)V"⟩
abbrev cw_Model_give : Cond := .code y_Model_give prog_10_method_27_code 13 none
theorem d_Model_give_0 : decode prog_10_method_27_code 0 = .ok (.aload_n 0, 1) := by decide +kernel
theorem d_Model_give_1 : decode prog_10_method_27_code 1 = .ok (.getfield 186, 3) := by decide +kernel
theorem d_Model_give_4 : decode prog_10_method_27_code 4 = .ok (.ifCond .le 4, 3) := by decide +kernel
theorem d_Model_give_7 : decode prog_10_method_27_code 7 = .ok (.return_, 1) := by decide +kernel
theorem d_Model_give_8 : decode prog_10_method_27_code 8 = .ok (.lload_n 1, 1) := by decide +kernel
theorem d_Model_give_9 : decode prog_10_method_27_code 9 = .ok (.lstore 5, 2) := by decide +kernel
theorem d_Model_give_11 : decode prog_10_method_27_code 11 = .ok (.lload_n 3, 1) := by decide +kernel
theorem d_Model_give_12 : decode prog_10_method_27_code 12 = .ok (.lstore 7, 2) := by decide +kernel
theorem d_Model_give_14 : decode prog_10_method_27_code 14 = .ok (.lload 7, 2) := by decide +kernel
theorem d_Model_give_16 : decode prog_10_method_27_code 16 = .ok (.lconst 0, 1) := by decide +kernel
theorem d_Model_give_17 : decode prog_10_method_27_code 17 = .ok (.lcmp, 1) := by decide +kernel
theorem d_Model_give_18 : decode prog_10_method_27_code 18 = .ok (.ifCond .eq 21, 3) := by decide +kernel
theorem d_Model_give_21 : decode prog_10_method_27_code 21 = .ok (.lload 5, 2) := by decide +kernel
theorem d_Model_give_23 : decode prog_10_method_27_code 23 = .ok (.lload 7, 2) := by decide +kernel
theorem d_Model_give_25 : decode prog_10_method_27_code 25 = .ok (.lrem, 1) := by decide +kernel
theorem d_Model_give_26 : decode prog_10_method_27_code 26 = .ok (.lstore 9, 2) := by decide +kernel
theorem d_Model_give_28 : decode prog_10_method_27_code 28 = .ok (.lload 7, 2) := by decide +kernel
theorem d_Model_give_30 : decode prog_10_method_27_code 30 = .ok (.lstore 5, 2) := by decide +kernel
theorem d_Model_give_32 : decode prog_10_method_27_code 32 = .ok (.lload 9, 2) := by decide +kernel
theorem d_Model_give_34 : decode prog_10_method_27_code 34 = .ok (.lstore 7, 2) := by decide +kernel
theorem d_Model_give_36 : decode prog_10_method_27_code 36 = .ok (.goto (-22), 3) := by decide +kernel
theorem d_Model_give_39 : decode prog_10_method_27_code 39 = .ok (.lload 5, 2) := by decide +kernel
theorem d_Model_give_41 : decode prog_10_method_27_code 41 = .ok (.lconst 0, 1) := by decide +kernel
theorem d_Model_give_42 : decode prog_10_method_27_code 42 = .ok (.lcmp, 1) := by decide +kernel
theorem d_Model_give_43 : decode prog_10_method_27_code 43 = .ok (.ifCond .ge 18, 3) := by decide +kernel
theorem d_Model_give_46 : decode prog_10_method_27_code 46 = .ok (.lload 5, 2) := by decide +kernel
theorem d_Model_give_48 : decode prog_10_method_27_code 48 = .ok (.ldc2_w 191, 3) := by decide +kernel
theorem d_Model_give_51 : decode prog_10_method_27_code 51 = .ok (.lcmp, 1) := by decide +kernel
theorem d_Model_give_52 : decode prog_10_method_27_code 52 = .ok (.ifCond .eq 9, 3) := by decide +kernel
theorem d_Model_give_55 : decode prog_10_method_27_code 55 = .ok (.lload 5, 2) := by decide +kernel
theorem d_Model_give_57 : decode prog_10_method_27_code 57 = .ok (.lneg, 1) := by decide +kernel
theorem d_Model_give_58 : decode prog_10_method_27_code 58 = .ok (.goto 5, 3) := by decide +kernel
theorem d_Model_give_61 : decode prog_10_method_27_code 61 = .ok (.lload 5, 2) := by decide +kernel
theorem d_Model_give_63 : decode prog_10_method_27_code 63 = .ok (.lstore 5, 2) := by decide +kernel
theorem d_Model_give_65 : decode prog_10_method_27_code 65 = .ok (.lload_n 1, 1) := by decide +kernel
theorem d_Model_give_66 : decode prog_10_method_27_code 66 = .ok (.lload 5, 2) := by decide +kernel
theorem d_Model_give_68 : decode prog_10_method_27_code 68 = .ok (.ldiv, 1) := by decide +kernel
theorem d_Model_give_69 : decode prog_10_method_27_code 69 = .ok (.lstore 9, 2) := by decide +kernel
theorem d_Model_give_71 : decode prog_10_method_27_code 71 = .ok (.lload_n 3, 1) := by decide +kernel
theorem d_Model_give_72 : decode prog_10_method_27_code 72 = .ok (.lload 5, 2) := by decide +kernel
theorem d_Model_give_74 : decode prog_10_method_27_code 74 = .ok (.ldiv, 1) := by decide +kernel
theorem d_Model_give_75 : decode prog_10_method_27_code 75 = .ok (.lstore 11, 2) := by decide +kernel
theorem d_Model_give_77 : decode prog_10_method_27_code 77 = .ok (.lload 11, 2) := by decide +kernel
theorem d_Model_give_79 : decode prog_10_method_27_code 79 = .ok (.lconst 0, 1) := by decide +kernel
theorem d_Model_give_80 : decode prog_10_method_27_code 80 = .ok (.lcmp, 1) := by decide +kernel
theorem d_Model_give_81 : decode prog_10_method_27_code 81 = .ok (.ifCond .ge 21, 3) := by decide +kernel
theorem d_Model_give_84 : decode prog_10_method_27_code 84 = .ok (.aload_n 0, 1) := by decide +kernel
theorem d_Model_give_85 : decode prog_10_method_27_code 85 = .ok (.lconst 0, 1) := by decide +kernel
theorem d_Model_give_86 : decode prog_10_method_27_code 86 = .ok (.lload 9, 2) := by decide +kernel
theorem d_Model_give_88 : decode prog_10_method_27_code 88 = .ok (.invokevirtual 196, 3) := by decide +kernel
theorem d_Model_give_91 : decode prog_10_method_27_code 91 = .ok (.lstore 9, 2) := by decide +kernel
theorem d_Model_give_93 : decode prog_10_method_27_code 93 = .ok (.aload_n 0, 1) := by decide +kernel
theorem d_Model_give_94 : decode prog_10_method_27_code 94 = .ok (.lconst 0, 1) := by decide +kernel
theorem d_Model_give_95 : decode prog_10_method_27_code 95 = .ok (.lload 11, 2) := by decide +kernel
theorem d_Model_give_97 : decode prog_10_method_27_code 97 = .ok (.invokevirtual 196, 3) := by decide +kernel
theorem d_Model_give_100 : decode prog_10_method_27_code 100 = .ok (.lstore 11, 2) := by decide +kernel
theorem d_Model_give_102 : decode prog_10_method_27_code 102 = .ok (.aload_n 0, 1) := by decide +kernel
theorem d_Model_give_103 : decode prog_10_method_27_code 103 = .ok (.getfield 50, 3) := by decide +kernel
theorem d_Model_give_106 : decode prog_10_method_27_code 106 = .ok (.aload_n 0, 1) := by decide +kernel
theorem d_Model_give_107 : decode prog_10_method_27_code 107 = .ok (.getfield 200, 3) := by decide +kernel
theorem d_Model_give_110 : decode prog_10_method_27_code 110 = .ok (.lload 9, 2) := by decide +kernel
theorem d_Model_give_112 : decode prog_10_method_27_code 112 = .ok (.lastore, 1) := by decide +kernel
theorem d_Model_give_113 : decode prog_10_method_27_code 113 = .ok (.aload_n 0, 1) := by decide +kernel
theorem d_Model_give_114 : decode prog_10_method_27_code 114 = .ok (.getfield 53, 3) := by decide +kernel
theorem d_Model_give_117 : decode prog_10_method_27_code 117 = .ok (.aload_n 0, 1) := by decide +kernel
theorem d_Model_give_118 : decode prog_10_method_27_code 118 = .ok (.getfield 200, 3) := by decide +kernel
theorem d_Model_give_121 : decode prog_10_method_27_code 121 = .ok (.lload 11, 2) := by decide +kernel
theorem d_Model_give_123 : decode prog_10_method_27_code 123 = .ok (.lastore, 1) := by decide +kernel
theorem d_Model_give_124 : decode prog_10_method_27_code 124 = .ok (.aload_n 0, 1) := by decide +kernel
theorem d_Model_give_125 : decode prog_10_method_27_code 125 = .ok (.dup, 1) := by decide +kernel
theorem d_Model_give_126 : decode prog_10_method_27_code 126 = .ok (.getfield 200, 3) := by decide +kernel
theorem d_Model_give_129 : decode prog_10_method_27_code 129 = .ok (.iconst 1, 1) := by decide +kernel
theorem d_Model_give_130 : decode prog_10_method_27_code 130 = .ok (.iadd, 1) := by decide +kernel
theorem d_Model_give_131 : decode prog_10_method_27_code 131 = .ok (.putfield 200, 3) := by decide +kernel
theorem d_Model_give_134 : decode prog_10_method_27_code 134 = .ok (.return_, 1) := by decide +kernel
abbrev y_Model_operate : MethodName := ⟨"PermitRulesModel", "operate", "(I)V"⟩
abbrev cw_Model_operate : Cond := .code y_Model_operate prog_10_method_28_code 10 none
theorem d_Model_operate_0 : decode prog_10_method_28_code 0 = .ok (.aload_n 0, 1) := by decide +kernel
theorem d_Model_operate_1 : decode prog_10_method_28_code 1 = .ok (.getfield 50, 3) := by decide +kernel
theorem d_Model_operate_4 : decode prog_10_method_28_code 4 = .ok (.aload_n 0, 1) := by decide +kernel
theorem d_Model_operate_5 : decode prog_10_method_28_code 5 = .ok (.getfield 200, 3) := by decide +kernel
theorem d_Model_operate_8 : decode prog_10_method_28_code 8 = .ok (.iconst 2, 1) := by decide +kernel
theorem d_Model_operate_9 : decode prog_10_method_28_code 9 = .ok (.isub, 1) := by decide +kernel
theorem d_Model_operate_10 : decode prog_10_method_28_code 10 = .ok (.laload, 1) := by decide +kernel
theorem d_Model_operate_11 : decode prog_10_method_28_code 11 = .ok (.lstore_n 2, 1) := by decide +kernel
theorem d_Model_operate_12 : decode prog_10_method_28_code 12 = .ok (.aload_n 0, 1) := by decide +kernel
theorem d_Model_operate_13 : decode prog_10_method_28_code 13 = .ok (.getfield 53, 3) := by decide +kernel
theorem d_Model_operate_16 : decode prog_10_method_28_code 16 = .ok (.aload_n 0, 1) := by decide +kernel
theorem d_Model_operate_17 : decode prog_10_method_28_code 17 = .ok (.getfield 200, 3) := by decide +kernel
theorem d_Model_operate_20 : decode prog_10_method_28_code 20 = .ok (.iconst 2, 1) := by decide +kernel
theorem d_Model_operate_21 : decode prog_10_method_28_code 21 = .ok (.isub, 1) := by decide +kernel
theorem d_Model_operate_22 : decode prog_10_method_28_code 22 = .ok (.laload, 1) := by decide +kernel
theorem d_Model_operate_23 : decode prog_10_method_28_code 23 = .ok (.lstore 4, 2) := by decide +kernel
theorem d_Model_operate_25 : decode prog_10_method_28_code 25 = .ok (.aload_n 0, 1) := by decide +kernel
theorem d_Model_operate_26 : decode prog_10_method_28_code 26 = .ok (.getfield 50, 3) := by decide +kernel
theorem d_Model_operate_29 : decode prog_10_method_28_code 29 = .ok (.aload_n 0, 1) := by decide +kernel
theorem d_Model_operate_30 : decode prog_10_method_28_code 30 = .ok (.getfield 200, 3) := by decide +kernel
theorem d_Model_operate_33 : decode prog_10_method_28_code 33 = .ok (.iconst 1, 1) := by decide +kernel
theorem d_Model_operate_34 : decode prog_10_method_28_code 34 = .ok (.isub, 1) := by decide +kernel
theorem d_Model_operate_35 : decode prog_10_method_28_code 35 = .ok (.laload, 1) := by decide +kernel
theorem d_Model_operate_36 : decode prog_10_method_28_code 36 = .ok (.lstore 6, 2) := by decide +kernel
theorem d_Model_operate_38 : decode prog_10_method_28_code 38 = .ok (.aload_n 0, 1) := by decide +kernel
theorem d_Model_operate_39 : decode prog_10_method_28_code 39 = .ok (.getfield 53, 3) := by decide +kernel
theorem d_Model_operate_42 : decode prog_10_method_28_code 42 = .ok (.aload_n 0, 1) := by decide +kernel
theorem d_Model_operate_43 : decode prog_10_method_28_code 43 = .ok (.getfield 200, 3) := by decide +kernel
theorem d_Model_operate_46 : decode prog_10_method_28_code 46 = .ok (.iconst 1, 1) := by decide +kernel
theorem d_Model_operate_47 : decode prog_10_method_28_code 47 = .ok (.isub, 1) := by decide +kernel
theorem d_Model_operate_48 : decode prog_10_method_28_code 48 = .ok (.laload, 1) := by decide +kernel
theorem d_Model_operate_49 : decode prog_10_method_28_code 49 = .ok (.lstore 8, 2) := by decide +kernel
theorem d_Model_operate_51 : decode prog_10_method_28_code 51 = .ok (.aload_n 0, 1) := by decide +kernel
theorem d_Model_operate_52 : decode prog_10_method_28_code 52 = .ok (.aload_n 0, 1) := by decide +kernel
theorem d_Model_operate_53 : decode prog_10_method_28_code 53 = .ok (.getfield 200, 3) := by decide +kernel
theorem d_Model_operate_56 : decode prog_10_method_28_code 56 = .ok (.iconst 2, 1) := by decide +kernel
theorem d_Model_operate_57 : decode prog_10_method_28_code 57 = .ok (.isub, 1) := by decide +kernel
theorem d_Model_operate_58 : decode prog_10_method_28_code 58 = .ok (.putfield 200, 3) := by decide +kernel
theorem d_Model_operate_61 : decode prog_10_method_28_code 61 = .ok (.iload_n 1, 1) := by decide +kernel
theorem d_Model_operate_62 : decode prog_10_method_28_code 62 = .ok (.bipush 43, 2) := by decide +kernel
theorem d_Model_operate_64 : decode prog_10_method_28_code 64 = .ok (.if_icmp .ne 37, 3) := by decide +kernel
theorem d_Model_operate_67 : decode prog_10_method_28_code 67 = .ok (.aload_n 0, 1) := by decide +kernel
theorem d_Model_operate_68 : decode prog_10_method_28_code 68 = .ok (.aload_n 0, 1) := by decide +kernel
theorem d_Model_operate_69 : decode prog_10_method_28_code 69 = .ok (.aload_n 0, 1) := by decide +kernel
theorem d_Model_operate_70 : decode prog_10_method_28_code 70 = .ok (.lload_n 2, 1) := by decide +kernel
theorem d_Model_operate_71 : decode prog_10_method_28_code 71 = .ok (.lload 8, 2) := by decide +kernel
theorem d_Model_operate_73 : decode prog_10_method_28_code 73 = .ok (.invokevirtual 203, 3) := by decide +kernel
theorem d_Model_operate_76 : decode prog_10_method_28_code 76 = .ok (.aload_n 0, 1) := by decide +kernel
theorem d_Model_operate_77 : decode prog_10_method_28_code 77 = .ok (.lload 6, 2) := by decide +kernel
theorem d_Model_operate_79 : decode prog_10_method_28_code 79 = .ok (.lload 4, 2) := by decide +kernel
theorem d_Model_operate_81 : decode prog_10_method_28_code 81 = .ok (.invokevirtual 203, 3) := by decide +kernel
theorem d_Model_operate_84 : decode prog_10_method_28_code 84 = .ok (.invokevirtual 206, 3) := by decide +kernel
theorem d_Model_operate_87 : decode prog_10_method_28_code 87 = .ok (.aload_n 0, 1) := by decide +kernel
theorem d_Model_operate_88 : decode prog_10_method_28_code 88 = .ok (.lload 4, 2) := by decide +kernel
theorem d_Model_operate_90 : decode prog_10_method_28_code 90 = .ok (.lload 8, 2) := by decide +kernel
theorem d_Model_operate_92 : decode prog_10_method_28_code 92 = .ok (.invokevirtual 203, 3) := by decide +kernel
theorem d_Model_operate_95 : decode prog_10_method_28_code 95 = .ok (.invokevirtual 209, 3) := by decide +kernel
theorem d_Model_operate_98 : decode prog_10_method_28_code 98 = .ok (.goto 105, 3) := by decide +kernel
theorem d_Model_operate_101 : decode prog_10_method_28_code 101 = .ok (.iload_n 1, 1) := by decide +kernel
theorem d_Model_operate_102 : decode prog_10_method_28_code 102 = .ok (.bipush 45, 2) := by decide +kernel
theorem d_Model_operate_104 : decode prog_10_method_28_code 104 = .ok (.if_icmp .ne 37, 3) := by decide +kernel
theorem d_Model_operate_107 : decode prog_10_method_28_code 107 = .ok (.aload_n 0, 1) := by decide +kernel
theorem d_Model_operate_108 : decode prog_10_method_28_code 108 = .ok (.aload_n 0, 1) := by decide +kernel
theorem d_Model_operate_109 : decode prog_10_method_28_code 109 = .ok (.aload_n 0, 1) := by decide +kernel
theorem d_Model_operate_110 : decode prog_10_method_28_code 110 = .ok (.lload_n 2, 1) := by decide +kernel
theorem d_Model_operate_111 : decode prog_10_method_28_code 111 = .ok (.lload 8, 2) := by decide +kernel
theorem d_Model_operate_113 : decode prog_10_method_28_code 113 = .ok (.invokevirtual 203, 3) := by decide +kernel
theorem d_Model_operate_116 : decode prog_10_method_28_code 116 = .ok (.aload_n 0, 1) := by decide +kernel
theorem d_Model_operate_117 : decode prog_10_method_28_code 117 = .ok (.lload 6, 2) := by decide +kernel
theorem d_Model_operate_119 : decode prog_10_method_28_code 119 = .ok (.lload 4, 2) := by decide +kernel
theorem d_Model_operate_121 : decode prog_10_method_28_code 121 = .ok (.invokevirtual 203, 3) := by decide +kernel
theorem d_Model_operate_124 : decode prog_10_method_28_code 124 = .ok (.invokevirtual 196, 3) := by decide +kernel
theorem d_Model_operate_127 : decode prog_10_method_28_code 127 = .ok (.aload_n 0, 1) := by decide +kernel
theorem d_Model_operate_128 : decode prog_10_method_28_code 128 = .ok (.lload 4, 2) := by decide +kernel
theorem d_Model_operate_130 : decode prog_10_method_28_code 130 = .ok (.lload 8, 2) := by decide +kernel
theorem d_Model_operate_132 : decode prog_10_method_28_code 132 = .ok (.invokevirtual 203, 3) := by decide +kernel
theorem d_Model_operate_135 : decode prog_10_method_28_code 135 = .ok (.invokevirtual 209, 3) := by decide +kernel
theorem d_Model_operate_138 : decode prog_10_method_28_code 138 = .ok (.goto 65, 3) := by decide +kernel
theorem d_Model_operate_141 : decode prog_10_method_28_code 141 = .ok (.iload_n 1, 1) := by decide +kernel
theorem d_Model_operate_142 : decode prog_10_method_28_code 142 = .ok (.bipush 42, 2) := by decide +kernel
theorem d_Model_operate_144 : decode prog_10_method_28_code 144 = .ok (.if_icmp .ne 25, 3) := by decide +kernel
theorem d_Model_operate_147 : decode prog_10_method_28_code 147 = .ok (.aload_n 0, 1) := by decide +kernel
theorem d_Model_operate_148 : decode prog_10_method_28_code 148 = .ok (.aload_n 0, 1) := by decide +kernel
theorem d_Model_operate_149 : decode prog_10_method_28_code 149 = .ok (.lload_n 2, 1) := by decide +kernel
theorem d_Model_operate_150 : decode prog_10_method_28_code 150 = .ok (.lload 6, 2) := by decide +kernel
theorem d_Model_operate_152 : decode prog_10_method_28_code 152 = .ok (.invokevirtual 203, 3) := by decide +kernel
theorem d_Model_operate_155 : decode prog_10_method_28_code 155 = .ok (.aload_n 0, 1) := by decide +kernel
theorem d_Model_operate_156 : decode prog_10_method_28_code 156 = .ok (.lload 4, 2) := by decide +kernel
theorem d_Model_operate_158 : decode prog_10_method_28_code 158 = .ok (.lload 8, 2) := by decide +kernel
theorem d_Model_operate_160 : decode prog_10_method_28_code 160 = .ok (.invokevirtual 203, 3) := by decide +kernel
theorem d_Model_operate_163 : decode prog_10_method_28_code 163 = .ok (.invokevirtual 209, 3) := by decide +kernel
theorem d_Model_operate_166 : decode prog_10_method_28_code 166 = .ok (.goto 37, 3) := by decide +kernel
theorem d_Model_operate_169 : decode prog_10_method_28_code 169 = .ok (.lload 6, 2) := by decide +kernel
theorem d_Model_operate_171 : decode prog_10_method_28_code 171 = .ok (.lconst 0, 1) := by decide +kernel
theorem d_Model_operate_172 : decode prog_10_method_28_code 172 = .ok (.lcmp, 1) := by decide +kernel
theorem d_Model_operate_173 : decode prog_10_method_28_code 173 = .ok (.ifCond .ne 11, 3) := by decide +kernel
theorem d_Model_operate_176 : decode prog_10_method_28_code 176 = .ok (.aload_n 0, 1) := by decide +kernel
theorem d_Model_operate_177 : decode prog_10_method_28_code 177 = .ok (.iconst 3, 1) := by decide +kernel
theorem d_Model_operate_178 : decode prog_10_method_28_code 178 = .ok (.invokevirtual 193, 3) := by decide +kernel
theorem d_Model_operate_181 : decode prog_10_method_28_code 181 = .ok (.goto 22, 3) := by decide +kernel
theorem d_Model_operate_184 : decode prog_10_method_28_code 184 = .ok (.aload_n 0, 1) := by decide +kernel
theorem d_Model_operate_185 : decode prog_10_method_28_code 185 = .ok (.aload_n 0, 1) := by decide +kernel
theorem d_Model_operate_186 : decode prog_10_method_28_code 186 = .ok (.lload_n 2, 1) := by decide +kernel
theorem d_Model_operate_187 : decode prog_10_method_28_code 187 = .ok (.lload 8, 2) := by decide +kernel
theorem d_Model_operate_189 : decode prog_10_method_28_code 189 = .ok (.invokevirtual 203, 3) := by decide +kernel
theorem d_Model_operate_192 : decode prog_10_method_28_code 192 = .ok (.aload_n 0, 1) := by decide +kernel
theorem d_Model_operate_193 : decode prog_10_method_28_code 193 = .ok (.lload 4, 2) := by decide +kernel
theorem d_Model_operate_195 : decode prog_10_method_28_code 195 = .ok (.lload 6, 2) := by decide +kernel
theorem d_Model_operate_197 : decode prog_10_method_28_code 197 = .ok (.invokevirtual 203, 3) := by decide +kernel
theorem d_Model_operate_200 : decode prog_10_method_28_code 200 = .ok (.invokevirtual 209, 3) := by decide +kernel
theorem d_Model_operate_203 : decode prog_10_method_28_code 203 = .ok (.return_, 1) := by decide +kernel
abbrev y_Model_reckon : MethodName := ⟨"PermitRulesModel", "reckon", "(II)V"⟩
abbrev cw_Model_reckon : Cond := .code y_Model_reckon prog_10_method_29_code 6 none
theorem d_Model_reckon_0 : decode prog_10_method_29_code 0 = .ok (.aload_n 0, 1) := by decide +kernel
theorem d_Model_reckon_1 : decode prog_10_method_29_code 1 = .ok (.iconst 0, 1) := by decide +kernel
theorem d_Model_reckon_2 : decode prog_10_method_29_code 2 = .ok (.putfield 200, 3) := by decide +kernel
theorem d_Model_reckon_5 : decode prog_10_method_29_code 5 = .ok (.iload_n 1, 1) := by decide +kernel
theorem d_Model_reckon_6 : decode prog_10_method_29_code 6 = .ok (.istore_n 3, 1) := by decide +kernel
theorem d_Model_reckon_7 : decode prog_10_method_29_code 7 = .ok (.iload_n 3, 1) := by decide +kernel
theorem d_Model_reckon_8 : decode prog_10_method_29_code 8 = .ok (.iload_n 2, 1) := by decide +kernel
theorem d_Model_reckon_9 : decode prog_10_method_29_code 9 = .ok (.if_icmp .ge 196, 3) := by decide +kernel
theorem d_Model_reckon_12 : decode prog_10_method_29_code 12 = .ok (.aload_n 0, 1) := by decide +kernel
theorem d_Model_reckon_13 : decode prog_10_method_29_code 13 = .ok (.getfield 186, 3) := by decide +kernel
theorem d_Model_reckon_16 : decode prog_10_method_29_code 16 = .ok (.ifCond .ne 189, 3) := by decide +kernel
theorem d_Model_reckon_19 : decode prog_10_method_29_code 19 = .ok (.aload_n 0, 1) := by decide +kernel
theorem d_Model_reckon_20 : decode prog_10_method_29_code 20 = .ok (.getfield 35, 3) := by decide +kernel
theorem d_Model_reckon_23 : decode prog_10_method_29_code 23 = .ok (.iload_n 3, 1) := by decide +kernel
theorem d_Model_reckon_24 : decode prog_10_method_29_code 24 = .ok (.iaload, 1) := by decide +kernel
theorem d_Model_reckon_25 : decode prog_10_method_29_code 25 = .ok (.istore 4, 2) := by decide +kernel
theorem d_Model_reckon_27 : decode prog_10_method_29_code 27 = .ok (.iload 4, 2) := by decide +kernel
theorem d_Model_reckon_29 : decode prog_10_method_29_code 29 = .ok (.iconst 1, 1) := by decide +kernel
theorem d_Model_reckon_30 : decode prog_10_method_29_code 30 = .ok (.if_icmp .ne 17, 3) := by decide +kernel
theorem d_Model_reckon_33 : decode prog_10_method_29_code 33 = .ok (.aload_n 0, 1) := by decide +kernel
theorem d_Model_reckon_34 : decode prog_10_method_29_code 34 = .ok (.aload_n 0, 1) := by decide +kernel
theorem d_Model_reckon_35 : decode prog_10_method_29_code 35 = .ok (.getfield 38, 3) := by decide +kernel
theorem d_Model_reckon_38 : decode prog_10_method_29_code 38 = .ok (.iload_n 3, 1) := by decide +kernel
theorem d_Model_reckon_39 : decode prog_10_method_29_code 39 = .ok (.laload, 1) := by decide +kernel
theorem d_Model_reckon_40 : decode prog_10_method_29_code 40 = .ok (.lconst 1, 1) := by decide +kernel
theorem d_Model_reckon_41 : decode prog_10_method_29_code 41 = .ok (.invokevirtual 209, 3) := by decide +kernel
theorem d_Model_reckon_44 : decode prog_10_method_29_code 44 = .ok (.goto 155, 3) := by decide +kernel
theorem d_Model_reckon_47 : decode prog_10_method_29_code 47 = .ok (.iload 4, 2) := by decide +kernel
theorem d_Model_reckon_49 : decode prog_10_method_29_code 49 = .ok (.iconst 2, 1) := by decide +kernel
theorem d_Model_reckon_50 : decode prog_10_method_29_code 50 = .ok (.if_icmp .ne 53, 3) := by decide +kernel
theorem d_Model_reckon_53 : decode prog_10_method_29_code 53 = .ok (.aload_n 0, 1) := by decide +kernel
theorem d_Model_reckon_54 : decode prog_10_method_29_code 54 = .ok (.aload_n 0, 1) := by decide +kernel
theorem d_Model_reckon_55 : decode prog_10_method_29_code 55 = .ok (.getfield 38, 3) := by decide +kernel
theorem d_Model_reckon_58 : decode prog_10_method_29_code 58 = .ok (.iload_n 3, 1) := by decide +kernel
theorem d_Model_reckon_59 : decode prog_10_method_29_code 59 = .ok (.laload, 1) := by decide +kernel
theorem d_Model_reckon_60 : decode prog_10_method_29_code 60 = .ok (.invokevirtual 173, 3) := by decide +kernel
theorem d_Model_reckon_63 : decode prog_10_method_29_code 63 = .ok (.istore 5, 2) := by decide +kernel
theorem d_Model_reckon_65 : decode prog_10_method_29_code 65 = .ok (.iload 5, 2) := by decide +kernel
theorem d_Model_reckon_67 : decode prog_10_method_29_code 67 = .ok (.ifCond .ge 21, 3) := by decide +kernel
theorem d_Model_reckon_70 : decode prog_10_method_29_code 70 = .ok (.aload_n 0, 1) := by decide +kernel
theorem d_Model_reckon_71 : decode prog_10_method_29_code 71 = .ok (.iconst 1, 1) := by decide +kernel
theorem d_Model_reckon_72 : decode prog_10_method_29_code 72 = .ok (.invokevirtual 193, 3) := by decide +kernel
theorem d_Model_reckon_75 : decode prog_10_method_29_code 75 = .ok (.aload_n 0, 1) := by decide +kernel
theorem d_Model_reckon_76 : decode prog_10_method_29_code 76 = .ok (.aload_n 0, 1) := by decide +kernel
theorem d_Model_reckon_77 : decode prog_10_method_29_code 77 = .ok (.getfield 38, 3) := by decide +kernel
theorem d_Model_reckon_80 : decode prog_10_method_29_code 80 = .ok (.iload_n 3, 1) := by decide +kernel
theorem d_Model_reckon_81 : decode prog_10_method_29_code 81 = .ok (.laload, 1) := by decide +kernel
theorem d_Model_reckon_82 : decode prog_10_method_29_code 82 = .ok (.putfield 213, 3) := by decide +kernel
theorem d_Model_reckon_85 : decode prog_10_method_29_code 85 = .ok (.goto 15, 3) := by decide +kernel
theorem d_Model_reckon_88 : decode prog_10_method_29_code 88 = .ok (.aload_n 0, 1) := by decide +kernel
theorem d_Model_reckon_89 : decode prog_10_method_29_code 89 = .ok (.aload_n 0, 1) := by decide +kernel
theorem d_Model_reckon_90 : decode prog_10_method_29_code 90 = .ok (.getfield 47, 3) := by decide +kernel
theorem d_Model_reckon_93 : decode prog_10_method_29_code 93 = .ok (.iload 5, 2) := by decide +kernel
theorem d_Model_reckon_95 : decode prog_10_method_29_code 95 = .ok (.laload, 1) := by decide +kernel
theorem d_Model_reckon_96 : decode prog_10_method_29_code 96 = .ok (.lconst 1, 1) := by decide +kernel
theorem d_Model_reckon_97 : decode prog_10_method_29_code 97 = .ok (.invokevirtual 209, 3) := by decide +kernel
theorem d_Model_reckon_100 : decode prog_10_method_29_code 100 = .ok (.goto 99, 3) := by decide +kernel
theorem d_Model_reckon_103 : decode prog_10_method_29_code 103 = .ok (.iload 4, 2) := by decide +kernel
theorem d_Model_reckon_105 : decode prog_10_method_29_code 105 = .ok (.bipush 78, 2) := by decide +kernel
theorem d_Model_reckon_107 : decode prog_10_method_29_code 107 = .ok (.if_icmp .ne 86, 3) := by decide +kernel
theorem d_Model_reckon_110 : decode prog_10_method_29_code 110 = .ok (.aload_n 0, 1) := by decide +kernel
theorem d_Model_reckon_111 : decode prog_10_method_29_code 111 = .ok (.getfield 50, 3) := by decide +kernel
theorem d_Model_reckon_114 : decode prog_10_method_29_code 114 = .ok (.aload_n 0, 1) := by decide +kernel
theorem d_Model_reckon_115 : decode prog_10_method_29_code 115 = .ok (.getfield 200, 3) := by decide +kernel
theorem d_Model_reckon_118 : decode prog_10_method_29_code 118 = .ok (.aload_n 0, 1) := by decide +kernel
theorem d_Model_reckon_119 : decode prog_10_method_29_code 119 = .ok (.getfield 50, 3) := by decide +kernel
theorem d_Model_reckon_122 : decode prog_10_method_29_code 122 = .ok (.aload_n 0, 1) := by decide +kernel
theorem d_Model_reckon_123 : decode prog_10_method_29_code 123 = .ok (.getfield 200, 3) := by decide +kernel
theorem d_Model_reckon_126 : decode prog_10_method_29_code 126 = .ok (.iconst 1, 1) := by decide +kernel
theorem d_Model_reckon_127 : decode prog_10_method_29_code 127 = .ok (.isub, 1) := by decide +kernel
theorem d_Model_reckon_128 : decode prog_10_method_29_code 128 = .ok (.laload, 1) := by decide +kernel
theorem d_Model_reckon_129 : decode prog_10_method_29_code 129 = .ok (.lastore, 1) := by decide +kernel
theorem d_Model_reckon_130 : decode prog_10_method_29_code 130 = .ok (.aload_n 0, 1) := by decide +kernel
theorem d_Model_reckon_131 : decode prog_10_method_29_code 131 = .ok (.getfield 53, 3) := by decide +kernel
theorem d_Model_reckon_134 : decode prog_10_method_29_code 134 = .ok (.aload_n 0, 1) := by decide +kernel
theorem d_Model_reckon_135 : decode prog_10_method_29_code 135 = .ok (.getfield 200, 3) := by decide +kernel
theorem d_Model_reckon_138 : decode prog_10_method_29_code 138 = .ok (.aload_n 0, 1) := by decide +kernel
theorem d_Model_reckon_139 : decode prog_10_method_29_code 139 = .ok (.getfield 53, 3) := by decide +kernel
theorem d_Model_reckon_142 : decode prog_10_method_29_code 142 = .ok (.aload_n 0, 1) := by decide +kernel
theorem d_Model_reckon_143 : decode prog_10_method_29_code 143 = .ok (.getfield 200, 3) := by decide +kernel
theorem d_Model_reckon_146 : decode prog_10_method_29_code 146 = .ok (.iconst 1, 1) := by decide +kernel
theorem d_Model_reckon_147 : decode prog_10_method_29_code 147 = .ok (.isub, 1) := by decide +kernel
theorem d_Model_reckon_148 : decode prog_10_method_29_code 148 = .ok (.laload, 1) := by decide +kernel
theorem d_Model_reckon_149 : decode prog_10_method_29_code 149 = .ok (.lastore, 1) := by decide +kernel
theorem d_Model_reckon_150 : decode prog_10_method_29_code 150 = .ok (.aload_n 0, 1) := by decide +kernel
theorem d_Model_reckon_151 : decode prog_10_method_29_code 151 = .ok (.getfield 50, 3) := by decide +kernel
theorem d_Model_reckon_154 : decode prog_10_method_29_code 154 = .ok (.aload_n 0, 1) := by decide +kernel
theorem d_Model_reckon_155 : decode prog_10_method_29_code 155 = .ok (.getfield 200, 3) := by decide +kernel
theorem d_Model_reckon_158 : decode prog_10_method_29_code 158 = .ok (.iconst 1, 1) := by decide +kernel
theorem d_Model_reckon_159 : decode prog_10_method_29_code 159 = .ok (.isub, 1) := by decide +kernel
theorem d_Model_reckon_160 : decode prog_10_method_29_code 160 = .ok (.lconst 0, 1) := by decide +kernel
theorem d_Model_reckon_161 : decode prog_10_method_29_code 161 = .ok (.lastore, 1) := by decide +kernel
theorem d_Model_reckon_162 : decode prog_10_method_29_code 162 = .ok (.aload_n 0, 1) := by decide +kernel
theorem d_Model_reckon_163 : decode prog_10_method_29_code 163 = .ok (.getfield 53, 3) := by decide +kernel
theorem d_Model_reckon_166 : decode prog_10_method_29_code 166 = .ok (.aload_n 0, 1) := by decide +kernel
theorem d_Model_reckon_167 : decode prog_10_method_29_code 167 = .ok (.getfield 200, 3) := by decide +kernel
theorem d_Model_reckon_170 : decode prog_10_method_29_code 170 = .ok (.iconst 1, 1) := by decide +kernel
theorem d_Model_reckon_171 : decode prog_10_method_29_code 171 = .ok (.isub, 1) := by decide +kernel
theorem d_Model_reckon_172 : decode prog_10_method_29_code 172 = .ok (.lconst 1, 1) := by decide +kernel
theorem d_Model_reckon_173 : decode prog_10_method_29_code 173 = .ok (.lastore, 1) := by decide +kernel
theorem d_Model_reckon_174 : decode prog_10_method_29_code 174 = .ok (.aload_n 0, 1) := by decide +kernel
theorem d_Model_reckon_175 : decode prog_10_method_29_code 175 = .ok (.dup, 1) := by decide +kernel
theorem d_Model_reckon_176 : decode prog_10_method_29_code 176 = .ok (.getfield 200, 3) := by decide +kernel
theorem d_Model_reckon_179 : decode prog_10_method_29_code 179 = .ok (.iconst 1, 1) := by decide +kernel
theorem d_Model_reckon_180 : decode prog_10_method_29_code 180 = .ok (.iadd, 1) := by decide +kernel
theorem d_Model_reckon_181 : decode prog_10_method_29_code 181 = .ok (.putfield 200, 3) := by decide +kernel
theorem d_Model_reckon_184 : decode prog_10_method_29_code 184 = .ok (.aload_n 0, 1) := by decide +kernel
theorem d_Model_reckon_185 : decode prog_10_method_29_code 185 = .ok (.bipush 45, 2) := by decide +kernel
theorem d_Model_reckon_187 : decode prog_10_method_29_code 187 = .ok (.invokevirtual 216, 3) := by decide +kernel
theorem d_Model_reckon_190 : decode prog_10_method_29_code 190 = .ok (.goto 9, 3) := by decide +kernel
theorem d_Model_reckon_193 : decode prog_10_method_29_code 193 = .ok (.aload_n 0, 1) := by decide +kernel
theorem d_Model_reckon_194 : decode prog_10_method_29_code 194 = .ok (.iload 4, 2) := by decide +kernel
theorem d_Model_reckon_196 : decode prog_10_method_29_code 196 = .ok (.invokevirtual 216, 3) := by decide +kernel
theorem d_Model_reckon_199 : decode prog_10_method_29_code 199 = .ok (.iinc 3 1, 3) := by decide +kernel
theorem d_Model_reckon_202 : decode prog_10_method_29_code 202 = .ok (.goto (-195), 3) := by decide +kernel
theorem d_Model_reckon_205 : decode prog_10_method_29_code 205 = .ok (.return_, 1) := by decide +kernel
abbrev y_Model_holds : MethodName := ⟨"PermitRulesModel", "holds", "(I)Z"⟩
abbrev cw_Model_holds : Cond := .code y_Model_holds prog_10_method_30_code 7 (some .boolean)
theorem d_Model_holds_0 : decode prog_10_method_30_code 0 = .ok (.aload_n 0, 1) := by decide +kernel
theorem d_Model_holds_1 : decode prog_10_method_30_code 1 = .ok (.lconst 0, 1) := by decide +kernel
theorem d_Model_holds_2 : decode prog_10_method_30_code 2 = .ok (.putfield 219, 3) := by decide +kernel
theorem d_Model_holds_5 : decode prog_10_method_30_code 5 = .ok (.aload_n 0, 1) := by decide +kernel
theorem d_Model_holds_6 : decode prog_10_method_30_code 6 = .ok (.lconst 0, 1) := by decide +kernel
theorem d_Model_holds_7 : decode prog_10_method_30_code 7 = .ok (.putfield 222, 3) := by decide +kernel
theorem d_Model_holds_10 : decode prog_10_method_30_code 10 = .ok (.aload_n 0, 1) := by decide +kernel
theorem d_Model_holds_11 : decode prog_10_method_30_code 11 = .ok (.lconst 0, 1) := by decide +kernel
theorem d_Model_holds_12 : decode prog_10_method_30_code 12 = .ok (.putfield 225, 3) := by decide +kernel
theorem d_Model_holds_15 : decode prog_10_method_30_code 15 = .ok (.aload_n 0, 1) := by decide +kernel
theorem d_Model_holds_16 : decode prog_10_method_30_code 16 = .ok (.lconst 0, 1) := by decide +kernel
theorem d_Model_holds_17 : decode prog_10_method_30_code 17 = .ok (.putfield 228, 3) := by decide +kernel
theorem d_Model_holds_20 : decode prog_10_method_30_code 20 = .ok (.aload_n 0, 1) := by decide +kernel
theorem d_Model_holds_21 : decode prog_10_method_30_code 21 = .ok (.aload_n 0, 1) := by decide +kernel
theorem d_Model_holds_22 : decode prog_10_method_30_code 22 = .ok (.getfield 26, 3) := by decide +kernel
theorem d_Model_holds_25 : decode prog_10_method_30_code 25 = .ok (.iload_n 1, 1) := by decide +kernel
theorem d_Model_holds_26 : decode prog_10_method_30_code 26 = .ok (.iaload, 1) := by decide +kernel
theorem d_Model_holds_27 : decode prog_10_method_30_code 27 = .ok (.aload_n 0, 1) := by decide +kernel
theorem d_Model_holds_28 : decode prog_10_method_30_code 28 = .ok (.getfield 29, 3) := by decide +kernel
theorem d_Model_holds_31 : decode prog_10_method_30_code 31 = .ok (.iload_n 1, 1) := by decide +kernel
theorem d_Model_holds_32 : decode prog_10_method_30_code 32 = .ok (.iaload, 1) := by decide +kernel
theorem d_Model_holds_33 : decode prog_10_method_30_code 33 = .ok (.invokevirtual 231, 3) := by decide +kernel
theorem d_Model_holds_36 : decode prog_10_method_30_code 36 = .ok (.aload_n 0, 1) := by decide +kernel
theorem d_Model_holds_37 : decode prog_10_method_30_code 37 = .ok (.getfield 186, 3) := by decide +kernel
theorem d_Model_holds_40 : decode prog_10_method_30_code 40 = .ok (.ifCond .le 5, 3) := by decide +kernel
theorem d_Model_holds_43 : decode prog_10_method_30_code 43 = .ok (.iconst 0, 1) := by decide +kernel
theorem d_Model_holds_44 : decode prog_10_method_30_code 44 = .ok (.ireturn, 1) := by decide +kernel
theorem d_Model_holds_45 : decode prog_10_method_30_code 45 = .ok (.aload_n 0, 1) := by decide +kernel
theorem d_Model_holds_46 : decode prog_10_method_30_code 46 = .ok (.aload_n 0, 1) := by decide +kernel
theorem d_Model_holds_47 : decode prog_10_method_30_code 47 = .ok (.getfield 50, 3) := by decide +kernel
theorem d_Model_holds_50 : decode prog_10_method_30_code 50 = .ok (.iconst 0, 1) := by decide +kernel
theorem d_Model_holds_51 : decode prog_10_method_30_code 51 = .ok (.laload, 1) := by decide +kernel
theorem d_Model_holds_52 : decode prog_10_method_30_code 52 = .ok (.putfield 219, 3) := by decide +kernel
theorem d_Model_holds_55 : decode prog_10_method_30_code 55 = .ok (.aload_n 0, 1) := by decide +kernel
theorem d_Model_holds_56 : decode prog_10_method_30_code 56 = .ok (.aload_n 0, 1) := by decide +kernel
theorem d_Model_holds_57 : decode prog_10_method_30_code 57 = .ok (.getfield 53, 3) := by decide +kernel
theorem d_Model_holds_60 : decode prog_10_method_30_code 60 = .ok (.iconst 0, 1) := by decide +kernel
theorem d_Model_holds_61 : decode prog_10_method_30_code 61 = .ok (.laload, 1) := by decide +kernel
theorem d_Model_holds_62 : decode prog_10_method_30_code 62 = .ok (.putfield 222, 3) := by decide +kernel
theorem d_Model_holds_65 : decode prog_10_method_30_code 65 = .ok (.aload_n 0, 1) := by decide +kernel
theorem d_Model_holds_66 : decode prog_10_method_30_code 66 = .ok (.aload_n 0, 1) := by decide +kernel
theorem d_Model_holds_67 : decode prog_10_method_30_code 67 = .ok (.getfield 29, 3) := by decide +kernel
theorem d_Model_holds_70 : decode prog_10_method_30_code 70 = .ok (.iload_n 1, 1) := by decide +kernel
theorem d_Model_holds_71 : decode prog_10_method_30_code 71 = .ok (.iaload, 1) := by decide +kernel
theorem d_Model_holds_72 : decode prog_10_method_30_code 72 = .ok (.aload_n 0, 1) := by decide +kernel
theorem d_Model_holds_73 : decode prog_10_method_30_code 73 = .ok (.getfield 32, 3) := by decide +kernel
theorem d_Model_holds_76 : decode prog_10_method_30_code 76 = .ok (.iload_n 1, 1) := by decide +kernel
theorem d_Model_holds_77 : decode prog_10_method_30_code 77 = .ok (.iaload, 1) := by decide +kernel
theorem d_Model_holds_78 : decode prog_10_method_30_code 78 = .ok (.invokevirtual 231, 3) := by decide +kernel
theorem d_Model_holds_81 : decode prog_10_method_30_code 81 = .ok (.aload_n 0, 1) := by decide +kernel
theorem d_Model_holds_82 : decode prog_10_method_30_code 82 = .ok (.getfield 186, 3) := by decide +kernel
theorem d_Model_holds_85 : decode prog_10_method_30_code 85 = .ok (.ifCond .le 5, 3) := by decide +kernel
theorem d_Model_holds_88 : decode prog_10_method_30_code 88 = .ok (.iconst 0, 1) := by decide +kernel
theorem d_Model_holds_89 : decode prog_10_method_30_code 89 = .ok (.ireturn, 1) := by decide +kernel
theorem d_Model_holds_90 : decode prog_10_method_30_code 90 = .ok (.aload_n 0, 1) := by decide +kernel
theorem d_Model_holds_91 : decode prog_10_method_30_code 91 = .ok (.aload_n 0, 1) := by decide +kernel
theorem d_Model_holds_92 : decode prog_10_method_30_code 92 = .ok (.getfield 50, 3) := by decide +kernel
theorem d_Model_holds_95 : decode prog_10_method_30_code 95 = .ok (.iconst 0, 1) := by decide +kernel
theorem d_Model_holds_96 : decode prog_10_method_30_code 96 = .ok (.laload, 1) := by decide +kernel
theorem d_Model_holds_97 : decode prog_10_method_30_code 97 = .ok (.putfield 225, 3) := by decide +kernel
theorem d_Model_holds_100 : decode prog_10_method_30_code 100 = .ok (.aload_n 0, 1) := by decide +kernel
theorem d_Model_holds_101 : decode prog_10_method_30_code 101 = .ok (.aload_n 0, 1) := by decide +kernel
theorem d_Model_holds_102 : decode prog_10_method_30_code 102 = .ok (.getfield 53, 3) := by decide +kernel
theorem d_Model_holds_105 : decode prog_10_method_30_code 105 = .ok (.iconst 0, 1) := by decide +kernel
theorem d_Model_holds_106 : decode prog_10_method_30_code 106 = .ok (.laload, 1) := by decide +kernel
theorem d_Model_holds_107 : decode prog_10_method_30_code 107 = .ok (.putfield 228, 3) := by decide +kernel
theorem d_Model_holds_110 : decode prog_10_method_30_code 110 = .ok (.aload_n 0, 1) := by decide +kernel
theorem d_Model_holds_111 : decode prog_10_method_30_code 111 = .ok (.aload_n 0, 1) := by decide +kernel
theorem d_Model_holds_112 : decode prog_10_method_30_code 112 = .ok (.getfield 219, 3) := by decide +kernel
theorem d_Model_holds_115 : decode prog_10_method_30_code 115 = .ok (.aload_n 0, 1) := by decide +kernel
theorem d_Model_holds_116 : decode prog_10_method_30_code 116 = .ok (.getfield 228, 3) := by decide +kernel
theorem d_Model_holds_119 : decode prog_10_method_30_code 119 = .ok (.invokevirtual 203, 3) := by decide +kernel
theorem d_Model_holds_122 : decode prog_10_method_30_code 122 = .ok (.lstore_n 2, 1) := by decide +kernel
theorem d_Model_holds_123 : decode prog_10_method_30_code 123 = .ok (.aload_n 0, 1) := by decide +kernel
theorem d_Model_holds_124 : decode prog_10_method_30_code 124 = .ok (.aload_n 0, 1) := by decide +kernel
theorem d_Model_holds_125 : decode prog_10_method_30_code 125 = .ok (.getfield 225, 3) := by decide +kernel
theorem d_Model_holds_128 : decode prog_10_method_30_code 128 = .ok (.aload_n 0, 1) := by decide +kernel
theorem d_Model_holds_129 : decode prog_10_method_30_code 129 = .ok (.getfield 222, 3) := by decide +kernel
theorem d_Model_holds_132 : decode prog_10_method_30_code 132 = .ok (.invokevirtual 203, 3) := by decide +kernel
theorem d_Model_holds_135 : decode prog_10_method_30_code 135 = .ok (.lstore 4, 2) := by decide +kernel
theorem d_Model_holds_137 : decode prog_10_method_30_code 137 = .ok (.aload_n 0, 1) := by decide +kernel
theorem d_Model_holds_138 : decode prog_10_method_30_code 138 = .ok (.getfield 23, 3) := by decide +kernel
theorem d_Model_holds_141 : decode prog_10_method_30_code 141 = .ok (.iload_n 1, 1) := by decide +kernel
theorem d_Model_holds_142 : decode prog_10_method_30_code 142 = .ok (.iaload, 1) := by decide +kernel
theorem d_Model_holds_143 : decode prog_10_method_30_code 143 = .ok (.istore 6, 2) := by decide +kernel
theorem d_Model_holds_145 : decode prog_10_method_30_code 145 = .ok (.aload_n 0, 1) := by decide +kernel
theorem d_Model_holds_146 : decode prog_10_method_30_code 146 = .ok (.getfield 186, 3) := by decide +kernel
theorem d_Model_holds_149 : decode prog_10_method_30_code 149 = .ok (.ifCond .ne 84, 3) := by decide +kernel
theorem d_Model_holds_152 : decode prog_10_method_30_code 152 = .ok (.iload 6, 2) := by decide +kernel
theorem d_Model_holds_154 : decode prog_10_method_30_code 154 = .ok (.bipush 60, 2) := by decide +kernel
theorem d_Model_holds_156 : decode prog_10_method_30_code 156 = .ok (.if_icmp .ne 13, 3) := by decide +kernel
theorem d_Model_holds_159 : decode prog_10_method_30_code 159 = .ok (.lload_n 2, 1) := by decide +kernel
theorem d_Model_holds_160 : decode prog_10_method_30_code 160 = .ok (.lload 4, 2) := by decide +kernel
theorem d_Model_holds_162 : decode prog_10_method_30_code 162 = .ok (.lcmp, 1) := by decide +kernel
theorem d_Model_holds_163 : decode prog_10_method_30_code 163 = .ok (.ifCond .ge 70, 3) := by decide +kernel
theorem d_Model_holds_166 : decode prog_10_method_30_code 166 = .ok (.goto 63, 3) := by decide +kernel
theorem d_Model_holds_169 : decode prog_10_method_30_code 169 = .ok (.iload 6, 2) := by decide +kernel
theorem d_Model_holds_171 : decode prog_10_method_30_code 171 = .ok (.sipush 316, 3) := by decide +kernel
theorem d_Model_holds_174 : decode prog_10_method_30_code 174 = .ok (.if_icmp .ne 13, 3) := by decide +kernel
theorem d_Model_holds_177 : decode prog_10_method_30_code 177 = .ok (.lload_n 2, 1) := by decide +kernel
theorem d_Model_holds_178 : decode prog_10_method_30_code 178 = .ok (.lload 4, 2) := by decide +kernel
theorem d_Model_holds_180 : decode prog_10_method_30_code 180 = .ok (.lcmp, 1) := by decide +kernel
theorem d_Model_holds_181 : decode prog_10_method_30_code 181 = .ok (.ifCond .gt 52, 3) := by decide +kernel
theorem d_Model_holds_184 : decode prog_10_method_30_code 184 = .ok (.goto 45, 3) := by decide +kernel
theorem d_Model_holds_187 : decode prog_10_method_30_code 187 = .ok (.iload 6, 2) := by decide +kernel
theorem d_Model_holds_189 : decode prog_10_method_30_code 189 = .ok (.bipush 61, 2) := by decide +kernel
theorem d_Model_holds_191 : decode prog_10_method_30_code 191 = .ok (.if_icmp .ne 13, 3) := by decide +kernel
theorem d_Model_holds_194 : decode prog_10_method_30_code 194 = .ok (.lload_n 2, 1) := by decide +kernel
theorem d_Model_holds_195 : decode prog_10_method_30_code 195 = .ok (.lload 4, 2) := by decide +kernel
theorem d_Model_holds_197 : decode prog_10_method_30_code 197 = .ok (.lcmp, 1) := by decide +kernel
theorem d_Model_holds_198 : decode prog_10_method_30_code 198 = .ok (.ifCond .ne 35, 3) := by decide +kernel
theorem d_Model_holds_201 : decode prog_10_method_30_code 201 = .ok (.goto 28, 3) := by decide +kernel
theorem d_Model_holds_204 : decode prog_10_method_30_code 204 = .ok (.iload 6, 2) := by decide +kernel
theorem d_Model_holds_206 : decode prog_10_method_30_code 206 = .ok (.sipush 318, 3) := by decide +kernel
theorem d_Model_holds_209 : decode prog_10_method_30_code 209 = .ok (.if_icmp .ne 13, 3) := by decide +kernel
theorem d_Model_holds_212 : decode prog_10_method_30_code 212 = .ok (.lload_n 2, 1) := by decide +kernel
theorem d_Model_holds_213 : decode prog_10_method_30_code 213 = .ok (.lload 4, 2) := by decide +kernel
theorem d_Model_holds_215 : decode prog_10_method_30_code 215 = .ok (.lcmp, 1) := by decide +kernel
theorem d_Model_holds_216 : decode prog_10_method_30_code 216 = .ok (.ifCond .lt 17, 3) := by decide +kernel
theorem d_Model_holds_219 : decode prog_10_method_30_code 219 = .ok (.goto 10, 3) := by decide +kernel
theorem d_Model_holds_222 : decode prog_10_method_30_code 222 = .ok (.lload_n 2, 1) := by decide +kernel
theorem d_Model_holds_223 : decode prog_10_method_30_code 223 = .ok (.lload 4, 2) := by decide +kernel
theorem d_Model_holds_225 : decode prog_10_method_30_code 225 = .ok (.lcmp, 1) := by decide +kernel
theorem d_Model_holds_226 : decode prog_10_method_30_code 226 = .ok (.ifCond .le 7, 3) := by decide +kernel
theorem d_Model_holds_229 : decode prog_10_method_30_code 229 = .ok (.iconst 1, 1) := by decide +kernel
theorem d_Model_holds_230 : decode prog_10_method_30_code 230 = .ok (.goto 4, 3) := by decide +kernel
theorem d_Model_holds_233 : decode prog_10_method_30_code 233 = .ok (.iconst 0, 1) := by decide +kernel
theorem d_Model_holds_234 : decode prog_10_method_30_code 234 = .ok (.ireturn, 1) := by decide +kernel
abbrev y_Model_stateOf : MethodName := ⟨"PermitRulesModel", "stateOf", "(IIZ)I"⟩
abbrev cw_Model_stateOf : Cond := .code y_Model_stateOf prog_10_method_31_code 9 (some .int)
theorem d_Model_stateOf_0 : decode prog_10_method_31_code 0 = .ok (.aload_n 0, 1) := by decide +kernel
theorem d_Model_stateOf_1 : decode prog_10_method_31_code 1 = .ok (.iconst 0, 1) := by decide +kernel
theorem d_Model_stateOf_2 : decode prog_10_method_31_code 2 = .ok (.putfield 186, 3) := by decide +kernel
theorem d_Model_stateOf_5 : decode prog_10_method_31_code 5 = .ok (.aload_n 0, 1) := by decide +kernel
theorem d_Model_stateOf_6 : decode prog_10_method_31_code 6 = .ok (.lconst 0, 1) := by decide +kernel
theorem d_Model_stateOf_7 : decode prog_10_method_31_code 7 = .ok (.putfield 213, 3) := by decide +kernel
theorem d_Model_stateOf_10 : decode prog_10_method_31_code 10 = .ok (.aload_n 0, 1) := by decide +kernel
theorem d_Model_stateOf_11 : decode prog_10_method_31_code 11 = .ok (.lconst 0, 1) := by decide +kernel
theorem d_Model_stateOf_12 : decode prog_10_method_31_code 12 = .ok (.putfield 219, 3) := by decide +kernel
theorem d_Model_stateOf_15 : decode prog_10_method_31_code 15 = .ok (.aload_n 0, 1) := by decide +kernel
theorem d_Model_stateOf_16 : decode prog_10_method_31_code 16 = .ok (.lconst 0, 1) := by decide +kernel
theorem d_Model_stateOf_17 : decode prog_10_method_31_code 17 = .ok (.putfield 222, 3) := by decide +kernel
theorem d_Model_stateOf_20 : decode prog_10_method_31_code 20 = .ok (.aload_n 0, 1) := by decide +kernel
theorem d_Model_stateOf_21 : decode prog_10_method_31_code 21 = .ok (.lconst 0, 1) := by decide +kernel
theorem d_Model_stateOf_22 : decode prog_10_method_31_code 22 = .ok (.putfield 225, 3) := by decide +kernel
theorem d_Model_stateOf_25 : decode prog_10_method_31_code 25 = .ok (.aload_n 0, 1) := by decide +kernel
theorem d_Model_stateOf_26 : decode prog_10_method_31_code 26 = .ok (.lconst 0, 1) := by decide +kernel
theorem d_Model_stateOf_27 : decode prog_10_method_31_code 27 = .ok (.putfield 228, 3) := by decide +kernel
theorem d_Model_stateOf_30 : decode prog_10_method_31_code 30 = .ok (.iconst 4, 1) := by decide +kernel
theorem d_Model_stateOf_31 : decode prog_10_method_31_code 31 = .ok (.istore 4, 2) := by decide +kernel
theorem d_Model_stateOf_33 : decode prog_10_method_31_code 33 = .ok (.iload_n 2, 1) := by decide +kernel
theorem d_Model_stateOf_34 : decode prog_10_method_31_code 34 = .ok (.i2l, 1) := by decide +kernel
theorem d_Model_stateOf_35 : decode prog_10_method_31_code 35 = .ok (.aload_n 0, 1) := by decide +kernel
theorem d_Model_stateOf_36 : decode prog_10_method_31_code 36 = .ok (.getfield 17, 3) := by decide +kernel
theorem d_Model_stateOf_39 : decode prog_10_method_31_code 39 = .ok (.bipush 12, 2) := by decide +kernel
theorem d_Model_stateOf_41 : decode prog_10_method_31_code 41 = .ok (.iload_n 1, 1) := by decide +kernel
theorem d_Model_stateOf_42 : decode prog_10_method_31_code 42 = .ok (.iadd, 1) := by decide +kernel
theorem d_Model_stateOf_43 : decode prog_10_method_31_code 43 = .ok (.laload, 1) := by decide +kernel
theorem d_Model_stateOf_44 : decode prog_10_method_31_code 44 = .ok (.lcmp, 1) := by decide +kernel
theorem d_Model_stateOf_45 : decode prog_10_method_31_code 45 = .ok (.ifCond .lt 148, 3) := by decide +kernel
theorem d_Model_stateOf_48 : decode prog_10_method_31_code 48 = .ok (.aload_n 0, 1) := by decide +kernel
theorem d_Model_stateOf_49 : decode prog_10_method_31_code 49 = .ok (.getfield 20, 3) := by decide +kernel
theorem d_Model_stateOf_52 : decode prog_10_method_31_code 52 = .ok (.bipush 13, 2) := by decide +kernel
theorem d_Model_stateOf_54 : decode prog_10_method_31_code 54 = .ok (.iload_n 1, 1) := by decide +kernel
theorem d_Model_stateOf_55 : decode prog_10_method_31_code 55 = .ok (.iadd, 1) := by decide +kernel
theorem d_Model_stateOf_56 : decode prog_10_method_31_code 56 = .ok (.iaload, 1) := by decide +kernel
theorem d_Model_stateOf_57 : decode prog_10_method_31_code 57 = .ok (.istore 5, 2) := by decide +kernel
theorem d_Model_stateOf_59 : decode prog_10_method_31_code 59 = .ok (.aload_n 0, 1) := by decide +kernel
theorem d_Model_stateOf_60 : decode prog_10_method_31_code 60 = .ok (.iload 5, 2) := by decide +kernel
theorem d_Model_stateOf_62 : decode prog_10_method_31_code 62 = .ok (.invokevirtual 235, 3) := by decide +kernel
theorem d_Model_stateOf_65 : decode prog_10_method_31_code 65 = .ok (.istore 6, 2) := by decide +kernel
theorem d_Model_stateOf_67 : decode prog_10_method_31_code 67 = .ok (.iload_n 3, 1) := by decide +kernel
theorem d_Model_stateOf_68 : decode prog_10_method_31_code 68 = .ok (.ifCond .eq 8, 3) := by decide +kernel
theorem d_Model_stateOf_71 : decode prog_10_method_31_code 71 = .ok (.aload_n 0, 1) := by decide +kernel
theorem d_Model_stateOf_72 : decode prog_10_method_31_code 72 = .ok (.iload_n 1, 1) := by decide +kernel
theorem d_Model_stateOf_73 : decode prog_10_method_31_code 73 = .ok (.invokevirtual 238, 3) := by decide +kernel
theorem d_Model_stateOf_76 : decode prog_10_method_31_code 76 = .ok (.iload 6, 2) := by decide +kernel
theorem d_Model_stateOf_78 : decode prog_10_method_31_code 78 = .ok (.ifCond .ne 10, 3) := by decide +kernel
theorem d_Model_stateOf_81 : decode prog_10_method_31_code 81 = .ok (.aload_n 0, 1) := by decide +kernel
theorem d_Model_stateOf_82 : decode prog_10_method_31_code 82 = .ok (.getfield 186, 3) := by decide +kernel
theorem d_Model_stateOf_85 : decode prog_10_method_31_code 85 = .ok (.ifCond .le 16, 3) := by decide +kernel
theorem d_Model_stateOf_88 : decode prog_10_method_31_code 88 = .ok (.aload_n 0, 1) := by decide +kernel
theorem d_Model_stateOf_89 : decode prog_10_method_31_code 89 = .ok (.getfield 186, 3) := by decide +kernel
theorem d_Model_stateOf_92 : decode prog_10_method_31_code 92 = .ok (.ifCond .le 7, 3) := by decide +kernel
theorem d_Model_stateOf_95 : decode prog_10_method_31_code 95 = .ok (.iconst 3, 1) := by decide +kernel
theorem d_Model_stateOf_96 : decode prog_10_method_31_code 96 = .ok (.goto 4, 3) := by decide +kernel
theorem d_Model_stateOf_99 : decode prog_10_method_31_code 99 = .ok (.iconst 0, 1) := by decide +kernel
theorem d_Model_stateOf_100 : decode prog_10_method_31_code 100 = .ok (.ireturn, 1) := by decide +kernel
theorem d_Model_stateOf_101 : decode prog_10_method_31_code 101 = .ok (.aload_n 0, 1) := by decide +kernel
theorem d_Model_stateOf_102 : decode prog_10_method_31_code 102 = .ok (.getfield 20, 3) := by decide +kernel
theorem d_Model_stateOf_105 : decode prog_10_method_31_code 105 = .ok (.bipush 14, 2) := by decide +kernel
theorem d_Model_stateOf_107 : decode prog_10_method_31_code 107 = .ok (.iload_n 1, 1) := by decide +kernel
theorem d_Model_stateOf_108 : decode prog_10_method_31_code 108 = .ok (.iadd, 1) := by decide +kernel
theorem d_Model_stateOf_109 : decode prog_10_method_31_code 109 = .ok (.iaload, 1) := by decide +kernel
theorem d_Model_stateOf_110 : decode prog_10_method_31_code 110 = .ok (.istore 7, 2) := by decide +kernel
theorem d_Model_stateOf_112 : decode prog_10_method_31_code 112 = .ok (.iload 7, 2) := by decide +kernel
theorem d_Model_stateOf_114 : decode prog_10_method_31_code 114 = .ok (.iload 5, 2) := by decide +kernel
theorem d_Model_stateOf_116 : decode prog_10_method_31_code 116 = .ok (.iconst 1, 1) := by decide +kernel
theorem d_Model_stateOf_117 : decode prog_10_method_31_code 117 = .ok (.iadd, 1) := by decide +kernel
theorem d_Model_stateOf_118 : decode prog_10_method_31_code 118 = .ok (.if_icmp .le 7, 3) := by decide +kernel
theorem d_Model_stateOf_121 : decode prog_10_method_31_code 121 = .ok (.iconst 1, 1) := by decide +kernel
theorem d_Model_stateOf_122 : decode prog_10_method_31_code 122 = .ok (.goto 4, 3) := by decide +kernel
theorem d_Model_stateOf_125 : decode prog_10_method_31_code 125 = .ok (.iconst 0, 1) := by decide +kernel
theorem d_Model_stateOf_126 : decode prog_10_method_31_code 126 = .ok (.istore 6, 2) := by decide +kernel
theorem d_Model_stateOf_128 : decode prog_10_method_31_code 128 = .ok (.iload 5, 2) := by decide +kernel
theorem d_Model_stateOf_130 : decode prog_10_method_31_code 130 = .ok (.iconst 1, 1) := by decide +kernel
theorem d_Model_stateOf_131 : decode prog_10_method_31_code 131 = .ok (.iadd, 1) := by decide +kernel
theorem d_Model_stateOf_132 : decode prog_10_method_31_code 132 = .ok (.istore 8, 2) := by decide +kernel
theorem d_Model_stateOf_134 : decode prog_10_method_31_code 134 = .ok (.iload 8, 2) := by decide +kernel
theorem d_Model_stateOf_136 : decode prog_10_method_31_code 136 = .ok (.iload 7, 2) := by decide +kernel
theorem d_Model_stateOf_138 : decode prog_10_method_31_code 138 = .ok (.if_icmp .ge 29, 3) := by decide +kernel
theorem d_Model_stateOf_141 : decode prog_10_method_31_code 141 = .ok (.iload 6, 2) := by decide +kernel
theorem d_Model_stateOf_143 : decode prog_10_method_31_code 143 = .ok (.ifCond .eq 24, 3) := by decide +kernel
theorem d_Model_stateOf_146 : decode prog_10_method_31_code 146 = .ok (.aload_n 0, 1) := by decide +kernel
theorem d_Model_stateOf_147 : decode prog_10_method_31_code 147 = .ok (.getfield 186, 3) := by decide +kernel
theorem d_Model_stateOf_150 : decode prog_10_method_31_code 150 = .ok (.ifCond .ne 17, 3) := by decide +kernel
theorem d_Model_stateOf_153 : decode prog_10_method_31_code 153 = .ok (.aload_n 0, 1) := by decide +kernel
theorem d_Model_stateOf_154 : decode prog_10_method_31_code 154 = .ok (.iload 8, 2) := by decide +kernel
theorem d_Model_stateOf_156 : decode prog_10_method_31_code 156 = .ok (.invokevirtual 235, 3) := by decide +kernel
theorem d_Model_stateOf_159 : decode prog_10_method_31_code 159 = .ok (.istore 6, 2) := by decide +kernel
theorem d_Model_stateOf_161 : decode prog_10_method_31_code 161 = .ok (.iinc 8 1, 3) := by decide +kernel
theorem d_Model_stateOf_164 : decode prog_10_method_31_code 164 = .ok (.goto (-30), 3) := by decide +kernel
theorem d_Model_stateOf_167 : decode prog_10_method_31_code 167 = .ok (.aload_n 0, 1) := by decide +kernel
theorem d_Model_stateOf_168 : decode prog_10_method_31_code 168 = .ok (.getfield 186, 3) := by decide +kernel
theorem d_Model_stateOf_171 : decode prog_10_method_31_code 171 = .ok (.ifCond .le 7, 3) := by decide +kernel
theorem d_Model_stateOf_174 : decode prog_10_method_31_code 174 = .ok (.iconst 3, 1) := by decide +kernel
theorem d_Model_stateOf_175 : decode prog_10_method_31_code 175 = .ok (.goto 13, 3) := by decide +kernel
theorem d_Model_stateOf_178 : decode prog_10_method_31_code 178 = .ok (.iload 6, 2) := by decide +kernel
theorem d_Model_stateOf_180 : decode prog_10_method_31_code 180 = .ok (.ifCond .eq 7, 3) := by decide +kernel
theorem d_Model_stateOf_183 : decode prog_10_method_31_code 183 = .ok (.iconst 2, 1) := by decide +kernel
theorem d_Model_stateOf_184 : decode prog_10_method_31_code 184 = .ok (.goto 4, 3) := by decide +kernel
theorem d_Model_stateOf_187 : decode prog_10_method_31_code 187 = .ok (.iconst 1, 1) := by decide +kernel
theorem d_Model_stateOf_188 : decode prog_10_method_31_code 188 = .ok (.istore 4, 2) := by decide +kernel
theorem d_Model_stateOf_190 : decode prog_10_method_31_code 190 = .ok (.goto 12, 3) := by decide +kernel
theorem d_Model_stateOf_193 : decode prog_10_method_31_code 193 = .ok (.iload_n 3, 1) := by decide +kernel
theorem d_Model_stateOf_194 : decode prog_10_method_31_code 194 = .ok (.ifCond .eq 8, 3) := by decide +kernel
theorem d_Model_stateOf_197 : decode prog_10_method_31_code 197 = .ok (.aload_n 0, 1) := by decide +kernel
theorem d_Model_stateOf_198 : decode prog_10_method_31_code 198 = .ok (.iload_n 1, 1) := by decide +kernel
theorem d_Model_stateOf_199 : decode prog_10_method_31_code 199 = .ok (.invokevirtual 238, 3) := by decide +kernel
theorem d_Model_stateOf_202 : decode prog_10_method_31_code 202 = .ok (.iload 4, 2) := by decide +kernel
theorem d_Model_stateOf_204 : decode prog_10_method_31_code 204 = .ok (.ireturn, 1) := by decide +kernel
abbrev y_Model_keep : MethodName := ⟨"PermitRulesModel", "keep", "(I)V"⟩
abbrev cw_Model_keep : Cond := .code y_Model_keep prog_10_method_32_code 2 none
theorem d_Model_keep_0 : decode prog_10_method_32_code 0 = .ok (.aload_n 0, 1) := by decide +kernel
theorem d_Model_keep_1 : decode prog_10_method_32_code 1 = .ok (.getfield 59, 3) := by decide +kernel
theorem d_Model_keep_4 : decode prog_10_method_32_code 4 = .ok (.bipush 6, 2) := by decide +kernel
theorem d_Model_keep_6 : decode prog_10_method_32_code 6 = .ok (.iload_n 1, 1) := by decide +kernel
theorem d_Model_keep_7 : decode prog_10_method_32_code 7 = .ok (.imul, 1) := by decide +kernel
theorem d_Model_keep_8 : decode prog_10_method_32_code 8 = .ok (.aload_n 0, 1) := by decide +kernel
theorem d_Model_keep_9 : decode prog_10_method_32_code 9 = .ok (.getfield 219, 3) := by decide +kernel
theorem d_Model_keep_12 : decode prog_10_method_32_code 12 = .ok (.lastore, 1) := by decide +kernel
theorem d_Model_keep_13 : decode prog_10_method_32_code 13 = .ok (.aload_n 0, 1) := by decide +kernel
theorem d_Model_keep_14 : decode prog_10_method_32_code 14 = .ok (.getfield 59, 3) := by decide +kernel
theorem d_Model_keep_17 : decode prog_10_method_32_code 17 = .ok (.bipush 6, 2) := by decide +kernel
theorem d_Model_keep_19 : decode prog_10_method_32_code 19 = .ok (.iload_n 1, 1) := by decide +kernel
theorem d_Model_keep_20 : decode prog_10_method_32_code 20 = .ok (.imul, 1) := by decide +kernel
theorem d_Model_keep_21 : decode prog_10_method_32_code 21 = .ok (.iconst 1, 1) := by decide +kernel
theorem d_Model_keep_22 : decode prog_10_method_32_code 22 = .ok (.iadd, 1) := by decide +kernel
theorem d_Model_keep_23 : decode prog_10_method_32_code 23 = .ok (.aload_n 0, 1) := by decide +kernel
theorem d_Model_keep_24 : decode prog_10_method_32_code 24 = .ok (.getfield 222, 3) := by decide +kernel
theorem d_Model_keep_27 : decode prog_10_method_32_code 27 = .ok (.lastore, 1) := by decide +kernel
theorem d_Model_keep_28 : decode prog_10_method_32_code 28 = .ok (.aload_n 0, 1) := by decide +kernel
theorem d_Model_keep_29 : decode prog_10_method_32_code 29 = .ok (.getfield 59, 3) := by decide +kernel
theorem d_Model_keep_32 : decode prog_10_method_32_code 32 = .ok (.bipush 6, 2) := by decide +kernel
theorem d_Model_keep_34 : decode prog_10_method_32_code 34 = .ok (.iload_n 1, 1) := by decide +kernel
theorem d_Model_keep_35 : decode prog_10_method_32_code 35 = .ok (.imul, 1) := by decide +kernel
theorem d_Model_keep_36 : decode prog_10_method_32_code 36 = .ok (.iconst 2, 1) := by decide +kernel
theorem d_Model_keep_37 : decode prog_10_method_32_code 37 = .ok (.iadd, 1) := by decide +kernel
theorem d_Model_keep_38 : decode prog_10_method_32_code 38 = .ok (.aload_n 0, 1) := by decide +kernel
theorem d_Model_keep_39 : decode prog_10_method_32_code 39 = .ok (.getfield 225, 3) := by decide +kernel
theorem d_Model_keep_42 : decode prog_10_method_32_code 42 = .ok (.lastore, 1) := by decide +kernel
theorem d_Model_keep_43 : decode prog_10_method_32_code 43 = .ok (.aload_n 0, 1) := by decide +kernel
theorem d_Model_keep_44 : decode prog_10_method_32_code 44 = .ok (.getfield 59, 3) := by decide +kernel
theorem d_Model_keep_47 : decode prog_10_method_32_code 47 = .ok (.bipush 6, 2) := by decide +kernel
theorem d_Model_keep_49 : decode prog_10_method_32_code 49 = .ok (.iload_n 1, 1) := by decide +kernel
theorem d_Model_keep_50 : decode prog_10_method_32_code 50 = .ok (.imul, 1) := by decide +kernel
theorem d_Model_keep_51 : decode prog_10_method_32_code 51 = .ok (.iconst 3, 1) := by decide +kernel
theorem d_Model_keep_52 : decode prog_10_method_32_code 52 = .ok (.iadd, 1) := by decide +kernel
theorem d_Model_keep_53 : decode prog_10_method_32_code 53 = .ok (.aload_n 0, 1) := by decide +kernel
theorem d_Model_keep_54 : decode prog_10_method_32_code 54 = .ok (.getfield 228, 3) := by decide +kernel
theorem d_Model_keep_57 : decode prog_10_method_32_code 57 = .ok (.lastore, 1) := by decide +kernel
theorem d_Model_keep_58 : decode prog_10_method_32_code 58 = .ok (.return_, 1) := by decide +kernel
abbrev y_Model_run : MethodName := ⟨"PermitRulesModel", "run", "(I)I"⟩
abbrev cw_Model_run : Cond := .code y_Model_run prog_10_method_33_code 4 (some .int)
theorem d_Model_run_0 : decode prog_10_method_33_code 0 = .ok (.aload_n 0, 1) := by decide +kernel
theorem d_Model_run_1 : decode prog_10_method_33_code 1 = .ok (.iload_n 1, 1) := by decide +kernel
theorem d_Model_run_2 : decode prog_10_method_33_code 2 = .ok (.i2l, 1) := by decide +kernel
theorem d_Model_run_3 : decode prog_10_method_33_code 3 = .ok (.lconst 0, 1) := by decide +kernel
theorem d_Model_run_4 : decode prog_10_method_33_code 4 = .ok (.ldc2_w 241, 3) := by decide +kernel
theorem d_Model_run_7 : decode prog_10_method_33_code 7 = .ok (.invokestatic 72, 3) := by decide +kernel
theorem d_Model_run_10 : decode prog_10_method_33_code 10 = .ok (.ifCond .eq 7, 3) := by decide +kernel
theorem d_Model_run_13 : decode prog_10_method_33_code 13 = .ok (.iconst 0, 1) := by decide +kernel
theorem d_Model_run_14 : decode prog_10_method_33_code 14 = .ok (.goto 4, 3) := by decide +kernel
theorem d_Model_run_17 : decode prog_10_method_33_code 17 = .ok (.iconst 1, 1) := by decide +kernel
theorem d_Model_run_18 : decode prog_10_method_33_code 18 = .ok (.putfield 62, 3) := by decide +kernel
theorem d_Model_run_21 : decode prog_10_method_33_code 21 = .ok (.aload_n 0, 1) := by decide +kernel
theorem d_Model_run_22 : decode prog_10_method_33_code 22 = .ok (.getfield 62, 3) := by decide +kernel
theorem d_Model_run_25 : decode prog_10_method_33_code 25 = .ok (.ifCond .le 5, 3) := by decide +kernel
theorem d_Model_run_28 : decode prog_10_method_33_code 28 = .ok (.iconst 0, 1) := by decide +kernel
theorem d_Model_run_29 : decode prog_10_method_33_code 29 = .ok (.ireturn, 1) := by decide +kernel
theorem d_Model_run_30 : decode prog_10_method_33_code 30 = .ok (.aload_n 0, 1) := by decide +kernel
theorem d_Model_run_31 : decode prog_10_method_33_code 31 = .ok (.iconst 1, 1) := by decide +kernel
theorem d_Model_run_32 : decode prog_10_method_33_code 32 = .ok (.putfield 166, 3) := by decide +kernel
theorem d_Model_run_35 : decode prog_10_method_33_code 35 = .ok (.aload_n 0, 1) := by decide +kernel
theorem d_Model_run_36 : decode prog_10_method_33_code 36 = .ok (.iload_n 1, 1) := by decide +kernel
theorem d_Model_run_37 : decode prog_10_method_33_code 37 = .ok (.putfield 243, 3) := by decide +kernel
theorem d_Model_run_40 : decode prog_10_method_33_code 40 = .ok (.iconst 0, 1) := by decide +kernel
theorem d_Model_run_41 : decode prog_10_method_33_code 41 = .ok (.istore_n 2, 1) := by decide +kernel
theorem d_Model_run_42 : decode prog_10_method_33_code 42 = .ok (.iconst 0, 1) := by decide +kernel
theorem d_Model_run_43 : decode prog_10_method_33_code 43 = .ok (.istore_n 3, 1) := by decide +kernel
theorem d_Model_run_44 : decode prog_10_method_33_code 44 = .ok (.iload_n 3, 1) := by decide +kernel
theorem d_Model_run_45 : decode prog_10_method_33_code 45 = .ok (.aload_n 0, 1) := by decide +kernel
theorem d_Model_run_46 : decode prog_10_method_33_code 46 = .ok (.getfield 160, 3) := by decide +kernel
theorem d_Model_run_49 : decode prog_10_method_33_code 49 = .ok (.if_icmp .ge 74, 3) := by decide +kernel
theorem d_Model_run_52 : decode prog_10_method_33_code 52 = .ok (.aload_n 0, 1) := by decide +kernel
theorem d_Model_run_53 : decode prog_10_method_33_code 53 = .ok (.getfield 56, 3) := by decide +kernel
theorem d_Model_run_56 : decode prog_10_method_33_code 56 = .ok (.iload_n 3, 1) := by decide +kernel
theorem d_Model_run_57 : decode prog_10_method_33_code 57 = .ok (.aload_n 0, 1) := by decide +kernel
theorem d_Model_run_58 : decode prog_10_method_33_code 58 = .ok (.iload_n 3, 1) := by decide +kernel
theorem d_Model_run_59 : decode prog_10_method_33_code 59 = .ok (.aload_n 0, 1) := by decide +kernel
theorem d_Model_run_60 : decode prog_10_method_33_code 60 = .ok (.getfield 243, 3) := by decide +kernel
theorem d_Model_run_63 : decode prog_10_method_33_code 63 = .ok (.iconst 1, 1) := by decide +kernel
theorem d_Model_run_64 : decode prog_10_method_33_code 64 = .ok (.invokevirtual 246, 3) := by decide +kernel
theorem d_Model_run_67 : decode prog_10_method_33_code 67 = .ok (.iastore, 1) := by decide +kernel
theorem d_Model_run_68 : decode prog_10_method_33_code 68 = .ok (.aload_n 0, 1) := by decide +kernel
theorem d_Model_run_69 : decode prog_10_method_33_code 69 = .ok (.getfield 59, 3) := by decide +kernel
theorem d_Model_run_72 : decode prog_10_method_33_code 72 = .ok (.bipush 6, 2) := by decide +kernel
theorem d_Model_run_74 : decode prog_10_method_33_code 74 = .ok (.iload_n 3, 1) := by decide +kernel
theorem d_Model_run_75 : decode prog_10_method_33_code 75 = .ok (.imul, 1) := by decide +kernel
theorem d_Model_run_76 : decode prog_10_method_33_code 76 = .ok (.iconst 4, 1) := by decide +kernel
theorem d_Model_run_77 : decode prog_10_method_33_code 77 = .ok (.iadd, 1) := by decide +kernel
theorem d_Model_run_78 : decode prog_10_method_33_code 78 = .ok (.aload_n 0, 1) := by decide +kernel
theorem d_Model_run_79 : decode prog_10_method_33_code 79 = .ok (.getfield 186, 3) := by decide +kernel
theorem d_Model_run_82 : decode prog_10_method_33_code 82 = .ok (.i2l, 1) := by decide +kernel
theorem d_Model_run_83 : decode prog_10_method_33_code 83 = .ok (.lastore, 1) := by decide +kernel
theorem d_Model_run_84 : decode prog_10_method_33_code 84 = .ok (.aload_n 0, 1) := by decide +kernel
theorem d_Model_run_85 : decode prog_10_method_33_code 85 = .ok (.getfield 59, 3) := by decide +kernel
theorem d_Model_run_88 : decode prog_10_method_33_code 88 = .ok (.bipush 6, 2) := by decide +kernel
theorem d_Model_run_90 : decode prog_10_method_33_code 90 = .ok (.iload_n 3, 1) := by decide +kernel
theorem d_Model_run_91 : decode prog_10_method_33_code 91 = .ok (.imul, 1) := by decide +kernel
theorem d_Model_run_92 : decode prog_10_method_33_code 92 = .ok (.iconst 5, 1) := by decide +kernel
theorem d_Model_run_93 : decode prog_10_method_33_code 93 = .ok (.iadd, 1) := by decide +kernel
theorem d_Model_run_94 : decode prog_10_method_33_code 94 = .ok (.aload_n 0, 1) := by decide +kernel
theorem d_Model_run_95 : decode prog_10_method_33_code 95 = .ok (.getfield 213, 3) := by decide +kernel
theorem d_Model_run_98 : decode prog_10_method_33_code 98 = .ok (.lastore, 1) := by decide +kernel
theorem d_Model_run_99 : decode prog_10_method_33_code 99 = .ok (.aload_n 0, 1) := by decide +kernel
theorem d_Model_run_100 : decode prog_10_method_33_code 100 = .ok (.getfield 56, 3) := by decide +kernel
theorem d_Model_run_103 : decode prog_10_method_33_code 103 = .ok (.iload_n 3, 1) := by decide +kernel
theorem d_Model_run_104 : decode prog_10_method_33_code 104 = .ok (.iaload, 1) := by decide +kernel
theorem d_Model_run_105 : decode prog_10_method_33_code 105 = .ok (.iconst 1, 1) := by decide +kernel
theorem d_Model_run_106 : decode prog_10_method_33_code 106 = .ok (.if_icmp .ne 9, 3) := by decide +kernel
theorem d_Model_run_109 : decode prog_10_method_33_code 109 = .ok (.iload_n 2, 1) := by decide +kernel
theorem d_Model_run_110 : decode prog_10_method_33_code 110 = .ok (.iconst 1, 1) := by decide +kernel
theorem d_Model_run_111 : decode prog_10_method_33_code 111 = .ok (.iadd, 1) := by decide +kernel
theorem d_Model_run_112 : decode prog_10_method_33_code 112 = .ok (.goto 4, 3) := by decide +kernel
theorem d_Model_run_115 : decode prog_10_method_33_code 115 = .ok (.iload_n 2, 1) := by decide +kernel
theorem d_Model_run_116 : decode prog_10_method_33_code 116 = .ok (.istore_n 2, 1) := by decide +kernel
theorem d_Model_run_117 : decode prog_10_method_33_code 117 = .ok (.iinc 3 1, 3) := by decide +kernel
theorem d_Model_run_120 : decode prog_10_method_33_code 120 = .ok (.goto (-76), 3) := by decide +kernel
theorem d_Model_run_123 : decode prog_10_method_33_code 123 = .ok (.iload_n 2, 1) := by decide +kernel
theorem d_Model_run_124 : decode prog_10_method_33_code 124 = .ok (.ireturn, 1) := by decide +kernel
abbrev y_Model_rule : MethodName := ⟨"PermitRulesModel", "rule", "(J)I"⟩
abbrev cw_Model_rule : Cond := .code y_Model_rule prog_10_method_34_code 5 (some .int)
theorem d_Model_rule_0 : decode prog_10_method_34_code 0 = .ok (.aload_n 0, 1) := by decide +kernel
theorem d_Model_rule_1 : decode prog_10_method_34_code 1 = .ok (.lload_n 1, 1) := by decide +kernel
theorem d_Model_rule_2 : decode prog_10_method_34_code 2 = .ok (.invokestatic 177, 3) := by decide +kernel
theorem d_Model_rule_5 : decode prog_10_method_34_code 5 = .ok (.ifCond .eq 7, 3) := by decide +kernel
theorem d_Model_rule_8 : decode prog_10_method_34_code 8 = .ok (.iconst 0, 1) := by decide +kernel
theorem d_Model_rule_9 : decode prog_10_method_34_code 9 = .ok (.goto 4, 3) := by decide +kernel
theorem d_Model_rule_12 : decode prog_10_method_34_code 12 = .ok (.iconst 1, 1) := by decide +kernel
theorem d_Model_rule_13 : decode prog_10_method_34_code 13 = .ok (.putfield 62, 3) := by decide +kernel
theorem d_Model_rule_16 : decode prog_10_method_34_code 16 = .ok (.iconst (-1), 1) := by decide +kernel
theorem d_Model_rule_17 : decode prog_10_method_34_code 17 = .ok (.istore_n 3, 1) := by decide +kernel
theorem d_Model_rule_18 : decode prog_10_method_34_code 18 = .ok (.iconst 0, 1) := by decide +kernel
theorem d_Model_rule_19 : decode prog_10_method_34_code 19 = .ok (.istore 4, 2) := by decide +kernel
theorem d_Model_rule_21 : decode prog_10_method_34_code 21 = .ok (.iload 4, 2) := by decide +kernel
theorem d_Model_rule_23 : decode prog_10_method_34_code 23 = .ok (.aload_n 0, 1) := by decide +kernel
theorem d_Model_rule_24 : decode prog_10_method_34_code 24 = .ok (.getfield 160, 3) := by decide +kernel
theorem d_Model_rule_27 : decode prog_10_method_34_code 27 = .ok (.if_icmp .ge 38, 3) := by decide +kernel
theorem d_Model_rule_30 : decode prog_10_method_34_code 30 = .ok (.aload_n 0, 1) := by decide +kernel
theorem d_Model_rule_31 : decode prog_10_method_34_code 31 = .ok (.getfield 62, 3) := by decide +kernel
theorem d_Model_rule_34 : decode prog_10_method_34_code 34 = .ok (.ifCond .ne 31, 3) := by decide +kernel
theorem d_Model_rule_37 : decode prog_10_method_34_code 37 = .ok (.aload_n 0, 1) := by decide +kernel
theorem d_Model_rule_38 : decode prog_10_method_34_code 38 = .ok (.getfield 13, 3) := by decide +kernel
theorem d_Model_rule_41 : decode prog_10_method_34_code 41 = .ok (.bipush 12, 2) := by decide +kernel
theorem d_Model_rule_43 : decode prog_10_method_34_code 43 = .ok (.iload 4, 2) := by decide +kernel
theorem d_Model_rule_45 : decode prog_10_method_34_code 45 = .ok (.iadd, 1) := by decide +kernel
theorem d_Model_rule_46 : decode prog_10_method_34_code 46 = .ok (.laload, 1) := by decide +kernel
theorem d_Model_rule_47 : decode prog_10_method_34_code 47 = .ok (.lload_n 1, 1) := by decide +kernel
theorem d_Model_rule_48 : decode prog_10_method_34_code 48 = .ok (.lcmp, 1) := by decide +kernel
theorem d_Model_rule_49 : decode prog_10_method_34_code 49 = .ok (.ifCond .ne 8, 3) := by decide +kernel
theorem d_Model_rule_52 : decode prog_10_method_34_code 52 = .ok (.iload 4, 2) := by decide +kernel
theorem d_Model_rule_54 : decode prog_10_method_34_code 54 = .ok (.goto 4, 3) := by decide +kernel
theorem d_Model_rule_57 : decode prog_10_method_34_code 57 = .ok (.iload_n 3, 1) := by decide +kernel
theorem d_Model_rule_58 : decode prog_10_method_34_code 58 = .ok (.istore_n 3, 1) := by decide +kernel
theorem d_Model_rule_59 : decode prog_10_method_34_code 59 = .ok (.iinc 4 1, 3) := by decide +kernel
theorem d_Model_rule_62 : decode prog_10_method_34_code 62 = .ok (.goto (-41), 3) := by decide +kernel
theorem d_Model_rule_65 : decode prog_10_method_34_code 65 = .ok (.aload_n 0, 1) := by decide +kernel
theorem d_Model_rule_66 : decode prog_10_method_34_code 66 = .ok (.getfield 62, 3) := by decide +kernel
theorem d_Model_rule_69 : decode prog_10_method_34_code 69 = .ok (.ifCond .le 7, 3) := by decide +kernel
theorem d_Model_rule_72 : decode prog_10_method_34_code 72 = .ok (.iconst 0, 1) := by decide +kernel
theorem d_Model_rule_73 : decode prog_10_method_34_code 73 = .ok (.goto 4, 3) := by decide +kernel
theorem d_Model_rule_76 : decode prog_10_method_34_code 76 = .ok (.iload_n 3, 1) := by decide +kernel
theorem d_Model_rule_77 : decode prog_10_method_34_code 77 = .ok (.ireturn, 1) := by decide +kernel
abbrev y_Model_told : MethodName := ⟨"PermitRulesModel", "told", "(II)J"⟩
abbrev cw_Model_told : Cond := .code y_Model_told prog_10_method_35_code 3 (some .long)
theorem d_Model_told_0 : decode prog_10_method_35_code 0 = .ok (.aload_n 0, 1) := by decide +kernel
theorem d_Model_told_1 : decode prog_10_method_35_code 1 = .ok (.iload_n 1, 1) := by decide +kernel
theorem d_Model_told_2 : decode prog_10_method_35_code 2 = .ok (.i2l, 1) := by decide +kernel
theorem d_Model_told_3 : decode prog_10_method_35_code 3 = .ok (.lconst 0, 1) := by decide +kernel
theorem d_Model_told_4 : decode prog_10_method_35_code 4 = .ok (.aload_n 0, 1) := by decide +kernel
theorem d_Model_told_5 : decode prog_10_method_35_code 5 = .ok (.getfield 160, 3) := by decide +kernel
theorem d_Model_told_8 : decode prog_10_method_35_code 8 = .ok (.i2l, 1) := by decide +kernel
theorem d_Model_told_9 : decode prog_10_method_35_code 9 = .ok (.lconst 1, 1) := by decide +kernel
theorem d_Model_told_10 : decode prog_10_method_35_code 10 = .ok (.lsub, 1) := by decide +kernel
theorem d_Model_told_11 : decode prog_10_method_35_code 11 = .ok (.invokestatic 72, 3) := by decide +kernel
theorem d_Model_told_14 : decode prog_10_method_35_code 14 = .ok (.ifCond .eq 15, 3) := by decide +kernel
theorem d_Model_told_17 : decode prog_10_method_35_code 17 = .ok (.iload_n 2, 1) := by decide +kernel
theorem d_Model_told_18 : decode prog_10_method_35_code 18 = .ok (.i2l, 1) := by decide +kernel
theorem d_Model_told_19 : decode prog_10_method_35_code 19 = .ok (.lconst 0, 1) := by decide +kernel
theorem d_Model_told_20 : decode prog_10_method_35_code 20 = .ok (.ldc2_w 250, 3) := by decide +kernel
theorem d_Model_told_23 : decode prog_10_method_35_code 23 = .ok (.invokestatic 72, 3) := by decide +kernel
theorem d_Model_told_26 : decode prog_10_method_35_code 26 = .ok (.ifCond .ne 7, 3) := by decide +kernel
theorem d_Model_told_29 : decode prog_10_method_35_code 29 = .ok (.iconst 1, 1) := by decide +kernel
theorem d_Model_told_30 : decode prog_10_method_35_code 30 = .ok (.goto 15, 3) := by decide +kernel
theorem d_Model_told_33 : decode prog_10_method_35_code 33 = .ok (.aload_n 0, 1) := by decide +kernel
theorem d_Model_told_34 : decode prog_10_method_35_code 34 = .ok (.getfield 166, 3) := by decide +kernel
theorem d_Model_told_37 : decode prog_10_method_35_code 37 = .ok (.ifCond .ne 7, 3) := by decide +kernel
theorem d_Model_told_40 : decode prog_10_method_35_code 40 = .ok (.iconst 2, 1) := by decide +kernel
theorem d_Model_told_41 : decode prog_10_method_35_code 41 = .ok (.goto 4, 3) := by decide +kernel
theorem d_Model_told_44 : decode prog_10_method_35_code 44 = .ok (.iconst 0, 1) := by decide +kernel
theorem d_Model_told_45 : decode prog_10_method_35_code 45 = .ok (.putfield 62, 3) := by decide +kernel
theorem d_Model_told_48 : decode prog_10_method_35_code 48 = .ok (.aload_n 0, 1) := by decide +kernel
theorem d_Model_told_49 : decode prog_10_method_35_code 49 = .ok (.getfield 62, 3) := by decide +kernel
theorem d_Model_told_52 : decode prog_10_method_35_code 52 = .ok (.ifCond .le 5, 3) := by decide +kernel
theorem d_Model_told_55 : decode prog_10_method_35_code 55 = .ok (.lconst 0, 1) := by decide +kernel
theorem d_Model_told_56 : decode prog_10_method_35_code 56 = .ok (.lreturn, 1) := by decide +kernel
theorem d_Model_told_57 : decode prog_10_method_35_code 57 = .ok (.iload_n 2, 1) := by decide +kernel
theorem d_Model_told_58 : decode prog_10_method_35_code 58 = .ok (.ifCond .ne 13, 3) := by decide +kernel
theorem d_Model_told_61 : decode prog_10_method_35_code 61 = .ok (.aload_n 0, 1) := by decide +kernel
theorem d_Model_told_62 : decode prog_10_method_35_code 62 = .ok (.getfield 56, 3) := by decide +kernel
theorem d_Model_told_65 : decode prog_10_method_35_code 65 = .ok (.iload_n 1, 1) := by decide +kernel
theorem d_Model_told_66 : decode prog_10_method_35_code 66 = .ok (.iaload, 1) := by decide +kernel
theorem d_Model_told_67 : decode prog_10_method_35_code 67 = .ok (.i2l, 1) := by decide +kernel
theorem d_Model_told_68 : decode prog_10_method_35_code 68 = .ok (.goto 16, 3) := by decide +kernel
theorem d_Model_told_71 : decode prog_10_method_35_code 71 = .ok (.aload_n 0, 1) := by decide +kernel
theorem d_Model_told_72 : decode prog_10_method_35_code 72 = .ok (.getfield 59, 3) := by decide +kernel
theorem d_Model_told_75 : decode prog_10_method_35_code 75 = .ok (.bipush 6, 2) := by decide +kernel
theorem d_Model_told_77 : decode prog_10_method_35_code 77 = .ok (.iload_n 1, 1) := by decide +kernel
theorem d_Model_told_78 : decode prog_10_method_35_code 78 = .ok (.imul, 1) := by decide +kernel
theorem d_Model_told_79 : decode prog_10_method_35_code 79 = .ok (.iload_n 2, 1) := by decide +kernel
theorem d_Model_told_80 : decode prog_10_method_35_code 80 = .ok (.iadd, 1) := by decide +kernel
theorem d_Model_told_81 : decode prog_10_method_35_code 81 = .ok (.iconst 1, 1) := by decide +kernel
theorem d_Model_told_82 : decode prog_10_method_35_code 82 = .ok (.isub, 1) := by decide +kernel
theorem d_Model_told_83 : decode prog_10_method_35_code 83 = .ok (.laload, 1) := by decide +kernel
theorem d_Model_told_84 : decode prog_10_method_35_code 84 = .ok (.lreturn, 1) := by decide +kernel
abbrev y_Model_broken : MethodName := ⟨"PermitRulesModel", "broken", "(I)I"⟩
abbrev cw_Model_broken : Cond := .code y_Model_broken prog_10_method_36_code 4 (some .int)
theorem d_Model_broken_0 : decode prog_10_method_36_code 0 = .ok (.aload_n 0, 1) := by decide +kernel
theorem d_Model_broken_1 : decode prog_10_method_36_code 1 = .ok (.iload_n 1, 1) := by decide +kernel
theorem d_Model_broken_2 : decode prog_10_method_36_code 2 = .ok (.ifCond .ge 7, 3) := by decide +kernel
theorem d_Model_broken_5 : decode prog_10_method_36_code 5 = .ok (.iconst 1, 1) := by decide +kernel
theorem d_Model_broken_6 : decode prog_10_method_36_code 6 = .ok (.goto 15, 3) := by decide +kernel
theorem d_Model_broken_9 : decode prog_10_method_36_code 9 = .ok (.aload_n 0, 1) := by decide +kernel
theorem d_Model_broken_10 : decode prog_10_method_36_code 10 = .ok (.getfield 166, 3) := by decide +kernel
theorem d_Model_broken_13 : decode prog_10_method_36_code 13 = .ok (.ifCond .ne 7, 3) := by decide +kernel
theorem d_Model_broken_16 : decode prog_10_method_36_code 16 = .ok (.iconst 2, 1) := by decide +kernel
theorem d_Model_broken_17 : decode prog_10_method_36_code 17 = .ok (.goto 4, 3) := by decide +kernel
theorem d_Model_broken_20 : decode prog_10_method_36_code 20 = .ok (.iconst 0, 1) := by decide +kernel
theorem d_Model_broken_21 : decode prog_10_method_36_code 21 = .ok (.putfield 62, 3) := by decide +kernel
theorem d_Model_broken_24 : decode prog_10_method_36_code 24 = .ok (.iconst 0, 1) := by decide +kernel
theorem d_Model_broken_25 : decode prog_10_method_36_code 25 = .ok (.istore_n 2, 1) := by decide +kernel
theorem d_Model_broken_26 : decode prog_10_method_36_code 26 = .ok (.iconst 0, 1) := by decide +kernel
theorem d_Model_broken_27 : decode prog_10_method_36_code 27 = .ok (.istore_n 3, 1) := by decide +kernel
theorem d_Model_broken_28 : decode prog_10_method_36_code 28 = .ok (.iload_n 3, 1) := by decide +kernel
theorem d_Model_broken_29 : decode prog_10_method_36_code 29 = .ok (.aload_n 0, 1) := by decide +kernel
theorem d_Model_broken_30 : decode prog_10_method_36_code 30 = .ok (.getfield 160, 3) := by decide +kernel
theorem d_Model_broken_33 : decode prog_10_method_36_code 33 = .ok (.if_icmp .ge 36, 3) := by decide +kernel
theorem d_Model_broken_36 : decode prog_10_method_36_code 36 = .ok (.aload_n 0, 1) := by decide +kernel
theorem d_Model_broken_37 : decode prog_10_method_36_code 37 = .ok (.getfield 62, 3) := by decide +kernel
theorem d_Model_broken_40 : decode prog_10_method_36_code 40 = .ok (.ifCond .ne 29, 3) := by decide +kernel
theorem d_Model_broken_43 : decode prog_10_method_36_code 43 = .ok (.aload_n 0, 1) := by decide +kernel
theorem d_Model_broken_44 : decode prog_10_method_36_code 44 = .ok (.getfield 56, 3) := by decide +kernel
theorem d_Model_broken_47 : decode prog_10_method_36_code 47 = .ok (.iload_n 3, 1) := by decide +kernel
theorem d_Model_broken_48 : decode prog_10_method_36_code 48 = .ok (.iaload, 1) := by decide +kernel
theorem d_Model_broken_49 : decode prog_10_method_36_code 49 = .ok (.iconst 1, 1) := by decide +kernel
theorem d_Model_broken_50 : decode prog_10_method_36_code 50 = .ok (.if_icmp .ne 13, 3) := by decide +kernel
theorem d_Model_broken_53 : decode prog_10_method_36_code 53 = .ok (.iload_n 2, 1) := by decide +kernel
theorem d_Model_broken_54 : decode prog_10_method_36_code 54 = .ok (.iload_n 1, 1) := by decide +kernel
theorem d_Model_broken_55 : decode prog_10_method_36_code 55 = .ok (.if_icmp .ne 5, 3) := by decide +kernel
theorem d_Model_broken_58 : decode prog_10_method_36_code 58 = .ok (.iload_n 3, 1) := by decide +kernel
theorem d_Model_broken_59 : decode prog_10_method_36_code 59 = .ok (.ireturn, 1) := by decide +kernel
theorem d_Model_broken_60 : decode prog_10_method_36_code 60 = .ok (.iinc 2 1, 3) := by decide +kernel
theorem d_Model_broken_63 : decode prog_10_method_36_code 63 = .ok (.iinc 3 1, 3) := by decide +kernel
theorem d_Model_broken_66 : decode prog_10_method_36_code 66 = .ok (.goto (-38), 3) := by decide +kernel
theorem d_Model_broken_69 : decode prog_10_method_36_code 69 = .ok (.aload_n 0, 1) := by decide +kernel
theorem d_Model_broken_70 : decode prog_10_method_36_code 70 = .ok (.getfield 62, 3) := by decide +kernel
theorem d_Model_broken_73 : decode prog_10_method_36_code 73 = .ok (.ifCond .le 7, 3) := by decide +kernel
theorem d_Model_broken_76 : decode prog_10_method_36_code 76 = .ok (.iconst 0, 1) := by decide +kernel
theorem d_Model_broken_77 : decode prog_10_method_36_code 77 = .ok (.goto 4, 3) := by decide +kernel
theorem d_Model_broken_80 : decode prog_10_method_36_code 80 = .ok (.iconst (-1), 1) := by decide +kernel
theorem d_Model_broken_81 : decode prog_10_method_36_code 81 = .ok (.ireturn, 1) := by decide +kernel
abbrev y_Model_suggest : MethodName := ⟨"PermitRulesModel", "suggest", "(IJI)J"⟩
abbrev cw_Model_suggest : Cond := .code y_Model_suggest prog_10_method_37_code 15 (some .long)
theorem d_Model_suggest_0 : decode prog_10_method_37_code 0 = .ok (.aload_n 0, 1) := by decide +kernel
theorem d_Model_suggest_1 : decode prog_10_method_37_code 1 = .ok (.lload_n 2, 1) := by decide +kernel
theorem d_Model_suggest_2 : decode prog_10_method_37_code 2 = .ok (.invokevirtual 173, 3) := by decide +kernel
theorem d_Model_suggest_5 : decode prog_10_method_37_code 5 = .ok (.istore 5, 2) := by decide +kernel
theorem d_Model_suggest_7 : decode prog_10_method_37_code 7 = .ok (.aload_n 0, 1) := by decide +kernel
theorem d_Model_suggest_8 : decode prog_10_method_37_code 8 = .ok (.iload_n 1, 1) := by decide +kernel
theorem d_Model_suggest_9 : decode prog_10_method_37_code 9 = .ok (.i2l, 1) := by decide +kernel
theorem d_Model_suggest_10 : decode prog_10_method_37_code 10 = .ok (.lconst 0, 1) := by decide +kernel
theorem d_Model_suggest_11 : decode prog_10_method_37_code 11 = .ok (.aload_n 0, 1) := by decide +kernel
theorem d_Model_suggest_12 : decode prog_10_method_37_code 12 = .ok (.getfield 160, 3) := by decide +kernel
theorem d_Model_suggest_15 : decode prog_10_method_37_code 15 = .ok (.i2l, 1) := by decide +kernel
theorem d_Model_suggest_16 : decode prog_10_method_37_code 16 = .ok (.lconst 1, 1) := by decide +kernel
theorem d_Model_suggest_17 : decode prog_10_method_37_code 17 = .ok (.lsub, 1) := by decide +kernel
theorem d_Model_suggest_18 : decode prog_10_method_37_code 18 = .ok (.invokestatic 72, 3) := by decide +kernel
theorem d_Model_suggest_21 : decode prog_10_method_37_code 21 = .ok (.ifCond .eq 21, 3) := by decide +kernel
theorem d_Model_suggest_24 : decode prog_10_method_37_code 24 = .ok (.iload 5, 2) := by decide +kernel
theorem d_Model_suggest_26 : decode prog_10_method_37_code 26 = .ok (.ifCond .lt 16, 3) := by decide +kernel
theorem d_Model_suggest_29 : decode prog_10_method_37_code 29 = .ok (.iload 4, 2) := by decide +kernel
theorem d_Model_suggest_31 : decode prog_10_method_37_code 31 = .ok (.i2l, 1) := by decide +kernel
theorem d_Model_suggest_32 : decode prog_10_method_37_code 32 = .ok (.lconst 0, 1) := by decide +kernel
theorem d_Model_suggest_33 : decode prog_10_method_37_code 33 = .ok (.ldc2_w 252, 3) := by decide +kernel
theorem d_Model_suggest_36 : decode prog_10_method_37_code 36 = .ok (.invokestatic 72, 3) := by decide +kernel
theorem d_Model_suggest_39 : decode prog_10_method_37_code 39 = .ok (.ifCond .ne 7, 3) := by decide +kernel
theorem d_Model_suggest_42 : decode prog_10_method_37_code 42 = .ok (.iconst 1, 1) := by decide +kernel
theorem d_Model_suggest_43 : decode prog_10_method_37_code 43 = .ok (.goto 15, 3) := by decide +kernel
theorem d_Model_suggest_46 : decode prog_10_method_37_code 46 = .ok (.aload_n 0, 1) := by decide +kernel
theorem d_Model_suggest_47 : decode prog_10_method_37_code 47 = .ok (.getfield 166, 3) := by decide +kernel
theorem d_Model_suggest_50 : decode prog_10_method_37_code 50 = .ok (.ifCond .ne 7, 3) := by decide +kernel
theorem d_Model_suggest_53 : decode prog_10_method_37_code 53 = .ok (.iconst 2, 1) := by decide +kernel
theorem d_Model_suggest_54 : decode prog_10_method_37_code 54 = .ok (.goto 4, 3) := by decide +kernel
theorem d_Model_suggest_57 : decode prog_10_method_37_code 57 = .ok (.iconst 0, 1) := by decide +kernel
theorem d_Model_suggest_58 : decode prog_10_method_37_code 58 = .ok (.putfield 62, 3) := by decide +kernel
theorem d_Model_suggest_61 : decode prog_10_method_37_code 61 = .ok (.aload_n 0, 1) := by decide +kernel
theorem d_Model_suggest_62 : decode prog_10_method_37_code 62 = .ok (.getfield 62, 3) := by decide +kernel
theorem d_Model_suggest_65 : decode prog_10_method_37_code 65 = .ok (.ifCond .le 5, 3) := by decide +kernel
theorem d_Model_suggest_68 : decode prog_10_method_37_code 68 = .ok (.lconst 0, 1) := by decide +kernel
theorem d_Model_suggest_69 : decode prog_10_method_37_code 69 = .ok (.lreturn, 1) := by decide +kernel
theorem d_Model_suggest_70 : decode prog_10_method_37_code 70 = .ok (.aload_n 0, 1) := by decide +kernel
theorem d_Model_suggest_71 : decode prog_10_method_37_code 71 = .ok (.getfield 47, 3) := by decide +kernel
theorem d_Model_suggest_74 : decode prog_10_method_37_code 74 = .ok (.iload 5, 2) := by decide +kernel
theorem d_Model_suggest_76 : decode prog_10_method_37_code 76 = .ok (.laload, 1) := by decide +kernel
theorem d_Model_suggest_77 : decode prog_10_method_37_code 77 = .ok (.lstore 6, 2) := by decide +kernel
theorem d_Model_suggest_79 : decode prog_10_method_37_code 79 = .ok (.ldc2_w 184, 3) := by decide +kernel
theorem d_Model_suggest_82 : decode prog_10_method_37_code 82 = .ok (.lstore 8, 2) := by decide +kernel
theorem d_Model_suggest_84 : decode prog_10_method_37_code 84 = .ok (.iconst 1, 1) := by decide +kernel
theorem d_Model_suggest_85 : decode prog_10_method_37_code 85 = .ok (.istore 10, 2) := by decide +kernel
theorem d_Model_suggest_87 : decode prog_10_method_37_code 87 = .ok (.iload 10, 2) := by decide +kernel
theorem d_Model_suggest_89 : decode prog_10_method_37_code 89 = .ok (.iload 4, 2) := by decide +kernel
theorem d_Model_suggest_91 : decode prog_10_method_37_code 91 = .ok (.if_icmp .gt 120, 3) := by decide +kernel
theorem d_Model_suggest_94 : decode prog_10_method_37_code 94 = .ok (.lload 8, 2) := by decide +kernel
theorem d_Model_suggest_96 : decode prog_10_method_37_code 96 = .ok (.ldc2_w 184, 3) := by decide +kernel
theorem d_Model_suggest_99 : decode prog_10_method_37_code 99 = .ok (.lcmp, 1) := by decide +kernel
theorem d_Model_suggest_100 : decode prog_10_method_37_code 100 = .ok (.ifCond .ne 111, 3) := by decide +kernel
theorem d_Model_suggest_103 : decode prog_10_method_37_code 103 = .ok (.iconst 0, 1) := by decide +kernel
theorem d_Model_suggest_104 : decode prog_10_method_37_code 104 = .ok (.istore 11, 2) := by decide +kernel
theorem d_Model_suggest_106 : decode prog_10_method_37_code 106 = .ok (.iload 11, 2) := by decide +kernel
theorem d_Model_suggest_108 : decode prog_10_method_37_code 108 = .ok (.iconst 2, 1) := by decide +kernel
theorem d_Model_suggest_109 : decode prog_10_method_37_code 109 = .ok (.if_icmp .ge 96, 3) := by decide +kernel
theorem d_Model_suggest_112 : decode prog_10_method_37_code 112 = .ok (.lload 8, 2) := by decide +kernel
theorem d_Model_suggest_114 : decode prog_10_method_37_code 114 = .ok (.ldc2_w 184, 3) := by decide +kernel
theorem d_Model_suggest_117 : decode prog_10_method_37_code 117 = .ok (.lcmp, 1) := by decide +kernel
theorem d_Model_suggest_118 : decode prog_10_method_37_code 118 = .ok (.ifCond .ne 87, 3) := by decide +kernel
theorem d_Model_suggest_121 : decode prog_10_method_37_code 121 = .ok (.iload 11, 2) := by decide +kernel
theorem d_Model_suggest_123 : decode prog_10_method_37_code 123 = .ok (.ifCond .ne 12, 3) := by decide +kernel
theorem d_Model_suggest_126 : decode prog_10_method_37_code 126 = .ok (.lload 6, 2) := by decide +kernel
theorem d_Model_suggest_128 : decode prog_10_method_37_code 128 = .ok (.iload 10, 2) := by decide +kernel
theorem d_Model_suggest_130 : decode prog_10_method_37_code 130 = .ok (.i2l, 1) := by decide +kernel
theorem d_Model_suggest_131 : decode prog_10_method_37_code 131 = .ok (.ladd, 1) := by decide +kernel
theorem d_Model_suggest_132 : decode prog_10_method_37_code 132 = .ok (.goto 9, 3) := by decide +kernel
theorem d_Model_suggest_135 : decode prog_10_method_37_code 135 = .ok (.lload 6, 2) := by decide +kernel
theorem d_Model_suggest_137 : decode prog_10_method_37_code 137 = .ok (.iload 10, 2) := by decide +kernel
theorem d_Model_suggest_139 : decode prog_10_method_37_code 139 = .ok (.i2l, 1) := by decide +kernel
theorem d_Model_suggest_140 : decode prog_10_method_37_code 140 = .ok (.lsub, 1) := by decide +kernel
theorem d_Model_suggest_141 : decode prog_10_method_37_code 141 = .ok (.lstore 12, 2) := by decide +kernel
theorem d_Model_suggest_143 : decode prog_10_method_37_code 143 = .ok (.lload 12, 2) := by decide +kernel
theorem d_Model_suggest_145 : decode prog_10_method_37_code 145 = .ok (.ldc2_w 180, 3) := by decide +kernel
theorem d_Model_suggest_148 : decode prog_10_method_37_code 148 = .ok (.ldc2_w 182, 3) := by decide +kernel
theorem d_Model_suggest_151 : decode prog_10_method_37_code 151 = .ok (.invokestatic 72, 3) := by decide +kernel
theorem d_Model_suggest_154 : decode prog_10_method_37_code 154 = .ok (.ifCond .eq 45, 3) := by decide +kernel
theorem d_Model_suggest_157 : decode prog_10_method_37_code 157 = .ok (.aload_n 0, 1) := by decide +kernel
theorem d_Model_suggest_158 : decode prog_10_method_37_code 158 = .ok (.getfield 47, 3) := by decide +kernel
theorem d_Model_suggest_161 : decode prog_10_method_37_code 161 = .ok (.iload 5, 2) := by decide +kernel
theorem d_Model_suggest_163 : decode prog_10_method_37_code 163 = .ok (.lload 12, 2) := by decide +kernel
theorem d_Model_suggest_165 : decode prog_10_method_37_code 165 = .ok (.lastore, 1) := by decide +kernel
theorem d_Model_suggest_166 : decode prog_10_method_37_code 166 = .ok (.aload_n 0, 1) := by decide +kernel
theorem d_Model_suggest_167 : decode prog_10_method_37_code 167 = .ok (.iload_n 1, 1) := by decide +kernel
theorem d_Model_suggest_168 : decode prog_10_method_37_code 168 = .ok (.aload_n 0, 1) := by decide +kernel
theorem d_Model_suggest_169 : decode prog_10_method_37_code 169 = .ok (.getfield 243, 3) := by decide +kernel
theorem d_Model_suggest_172 : decode prog_10_method_37_code 172 = .ok (.iconst 0, 1) := by decide +kernel
theorem d_Model_suggest_173 : decode prog_10_method_37_code 173 = .ok (.invokevirtual 246, 3) := by decide +kernel
theorem d_Model_suggest_176 : decode prog_10_method_37_code 176 = .ok (.istore 14, 2) := by decide +kernel
theorem d_Model_suggest_178 : decode prog_10_method_37_code 178 = .ok (.iload 14, 2) := by decide +kernel
theorem d_Model_suggest_180 : decode prog_10_method_37_code 180 = .ok (.ifCond .eq 9, 3) := by decide +kernel
theorem d_Model_suggest_183 : decode prog_10_method_37_code 183 = .ok (.iload 14, 2) := by decide +kernel
theorem d_Model_suggest_185 : decode prog_10_method_37_code 185 = .ok (.iconst 2, 1) := by decide +kernel
theorem d_Model_suggest_186 : decode prog_10_method_37_code 186 = .ok (.if_icmp .ne 8, 3) := by decide +kernel
theorem d_Model_suggest_189 : decode prog_10_method_37_code 189 = .ok (.lload 12, 2) := by decide +kernel
theorem d_Model_suggest_191 : decode prog_10_method_37_code 191 = .ok (.goto 6, 3) := by decide +kernel
theorem d_Model_suggest_194 : decode prog_10_method_37_code 194 = .ok (.ldc2_w 184, 3) := by decide +kernel
theorem d_Model_suggest_197 : decode prog_10_method_37_code 197 = .ok (.lstore 8, 2) := by decide +kernel
theorem d_Model_suggest_199 : decode prog_10_method_37_code 199 = .ok (.iinc 11 1, 3) := by decide +kernel
theorem d_Model_suggest_202 : decode prog_10_method_37_code 202 = .ok (.goto (-96), 3) := by decide +kernel
theorem d_Model_suggest_205 : decode prog_10_method_37_code 205 = .ok (.iinc 10 1, 3) := by decide +kernel
theorem d_Model_suggest_208 : decode prog_10_method_37_code 208 = .ok (.goto (-121), 3) := by decide +kernel
theorem d_Model_suggest_211 : decode prog_10_method_37_code 211 = .ok (.aload_n 0, 1) := by decide +kernel
theorem d_Model_suggest_212 : decode prog_10_method_37_code 212 = .ok (.getfield 47, 3) := by decide +kernel
theorem d_Model_suggest_215 : decode prog_10_method_37_code 215 = .ok (.iload 5, 2) := by decide +kernel
theorem d_Model_suggest_217 : decode prog_10_method_37_code 217 = .ok (.lload 6, 2) := by decide +kernel
theorem d_Model_suggest_219 : decode prog_10_method_37_code 219 = .ok (.lastore, 1) := by decide +kernel
theorem d_Model_suggest_220 : decode prog_10_method_37_code 220 = .ok (.lload 8, 2) := by decide +kernel
theorem d_Model_suggest_222 : decode prog_10_method_37_code 222 = .ok (.lreturn, 1) := by decide +kernel
abbrev y_Model_count : MethodName := ⟨"PermitRulesModel", "count", "(I)I"⟩
abbrev cw_Model_count : Cond := .code y_Model_count prog_10_method_38_code 2 (some .int)
theorem d_Model_count_0 : decode prog_10_method_38_code 0 = .ok (.aload_n 0, 1) := by decide +kernel
theorem d_Model_count_1 : decode prog_10_method_38_code 1 = .ok (.iload_n 1, 1) := by decide +kernel
theorem d_Model_count_2 : decode prog_10_method_38_code 2 = .ok (.i2l, 1) := by decide +kernel
theorem d_Model_count_3 : decode prog_10_method_38_code 3 = .ok (.lconst 0, 1) := by decide +kernel
theorem d_Model_count_4 : decode prog_10_method_38_code 4 = .ok (.ldc2_w 254, 3) := by decide +kernel
theorem d_Model_count_7 : decode prog_10_method_38_code 7 = .ok (.invokestatic 72, 3) := by decide +kernel
theorem d_Model_count_10 : decode prog_10_method_38_code 10 = .ok (.ifCond .eq 7, 3) := by decide +kernel
theorem d_Model_count_13 : decode prog_10_method_38_code 13 = .ok (.iconst 0, 1) := by decide +kernel
theorem d_Model_count_14 : decode prog_10_method_38_code 14 = .ok (.goto 4, 3) := by decide +kernel
theorem d_Model_count_17 : decode prog_10_method_38_code 17 = .ok (.iconst 1, 1) := by decide +kernel
theorem d_Model_count_18 : decode prog_10_method_38_code 18 = .ok (.putfield 62, 3) := by decide +kernel
theorem d_Model_count_21 : decode prog_10_method_38_code 21 = .ok (.aload_n 0, 1) := by decide +kernel
theorem d_Model_count_22 : decode prog_10_method_38_code 22 = .ok (.getfield 62, 3) := by decide +kernel
theorem d_Model_count_25 : decode prog_10_method_38_code 25 = .ok (.ifCond .le 7, 3) := by decide +kernel
theorem d_Model_count_28 : decode prog_10_method_38_code 28 = .ok (.iconst 0, 1) := by decide +kernel
theorem d_Model_count_29 : decode prog_10_method_38_code 29 = .ok (.goto 47, 3) := by decide +kernel
theorem d_Model_count_32 : decode prog_10_method_38_code 32 = .ok (.iload_n 1, 1) := by decide +kernel
theorem d_Model_count_33 : decode prog_10_method_38_code 33 = .ok (.ifCond .ne 10, 3) := by decide +kernel
theorem d_Model_count_36 : decode prog_10_method_38_code 36 = .ok (.aload_n 0, 1) := by decide +kernel
theorem d_Model_count_37 : decode prog_10_method_38_code 37 = .ok (.getfield 76, 3) := by decide +kernel
theorem d_Model_count_40 : decode prog_10_method_38_code 40 = .ok (.goto 36, 3) := by decide +kernel
theorem d_Model_count_43 : decode prog_10_method_38_code 43 = .ok (.iload_n 1, 1) := by decide +kernel
theorem d_Model_count_44 : decode prog_10_method_38_code 44 = .ok (.iconst 1, 1) := by decide +kernel
theorem d_Model_count_45 : decode prog_10_method_38_code 45 = .ok (.if_icmp .ne 10, 3) := by decide +kernel
theorem d_Model_count_48 : decode prog_10_method_38_code 48 = .ok (.aload_n 0, 1) := by decide +kernel
theorem d_Model_count_49 : decode prog_10_method_38_code 49 = .ok (.getfield 160, 3) := by decide +kernel
theorem d_Model_count_52 : decode prog_10_method_38_code 52 = .ok (.goto 24, 3) := by decide +kernel
theorem d_Model_count_55 : decode prog_10_method_38_code 55 = .ok (.iload_n 1, 1) := by decide +kernel
theorem d_Model_count_56 : decode prog_10_method_38_code 56 = .ok (.iconst 2, 1) := by decide +kernel
theorem d_Model_count_57 : decode prog_10_method_38_code 57 = .ok (.if_icmp .ne 10, 3) := by decide +kernel
theorem d_Model_count_60 : decode prog_10_method_38_code 60 = .ok (.aload_n 0, 1) := by decide +kernel
theorem d_Model_count_61 : decode prog_10_method_38_code 61 = .ok (.getfield 170, 3) := by decide +kernel
theorem d_Model_count_64 : decode prog_10_method_38_code 64 = .ok (.goto 12, 3) := by decide +kernel
theorem d_Model_count_67 : decode prog_10_method_38_code 67 = .ok (.aload_n 0, 1) := by decide +kernel
theorem d_Model_count_68 : decode prog_10_method_38_code 68 = .ok (.getfield 163, 3) := by decide +kernel
theorem d_Model_count_71 : decode prog_10_method_38_code 71 = .ok (.aload_n 0, 1) := by decide +kernel
theorem d_Model_count_72 : decode prog_10_method_38_code 72 = .ok (.getfield 160, 3) := by decide +kernel
theorem d_Model_count_75 : decode prog_10_method_38_code 75 = .ok (.isub, 1) := by decide +kernel
theorem d_Model_count_76 : decode prog_10_method_38_code 76 = .ok (.ireturn, 1) := by decide +kernel
