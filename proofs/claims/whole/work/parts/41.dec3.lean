abbrev y_Model_in : MethodName := ⟨"PermitRulesModel", "in", "(JJJ)Z"⟩
abbrev cw_Model_in : Cond := .code y_Model_in prog_10_method_3_code 6 (some .boolean)
theorem d_Model_in_0 : decode prog_10_method_3_code 0 = .ok (.lload_n 0, 1) := by decide +kernel
theorem d_Model_in_1 : decode prog_10_method_3_code 1 = .ok (.lload_n 2, 1) := by decide +kernel
theorem d_Model_in_2 : decode prog_10_method_3_code 2 = .ok (.lcmp, 1) := by decide +kernel
theorem d_Model_in_3 : decode prog_10_method_3_code 3 = .ok (.ifCond .lt 14, 3) := by decide +kernel
theorem d_Model_in_6 : decode prog_10_method_3_code 6 = .ok (.lload_n 0, 1) := by decide +kernel
theorem d_Model_in_7 : decode prog_10_method_3_code 7 = .ok (.lload 4, 2) := by decide +kernel
theorem d_Model_in_9 : decode prog_10_method_3_code 9 = .ok (.lcmp, 1) := by decide +kernel
theorem d_Model_in_10 : decode prog_10_method_3_code 10 = .ok (.ifCond .gt 7, 3) := by decide +kernel
theorem d_Model_in_13 : decode prog_10_method_3_code 13 = .ok (.iconst 1, 1) := by decide +kernel
theorem d_Model_in_14 : decode prog_10_method_3_code 14 = .ok (.goto 4, 3) := by decide +kernel
theorem d_Model_in_17 : decode prog_10_method_3_code 17 = .ok (.iconst 0, 1) := by decide +kernel
theorem d_Model_in_18 : decode prog_10_method_3_code 18 = .ok (.ireturn, 1) := by decide +kernel
abbrev y_Model_thrown : MethodName := ⟨"PermitRulesModel", "thrown", "()I"⟩
abbrev cw_Model_thrown : Cond := .code y_Model_thrown prog_10_method_2_code 1 (some .int)
theorem d_Model_thrown_0 : decode prog_10_method_2_code 0 = .ok (.aload_n 0, 1) := by decide +kernel
theorem d_Model_thrown_1 : decode prog_10_method_2_code 1 = .ok (.getfield 62, 3) := by decide +kernel
theorem d_Model_thrown_4 : decode prog_10_method_2_code 4 = .ok (.ireturn, 1) := by decide +kernel
abbrev y_Model_character : MethodName := ⟨"PermitRulesModel", "character", "(I)I"⟩
abbrev cw_Model_character : Cond := .code y_Model_character prog_10_method_6_code 2 (some .int)
theorem d_Model_character_0 : decode prog_10_method_6_code 0 = .ok (.iload_n 1, 1) := by decide +kernel
theorem d_Model_character_1 : decode prog_10_method_6_code 1 = .ok (.aload_n 0, 1) := by decide +kernel
theorem d_Model_character_2 : decode prog_10_method_6_code 2 = .ok (.getfield 76, 3) := by decide +kernel
theorem d_Model_character_5 : decode prog_10_method_6_code 5 = .ok (.if_icmp .ge 12, 3) := by decide +kernel
theorem d_Model_character_8 : decode prog_10_method_6_code 8 = .ok (.aload_n 0, 1) := by decide +kernel
theorem d_Model_character_9 : decode prog_10_method_6_code 9 = .ok (.getfield 7, 3) := by decide +kernel
theorem d_Model_character_12 : decode prog_10_method_6_code 12 = .ok (.iload_n 1, 1) := by decide +kernel
theorem d_Model_character_13 : decode prog_10_method_6_code 13 = .ok (.iaload, 1) := by decide +kernel
theorem d_Model_character_14 : decode prog_10_method_6_code 14 = .ok (.goto 4, 3) := by decide +kernel
theorem d_Model_character_17 : decode prog_10_method_6_code 17 = .ok (.iconst (-1), 1) := by decide +kernel
theorem d_Model_character_18 : decode prog_10_method_6_code 18 = .ok (.ireturn, 1) := by decide +kernel
abbrev y_Model_isDigit : MethodName := ⟨"PermitRulesModel", "isDigit", "(I)Z"⟩
abbrev cw_Model_isDigit : Cond := .code y_Model_isDigit prog_10_method_7_code 2 (some .boolean)
theorem d_Model_isDigit_0 : decode prog_10_method_7_code 0 = .ok (.aload_n 0, 1) := by decide +kernel
theorem d_Model_isDigit_1 : decode prog_10_method_7_code 1 = .ok (.iload_n 1, 1) := by decide +kernel
theorem d_Model_isDigit_2 : decode prog_10_method_7_code 2 = .ok (.invokevirtual 79, 3) := by decide +kernel
theorem d_Model_isDigit_5 : decode prog_10_method_7_code 5 = .ok (.i2l, 1) := by decide +kernel
theorem d_Model_isDigit_6 : decode prog_10_method_7_code 6 = .ok (.ldc2_w 83, 3) := by decide +kernel
theorem d_Model_isDigit_9 : decode prog_10_method_7_code 9 = .ok (.ldc2_w 85, 3) := by decide +kernel
theorem d_Model_isDigit_12 : decode prog_10_method_7_code 12 = .ok (.invokestatic 72, 3) := by decide +kernel
theorem d_Model_isDigit_15 : decode prog_10_method_7_code 15 = .ok (.ireturn, 1) := by decide +kernel
abbrev y_Model_isLetter : MethodName := ⟨"PermitRulesModel", "isLetter", "(I)Z"⟩
abbrev cw_Model_isLetter : Cond := .code y_Model_isLetter prog_10_method_8_code 2 (some .boolean)
theorem d_Model_isLetter_0 : decode prog_10_method_8_code 0 = .ok (.aload_n 0, 1) := by decide +kernel
theorem d_Model_isLetter_1 : decode prog_10_method_8_code 1 = .ok (.iload_n 1, 1) := by decide +kernel
theorem d_Model_isLetter_2 : decode prog_10_method_8_code 2 = .ok (.invokevirtual 79, 3) := by decide +kernel
theorem d_Model_isLetter_5 : decode prog_10_method_8_code 5 = .ok (.i2l, 1) := by decide +kernel
theorem d_Model_isLetter_6 : decode prog_10_method_8_code 6 = .ok (.ldc2_w 87, 3) := by decide +kernel
theorem d_Model_isLetter_9 : decode prog_10_method_8_code 9 = .ok (.ldc2_w 89, 3) := by decide +kernel
theorem d_Model_isLetter_12 : decode prog_10_method_8_code 12 = .ok (.invokestatic 72, 3) := by decide +kernel
theorem d_Model_isLetter_15 : decode prog_10_method_8_code 15 = .ok (.ireturn, 1) := by decide +kernel
abbrev y_Model_isSign : MethodName := ⟨"PermitRulesModel", "isSign", "(I)Z"⟩
abbrev cw_Model_isSign : Cond := .code y_Model_isSign prog_10_method_9_code 1 (some .boolean)
theorem d_Model_isSign_0 : decode prog_10_method_9_code 0 = .ok (.iload_n 0, 1) := by decide +kernel
theorem d_Model_isSign_1 : decode prog_10_method_9_code 1 = .ok (.bipush 43, 2) := by decide +kernel
theorem d_Model_isSign_3 : decode prog_10_method_9_code 3 = .ok (.if_icmp .eq 75, 3) := by decide +kernel
theorem d_Model_isSign_6 : decode prog_10_method_9_code 6 = .ok (.iload_n 0, 1) := by decide +kernel
theorem d_Model_isSign_7 : decode prog_10_method_9_code 7 = .ok (.bipush 45, 2) := by decide +kernel
theorem d_Model_isSign_9 : decode prog_10_method_9_code 9 = .ok (.if_icmp .eq 69, 3) := by decide +kernel
theorem d_Model_isSign_12 : decode prog_10_method_9_code 12 = .ok (.iload_n 0, 1) := by decide +kernel
theorem d_Model_isSign_13 : decode prog_10_method_9_code 13 = .ok (.bipush 42, 2) := by decide +kernel
theorem d_Model_isSign_15 : decode prog_10_method_9_code 15 = .ok (.if_icmp .eq 63, 3) := by decide +kernel
theorem d_Model_isSign_18 : decode prog_10_method_9_code 18 = .ok (.iload_n 0, 1) := by decide +kernel
theorem d_Model_isSign_19 : decode prog_10_method_9_code 19 = .ok (.bipush 47, 2) := by decide +kernel
theorem d_Model_isSign_21 : decode prog_10_method_9_code 21 = .ok (.if_icmp .eq 57, 3) := by decide +kernel
theorem d_Model_isSign_24 : decode prog_10_method_9_code 24 = .ok (.iload_n 0, 1) := by decide +kernel
theorem d_Model_isSign_25 : decode prog_10_method_9_code 25 = .ok (.bipush 40, 2) := by decide +kernel
theorem d_Model_isSign_27 : decode prog_10_method_9_code 27 = .ok (.if_icmp .eq 51, 3) := by decide +kernel
theorem d_Model_isSign_30 : decode prog_10_method_9_code 30 = .ok (.iload_n 0, 1) := by decide +kernel
theorem d_Model_isSign_31 : decode prog_10_method_9_code 31 = .ok (.bipush 41, 2) := by decide +kernel
theorem d_Model_isSign_33 : decode prog_10_method_9_code 33 = .ok (.if_icmp .eq 45, 3) := by decide +kernel
theorem d_Model_isSign_36 : decode prog_10_method_9_code 36 = .ok (.iload_n 0, 1) := by decide +kernel
theorem d_Model_isSign_37 : decode prog_10_method_9_code 37 = .ok (.bipush 60, 2) := by decide +kernel
theorem d_Model_isSign_39 : decode prog_10_method_9_code 39 = .ok (.if_icmp .eq 39, 3) := by decide +kernel
theorem d_Model_isSign_42 : decode prog_10_method_9_code 42 = .ok (.iload_n 0, 1) := by decide +kernel
theorem d_Model_isSign_43 : decode prog_10_method_9_code 43 = .ok (.bipush 61, 2) := by decide +kernel
theorem d_Model_isSign_45 : decode prog_10_method_9_code 45 = .ok (.if_icmp .eq 33, 3) := by decide +kernel
theorem d_Model_isSign_48 : decode prog_10_method_9_code 48 = .ok (.iload_n 0, 1) := by decide +kernel
theorem d_Model_isSign_49 : decode prog_10_method_9_code 49 = .ok (.bipush 62, 2) := by decide +kernel
theorem d_Model_isSign_51 : decode prog_10_method_9_code 51 = .ok (.if_icmp .eq 27, 3) := by decide +kernel
theorem d_Model_isSign_54 : decode prog_10_method_9_code 54 = .ok (.iload_n 0, 1) := by decide +kernel
theorem d_Model_isSign_55 : decode prog_10_method_9_code 55 = .ok (.bipush 58, 2) := by decide +kernel
theorem d_Model_isSign_57 : decode prog_10_method_9_code 57 = .ok (.if_icmp .eq 21, 3) := by decide +kernel
theorem d_Model_isSign_60 : decode prog_10_method_9_code 60 = .ok (.iload_n 0, 1) := by decide +kernel
theorem d_Model_isSign_61 : decode prog_10_method_9_code 61 = .ok (.bipush 59, 2) := by decide +kernel
theorem d_Model_isSign_63 : decode prog_10_method_9_code 63 = .ok (.if_icmp .eq 15, 3) := by decide +kernel
theorem d_Model_isSign_66 : decode prog_10_method_9_code 66 = .ok (.iload_n 0, 1) := by decide +kernel
theorem d_Model_isSign_67 : decode prog_10_method_9_code 67 = .ok (.bipush 33, 2) := by decide +kernel
theorem d_Model_isSign_69 : decode prog_10_method_9_code 69 = .ok (.if_icmp .eq 9, 3) := by decide +kernel
theorem d_Model_isSign_72 : decode prog_10_method_9_code 72 = .ok (.iload_n 0, 1) := by decide +kernel
theorem d_Model_isSign_73 : decode prog_10_method_9_code 73 = .ok (.bipush 64, 2) := by decide +kernel
theorem d_Model_isSign_75 : decode prog_10_method_9_code 75 = .ok (.if_icmp .ne 7, 3) := by decide +kernel
theorem d_Model_isSign_78 : decode prog_10_method_9_code 78 = .ok (.iconst 1, 1) := by decide +kernel
theorem d_Model_isSign_79 : decode prog_10_method_9_code 79 = .ok (.goto 4, 3) := by decide +kernel
theorem d_Model_isSign_82 : decode prog_10_method_9_code 82 = .ok (.iconst 0, 1) := by decide +kernel
theorem d_Model_isSign_83 : decode prog_10_method_9_code 83 = .ok (.ireturn, 1) := by decide +kernel
abbrev y_Model_compares : MethodName := ⟨"PermitRulesModel", "compares", "(I)Z"⟩
abbrev cw_Model_compares : Cond := .code y_Model_compares prog_10_method_11_code 1 (some .boolean)
theorem d_Model_compares_0 : decode prog_10_method_11_code 0 = .ok (.iload_n 0, 1) := by decide +kernel
theorem d_Model_compares_1 : decode prog_10_method_11_code 1 = .ok (.bipush 60, 2) := by decide +kernel
theorem d_Model_compares_3 : decode prog_10_method_11_code 3 = .ok (.if_icmp .eq 29, 3) := by decide +kernel
theorem d_Model_compares_6 : decode prog_10_method_11_code 6 = .ok (.iload_n 0, 1) := by decide +kernel
theorem d_Model_compares_7 : decode prog_10_method_11_code 7 = .ok (.bipush 61, 2) := by decide +kernel
theorem d_Model_compares_9 : decode prog_10_method_11_code 9 = .ok (.if_icmp .eq 23, 3) := by decide +kernel
theorem d_Model_compares_12 : decode prog_10_method_11_code 12 = .ok (.iload_n 0, 1) := by decide +kernel
theorem d_Model_compares_13 : decode prog_10_method_11_code 13 = .ok (.bipush 62, 2) := by decide +kernel
theorem d_Model_compares_15 : decode prog_10_method_11_code 15 = .ok (.if_icmp .eq 17, 3) := by decide +kernel
theorem d_Model_compares_18 : decode prog_10_method_11_code 18 = .ok (.iload_n 0, 1) := by decide +kernel
theorem d_Model_compares_19 : decode prog_10_method_11_code 19 = .ok (.sipush 316, 3) := by decide +kernel
theorem d_Model_compares_22 : decode prog_10_method_11_code 22 = .ok (.if_icmp .eq 10, 3) := by decide +kernel
theorem d_Model_compares_25 : decode prog_10_method_11_code 25 = .ok (.iload_n 0, 1) := by decide +kernel
theorem d_Model_compares_26 : decode prog_10_method_11_code 26 = .ok (.sipush 318, 3) := by decide +kernel
theorem d_Model_compares_29 : decode prog_10_method_11_code 29 = .ok (.if_icmp .ne 7, 3) := by decide +kernel
theorem d_Model_compares_32 : decode prog_10_method_11_code 32 = .ok (.iconst 1, 1) := by decide +kernel
theorem d_Model_compares_33 : decode prog_10_method_11_code 33 = .ok (.goto 4, 3) := by decide +kernel
theorem d_Model_compares_36 : decode prog_10_method_11_code 36 = .ok (.iconst 0, 1) := by decide +kernel
theorem d_Model_compares_37 : decode prog_10_method_11_code 37 = .ok (.ireturn, 1) := by decide +kernel
abbrev y_Model_rank : MethodName := ⟨"PermitRulesModel", "rank", "(I)I"⟩
abbrev cw_Model_rank : Cond := .code y_Model_rank prog_10_method_13_code 1 (some .int)
theorem d_Model_rank_0 : decode prog_10_method_13_code 0 = .ok (.iload_n 0, 1) := by decide +kernel
theorem d_Model_rank_1 : decode prog_10_method_13_code 1 = .ok (.bipush 42, 2) := by decide +kernel
theorem d_Model_rank_3 : decode prog_10_method_13_code 3 = .ok (.if_icmp .eq 9, 3) := by decide +kernel
theorem d_Model_rank_6 : decode prog_10_method_13_code 6 = .ok (.iload_n 0, 1) := by decide +kernel
theorem d_Model_rank_7 : decode prog_10_method_13_code 7 = .ok (.bipush 47, 2) := by decide +kernel
theorem d_Model_rank_9 : decode prog_10_method_13_code 9 = .ok (.if_icmp .ne 7, 3) := by decide +kernel
theorem d_Model_rank_12 : decode prog_10_method_13_code 12 = .ok (.iconst 3, 1) := by decide +kernel
theorem d_Model_rank_13 : decode prog_10_method_13_code 13 = .ok (.goto 30, 3) := by decide +kernel
theorem d_Model_rank_16 : decode prog_10_method_13_code 16 = .ok (.iload_n 0, 1) := by decide +kernel
theorem d_Model_rank_17 : decode prog_10_method_13_code 17 = .ok (.bipush 78, 2) := by decide +kernel
theorem d_Model_rank_19 : decode prog_10_method_13_code 19 = .ok (.if_icmp .ne 7, 3) := by decide +kernel
theorem d_Model_rank_22 : decode prog_10_method_13_code 22 = .ok (.iconst 2, 1) := by decide +kernel
theorem d_Model_rank_23 : decode prog_10_method_13_code 23 = .ok (.goto 20, 3) := by decide +kernel
theorem d_Model_rank_26 : decode prog_10_method_13_code 26 = .ok (.iload_n 0, 1) := by decide +kernel
theorem d_Model_rank_27 : decode prog_10_method_13_code 27 = .ok (.bipush 43, 2) := by decide +kernel
theorem d_Model_rank_29 : decode prog_10_method_13_code 29 = .ok (.if_icmp .eq 9, 3) := by decide +kernel
theorem d_Model_rank_32 : decode prog_10_method_13_code 32 = .ok (.iload_n 0, 1) := by decide +kernel
theorem d_Model_rank_33 : decode prog_10_method_13_code 33 = .ok (.bipush 45, 2) := by decide +kernel
theorem d_Model_rank_35 : decode prog_10_method_13_code 35 = .ok (.if_icmp .ne 7, 3) := by decide +kernel
theorem d_Model_rank_38 : decode prog_10_method_13_code 38 = .ok (.iconst 1, 1) := by decide +kernel
theorem d_Model_rank_39 : decode prog_10_method_13_code 39 = .ok (.goto 4, 3) := by decide +kernel
theorem d_Model_rank_42 : decode prog_10_method_13_code 42 = .ok (.iconst 0, 1) := by decide +kernel
theorem d_Model_rank_43 : decode prog_10_method_13_code 43 = .ok (.ireturn, 1) := by decide +kernel
abbrev y_Model_next : MethodName := ⟨"PermitRulesModel", "next", "()V"⟩
abbrev cw_Model_next : Cond := .code y_Model_next prog_10_method_10_code 3 none
theorem d_Model_next_0 : decode prog_10_method_10_code 0 = .ok (.aload_n 0, 1) := by decide +kernel
theorem d_Model_next_1 : decode prog_10_method_10_code 1 = .ok (.aload_n 0, 1) := by decide +kernel
theorem d_Model_next_2 : decode prog_10_method_10_code 2 = .ok (.getfield 91, 3) := by decide +kernel
theorem d_Model_next_5 : decode prog_10_method_10_code 5 = .ok (.invokevirtual 79, 3) := by decide +kernel
theorem d_Model_next_8 : decode prog_10_method_10_code 8 = .ok (.bipush 32, 2) := by decide +kernel
theorem d_Model_next_10 : decode prog_10_method_10_code 10 = .ok (.if_icmp .ne 16, 3) := by decide +kernel
theorem d_Model_next_13 : decode prog_10_method_10_code 13 = .ok (.aload_n 0, 1) := by decide +kernel
theorem d_Model_next_14 : decode prog_10_method_10_code 14 = .ok (.dup, 1) := by decide +kernel
theorem d_Model_next_15 : decode prog_10_method_10_code 15 = .ok (.getfield 91, 3) := by decide +kernel
theorem d_Model_next_18 : decode prog_10_method_10_code 18 = .ok (.iconst 1, 1) := by decide +kernel
theorem d_Model_next_19 : decode prog_10_method_10_code 19 = .ok (.iadd, 1) := by decide +kernel
theorem d_Model_next_20 : decode prog_10_method_10_code 20 = .ok (.putfield 91, 3) := by decide +kernel
theorem d_Model_next_23 : decode prog_10_method_10_code 23 = .ok (.goto (-23), 3) := by decide +kernel
theorem d_Model_next_26 : decode prog_10_method_10_code 26 = .ok (.aload_n 0, 1) := by decide +kernel
theorem d_Model_next_27 : decode prog_10_method_10_code 27 = .ok (.aload_n 0, 1) := by decide +kernel
theorem d_Model_next_28 : decode prog_10_method_10_code 28 = .ok (.getfield 91, 3) := by decide +kernel
theorem d_Model_next_31 : decode prog_10_method_10_code 31 = .ok (.putfield 94, 3) := by decide +kernel
theorem d_Model_next_34 : decode prog_10_method_10_code 34 = .ok (.aload_n 0, 1) := by decide +kernel
theorem d_Model_next_35 : decode prog_10_method_10_code 35 = .ok (.aload_n 0, 1) := by decide +kernel
theorem d_Model_next_36 : decode prog_10_method_10_code 36 = .ok (.getfield 91, 3) := by decide +kernel
theorem d_Model_next_39 : decode prog_10_method_10_code 39 = .ok (.invokevirtual 79, 3) := by decide +kernel
theorem d_Model_next_42 : decode prog_10_method_10_code 42 = .ok (.istore_n 1, 1) := by decide +kernel
theorem d_Model_next_43 : decode prog_10_method_10_code 43 = .ok (.iload_n 1, 1) := by decide +kernel
theorem d_Model_next_44 : decode prog_10_method_10_code 44 = .ok (.ifCond .ge 9, 3) := by decide +kernel
theorem d_Model_next_47 : decode prog_10_method_10_code 47 = .ok (.aload_n 0, 1) := by decide +kernel
theorem d_Model_next_48 : decode prog_10_method_10_code 48 = .ok (.iconst 0, 1) := by decide +kernel
theorem d_Model_next_49 : decode prog_10_method_10_code 49 = .ok (.putfield 97, 3) := by decide +kernel
theorem d_Model_next_52 : decode prog_10_method_10_code 52 = .ok (.return_, 1) := by decide +kernel
theorem d_Model_next_53 : decode prog_10_method_10_code 53 = .ok (.aload_n 0, 1) := by decide +kernel
theorem d_Model_next_54 : decode prog_10_method_10_code 54 = .ok (.dup, 1) := by decide +kernel
theorem d_Model_next_55 : decode prog_10_method_10_code 55 = .ok (.getfield 100, 3) := by decide +kernel
theorem d_Model_next_58 : decode prog_10_method_10_code 58 = .ok (.iconst 1, 1) := by decide +kernel
theorem d_Model_next_59 : decode prog_10_method_10_code 59 = .ok (.iadd, 1) := by decide +kernel
theorem d_Model_next_60 : decode prog_10_method_10_code 60 = .ok (.putfield 100, 3) := by decide +kernel
theorem d_Model_next_63 : decode prog_10_method_10_code 63 = .ok (.aload_n 0, 1) := by decide +kernel
theorem d_Model_next_64 : decode prog_10_method_10_code 64 = .ok (.lconst 0, 1) := by decide +kernel
theorem d_Model_next_65 : decode prog_10_method_10_code 65 = .ok (.putfield 103, 3) := by decide +kernel
theorem d_Model_next_68 : decode prog_10_method_10_code 68 = .ok (.iconst 0, 1) := by decide +kernel
theorem d_Model_next_69 : decode prog_10_method_10_code 69 = .ok (.istore_n 2, 1) := by decide +kernel
theorem d_Model_next_70 : decode prog_10_method_10_code 70 = .ok (.aload_n 0, 1) := by decide +kernel
theorem d_Model_next_71 : decode prog_10_method_10_code 71 = .ok (.aload_n 0, 1) := by decide +kernel
theorem d_Model_next_72 : decode prog_10_method_10_code 72 = .ok (.getfield 91, 3) := by decide +kernel
theorem d_Model_next_75 : decode prog_10_method_10_code 75 = .ok (.invokevirtual 107, 3) := by decide +kernel
theorem d_Model_next_78 : decode prog_10_method_10_code 78 = .ok (.ifCond .eq 87, 3) := by decide +kernel
theorem d_Model_next_81 : decode prog_10_method_10_code 81 = .ok (.aload_n 0, 1) := by decide +kernel
theorem d_Model_next_82 : decode prog_10_method_10_code 82 = .ok (.aload_n 0, 1) := by decide +kernel
theorem d_Model_next_83 : decode prog_10_method_10_code 83 = .ok (.getfield 91, 3) := by decide +kernel
theorem d_Model_next_86 : decode prog_10_method_10_code 86 = .ok (.invokevirtual 107, 3) := by decide +kernel
theorem d_Model_next_89 : decode prog_10_method_10_code 89 = .ok (.ifCond .eq 58, 3) := by decide +kernel
theorem d_Model_next_92 : decode prog_10_method_10_code 92 = .ok (.aload_n 0, 1) := by decide +kernel
theorem d_Model_next_93 : decode prog_10_method_10_code 93 = .ok (.iload_n 2, 1) := by decide +kernel
theorem d_Model_next_94 : decode prog_10_method_10_code 94 = .ok (.bipush 9, 2) := by decide +kernel
theorem d_Model_next_96 : decode prog_10_method_10_code 96 = .ok (.if_icmp .ge 28, 3) := by decide +kernel
theorem d_Model_next_99 : decode prog_10_method_10_code 99 = .ok (.ldc2_w 111, 3) := by decide +kernel
theorem d_Model_next_102 : decode prog_10_method_10_code 102 = .ok (.aload_n 0, 1) := by decide +kernel
theorem d_Model_next_103 : decode prog_10_method_10_code 103 = .ok (.getfield 103, 3) := by decide +kernel
theorem d_Model_next_106 : decode prog_10_method_10_code 106 = .ok (.lmul, 1) := by decide +kernel
theorem d_Model_next_107 : decode prog_10_method_10_code 107 = .ok (.aload_n 0, 1) := by decide +kernel
theorem d_Model_next_108 : decode prog_10_method_10_code 108 = .ok (.aload_n 0, 1) := by decide +kernel
theorem d_Model_next_109 : decode prog_10_method_10_code 109 = .ok (.getfield 91, 3) := by decide +kernel
theorem d_Model_next_112 : decode prog_10_method_10_code 112 = .ok (.invokevirtual 79, 3) := by decide +kernel
theorem d_Model_next_115 : decode prog_10_method_10_code 115 = .ok (.i2l, 1) := by decide +kernel
theorem d_Model_next_116 : decode prog_10_method_10_code 116 = .ok (.ladd, 1) := by decide +kernel
theorem d_Model_next_117 : decode prog_10_method_10_code 117 = .ok (.ldc2_w 83, 3) := by decide +kernel
theorem d_Model_next_120 : decode prog_10_method_10_code 120 = .ok (.lsub, 1) := by decide +kernel
theorem d_Model_next_121 : decode prog_10_method_10_code 121 = .ok (.goto 7, 3) := by decide +kernel
theorem d_Model_next_124 : decode prog_10_method_10_code 124 = .ok (.aload_n 0, 1) := by decide +kernel
theorem d_Model_next_125 : decode prog_10_method_10_code 125 = .ok (.getfield 103, 3) := by decide +kernel
theorem d_Model_next_128 : decode prog_10_method_10_code 128 = .ok (.putfield 103, 3) := by decide +kernel
theorem d_Model_next_131 : decode prog_10_method_10_code 131 = .ok (.iinc 2 1, 3) := by decide +kernel
theorem d_Model_next_134 : decode prog_10_method_10_code 134 = .ok (.aload_n 0, 1) := by decide +kernel
theorem d_Model_next_135 : decode prog_10_method_10_code 135 = .ok (.dup, 1) := by decide +kernel
theorem d_Model_next_136 : decode prog_10_method_10_code 136 = .ok (.getfield 91, 3) := by decide +kernel
theorem d_Model_next_139 : decode prog_10_method_10_code 139 = .ok (.iconst 1, 1) := by decide +kernel
theorem d_Model_next_140 : decode prog_10_method_10_code 140 = .ok (.iadd, 1) := by decide +kernel
theorem d_Model_next_141 : decode prog_10_method_10_code 141 = .ok (.putfield 91, 3) := by decide +kernel
theorem d_Model_next_144 : decode prog_10_method_10_code 144 = .ok (.goto (-63), 3) := by decide +kernel
theorem d_Model_next_147 : decode prog_10_method_10_code 147 = .ok (.aload_n 0, 1) := by decide +kernel
theorem d_Model_next_148 : decode prog_10_method_10_code 148 = .ok (.iload_n 2, 1) := by decide +kernel
theorem d_Model_next_149 : decode prog_10_method_10_code 149 = .ok (.bipush 9, 2) := by decide +kernel
theorem d_Model_next_151 : decode prog_10_method_10_code 151 = .ok (.if_icmp .le 7, 3) := by decide +kernel
theorem d_Model_next_154 : decode prog_10_method_10_code 154 = .ok (.iconst 3, 1) := by decide +kernel
theorem d_Model_next_155 : decode prog_10_method_10_code 155 = .ok (.goto 4, 3) := by decide +kernel
theorem d_Model_next_158 : decode prog_10_method_10_code 158 = .ok (.iconst 1, 1) := by decide +kernel
theorem d_Model_next_159 : decode prog_10_method_10_code 159 = .ok (.putfield 97, 3) := by decide +kernel
theorem d_Model_next_162 : decode prog_10_method_10_code 162 = .ok (.goto 164, 3) := by decide +kernel
theorem d_Model_next_165 : decode prog_10_method_10_code 165 = .ok (.aload_n 0, 1) := by decide +kernel
theorem d_Model_next_166 : decode prog_10_method_10_code 166 = .ok (.aload_n 0, 1) := by decide +kernel
theorem d_Model_next_167 : decode prog_10_method_10_code 167 = .ok (.getfield 91, 3) := by decide +kernel
theorem d_Model_next_170 : decode prog_10_method_10_code 170 = .ok (.invokevirtual 113, 3) := by decide +kernel
theorem d_Model_next_173 : decode prog_10_method_10_code 173 = .ok (.ifCond .eq 83, 3) := by decide +kernel
theorem d_Model_next_176 : decode prog_10_method_10_code 176 = .ok (.aload_n 0, 1) := by decide +kernel
theorem d_Model_next_177 : decode prog_10_method_10_code 177 = .ok (.aload_n 0, 1) := by decide +kernel
theorem d_Model_next_178 : decode prog_10_method_10_code 178 = .ok (.getfield 91, 3) := by decide +kernel
theorem d_Model_next_181 : decode prog_10_method_10_code 181 = .ok (.invokevirtual 113, 3) := by decide +kernel
theorem d_Model_next_184 : decode prog_10_method_10_code 184 = .ok (.ifCond .eq 54, 3) := by decide +kernel
theorem d_Model_next_187 : decode prog_10_method_10_code 187 = .ok (.aload_n 0, 1) := by decide +kernel
theorem d_Model_next_188 : decode prog_10_method_10_code 188 = .ok (.iload_n 2, 1) := by decide +kernel
theorem d_Model_next_189 : decode prog_10_method_10_code 189 = .ok (.bipush 8, 2) := by decide +kernel
theorem d_Model_next_191 : decode prog_10_method_10_code 191 = .ok (.if_icmp .ge 24, 3) := by decide +kernel
theorem d_Model_next_194 : decode prog_10_method_10_code 194 = .ok (.aload_n 0, 1) := by decide +kernel
theorem d_Model_next_195 : decode prog_10_method_10_code 195 = .ok (.getfield 103, 3) := by decide +kernel
theorem d_Model_next_198 : decode prog_10_method_10_code 198 = .ok (.ldc2_w 116, 3) := by decide +kernel
theorem d_Model_next_201 : decode prog_10_method_10_code 201 = .ok (.lmul, 1) := by decide +kernel
theorem d_Model_next_202 : decode prog_10_method_10_code 202 = .ok (.aload_n 0, 1) := by decide +kernel
theorem d_Model_next_203 : decode prog_10_method_10_code 203 = .ok (.aload_n 0, 1) := by decide +kernel
theorem d_Model_next_204 : decode prog_10_method_10_code 204 = .ok (.getfield 91, 3) := by decide +kernel
theorem d_Model_next_207 : decode prog_10_method_10_code 207 = .ok (.invokevirtual 79, 3) := by decide +kernel
theorem d_Model_next_210 : decode prog_10_method_10_code 210 = .ok (.i2l, 1) := by decide +kernel
theorem d_Model_next_211 : decode prog_10_method_10_code 211 = .ok (.ladd, 1) := by decide +kernel
theorem d_Model_next_212 : decode prog_10_method_10_code 212 = .ok (.goto 7, 3) := by decide +kernel
theorem d_Model_next_215 : decode prog_10_method_10_code 215 = .ok (.aload_n 0, 1) := by decide +kernel
theorem d_Model_next_216 : decode prog_10_method_10_code 216 = .ok (.getfield 103, 3) := by decide +kernel
theorem d_Model_next_219 : decode prog_10_method_10_code 219 = .ok (.putfield 103, 3) := by decide +kernel
theorem d_Model_next_222 : decode prog_10_method_10_code 222 = .ok (.iinc 2 1, 3) := by decide +kernel
theorem d_Model_next_225 : decode prog_10_method_10_code 225 = .ok (.aload_n 0, 1) := by decide +kernel
theorem d_Model_next_226 : decode prog_10_method_10_code 226 = .ok (.dup, 1) := by decide +kernel
theorem d_Model_next_227 : decode prog_10_method_10_code 227 = .ok (.getfield 91, 3) := by decide +kernel
theorem d_Model_next_230 : decode prog_10_method_10_code 230 = .ok (.iconst 1, 1) := by decide +kernel
theorem d_Model_next_231 : decode prog_10_method_10_code 231 = .ok (.iadd, 1) := by decide +kernel
theorem d_Model_next_232 : decode prog_10_method_10_code 232 = .ok (.putfield 91, 3) := by decide +kernel
theorem d_Model_next_235 : decode prog_10_method_10_code 235 = .ok (.goto (-59), 3) := by decide +kernel
theorem d_Model_next_238 : decode prog_10_method_10_code 238 = .ok (.aload_n 0, 1) := by decide +kernel
theorem d_Model_next_239 : decode prog_10_method_10_code 239 = .ok (.iload_n 2, 1) := by decide +kernel
theorem d_Model_next_240 : decode prog_10_method_10_code 240 = .ok (.bipush 8, 2) := by decide +kernel
theorem d_Model_next_242 : decode prog_10_method_10_code 242 = .ok (.if_icmp .le 7, 3) := by decide +kernel
theorem d_Model_next_245 : decode prog_10_method_10_code 245 = .ok (.iconst 3, 1) := by decide +kernel
theorem d_Model_next_246 : decode prog_10_method_10_code 246 = .ok (.goto 4, 3) := by decide +kernel
theorem d_Model_next_249 : decode prog_10_method_10_code 249 = .ok (.iconst 2, 1) := by decide +kernel
theorem d_Model_next_250 : decode prog_10_method_10_code 250 = .ok (.putfield 97, 3) := by decide +kernel
theorem d_Model_next_253 : decode prog_10_method_10_code 253 = .ok (.goto 73, 3) := by decide +kernel
theorem d_Model_next_256 : decode prog_10_method_10_code 256 = .ok (.aload_n 0, 1) := by decide +kernel
theorem d_Model_next_257 : decode prog_10_method_10_code 257 = .ok (.dup, 1) := by decide +kernel
theorem d_Model_next_258 : decode prog_10_method_10_code 258 = .ok (.getfield 91, 3) := by decide +kernel
theorem d_Model_next_261 : decode prog_10_method_10_code 261 = .ok (.iconst 1, 1) := by decide +kernel
theorem d_Model_next_262 : decode prog_10_method_10_code 262 = .ok (.iadd, 1) := by decide +kernel
theorem d_Model_next_263 : decode prog_10_method_10_code 263 = .ok (.putfield 91, 3) := by decide +kernel
theorem d_Model_next_266 : decode prog_10_method_10_code 266 = .ok (.aload_n 0, 1) := by decide +kernel
theorem d_Model_next_267 : decode prog_10_method_10_code 267 = .ok (.iload_n 1, 1) := by decide +kernel
theorem d_Model_next_268 : decode prog_10_method_10_code 268 = .ok (.invokestatic 118, 3) := by decide +kernel
theorem d_Model_next_271 : decode prog_10_method_10_code 271 = .ok (.ifCond .eq 7, 3) := by decide +kernel
theorem d_Model_next_274 : decode prog_10_method_10_code 274 = .ok (.iload_n 1, 1) := by decide +kernel
theorem d_Model_next_275 : decode prog_10_method_10_code 275 = .ok (.goto 4, 3) := by decide +kernel
theorem d_Model_next_278 : decode prog_10_method_10_code 278 = .ok (.iconst 3, 1) := by decide +kernel
theorem d_Model_next_279 : decode prog_10_method_10_code 279 = .ok (.putfield 97, 3) := by decide +kernel
theorem d_Model_next_282 : decode prog_10_method_10_code 282 = .ok (.iload_n 1, 1) := by decide +kernel
theorem d_Model_next_283 : decode prog_10_method_10_code 283 = .ok (.bipush 60, 2) := by decide +kernel
theorem d_Model_next_285 : decode prog_10_method_10_code 285 = .ok (.if_icmp .eq 9, 3) := by decide +kernel
theorem d_Model_next_288 : decode prog_10_method_10_code 288 = .ok (.iload_n 1, 1) := by decide +kernel
theorem d_Model_next_289 : decode prog_10_method_10_code 289 = .ok (.bipush 62, 2) := by decide +kernel
theorem d_Model_next_291 : decode prog_10_method_10_code 291 = .ok (.if_icmp .ne 35, 3) := by decide +kernel
theorem d_Model_next_294 : decode prog_10_method_10_code 294 = .ok (.aload_n 0, 1) := by decide +kernel
theorem d_Model_next_295 : decode prog_10_method_10_code 295 = .ok (.aload_n 0, 1) := by decide +kernel
theorem d_Model_next_296 : decode prog_10_method_10_code 296 = .ok (.getfield 91, 3) := by decide +kernel
theorem d_Model_next_299 : decode prog_10_method_10_code 299 = .ok (.invokevirtual 79, 3) := by decide +kernel
theorem d_Model_next_302 : decode prog_10_method_10_code 302 = .ok (.bipush 61, 2) := by decide +kernel
theorem d_Model_next_304 : decode prog_10_method_10_code 304 = .ok (.if_icmp .ne 22, 3) := by decide +kernel
theorem d_Model_next_307 : decode prog_10_method_10_code 307 = .ok (.aload_n 0, 1) := by decide +kernel
theorem d_Model_next_308 : decode prog_10_method_10_code 308 = .ok (.iload_n 1, 1) := by decide +kernel
theorem d_Model_next_309 : decode prog_10_method_10_code 309 = .ok (.sipush 256, 3) := by decide +kernel
theorem d_Model_next_312 : decode prog_10_method_10_code 312 = .ok (.iadd, 1) := by decide +kernel
theorem d_Model_next_313 : decode prog_10_method_10_code 313 = .ok (.putfield 97, 3) := by decide +kernel
theorem d_Model_next_316 : decode prog_10_method_10_code 316 = .ok (.aload_n 0, 1) := by decide +kernel
theorem d_Model_next_317 : decode prog_10_method_10_code 317 = .ok (.dup, 1) := by decide +kernel
theorem d_Model_next_318 : decode prog_10_method_10_code 318 = .ok (.getfield 91, 3) := by decide +kernel
theorem d_Model_next_321 : decode prog_10_method_10_code 321 = .ok (.iconst 1, 1) := by decide +kernel
theorem d_Model_next_322 : decode prog_10_method_10_code 322 = .ok (.iadd, 1) := by decide +kernel
theorem d_Model_next_323 : decode prog_10_method_10_code 323 = .ok (.putfield 91, 3) := by decide +kernel
theorem d_Model_next_326 : decode prog_10_method_10_code 326 = .ok (.aload_n 0, 1) := by decide +kernel
theorem d_Model_next_327 : decode prog_10_method_10_code 327 = .ok (.aload_n 0, 1) := by decide +kernel
theorem d_Model_next_328 : decode prog_10_method_10_code 328 = .ok (.getfield 100, 3) := by decide +kernel
theorem d_Model_next_331 : decode prog_10_method_10_code 331 = .ok (.bipush 120, 2) := by decide +kernel
theorem d_Model_next_333 : decode prog_10_method_10_code 333 = .ok (.if_icmp .le 7, 3) := by decide +kernel
theorem d_Model_next_336 : decode prog_10_method_10_code 336 = .ok (.iconst 3, 1) := by decide +kernel
theorem d_Model_next_337 : decode prog_10_method_10_code 337 = .ok (.goto 7, 3) := by decide +kernel
theorem d_Model_next_340 : decode prog_10_method_10_code 340 = .ok (.aload_n 0, 1) := by decide +kernel
theorem d_Model_next_341 : decode prog_10_method_10_code 341 = .ok (.getfield 97, 3) := by decide +kernel
theorem d_Model_next_344 : decode prog_10_method_10_code 344 = .ok (.putfield 97, 3) := by decide +kernel
theorem d_Model_next_347 : decode prog_10_method_10_code 347 = .ok (.return_, 1) := by decide +kernel
abbrev y_Model_step : MethodName := ⟨"PermitRulesModel", "step", "(IJ)V"⟩
abbrev cw_Model_step : Cond := .code y_Model_step prog_10_method_12_code 4 none
theorem d_Model_step_0 : decode prog_10_method_12_code 0 = .ok (.aload_n 0, 1) := by decide +kernel
theorem d_Model_step_1 : decode prog_10_method_12_code 1 = .ok (.getfield 35, 3) := by decide +kernel
theorem d_Model_step_4 : decode prog_10_method_12_code 4 = .ok (.aload_n 0, 1) := by decide +kernel
theorem d_Model_step_5 : decode prog_10_method_12_code 5 = .ok (.getfield 121, 3) := by decide +kernel
theorem d_Model_step_8 : decode prog_10_method_12_code 8 = .ok (.iload_n 1, 1) := by decide +kernel
theorem d_Model_step_9 : decode prog_10_method_12_code 9 = .ok (.iastore, 1) := by decide +kernel
theorem d_Model_step_10 : decode prog_10_method_12_code 10 = .ok (.aload_n 0, 1) := by decide +kernel
theorem d_Model_step_11 : decode prog_10_method_12_code 11 = .ok (.getfield 38, 3) := by decide +kernel
theorem d_Model_step_14 : decode prog_10_method_12_code 14 = .ok (.aload_n 0, 1) := by decide +kernel
theorem d_Model_step_15 : decode prog_10_method_12_code 15 = .ok (.getfield 121, 3) := by decide +kernel
theorem d_Model_step_18 : decode prog_10_method_12_code 18 = .ok (.lload_n 2, 1) := by decide +kernel
theorem d_Model_step_19 : decode prog_10_method_12_code 19 = .ok (.lastore, 1) := by decide +kernel
theorem d_Model_step_20 : decode prog_10_method_12_code 20 = .ok (.aload_n 0, 1) := by decide +kernel
theorem d_Model_step_21 : decode prog_10_method_12_code 21 = .ok (.dup, 1) := by decide +kernel
theorem d_Model_step_22 : decode prog_10_method_12_code 22 = .ok (.getfield 121, 3) := by decide +kernel
theorem d_Model_step_25 : decode prog_10_method_12_code 25 = .ok (.iconst 1, 1) := by decide +kernel
theorem d_Model_step_26 : decode prog_10_method_12_code 26 = .ok (.iadd, 1) := by decide +kernel
theorem d_Model_step_27 : decode prog_10_method_12_code 27 = .ok (.putfield 121, 3) := by decide +kernel
theorem d_Model_step_30 : decode prog_10_method_12_code 30 = .ok (.return_, 1) := by decide +kernel
abbrev y_Model_reduce : MethodName := ⟨"PermitRulesModel", "reduce", "(I)V"⟩
abbrev cw_Model_reduce : Cond := .code y_Model_reduce prog_10_method_14_code 2 none
theorem d_Model_reduce_0 : decode prog_10_method_14_code 0 = .ok (.aload_n 0, 1) := by decide +kernel
theorem d_Model_reduce_1 : decode prog_10_method_14_code 1 = .ok (.getfield 124, 3) := by decide +kernel
theorem d_Model_reduce_4 : decode prog_10_method_14_code 4 = .ok (.ifCond .le 48, 3) := by decide +kernel
theorem d_Model_reduce_7 : decode prog_10_method_14_code 7 = .ok (.aload_n 0, 1) := by decide +kernel
theorem d_Model_reduce_8 : decode prog_10_method_14_code 8 = .ok (.getfield 41, 3) := by decide +kernel
theorem d_Model_reduce_11 : decode prog_10_method_14_code 11 = .ok (.aload_n 0, 1) := by decide +kernel
theorem d_Model_reduce_12 : decode prog_10_method_14_code 12 = .ok (.getfield 124, 3) := by decide +kernel
theorem d_Model_reduce_15 : decode prog_10_method_14_code 15 = .ok (.iconst 1, 1) := by decide +kernel
theorem d_Model_reduce_16 : decode prog_10_method_14_code 16 = .ok (.isub, 1) := by decide +kernel
theorem d_Model_reduce_17 : decode prog_10_method_14_code 17 = .ok (.iaload, 1) := by decide +kernel
theorem d_Model_reduce_18 : decode prog_10_method_14_code 18 = .ok (.invokestatic 127, 3) := by decide +kernel
theorem d_Model_reduce_21 : decode prog_10_method_14_code 21 = .ok (.iload_n 1, 1) := by decide +kernel
theorem d_Model_reduce_22 : decode prog_10_method_14_code 22 = .ok (.if_icmp .lt 30, 3) := by decide +kernel
theorem d_Model_reduce_25 : decode prog_10_method_14_code 25 = .ok (.aload_n 0, 1) := by decide +kernel
theorem d_Model_reduce_26 : decode prog_10_method_14_code 26 = .ok (.dup, 1) := by decide +kernel
theorem d_Model_reduce_27 : decode prog_10_method_14_code 27 = .ok (.getfield 124, 3) := by decide +kernel
theorem d_Model_reduce_30 : decode prog_10_method_14_code 30 = .ok (.iconst 1, 1) := by decide +kernel
theorem d_Model_reduce_31 : decode prog_10_method_14_code 31 = .ok (.isub, 1) := by decide +kernel
theorem d_Model_reduce_32 : decode prog_10_method_14_code 32 = .ok (.putfield 124, 3) := by decide +kernel
theorem d_Model_reduce_35 : decode prog_10_method_14_code 35 = .ok (.aload_n 0, 1) := by decide +kernel
theorem d_Model_reduce_36 : decode prog_10_method_14_code 36 = .ok (.aload_n 0, 1) := by decide +kernel
theorem d_Model_reduce_37 : decode prog_10_method_14_code 37 = .ok (.getfield 41, 3) := by decide +kernel
theorem d_Model_reduce_40 : decode prog_10_method_14_code 40 = .ok (.aload_n 0, 1) := by decide +kernel
theorem d_Model_reduce_41 : decode prog_10_method_14_code 41 = .ok (.getfield 124, 3) := by decide +kernel
theorem d_Model_reduce_44 : decode prog_10_method_14_code 44 = .ok (.iaload, 1) := by decide +kernel
theorem d_Model_reduce_45 : decode prog_10_method_14_code 45 = .ok (.lconst 0, 1) := by decide +kernel
theorem d_Model_reduce_46 : decode prog_10_method_14_code 46 = .ok (.invokevirtual 130, 3) := by decide +kernel
theorem d_Model_reduce_49 : decode prog_10_method_14_code 49 = .ok (.goto (-49), 3) := by decide +kernel
theorem d_Model_reduce_52 : decode prog_10_method_14_code 52 = .ok (.return_, 1) := by decide +kernel
abbrev y_Model_push : MethodName := ⟨"PermitRulesModel", "push", "(I)V"⟩
abbrev cw_Model_push : Cond := .code y_Model_push prog_10_method_15_code 2 none
theorem d_Model_push_0 : decode prog_10_method_15_code 0 = .ok (.aload_n 0, 1) := by decide +kernel
theorem d_Model_push_1 : decode prog_10_method_15_code 1 = .ok (.getfield 41, 3) := by decide +kernel
theorem d_Model_push_4 : decode prog_10_method_15_code 4 = .ok (.aload_n 0, 1) := by decide +kernel
theorem d_Model_push_5 : decode prog_10_method_15_code 5 = .ok (.getfield 124, 3) := by decide +kernel
theorem d_Model_push_8 : decode prog_10_method_15_code 8 = .ok (.iload_n 1, 1) := by decide +kernel
theorem d_Model_push_9 : decode prog_10_method_15_code 9 = .ok (.iastore, 1) := by decide +kernel
theorem d_Model_push_10 : decode prog_10_method_15_code 10 = .ok (.aload_n 0, 1) := by decide +kernel
theorem d_Model_push_11 : decode prog_10_method_15_code 11 = .ok (.dup, 1) := by decide +kernel
theorem d_Model_push_12 : decode prog_10_method_15_code 12 = .ok (.getfield 124, 3) := by decide +kernel
theorem d_Model_push_15 : decode prog_10_method_15_code 15 = .ok (.iconst 1, 1) := by decide +kernel
theorem d_Model_push_16 : decode prog_10_method_15_code 16 = .ok (.iadd, 1) := by decide +kernel
theorem d_Model_push_17 : decode prog_10_method_15_code 17 = .ok (.putfield 124, 3) := by decide +kernel
theorem d_Model_push_20 : decode prog_10_method_15_code 20 = .ok (.return_, 1) := by decide +kernel
abbrev y_Model_isTaken : MethodName := ⟨"PermitRulesModel", "isTaken", "(J)Z"⟩
abbrev cw_Model_isTaken : Cond := .code y_Model_isTaken prog_10_method_16_code 5 (some .boolean)
theorem d_Model_isTaken_0 : decode prog_10_method_16_code 0 = .ok (.iconst 0, 1) := by decide +kernel
theorem d_Model_isTaken_1 : decode prog_10_method_16_code 1 = .ok (.istore_n 3, 1) := by decide +kernel
theorem d_Model_isTaken_2 : decode prog_10_method_16_code 2 = .ok (.iconst 0, 1) := by decide +kernel
theorem d_Model_isTaken_3 : decode prog_10_method_16_code 3 = .ok (.istore 4, 2) := by decide +kernel
theorem d_Model_isTaken_5 : decode prog_10_method_16_code 5 = .ok (.iload 4, 2) := by decide +kernel
theorem d_Model_isTaken_7 : decode prog_10_method_16_code 7 = .ok (.aload_n 0, 1) := by decide +kernel
theorem d_Model_isTaken_8 : decode prog_10_method_16_code 8 = .ok (.getfield 134, 3) := by decide +kernel
theorem d_Model_isTaken_11 : decode prog_10_method_16_code 11 = .ok (.if_icmp .ge 31, 3) := by decide +kernel
theorem d_Model_isTaken_14 : decode prog_10_method_16_code 14 = .ok (.iload_n 3, 1) := by decide +kernel
theorem d_Model_isTaken_15 : decode prog_10_method_16_code 15 = .ok (.ifCond .ne 15, 3) := by decide +kernel
theorem d_Model_isTaken_18 : decode prog_10_method_16_code 18 = .ok (.aload_n 0, 1) := by decide +kernel
theorem d_Model_isTaken_19 : decode prog_10_method_16_code 19 = .ok (.getfield 13, 3) := by decide +kernel
theorem d_Model_isTaken_22 : decode prog_10_method_16_code 22 = .ok (.iload 4, 2) := by decide +kernel
theorem d_Model_isTaken_24 : decode prog_10_method_16_code 24 = .ok (.laload, 1) := by decide +kernel
theorem d_Model_isTaken_25 : decode prog_10_method_16_code 25 = .ok (.lload_n 1, 1) := by decide +kernel
theorem d_Model_isTaken_26 : decode prog_10_method_16_code 26 = .ok (.lcmp, 1) := by decide +kernel
theorem d_Model_isTaken_27 : decode prog_10_method_16_code 27 = .ok (.ifCond .ne 7, 3) := by decide +kernel
theorem d_Model_isTaken_30 : decode prog_10_method_16_code 30 = .ok (.iconst 1, 1) := by decide +kernel
theorem d_Model_isTaken_31 : decode prog_10_method_16_code 31 = .ok (.goto 4, 3) := by decide +kernel
theorem d_Model_isTaken_34 : decode prog_10_method_16_code 34 = .ok (.iconst 0, 1) := by decide +kernel
theorem d_Model_isTaken_35 : decode prog_10_method_16_code 35 = .ok (.istore_n 3, 1) := by decide +kernel
theorem d_Model_isTaken_36 : decode prog_10_method_16_code 36 = .ok (.iinc 4 1, 3) := by decide +kernel
theorem d_Model_isTaken_39 : decode prog_10_method_16_code 39 = .ok (.goto (-34), 3) := by decide +kernel
theorem d_Model_isTaken_42 : decode prog_10_method_16_code 42 = .ok (.iload_n 3, 1) := by decide +kernel
theorem d_Model_isTaken_43 : decode prog_10_method_16_code 43 = .ok (.ireturn, 1) := by decide +kernel
abbrev y_Model_trim : MethodName := ⟨"PermitRulesModel", "trim", "(I)I"⟩
abbrev cw_Model_trim : Cond := .code y_Model_trim prog_10_method_5_code 2 (some .int)
theorem d_Model_trim_0 : decode prog_10_method_5_code 0 = .ok (.aload_n 0, 1) := by decide +kernel
theorem d_Model_trim_1 : decode prog_10_method_5_code 1 = .ok (.iload_n 1, 1) := by decide +kernel
theorem d_Model_trim_2 : decode prog_10_method_5_code 2 = .ok (.i2l, 1) := by decide +kernel
theorem d_Model_trim_3 : decode prog_10_method_5_code 3 = .ok (.lconst 0, 1) := by decide +kernel
theorem d_Model_trim_4 : decode prog_10_method_5_code 4 = .ok (.aload_n 0, 1) := by decide +kernel
theorem d_Model_trim_5 : decode prog_10_method_5_code 5 = .ok (.getfield 76, 3) := by decide +kernel
theorem d_Model_trim_8 : decode prog_10_method_5_code 8 = .ok (.i2l, 1) := by decide +kernel
theorem d_Model_trim_9 : decode prog_10_method_5_code 9 = .ok (.invokestatic 72, 3) := by decide +kernel
theorem d_Model_trim_12 : decode prog_10_method_5_code 12 = .ok (.ifCond .eq 7, 3) := by decide +kernel
theorem d_Model_trim_15 : decode prog_10_method_5_code 15 = .ok (.iconst 0, 1) := by decide +kernel
theorem d_Model_trim_16 : decode prog_10_method_5_code 16 = .ok (.goto 4, 3) := by decide +kernel
theorem d_Model_trim_19 : decode prog_10_method_5_code 19 = .ok (.iconst 1, 1) := by decide +kernel
theorem d_Model_trim_20 : decode prog_10_method_5_code 20 = .ok (.putfield 62, 3) := by decide +kernel
theorem d_Model_trim_23 : decode prog_10_method_5_code 23 = .ok (.aload_n 0, 1) := by decide +kernel
theorem d_Model_trim_24 : decode prog_10_method_5_code 24 = .ok (.getfield 62, 3) := by decide +kernel
theorem d_Model_trim_27 : decode prog_10_method_5_code 27 = .ok (.ifCond .le 5, 3) := by decide +kernel
theorem d_Model_trim_30 : decode prog_10_method_5_code 30 = .ok (.iconst 0, 1) := by decide +kernel
theorem d_Model_trim_31 : decode prog_10_method_5_code 31 = .ok (.ireturn, 1) := by decide +kernel
theorem d_Model_trim_32 : decode prog_10_method_5_code 32 = .ok (.aload_n 0, 1) := by decide +kernel
theorem d_Model_trim_33 : decode prog_10_method_5_code 33 = .ok (.aload_n 0, 1) := by decide +kernel
theorem d_Model_trim_34 : decode prog_10_method_5_code 34 = .ok (.getfield 76, 3) := by decide +kernel
theorem d_Model_trim_37 : decode prog_10_method_5_code 37 = .ok (.iload_n 1, 1) := by decide +kernel
theorem d_Model_trim_38 : decode prog_10_method_5_code 38 = .ok (.isub, 1) := by decide +kernel
theorem d_Model_trim_39 : decode prog_10_method_5_code 39 = .ok (.putfield 76, 3) := by decide +kernel
theorem d_Model_trim_42 : decode prog_10_method_5_code 42 = .ok (.aload_n 0, 1) := by decide +kernel
theorem d_Model_trim_43 : decode prog_10_method_5_code 43 = .ok (.getfield 76, 3) := by decide +kernel
theorem d_Model_trim_46 : decode prog_10_method_5_code 46 = .ok (.ireturn, 1) := by decide +kernel
abbrev y_Model_isName : MethodName := ⟨"PermitRulesModel", "isName", "(J)Z"⟩
abbrev cw_Model_isName : Cond := .code y_Model_isName prog_10_method_19_code 5 (some .boolean)
theorem d_Model_isName_0 : decode prog_10_method_19_code 0 = .ok (.lload_n 0, 1) := by decide +kernel
theorem d_Model_isName_1 : decode prog_10_method_19_code 1 = .ok (.lstore_n 2, 1) := by decide +kernel
theorem d_Model_isName_2 : decode prog_10_method_19_code 2 = .ok (.iconst 0, 1) := by decide +kernel
theorem d_Model_isName_3 : decode prog_10_method_19_code 3 = .ok (.istore 4, 2) := by decide +kernel
theorem d_Model_isName_5 : decode prog_10_method_19_code 5 = .ok (.lload_n 2, 1) := by decide +kernel
theorem d_Model_isName_6 : decode prog_10_method_19_code 6 = .ok (.lconst 0, 1) := by decide +kernel
theorem d_Model_isName_7 : decode prog_10_method_19_code 7 = .ok (.lcmp, 1) := by decide +kernel
theorem d_Model_isName_8 : decode prog_10_method_19_code 8 = .ok (.ifCond .eq 38, 3) := by decide +kernel
theorem d_Model_isName_11 : decode prog_10_method_19_code 11 = .ok (.iload 4, 2) := by decide +kernel
theorem d_Model_isName_13 : decode prog_10_method_19_code 13 = .ok (.bipush 8, 2) := by decide +kernel
theorem d_Model_isName_15 : decode prog_10_method_19_code 15 = .ok (.if_icmp .ge 31, 3) := by decide +kernel
theorem d_Model_isName_18 : decode prog_10_method_19_code 18 = .ok (.lload_n 2, 1) := by decide +kernel
theorem d_Model_isName_19 : decode prog_10_method_19_code 19 = .ok (.ldc2_w 66, 3) := by decide +kernel
theorem d_Model_isName_22 : decode prog_10_method_19_code 22 = .ok (.land, 1) := by decide +kernel
theorem d_Model_isName_23 : decode prog_10_method_19_code 23 = .ok (.ldc2_w 87, 3) := by decide +kernel
theorem d_Model_isName_26 : decode prog_10_method_19_code 26 = .ok (.ldc2_w 89, 3) := by decide +kernel
theorem d_Model_isName_29 : decode prog_10_method_19_code 29 = .ok (.invokestatic 72, 3) := by decide +kernel
theorem d_Model_isName_32 : decode prog_10_method_19_code 32 = .ok (.ifCond .eq 14, 3) := by decide +kernel
theorem d_Model_isName_35 : decode prog_10_method_19_code 35 = .ok (.lload_n 2, 1) := by decide +kernel
theorem d_Model_isName_36 : decode prog_10_method_19_code 36 = .ok (.bipush 8, 2) := by decide +kernel
theorem d_Model_isName_38 : decode prog_10_method_19_code 38 = .ok (.lushr, 1) := by decide +kernel
theorem d_Model_isName_39 : decode prog_10_method_19_code 39 = .ok (.lstore_n 2, 1) := by decide +kernel
theorem d_Model_isName_40 : decode prog_10_method_19_code 40 = .ok (.iinc 4 1, 3) := by decide +kernel
theorem d_Model_isName_43 : decode prog_10_method_19_code 43 = .ok (.goto (-38), 3) := by decide +kernel
theorem d_Model_isName_46 : decode prog_10_method_19_code 46 = .ok (.iload 4, 2) := by decide +kernel
theorem d_Model_isName_48 : decode prog_10_method_19_code 48 = .ok (.ifCond .le 13, 3) := by decide +kernel
theorem d_Model_isName_51 : decode prog_10_method_19_code 51 = .ok (.lload_n 2, 1) := by decide +kernel
theorem d_Model_isName_52 : decode prog_10_method_19_code 52 = .ok (.lconst 0, 1) := by decide +kernel
theorem d_Model_isName_53 : decode prog_10_method_19_code 53 = .ok (.lcmp, 1) := by decide +kernel
theorem d_Model_isName_54 : decode prog_10_method_19_code 54 = .ok (.ifCond .ne 7, 3) := by decide +kernel
theorem d_Model_isName_57 : decode prog_10_method_19_code 57 = .ok (.iconst 1, 1) := by decide +kernel
theorem d_Model_isName_58 : decode prog_10_method_19_code 58 = .ok (.goto 4, 3) := by decide +kernel
theorem d_Model_isName_61 : decode prog_10_method_19_code 61 = .ok (.iconst 0, 1) := by decide +kernel
theorem d_Model_isName_62 : decode prog_10_method_19_code 62 = .ok (.ireturn, 1) := by decide +kernel
abbrev y_Model_factOf : MethodName := ⟨"PermitRulesModel", "factOf", "(J)I"⟩
abbrev cw_Model_factOf : Cond := .code y_Model_factOf prog_10_method_20_code 5 (some .int)
theorem d_Model_factOf_0 : decode prog_10_method_20_code 0 = .ok (.iconst (-1), 1) := by decide +kernel
theorem d_Model_factOf_1 : decode prog_10_method_20_code 1 = .ok (.istore_n 3, 1) := by decide +kernel
theorem d_Model_factOf_2 : decode prog_10_method_20_code 2 = .ok (.iconst 0, 1) := by decide +kernel
theorem d_Model_factOf_3 : decode prog_10_method_20_code 3 = .ok (.istore 4, 2) := by decide +kernel
theorem d_Model_factOf_5 : decode prog_10_method_20_code 5 = .ok (.iload 4, 2) := by decide +kernel
theorem d_Model_factOf_7 : decode prog_10_method_20_code 7 = .ok (.aload_n 0, 1) := by decide +kernel
theorem d_Model_factOf_8 : decode prog_10_method_20_code 8 = .ok (.getfield 170, 3) := by decide +kernel
theorem d_Model_factOf_11 : decode prog_10_method_20_code 11 = .ok (.if_icmp .ge 28, 3) := by decide +kernel
theorem d_Model_factOf_14 : decode prog_10_method_20_code 14 = .ok (.aload_n 0, 1) := by decide +kernel
theorem d_Model_factOf_15 : decode prog_10_method_20_code 15 = .ok (.getfield 44, 3) := by decide +kernel
theorem d_Model_factOf_18 : decode prog_10_method_20_code 18 = .ok (.iload 4, 2) := by decide +kernel
theorem d_Model_factOf_20 : decode prog_10_method_20_code 20 = .ok (.laload, 1) := by decide +kernel
theorem d_Model_factOf_21 : decode prog_10_method_20_code 21 = .ok (.lload_n 1, 1) := by decide +kernel
theorem d_Model_factOf_22 : decode prog_10_method_20_code 22 = .ok (.lcmp, 1) := by decide +kernel
theorem d_Model_factOf_23 : decode prog_10_method_20_code 23 = .ok (.ifCond .ne 8, 3) := by decide +kernel
theorem d_Model_factOf_26 : decode prog_10_method_20_code 26 = .ok (.iload 4, 2) := by decide +kernel
theorem d_Model_factOf_28 : decode prog_10_method_20_code 28 = .ok (.goto 4, 3) := by decide +kernel
theorem d_Model_factOf_31 : decode prog_10_method_20_code 31 = .ok (.iload_n 3, 1) := by decide +kernel
theorem d_Model_factOf_32 : decode prog_10_method_20_code 32 = .ok (.istore_n 3, 1) := by decide +kernel
theorem d_Model_factOf_33 : decode prog_10_method_20_code 33 = .ok (.iinc 4 1, 3) := by decide +kernel
theorem d_Model_factOf_36 : decode prog_10_method_20_code 36 = .ok (.goto (-31), 3) := by decide +kernel
theorem d_Model_factOf_39 : decode prog_10_method_20_code 39 = .ok (.iload_n 3, 1) := by decide +kernel
theorem d_Model_factOf_40 : decode prog_10_method_20_code 40 = .ok (.ireturn, 1) := by decide +kernel
abbrev y_Model_fact : MethodName := ⟨"PermitRulesModel", "fact", "(JI)J"⟩
abbrev cw_Model_fact : Cond := .code y_Model_fact prog_10_method_21_code 7 (some .long)
theorem d_Model_fact_0 : decode prog_10_method_21_code 0 = .ok (.aload_n 0, 1) := by decide +kernel
theorem d_Model_fact_1 : decode prog_10_method_21_code 1 = .ok (.lload_n 1, 1) := by decide +kernel
theorem d_Model_fact_2 : decode prog_10_method_21_code 2 = .ok (.invokevirtual 173, 3) := by decide +kernel
theorem d_Model_fact_5 : decode prog_10_method_21_code 5 = .ok (.istore 4, 2) := by decide +kernel
theorem d_Model_fact_7 : decode prog_10_method_21_code 7 = .ok (.aload_n 0, 1) := by decide +kernel
theorem d_Model_fact_8 : decode prog_10_method_21_code 8 = .ok (.lload_n 1, 1) := by decide +kernel
theorem d_Model_fact_9 : decode prog_10_method_21_code 9 = .ok (.invokestatic 177, 3) := by decide +kernel
theorem d_Model_fact_12 : decode prog_10_method_21_code 12 = .ok (.ifCond .eq 17, 3) := by decide +kernel
theorem d_Model_fact_15 : decode prog_10_method_21_code 15 = .ok (.iload_n 3, 1) := by decide +kernel
theorem d_Model_fact_16 : decode prog_10_method_21_code 16 = .ok (.i2l, 1) := by decide +kernel
theorem d_Model_fact_17 : decode prog_10_method_21_code 17 = .ok (.ldc2_w 180, 3) := by decide +kernel
theorem d_Model_fact_20 : decode prog_10_method_21_code 20 = .ok (.ldc2_w 182, 3) := by decide +kernel
theorem d_Model_fact_23 : decode prog_10_method_21_code 23 = .ok (.invokestatic 72, 3) := by decide +kernel
theorem d_Model_fact_26 : decode prog_10_method_21_code 26 = .ok (.ifCond .ne 7, 3) := by decide +kernel
theorem d_Model_fact_29 : decode prog_10_method_21_code 29 = .ok (.iconst 1, 1) := by decide +kernel
theorem d_Model_fact_30 : decode prog_10_method_21_code 30 = .ok (.goto 22, 3) := by decide +kernel
theorem d_Model_fact_33 : decode prog_10_method_21_code 33 = .ok (.iload 4, 2) := by decide +kernel
theorem d_Model_fact_35 : decode prog_10_method_21_code 35 = .ok (.ifCond .ge 16, 3) := by decide +kernel
theorem d_Model_fact_38 : decode prog_10_method_21_code 38 = .ok (.aload_n 0, 1) := by decide +kernel
theorem d_Model_fact_39 : decode prog_10_method_21_code 39 = .ok (.getfield 170, 3) := by decide +kernel
theorem d_Model_fact_42 : decode prog_10_method_21_code 42 = .ok (.bipush 40, 2) := by decide +kernel
theorem d_Model_fact_44 : decode prog_10_method_21_code 44 = .ok (.if_icmp .ne 7, 3) := by decide +kernel
theorem d_Model_fact_47 : decode prog_10_method_21_code 47 = .ok (.iconst 2, 1) := by decide +kernel
theorem d_Model_fact_48 : decode prog_10_method_21_code 48 = .ok (.goto 4, 3) := by decide +kernel
theorem d_Model_fact_51 : decode prog_10_method_21_code 51 = .ok (.iconst 0, 1) := by decide +kernel
theorem d_Model_fact_52 : decode prog_10_method_21_code 52 = .ok (.putfield 62, 3) := by decide +kernel
theorem d_Model_fact_55 : decode prog_10_method_21_code 55 = .ok (.aload_n 0, 1) := by decide +kernel
theorem d_Model_fact_56 : decode prog_10_method_21_code 56 = .ok (.getfield 62, 3) := by decide +kernel
theorem d_Model_fact_59 : decode prog_10_method_21_code 59 = .ok (.ifCond .le 5, 3) := by decide +kernel
theorem d_Model_fact_62 : decode prog_10_method_21_code 62 = .ok (.lconst 0, 1) := by decide +kernel
theorem d_Model_fact_63 : decode prog_10_method_21_code 63 = .ok (.lreturn, 1) := by decide +kernel
theorem d_Model_fact_64 : decode prog_10_method_21_code 64 = .ok (.iload 4, 2) := by decide +kernel
theorem d_Model_fact_66 : decode prog_10_method_21_code 66 = .ok (.ifCond .ge 38, 3) := by decide +kernel
theorem d_Model_fact_69 : decode prog_10_method_21_code 69 = .ok (.aload_n 0, 1) := by decide +kernel
theorem d_Model_fact_70 : decode prog_10_method_21_code 70 = .ok (.getfield 44, 3) := by decide +kernel
theorem d_Model_fact_73 : decode prog_10_method_21_code 73 = .ok (.aload_n 0, 1) := by decide +kernel
theorem d_Model_fact_74 : decode prog_10_method_21_code 74 = .ok (.getfield 170, 3) := by decide +kernel
theorem d_Model_fact_77 : decode prog_10_method_21_code 77 = .ok (.lload_n 1, 1) := by decide +kernel
theorem d_Model_fact_78 : decode prog_10_method_21_code 78 = .ok (.lastore, 1) := by decide +kernel
theorem d_Model_fact_79 : decode prog_10_method_21_code 79 = .ok (.aload_n 0, 1) := by decide +kernel
theorem d_Model_fact_80 : decode prog_10_method_21_code 80 = .ok (.getfield 47, 3) := by decide +kernel
theorem d_Model_fact_83 : decode prog_10_method_21_code 83 = .ok (.aload_n 0, 1) := by decide +kernel
theorem d_Model_fact_84 : decode prog_10_method_21_code 84 = .ok (.getfield 170, 3) := by decide +kernel
theorem d_Model_fact_87 : decode prog_10_method_21_code 87 = .ok (.iload_n 3, 1) := by decide +kernel
theorem d_Model_fact_88 : decode prog_10_method_21_code 88 = .ok (.i2l, 1) := by decide +kernel
theorem d_Model_fact_89 : decode prog_10_method_21_code 89 = .ok (.lastore, 1) := by decide +kernel
theorem d_Model_fact_90 : decode prog_10_method_21_code 90 = .ok (.aload_n 0, 1) := by decide +kernel
theorem d_Model_fact_91 : decode prog_10_method_21_code 91 = .ok (.dup, 1) := by decide +kernel
theorem d_Model_fact_92 : decode prog_10_method_21_code 92 = .ok (.getfield 170, 3) := by decide +kernel
theorem d_Model_fact_95 : decode prog_10_method_21_code 95 = .ok (.iconst 1, 1) := by decide +kernel
theorem d_Model_fact_96 : decode prog_10_method_21_code 96 = .ok (.iadd, 1) := by decide +kernel
theorem d_Model_fact_97 : decode prog_10_method_21_code 97 = .ok (.putfield 170, 3) := by decide +kernel
theorem d_Model_fact_100 : decode prog_10_method_21_code 100 = .ok (.ldc2_w 184, 3) := by decide +kernel
theorem d_Model_fact_103 : decode prog_10_method_21_code 103 = .ok (.lreturn, 1) := by decide +kernel
theorem d_Model_fact_104 : decode prog_10_method_21_code 104 = .ok (.aload_n 0, 1) := by decide +kernel
theorem d_Model_fact_105 : decode prog_10_method_21_code 105 = .ok (.getfield 47, 3) := by decide +kernel
theorem d_Model_fact_108 : decode prog_10_method_21_code 108 = .ok (.iload 4, 2) := by decide +kernel
theorem d_Model_fact_110 : decode prog_10_method_21_code 110 = .ok (.laload, 1) := by decide +kernel
theorem d_Model_fact_111 : decode prog_10_method_21_code 111 = .ok (.lstore 5, 2) := by decide +kernel
theorem d_Model_fact_113 : decode prog_10_method_21_code 113 = .ok (.aload_n 0, 1) := by decide +kernel
theorem d_Model_fact_114 : decode prog_10_method_21_code 114 = .ok (.getfield 47, 3) := by decide +kernel
theorem d_Model_fact_117 : decode prog_10_method_21_code 117 = .ok (.iload 4, 2) := by decide +kernel
theorem d_Model_fact_119 : decode prog_10_method_21_code 119 = .ok (.iload_n 3, 1) := by decide +kernel
theorem d_Model_fact_120 : decode prog_10_method_21_code 120 = .ok (.i2l, 1) := by decide +kernel
theorem d_Model_fact_121 : decode prog_10_method_21_code 121 = .ok (.lastore, 1) := by decide +kernel
theorem d_Model_fact_122 : decode prog_10_method_21_code 122 = .ok (.lload 5, 2) := by decide +kernel
theorem d_Model_fact_124 : decode prog_10_method_21_code 124 = .ok (.lreturn, 1) := by decide +kernel
abbrev y_Model_forget : MethodName := ⟨"PermitRulesModel", "forget", "(J)J"⟩
abbrev cw_Model_forget : Cond := .code y_Model_forget prog_10_method_22_code 6 (some .long)
theorem d_Model_forget_0 : decode prog_10_method_22_code 0 = .ok (.aload_n 0, 1) := by decide +kernel
theorem d_Model_forget_1 : decode prog_10_method_22_code 1 = .ok (.lload_n 1, 1) := by decide +kernel
theorem d_Model_forget_2 : decode prog_10_method_22_code 2 = .ok (.invokestatic 177, 3) := by decide +kernel
theorem d_Model_forget_5 : decode prog_10_method_22_code 5 = .ok (.ifCond .eq 7, 3) := by decide +kernel
theorem d_Model_forget_8 : decode prog_10_method_22_code 8 = .ok (.iconst 0, 1) := by decide +kernel
theorem d_Model_forget_9 : decode prog_10_method_22_code 9 = .ok (.goto 4, 3) := by decide +kernel
theorem d_Model_forget_12 : decode prog_10_method_22_code 12 = .ok (.iconst 1, 1) := by decide +kernel
theorem d_Model_forget_13 : decode prog_10_method_22_code 13 = .ok (.putfield 62, 3) := by decide +kernel
theorem d_Model_forget_16 : decode prog_10_method_22_code 16 = .ok (.aload_n 0, 1) := by decide +kernel
theorem d_Model_forget_17 : decode prog_10_method_22_code 17 = .ok (.lload_n 1, 1) := by decide +kernel
theorem d_Model_forget_18 : decode prog_10_method_22_code 18 = .ok (.invokevirtual 173, 3) := by decide +kernel
theorem d_Model_forget_21 : decode prog_10_method_22_code 21 = .ok (.istore_n 3, 1) := by decide +kernel
theorem d_Model_forget_22 : decode prog_10_method_22_code 22 = .ok (.aload_n 0, 1) := by decide +kernel
theorem d_Model_forget_23 : decode prog_10_method_22_code 23 = .ok (.getfield 62, 3) := by decide +kernel
theorem d_Model_forget_26 : decode prog_10_method_22_code 26 = .ok (.ifCond .gt 7, 3) := by decide +kernel
theorem d_Model_forget_29 : decode prog_10_method_22_code 29 = .ok (.iload_n 3, 1) := by decide +kernel
theorem d_Model_forget_30 : decode prog_10_method_22_code 30 = .ok (.ifCond .ge 18, 3) := by decide +kernel
theorem d_Model_forget_33 : decode prog_10_method_22_code 33 = .ok (.aload_n 0, 1) := by decide +kernel
theorem d_Model_forget_34 : decode prog_10_method_22_code 34 = .ok (.getfield 62, 3) := by decide +kernel
theorem d_Model_forget_37 : decode prog_10_method_22_code 37 = .ok (.ifCond .le 7, 3) := by decide +kernel
theorem d_Model_forget_40 : decode prog_10_method_22_code 40 = .ok (.lconst 0, 1) := by decide +kernel
theorem d_Model_forget_41 : decode prog_10_method_22_code 41 = .ok (.goto 6, 3) := by decide +kernel
theorem d_Model_forget_44 : decode prog_10_method_22_code 44 = .ok (.ldc2_w 184, 3) := by decide +kernel
theorem d_Model_forget_47 : decode prog_10_method_22_code 47 = .ok (.lreturn, 1) := by decide +kernel
theorem d_Model_forget_48 : decode prog_10_method_22_code 48 = .ok (.aload_n 0, 1) := by decide +kernel
theorem d_Model_forget_49 : decode prog_10_method_22_code 49 = .ok (.getfield 47, 3) := by decide +kernel
theorem d_Model_forget_52 : decode prog_10_method_22_code 52 = .ok (.iload_n 3, 1) := by decide +kernel
theorem d_Model_forget_53 : decode prog_10_method_22_code 53 = .ok (.laload, 1) := by decide +kernel
theorem d_Model_forget_54 : decode prog_10_method_22_code 54 = .ok (.lstore 4, 2) := by decide +kernel
theorem d_Model_forget_56 : decode prog_10_method_22_code 56 = .ok (.aload_n 0, 1) := by decide +kernel
theorem d_Model_forget_57 : decode prog_10_method_22_code 57 = .ok (.dup, 1) := by decide +kernel
theorem d_Model_forget_58 : decode prog_10_method_22_code 58 = .ok (.getfield 170, 3) := by decide +kernel
theorem d_Model_forget_61 : decode prog_10_method_22_code 61 = .ok (.iconst 1, 1) := by decide +kernel
theorem d_Model_forget_62 : decode prog_10_method_22_code 62 = .ok (.isub, 1) := by decide +kernel
theorem d_Model_forget_63 : decode prog_10_method_22_code 63 = .ok (.putfield 170, 3) := by decide +kernel
theorem d_Model_forget_66 : decode prog_10_method_22_code 66 = .ok (.aload_n 0, 1) := by decide +kernel
theorem d_Model_forget_67 : decode prog_10_method_22_code 67 = .ok (.getfield 44, 3) := by decide +kernel
theorem d_Model_forget_70 : decode prog_10_method_22_code 70 = .ok (.iload_n 3, 1) := by decide +kernel
theorem d_Model_forget_71 : decode prog_10_method_22_code 71 = .ok (.aload_n 0, 1) := by decide +kernel
theorem d_Model_forget_72 : decode prog_10_method_22_code 72 = .ok (.getfield 44, 3) := by decide +kernel
theorem d_Model_forget_75 : decode prog_10_method_22_code 75 = .ok (.aload_n 0, 1) := by decide +kernel
theorem d_Model_forget_76 : decode prog_10_method_22_code 76 = .ok (.getfield 170, 3) := by decide +kernel
theorem d_Model_forget_79 : decode prog_10_method_22_code 79 = .ok (.laload, 1) := by decide +kernel
theorem d_Model_forget_80 : decode prog_10_method_22_code 80 = .ok (.lastore, 1) := by decide +kernel
theorem d_Model_forget_81 : decode prog_10_method_22_code 81 = .ok (.aload_n 0, 1) := by decide +kernel
theorem d_Model_forget_82 : decode prog_10_method_22_code 82 = .ok (.getfield 47, 3) := by decide +kernel
theorem d_Model_forget_85 : decode prog_10_method_22_code 85 = .ok (.iload_n 3, 1) := by decide +kernel
theorem d_Model_forget_86 : decode prog_10_method_22_code 86 = .ok (.aload_n 0, 1) := by decide +kernel
theorem d_Model_forget_87 : decode prog_10_method_22_code 87 = .ok (.getfield 47, 3) := by decide +kernel
theorem d_Model_forget_90 : decode prog_10_method_22_code 90 = .ok (.aload_n 0, 1) := by decide +kernel
theorem d_Model_forget_91 : decode prog_10_method_22_code 91 = .ok (.getfield 170, 3) := by decide +kernel
theorem d_Model_forget_94 : decode prog_10_method_22_code 94 = .ok (.laload, 1) := by decide +kernel
theorem d_Model_forget_95 : decode prog_10_method_22_code 95 = .ok (.lastore, 1) := by decide +kernel
theorem d_Model_forget_96 : decode prog_10_method_22_code 96 = .ok (.lload 4, 2) := by decide +kernel
theorem d_Model_forget_98 : decode prog_10_method_22_code 98 = .ok (.lreturn, 1) := by decide +kernel
abbrev y_Model_stop : MethodName := ⟨"PermitRulesModel", "stop", "(I)V"⟩
abbrev cw_Model_stop : Cond := .code y_Model_stop prog_10_method_23_code 2 none
theorem d_Model_stop_0 : decode prog_10_method_23_code 0 = .ok (.aload_n 0, 1) := by decide +kernel
theorem d_Model_stop_1 : decode prog_10_method_23_code 1 = .ok (.aload_n 0, 1) := by decide +kernel
theorem d_Model_stop_2 : decode prog_10_method_23_code 2 = .ok (.getfield 186, 3) := by decide +kernel
theorem d_Model_stop_5 : decode prog_10_method_23_code 5 = .ok (.ifCond .ne 7, 3) := by decide +kernel
theorem d_Model_stop_8 : decode prog_10_method_23_code 8 = .ok (.iload_n 1, 1) := by decide +kernel
theorem d_Model_stop_9 : decode prog_10_method_23_code 9 = .ok (.goto 7, 3) := by decide +kernel
theorem d_Model_stop_12 : decode prog_10_method_23_code 12 = .ok (.aload_n 0, 1) := by decide +kernel
theorem d_Model_stop_13 : decode prog_10_method_23_code 13 = .ok (.getfield 186, 3) := by decide +kernel
theorem d_Model_stop_16 : decode prog_10_method_23_code 16 = .ok (.putfield 186, 3) := by decide +kernel
theorem d_Model_stop_19 : decode prog_10_method_23_code 19 = .ok (.return_, 1) := by decide +kernel
abbrev y_Model_times : MethodName := ⟨"PermitRulesModel", "times", "(JJ)J"⟩
abbrev cw_Model_times : Cond := .code y_Model_times prog_10_method_24_code 8 (some .long)
theorem d_Model_times_0 : decode prog_10_method_24_code 0 = .ok (.lload_n 1, 1) := by decide +kernel
theorem d_Model_times_1 : decode prog_10_method_24_code 1 = .ok (.lload_n 3, 1) := by decide +kernel
theorem d_Model_times_2 : decode prog_10_method_24_code 2 = .ok (.lmul, 1) := by decide +kernel
theorem d_Model_times_3 : decode prog_10_method_24_code 3 = .ok (.lstore 5, 2) := by decide +kernel
theorem d_Model_times_5 : decode prog_10_method_24_code 5 = .ok (.lload_n 1, 1) := by decide +kernel
theorem d_Model_times_6 : decode prog_10_method_24_code 6 = .ok (.lconst 0, 1) := by decide +kernel
theorem d_Model_times_7 : decode prog_10_method_24_code 7 = .ok (.lcmp, 1) := by decide +kernel
theorem d_Model_times_8 : decode prog_10_method_24_code 8 = .ok (.ifCond .eq 28, 3) := by decide +kernel
theorem d_Model_times_11 : decode prog_10_method_24_code 11 = .ok (.lload 5, 2) := by decide +kernel
theorem d_Model_times_13 : decode prog_10_method_24_code 13 = .ok (.lload_n 1, 1) := by decide +kernel
theorem d_Model_times_14 : decode prog_10_method_24_code 14 = .ok (.ldiv, 1) := by decide +kernel
theorem d_Model_times_15 : decode prog_10_method_24_code 15 = .ok (.lload_n 3, 1) := by decide +kernel
theorem d_Model_times_16 : decode prog_10_method_24_code 16 = .ok (.lcmp, 1) := by decide +kernel
theorem d_Model_times_17 : decode prog_10_method_24_code 17 = .ok (.ifCond .ne 23, 3) := by decide +kernel
theorem d_Model_times_20 : decode prog_10_method_24_code 20 = .ok (.lload_n 1, 1) := by decide +kernel
theorem d_Model_times_21 : decode prog_10_method_24_code 21 = .ok (.ldc2_w 189, 3) := by decide +kernel
theorem d_Model_times_24 : decode prog_10_method_24_code 24 = .ok (.lcmp, 1) := by decide +kernel
theorem d_Model_times_25 : decode prog_10_method_24_code 25 = .ok (.ifCond .ne 11, 3) := by decide +kernel
theorem d_Model_times_28 : decode prog_10_method_24_code 28 = .ok (.lload_n 3, 1) := by decide +kernel
theorem d_Model_times_29 : decode prog_10_method_24_code 29 = .ok (.ldc2_w 191, 3) := by decide +kernel
theorem d_Model_times_32 : decode prog_10_method_24_code 32 = .ok (.lcmp, 1) := by decide +kernel
theorem d_Model_times_33 : decode prog_10_method_24_code 33 = .ok (.ifCond .eq 7, 3) := by decide +kernel
theorem d_Model_times_36 : decode prog_10_method_24_code 36 = .ok (.iconst 1, 1) := by decide +kernel
theorem d_Model_times_37 : decode prog_10_method_24_code 37 = .ok (.goto 4, 3) := by decide +kernel
theorem d_Model_times_40 : decode prog_10_method_24_code 40 = .ok (.iconst 0, 1) := by decide +kernel
theorem d_Model_times_41 : decode prog_10_method_24_code 41 = .ok (.istore 7, 2) := by decide +kernel
theorem d_Model_times_43 : decode prog_10_method_24_code 43 = .ok (.iload 7, 2) := by decide +kernel
theorem d_Model_times_45 : decode prog_10_method_24_code 45 = .ok (.ifCond .ne 8, 3) := by decide +kernel
theorem d_Model_times_48 : decode prog_10_method_24_code 48 = .ok (.aload_n 0, 1) := by decide +kernel
theorem d_Model_times_49 : decode prog_10_method_24_code 49 = .ok (.iconst 2, 1) := by decide +kernel
theorem d_Model_times_50 : decode prog_10_method_24_code 50 = .ok (.invokevirtual 193, 3) := by decide +kernel
theorem d_Model_times_53 : decode prog_10_method_24_code 53 = .ok (.lload 5, 2) := by decide +kernel
theorem d_Model_times_55 : decode prog_10_method_24_code 55 = .ok (.lreturn, 1) := by decide +kernel
abbrev y_Model_plus : MethodName := ⟨"PermitRulesModel", "plus", "(JJ)J"⟩
abbrev cw_Model_plus : Cond := .code y_Model_plus prog_10_method_25_code 7 (some .long)
theorem d_Model_plus_0 : decode prog_10_method_25_code 0 = .ok (.lload_n 1, 1) := by decide +kernel
theorem d_Model_plus_1 : decode prog_10_method_25_code 1 = .ok (.lload_n 3, 1) := by decide +kernel
theorem d_Model_plus_2 : decode prog_10_method_25_code 2 = .ok (.ladd, 1) := by decide +kernel
theorem d_Model_plus_3 : decode prog_10_method_25_code 3 = .ok (.lstore 5, 2) := by decide +kernel
theorem d_Model_plus_5 : decode prog_10_method_25_code 5 = .ok (.lload_n 1, 1) := by decide +kernel
theorem d_Model_plus_6 : decode prog_10_method_25_code 6 = .ok (.lload 5, 2) := by decide +kernel
theorem d_Model_plus_8 : decode prog_10_method_25_code 8 = .ok (.lxor, 1) := by decide +kernel
theorem d_Model_plus_9 : decode prog_10_method_25_code 9 = .ok (.lload_n 3, 1) := by decide +kernel
theorem d_Model_plus_10 : decode prog_10_method_25_code 10 = .ok (.lload 5, 2) := by decide +kernel
theorem d_Model_plus_12 : decode prog_10_method_25_code 12 = .ok (.lxor, 1) := by decide +kernel
theorem d_Model_plus_13 : decode prog_10_method_25_code 13 = .ok (.land, 1) := by decide +kernel
theorem d_Model_plus_14 : decode prog_10_method_25_code 14 = .ok (.lconst 0, 1) := by decide +kernel
theorem d_Model_plus_15 : decode prog_10_method_25_code 15 = .ok (.lcmp, 1) := by decide +kernel
theorem d_Model_plus_16 : decode prog_10_method_25_code 16 = .ok (.ifCond .ge 8, 3) := by decide +kernel
theorem d_Model_plus_19 : decode prog_10_method_25_code 19 = .ok (.aload_n 0, 1) := by decide +kernel
theorem d_Model_plus_20 : decode prog_10_method_25_code 20 = .ok (.iconst 2, 1) := by decide +kernel
theorem d_Model_plus_21 : decode prog_10_method_25_code 21 = .ok (.invokevirtual 193, 3) := by decide +kernel
theorem d_Model_plus_24 : decode prog_10_method_25_code 24 = .ok (.lload 5, 2) := by decide +kernel
theorem d_Model_plus_26 : decode prog_10_method_25_code 26 = .ok (.lreturn, 1) := by decide +kernel
abbrev y_Model_less : MethodName := ⟨"PermitRulesModel", "less", "(JJ)J"⟩
abbrev cw_Model_less : Cond := .code y_Model_less prog_10_method_26_code 7 (some .long)
theorem d_Model_less_0 : decode prog_10_method_26_code 0 = .ok (.lload_n 1, 1) := by decide +kernel
theorem d_Model_less_1 : decode prog_10_method_26_code 1 = .ok (.lload_n 3, 1) := by decide +kernel
theorem d_Model_less_2 : decode prog_10_method_26_code 2 = .ok (.lsub, 1) := by decide +kernel
theorem d_Model_less_3 : decode prog_10_method_26_code 3 = .ok (.lstore 5, 2) := by decide +kernel
theorem d_Model_less_5 : decode prog_10_method_26_code 5 = .ok (.lload_n 1, 1) := by decide +kernel
theorem d_Model_less_6 : decode prog_10_method_26_code 6 = .ok (.lload_n 3, 1) := by decide +kernel
theorem d_Model_less_7 : decode prog_10_method_26_code 7 = .ok (.lxor, 1) := by decide +kernel
theorem d_Model_less_8 : decode prog_10_method_26_code 8 = .ok (.lload_n 1, 1) := by decide +kernel
theorem d_Model_less_9 : decode prog_10_method_26_code 9 = .ok (.lload 5, 2) := by decide +kernel
theorem d_Model_less_11 : decode prog_10_method_26_code 11 = .ok (.lxor, 1) := by decide +kernel
theorem d_Model_less_12 : decode prog_10_method_26_code 12 = .ok (.land, 1) := by decide +kernel
theorem d_Model_less_13 : decode prog_10_method_26_code 13 = .ok (.lconst 0, 1) := by decide +kernel
theorem d_Model_less_14 : decode prog_10_method_26_code 14 = .ok (.lcmp, 1) := by decide +kernel
theorem d_Model_less_15 : decode prog_10_method_26_code 15 = .ok (.ifCond .ge 8, 3) := by decide +kernel
theorem d_Model_less_18 : decode prog_10_method_26_code 18 = .ok (.aload_n 0, 1) := by decide +kernel
theorem d_Model_less_19 : decode prog_10_method_26_code 19 = .ok (.iconst 2, 1) := by decide +kernel
theorem d_Model_less_20 : decode prog_10_method_26_code 20 = .ok (.invokevirtual 193, 3) := by decide +kernel
theorem d_Model_less_23 : decode prog_10_method_26_code 23 = .ok (.lload 5, 2) := by decide +kernel
theorem d_Model_less_25 : decode prog_10_method_26_code 25 = .ok (.lreturn, 1) := by decide +kernel
abbrev y_Model_give : MethodName := ⟨"PermitRulesModel", "give", "(JJ)V"⟩
abbrev cw_Model_give : Cond := .code y_Model_give prog_10_method_27_code 13 none
theorem d_Model_give_0 : decode prog_10_method_27_code 0 = .ok (.aload_n 0, 1) := by decide +kernel
theorem d_Model_give_1 : decode prog_10_method_27_code 1 = .ok (.getfield 186, 3) := by decide +kernel
theorem d_Model_give_4 : decode prog_10_method_27_code 4 = .ok (.ifCond .le 4, 3) := by decide +kernel
theorem d_Model_give_7 : decode prog_10_method_27_code 7 = .ok (.return_, 1) := by decide +kernel
theorem d_Model_give_8 : decode prog_10_method_27_code 8 = .ok (.lload_n 1, 1) := by decide +kernel
theorem d_Model_give_9 : decode prog_10_method_27_code 9 = .ok (.lstore 5, 2) := by decide +kernel
theorem d_Model_give_11 : decode prog_10_method_27_code 11 = .ok (.lload_n 3, 1) := by decide +kernel
theorem d_Model_give_12 : decode prog_10_method_27_code 12 = .ok (.lstore 7, 2) := by decide +kernel
theorem d_Model_give_14 : decode prog_10_method_27_code 14 = .ok (.lload 7, 2) := by decide +kernel
theorem d_Model_give_16 : decode prog_10_method_27_code 16 = .ok (.lconst 0, 1) := by decide +kernel
theorem d_Model_give_17 : decode prog_10_method_27_code 17 = .ok (.lcmp, 1) := by decide +kernel
theorem d_Model_give_18 : decode prog_10_method_27_code 18 = .ok (.ifCond .eq 21, 3) := by decide +kernel
theorem d_Model_give_21 : decode prog_10_method_27_code 21 = .ok (.lload 5, 2) := by decide +kernel
theorem d_Model_give_23 : decode prog_10_method_27_code 23 = .ok (.lload 7, 2) := by decide +kernel
theorem d_Model_give_25 : decode prog_10_method_27_code 25 = .ok (.lrem, 1) := by decide +kernel
theorem d_Model_give_26 : decode prog_10_method_27_code 26 = .ok (.lstore 9, 2) := by decide +kernel
theorem d_Model_give_28 : decode prog_10_method_27_code 28 = .ok (.lload 7, 2) := by decide +kernel
theorem d_Model_give_30 : decode prog_10_method_27_code 30 = .ok (.lstore 5, 2) := by decide +kernel
theorem d_Model_give_32 : decode prog_10_method_27_code 32 = .ok (.lload 9, 2) := by decide +kernel
theorem d_Model_give_34 : decode prog_10_method_27_code 34 = .ok (.lstore 7, 2) := by decide +kernel
theorem d_Model_give_36 : decode prog_10_method_27_code 36 = .ok (.goto (-22), 3) := by decide +kernel
theorem d_Model_give_39 : decode prog_10_method_27_code 39 = .ok (.lload 5, 2) := by decide +kernel
theorem d_Model_give_41 : decode prog_10_method_27_code 41 = .ok (.lconst 0, 1) := by decide +kernel
theorem d_Model_give_42 : decode prog_10_method_27_code 42 = .ok (.lcmp, 1) := by decide +kernel
theorem d_Model_give_43 : decode prog_10_method_27_code 43 = .ok (.ifCond .ge 18, 3) := by decide +kernel
theorem d_Model_give_46 : decode prog_10_method_27_code 46 = .ok (.lload 5, 2) := by decide +kernel
theorem d_Model_give_48 : decode prog_10_method_27_code 48 = .ok (.ldc2_w 191, 3) := by decide +kernel
theorem d_Model_give_51 : decode prog_10_method_27_code 51 = .ok (.lcmp, 1) := by decide +kernel
theorem d_Model_give_52 : decode prog_10_method_27_code 52 = .ok (.ifCond .eq 9, 3) := by decide +kernel
theorem d_Model_give_55 : decode prog_10_method_27_code 55 = .ok (.lload 5, 2) := by decide +kernel
theorem d_Model_give_57 : decode prog_10_method_27_code 57 = .ok (.lneg, 1) := by decide +kernel
theorem d_Model_give_58 : decode prog_10_method_27_code 58 = .ok (.goto 5, 3) := by decide +kernel
theorem d_Model_give_61 : decode prog_10_method_27_code 61 = .ok (.lload 5, 2) := by decide +kernel
theorem d_Model_give_63 : decode prog_10_method_27_code 63 = .ok (.lstore 5, 2) := by decide +kernel
theorem d_Model_give_65 : decode prog_10_method_27_code 65 = .ok (.lload_n 1, 1) := by decide +kernel
theorem d_Model_give_66 : decode prog_10_method_27_code 66 = .ok (.lload 5, 2) := by decide +kernel
theorem d_Model_give_68 : decode prog_10_method_27_code 68 = .ok (.ldiv, 1) := by decide +kernel
theorem d_Model_give_69 : decode prog_10_method_27_code 69 = .ok (.lstore 9, 2) := by decide +kernel
theorem d_Model_give_71 : decode prog_10_method_27_code 71 = .ok (.lload_n 3, 1) := by decide +kernel
theorem d_Model_give_72 : decode prog_10_method_27_code 72 = .ok (.lload 5, 2) := by decide +kernel
theorem d_Model_give_74 : decode prog_10_method_27_code 74 = .ok (.ldiv, 1) := by decide +kernel
theorem d_Model_give_75 : decode prog_10_method_27_code 75 = .ok (.lstore 11, 2) := by decide +kernel
theorem d_Model_give_77 : decode prog_10_method_27_code 77 = .ok (.lload 11, 2) := by decide +kernel
theorem d_Model_give_79 : decode prog_10_method_27_code 79 = .ok (.lconst 0, 1) := by decide +kernel
theorem d_Model_give_80 : decode prog_10_method_27_code 80 = .ok (.lcmp, 1) := by decide +kernel
theorem d_Model_give_81 : decode prog_10_method_27_code 81 = .ok (.ifCond .ge 21, 3) := by decide +kernel
theorem d_Model_give_84 : decode prog_10_method_27_code 84 = .ok (.aload_n 0, 1) := by decide +kernel
theorem d_Model_give_85 : decode prog_10_method_27_code 85 = .ok (.lconst 0, 1) := by decide +kernel
theorem d_Model_give_86 : decode prog_10_method_27_code 86 = .ok (.lload 9, 2) := by decide +kernel
theorem d_Model_give_88 : decode prog_10_method_27_code 88 = .ok (.invokevirtual 196, 3) := by decide +kernel
theorem d_Model_give_91 : decode prog_10_method_27_code 91 = .ok (.lstore 9, 2) := by decide +kernel
theorem d_Model_give_93 : decode prog_10_method_27_code 93 = .ok (.aload_n 0, 1) := by decide +kernel
theorem d_Model_give_94 : decode prog_10_method_27_code 94 = .ok (.lconst 0, 1) := by decide +kernel
theorem d_Model_give_95 : decode prog_10_method_27_code 95 = .ok (.lload 11, 2) := by decide +kernel
theorem d_Model_give_97 : decode prog_10_method_27_code 97 = .ok (.invokevirtual 196, 3) := by decide +kernel
theorem d_Model_give_100 : decode prog_10_method_27_code 100 = .ok (.lstore 11, 2) := by decide +kernel
theorem d_Model_give_102 : decode prog_10_method_27_code 102 = .ok (.aload_n 0, 1) := by decide +kernel
theorem d_Model_give_103 : decode prog_10_method_27_code 103 = .ok (.getfield 50, 3) := by decide +kernel
theorem d_Model_give_106 : decode prog_10_method_27_code 106 = .ok (.aload_n 0, 1) := by decide +kernel
theorem d_Model_give_107 : decode prog_10_method_27_code 107 = .ok (.getfield 200, 3) := by decide +kernel
theorem d_Model_give_110 : decode prog_10_method_27_code 110 = .ok (.lload 9, 2) := by decide +kernel
theorem d_Model_give_112 : decode prog_10_method_27_code 112 = .ok (.lastore, 1) := by decide +kernel
theorem d_Model_give_113 : decode prog_10_method_27_code 113 = .ok (.aload_n 0, 1) := by decide +kernel
theorem d_Model_give_114 : decode prog_10_method_27_code 114 = .ok (.getfield 53, 3) := by decide +kernel
theorem d_Model_give_117 : decode prog_10_method_27_code 117 = .ok (.aload_n 0, 1) := by decide +kernel
theorem d_Model_give_118 : decode prog_10_method_27_code 118 = .ok (.getfield 200, 3) := by decide +kernel
theorem d_Model_give_121 : decode prog_10_method_27_code 121 = .ok (.lload 11, 2) := by decide +kernel
theorem d_Model_give_123 : decode prog_10_method_27_code 123 = .ok (.lastore, 1) := by decide +kernel
theorem d_Model_give_124 : decode prog_10_method_27_code 124 = .ok (.aload_n 0, 1) := by decide +kernel
theorem d_Model_give_125 : decode prog_10_method_27_code 125 = .ok (.dup, 1) := by decide +kernel
theorem d_Model_give_126 : decode prog_10_method_27_code 126 = .ok (.getfield 200, 3) := by decide +kernel
theorem d_Model_give_129 : decode prog_10_method_27_code 129 = .ok (.iconst 1, 1) := by decide +kernel
theorem d_Model_give_130 : decode prog_10_method_27_code 130 = .ok (.iadd, 1) := by decide +kernel
theorem d_Model_give_131 : decode prog_10_method_27_code 131 = .ok (.putfield 200, 3) := by decide +kernel
theorem d_Model_give_134 : decode prog_10_method_27_code 134 = .ok (.return_, 1) := by decide +kernel
abbrev y_Model_take : MethodName := ⟨"PermitRulesModel", "take", "()V"⟩
abbrev cw_Model_take : Cond := .code y_Model_take prog_10_method_18_code 2 none
theorem d_Model_take_0 : decode prog_10_method_18_code 0 = .ok (.aload_n 0, 1) := by decide +kernel
theorem d_Model_take_1 : decode prog_10_method_18_code 1 = .ok (.aload_n 0, 1) := by decide +kernel
theorem d_Model_take_2 : decode prog_10_method_18_code 2 = .ok (.getfield 134, 3) := by decide +kernel
theorem d_Model_take_5 : decode prog_10_method_18_code 5 = .ok (.putfield 160, 3) := by decide +kernel
theorem d_Model_take_8 : decode prog_10_method_18_code 8 = .ok (.aload_n 0, 1) := by decide +kernel
theorem d_Model_take_9 : decode prog_10_method_18_code 9 = .ok (.aload_n 0, 1) := by decide +kernel
theorem d_Model_take_10 : decode prog_10_method_18_code 10 = .ok (.getfield 137, 3) := by decide +kernel
theorem d_Model_take_13 : decode prog_10_method_18_code 13 = .ok (.putfield 163, 3) := by decide +kernel
theorem d_Model_take_16 : decode prog_10_method_18_code 16 = .ok (.aload_n 0, 1) := by decide +kernel
theorem d_Model_take_17 : decode prog_10_method_18_code 17 = .ok (.getfield 20, 3) := by decide +kernel
theorem d_Model_take_20 : decode prog_10_method_18_code 20 = .ok (.aload_n 0, 1) := by decide +kernel
theorem d_Model_take_21 : decode prog_10_method_18_code 21 = .ok (.getfield 134, 3) := by decide +kernel
theorem d_Model_take_24 : decode prog_10_method_18_code 24 = .ok (.aload_n 0, 1) := by decide +kernel
theorem d_Model_take_25 : decode prog_10_method_18_code 25 = .ok (.getfield 137, 3) := by decide +kernel
theorem d_Model_take_28 : decode prog_10_method_18_code 28 = .ok (.iastore, 1) := by decide +kernel
theorem d_Model_take_29 : decode prog_10_method_18_code 29 = .ok (.iconst 0, 1) := by decide +kernel
theorem d_Model_take_30 : decode prog_10_method_18_code 30 = .ok (.istore_n 1, 1) := by decide +kernel
theorem d_Model_take_31 : decode prog_10_method_18_code 31 = .ok (.iload_n 1, 1) := by decide +kernel
theorem d_Model_take_32 : decode prog_10_method_18_code 32 = .ok (.aload_n 0, 1) := by decide +kernel
theorem d_Model_take_33 : decode prog_10_method_18_code 33 = .ok (.getfield 160, 3) := by decide +kernel
theorem d_Model_take_36 : decode prog_10_method_18_code 36 = .ok (.if_icmp .gt 27, 3) := by decide +kernel
theorem d_Model_take_39 : decode prog_10_method_18_code 39 = .ok (.aload_n 0, 1) := by decide +kernel
theorem d_Model_take_40 : decode prog_10_method_18_code 40 = .ok (.getfield 20, 3) := by decide +kernel
theorem d_Model_take_43 : decode prog_10_method_18_code 43 = .ok (.bipush 13, 2) := by decide +kernel
theorem d_Model_take_45 : decode prog_10_method_18_code 45 = .ok (.iload_n 1, 1) := by decide +kernel
theorem d_Model_take_46 : decode prog_10_method_18_code 46 = .ok (.iadd, 1) := by decide +kernel
theorem d_Model_take_47 : decode prog_10_method_18_code 47 = .ok (.bipush 120, 2) := by decide +kernel
theorem d_Model_take_49 : decode prog_10_method_18_code 49 = .ok (.aload_n 0, 1) := by decide +kernel
theorem d_Model_take_50 : decode prog_10_method_18_code 50 = .ok (.getfield 20, 3) := by decide +kernel
theorem d_Model_take_53 : decode prog_10_method_18_code 53 = .ok (.iload_n 1, 1) := by decide +kernel
theorem d_Model_take_54 : decode prog_10_method_18_code 54 = .ok (.iaload, 1) := by decide +kernel
theorem d_Model_take_55 : decode prog_10_method_18_code 55 = .ok (.iadd, 1) := by decide +kernel
theorem d_Model_take_56 : decode prog_10_method_18_code 56 = .ok (.iastore, 1) := by decide +kernel
theorem d_Model_take_57 : decode prog_10_method_18_code 57 = .ok (.iinc 1 1, 3) := by decide +kernel
theorem d_Model_take_60 : decode prog_10_method_18_code 60 = .ok (.goto (-29), 3) := by decide +kernel
theorem d_Model_take_63 : decode prog_10_method_18_code 63 = .ok (.iconst 0, 1) := by decide +kernel
theorem d_Model_take_64 : decode prog_10_method_18_code 64 = .ok (.istore_n 1, 1) := by decide +kernel
theorem d_Model_take_65 : decode prog_10_method_18_code 65 = .ok (.iload_n 1, 1) := by decide +kernel
theorem d_Model_take_66 : decode prog_10_method_18_code 66 = .ok (.aload_n 0, 1) := by decide +kernel
theorem d_Model_take_67 : decode prog_10_method_18_code 67 = .ok (.getfield 160, 3) := by decide +kernel
theorem d_Model_take_70 : decode prog_10_method_18_code 70 = .ok (.if_icmp .ge 39, 3) := by decide +kernel
theorem d_Model_take_73 : decode prog_10_method_18_code 73 = .ok (.aload_n 0, 1) := by decide +kernel
theorem d_Model_take_74 : decode prog_10_method_18_code 74 = .ok (.getfield 13, 3) := by decide +kernel
theorem d_Model_take_77 : decode prog_10_method_18_code 77 = .ok (.bipush 12, 2) := by decide +kernel
theorem d_Model_take_79 : decode prog_10_method_18_code 79 = .ok (.iload_n 1, 1) := by decide +kernel
theorem d_Model_take_80 : decode prog_10_method_18_code 80 = .ok (.iadd, 1) := by decide +kernel
theorem d_Model_take_81 : decode prog_10_method_18_code 81 = .ok (.aload_n 0, 1) := by decide +kernel
theorem d_Model_take_82 : decode prog_10_method_18_code 82 = .ok (.getfield 13, 3) := by decide +kernel
theorem d_Model_take_85 : decode prog_10_method_18_code 85 = .ok (.iload_n 1, 1) := by decide +kernel
theorem d_Model_take_86 : decode prog_10_method_18_code 86 = .ok (.laload, 1) := by decide +kernel
theorem d_Model_take_87 : decode prog_10_method_18_code 87 = .ok (.lastore, 1) := by decide +kernel
theorem d_Model_take_88 : decode prog_10_method_18_code 88 = .ok (.aload_n 0, 1) := by decide +kernel
theorem d_Model_take_89 : decode prog_10_method_18_code 89 = .ok (.getfield 17, 3) := by decide +kernel
theorem d_Model_take_92 : decode prog_10_method_18_code 92 = .ok (.bipush 12, 2) := by decide +kernel
theorem d_Model_take_94 : decode prog_10_method_18_code 94 = .ok (.iload_n 1, 1) := by decide +kernel
theorem d_Model_take_95 : decode prog_10_method_18_code 95 = .ok (.iadd, 1) := by decide +kernel
theorem d_Model_take_96 : decode prog_10_method_18_code 96 = .ok (.aload_n 0, 1) := by decide +kernel
theorem d_Model_take_97 : decode prog_10_method_18_code 97 = .ok (.getfield 17, 3) := by decide +kernel
theorem d_Model_take_100 : decode prog_10_method_18_code 100 = .ok (.iload_n 1, 1) := by decide +kernel
theorem d_Model_take_101 : decode prog_10_method_18_code 101 = .ok (.laload, 1) := by decide +kernel
theorem d_Model_take_102 : decode prog_10_method_18_code 102 = .ok (.lastore, 1) := by decide +kernel
theorem d_Model_take_103 : decode prog_10_method_18_code 103 = .ok (.iinc 1 1, 3) := by decide +kernel
theorem d_Model_take_106 : decode prog_10_method_18_code 106 = .ok (.goto (-41), 3) := by decide +kernel
theorem d_Model_take_109 : decode prog_10_method_18_code 109 = .ok (.iconst 0, 1) := by decide +kernel
theorem d_Model_take_110 : decode prog_10_method_18_code 110 = .ok (.istore_n 1, 1) := by decide +kernel
theorem d_Model_take_111 : decode prog_10_method_18_code 111 = .ok (.iload_n 1, 1) := by decide +kernel
theorem d_Model_take_112 : decode prog_10_method_18_code 112 = .ok (.aload_n 0, 1) := by decide +kernel
theorem d_Model_take_113 : decode prog_10_method_18_code 113 = .ok (.getfield 163, 3) := by decide +kernel
theorem d_Model_take_116 : decode prog_10_method_18_code 116 = .ok (.if_icmp .ge 81, 3) := by decide +kernel
theorem d_Model_take_119 : decode prog_10_method_18_code 119 = .ok (.aload_n 0, 1) := by decide +kernel
theorem d_Model_take_120 : decode prog_10_method_18_code 120 = .ok (.getfield 23, 3) := by decide +kernel
theorem d_Model_take_123 : decode prog_10_method_18_code 123 = .ok (.bipush 120, 2) := by decide +kernel
theorem d_Model_take_125 : decode prog_10_method_18_code 125 = .ok (.iload_n 1, 1) := by decide +kernel
theorem d_Model_take_126 : decode prog_10_method_18_code 126 = .ok (.iadd, 1) := by decide +kernel
theorem d_Model_take_127 : decode prog_10_method_18_code 127 = .ok (.aload_n 0, 1) := by decide +kernel
theorem d_Model_take_128 : decode prog_10_method_18_code 128 = .ok (.getfield 23, 3) := by decide +kernel
theorem d_Model_take_131 : decode prog_10_method_18_code 131 = .ok (.iload_n 1, 1) := by decide +kernel
theorem d_Model_take_132 : decode prog_10_method_18_code 132 = .ok (.iaload, 1) := by decide +kernel
theorem d_Model_take_133 : decode prog_10_method_18_code 133 = .ok (.iastore, 1) := by decide +kernel
theorem d_Model_take_134 : decode prog_10_method_18_code 134 = .ok (.aload_n 0, 1) := by decide +kernel
theorem d_Model_take_135 : decode prog_10_method_18_code 135 = .ok (.getfield 26, 3) := by decide +kernel
theorem d_Model_take_138 : decode prog_10_method_18_code 138 = .ok (.bipush 120, 2) := by decide +kernel
theorem d_Model_take_140 : decode prog_10_method_18_code 140 = .ok (.iload_n 1, 1) := by decide +kernel
theorem d_Model_take_141 : decode prog_10_method_18_code 141 = .ok (.iadd, 1) := by decide +kernel
theorem d_Model_take_142 : decode prog_10_method_18_code 142 = .ok (.sipush 240, 3) := by decide +kernel
theorem d_Model_take_145 : decode prog_10_method_18_code 145 = .ok (.aload_n 0, 1) := by decide +kernel
theorem d_Model_take_146 : decode prog_10_method_18_code 146 = .ok (.getfield 26, 3) := by decide +kernel
theorem d_Model_take_149 : decode prog_10_method_18_code 149 = .ok (.iload_n 1, 1) := by decide +kernel
theorem d_Model_take_150 : decode prog_10_method_18_code 150 = .ok (.iaload, 1) := by decide +kernel
theorem d_Model_take_151 : decode prog_10_method_18_code 151 = .ok (.iadd, 1) := by decide +kernel
theorem d_Model_take_152 : decode prog_10_method_18_code 152 = .ok (.iastore, 1) := by decide +kernel
theorem d_Model_take_153 : decode prog_10_method_18_code 153 = .ok (.aload_n 0, 1) := by decide +kernel
theorem d_Model_take_154 : decode prog_10_method_18_code 154 = .ok (.getfield 29, 3) := by decide +kernel
theorem d_Model_take_157 : decode prog_10_method_18_code 157 = .ok (.bipush 120, 2) := by decide +kernel
theorem d_Model_take_159 : decode prog_10_method_18_code 159 = .ok (.iload_n 1, 1) := by decide +kernel
theorem d_Model_take_160 : decode prog_10_method_18_code 160 = .ok (.iadd, 1) := by decide +kernel
theorem d_Model_take_161 : decode prog_10_method_18_code 161 = .ok (.sipush 240, 3) := by decide +kernel
theorem d_Model_take_164 : decode prog_10_method_18_code 164 = .ok (.aload_n 0, 1) := by decide +kernel
theorem d_Model_take_165 : decode prog_10_method_18_code 165 = .ok (.getfield 29, 3) := by decide +kernel
theorem d_Model_take_168 : decode prog_10_method_18_code 168 = .ok (.iload_n 1, 1) := by decide +kernel
theorem d_Model_take_169 : decode prog_10_method_18_code 169 = .ok (.iaload, 1) := by decide +kernel
theorem d_Model_take_170 : decode prog_10_method_18_code 170 = .ok (.iadd, 1) := by decide +kernel
theorem d_Model_take_171 : decode prog_10_method_18_code 171 = .ok (.iastore, 1) := by decide +kernel
theorem d_Model_take_172 : decode prog_10_method_18_code 172 = .ok (.aload_n 0, 1) := by decide +kernel
theorem d_Model_take_173 : decode prog_10_method_18_code 173 = .ok (.getfield 32, 3) := by decide +kernel
theorem d_Model_take_176 : decode prog_10_method_18_code 176 = .ok (.bipush 120, 2) := by decide +kernel
theorem d_Model_take_178 : decode prog_10_method_18_code 178 = .ok (.iload_n 1, 1) := by decide +kernel
theorem d_Model_take_179 : decode prog_10_method_18_code 179 = .ok (.iadd, 1) := by decide +kernel
theorem d_Model_take_180 : decode prog_10_method_18_code 180 = .ok (.sipush 240, 3) := by decide +kernel
theorem d_Model_take_183 : decode prog_10_method_18_code 183 = .ok (.aload_n 0, 1) := by decide +kernel
theorem d_Model_take_184 : decode prog_10_method_18_code 184 = .ok (.getfield 32, 3) := by decide +kernel
theorem d_Model_take_187 : decode prog_10_method_18_code 187 = .ok (.iload_n 1, 1) := by decide +kernel
theorem d_Model_take_188 : decode prog_10_method_18_code 188 = .ok (.iaload, 1) := by decide +kernel
theorem d_Model_take_189 : decode prog_10_method_18_code 189 = .ok (.iadd, 1) := by decide +kernel
theorem d_Model_take_190 : decode prog_10_method_18_code 190 = .ok (.iastore, 1) := by decide +kernel
theorem d_Model_take_191 : decode prog_10_method_18_code 191 = .ok (.iinc 1 1, 3) := by decide +kernel
theorem d_Model_take_194 : decode prog_10_method_18_code 194 = .ok (.goto (-83), 3) := by decide +kernel
theorem d_Model_take_197 : decode prog_10_method_18_code 197 = .ok (.iconst 0, 1) := by decide +kernel
theorem d_Model_take_198 : decode prog_10_method_18_code 198 = .ok (.istore_n 1, 1) := by decide +kernel
theorem d_Model_take_199 : decode prog_10_method_18_code 199 = .ok (.iload_n 1, 1) := by decide +kernel
theorem d_Model_take_200 : decode prog_10_method_18_code 200 = .ok (.aload_n 0, 1) := by decide +kernel
theorem d_Model_take_201 : decode prog_10_method_18_code 201 = .ok (.getfield 121, 3) := by decide +kernel
theorem d_Model_take_204 : decode prog_10_method_18_code 204 = .ok (.if_icmp .ge 41, 3) := by decide +kernel
theorem d_Model_take_207 : decode prog_10_method_18_code 207 = .ok (.aload_n 0, 1) := by decide +kernel
theorem d_Model_take_208 : decode prog_10_method_18_code 208 = .ok (.getfield 35, 3) := by decide +kernel
theorem d_Model_take_211 : decode prog_10_method_18_code 211 = .ok (.sipush 240, 3) := by decide +kernel
theorem d_Model_take_214 : decode prog_10_method_18_code 214 = .ok (.iload_n 1, 1) := by decide +kernel
theorem d_Model_take_215 : decode prog_10_method_18_code 215 = .ok (.iadd, 1) := by decide +kernel
theorem d_Model_take_216 : decode prog_10_method_18_code 216 = .ok (.aload_n 0, 1) := by decide +kernel
theorem d_Model_take_217 : decode prog_10_method_18_code 217 = .ok (.getfield 35, 3) := by decide +kernel
theorem d_Model_take_220 : decode prog_10_method_18_code 220 = .ok (.iload_n 1, 1) := by decide +kernel
theorem d_Model_take_221 : decode prog_10_method_18_code 221 = .ok (.iaload, 1) := by decide +kernel
theorem d_Model_take_222 : decode prog_10_method_18_code 222 = .ok (.iastore, 1) := by decide +kernel
theorem d_Model_take_223 : decode prog_10_method_18_code 223 = .ok (.aload_n 0, 1) := by decide +kernel
theorem d_Model_take_224 : decode prog_10_method_18_code 224 = .ok (.getfield 38, 3) := by decide +kernel
theorem d_Model_take_227 : decode prog_10_method_18_code 227 = .ok (.sipush 240, 3) := by decide +kernel
theorem d_Model_take_230 : decode prog_10_method_18_code 230 = .ok (.iload_n 1, 1) := by decide +kernel
theorem d_Model_take_231 : decode prog_10_method_18_code 231 = .ok (.iadd, 1) := by decide +kernel
theorem d_Model_take_232 : decode prog_10_method_18_code 232 = .ok (.aload_n 0, 1) := by decide +kernel
theorem d_Model_take_233 : decode prog_10_method_18_code 233 = .ok (.getfield 38, 3) := by decide +kernel
theorem d_Model_take_236 : decode prog_10_method_18_code 236 = .ok (.iload_n 1, 1) := by decide +kernel
theorem d_Model_take_237 : decode prog_10_method_18_code 237 = .ok (.laload, 1) := by decide +kernel
theorem d_Model_take_238 : decode prog_10_method_18_code 238 = .ok (.lastore, 1) := by decide +kernel
theorem d_Model_take_239 : decode prog_10_method_18_code 239 = .ok (.iinc 1 1, 3) := by decide +kernel
theorem d_Model_take_242 : decode prog_10_method_18_code 242 = .ok (.goto (-43), 3) := by decide +kernel
theorem d_Model_take_245 : decode prog_10_method_18_code 245 = .ok (.aload_n 0, 1) := by decide +kernel
theorem d_Model_take_246 : decode prog_10_method_18_code 246 = .ok (.iconst 0, 1) := by decide +kernel
theorem d_Model_take_247 : decode prog_10_method_18_code 247 = .ok (.putfield 76, 3) := by decide +kernel
theorem d_Model_take_250 : decode prog_10_method_18_code 250 = .ok (.aload_n 0, 1) := by decide +kernel
theorem d_Model_take_251 : decode prog_10_method_18_code 251 = .ok (.iconst 0, 1) := by decide +kernel
theorem d_Model_take_252 : decode prog_10_method_18_code 252 = .ok (.putfield 166, 3) := by decide +kernel
theorem d_Model_take_255 : decode prog_10_method_18_code 255 = .ok (.return_, 1) := by decide +kernel
abbrev y_Model_keep : MethodName := ⟨"PermitRulesModel", "keep", "(I)V"⟩
abbrev cw_Model_keep : Cond := .code y_Model_keep prog_10_method_32_code 2 none
theorem d_Model_keep_0 : decode prog_10_method_32_code 0 = .ok (.aload_n 0, 1) := by decide +kernel
theorem d_Model_keep_1 : decode prog_10_method_32_code 1 = .ok (.getfield 59, 3) := by decide +kernel
theorem d_Model_keep_4 : decode prog_10_method_32_code 4 = .ok (.bipush 6, 2) := by decide +kernel
theorem d_Model_keep_6 : decode prog_10_method_32_code 6 = .ok (.iload_n 1, 1) := by decide +kernel
theorem d_Model_keep_7 : decode prog_10_method_32_code 7 = .ok (.imul, 1) := by decide +kernel
theorem d_Model_keep_8 : decode prog_10_method_32_code 8 = .ok (.aload_n 0, 1) := by decide +kernel
theorem d_Model_keep_9 : decode prog_10_method_32_code 9 = .ok (.getfield 219, 3) := by decide +kernel
theorem d_Model_keep_12 : decode prog_10_method_32_code 12 = .ok (.lastore, 1) := by decide +kernel
theorem d_Model_keep_13 : decode prog_10_method_32_code 13 = .ok (.aload_n 0, 1) := by decide +kernel
theorem d_Model_keep_14 : decode prog_10_method_32_code 14 = .ok (.getfield 59, 3) := by decide +kernel
theorem d_Model_keep_17 : decode prog_10_method_32_code 17 = .ok (.bipush 6, 2) := by decide +kernel
theorem d_Model_keep_19 : decode prog_10_method_32_code 19 = .ok (.iload_n 1, 1) := by decide +kernel
theorem d_Model_keep_20 : decode prog_10_method_32_code 20 = .ok (.imul, 1) := by decide +kernel
theorem d_Model_keep_21 : decode prog_10_method_32_code 21 = .ok (.iconst 1, 1) := by decide +kernel
theorem d_Model_keep_22 : decode prog_10_method_32_code 22 = .ok (.iadd, 1) := by decide +kernel
theorem d_Model_keep_23 : decode prog_10_method_32_code 23 = .ok (.aload_n 0, 1) := by decide +kernel
theorem d_Model_keep_24 : decode prog_10_method_32_code 24 = .ok (.getfield 222, 3) := by decide +kernel
theorem d_Model_keep_27 : decode prog_10_method_32_code 27 = .ok (.lastore, 1) := by decide +kernel
theorem d_Model_keep_28 : decode prog_10_method_32_code 28 = .ok (.aload_n 0, 1) := by decide +kernel
theorem d_Model_keep_29 : decode prog_10_method_32_code 29 = .ok (.getfield 59, 3) := by decide +kernel
theorem d_Model_keep_32 : decode prog_10_method_32_code 32 = .ok (.bipush 6, 2) := by decide +kernel
theorem d_Model_keep_34 : decode prog_10_method_32_code 34 = .ok (.iload_n 1, 1) := by decide +kernel
theorem d_Model_keep_35 : decode prog_10_method_32_code 35 = .ok (.imul, 1) := by decide +kernel
theorem d_Model_keep_36 : decode prog_10_method_32_code 36 = .ok (.iconst 2, 1) := by decide +kernel
theorem d_Model_keep_37 : decode prog_10_method_32_code 37 = .ok (.iadd, 1) := by decide +kernel
theorem d_Model_keep_38 : decode prog_10_method_32_code 38 = .ok (.aload_n 0, 1) := by decide +kernel
theorem d_Model_keep_39 : decode prog_10_method_32_code 39 = .ok (.getfield 225, 3) := by decide +kernel
theorem d_Model_keep_42 : decode prog_10_method_32_code 42 = .ok (.lastore, 1) := by decide +kernel
theorem d_Model_keep_43 : decode prog_10_method_32_code 43 = .ok (.aload_n 0, 1) := by decide +kernel
theorem d_Model_keep_44 : decode prog_10_method_32_code 44 = .ok (.getfield 59, 3) := by decide +kernel
theorem d_Model_keep_47 : decode prog_10_method_32_code 47 = .ok (.bipush 6, 2) := by decide +kernel
theorem d_Model_keep_49 : decode prog_10_method_32_code 49 = .ok (.iload_n 1, 1) := by decide +kernel
theorem d_Model_keep_50 : decode prog_10_method_32_code 50 = .ok (.imul, 1) := by decide +kernel
theorem d_Model_keep_51 : decode prog_10_method_32_code 51 = .ok (.iconst 3, 1) := by decide +kernel
theorem d_Model_keep_52 : decode prog_10_method_32_code 52 = .ok (.iadd, 1) := by decide +kernel
theorem d_Model_keep_53 : decode prog_10_method_32_code 53 = .ok (.aload_n 0, 1) := by decide +kernel
theorem d_Model_keep_54 : decode prog_10_method_32_code 54 = .ok (.getfield 228, 3) := by decide +kernel
theorem d_Model_keep_57 : decode prog_10_method_32_code 57 = .ok (.lastore, 1) := by decide +kernel
theorem d_Model_keep_58 : decode prog_10_method_32_code 58 = .ok (.return_, 1) := by decide +kernel
abbrev y_Model_rule : MethodName := ⟨"PermitRulesModel", "rule", "(J)I"⟩
abbrev cw_Model_rule : Cond := .code y_Model_rule prog_10_method_34_code 5 (some .int)
theorem d_Model_rule_0 : decode prog_10_method_34_code 0 = .ok (.aload_n 0, 1) := by decide +kernel
theorem d_Model_rule_1 : decode prog_10_method_34_code 1 = .ok (.lload_n 1, 1) := by decide +kernel
theorem d_Model_rule_2 : decode prog_10_method_34_code 2 = .ok (.invokestatic 177, 3) := by decide +kernel
theorem d_Model_rule_5 : decode prog_10_method_34_code 5 = .ok (.ifCond .eq 7, 3) := by decide +kernel
theorem d_Model_rule_8 : decode prog_10_method_34_code 8 = .ok (.iconst 0, 1) := by decide +kernel
theorem d_Model_rule_9 : decode prog_10_method_34_code 9 = .ok (.goto 4, 3) := by decide +kernel
theorem d_Model_rule_12 : decode prog_10_method_34_code 12 = .ok (.iconst 1, 1) := by decide +kernel
theorem d_Model_rule_13 : decode prog_10_method_34_code 13 = .ok (.putfield 62, 3) := by decide +kernel
theorem d_Model_rule_16 : decode prog_10_method_34_code 16 = .ok (.iconst (-1), 1) := by decide +kernel
theorem d_Model_rule_17 : decode prog_10_method_34_code 17 = .ok (.istore_n 3, 1) := by decide +kernel
theorem d_Model_rule_18 : decode prog_10_method_34_code 18 = .ok (.iconst 0, 1) := by decide +kernel
theorem d_Model_rule_19 : decode prog_10_method_34_code 19 = .ok (.istore 4, 2) := by decide +kernel
theorem d_Model_rule_21 : decode prog_10_method_34_code 21 = .ok (.iload 4, 2) := by decide +kernel
theorem d_Model_rule_23 : decode prog_10_method_34_code 23 = .ok (.aload_n 0, 1) := by decide +kernel
theorem d_Model_rule_24 : decode prog_10_method_34_code 24 = .ok (.getfield 160, 3) := by decide +kernel
theorem d_Model_rule_27 : decode prog_10_method_34_code 27 = .ok (.if_icmp .ge 38, 3) := by decide +kernel
theorem d_Model_rule_30 : decode prog_10_method_34_code 30 = .ok (.aload_n 0, 1) := by decide +kernel
theorem d_Model_rule_31 : decode prog_10_method_34_code 31 = .ok (.getfield 62, 3) := by decide +kernel
theorem d_Model_rule_34 : decode prog_10_method_34_code 34 = .ok (.ifCond .ne 31, 3) := by decide +kernel
theorem d_Model_rule_37 : decode prog_10_method_34_code 37 = .ok (.aload_n 0, 1) := by decide +kernel
theorem d_Model_rule_38 : decode prog_10_method_34_code 38 = .ok (.getfield 13, 3) := by decide +kernel
theorem d_Model_rule_41 : decode prog_10_method_34_code 41 = .ok (.bipush 12, 2) := by decide +kernel
theorem d_Model_rule_43 : decode prog_10_method_34_code 43 = .ok (.iload 4, 2) := by decide +kernel
theorem d_Model_rule_45 : decode prog_10_method_34_code 45 = .ok (.iadd, 1) := by decide +kernel
theorem d_Model_rule_46 : decode prog_10_method_34_code 46 = .ok (.laload, 1) := by decide +kernel
theorem d_Model_rule_47 : decode prog_10_method_34_code 47 = .ok (.lload_n 1, 1) := by decide +kernel
theorem d_Model_rule_48 : decode prog_10_method_34_code 48 = .ok (.lcmp, 1) := by decide +kernel
theorem d_Model_rule_49 : decode prog_10_method_34_code 49 = .ok (.ifCond .ne 8, 3) := by decide +kernel
theorem d_Model_rule_52 : decode prog_10_method_34_code 52 = .ok (.iload 4, 2) := by decide +kernel
theorem d_Model_rule_54 : decode prog_10_method_34_code 54 = .ok (.goto 4, 3) := by decide +kernel
theorem d_Model_rule_57 : decode prog_10_method_34_code 57 = .ok (.iload_n 3, 1) := by decide +kernel
theorem d_Model_rule_58 : decode prog_10_method_34_code 58 = .ok (.istore_n 3, 1) := by decide +kernel
theorem d_Model_rule_59 : decode prog_10_method_34_code 59 = .ok (.iinc 4 1, 3) := by decide +kernel
theorem d_Model_rule_62 : decode prog_10_method_34_code 62 = .ok (.goto (-41), 3) := by decide +kernel
theorem d_Model_rule_65 : decode prog_10_method_34_code 65 = .ok (.aload_n 0, 1) := by decide +kernel
theorem d_Model_rule_66 : decode prog_10_method_34_code 66 = .ok (.getfield 62, 3) := by decide +kernel
theorem d_Model_rule_69 : decode prog_10_method_34_code 69 = .ok (.ifCond .le 7, 3) := by decide +kernel
theorem d_Model_rule_72 : decode prog_10_method_34_code 72 = .ok (.iconst 0, 1) := by decide +kernel
theorem d_Model_rule_73 : decode prog_10_method_34_code 73 = .ok (.goto 4, 3) := by decide +kernel
theorem d_Model_rule_76 : decode prog_10_method_34_code 76 = .ok (.iload_n 3, 1) := by decide +kernel
theorem d_Model_rule_77 : decode prog_10_method_34_code 77 = .ok (.ireturn, 1) := by decide +kernel
abbrev y_Model_told : MethodName := ⟨"PermitRulesModel", "told", "(II)J"⟩
abbrev cw_Model_told : Cond := .code y_Model_told prog_10_method_35_code 3 (some .long)
theorem d_Model_told_0 : decode prog_10_method_35_code 0 = .ok (.aload_n 0, 1) := by decide +kernel
theorem d_Model_told_1 : decode prog_10_method_35_code 1 = .ok (.iload_n 1, 1) := by decide +kernel
theorem d_Model_told_2 : decode prog_10_method_35_code 2 = .ok (.i2l, 1) := by decide +kernel
theorem d_Model_told_3 : decode prog_10_method_35_code 3 = .ok (.lconst 0, 1) := by decide +kernel
theorem d_Model_told_4 : decode prog_10_method_35_code 4 = .ok (.aload_n 0, 1) := by decide +kernel
theorem d_Model_told_5 : decode prog_10_method_35_code 5 = .ok (.getfield 160, 3) := by decide +kernel
theorem d_Model_told_8 : decode prog_10_method_35_code 8 = .ok (.i2l, 1) := by decide +kernel
theorem d_Model_told_9 : decode prog_10_method_35_code 9 = .ok (.lconst 1, 1) := by decide +kernel
theorem d_Model_told_10 : decode prog_10_method_35_code 10 = .ok (.lsub, 1) := by decide +kernel
theorem d_Model_told_11 : decode prog_10_method_35_code 11 = .ok (.invokestatic 72, 3) := by decide +kernel
theorem d_Model_told_14 : decode prog_10_method_35_code 14 = .ok (.ifCond .eq 15, 3) := by decide +kernel
theorem d_Model_told_17 : decode prog_10_method_35_code 17 = .ok (.iload_n 2, 1) := by decide +kernel
theorem d_Model_told_18 : decode prog_10_method_35_code 18 = .ok (.i2l, 1) := by decide +kernel
theorem d_Model_told_19 : decode prog_10_method_35_code 19 = .ok (.lconst 0, 1) := by decide +kernel
theorem d_Model_told_20 : decode prog_10_method_35_code 20 = .ok (.ldc2_w 250, 3) := by decide +kernel
theorem d_Model_told_23 : decode prog_10_method_35_code 23 = .ok (.invokestatic 72, 3) := by decide +kernel
theorem d_Model_told_26 : decode prog_10_method_35_code 26 = .ok (.ifCond .ne 7, 3) := by decide +kernel
theorem d_Model_told_29 : decode prog_10_method_35_code 29 = .ok (.iconst 1, 1) := by decide +kernel
theorem d_Model_told_30 : decode prog_10_method_35_code 30 = .ok (.goto 15, 3) := by decide +kernel
theorem d_Model_told_33 : decode prog_10_method_35_code 33 = .ok (.aload_n 0, 1) := by decide +kernel
theorem d_Model_told_34 : decode prog_10_method_35_code 34 = .ok (.getfield 166, 3) := by decide +kernel
theorem d_Model_told_37 : decode prog_10_method_35_code 37 = .ok (.ifCond .ne 7, 3) := by decide +kernel
theorem d_Model_told_40 : decode prog_10_method_35_code 40 = .ok (.iconst 2, 1) := by decide +kernel
theorem d_Model_told_41 : decode prog_10_method_35_code 41 = .ok (.goto 4, 3) := by decide +kernel
theorem d_Model_told_44 : decode prog_10_method_35_code 44 = .ok (.iconst 0, 1) := by decide +kernel
theorem d_Model_told_45 : decode prog_10_method_35_code 45 = .ok (.putfield 62, 3) := by decide +kernel
theorem d_Model_told_48 : decode prog_10_method_35_code 48 = .ok (.aload_n 0, 1) := by decide +kernel
theorem d_Model_told_49 : decode prog_10_method_35_code 49 = .ok (.getfield 62, 3) := by decide +kernel
theorem d_Model_told_52 : decode prog_10_method_35_code 52 = .ok (.ifCond .le 5, 3) := by decide +kernel
theorem d_Model_told_55 : decode prog_10_method_35_code 55 = .ok (.lconst 0, 1) := by decide +kernel
theorem d_Model_told_56 : decode prog_10_method_35_code 56 = .ok (.lreturn, 1) := by decide +kernel
theorem d_Model_told_57 : decode prog_10_method_35_code 57 = .ok (.iload_n 2, 1) := by decide +kernel
theorem d_Model_told_58 : decode prog_10_method_35_code 58 = .ok (.ifCond .ne 13, 3) := by decide +kernel
theorem d_Model_told_61 : decode prog_10_method_35_code 61 = .ok (.aload_n 0, 1) := by decide +kernel
theorem d_Model_told_62 : decode prog_10_method_35_code 62 = .ok (.getfield 56, 3) := by decide +kernel
theorem d_Model_told_65 : decode prog_10_method_35_code 65 = .ok (.iload_n 1, 1) := by decide +kernel
theorem d_Model_told_66 : decode prog_10_method_35_code 66 = .ok (.iaload, 1) := by decide +kernel
theorem d_Model_told_67 : decode prog_10_method_35_code 67 = .ok (.i2l, 1) := by decide +kernel
theorem d_Model_told_68 : decode prog_10_method_35_code 68 = .ok (.goto 16, 3) := by decide +kernel
theorem d_Model_told_71 : decode prog_10_method_35_code 71 = .ok (.aload_n 0, 1) := by decide +kernel
theorem d_Model_told_72 : decode prog_10_method_35_code 72 = .ok (.getfield 59, 3) := by decide +kernel
theorem d_Model_told_75 : decode prog_10_method_35_code 75 = .ok (.bipush 6, 2) := by decide +kernel
theorem d_Model_told_77 : decode prog_10_method_35_code 77 = .ok (.iload_n 1, 1) := by decide +kernel
theorem d_Model_told_78 : decode prog_10_method_35_code 78 = .ok (.imul, 1) := by decide +kernel
theorem d_Model_told_79 : decode prog_10_method_35_code 79 = .ok (.iload_n 2, 1) := by decide +kernel
theorem d_Model_told_80 : decode prog_10_method_35_code 80 = .ok (.iadd, 1) := by decide +kernel
theorem d_Model_told_81 : decode prog_10_method_35_code 81 = .ok (.iconst 1, 1) := by decide +kernel
theorem d_Model_told_82 : decode prog_10_method_35_code 82 = .ok (.isub, 1) := by decide +kernel
theorem d_Model_told_83 : decode prog_10_method_35_code 83 = .ok (.laload, 1) := by decide +kernel
theorem d_Model_told_84 : decode prog_10_method_35_code 84 = .ok (.lreturn, 1) := by decide +kernel
abbrev y_Model_broken : MethodName := ⟨"PermitRulesModel", "broken", "(I)I"⟩
abbrev cw_Model_broken : Cond := .code y_Model_broken prog_10_method_36_code 4 (some .int)
theorem d_Model_broken_0 : decode prog_10_method_36_code 0 = .ok (.aload_n 0, 1) := by decide +kernel
theorem d_Model_broken_1 : decode prog_10_method_36_code 1 = .ok (.iload_n 1, 1) := by decide +kernel
theorem d_Model_broken_2 : decode prog_10_method_36_code 2 = .ok (.ifCond .ge 7, 3) := by decide +kernel
theorem d_Model_broken_5 : decode prog_10_method_36_code 5 = .ok (.iconst 1, 1) := by decide +kernel
theorem d_Model_broken_6 : decode prog_10_method_36_code 6 = .ok (.goto 15, 3) := by decide +kernel
theorem d_Model_broken_9 : decode prog_10_method_36_code 9 = .ok (.aload_n 0, 1) := by decide +kernel
theorem d_Model_broken_10 : decode prog_10_method_36_code 10 = .ok (.getfield 166, 3) := by decide +kernel
theorem d_Model_broken_13 : decode prog_10_method_36_code 13 = .ok (.ifCond .ne 7, 3) := by decide +kernel
theorem d_Model_broken_16 : decode prog_10_method_36_code 16 = .ok (.iconst 2, 1) := by decide +kernel
theorem d_Model_broken_17 : decode prog_10_method_36_code 17 = .ok (.goto 4, 3) := by decide +kernel
theorem d_Model_broken_20 : decode prog_10_method_36_code 20 = .ok (.iconst 0, 1) := by decide +kernel
theorem d_Model_broken_21 : decode prog_10_method_36_code 21 = .ok (.putfield 62, 3) := by decide +kernel
theorem d_Model_broken_24 : decode prog_10_method_36_code 24 = .ok (.iconst 0, 1) := by decide +kernel
theorem d_Model_broken_25 : decode prog_10_method_36_code 25 = .ok (.istore_n 2, 1) := by decide +kernel
theorem d_Model_broken_26 : decode prog_10_method_36_code 26 = .ok (.iconst 0, 1) := by decide +kernel
theorem d_Model_broken_27 : decode prog_10_method_36_code 27 = .ok (.istore_n 3, 1) := by decide +kernel
theorem d_Model_broken_28 : decode prog_10_method_36_code 28 = .ok (.iload_n 3, 1) := by decide +kernel
theorem d_Model_broken_29 : decode prog_10_method_36_code 29 = .ok (.aload_n 0, 1) := by decide +kernel
theorem d_Model_broken_30 : decode prog_10_method_36_code 30 = .ok (.getfield 160, 3) := by decide +kernel
theorem d_Model_broken_33 : decode prog_10_method_36_code 33 = .ok (.if_icmp .ge 36, 3) := by decide +kernel
theorem d_Model_broken_36 : decode prog_10_method_36_code 36 = .ok (.aload_n 0, 1) := by decide +kernel
theorem d_Model_broken_37 : decode prog_10_method_36_code 37 = .ok (.getfield 62, 3) := by decide +kernel
theorem d_Model_broken_40 : decode prog_10_method_36_code 40 = .ok (.ifCond .ne 29, 3) := by decide +kernel
theorem d_Model_broken_43 : decode prog_10_method_36_code 43 = .ok (.aload_n 0, 1) := by decide +kernel
theorem d_Model_broken_44 : decode prog_10_method_36_code 44 = .ok (.getfield 56, 3) := by decide +kernel
theorem d_Model_broken_47 : decode prog_10_method_36_code 47 = .ok (.iload_n 3, 1) := by decide +kernel
theorem d_Model_broken_48 : decode prog_10_method_36_code 48 = .ok (.iaload, 1) := by decide +kernel
theorem d_Model_broken_49 : decode prog_10_method_36_code 49 = .ok (.iconst 1, 1) := by decide +kernel
theorem d_Model_broken_50 : decode prog_10_method_36_code 50 = .ok (.if_icmp .ne 13, 3) := by decide +kernel
theorem d_Model_broken_53 : decode prog_10_method_36_code 53 = .ok (.iload_n 2, 1) := by decide +kernel
theorem d_Model_broken_54 : decode prog_10_method_36_code 54 = .ok (.iload_n 1, 1) := by decide +kernel
theorem d_Model_broken_55 : decode prog_10_method_36_code 55 = .ok (.if_icmp .ne 5, 3) := by decide +kernel
theorem d_Model_broken_58 : decode prog_10_method_36_code 58 = .ok (.iload_n 3, 1) := by decide +kernel
theorem d_Model_broken_59 : decode prog_10_method_36_code 59 = .ok (.ireturn, 1) := by decide +kernel
theorem d_Model_broken_60 : decode prog_10_method_36_code 60 = .ok (.iinc 2 1, 3) := by decide +kernel
theorem d_Model_broken_63 : decode prog_10_method_36_code 63 = .ok (.iinc 3 1, 3) := by decide +kernel
theorem d_Model_broken_66 : decode prog_10_method_36_code 66 = .ok (.goto (-38), 3) := by decide +kernel
theorem d_Model_broken_69 : decode prog_10_method_36_code 69 = .ok (.aload_n 0, 1) := by decide +kernel
theorem d_Model_broken_70 : decode prog_10_method_36_code 70 = .ok (.getfield 62, 3) := by decide +kernel
theorem d_Model_broken_73 : decode prog_10_method_36_code 73 = .ok (.ifCond .le 7, 3) := by decide +kernel
theorem d_Model_broken_76 : decode prog_10_method_36_code 76 = .ok (.iconst 0, 1) := by decide +kernel
theorem d_Model_broken_77 : decode prog_10_method_36_code 77 = .ok (.goto 4, 3) := by decide +kernel
theorem d_Model_broken_80 : decode prog_10_method_36_code 80 = .ok (.iconst (-1), 1) := by decide +kernel
theorem d_Model_broken_81 : decode prog_10_method_36_code 81 = .ok (.ireturn, 1) := by decide +kernel
abbrev y_Model_count : MethodName := ⟨"PermitRulesModel", "count", "(I)I"⟩
abbrev cw_Model_count : Cond := .code y_Model_count prog_10_method_38_code 2 (some .int)
theorem d_Model_count_0 : decode prog_10_method_38_code 0 = .ok (.aload_n 0, 1) := by decide +kernel
theorem d_Model_count_1 : decode prog_10_method_38_code 1 = .ok (.iload_n 1, 1) := by decide +kernel
theorem d_Model_count_2 : decode prog_10_method_38_code 2 = .ok (.i2l, 1) := by decide +kernel
theorem d_Model_count_3 : decode prog_10_method_38_code 3 = .ok (.lconst 0, 1) := by decide +kernel
theorem d_Model_count_4 : decode prog_10_method_38_code 4 = .ok (.ldc2_w 254, 3) := by decide +kernel
theorem d_Model_count_7 : decode prog_10_method_38_code 7 = .ok (.invokestatic 72, 3) := by decide +kernel
theorem d_Model_count_10 : decode prog_10_method_38_code 10 = .ok (.ifCond .eq 7, 3) := by decide +kernel
theorem d_Model_count_13 : decode prog_10_method_38_code 13 = .ok (.iconst 0, 1) := by decide +kernel
theorem d_Model_count_14 : decode prog_10_method_38_code 14 = .ok (.goto 4, 3) := by decide +kernel
theorem d_Model_count_17 : decode prog_10_method_38_code 17 = .ok (.iconst 1, 1) := by decide +kernel
theorem d_Model_count_18 : decode prog_10_method_38_code 18 = .ok (.putfield 62, 3) := by decide +kernel
theorem d_Model_count_21 : decode prog_10_method_38_code 21 = .ok (.aload_n 0, 1) := by decide +kernel
theorem d_Model_count_22 : decode prog_10_method_38_code 22 = .ok (.getfield 62, 3) := by decide +kernel
theorem d_Model_count_25 : decode prog_10_method_38_code 25 = .ok (.ifCond .le 7, 3) := by decide +kernel
theorem d_Model_count_28 : decode prog_10_method_38_code 28 = .ok (.iconst 0, 1) := by decide +kernel
theorem d_Model_count_29 : decode prog_10_method_38_code 29 = .ok (.goto 47, 3) := by decide +kernel
theorem d_Model_count_32 : decode prog_10_method_38_code 32 = .ok (.iload_n 1, 1) := by decide +kernel
theorem d_Model_count_33 : decode prog_10_method_38_code 33 = .ok (.ifCond .ne 10, 3) := by decide +kernel
theorem d_Model_count_36 : decode prog_10_method_38_code 36 = .ok (.aload_n 0, 1) := by decide +kernel
theorem d_Model_count_37 : decode prog_10_method_38_code 37 = .ok (.getfield 76, 3) := by decide +kernel
theorem d_Model_count_40 : decode prog_10_method_38_code 40 = .ok (.goto 36, 3) := by decide +kernel
theorem d_Model_count_43 : decode prog_10_method_38_code 43 = .ok (.iload_n 1, 1) := by decide +kernel
theorem d_Model_count_44 : decode prog_10_method_38_code 44 = .ok (.iconst 1, 1) := by decide +kernel
theorem d_Model_count_45 : decode prog_10_method_38_code 45 = .ok (.if_icmp .ne 10, 3) := by decide +kernel
theorem d_Model_count_48 : decode prog_10_method_38_code 48 = .ok (.aload_n 0, 1) := by decide +kernel
theorem d_Model_count_49 : decode prog_10_method_38_code 49 = .ok (.getfield 160, 3) := by decide +kernel
theorem d_Model_count_52 : decode prog_10_method_38_code 52 = .ok (.goto 24, 3) := by decide +kernel
theorem d_Model_count_55 : decode prog_10_method_38_code 55 = .ok (.iload_n 1, 1) := by decide +kernel
theorem d_Model_count_56 : decode prog_10_method_38_code 56 = .ok (.iconst 2, 1) := by decide +kernel
theorem d_Model_count_57 : decode prog_10_method_38_code 57 = .ok (.if_icmp .ne 10, 3) := by decide +kernel
theorem d_Model_count_60 : decode prog_10_method_38_code 60 = .ok (.aload_n 0, 1) := by decide +kernel
theorem d_Model_count_61 : decode prog_10_method_38_code 61 = .ok (.getfield 170, 3) := by decide +kernel
theorem d_Model_count_64 : decode prog_10_method_38_code 64 = .ok (.goto 12, 3) := by decide +kernel
theorem d_Model_count_67 : decode prog_10_method_38_code 67 = .ok (.aload_n 0, 1) := by decide +kernel
theorem d_Model_count_68 : decode prog_10_method_38_code 68 = .ok (.getfield 163, 3) := by decide +kernel
theorem d_Model_count_71 : decode prog_10_method_38_code 71 = .ok (.aload_n 0, 1) := by decide +kernel
theorem d_Model_count_72 : decode prog_10_method_38_code 72 = .ok (.getfield 160, 3) := by decide +kernel
theorem d_Model_count_75 : decode prog_10_method_38_code 75 = .ok (.isub, 1) := by decide +kernel
theorem d_Model_count_76 : decode prog_10_method_38_code 76 = .ok (.ireturn, 1) := by decide +kernel
abbrev y_Model_init : MethodName := ⟨"PermitRulesModel", "<init>", "()V"⟩
abbrev cw_Model_init : Cond := .code y_Model_init prog_10_method_1_code 1 none
theorem d_Model_init_0 : decode prog_10_method_1_code 0 = .ok (.aload_n 0, 1) := by decide +kernel
theorem d_Model_init_1 : decode prog_10_method_1_code 1 = .ok (.invokespecial 1, 3) := by decide +kernel
theorem d_Model_init_4 : decode prog_10_method_1_code 4 = .ok (.aload_n 0, 1) := by decide +kernel
theorem d_Model_init_5 : decode prog_10_method_1_code 5 = .ok (.sipush 800, 3) := by decide +kernel
theorem d_Model_init_8 : decode prog_10_method_1_code 8 = .ok (.newarray .int, 2) := by decide +kernel
theorem d_Model_init_10 : decode prog_10_method_1_code 10 = .ok (.putfield 7, 3) := by decide +kernel
theorem d_Model_init_13 : decode prog_10_method_1_code 13 = .ok (.aload_n 0, 1) := by decide +kernel
theorem d_Model_init_14 : decode prog_10_method_1_code 14 = .ok (.bipush 24, 2) := by decide +kernel
theorem d_Model_init_16 : decode prog_10_method_1_code 16 = .ok (.newarray .long, 2) := by decide +kernel
theorem d_Model_init_18 : decode prog_10_method_1_code 18 = .ok (.putfield 13, 3) := by decide +kernel
theorem d_Model_init_21 : decode prog_10_method_1_code 21 = .ok (.aload_n 0, 1) := by decide +kernel
theorem d_Model_init_22 : decode prog_10_method_1_code 22 = .ok (.bipush 24, 2) := by decide +kernel
theorem d_Model_init_24 : decode prog_10_method_1_code 24 = .ok (.newarray .long, 2) := by decide +kernel
theorem d_Model_init_26 : decode prog_10_method_1_code 26 = .ok (.putfield 17, 3) := by decide +kernel
theorem d_Model_init_29 : decode prog_10_method_1_code 29 = .ok (.aload_n 0, 1) := by decide +kernel
theorem d_Model_init_30 : decode prog_10_method_1_code 30 = .ok (.bipush 26, 2) := by decide +kernel
theorem d_Model_init_32 : decode prog_10_method_1_code 32 = .ok (.newarray .int, 2) := by decide +kernel
theorem d_Model_init_34 : decode prog_10_method_1_code 34 = .ok (.putfield 20, 3) := by decide +kernel
theorem d_Model_init_37 : decode prog_10_method_1_code 37 = .ok (.aload_n 0, 1) := by decide +kernel
theorem d_Model_init_38 : decode prog_10_method_1_code 38 = .ok (.sipush 240, 3) := by decide +kernel
theorem d_Model_init_41 : decode prog_10_method_1_code 41 = .ok (.newarray .int, 2) := by decide +kernel
theorem d_Model_init_43 : decode prog_10_method_1_code 43 = .ok (.putfield 23, 3) := by decide +kernel
theorem d_Model_init_46 : decode prog_10_method_1_code 46 = .ok (.aload_n 0, 1) := by decide +kernel
theorem d_Model_init_47 : decode prog_10_method_1_code 47 = .ok (.sipush 240, 3) := by decide +kernel
theorem d_Model_init_50 : decode prog_10_method_1_code 50 = .ok (.newarray .int, 2) := by decide +kernel
theorem d_Model_init_52 : decode prog_10_method_1_code 52 = .ok (.putfield 26, 3) := by decide +kernel
theorem d_Model_init_55 : decode prog_10_method_1_code 55 = .ok (.aload_n 0, 1) := by decide +kernel
theorem d_Model_init_56 : decode prog_10_method_1_code 56 = .ok (.sipush 240, 3) := by decide +kernel
theorem d_Model_init_59 : decode prog_10_method_1_code 59 = .ok (.newarray .int, 2) := by decide +kernel
theorem d_Model_init_61 : decode prog_10_method_1_code 61 = .ok (.putfield 29, 3) := by decide +kernel
theorem d_Model_init_64 : decode prog_10_method_1_code 64 = .ok (.aload_n 0, 1) := by decide +kernel
theorem d_Model_init_65 : decode prog_10_method_1_code 65 = .ok (.sipush 240, 3) := by decide +kernel
theorem d_Model_init_68 : decode prog_10_method_1_code 68 = .ok (.newarray .int, 2) := by decide +kernel
theorem d_Model_init_70 : decode prog_10_method_1_code 70 = .ok (.putfield 32, 3) := by decide +kernel
theorem d_Model_init_73 : decode prog_10_method_1_code 73 = .ok (.aload_n 0, 1) := by decide +kernel
theorem d_Model_init_74 : decode prog_10_method_1_code 74 = .ok (.sipush 480, 3) := by decide +kernel
theorem d_Model_init_77 : decode prog_10_method_1_code 77 = .ok (.newarray .int, 2) := by decide +kernel
theorem d_Model_init_79 : decode prog_10_method_1_code 79 = .ok (.putfield 35, 3) := by decide +kernel
theorem d_Model_init_82 : decode prog_10_method_1_code 82 = .ok (.aload_n 0, 1) := by decide +kernel
theorem d_Model_init_83 : decode prog_10_method_1_code 83 = .ok (.sipush 480, 3) := by decide +kernel
theorem d_Model_init_86 : decode prog_10_method_1_code 86 = .ok (.newarray .long, 2) := by decide +kernel
theorem d_Model_init_88 : decode prog_10_method_1_code 88 = .ok (.putfield 38, 3) := by decide +kernel
theorem d_Model_init_91 : decode prog_10_method_1_code 91 = .ok (.aload_n 0, 1) := by decide +kernel
theorem d_Model_init_92 : decode prog_10_method_1_code 92 = .ok (.sipush 130, 3) := by decide +kernel
theorem d_Model_init_95 : decode prog_10_method_1_code 95 = .ok (.newarray .int, 2) := by decide +kernel
theorem d_Model_init_97 : decode prog_10_method_1_code 97 = .ok (.putfield 41, 3) := by decide +kernel
theorem d_Model_init_100 : decode prog_10_method_1_code 100 = .ok (.aload_n 0, 1) := by decide +kernel
theorem d_Model_init_101 : decode prog_10_method_1_code 101 = .ok (.bipush 40, 2) := by decide +kernel
theorem d_Model_init_103 : decode prog_10_method_1_code 103 = .ok (.newarray .long, 2) := by decide +kernel
theorem d_Model_init_105 : decode prog_10_method_1_code 105 = .ok (.putfield 44, 3) := by decide +kernel
theorem d_Model_init_108 : decode prog_10_method_1_code 108 = .ok (.aload_n 0, 1) := by decide +kernel
theorem d_Model_init_109 : decode prog_10_method_1_code 109 = .ok (.bipush 40, 2) := by decide +kernel
theorem d_Model_init_111 : decode prog_10_method_1_code 111 = .ok (.newarray .long, 2) := by decide +kernel
theorem d_Model_init_113 : decode prog_10_method_1_code 113 = .ok (.putfield 47, 3) := by decide +kernel
theorem d_Model_init_116 : decode prog_10_method_1_code 116 = .ok (.aload_n 0, 1) := by decide +kernel
theorem d_Model_init_117 : decode prog_10_method_1_code 117 = .ok (.sipush 130, 3) := by decide +kernel
theorem d_Model_init_120 : decode prog_10_method_1_code 120 = .ok (.newarray .long, 2) := by decide +kernel
theorem d_Model_init_122 : decode prog_10_method_1_code 122 = .ok (.putfield 50, 3) := by decide +kernel
theorem d_Model_init_125 : decode prog_10_method_1_code 125 = .ok (.aload_n 0, 1) := by decide +kernel
theorem d_Model_init_126 : decode prog_10_method_1_code 126 = .ok (.sipush 130, 3) := by decide +kernel
theorem d_Model_init_129 : decode prog_10_method_1_code 129 = .ok (.newarray .long, 2) := by decide +kernel
theorem d_Model_init_131 : decode prog_10_method_1_code 131 = .ok (.putfield 53, 3) := by decide +kernel
theorem d_Model_init_134 : decode prog_10_method_1_code 134 = .ok (.aload_n 0, 1) := by decide +kernel
theorem d_Model_init_135 : decode prog_10_method_1_code 135 = .ok (.bipush 12, 2) := by decide +kernel
theorem d_Model_init_137 : decode prog_10_method_1_code 137 = .ok (.newarray .int, 2) := by decide +kernel
theorem d_Model_init_139 : decode prog_10_method_1_code 139 = .ok (.putfield 56, 3) := by decide +kernel
theorem d_Model_init_142 : decode prog_10_method_1_code 142 = .ok (.aload_n 0, 1) := by decide +kernel
theorem d_Model_init_143 : decode prog_10_method_1_code 143 = .ok (.bipush 72, 2) := by decide +kernel
theorem d_Model_init_145 : decode prog_10_method_1_code 145 = .ok (.newarray .long, 2) := by decide +kernel
theorem d_Model_init_147 : decode prog_10_method_1_code 147 = .ok (.putfield 59, 3) := by decide +kernel
theorem d_Model_init_150 : decode prog_10_method_1_code 150 = .ok (.return_, 1) := by decide +kernel
