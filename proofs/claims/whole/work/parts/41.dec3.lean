abbrev y_Model_in : MethodName := ⟨"PermitRulesModel", "in", "(JJJ)Z"⟩
abbrev cw_Model_in : Cond := .code y_Model_in prog_10_method_3_code 6 (some .boolean)
theorem d_Model_in_0 : decode prog_10_method_3_code 0 = .ok (.lload_n 0, 1) := by decide +kernel
theorem d_Model_in_1 : decode prog_10_method_3_code 1 = .ok (.lload_n 2, 1) := by decide +kernel
theorem d_Model_in_2 : decode prog_10_method_3_code 2 = .ok (.lcmp, 1) := by decide +kernel
theorem d_Model_in_3 : decode prog_10_method_3_code 3 = .ok (.ifCond .lt 14, 3) := by decide +kernel
theorem d_Model_in_6 : decode prog_10_method_3_code 6 = .ok (.lload_n 0, 1) := by decide +kernel
theorem d_Model_in_7 : decode prog_10_method_3_code 7 = .ok (.lload 4, 2) := by decide +kernel
theorem d_Model_in_9 : decode prog_10_method_3_code 9 = .ok (.lcmp, 1) := by decide +kernel
theorem d_Model_in_10 : decode prog_10_method_3_code 10 = .ok (.ifCond .gt 7, 3) := by decide +kernel
theorem d_Model_in_13 : decode prog_10_method_3_code 13 = .ok (.iconst 1, 1) := by decide +kernel
theorem d_Model_in_14 : decode prog_10_method_3_code 14 = .ok (.goto 4, 3) := by decide +kernel
theorem d_Model_in_17 : decode prog_10_method_3_code 17 = .ok (.iconst 0, 1) := by decide +kernel
theorem d_Model_in_18 : decode prog_10_method_3_code 18 = .ok (.ireturn, 1) := by decide +kernel
abbrev y_Model_thrown : MethodName := ⟨"PermitRulesModel", "thrown", "()I"⟩
abbrev cw_Model_thrown : Cond := .code y_Model_thrown prog_10_method_2_code 1 (some .int)
theorem d_Model_thrown_0 : decode prog_10_method_2_code 0 = .ok (.aload_n 0, 1) := by decide +kernel
theorem d_Model_thrown_1 : decode prog_10_method_2_code 1 = .ok (.getfield 62, 3) := by decide +kernel
theorem d_Model_thrown_4 : decode prog_10_method_2_code 4 = .ok (.ireturn, 1) := by decide +kernel
abbrev y_Model_character : MethodName := ⟨"PermitRulesModel", "character", "(I)I"⟩
abbrev cw_Model_character : Cond := .code y_Model_character prog_10_method_6_code 2 (some .int)
theorem d_Model_character_0 : decode prog_10_method_6_code 0 = .ok (.iload_n 1, 1) := by decide +kernel
theorem d_Model_character_1 : decode prog_10_method_6_code 1 = .ok (.aload_n 0, 1) := by decide +kernel
theorem d_Model_character_2 : decode prog_10_method_6_code 2 = .ok (.getfield 76, 3) := by decide +kernel
theorem d_Model_character_5 : decode prog_10_method_6_code 5 = .ok (.if_icmp .ge 12, 3) := by decide +kernel
theorem d_Model_character_8 : decode prog_10_method_6_code 8 = .ok (.aload_n 0, 1) := by decide +kernel
theorem d_Model_character_9 : decode prog_10_method_6_code 9 = .ok (.getfield 7, 3) := by decide +kernel
theorem d_Model_character_12 : decode prog_10_method_6_code 12 = .ok (.iload_n 1, 1) := by decide +kernel
theorem d_Model_character_13 : decode prog_10_method_6_code 13 = .ok (.iaload, 1) := by decide +kernel
theorem d_Model_character_14 : decode prog_10_method_6_code 14 = .ok (.goto 4, 3) := by decide +kernel
theorem d_Model_character_17 : decode prog_10_method_6_code 17 = .ok (.iconst (-1), 1) := by decide +kernel
theorem d_Model_character_18 : decode prog_10_method_6_code 18 = .ok (.ireturn, 1) := by decide +kernel
abbrev y_Model_isDigit : MethodName := ⟨"PermitRulesModel", "isDigit", "(I)Z"⟩
abbrev cw_Model_isDigit : Cond := .code y_Model_isDigit prog_10_method_7_code 2 (some .boolean)
theorem d_Model_isDigit_0 : decode prog_10_method_7_code 0 = .ok (.aload_n 0, 1) := by decide +kernel
theorem d_Model_isDigit_1 : decode prog_10_method_7_code 1 = .ok (.iload_n 1, 1) := by decide +kernel
theorem d_Model_isDigit_2 : decode prog_10_method_7_code 2 = .ok (.invokevirtual 79, 3) := by decide +kernel
theorem d_Model_isDigit_5 : decode prog_10_method_7_code 5 = .ok (.i2l, 1) := by decide +kernel
theorem d_Model_isDigit_6 : decode prog_10_method_7_code 6 = .ok (.ldc2_w 83, 3) := by decide +kernel
theorem d_Model_isDigit_9 : decode prog_10_method_7_code 9 = .ok (.ldc2_w 85, 3) := by decide +kernel
theorem d_Model_isDigit_12 : decode prog_10_method_7_code 12 = .ok (.invokestatic 72, 3) := by decide +kernel
theorem d_Model_isDigit_15 : decode prog_10_method_7_code 15 = .ok (.ireturn, 1) := by decide +kernel
abbrev y_Model_isLetter : MethodName := ⟨"PermitRulesModel", "isLetter", "(I)Z"⟩
abbrev cw_Model_isLetter : Cond := .code y_Model_isLetter prog_10_method_8_code 2 (some .boolean)
theorem d_Model_isLetter_0 : decode prog_10_method_8_code 0 = .ok (.aload_n 0, 1) := by decide +kernel
theorem d_Model_isLetter_1 : decode prog_10_method_8_code 1 = .ok (.iload_n 1, 1) := by decide +kernel
theorem d_Model_isLetter_2 : decode prog_10_method_8_code 2 = .ok (.invokevirtual 79, 3) := by decide +kernel
theorem d_Model_isLetter_5 : decode prog_10_method_8_code 5 = .ok (.i2l, 1) := by decide +kernel
theorem d_Model_isLetter_6 : decode prog_10_method_8_code 6 = .ok (.ldc2_w 87, 3) := by decide +kernel
theorem d_Model_isLetter_9 : decode prog_10_method_8_code 9 = .ok (.ldc2_w 89, 3) := by decide +kernel
theorem d_Model_isLetter_12 : decode prog_10_method_8_code 12 = .ok (.invokestatic 72, 3) := by decide +kernel
theorem d_Model_isLetter_15 : decode prog_10_method_8_code 15 = .ok (.ireturn, 1) := by decide +kernel
abbrev y_Model_isSign : MethodName := ⟨"PermitRulesModel", "isSign", "(I)Z"⟩
abbrev cw_Model_isSign : Cond := .code y_Model_isSign prog_10_method_9_code 1 (some .boolean)
theorem d_Model_isSign_0 : decode prog_10_method_9_code 0 = .ok (.iload_n 0, 1) := by decide +kernel
theorem d_Model_isSign_1 : decode prog_10_method_9_code 1 = .ok (.bipush 43, 2) := by decide +kernel
theorem d_Model_isSign_3 : decode prog_10_method_9_code 3 = .ok (.if_icmp .eq 75, 3) := by decide +kernel
theorem d_Model_isSign_6 : decode prog_10_method_9_code 6 = .ok (.iload_n 0, 1) := by decide +kernel
theorem d_Model_isSign_7 : decode prog_10_method_9_code 7 = .ok (.bipush 45, 2) := by decide +kernel
theorem d_Model_isSign_9 : decode prog_10_method_9_code 9 = .ok (.if_icmp .eq 69, 3) := by decide +kernel
theorem d_Model_isSign_12 : decode prog_10_method_9_code 12 = .ok (.iload_n 0, 1) := by decide +kernel
theorem d_Model_isSign_13 : decode prog_10_method_9_code 13 = .ok (.bipush 42, 2) := by decide +kernel
theorem d_Model_isSign_15 : decode prog_10_method_9_code 15 = .ok (.if_icmp .eq 63, 3) := by decide +kernel
theorem d_Model_isSign_18 : decode prog_10_method_9_code 18 = .ok (.iload_n 0, 1) := by decide +kernel
theorem d_Model_isSign_19 : decode prog_10_method_9_code 19 = .ok (.bipush 47, 2) := by decide +kernel
theorem d_Model_isSign_21 : decode prog_10_method_9_code 21 = .ok (.if_icmp .eq 57, 3) := by decide +kernel
theorem d_Model_isSign_24 : decode prog_10_method_9_code 24 = .ok (.iload_n 0, 1) := by decide +kernel
theorem d_Model_isSign_25 : decode prog_10_method_9_code 25 = .ok (.bipush 40, 2) := by decide +kernel
theorem d_Model_isSign_27 : decode prog_10_method_9_code 27 = .ok (.if_icmp .eq 51, 3) := by decide +kernel
theorem d_Model_isSign_30 : decode prog_10_method_9_code 30 = .ok (.iload_n 0, 1) := by decide +kernel
theorem d_Model_isSign_31 : decode prog_10_method_9_code 31 = .ok (.bipush 41, 2) := by decide +kernel
theorem d_Model_isSign_33 : decode prog_10_method_9_code 33 = .ok (.if_icmp .eq 45, 3) := by decide +kernel
theorem d_Model_isSign_36 : decode prog_10_method_9_code 36 = .ok (.iload_n 0, 1) := by decide +kernel
theorem d_Model_isSign_37 : decode prog_10_method_9_code 37 = .ok (.bipush 60, 2) := by decide +kernel
theorem d_Model_isSign_39 : decode prog_10_method_9_code 39 = .ok (.if_icmp .eq 39, 3) := by decide +kernel
theorem d_Model_isSign_42 : decode prog_10_method_9_code 42 = .ok (.iload_n 0, 1) := by decide +kernel
theorem d_Model_isSign_43 : decode prog_10_method_9_code 43 = .ok (.bipush 61, 2) := by decide +kernel
theorem d_Model_isSign_45 : decode prog_10_method_9_code 45 = .ok (.if_icmp .eq 33, 3) := by decide +kernel
theorem d_Model_isSign_48 : decode prog_10_method_9_code 48 = .ok (.iload_n 0, 1) := by decide +kernel
theorem d_Model_isSign_49 : decode prog_10_method_9_code 49 = .ok (.bipush 62, 2) := by decide +kernel
theorem d_Model_isSign_51 : decode prog_10_method_9_code 51 = .ok (.if_icmp .eq 27, 3) := by decide +kernel
theorem d_Model_isSign_54 : decode prog_10_method_9_code 54 = .ok (.iload_n 0, 1) := by decide +kernel
theorem d_Model_isSign_55 : decode prog_10_method_9_code 55 = .ok (.bipush 58, 2) := by decide +kernel
theorem d_Model_isSign_57 : decode prog_10_method_9_code 57 = .ok (.if_icmp .eq 21, 3) := by decide +kernel
theorem d_Model_isSign_60 : decode prog_10_method_9_code 60 = .ok (.iload_n 0, 1) := by decide +kernel
theorem d_Model_isSign_61 : decode prog_10_method_9_code 61 = .ok (.bipush 59, 2) := by decide +kernel
theorem d_Model_isSign_63 : decode prog_10_method_9_code 63 = .ok (.if_icmp .eq 15, 3) := by decide +kernel
theorem d_Model_isSign_66 : decode prog_10_method_9_code 66 = .ok (.iload_n 0, 1) := by decide +kernel
theorem d_Model_isSign_67 : decode prog_10_method_9_code 67 = .ok (.bipush 33, 2) := by decide +kernel
theorem d_Model_isSign_69 : decode prog_10_method_9_code 69 = .ok (.if_icmp .eq 9, 3) := by decide +kernel
theorem d_Model_isSign_72 : decode prog_10_method_9_code 72 = .ok (.iload_n 0, 1) := by decide +kernel
theorem d_Model_isSign_73 : decode prog_10_method_9_code 73 = .ok (.bipush 64, 2) := by decide +kernel
theorem d_Model_isSign_75 : decode prog_10_method_9_code 75 = .ok (.if_icmp .ne 7, 3) := by decide +kernel
theorem d_Model_isSign_78 : decode prog_10_method_9_code 78 = .ok (.iconst 1, 1) := by decide +kernel
theorem d_Model_isSign_79 : decode prog_10_method_9_code 79 = .ok (.goto 4, 3) := by decide +kernel
theorem d_Model_isSign_82 : decode prog_10_method_9_code 82 = .ok (.iconst 0, 1) := by decide +kernel
theorem d_Model_isSign_83 : decode prog_10_method_9_code 83 = .ok (.ireturn, 1) := by decide +kernel
abbrev y_Model_compares : MethodName := ⟨"PermitRulesModel", "compares", "(I)Z"⟩
abbrev cw_Model_compares : Cond := .code y_Model_compares prog_10_method_11_code 1 (some .boolean)
theorem d_Model_compares_0 : decode prog_10_method_11_code 0 = .ok (.iload_n 0, 1) := by decide +kernel
theorem d_Model_compares_1 : decode prog_10_method_11_code 1 = .ok (.bipush 60, 2) := by decide +kernel
theorem d_Model_compares_3 : decode prog_10_method_11_code 3 = .ok (.if_icmp .eq 29, 3) := by decide +kernel
theorem d_Model_compares_6 : decode prog_10_method_11_code 6 = .ok (.iload_n 0, 1) := by decide +kernel
theorem d_Model_compares_7 : decode prog_10_method_11_code 7 = .ok (.bipush 61, 2) := by decide +kernel
theorem d_Model_compares_9 : decode prog_10_method_11_code 9 = .ok (.if_icmp .eq 23, 3) := by decide +kernel
theorem d_Model_compares_12 : decode prog_10_method_11_code 12 = .ok (.iload_n 0, 1) := by decide +kernel
theorem d_Model_compares_13 : decode prog_10_method_11_code 13 = .ok (.bipush 62, 2) := by decide +kernel
theorem d_Model_compares_15 : decode prog_10_method_11_code 15 = .ok (.if_icmp .eq 17, 3) := by decide +kernel
theorem d_Model_compares_18 : decode prog_10_method_11_code 18 = .ok (.iload_n 0, 1) := by decide +kernel
theorem d_Model_compares_19 : decode prog_10_method_11_code 19 = .ok (.sipush 316, 3) := by decide +kernel
theorem d_Model_compares_22 : decode prog_10_method_11_code 22 = .ok (.if_icmp .eq 10, 3) := by decide +kernel
theorem d_Model_compares_25 : decode prog_10_method_11_code 25 = .ok (.iload_n 0, 1) := by decide +kernel
theorem d_Model_compares_26 : decode prog_10_method_11_code 26 = .ok (.sipush 318, 3) := by decide +kernel
theorem d_Model_compares_29 : decode prog_10_method_11_code 29 = .ok (.if_icmp .ne 7, 3) := by decide +kernel
theorem d_Model_compares_32 : decode prog_10_method_11_code 32 = .ok (.iconst 1, 1) := by decide +kernel
theorem d_Model_compares_33 : decode prog_10_method_11_code 33 = .ok (.goto 4, 3) := by decide +kernel
theorem d_Model_compares_36 : decode prog_10_method_11_code 36 = .ok (.iconst 0, 1) := by decide +kernel
theorem d_Model_compares_37 : decode prog_10_method_11_code 37 = .ok (.ireturn, 1) := by decide +kernel
abbrev y_Model_rank : MethodName := ⟨"PermitRulesModel", "rank", "(I)I"⟩
abbrev cw_Model_rank : Cond := .code y_Model_rank prog_10_method_13_code 1 (some .int)
theorem d_Model_rank_0 : decode prog_10_method_13_code 0 = .ok (.iload_n 0, 1) := by decide +kernel
theorem d_Model_rank_1 : decode prog_10_method_13_code 1 = .ok (.bipush 42, 2) := by decide +kernel
theorem d_Model_rank_3 : decode prog_10_method_13_code 3 = .ok (.if_icmp .eq 9, 3) := by decide +kernel
theorem d_Model_rank_6 : decode prog_10_method_13_code 6 = .ok (.iload_n 0, 1) := by decide +kernel
theorem d_Model_rank_7 : decode prog_10_method_13_code 7 = .ok (.bipush 47, 2) := by decide +kernel
theorem d_Model_rank_9 : decode prog_10_method_13_code 9 = .ok (.if_icmp .ne 7, 3) := by decide +kernel
theorem d_Model_rank_12 : decode prog_10_method_13_code 12 = .ok (.iconst 3, 1) := by decide +kernel
theorem d_Model_rank_13 : decode prog_10_method_13_code 13 = .ok (.goto 30, 3) := by decide +kernel
theorem d_Model_rank_16 : decode prog_10_method_13_code 16 = .ok (.iload_n 0, 1) := by decide +kernel
theorem d_Model_rank_17 : decode prog_10_method_13_code 17 = .ok (.bipush 78, 2) := by decide +kernel
theorem d_Model_rank_19 : decode prog_10_method_13_code 19 = .ok (.if_icmp .ne 7, 3) := by decide +kernel
theorem d_Model_rank_22 : decode prog_10_method_13_code 22 = .ok (.iconst 2, 1) := by decide +kernel
theorem d_Model_rank_23 : decode prog_10_method_13_code 23 = .ok (.goto 20, 3) := by decide +kernel
theorem d_Model_rank_26 : decode prog_10_method_13_code 26 = .ok (.iload_n 0, 1) := by decide +kernel
theorem d_Model_rank_27 : decode prog_10_method_13_code 27 = .ok (.bipush 43, 2) := by decide +kernel
theorem d_Model_rank_29 : decode prog_10_method_13_code 29 = .ok (.if_icmp .eq 9, 3) := by decide +kernel
theorem d_Model_rank_32 : decode prog_10_method_13_code 32 = .ok (.iload_n 0, 1) := by decide +kernel
theorem d_Model_rank_33 : decode prog_10_method_13_code 33 = .ok (.bipush 45, 2) := by decide +kernel
theorem d_Model_rank_35 : decode prog_10_method_13_code 35 = .ok (.if_icmp .ne 7, 3) := by decide +kernel
theorem d_Model_rank_38 : decode prog_10_method_13_code 38 = .ok (.iconst 1, 1) := by decide +kernel
theorem d_Model_rank_39 : decode prog_10_method_13_code 39 = .ok (.goto 4, 3) := by decide +kernel
theorem d_Model_rank_42 : decode prog_10_method_13_code 42 = .ok (.iconst 0, 1) := by decide +kernel
theorem d_Model_rank_43 : decode prog_10_method_13_code 43 = .ok (.ireturn, 1) := by decide +kernel
abbrev y_Model_next : MethodName := ⟨"PermitRulesModel", "next", "()V"⟩
abbrev cw_Model_next : Cond := .code y_Model_next prog_10_method_10_code 3 none
theorem d_Model_next_0 : decode prog_10_method_10_code 0 = .ok (.aload_n 0, 1) := by decide +kernel
theorem d_Model_next_1 : decode prog_10_method_10_code 1 = .ok (.aload_n 0, 1) := by decide +kernel
theorem d_Model_next_2 : decode prog_10_method_10_code 2 = .ok (.getfield 91, 3) := by decide +kernel
theorem d_Model_next_5 : decode prog_10_method_10_code 5 = .ok (.invokevirtual 79, 3) := by decide +kernel
theorem d_Model_next_8 : decode prog_10_method_10_code 8 = .ok (.bipush 32, 2) := by decide +kernel
theorem d_Model_next_10 : decode prog_10_method_10_code 10 = .ok (.if_icmp .ne 16, 3) := by decide +kernel
theorem d_Model_next_13 : decode prog_10_method_10_code 13 = .ok (.aload_n 0, 1) := by decide +kernel
theorem d_Model_next_14 : decode prog_10_method_10_code 14 = .ok (.dup, 1) := by decide +kernel
theorem d_Model_next_15 : decode prog_10_method_10_code 15 = .ok (.getfield 91, 3) := by decide +kernel
theorem d_Model_next_18 : decode prog_10_method_10_code 18 = .ok (.iconst 1, 1) := by decide +kernel
theorem d_Model_next_19 : decode prog_10_method_10_code 19 = .ok (.iadd, 1) := by decide +kernel
theorem d_Model_next_20 : decode prog_10_method_10_code 20 = .ok (.putfield 91, 3) := by decide +kernel
theorem d_Model_next_23 : decode prog_10_method_10_code 23 = .ok (.goto (-23), 3) := by decide +kernel
theorem d_Model_next_26 : decode prog_10_method_10_code 26 = .ok (.aload_n 0, 1) := by decide +kernel
theorem d_Model_next_27 : decode prog_10_method_10_code 27 = .ok (.aload_n 0, 1) := by decide +kernel
theorem d_Model_next_28 : decode prog_10_method_10_code 28 = .ok (.getfield 91, 3) := by decide +kernel
theorem d_Model_next_31 : decode prog_10_method_10_code 31 = .ok (.putfield 94, 3) := by decide +kernel
theorem d_Model_next_34 : decode prog_10_method_10_code 34 = .ok (.aload_n 0, 1) := by decide +kernel
theorem d_Model_next_35 : decode prog_10_method_10_code 35 = .ok (.aload_n 0, 1) := by decide +kernel
theorem d_Model_next_36 : decode prog_10_method_10_code 36 = .ok (.getfield 91, 3) := by decide +kernel
theorem d_Model_next_39 : decode prog_10_method_10_code 39 = .ok (.invokevirtual 79, 3) := by decide +kernel
theorem d_Model_next_42 : decode prog_10_method_10_code 42 = .ok (.istore_n 1, 1) := by decide +kernel
theorem d_Model_next_43 : decode prog_10_method_10_code 43 = .ok (.iload_n 1, 1) := by decide +kernel
theorem d_Model_next_44 : decode prog_10_method_10_code 44 = .ok (.ifCond .ge 9, 3) := by decide +kernel
theorem d_Model_next_47 : decode prog_10_method_10_code 47 = .ok (.aload_n 0, 1) := by decide +kernel
theorem d_Model_next_48 : decode prog_10_method_10_code 48 = .ok (.iconst 0, 1) := by decide +kernel
theorem d_Model_next_49 : decode prog_10_method_10_code 49 = .ok (.putfield 97, 3) := by decide +kernel
theorem d_Model_next_52 : decode prog_10_method_10_code 52 = .ok (.return_, 1) := by decide +kernel
theorem d_Model_next_53 : decode prog_10_method_10_code 53 = .ok (.aload_n 0, 1) := by decide +kernel
theorem d_Model_next_54 : decode prog_10_method_10_code 54 = .ok (.dup, 1) := by decide +kernel
theorem d_Model_next_55 : decode prog_10_method_10_code 55 = .ok (.getfield 100, 3) := by decide +kernel
theorem d_Model_next_58 : decode prog_10_method_10_code 58 = .ok (.iconst 1, 1) := by decide +kernel
theorem d_Model_next_59 : decode prog_10_method_10_code 59 = .ok (.iadd, 1) := by decide +kernel
theorem d_Model_next_60 : decode prog_10_method_10_code 60 = .ok (.putfield 100, 3) := by decide +kernel
theorem d_Model_next_63 : decode prog_10_method_10_code 63 = .ok (.aload_n 0, 1) := by decide +kernel
theorem d_Model_next_64 : decode prog_10_method_10_code 64 = .ok (.lconst 0, 1) := by decide +kernel
theorem d_Model_next_65 : decode prog_10_method_10_code 65 = .ok (.putfield 103, 3) := by decide +kernel
theorem d_Model_next_68 : decode prog_10_method_10_code 68 = .ok (.iconst 0, 1) := by decide +kernel
theorem d_Model_next_69 : decode prog_10_method_10_code 69 = .ok (.istore_n 2, 1) := by decide +kernel
theorem d_Model_next_70 : decode prog_10_method_10_code 70 = .ok (.aload_n 0, 1) := by decide +kernel
theorem d_Model_next_71 : decode prog_10_method_10_code 71 = .ok (.aload_n 0, 1) := by decide +kernel
theorem d_Model_next_72 : decode prog_10_method_10_code 72 = .ok (.getfield 91, 3) := by decide +kernel
theorem d_Model_next_75 : decode prog_10_method_10_code 75 = .ok (.invokevirtual 107, 3) := by decide +kernel
theorem d_Model_next_78 : decode prog_10_method_10_code 78 = .ok (.ifCond .eq 87, 3) := by decide +kernel
theorem d_Model_next_81 : decode prog_10_method_10_code 81 = .ok (.aload_n 0, 1) := by decide +kernel
theorem d_Model_next_82 : decode prog_10_method_10_code 82 = .ok (.aload_n 0, 1) := by decide +kernel
theorem d_Model_next_83 : decode prog_10_method_10_code 83 = .ok (.getfield 91, 3) := by decide +kernel
theorem d_Model_next_86 : decode prog_10_method_10_code 86 = .ok (.invokevirtual 107, 3) := by decide +kernel
theorem d_Model_next_89 : decode prog_10_method_10_code 89 = .ok (.ifCond .eq 58, 3) := by decide +kernel
theorem d_Model_next_92 : decode prog_10_method_10_code 92 = .ok (.aload_n 0, 1) := by decide +kernel
theorem d_Model_next_93 : decode prog_10_method_10_code 93 = .ok (.iload_n 2, 1) := by decide +kernel
theorem d_Model_next_94 : decode prog_10_method_10_code 94 = .ok (.bipush 9, 2) := by decide +kernel
theorem d_Model_next_96 : decode prog_10_method_10_code 96 = .ok (.if_icmp .ge 28, 3) := by decide +kernel
theorem d_Model_next_99 : decode prog_10_method_10_code 99 = .ok (.ldc2_w 111, 3) := by decide +kernel
theorem d_Model_next_102 : decode prog_10_method_10_code 102 = .ok (.aload_n 0, 1) := by decide +kernel
theorem d_Model_next_103 : decode prog_10_method_10_code 103 = .ok (.getfield 103, 3) := by decide +kernel
theorem d_Model_next_106 : decode prog_10_method_10_code 106 = .ok (.lmul, 1) := by decide +kernel
theorem d_Model_next_107 : decode prog_10_method_10_code 107 = .ok (.aload_n 0, 1) := by decide +kernel
theorem d_Model_next_108 : decode prog_10_method_10_code 108 = .ok (.aload_n 0, 1) := by decide +kernel
theorem d_Model_next_109 : decode prog_10_method_10_code 109 = .ok (.getfield 91, 3) := by decide +kernel
theorem d_Model_next_112 : decode prog_10_method_10_code 112 = .ok (.invokevirtual 79, 3) := by decide +kernel
theorem d_Model_next_115 : decode prog_10_method_10_code 115 = .ok (.i2l, 1) := by decide +kernel
theorem d_Model_next_116 : decode prog_10_method_10_code 116 = .ok (.ladd, 1) := by decide +kernel
theorem d_Model_next_117 : decode prog_10_method_10_code 117 = .ok (.ldc2_w 83, 3) := by decide +kernel
theorem d_Model_next_120 : decode prog_10_method_10_code 120 = .ok (.lsub, 1) := by decide +kernel
theorem d_Model_next_121 : decode prog_10_method_10_code 121 = .ok (.goto 7, 3) := by decide +kernel
theorem d_Model_next_124 : decode prog_10_method_10_code 124 = .ok (.aload_n 0, 1) := by decide +kernel
theorem d_Model_next_125 : decode prog_10_method_10_code 125 = .ok (.getfield 103, 3) := by decide +kernel
theorem d_Model_next_128 : decode prog_10_method_10_code 128 = .ok (.putfield 103, 3) := by decide +kernel
theorem d_Model_next_131 : decode prog_10_method_10_code 131 = .ok (.iinc 2 1, 3) := by decide +kernel
theorem d_Model_next_134 : decode prog_10_method_10_code 134 = .ok (.aload_n 0, 1) := by decide +kernel
theorem d_Model_next_135 : decode prog_10_method_10_code 135 = .ok (.dup, 1) := by decide +kernel
theorem d_Model_next_136 : decode prog_10_method_10_code 136 = .ok (.getfield 91, 3) := by decide +kernel
theorem d_Model_next_139 : decode prog_10_method_10_code 139 = .ok (.iconst 1, 1) := by decide +kernel
theorem d_Model_next_140 : decode prog_10_method_10_code 140 = .ok (.iadd, 1) := by decide +kernel
theorem d_Model_next_141 : decode prog_10_method_10_code 141 = .ok (.putfield 91, 3) := by decide +kernel
theorem d_Model_next_144 : decode prog_10_method_10_code 144 = .ok (.goto (-63), 3) := by decide +kernel
theorem d_Model_next_147 : decode prog_10_method_10_code 147 = .ok (.aload_n 0, 1) := by decide +kernel
theorem d_Model_next_148 : decode prog_10_method_10_code 148 = .ok (.iload_n 2, 1) := by decide +kernel
theorem d_Model_next_149 : decode prog_10_method_10_code 149 = .ok (.bipush 9, 2) := by decide +kernel
theorem d_Model_next_151 : decode prog_10_method_10_code 151 = .ok (.if_icmp .le 7, 3) := by decide +kernel
theorem d_Model_next_154 : decode prog_10_method_10_code 154 = .ok (.iconst 3, 1) := by decide +kernel
theorem d_Model_next_155 : decode prog_10_method_10_code 155 = .ok (.goto 4, 3) := by decide +kernel
theorem d_Model_next_158 : decode prog_10_method_10_code 158 = .ok (.iconst 1, 1) := by decide +kernel
theorem d_Model_next_159 : decode prog_10_method_10_code 159 = .ok (.putfield 97, 3) := by decide +kernel
theorem d_Model_next_162 : decode prog_10_method_10_code 162 = .ok (.goto 164, 3) := by decide +kernel
theorem d_Model_next_165 : decode prog_10_method_10_code 165 = .ok (.aload_n 0, 1) := by decide +kernel
theorem d_Model_next_166 : decode prog_10_method_10_code 166 = .ok (.aload_n 0, 1) := by decide +kernel
theorem d_Model_next_167 : decode prog_10_method_10_code 167 = .ok (.getfield 91, 3) := by decide +kernel
theorem d_Model_next_170 : decode prog_10_method_10_code 170 = .ok (.invokevirtual 113, 3) := by decide +kernel
theorem d_Model_next_173 : decode prog_10_method_10_code 173 = .ok (.ifCond .eq 83, 3) := by decide +kernel
theorem d_Model_next_176 : decode prog_10_method_10_code 176 = .ok (.aload_n 0, 1) := by decide +kernel
theorem d_Model_next_177 : decode prog_10_method_10_code 177 = .ok (.aload_n 0, 1) := by decide +kernel
theorem d_Model_next_178 : decode prog_10_method_10_code 178 = .ok (.getfield 91, 3) := by decide +kernel
theorem d_Model_next_181 : decode prog_10_method_10_code 181 = .ok (.invokevirtual 113, 3) := by decide +kernel
theorem d_Model_next_184 : decode prog_10_method_10_code 184 = .ok (.ifCond .eq 54, 3) := by decide +kernel
theorem d_Model_next_187 : decode prog_10_method_10_code 187 = .ok (.aload_n 0, 1) := by decide +kernel
theorem d_Model_next_188 : decode prog_10_method_10_code 188 = .ok (.iload_n 2, 1) := by decide +kernel
theorem d_Model_next_189 : decode prog_10_method_10_code 189 = .ok (.bipush 8, 2) := by decide +kernel
theorem d_Model_next_191 : decode prog_10_method_10_code 191 = .ok (.if_icmp .ge 24, 3) := by decide +kernel
theorem d_Model_next_194 : decode prog_10_method_10_code 194 = .ok (.aload_n 0, 1) := by decide +kernel
theorem d_Model_next_195 : decode prog_10_method_10_code 195 = .ok (.getfield 103, 3) := by decide +kernel
theorem d_Model_next_198 : decode prog_10_method_10_code 198 = .ok (.ldc2_w 116, 3) := by decide +kernel
theorem d_Model_next_201 : decode prog_10_method_10_code 201 = .ok (.lmul, 1) := by decide +kernel
theorem d_Model_next_202 : decode prog_10_method_10_code 202 = .ok (.aload_n 0, 1) := by decide +kernel
theorem d_Model_next_203 : decode prog_10_method_10_code 203 = .ok (.aload_n 0, 1) := by decide +kernel
theorem d_Model_next_204 : decode prog_10_method_10_code 204 = .ok (.getfield 91, 3) := by decide +kernel
theorem d_Model_next_207 : decode prog_10_method_10_code 207 = .ok (.invokevirtual 79, 3) := by decide +kernel
theorem d_Model_next_210 : decode prog_10_method_10_code 210 = .ok (.i2l, 1) := by decide +kernel
theorem d_Model_next_211 : decode prog_10_method_10_code 211 = .ok (.ladd, 1) := by decide +kernel
theorem d_Model_next_212 : decode prog_10_method_10_code 212 = .ok (.goto 7, 3) := by decide +kernel
theorem d_Model_next_215 : decode prog_10_method_10_code 215 = .ok (.aload_n 0, 1) := by decide +kernel
theorem d_Model_next_216 : decode prog_10_method_10_code 216 = .ok (.getfield 103, 3) := by decide +kernel
theorem d_Model_next_219 : decode prog_10_method_10_code 219 = .ok (.putfield 103, 3) := by decide +kernel
theorem d_Model_next_222 : decode prog_10_method_10_code 222 = .ok (.iinc 2 1, 3) := by decide +kernel
theorem d_Model_next_225 : decode prog_10_method_10_code 225 = .ok (.aload_n 0, 1) := by decide +kernel
theorem d_Model_next_226 : decode prog_10_method_10_code 226 = .ok (.dup, 1) := by decide +kernel
theorem d_Model_next_227 : decode prog_10_method_10_code 227 = .ok (.getfield 91, 3) := by decide +kernel
theorem d_Model_next_230 : decode prog_10_method_10_code 230 = .ok (.iconst 1, 1) := by decide +kernel
theorem d_Model_next_231 : decode prog_10_method_10_code 231 = .ok (.iadd, 1) := by decide +kernel
theorem d_Model_next_232 : decode prog_10_method_10_code 232 = .ok (.putfield 91, 3) := by decide +kernel
theorem d_Model_next_235 : decode prog_10_method_10_code 235 = .ok (.goto (-59), 3) := by decide +kernel
theorem d_Model_next_238 : decode prog_10_method_10_code 238 = .ok (.aload_n 0, 1) := by decide +kernel
theorem d_Model_next_239 : decode prog_10_method_10_code 239 = .ok (.iload_n 2, 1) := by decide +kernel
theorem d_Model_next_240 : decode prog_10_method_10_code 240 = .ok (.bipush 8, 2) := by decide +kernel
theorem d_Model_next_242 : decode prog_10_method_10_code 242 = .ok (.if_icmp .le 7, 3) := by decide +kernel
theorem d_Model_next_245 : decode prog_10_method_10_code 245 = .ok (.iconst 3, 1) := by decide +kernel
theorem d_Model_next_246 : decode prog_10_method_10_code 246 = .ok (.goto 4, 3) := by decide +kernel
theorem d_Model_next_249 : decode prog_10_method_10_code 249 = .ok (.iconst 2, 1) := by decide +kernel
theorem d_Model_next_250 : decode prog_10_method_10_code 250 = .ok (.putfield 97, 3) := by decide +kernel
theorem d_Model_next_253 : decode prog_10_method_10_code 253 = .ok (.goto 73, 3) := by decide +kernel
theorem d_Model_next_256 : decode prog_10_method_10_code 256 = .ok (.aload_n 0, 1) := by decide +kernel
theorem d_Model_next_257 : decode prog_10_method_10_code 257 = .ok (.dup, 1) := by decide +kernel
theorem d_Model_next_258 : decode prog_10_method_10_code 258 = .ok (.getfield 91, 3) := by decide +kernel
theorem d_Model_next_261 : decode prog_10_method_10_code 261 = .ok (.iconst 1, 1) := by decide +kernel
theorem d_Model_next_262 : decode prog_10_method_10_code 262 = .ok (.iadd, 1) := by decide +kernel
theorem d_Model_next_263 : decode prog_10_method_10_code 263 = .ok (.putfield 91, 3) := by decide +kernel
theorem d_Model_next_266 : decode prog_10_method_10_code 266 = .ok (.aload_n 0, 1) := by decide +kernel
theorem d_Model_next_267 : decode prog_10_method_10_code 267 = .ok (.iload_n 1, 1) := by decide +kernel
theorem d_Model_next_268 : decode prog_10_method_10_code 268 = .ok (.invokestatic 118, 3) := by decide +kernel
theorem d_Model_next_271 : decode prog_10_method_10_code 271 = .ok (.ifCond .eq 7, 3) := by decide +kernel
theorem d_Model_next_274 : decode prog_10_method_10_code 274 = .ok (.iload_n 1, 1) := by decide +kernel
theorem d_Model_next_275 : decode prog_10_method_10_code 275 = .ok (.goto 4, 3) := by decide +kernel
theorem d_Model_next_278 : decode prog_10_method_10_code 278 = .ok (.iconst 3, 1) := by decide +kernel
theorem d_Model_next_279 : decode prog_10_method_10_code 279 = .ok (.putfield 97, 3) := by decide +kernel
theorem d_Model_next_282 : decode prog_10_method_10_code 282 = .ok (.iload_n 1, 1) := by decide +kernel
theorem d_Model_next_283 : decode prog_10_method_10_code 283 = .ok (.bipush 60, 2) := by decide +kernel
theorem d_Model_next_285 : decode prog_10_method_10_code 285 = .ok (.if_icmp .eq 9, 3) := by decide +kernel
theorem d_Model_next_288 : decode prog_10_method_10_code 288 = .ok (.iload_n 1, 1) := by decide +kernel
theorem d_Model_next_289 : decode prog_10_method_10_code 289 = .ok (.bipush 62, 2) := by decide +kernel
theorem d_Model_next_291 : decode prog_10_method_10_code 291 = .ok (.if_icmp .ne 35, 3) := by decide +kernel
theorem d_Model_next_294 : decode prog_10_method_10_code 294 = .ok (.aload_n 0, 1) := by decide +kernel
theorem d_Model_next_295 : decode prog_10_method_10_code 295 = .ok (.aload_n 0, 1) := by decide +kernel
theorem d_Model_next_296 : decode prog_10_method_10_code 296 = .ok (.getfield 91, 3) := by decide +kernel
theorem d_Model_next_299 : decode prog_10_method_10_code 299 = .ok (.invokevirtual 79, 3) := by decide +kernel
theorem d_Model_next_302 : decode prog_10_method_10_code 302 = .ok (.bipush 61, 2) := by decide +kernel
theorem d_Model_next_304 : decode prog_10_method_10_code 304 = .ok (.if_icmp .ne 22, 3) := by decide +kernel
theorem d_Model_next_307 : decode prog_10_method_10_code 307 = .ok (.aload_n 0, 1) := by decide +kernel
theorem d_Model_next_308 : decode prog_10_method_10_code 308 = .ok (.iload_n 1, 1) := by decide +kernel
theorem d_Model_next_309 : decode prog_10_method_10_code 309 = .ok (.sipush 256, 3) := by decide +kernel
theorem d_Model_next_312 : decode prog_10_method_10_code 312 = .ok (.iadd, 1) := by decide +kernel
theorem d_Model_next_313 : decode prog_10_method_10_code 313 = .ok (.putfield 97, 3) := by decide +kernel
theorem d_Model_next_316 : decode prog_10_method_10_code 316 = .ok (.aload_n 0, 1) := by decide +kernel
theorem d_Model_next_317 : decode prog_10_method_10_code 317 = .ok (.dup, 1) := by decide +kernel
theorem d_Model_next_318 : decode prog_10_method_10_code 318 = .ok (.getfield 91, 3) := by decide +kernel
theorem d_Model_next_321 : decode prog_10_method_10_code 321 = .ok (.iconst 1, 1) := by decide +kernel
theorem d_Model_next_322 : decode prog_10_method_10_code 322 = .ok (.iadd, 1) := by decide +kernel
theorem d_Model_next_323 : decode prog_10_method_10_code 323 = .ok (.putfield 91, 3) := by decide +kernel
theorem d_Model_next_326 : decode prog_10_method_10_code 326 = .ok (.aload_n 0, 1) := by decide +kernel
theorem d_Model_next_327 : decode prog_10_method_10_code 327 = .ok (.aload_n 0, 1) := by decide +kernel
theorem d_Model_next_328 : decode prog_10_method_10_code 328 = .ok (.getfield 100, 3) := by decide +kernel
theorem d_Model_next_331 : decode prog_10_method_10_code 331 = .ok (.bipush 120, 2) := by decide +kernel
theorem d_Model_next_333 : decode prog_10_method_10_code 333 = .ok (.if_icmp .le 7, 3) := by decide +kernel
theorem d_Model_next_336 : decode prog_10_method_10_code 336 = .ok (.iconst 3, 1) := by decide +kernel
theorem d_Model_next_337 : decode prog_10_method_10_code 337 = .ok (.goto 7, 3) := by decide +kernel
theorem d_Model_next_340 : decode prog_10_method_10_code 340 = .ok (.aload_n 0, 1) := by decide +kernel
theorem d_Model_next_341 : decode prog_10_method_10_code 341 = .ok (.getfield 97, 3) := by decide +kernel
theorem d_Model_next_344 : decode prog_10_method_10_code 344 = .ok (.putfield 97, 3) := by decide +kernel
theorem d_Model_next_347 : decode prog_10_method_10_code 347 = .ok (.return_, 1) := by decide +kernel
abbrev y_Model_step : MethodName := ⟨"PermitRulesModel", "step", "(IJ)V"⟩
abbrev cw_Model_step : Cond := .code y_Model_step prog_10_method_12_code 4 none
theorem d_Model_step_0 : decode prog_10_method_12_code 0 = .ok (.aload_n 0, 1) := by decide +kernel
theorem d_Model_step_1 : decode prog_10_method_12_code 1 = .ok (.getfield 35, 3) := by decide +kernel
theorem d_Model_step_4 : decode prog_10_method_12_code 4 = .ok (.aload_n 0, 1) := by decide +kernel
theorem d_Model_step_5 : decode prog_10_method_12_code 5 = .ok (.getfield 121, 3) := by decide +kernel
theorem d_Model_step_8 : decode prog_10_method_12_code 8 = .ok (.iload_n 1, 1) := by decide +kernel
theorem d_Model_step_9 : decode prog_10_method_12_code 9 = .ok (.iastore, 1) := by decide +kernel
theorem d_Model_step_10 : decode prog_10_method_12_code 10 = .ok (.aload_n 0, 1) := by decide +kernel
theorem d_Model_step_11 : decode prog_10_method_12_code 11 = .ok (.getfield 38, 3) := by decide +kernel
theorem d_Model_step_14 : decode prog_10_method_12_code 14 = .ok (.aload_n 0, 1) := by decide +kernel
theorem d_Model_step_15 : decode prog_10_method_12_code 15 = .ok (.getfield 121, 3) := by decide +kernel
theorem d_Model_step_18 : decode prog_10_method_12_code 18 = .ok (.lload_n 2, 1) := by decide +kernel
theorem d_Model_step_19 : decode prog_10_method_12_code 19 = .ok (.lastore, 1) := by decide +kernel
theorem d_Model_step_20 : decode prog_10_method_12_code 20 = .ok (.aload_n 0, 1) := by decide +kernel
theorem d_Model_step_21 : decode prog_10_method_12_code 21 = .ok (.dup, 1) := by decide +kernel
theorem d_Model_step_22 : decode prog_10_method_12_code 22 = .ok (.getfield 121, 3) := by decide +kernel
theorem d_Model_step_25 : decode prog_10_method_12_code 25 = .ok (.iconst 1, 1) := by decide +kernel
theorem d_Model_step_26 : decode prog_10_method_12_code 26 = .ok (.iadd, 1) := by decide +kernel
theorem d_Model_step_27 : decode prog_10_method_12_code 27 = .ok (.putfield 121, 3) := by decide +kernel
theorem d_Model_step_30 : decode prog_10_method_12_code 30 = .ok (.return_, 1) := by decide +kernel
abbrev y_Model_reduce : MethodName := ⟨"PermitRulesModel", "reduce", "(I)V"⟩
abbrev cw_Model_reduce : Cond := .code y_Model_reduce prog_10_method_14_code 2 none
theorem d_Model_reduce_0 : decode prog_10_method_14_code 0 = .ok (.aload_n 0, 1) := by decide +kernel
theorem d_Model_reduce_1 : decode prog_10_method_14_code 1 = .ok (.getfield 124, 3) := by decide +kernel
theorem d_Model_reduce_4 : decode prog_10_method_14_code 4 = .ok (.ifCond .le 48, 3) := by decide +kernel
theorem d_Model_reduce_7 : decode prog_10_method_14_code 7 = .ok (.aload_n 0, 1) := by decide +kernel
theorem d_Model_reduce_8 : decode prog_10_method_14_code 8 = .ok (.getfield 41, 3) := by decide +kernel
theorem d_Model_reduce_11 : decode prog_10_method_14_code 11 = .ok (.aload_n 0, 1) := by decide +kernel
theorem d_Model_reduce_12 : decode prog_10_method_14_code 12 = .ok (.getfield 124, 3) := by decide +kernel
theorem d_Model_reduce_15 : decode prog_10_method_14_code 15 = .ok (.iconst 1, 1) := by decide +kernel
theorem d_Model_reduce_16 : decode prog_10_method_14_code 16 = .ok (.isub, 1) := by decide +kernel
theorem d_Model_reduce_17 : decode prog_10_method_14_code 17 = .ok (.iaload, 1) := by decide +kernel
theorem d_Model_reduce_18 : decode prog_10_method_14_code 18 = .ok (.invokestatic 127, 3) := by decide +kernel
theorem d_Model_reduce_21 : decode prog_10_method_14_code 21 = .ok (.iload_n 1, 1) := by decide +kernel
theorem d_Model_reduce_22 : decode prog_10_method_14_code 22 = .ok (.if_icmp .lt 30, 3) := by decide +kernel
theorem d_Model_reduce_25 : decode prog_10_method_14_code 25 = .ok (.aload_n 0, 1) := by decide +kernel
theorem d_Model_reduce_26 : decode prog_10_method_14_code 26 = .ok (.dup, 1) := by decide +kernel
theorem d_Model_reduce_27 : decode prog_10_method_14_code 27 = .ok (.getfield 124, 3) := by decide +kernel
theorem d_Model_reduce_30 : decode prog_10_method_14_code 30 = .ok (.iconst 1, 1) := by decide +kernel
theorem d_Model_reduce_31 : decode prog_10_method_14_code 31 = .ok (.isub, 1) := by decide +kernel
theorem d_Model_reduce_32 : decode prog_10_method_14_code 32 = .ok (.putfield 124, 3) := by decide +kernel
theorem d_Model_reduce_35 : decode prog_10_method_14_code 35 = .ok (.aload_n 0, 1) := by decide +kernel
theorem d_Model_reduce_36 : decode prog_10_method_14_code 36 = .ok (.aload_n 0, 1) := by decide +kernel
theorem d_Model_reduce_37 : decode prog_10_method_14_code 37 = .ok (.getfield 41, 3) := by decide +kernel
theorem d_Model_reduce_40 : decode prog_10_method_14_code 40 = .ok (.aload_n 0, 1) := by decide +kernel
theorem d_Model_reduce_41 : decode prog_10_method_14_code 41 = .ok (.getfield 124, 3) := by decide +kernel
theorem d_Model_reduce_44 : decode prog_10_method_14_code 44 = .ok (.iaload, 1) := by decide +kernel
theorem d_Model_reduce_45 : decode prog_10_method_14_code 45 = .ok (.lconst 0, 1) := by decide +kernel
theorem d_Model_reduce_46 : decode prog_10_method_14_code 46 = .ok (.invokevirtual 130, 3) := by decide +kernel
theorem d_Model_reduce_49 : decode prog_10_method_14_code 49 = .ok (.goto (-49), 3) := by decide +kernel
theorem d_Model_reduce_52 : decode prog_10_method_14_code 52 = .ok (.return_, 1) := by decide +kernel
abbrev y_Model_push : MethodName := ⟨"PermitRulesModel", "push", "(I)V"⟩
abbrev cw_Model_push : Cond := .code y_Model_push prog_10_method_15_code 2 none
theorem d_Model_push_0 : decode prog_10_method_15_code 0 = .ok (.aload_n 0, 1) := by decide +kernel
theorem d_Model_push_1 : decode prog_10_method_15_code 1 = .ok (.getfield 41, 3) := by decide +kernel
theorem d_Model_push_4 : decode prog_10_method_15_code 4 = .ok (.aload_n 0, 1) := by decide +kernel
theorem d_Model_push_5 : decode prog_10_method_15_code 5 = .ok (.getfield 124, 3) := by decide +kernel
theorem d_Model_push_8 : decode prog_10_method_15_code 8 = .ok (.iload_n 1, 1) := by decide +kernel
theorem d_Model_push_9 : decode prog_10_method_15_code 9 = .ok (.iastore, 1) := by decide +kernel
theorem d_Model_push_10 : decode prog_10_method_15_code 10 = .ok (.aload_n 0, 1) := by decide +kernel
theorem d_Model_push_11 : decode prog_10_method_15_code 11 = .ok (.dup, 1) := by decide +kernel
theorem d_Model_push_12 : decode prog_10_method_15_code 12 = .ok (.getfield 124, 3) := by decide +kernel
theorem d_Model_push_15 : decode prog_10_method_15_code 15 = .ok (.iconst 1, 1) := by decide +kernel
theorem d_Model_push_16 : decode prog_10_method_15_code 16 = .ok (.iadd, 1) := by decide +kernel
theorem d_Model_push_17 : decode prog_10_method_15_code 17 = .ok (.putfield 124, 3) := by decide +kernel
theorem d_Model_push_20 : decode prog_10_method_15_code 20 = .ok (.return_, 1) := by decide +kernel
abbrev y_Model_isTaken : MethodName := ⟨"PermitRulesModel", "isTaken", "(J)Z"⟩
abbrev cw_Model_isTaken : Cond := .code y_Model_isTaken prog_10_method_16_code 5 (some .boolean)
theorem d_Model_isTaken_0 : decode prog_10_method_16_code 0 = .ok (.iconst 0, 1) := by decide +kernel
theorem d_Model_isTaken_1 : decode prog_10_method_16_code 1 = .ok (.istore_n 3, 1) := by decide +kernel
theorem d_Model_isTaken_2 : decode prog_10_method_16_code 2 = .ok (.iconst 0, 1) := by decide +kernel
theorem d_Model_isTaken_3 : decode prog_10_method_16_code 3 = .ok (.istore 4, 2) := by decide +kernel
theorem d_Model_isTaken_5 : decode prog_10_method_16_code 5 = .ok (.iload 4, 2) := by decide +kernel
theorem d_Model_isTaken_7 : decode prog_10_method_16_code 7 = .ok (.aload_n 0, 1) := by decide +kernel
theorem d_Model_isTaken_8 : decode prog_10_method_16_code 8 = .ok (.getfield 134, 3) := by decide +kernel
theorem d_Model_isTaken_11 : decode prog_10_method_16_code 11 = .ok (.if_icmp .ge 31, 3) := by decide +kernel
theorem d_Model_isTaken_14 : decode prog_10_method_16_code 14 = .ok (.iload_n 3, 1) := by decide +kernel
theorem d_Model_isTaken_15 : decode prog_10_method_16_code 15 = .ok (.ifCond .ne 15, 3) := by decide +kernel
theorem d_Model_isTaken_18 : decode prog_10_method_16_code 18 = .ok (.aload_n 0, 1) := by decide +kernel
theorem d_Model_isTaken_19 : decode prog_10_method_16_code 19 = .ok (.getfield 13, 3) := by decide +kernel
theorem d_Model_isTaken_22 : decode prog_10_method_16_code 22 = .ok (.iload 4, 2) := by decide +kernel
theorem d_Model_isTaken_24 : decode prog_10_method_16_code 24 = .ok (.laload, 1) := by decide +kernel
theorem d_Model_isTaken_25 : decode prog_10_method_16_code 25 = .ok (.lload_n 1, 1) := by decide +kernel
theorem d_Model_isTaken_26 : decode prog_10_method_16_code 26 = .ok (.lcmp, 1) := by decide +kernel
theorem d_Model_isTaken_27 : decode prog_10_method_16_code 27 = .ok (.ifCond .ne 7, 3) := by decide +kernel
theorem d_Model_isTaken_30 : decode prog_10_method_16_code 30 = .ok (.iconst 1, 1) := by decide +kernel
theorem d_Model_isTaken_31 : decode prog_10_method_16_code 31 = .ok (.goto 4, 3) := by decide +kernel
theorem d_Model_isTaken_34 : decode prog_10_method_16_code 34 = .ok (.iconst 0, 1) := by decide +kernel
theorem d_Model_isTaken_35 : decode prog_10_method_16_code 35 = .ok (.istore_n 3, 1) := by decide +kernel
theorem d_Model_isTaken_36 : decode prog_10_method_16_code 36 = .ok (.iinc 4 1, 3) := by decide +kernel
theorem d_Model_isTaken_39 : decode prog_10_method_16_code 39 = .ok (.goto (-34), 3) := by decide +kernel
theorem d_Model_isTaken_42 : decode prog_10_method_16_code 42 = .ok (.iload_n 3, 1) := by decide +kernel
theorem d_Model_isTaken_43 : decode prog_10_method_16_code 43 = .ok (.ireturn, 1) := by decide +kernel
