abbrev y_PR_byteAt : MethodName := ⟨"PermitRules", "byteAt", "(JI)I"⟩
abbrev cw_PR_byteAt : Cond := .code y_PR_byteAt prog_1_method_17_code 3 (some .int)
theorem d_PR_byteAt_0 : decode prog_1_method_17_code 0 = .ok (.lload_n 0, 1) := by decide +kernel
theorem d_PR_byteAt_1 : decode prog_1_method_17_code 1 = .ok (.iload_n 2, 1) := by decide +kernel
theorem d_PR_byteAt_2 : decode prog_1_method_17_code 2 = .ok (.lushr, 1) := by decide +kernel
theorem d_PR_byteAt_3 : decode prog_1_method_17_code 3 = .ok (.l2i, 1) := by decide +kernel
theorem d_PR_byteAt_4 : decode prog_1_method_17_code 4 = .ok (.sipush 255, 3) := by decide +kernel
theorem d_PR_byteAt_7 : decode prog_1_method_17_code 7 = .ok (.iand, 1) := by decide +kernel
theorem d_PR_byteAt_8 : decode prog_1_method_17_code 8 = .ok (.ireturn, 1) := by decide +kernel
abbrev y_PR_isLetter : MethodName := ⟨"PermitRules", "isLetter", "(I)Z"⟩
abbrev cw_PR_isLetter : Cond := .code y_PR_isLetter prog_1_method_21_code 1 (some .boolean)
theorem d_PR_isLetter_0 : decode prog_1_method_21_code 0 = .ok (.iload_n 0, 1) := by decide +kernel
theorem d_PR_isLetter_1 : decode prog_1_method_21_code 1 = .ok (.bipush 97, 2) := by decide +kernel
theorem d_PR_isLetter_3 : decode prog_1_method_21_code 3 = .ok (.if_icmp .lt 13, 3) := by decide +kernel
theorem d_PR_isLetter_6 : decode prog_1_method_21_code 6 = .ok (.iload_n 0, 1) := by decide +kernel
theorem d_PR_isLetter_7 : decode prog_1_method_21_code 7 = .ok (.bipush 122, 2) := by decide +kernel
theorem d_PR_isLetter_9 : decode prog_1_method_21_code 9 = .ok (.if_icmp .gt 7, 3) := by decide +kernel
theorem d_PR_isLetter_12 : decode prog_1_method_21_code 12 = .ok (.iconst 1, 1) := by decide +kernel
theorem d_PR_isLetter_13 : decode prog_1_method_21_code 13 = .ok (.goto 4, 3) := by decide +kernel
theorem d_PR_isLetter_16 : decode prog_1_method_21_code 16 = .ok (.iconst 0, 1) := by decide +kernel
theorem d_PR_isLetter_17 : decode prog_1_method_21_code 17 = .ok (.ireturn, 1) := by decide +kernel
abbrev y_PR_isDigit : MethodName := ⟨"PermitRules", "isDigit", "(I)Z"⟩
abbrev cw_PR_isDigit : Cond := .code y_PR_isDigit prog_1_method_22_code 1 (some .boolean)
theorem d_PR_isDigit_0 : decode prog_1_method_22_code 0 = .ok (.iload_n 0, 1) := by decide +kernel
theorem d_PR_isDigit_1 : decode prog_1_method_22_code 1 = .ok (.bipush 48, 2) := by decide +kernel
theorem d_PR_isDigit_3 : decode prog_1_method_22_code 3 = .ok (.if_icmp .lt 13, 3) := by decide +kernel
theorem d_PR_isDigit_6 : decode prog_1_method_22_code 6 = .ok (.iload_n 0, 1) := by decide +kernel
theorem d_PR_isDigit_7 : decode prog_1_method_22_code 7 = .ok (.bipush 57, 2) := by decide +kernel
theorem d_PR_isDigit_9 : decode prog_1_method_22_code 9 = .ok (.if_icmp .gt 7, 3) := by decide +kernel
theorem d_PR_isDigit_12 : decode prog_1_method_22_code 12 = .ok (.iconst 1, 1) := by decide +kernel
theorem d_PR_isDigit_13 : decode prog_1_method_22_code 13 = .ok (.goto 4, 3) := by decide +kernel
theorem d_PR_isDigit_16 : decode prog_1_method_22_code 16 = .ok (.iconst 0, 1) := by decide +kernel
theorem d_PR_isDigit_17 : decode prog_1_method_22_code 17 = .ok (.ireturn, 1) := by decide +kernel
abbrev y_PR_isValue : MethodName := ⟨"PermitRules", "isValue", "(I)Z"⟩
abbrev cw_PR_isValue : Cond := .code y_PR_isValue prog_1_method_20_code 1 (some .boolean)
theorem d_PR_isValue_0 : decode prog_1_method_20_code 0 = .ok (.iload_n 0, 1) := by decide +kernel
theorem d_PR_isValue_1 : decode prog_1_method_20_code 1 = .ok (.ldc 209, 2) := by decide +kernel
theorem d_PR_isValue_3 : decode prog_1_method_20_code 3 = .ok (.if_icmp .lt 13, 3) := by decide +kernel
theorem d_PR_isValue_6 : decode prog_1_method_20_code 6 = .ok (.iload_n 0, 1) := by decide +kernel
theorem d_PR_isValue_7 : decode prog_1_method_20_code 7 = .ok (.ldc 210, 2) := by decide +kernel
theorem d_PR_isValue_9 : decode prog_1_method_20_code 9 = .ok (.if_icmp .gt 7, 3) := by decide +kernel
theorem d_PR_isValue_12 : decode prog_1_method_20_code 12 = .ok (.iconst 1, 1) := by decide +kernel
theorem d_PR_isValue_13 : decode prog_1_method_20_code 13 = .ok (.goto 4, 3) := by decide +kernel
theorem d_PR_isValue_16 : decode prog_1_method_20_code 16 = .ok (.iconst 0, 1) := by decide +kernel
theorem d_PR_isValue_17 : decode prog_1_method_20_code 17 = .ok (.ireturn, 1) := by decide +kernel
abbrev y_Text_at : MethodName := ⟨"PermitRules$Text", "at", "(I)I"⟩
abbrev cw_Text_at : Cond := .code y_Text_at prog_7_method_2_code 2 (some .int)
theorem d_Text_at_0 : decode prog_7_method_2_code 0 = .ok (.iload_n 1, 1) := by decide +kernel
theorem d_Text_at_1 : decode prog_7_method_2_code 1 = .ok (.ifCond .lt 29, 3) := by decide +kernel
theorem d_Text_at_4 : decode prog_7_method_2_code 4 = .ok (.iload_n 1, 1) := by decide +kernel
theorem d_Text_at_5 : decode prog_7_method_2_code 5 = .ok (.aload_n 0, 1) := by decide +kernel
theorem d_Text_at_6 : decode prog_7_method_2_code 6 = .ok (.getfield 15, 3) := by decide +kernel
theorem d_Text_at_9 : decode prog_7_method_2_code 9 = .ok (.if_icmp .ge 21, 3) := by decide +kernel
theorem d_Text_at_12 : decode prog_7_method_2_code 12 = .ok (.iload_n 1, 1) := by decide +kernel
theorem d_Text_at_13 : decode prog_7_method_2_code 13 = .ok (.aload_n 0, 1) := by decide +kernel
theorem d_Text_at_14 : decode prog_7_method_2_code 14 = .ok (.getfield 9, 3) := by decide +kernel
theorem d_Text_at_17 : decode prog_7_method_2_code 17 = .ok (.arraylength, 1) := by decide +kernel
theorem d_Text_at_18 : decode prog_7_method_2_code 18 = .ok (.if_icmp .ge 12, 3) := by decide +kernel
theorem d_Text_at_21 : decode prog_7_method_2_code 21 = .ok (.aload_n 0, 1) := by decide +kernel
theorem d_Text_at_22 : decode prog_7_method_2_code 22 = .ok (.getfield 9, 3) := by decide +kernel
theorem d_Text_at_25 : decode prog_7_method_2_code 25 = .ok (.iload_n 1, 1) := by decide +kernel
theorem d_Text_at_26 : decode prog_7_method_2_code 26 = .ok (.baload, 1) := by decide +kernel
theorem d_Text_at_27 : decode prog_7_method_2_code 27 = .ok (.goto 4, 3) := by decide +kernel
theorem d_Text_at_30 : decode prog_7_method_2_code 30 = .ok (.iconst 0, 1) := by decide +kernel
theorem d_Text_at_31 : decode prog_7_method_2_code 31 = .ok (.ireturn, 1) := by decide +kernel
abbrev y_Text_append : MethodName := ⟨"PermitRules$Text", "append", "(I)V"⟩
abbrev cw_Text_append : Cond := .code y_Text_append prog_7_method_3_code 2 none
theorem d_Text_append_0 : decode prog_7_method_3_code 0 = .ok (.aload_n 0, 1) := by decide +kernel
theorem d_Text_append_1 : decode prog_7_method_3_code 1 = .ok (.getfield 15, 3) := by decide +kernel
theorem d_Text_append_4 : decode prog_7_method_3_code 4 = .ok (.ifCond .lt 36, 3) := by decide +kernel
theorem d_Text_append_7 : decode prog_7_method_3_code 7 = .ok (.aload_n 0, 1) := by decide +kernel
theorem d_Text_append_8 : decode prog_7_method_3_code 8 = .ok (.getfield 15, 3) := by decide +kernel
theorem d_Text_append_11 : decode prog_7_method_3_code 11 = .ok (.aload_n 0, 1) := by decide +kernel
theorem d_Text_append_12 : decode prog_7_method_3_code 12 = .ok (.getfield 9, 3) := by decide +kernel
theorem d_Text_append_15 : decode prog_7_method_3_code 15 = .ok (.arraylength, 1) := by decide +kernel
theorem d_Text_append_16 : decode prog_7_method_3_code 16 = .ok (.if_icmp .ge 24, 3) := by decide +kernel
theorem d_Text_append_19 : decode prog_7_method_3_code 19 = .ok (.aload_n 0, 1) := by decide +kernel
theorem d_Text_append_20 : decode prog_7_method_3_code 20 = .ok (.getfield 9, 3) := by decide +kernel
theorem d_Text_append_23 : decode prog_7_method_3_code 23 = .ok (.aload_n 0, 1) := by decide +kernel
theorem d_Text_append_24 : decode prog_7_method_3_code 24 = .ok (.getfield 15, 3) := by decide +kernel
theorem d_Text_append_27 : decode prog_7_method_3_code 27 = .ok (.iload_n 1, 1) := by decide +kernel
theorem d_Text_append_28 : decode prog_7_method_3_code 28 = .ok (.i2b, 1) := by decide +kernel
theorem d_Text_append_29 : decode prog_7_method_3_code 29 = .ok (.bastore, 1) := by decide +kernel
theorem d_Text_append_30 : decode prog_7_method_3_code 30 = .ok (.aload_n 0, 1) := by decide +kernel
theorem d_Text_append_31 : decode prog_7_method_3_code 31 = .ok (.dup, 1) := by decide +kernel
theorem d_Text_append_32 : decode prog_7_method_3_code 32 = .ok (.getfield 15, 3) := by decide +kernel
theorem d_Text_append_35 : decode prog_7_method_3_code 35 = .ok (.iconst 1, 1) := by decide +kernel
theorem d_Text_append_36 : decode prog_7_method_3_code 36 = .ok (.iadd, 1) := by decide +kernel
theorem d_Text_append_37 : decode prog_7_method_3_code 37 = .ok (.putfield 15, 3) := by decide +kernel
theorem d_Text_append_40 : decode prog_7_method_3_code 40 = .ok (.return_, 1) := by decide +kernel
abbrev y_Facts_find : MethodName := ⟨"PermitRules$Facts", "find", "(J)I"⟩
abbrev cw_Facts_find : Cond := .code y_Facts_find prog_3_method_2_code 4 (some .int)
theorem d_Facts_find_0 : decode prog_3_method_2_code 0 = .ok (.iconst 0, 1) := by decide +kernel
theorem d_Facts_find_1 : decode prog_3_method_2_code 1 = .ok (.istore_n 3, 1) := by decide +kernel
theorem d_Facts_find_2 : decode prog_3_method_2_code 2 = .ok (.iload_n 3, 1) := by decide +kernel
theorem d_Facts_find_3 : decode prog_3_method_2_code 3 = .ok (.aload_n 0, 1) := by decide +kernel
theorem d_Facts_find_4 : decode prog_3_method_2_code 4 = .ok (.getfield 19, 3) := by decide +kernel
theorem d_Facts_find_7 : decode prog_3_method_2_code 7 = .ok (.if_icmp .ge 31, 3) := by decide +kernel
theorem d_Facts_find_10 : decode prog_3_method_2_code 10 = .ok (.iload_n 3, 1) := by decide +kernel
theorem d_Facts_find_11 : decode prog_3_method_2_code 11 = .ok (.aload_n 0, 1) := by decide +kernel
theorem d_Facts_find_12 : decode prog_3_method_2_code 12 = .ok (.getfield 9, 3) := by decide +kernel
theorem d_Facts_find_15 : decode prog_3_method_2_code 15 = .ok (.arraylength, 1) := by decide +kernel
theorem d_Facts_find_16 : decode prog_3_method_2_code 16 = .ok (.if_icmp .ge 22, 3) := by decide +kernel
theorem d_Facts_find_19 : decode prog_3_method_2_code 19 = .ok (.aload_n 0, 1) := by decide +kernel
theorem d_Facts_find_20 : decode prog_3_method_2_code 20 = .ok (.getfield 9, 3) := by decide +kernel
theorem d_Facts_find_23 : decode prog_3_method_2_code 23 = .ok (.iload_n 3, 1) := by decide +kernel
theorem d_Facts_find_24 : decode prog_3_method_2_code 24 = .ok (.laload, 1) := by decide +kernel
theorem d_Facts_find_25 : decode prog_3_method_2_code 25 = .ok (.lload_n 1, 1) := by decide +kernel
theorem d_Facts_find_26 : decode prog_3_method_2_code 26 = .ok (.lcmp, 1) := by decide +kernel
theorem d_Facts_find_27 : decode prog_3_method_2_code 27 = .ok (.ifCond .ne 5, 3) := by decide +kernel
theorem d_Facts_find_30 : decode prog_3_method_2_code 30 = .ok (.iload_n 3, 1) := by decide +kernel
theorem d_Facts_find_31 : decode prog_3_method_2_code 31 = .ok (.ireturn, 1) := by decide +kernel
theorem d_Facts_find_32 : decode prog_3_method_2_code 32 = .ok (.iinc 3 1, 3) := by decide +kernel
theorem d_Facts_find_35 : decode prog_3_method_2_code 35 = .ok (.goto (-33), 3) := by decide +kernel
theorem d_Facts_find_38 : decode prog_3_method_2_code 38 = .ok (.iconst (-1), 1) := by decide +kernel
theorem d_Facts_find_39 : decode prog_3_method_2_code 39 = .ok (.ireturn, 1) := by decide +kernel
abbrev y_Facts_valueAt : MethodName := ⟨"PermitRules$Facts", "valueAt", "(I)I"⟩
abbrev cw_Facts_valueAt : Cond := .code y_Facts_valueAt prog_3_method_3_code 2 (some .int)
theorem d_Facts_valueAt_0 : decode prog_3_method_3_code 0 = .ok (.iload_n 1, 1) := by decide +kernel
theorem d_Facts_valueAt_1 : decode prog_3_method_3_code 1 = .ok (.ifCond .lt 21, 3) := by decide +kernel
theorem d_Facts_valueAt_4 : decode prog_3_method_3_code 4 = .ok (.iload_n 1, 1) := by decide +kernel
theorem d_Facts_valueAt_5 : decode prog_3_method_3_code 5 = .ok (.aload_n 0, 1) := by decide +kernel
theorem d_Facts_valueAt_6 : decode prog_3_method_3_code 6 = .ok (.getfield 15, 3) := by decide +kernel
theorem d_Facts_valueAt_9 : decode prog_3_method_3_code 9 = .ok (.arraylength, 1) := by decide +kernel
theorem d_Facts_valueAt_10 : decode prog_3_method_3_code 10 = .ok (.if_icmp .ge 12, 3) := by decide +kernel
theorem d_Facts_valueAt_13 : decode prog_3_method_3_code 13 = .ok (.aload_n 0, 1) := by decide +kernel
theorem d_Facts_valueAt_14 : decode prog_3_method_3_code 14 = .ok (.getfield 15, 3) := by decide +kernel
theorem d_Facts_valueAt_17 : decode prog_3_method_3_code 17 = .ok (.iload_n 1, 1) := by decide +kernel
theorem d_Facts_valueAt_18 : decode prog_3_method_3_code 18 = .ok (.iaload, 1) := by decide +kernel
theorem d_Facts_valueAt_19 : decode prog_3_method_3_code 19 = .ok (.goto 4, 3) := by decide +kernel
theorem d_Facts_valueAt_22 : decode prog_3_method_3_code 22 = .ok (.iconst 0, 1) := by decide +kernel
theorem d_Facts_valueAt_23 : decode prog_3_method_3_code 23 = .ok (.ireturn, 1) := by decide +kernel
abbrev y_Facts_change : MethodName := ⟨"PermitRules$Facts", "change", "(II)V"⟩
abbrev cw_Facts_change : Cond := .code y_Facts_change prog_3_method_4_code 3 none
theorem d_Facts_change_0 : decode prog_3_method_4_code 0 = .ok (.iload_n 1, 1) := by decide +kernel
theorem d_Facts_change_1 : decode prog_3_method_4_code 1 = .ok (.ifCond .lt 19, 3) := by decide +kernel
theorem d_Facts_change_4 : decode prog_3_method_4_code 4 = .ok (.iload_n 1, 1) := by decide +kernel
theorem d_Facts_change_5 : decode prog_3_method_4_code 5 = .ok (.aload_n 0, 1) := by decide +kernel
theorem d_Facts_change_6 : decode prog_3_method_4_code 6 = .ok (.getfield 15, 3) := by decide +kernel
theorem d_Facts_change_9 : decode prog_3_method_4_code 9 = .ok (.arraylength, 1) := by decide +kernel
theorem d_Facts_change_10 : decode prog_3_method_4_code 10 = .ok (.if_icmp .ge 10, 3) := by decide +kernel
theorem d_Facts_change_13 : decode prog_3_method_4_code 13 = .ok (.aload_n 0, 1) := by decide +kernel
theorem d_Facts_change_14 : decode prog_3_method_4_code 14 = .ok (.getfield 15, 3) := by decide +kernel
theorem d_Facts_change_17 : decode prog_3_method_4_code 17 = .ok (.iload_n 1, 1) := by decide +kernel
theorem d_Facts_change_18 : decode prog_3_method_4_code 18 = .ok (.iload_n 2, 1) := by decide +kernel
theorem d_Facts_change_19 : decode prog_3_method_4_code 19 = .ok (.iastore, 1) := by decide +kernel
theorem d_Facts_change_20 : decode prog_3_method_4_code 20 = .ok (.return_, 1) := by decide +kernel
abbrev y_Facts_add : MethodName := ⟨"PermitRules$Facts", "add", "(JI)V"⟩
abbrev cw_Facts_add : Cond := .code y_Facts_add prog_3_method_5_code 4 none
theorem d_Facts_add_0 : decode prog_3_method_5_code 0 = .ok (.aload_n 0, 1) := by decide +kernel
theorem d_Facts_add_1 : decode prog_3_method_5_code 1 = .ok (.getfield 19, 3) := by decide +kernel
theorem d_Facts_add_4 : decode prog_3_method_5_code 4 = .ok (.ifCond .lt 57, 3) := by decide +kernel
theorem d_Facts_add_7 : decode prog_3_method_5_code 7 = .ok (.aload_n 0, 1) := by decide +kernel
theorem d_Facts_add_8 : decode prog_3_method_5_code 8 = .ok (.getfield 19, 3) := by decide +kernel
theorem d_Facts_add_11 : decode prog_3_method_5_code 11 = .ok (.aload_n 0, 1) := by decide +kernel
theorem d_Facts_add_12 : decode prog_3_method_5_code 12 = .ok (.getfield 9, 3) := by decide +kernel
theorem d_Facts_add_15 : decode prog_3_method_5_code 15 = .ok (.arraylength, 1) := by decide +kernel
theorem d_Facts_add_16 : decode prog_3_method_5_code 16 = .ok (.if_icmp .ge 45, 3) := by decide +kernel
theorem d_Facts_add_19 : decode prog_3_method_5_code 19 = .ok (.aload_n 0, 1) := by decide +kernel
theorem d_Facts_add_20 : decode prog_3_method_5_code 20 = .ok (.getfield 19, 3) := by decide +kernel
theorem d_Facts_add_23 : decode prog_3_method_5_code 23 = .ok (.aload_n 0, 1) := by decide +kernel
theorem d_Facts_add_24 : decode prog_3_method_5_code 24 = .ok (.getfield 15, 3) := by decide +kernel
theorem d_Facts_add_27 : decode prog_3_method_5_code 27 = .ok (.arraylength, 1) := by decide +kernel
theorem d_Facts_add_28 : decode prog_3_method_5_code 28 = .ok (.if_icmp .ge 33, 3) := by decide +kernel
theorem d_Facts_add_31 : decode prog_3_method_5_code 31 = .ok (.aload_n 0, 1) := by decide +kernel
theorem d_Facts_add_32 : decode prog_3_method_5_code 32 = .ok (.getfield 9, 3) := by decide +kernel
theorem d_Facts_add_35 : decode prog_3_method_5_code 35 = .ok (.aload_n 0, 1) := by decide +kernel
theorem d_Facts_add_36 : decode prog_3_method_5_code 36 = .ok (.getfield 19, 3) := by decide +kernel
theorem d_Facts_add_39 : decode prog_3_method_5_code 39 = .ok (.lload_n 1, 1) := by decide +kernel
theorem d_Facts_add_40 : decode prog_3_method_5_code 40 = .ok (.lastore, 1) := by decide +kernel
theorem d_Facts_add_41 : decode prog_3_method_5_code 41 = .ok (.aload_n 0, 1) := by decide +kernel
theorem d_Facts_add_42 : decode prog_3_method_5_code 42 = .ok (.getfield 15, 3) := by decide +kernel
theorem d_Facts_add_45 : decode prog_3_method_5_code 45 = .ok (.aload_n 0, 1) := by decide +kernel
theorem d_Facts_add_46 : decode prog_3_method_5_code 46 = .ok (.getfield 19, 3) := by decide +kernel
theorem d_Facts_add_49 : decode prog_3_method_5_code 49 = .ok (.iload_n 3, 1) := by decide +kernel
theorem d_Facts_add_50 : decode prog_3_method_5_code 50 = .ok (.iastore, 1) := by decide +kernel
theorem d_Facts_add_51 : decode prog_3_method_5_code 51 = .ok (.aload_n 0, 1) := by decide +kernel
theorem d_Facts_add_52 : decode prog_3_method_5_code 52 = .ok (.dup, 1) := by decide +kernel
theorem d_Facts_add_53 : decode prog_3_method_5_code 53 = .ok (.getfield 19, 3) := by decide +kernel
theorem d_Facts_add_56 : decode prog_3_method_5_code 56 = .ok (.iconst 1, 1) := by decide +kernel
theorem d_Facts_add_57 : decode prog_3_method_5_code 57 = .ok (.iadd, 1) := by decide +kernel
theorem d_Facts_add_58 : decode prog_3_method_5_code 58 = .ok (.putfield 19, 3) := by decide +kernel
theorem d_Facts_add_61 : decode prog_3_method_5_code 61 = .ok (.return_, 1) := by decide +kernel
abbrev y_Facts_drop : MethodName := ⟨"PermitRules$Facts", "drop", "(I)V"⟩
abbrev cw_Facts_drop : Cond := .code y_Facts_drop prog_3_method_6_code 3 none
theorem d_Facts_drop_0 : decode prog_3_method_6_code 0 = .ok (.aload_n 0, 1) := by decide +kernel
theorem d_Facts_drop_1 : decode prog_3_method_6_code 1 = .ok (.getfield 19, 3) := by decide +kernel
theorem d_Facts_drop_4 : decode prog_3_method_6_code 4 = .ok (.iconst 1, 1) := by decide +kernel
theorem d_Facts_drop_5 : decode prog_3_method_6_code 5 = .ok (.isub, 1) := by decide +kernel
theorem d_Facts_drop_6 : decode prog_3_method_6_code 6 = .ok (.istore_n 2, 1) := by decide +kernel
theorem d_Facts_drop_7 : decode prog_3_method_6_code 7 = .ok (.iload_n 1, 1) := by decide +kernel
theorem d_Facts_drop_8 : decode prog_3_method_6_code 8 = .ok (.ifCond .lt 55, 3) := by decide +kernel
theorem d_Facts_drop_11 : decode prog_3_method_6_code 11 = .ok (.iload_n 1, 1) := by decide +kernel
theorem d_Facts_drop_12 : decode prog_3_method_6_code 12 = .ok (.iload_n 2, 1) := by decide +kernel
theorem d_Facts_drop_13 : decode prog_3_method_6_code 13 = .ok (.if_icmp .gt 50, 3) := by decide +kernel
theorem d_Facts_drop_16 : decode prog_3_method_6_code 16 = .ok (.iload_n 2, 1) := by decide +kernel
theorem d_Facts_drop_17 : decode prog_3_method_6_code 17 = .ok (.aload_n 0, 1) := by decide +kernel
theorem d_Facts_drop_18 : decode prog_3_method_6_code 18 = .ok (.getfield 9, 3) := by decide +kernel
theorem d_Facts_drop_21 : decode prog_3_method_6_code 21 = .ok (.arraylength, 1) := by decide +kernel
theorem d_Facts_drop_22 : decode prog_3_method_6_code 22 = .ok (.if_icmp .ge 41, 3) := by decide +kernel
theorem d_Facts_drop_25 : decode prog_3_method_6_code 25 = .ok (.iload_n 2, 1) := by decide +kernel
theorem d_Facts_drop_26 : decode prog_3_method_6_code 26 = .ok (.aload_n 0, 1) := by decide +kernel
theorem d_Facts_drop_27 : decode prog_3_method_6_code 27 = .ok (.getfield 15, 3) := by decide +kernel
theorem d_Facts_drop_30 : decode prog_3_method_6_code 30 = .ok (.arraylength, 1) := by decide +kernel
theorem d_Facts_drop_31 : decode prog_3_method_6_code 31 = .ok (.if_icmp .ge 32, 3) := by decide +kernel
theorem d_Facts_drop_34 : decode prog_3_method_6_code 34 = .ok (.aload_n 0, 1) := by decide +kernel
theorem d_Facts_drop_35 : decode prog_3_method_6_code 35 = .ok (.getfield 9, 3) := by decide +kernel
theorem d_Facts_drop_38 : decode prog_3_method_6_code 38 = .ok (.iload_n 1, 1) := by decide +kernel
theorem d_Facts_drop_39 : decode prog_3_method_6_code 39 = .ok (.aload_n 0, 1) := by decide +kernel
theorem d_Facts_drop_40 : decode prog_3_method_6_code 40 = .ok (.getfield 9, 3) := by decide +kernel
theorem d_Facts_drop_43 : decode prog_3_method_6_code 43 = .ok (.iload_n 2, 1) := by decide +kernel
theorem d_Facts_drop_44 : decode prog_3_method_6_code 44 = .ok (.laload, 1) := by decide +kernel
theorem d_Facts_drop_45 : decode prog_3_method_6_code 45 = .ok (.lastore, 1) := by decide +kernel
theorem d_Facts_drop_46 : decode prog_3_method_6_code 46 = .ok (.aload_n 0, 1) := by decide +kernel
theorem d_Facts_drop_47 : decode prog_3_method_6_code 47 = .ok (.getfield 15, 3) := by decide +kernel
theorem d_Facts_drop_50 : decode prog_3_method_6_code 50 = .ok (.iload_n 1, 1) := by decide +kernel
theorem d_Facts_drop_51 : decode prog_3_method_6_code 51 = .ok (.aload_n 0, 1) := by decide +kernel
theorem d_Facts_drop_52 : decode prog_3_method_6_code 52 = .ok (.getfield 15, 3) := by decide +kernel
theorem d_Facts_drop_55 : decode prog_3_method_6_code 55 = .ok (.iload_n 2, 1) := by decide +kernel
theorem d_Facts_drop_56 : decode prog_3_method_6_code 56 = .ok (.iaload, 1) := by decide +kernel
theorem d_Facts_drop_57 : decode prog_3_method_6_code 57 = .ok (.iastore, 1) := by decide +kernel
theorem d_Facts_drop_58 : decode prog_3_method_6_code 58 = .ok (.aload_n 0, 1) := by decide +kernel
theorem d_Facts_drop_59 : decode prog_3_method_6_code 59 = .ok (.iload_n 2, 1) := by decide +kernel
theorem d_Facts_drop_60 : decode prog_3_method_6_code 60 = .ok (.putfield 19, 3) := by decide +kernel
theorem d_Facts_drop_63 : decode prog_3_method_6_code 63 = .ok (.return_, 1) := by decide +kernel
abbrev y_Book_empty : MethodName := ⟨"PermitRules$Book", "empty", "()V"⟩
abbrev cw_Book_empty : Cond := .code y_Book_empty prog_2_method_2_code 1 none
theorem d_Book_empty_0 : decode prog_2_method_2_code 0 = .ok (.aload_n 0, 1) := by decide +kernel
theorem d_Book_empty_1 : decode prog_2_method_2_code 1 = .ok (.iconst 0, 1) := by decide +kernel
theorem d_Book_empty_2 : decode prog_2_method_2_code 2 = .ok (.putfield 22, 3) := by decide +kernel
theorem d_Book_empty_5 : decode prog_2_method_2_code 5 = .ok (.aload_n 0, 1) := by decide +kernel
theorem d_Book_empty_6 : decode prog_2_method_2_code 6 = .ok (.iconst 0, 1) := by decide +kernel
theorem d_Book_empty_7 : decode prog_2_method_2_code 7 = .ok (.putfield 35, 3) := by decide +kernel
theorem d_Book_empty_10 : decode prog_2_method_2_code 10 = .ok (.aload_n 0, 1) := by decide +kernel
theorem d_Book_empty_11 : decode prog_2_method_2_code 11 = .ok (.iconst 0, 1) := by decide +kernel
theorem d_Book_empty_12 : decode prog_2_method_2_code 12 = .ok (.putfield 44, 3) := by decide +kernel
theorem d_Book_empty_15 : decode prog_2_method_2_code 15 = .ok (.return_, 1) := by decide +kernel
abbrev y_Book_find : MethodName := ⟨"PermitRules$Book", "find", "(J)I"⟩
abbrev cw_Book_find : Cond := .code y_Book_find prog_2_method_3_code 4 (some .int)
theorem d_Book_find_0 : decode prog_2_method_3_code 0 = .ok (.iconst 0, 1) := by decide +kernel
theorem d_Book_find_1 : decode prog_2_method_3_code 1 = .ok (.istore_n 3, 1) := by decide +kernel
theorem d_Book_find_2 : decode prog_2_method_3_code 2 = .ok (.iload_n 3, 1) := by decide +kernel
theorem d_Book_find_3 : decode prog_2_method_3_code 3 = .ok (.aload_n 0, 1) := by decide +kernel
theorem d_Book_find_4 : decode prog_2_method_3_code 4 = .ok (.getfield 22, 3) := by decide +kernel
theorem d_Book_find_7 : decode prog_2_method_3_code 7 = .ok (.if_icmp .ge 31, 3) := by decide +kernel
theorem d_Book_find_10 : decode prog_2_method_3_code 10 = .ok (.iload_n 3, 1) := by decide +kernel
theorem d_Book_find_11 : decode prog_2_method_3_code 11 = .ok (.aload_n 0, 1) := by decide +kernel
theorem d_Book_find_12 : decode prog_2_method_3_code 12 = .ok (.getfield 9, 3) := by decide +kernel
theorem d_Book_find_15 : decode prog_2_method_3_code 15 = .ok (.arraylength, 1) := by decide +kernel
theorem d_Book_find_16 : decode prog_2_method_3_code 16 = .ok (.if_icmp .ge 22, 3) := by decide +kernel
theorem d_Book_find_19 : decode prog_2_method_3_code 19 = .ok (.aload_n 0, 1) := by decide +kernel
theorem d_Book_find_20 : decode prog_2_method_3_code 20 = .ok (.getfield 9, 3) := by decide +kernel
theorem d_Book_find_23 : decode prog_2_method_3_code 23 = .ok (.iload_n 3, 1) := by decide +kernel
theorem d_Book_find_24 : decode prog_2_method_3_code 24 = .ok (.laload, 1) := by decide +kernel
theorem d_Book_find_25 : decode prog_2_method_3_code 25 = .ok (.lload_n 1, 1) := by decide +kernel
theorem d_Book_find_26 : decode prog_2_method_3_code 26 = .ok (.lcmp, 1) := by decide +kernel
theorem d_Book_find_27 : decode prog_2_method_3_code 27 = .ok (.ifCond .ne 5, 3) := by decide +kernel
theorem d_Book_find_30 : decode prog_2_method_3_code 30 = .ok (.iload_n 3, 1) := by decide +kernel
theorem d_Book_find_31 : decode prog_2_method_3_code 31 = .ok (.ireturn, 1) := by decide +kernel
theorem d_Book_find_32 : decode prog_2_method_3_code 32 = .ok (.iinc 3 1, 3) := by decide +kernel
theorem d_Book_find_35 : decode prog_2_method_3_code 35 = .ok (.goto (-33), 3) := by decide +kernel
theorem d_Book_find_38 : decode prog_2_method_3_code 38 = .ok (.iconst (-1), 1) := by decide +kernel
theorem d_Book_find_39 : decode prog_2_method_3_code 39 = .ok (.ireturn, 1) := by decide +kernel
abbrev y_Book_hasRoomFor : MethodName := ⟨"PermitRules$Book", "hasRoomFor", "(J)Z"⟩
abbrev cw_Book_hasRoomFor : Cond := .code y_Book_hasRoomFor prog_2_method_4_code 3 (some .boolean)
theorem d_Book_hasRoomFor_0 : decode prog_2_method_4_code 0 = .ok (.aload_n 0, 1) := by decide +kernel
theorem d_Book_hasRoomFor_1 : decode prog_2_method_4_code 1 = .ok (.getfield 22, 3) := by decide +kernel
theorem d_Book_hasRoomFor_4 : decode prog_2_method_4_code 4 = .ok (.bipush 12, 2) := by decide +kernel
theorem d_Book_hasRoomFor_6 : decode prog_2_method_4_code 6 = .ok (.if_icmp .ge 16, 3) := by decide +kernel
theorem d_Book_hasRoomFor_9 : decode prog_2_method_4_code 9 = .ok (.aload_n 0, 1) := by decide +kernel
theorem d_Book_hasRoomFor_10 : decode prog_2_method_4_code 10 = .ok (.lload_n 1, 1) := by decide +kernel
theorem d_Book_hasRoomFor_11 : decode prog_2_method_4_code 11 = .ok (.invokevirtual 47, 3) := by decide +kernel
theorem d_Book_hasRoomFor_14 : decode prog_2_method_4_code 14 = .ok (.iconst (-1), 1) := by decide +kernel
theorem d_Book_hasRoomFor_15 : decode prog_2_method_4_code 15 = .ok (.if_icmp .ne 7, 3) := by decide +kernel
theorem d_Book_hasRoomFor_18 : decode prog_2_method_4_code 18 = .ok (.iconst 1, 1) := by decide +kernel
theorem d_Book_hasRoomFor_19 : decode prog_2_method_4_code 19 = .ok (.goto 4, 3) := by decide +kernel
theorem d_Book_hasRoomFor_22 : decode prog_2_method_4_code 22 = .ok (.iconst 0, 1) := by decide +kernel
theorem d_Book_hasRoomFor_23 : decode prog_2_method_4_code 23 = .ok (.ireturn, 1) := by decide +kernel
abbrev y_Book_addRule : MethodName := ⟨"PermitRules$Book", "addRule", "(JJ)V"⟩
abbrev cw_Book_addRule : Cond := .code y_Book_addRule prog_2_method_5_code 6 none
theorem d_Book_addRule_0 : decode prog_2_method_5_code 0 = .ok (.aload_n 0, 1) := by decide +kernel
theorem d_Book_addRule_1 : decode prog_2_method_5_code 1 = .ok (.getfield 22, 3) := by decide +kernel
theorem d_Book_addRule_4 : decode prog_2_method_5_code 4 = .ok (.istore 5, 2) := by decide +kernel
theorem d_Book_addRule_6 : decode prog_2_method_5_code 6 = .ok (.iload 5, 2) := by decide +kernel
theorem d_Book_addRule_8 : decode prog_2_method_5_code 8 = .ok (.ifCond .lt 70, 3) := by decide +kernel
theorem d_Book_addRule_11 : decode prog_2_method_5_code 11 = .ok (.iload 5, 2) := by decide +kernel
theorem d_Book_addRule_13 : decode prog_2_method_5_code 13 = .ok (.aload_n 0, 1) := by decide +kernel
theorem d_Book_addRule_14 : decode prog_2_method_5_code 14 = .ok (.getfield 9, 3) := by decide +kernel
theorem d_Book_addRule_17 : decode prog_2_method_5_code 17 = .ok (.arraylength, 1) := by decide +kernel
theorem d_Book_addRule_18 : decode prog_2_method_5_code 18 = .ok (.if_icmp .ge 60, 3) := by decide +kernel
theorem d_Book_addRule_21 : decode prog_2_method_5_code 21 = .ok (.iload 5, 2) := by decide +kernel
theorem d_Book_addRule_23 : decode prog_2_method_5_code 23 = .ok (.aload_n 0, 1) := by decide +kernel
theorem d_Book_addRule_24 : decode prog_2_method_5_code 24 = .ok (.getfield 15, 3) := by decide +kernel
theorem d_Book_addRule_27 : decode prog_2_method_5_code 27 = .ok (.arraylength, 1) := by decide +kernel
theorem d_Book_addRule_28 : decode prog_2_method_5_code 28 = .ok (.if_icmp .ge 50, 3) := by decide +kernel
theorem d_Book_addRule_31 : decode prog_2_method_5_code 31 = .ok (.iload 5, 2) := by decide +kernel
theorem d_Book_addRule_33 : decode prog_2_method_5_code 33 = .ok (.aload_n 0, 1) := by decide +kernel
theorem d_Book_addRule_34 : decode prog_2_method_5_code 34 = .ok (.getfield 18, 3) := by decide +kernel
theorem d_Book_addRule_37 : decode prog_2_method_5_code 37 = .ok (.arraylength, 1) := by decide +kernel
theorem d_Book_addRule_38 : decode prog_2_method_5_code 38 = .ok (.if_icmp .ge 40, 3) := by decide +kernel
theorem d_Book_addRule_41 : decode prog_2_method_5_code 41 = .ok (.aload_n 0, 1) := by decide +kernel
theorem d_Book_addRule_42 : decode prog_2_method_5_code 42 = .ok (.getfield 9, 3) := by decide +kernel
theorem d_Book_addRule_45 : decode prog_2_method_5_code 45 = .ok (.iload 5, 2) := by decide +kernel
theorem d_Book_addRule_47 : decode prog_2_method_5_code 47 = .ok (.lload_n 1, 1) := by decide +kernel
theorem d_Book_addRule_48 : decode prog_2_method_5_code 48 = .ok (.lastore, 1) := by decide +kernel
theorem d_Book_addRule_49 : decode prog_2_method_5_code 49 = .ok (.aload_n 0, 1) := by decide +kernel
theorem d_Book_addRule_50 : decode prog_2_method_5_code 50 = .ok (.getfield 15, 3) := by decide +kernel
theorem d_Book_addRule_53 : decode prog_2_method_5_code 53 = .ok (.iload 5, 2) := by decide +kernel
theorem d_Book_addRule_55 : decode prog_2_method_5_code 55 = .ok (.lload_n 3, 1) := by decide +kernel
theorem d_Book_addRule_56 : decode prog_2_method_5_code 56 = .ok (.lastore, 1) := by decide +kernel
theorem d_Book_addRule_57 : decode prog_2_method_5_code 57 = .ok (.aload_n 0, 1) := by decide +kernel
theorem d_Book_addRule_58 : decode prog_2_method_5_code 58 = .ok (.getfield 18, 3) := by decide +kernel
theorem d_Book_addRule_61 : decode prog_2_method_5_code 61 = .ok (.iload 5, 2) := by decide +kernel
theorem d_Book_addRule_63 : decode prog_2_method_5_code 63 = .ok (.aload_n 0, 1) := by decide +kernel
theorem d_Book_addRule_64 : decode prog_2_method_5_code 64 = .ok (.getfield 35, 3) := by decide +kernel
theorem d_Book_addRule_67 : decode prog_2_method_5_code 67 = .ok (.iastore, 1) := by decide +kernel
theorem d_Book_addRule_68 : decode prog_2_method_5_code 68 = .ok (.aload_n 0, 1) := by decide +kernel
theorem d_Book_addRule_69 : decode prog_2_method_5_code 69 = .ok (.dup, 1) := by decide +kernel
theorem d_Book_addRule_70 : decode prog_2_method_5_code 70 = .ok (.getfield 22, 3) := by decide +kernel
theorem d_Book_addRule_73 : decode prog_2_method_5_code 73 = .ok (.iconst 1, 1) := by decide +kernel
theorem d_Book_addRule_74 : decode prog_2_method_5_code 74 = .ok (.iadd, 1) := by decide +kernel
theorem d_Book_addRule_75 : decode prog_2_method_5_code 75 = .ok (.putfield 22, 3) := by decide +kernel
theorem d_Book_addRule_78 : decode prog_2_method_5_code 78 = .ok (.return_, 1) := by decide +kernel
abbrev y_Book_addClause : MethodName := ⟨"PermitRules$Book", "addClause", "(II)V"⟩
abbrev cw_Book_addClause : Cond := .code y_Book_addClause prog_2_method_6_code 4 none
theorem d_Book_addClause_0 : decode prog_2_method_6_code 0 = .ok (.aload_n 0, 1) := by decide +kernel
theorem d_Book_addClause_1 : decode prog_2_method_6_code 1 = .ok (.getfield 35, 3) := by decide +kernel
theorem d_Book_addClause_4 : decode prog_2_method_6_code 4 = .ok (.istore_n 3, 1) := by decide +kernel
theorem d_Book_addClause_5 : decode prog_2_method_6_code 5 = .ok (.iload_n 3, 1) := by decide +kernel
theorem d_Book_addClause_6 : decode prog_2_method_6_code 6 = .ok (.ifCond .lt 64, 3) := by decide +kernel
theorem d_Book_addClause_9 : decode prog_2_method_6_code 9 = .ok (.iload_n 3, 1) := by decide +kernel
theorem d_Book_addClause_10 : decode prog_2_method_6_code 10 = .ok (.aload_n 0, 1) := by decide +kernel
theorem d_Book_addClause_11 : decode prog_2_method_6_code 11 = .ok (.getfield 26, 3) := by decide +kernel
theorem d_Book_addClause_14 : decode prog_2_method_6_code 14 = .ok (.arraylength, 1) := by decide +kernel
theorem d_Book_addClause_15 : decode prog_2_method_6_code 15 = .ok (.if_icmp .ge 55, 3) := by decide +kernel
theorem d_Book_addClause_18 : decode prog_2_method_6_code 18 = .ok (.iload_n 3, 1) := by decide +kernel
theorem d_Book_addClause_19 : decode prog_2_method_6_code 19 = .ok (.aload_n 0, 1) := by decide +kernel
theorem d_Book_addClause_20 : decode prog_2_method_6_code 20 = .ok (.getfield 29, 3) := by decide +kernel
theorem d_Book_addClause_23 : decode prog_2_method_6_code 23 = .ok (.arraylength, 1) := by decide +kernel
theorem d_Book_addClause_24 : decode prog_2_method_6_code 24 = .ok (.if_icmp .ge 46, 3) := by decide +kernel
theorem d_Book_addClause_27 : decode prog_2_method_6_code 27 = .ok (.iload_n 3, 1) := by decide +kernel
theorem d_Book_addClause_28 : decode prog_2_method_6_code 28 = .ok (.aload_n 0, 1) := by decide +kernel
theorem d_Book_addClause_29 : decode prog_2_method_6_code 29 = .ok (.getfield 32, 3) := by decide +kernel
theorem d_Book_addClause_32 : decode prog_2_method_6_code 32 = .ok (.arraylength, 1) := by decide +kernel
theorem d_Book_addClause_33 : decode prog_2_method_6_code 33 = .ok (.if_icmp .ge 37, 3) := by decide +kernel
theorem d_Book_addClause_36 : decode prog_2_method_6_code 36 = .ok (.aload_n 0, 1) := by decide +kernel
theorem d_Book_addClause_37 : decode prog_2_method_6_code 37 = .ok (.getfield 26, 3) := by decide +kernel
theorem d_Book_addClause_40 : decode prog_2_method_6_code 40 = .ok (.iload_n 3, 1) := by decide +kernel
theorem d_Book_addClause_41 : decode prog_2_method_6_code 41 = .ok (.iload_n 1, 1) := by decide +kernel
theorem d_Book_addClause_42 : decode prog_2_method_6_code 42 = .ok (.iastore, 1) := by decide +kernel
theorem d_Book_addClause_43 : decode prog_2_method_6_code 43 = .ok (.aload_n 0, 1) := by decide +kernel
theorem d_Book_addClause_44 : decode prog_2_method_6_code 44 = .ok (.getfield 29, 3) := by decide +kernel
theorem d_Book_addClause_47 : decode prog_2_method_6_code 47 = .ok (.iload_n 3, 1) := by decide +kernel
theorem d_Book_addClause_48 : decode prog_2_method_6_code 48 = .ok (.iload_n 2, 1) := by decide +kernel
theorem d_Book_addClause_49 : decode prog_2_method_6_code 49 = .ok (.iastore, 1) := by decide +kernel
theorem d_Book_addClause_50 : decode prog_2_method_6_code 50 = .ok (.aload_n 0, 1) := by decide +kernel
theorem d_Book_addClause_51 : decode prog_2_method_6_code 51 = .ok (.getfield 32, 3) := by decide +kernel
theorem d_Book_addClause_54 : decode prog_2_method_6_code 54 = .ok (.iload_n 3, 1) := by decide +kernel
theorem d_Book_addClause_55 : decode prog_2_method_6_code 55 = .ok (.aload_n 0, 1) := by decide +kernel
theorem d_Book_addClause_56 : decode prog_2_method_6_code 56 = .ok (.getfield 44, 3) := by decide +kernel
theorem d_Book_addClause_59 : decode prog_2_method_6_code 59 = .ok (.iastore, 1) := by decide +kernel
theorem d_Book_addClause_60 : decode prog_2_method_6_code 60 = .ok (.aload_n 0, 1) := by decide +kernel
theorem d_Book_addClause_61 : decode prog_2_method_6_code 61 = .ok (.dup, 1) := by decide +kernel
theorem d_Book_addClause_62 : decode prog_2_method_6_code 62 = .ok (.getfield 35, 3) := by decide +kernel
theorem d_Book_addClause_65 : decode prog_2_method_6_code 65 = .ok (.iconst 1, 1) := by decide +kernel
theorem d_Book_addClause_66 : decode prog_2_method_6_code 66 = .ok (.iadd, 1) := by decide +kernel
theorem d_Book_addClause_67 : decode prog_2_method_6_code 67 = .ok (.putfield 35, 3) := by decide +kernel
theorem d_Book_addClause_70 : decode prog_2_method_6_code 70 = .ok (.return_, 1) := by decide +kernel
abbrev y_Book_addStep : MethodName := ⟨"PermitRules$Book", "addStep", "(IJ)V"⟩
abbrev cw_Book_addStep : Cond := .code y_Book_addStep prog_2_method_7_code 5 none
theorem d_Book_addStep_0 : decode prog_2_method_7_code 0 = .ok (.aload_n 0, 1) := by decide +kernel
theorem d_Book_addStep_1 : decode prog_2_method_7_code 1 = .ok (.getfield 44, 3) := by decide +kernel
theorem d_Book_addStep_4 : decode prog_2_method_7_code 4 = .ok (.istore 4, 2) := by decide +kernel
theorem d_Book_addStep_6 : decode prog_2_method_7_code 6 = .ok (.iload 4, 2) := by decide +kernel
theorem d_Book_addStep_8 : decode prog_2_method_7_code 8 = .ok (.ifCond .lt 49, 3) := by decide +kernel
theorem d_Book_addStep_11 : decode prog_2_method_7_code 11 = .ok (.iload 4, 2) := by decide +kernel
theorem d_Book_addStep_13 : decode prog_2_method_7_code 13 = .ok (.aload_n 0, 1) := by decide +kernel
theorem d_Book_addStep_14 : decode prog_2_method_7_code 14 = .ok (.getfield 38, 3) := by decide +kernel
theorem d_Book_addStep_17 : decode prog_2_method_7_code 17 = .ok (.arraylength, 1) := by decide +kernel
theorem d_Book_addStep_18 : decode prog_2_method_7_code 18 = .ok (.if_icmp .ge 39, 3) := by decide +kernel
theorem d_Book_addStep_21 : decode prog_2_method_7_code 21 = .ok (.iload 4, 2) := by decide +kernel
theorem d_Book_addStep_23 : decode prog_2_method_7_code 23 = .ok (.aload_n 0, 1) := by decide +kernel
theorem d_Book_addStep_24 : decode prog_2_method_7_code 24 = .ok (.getfield 41, 3) := by decide +kernel
theorem d_Book_addStep_27 : decode prog_2_method_7_code 27 = .ok (.arraylength, 1) := by decide +kernel
theorem d_Book_addStep_28 : decode prog_2_method_7_code 28 = .ok (.if_icmp .ge 29, 3) := by decide +kernel
theorem d_Book_addStep_31 : decode prog_2_method_7_code 31 = .ok (.aload_n 0, 1) := by decide +kernel
theorem d_Book_addStep_32 : decode prog_2_method_7_code 32 = .ok (.getfield 38, 3) := by decide +kernel
theorem d_Book_addStep_35 : decode prog_2_method_7_code 35 = .ok (.iload 4, 2) := by decide +kernel
theorem d_Book_addStep_37 : decode prog_2_method_7_code 37 = .ok (.iload_n 1, 1) := by decide +kernel
theorem d_Book_addStep_38 : decode prog_2_method_7_code 38 = .ok (.iastore, 1) := by decide +kernel
theorem d_Book_addStep_39 : decode prog_2_method_7_code 39 = .ok (.aload_n 0, 1) := by decide +kernel
theorem d_Book_addStep_40 : decode prog_2_method_7_code 40 = .ok (.getfield 41, 3) := by decide +kernel
theorem d_Book_addStep_43 : decode prog_2_method_7_code 43 = .ok (.iload 4, 2) := by decide +kernel
theorem d_Book_addStep_45 : decode prog_2_method_7_code 45 = .ok (.lload_n 2, 1) := by decide +kernel
theorem d_Book_addStep_46 : decode prog_2_method_7_code 46 = .ok (.lastore, 1) := by decide +kernel
theorem d_Book_addStep_47 : decode prog_2_method_7_code 47 = .ok (.aload_n 0, 1) := by decide +kernel
theorem d_Book_addStep_48 : decode prog_2_method_7_code 48 = .ok (.dup, 1) := by decide +kernel
theorem d_Book_addStep_49 : decode prog_2_method_7_code 49 = .ok (.getfield 44, 3) := by decide +kernel
theorem d_Book_addStep_52 : decode prog_2_method_7_code 52 = .ok (.iconst 1, 1) := by decide +kernel
theorem d_Book_addStep_53 : decode prog_2_method_7_code 53 = .ok (.iadd, 1) := by decide +kernel
theorem d_Book_addStep_54 : decode prog_2_method_7_code 54 = .ok (.putfield 44, 3) := by decide +kernel
theorem d_Book_addStep_57 : decode prog_2_method_7_code 57 = .ok (.return_, 1) := by decide +kernel
abbrev y_Book_dayOf : MethodName := ⟨"PermitRules$Book", "dayOf", "(I)J"⟩
abbrev cw_Book_dayOf : Cond := .code y_Book_dayOf prog_2_method_8_code 2 (some .long)
theorem d_Book_dayOf_0 : decode prog_2_method_8_code 0 = .ok (.iload_n 1, 1) := by decide +kernel
theorem d_Book_dayOf_1 : decode prog_2_method_8_code 1 = .ok (.ifCond .lt 21, 3) := by decide +kernel
theorem d_Book_dayOf_4 : decode prog_2_method_8_code 4 = .ok (.iload_n 1, 1) := by decide +kernel
theorem d_Book_dayOf_5 : decode prog_2_method_8_code 5 = .ok (.aload_n 0, 1) := by decide +kernel
theorem d_Book_dayOf_6 : decode prog_2_method_8_code 6 = .ok (.getfield 15, 3) := by decide +kernel
theorem d_Book_dayOf_9 : decode prog_2_method_8_code 9 = .ok (.arraylength, 1) := by decide +kernel
theorem d_Book_dayOf_10 : decode prog_2_method_8_code 10 = .ok (.if_icmp .ge 12, 3) := by decide +kernel
theorem d_Book_dayOf_13 : decode prog_2_method_8_code 13 = .ok (.aload_n 0, 1) := by decide +kernel
theorem d_Book_dayOf_14 : decode prog_2_method_8_code 14 = .ok (.getfield 15, 3) := by decide +kernel
theorem d_Book_dayOf_17 : decode prog_2_method_8_code 17 = .ok (.iload_n 1, 1) := by decide +kernel
theorem d_Book_dayOf_18 : decode prog_2_method_8_code 18 = .ok (.laload, 1) := by decide +kernel
theorem d_Book_dayOf_19 : decode prog_2_method_8_code 19 = .ok (.goto 4, 3) := by decide +kernel
theorem d_Book_dayOf_22 : decode prog_2_method_8_code 22 = .ok (.lconst 0, 1) := by decide +kernel
theorem d_Book_dayOf_23 : decode prog_2_method_8_code 23 = .ok (.lreturn, 1) := by decide +kernel
abbrev y_Book_clauseBehind : MethodName := ⟨"PermitRules$Book", "clauseBehind", "(I)I"⟩
abbrev cw_Book_clauseBehind : Cond := .code y_Book_clauseBehind prog_2_method_10_code 2 (some .int)
theorem d_Book_clauseBehind_0 : decode prog_2_method_10_code 0 = .ok (.iload_n 1, 1) := by decide +kernel
theorem d_Book_clauseBehind_1 : decode prog_2_method_10_code 1 = .ok (.ifCond .lt 21, 3) := by decide +kernel
theorem d_Book_clauseBehind_4 : decode prog_2_method_10_code 4 = .ok (.iload_n 1, 1) := by decide +kernel
theorem d_Book_clauseBehind_5 : decode prog_2_method_10_code 5 = .ok (.aload_n 0, 1) := by decide +kernel
theorem d_Book_clauseBehind_6 : decode prog_2_method_10_code 6 = .ok (.getfield 18, 3) := by decide +kernel
theorem d_Book_clauseBehind_9 : decode prog_2_method_10_code 9 = .ok (.arraylength, 1) := by decide +kernel
theorem d_Book_clauseBehind_10 : decode prog_2_method_10_code 10 = .ok (.if_icmp .ge 12, 3) := by decide +kernel
theorem d_Book_clauseBehind_13 : decode prog_2_method_10_code 13 = .ok (.aload_n 0, 1) := by decide +kernel
theorem d_Book_clauseBehind_14 : decode prog_2_method_10_code 14 = .ok (.getfield 18, 3) := by decide +kernel
theorem d_Book_clauseBehind_17 : decode prog_2_method_10_code 17 = .ok (.iload_n 1, 1) := by decide +kernel
theorem d_Book_clauseBehind_18 : decode prog_2_method_10_code 18 = .ok (.iaload, 1) := by decide +kernel
theorem d_Book_clauseBehind_19 : decode prog_2_method_10_code 19 = .ok (.goto 4, 3) := by decide +kernel
theorem d_Book_clauseBehind_22 : decode prog_2_method_10_code 22 = .ok (.iconst 0, 1) := by decide +kernel
theorem d_Book_clauseBehind_23 : decode prog_2_method_10_code 23 = .ok (.ireturn, 1) := by decide +kernel
abbrev y_Book_signOf : MethodName := ⟨"PermitRules$Book", "signOf", "(I)I"⟩
abbrev cw_Book_signOf : Cond := .code y_Book_signOf prog_2_method_11_code 2 (some .int)
theorem d_Book_signOf_0 : decode prog_2_method_11_code 0 = .ok (.iload_n 1, 1) := by decide +kernel
theorem d_Book_signOf_1 : decode prog_2_method_11_code 1 = .ok (.ifCond .lt 21, 3) := by decide +kernel
theorem d_Book_signOf_4 : decode prog_2_method_11_code 4 = .ok (.iload_n 1, 1) := by decide +kernel
theorem d_Book_signOf_5 : decode prog_2_method_11_code 5 = .ok (.aload_n 0, 1) := by decide +kernel
theorem d_Book_signOf_6 : decode prog_2_method_11_code 6 = .ok (.getfield 26, 3) := by decide +kernel
theorem d_Book_signOf_9 : decode prog_2_method_11_code 9 = .ok (.arraylength, 1) := by decide +kernel
theorem d_Book_signOf_10 : decode prog_2_method_11_code 10 = .ok (.if_icmp .ge 12, 3) := by decide +kernel
theorem d_Book_signOf_13 : decode prog_2_method_11_code 13 = .ok (.aload_n 0, 1) := by decide +kernel
theorem d_Book_signOf_14 : decode prog_2_method_11_code 14 = .ok (.getfield 26, 3) := by decide +kernel
theorem d_Book_signOf_17 : decode prog_2_method_11_code 17 = .ok (.iload_n 1, 1) := by decide +kernel
theorem d_Book_signOf_18 : decode prog_2_method_11_code 18 = .ok (.iaload, 1) := by decide +kernel
theorem d_Book_signOf_19 : decode prog_2_method_11_code 19 = .ok (.goto 4, 3) := by decide +kernel
theorem d_Book_signOf_22 : decode prog_2_method_11_code 22 = .ok (.iconst 1, 1) := by decide +kernel
theorem d_Book_signOf_23 : decode prog_2_method_11_code 23 = .ok (.ireturn, 1) := by decide +kernel
abbrev y_Book_stepBehindLeft : MethodName := ⟨"PermitRules$Book", "stepBehindLeft", "(I)I"⟩
abbrev cw_Book_stepBehindLeft : Cond := .code y_Book_stepBehindLeft prog_2_method_13_code 2 (some .int)
theorem d_Book_stepBehindLeft_0 : decode prog_2_method_13_code 0 = .ok (.iload_n 1, 1) := by decide +kernel
theorem d_Book_stepBehindLeft_1 : decode prog_2_method_13_code 1 = .ok (.ifCond .lt 21, 3) := by decide +kernel
theorem d_Book_stepBehindLeft_4 : decode prog_2_method_13_code 4 = .ok (.iload_n 1, 1) := by decide +kernel
theorem d_Book_stepBehindLeft_5 : decode prog_2_method_13_code 5 = .ok (.aload_n 0, 1) := by decide +kernel
theorem d_Book_stepBehindLeft_6 : decode prog_2_method_13_code 6 = .ok (.getfield 29, 3) := by decide +kernel
theorem d_Book_stepBehindLeft_9 : decode prog_2_method_13_code 9 = .ok (.arraylength, 1) := by decide +kernel
theorem d_Book_stepBehindLeft_10 : decode prog_2_method_13_code 10 = .ok (.if_icmp .ge 12, 3) := by decide +kernel
theorem d_Book_stepBehindLeft_13 : decode prog_2_method_13_code 13 = .ok (.aload_n 0, 1) := by decide +kernel
theorem d_Book_stepBehindLeft_14 : decode prog_2_method_13_code 14 = .ok (.getfield 29, 3) := by decide +kernel
theorem d_Book_stepBehindLeft_17 : decode prog_2_method_13_code 17 = .ok (.iload_n 1, 1) := by decide +kernel
theorem d_Book_stepBehindLeft_18 : decode prog_2_method_13_code 18 = .ok (.iaload, 1) := by decide +kernel
theorem d_Book_stepBehindLeft_19 : decode prog_2_method_13_code 19 = .ok (.goto 4, 3) := by decide +kernel
theorem d_Book_stepBehindLeft_22 : decode prog_2_method_13_code 22 = .ok (.iconst 0, 1) := by decide +kernel
theorem d_Book_stepBehindLeft_23 : decode prog_2_method_13_code 23 = .ok (.ireturn, 1) := by decide +kernel
abbrev y_Book_stepBehindRight : MethodName := ⟨"PermitRules$Book", "stepBehindRight", "(I)I"⟩
abbrev cw_Book_stepBehindRight : Cond := .code y_Book_stepBehindRight prog_2_method_14_code 2 (some .int)
theorem d_Book_stepBehindRight_0 : decode prog_2_method_14_code 0 = .ok (.iload_n 1, 1) := by decide +kernel
theorem d_Book_stepBehindRight_1 : decode prog_2_method_14_code 1 = .ok (.ifCond .lt 21, 3) := by decide +kernel
theorem d_Book_stepBehindRight_4 : decode prog_2_method_14_code 4 = .ok (.iload_n 1, 1) := by decide +kernel
theorem d_Book_stepBehindRight_5 : decode prog_2_method_14_code 5 = .ok (.aload_n 0, 1) := by decide +kernel
theorem d_Book_stepBehindRight_6 : decode prog_2_method_14_code 6 = .ok (.getfield 32, 3) := by decide +kernel
theorem d_Book_stepBehindRight_9 : decode prog_2_method_14_code 9 = .ok (.arraylength, 1) := by decide +kernel
theorem d_Book_stepBehindRight_10 : decode prog_2_method_14_code 10 = .ok (.if_icmp .ge 12, 3) := by decide +kernel
theorem d_Book_stepBehindRight_13 : decode prog_2_method_14_code 13 = .ok (.aload_n 0, 1) := by decide +kernel
theorem d_Book_stepBehindRight_14 : decode prog_2_method_14_code 14 = .ok (.getfield 32, 3) := by decide +kernel
theorem d_Book_stepBehindRight_17 : decode prog_2_method_14_code 17 = .ok (.iload_n 1, 1) := by decide +kernel
theorem d_Book_stepBehindRight_18 : decode prog_2_method_14_code 18 = .ok (.iaload, 1) := by decide +kernel
theorem d_Book_stepBehindRight_19 : decode prog_2_method_14_code 19 = .ok (.goto 4, 3) := by decide +kernel
theorem d_Book_stepBehindRight_22 : decode prog_2_method_14_code 22 = .ok (.iconst 0, 1) := by decide +kernel
theorem d_Book_stepBehindRight_23 : decode prog_2_method_14_code 23 = .ok (.ireturn, 1) := by decide +kernel
abbrev y_Book_kindAt : MethodName := ⟨"PermitRules$Book", "kindAt", "(I)I"⟩
abbrev cw_Book_kindAt : Cond := .code y_Book_kindAt prog_2_method_15_code 2 (some .int)
theorem d_Book_kindAt_0 : decode prog_2_method_15_code 0 = .ok (.iload_n 1, 1) := by decide +kernel
theorem d_Book_kindAt_1 : decode prog_2_method_15_code 1 = .ok (.ifCond .lt 21, 3) := by decide +kernel
theorem d_Book_kindAt_4 : decode prog_2_method_15_code 4 = .ok (.iload_n 1, 1) := by decide +kernel
theorem d_Book_kindAt_5 : decode prog_2_method_15_code 5 = .ok (.aload_n 0, 1) := by decide +kernel
theorem d_Book_kindAt_6 : decode prog_2_method_15_code 6 = .ok (.getfield 38, 3) := by decide +kernel
theorem d_Book_kindAt_9 : decode prog_2_method_15_code 9 = .ok (.arraylength, 1) := by decide +kernel
theorem d_Book_kindAt_10 : decode prog_2_method_15_code 10 = .ok (.if_icmp .ge 12, 3) := by decide +kernel
theorem d_Book_kindAt_13 : decode prog_2_method_15_code 13 = .ok (.aload_n 0, 1) := by decide +kernel
theorem d_Book_kindAt_14 : decode prog_2_method_15_code 14 = .ok (.getfield 38, 3) := by decide +kernel
theorem d_Book_kindAt_17 : decode prog_2_method_15_code 17 = .ok (.iload_n 1, 1) := by decide +kernel
theorem d_Book_kindAt_18 : decode prog_2_method_15_code 18 = .ok (.iaload, 1) := by decide +kernel
theorem d_Book_kindAt_19 : decode prog_2_method_15_code 19 = .ok (.goto 4, 3) := by decide +kernel
theorem d_Book_kindAt_22 : decode prog_2_method_15_code 22 = .ok (.iconst 1, 1) := by decide +kernel
theorem d_Book_kindAt_23 : decode prog_2_method_15_code 23 = .ok (.ireturn, 1) := by decide +kernel
abbrev y_Book_firstClauseOf : MethodName := ⟨"PermitRules$Book", "firstClauseOf", "(I)I"⟩
abbrev cw_Book_firstClauseOf : Cond := .code y_Book_firstClauseOf prog_2_method_9_code 2 (some .int)
theorem d_Book_firstClauseOf_0 : decode prog_2_method_9_code 0 = .ok (.aload_n 0, 1) := by decide +kernel
theorem d_Book_firstClauseOf_1 : decode prog_2_method_9_code 1 = .ok (.iload_n 1, 1) := by decide +kernel
theorem d_Book_firstClauseOf_2 : decode prog_2_method_9_code 2 = .ok (.iconst 1, 1) := by decide +kernel
theorem d_Book_firstClauseOf_3 : decode prog_2_method_9_code 3 = .ok (.isub, 1) := by decide +kernel
theorem d_Book_firstClauseOf_4 : decode prog_2_method_9_code 4 = .ok (.invokevirtual 51, 3) := by decide +kernel
theorem d_Book_firstClauseOf_7 : decode prog_2_method_9_code 7 = .ok (.ireturn, 1) := by decide +kernel
abbrev y_Book_firstStepOf : MethodName := ⟨"PermitRules$Book", "firstStepOf", "(I)I"⟩
abbrev cw_Book_firstStepOf : Cond := .code y_Book_firstStepOf prog_2_method_12_code 2 (some .int)
theorem d_Book_firstStepOf_0 : decode prog_2_method_12_code 0 = .ok (.aload_n 0, 1) := by decide +kernel
theorem d_Book_firstStepOf_1 : decode prog_2_method_12_code 1 = .ok (.iload_n 1, 1) := by decide +kernel
theorem d_Book_firstStepOf_2 : decode prog_2_method_12_code 2 = .ok (.iconst 1, 1) := by decide +kernel
theorem d_Book_firstStepOf_3 : decode prog_2_method_12_code 3 = .ok (.isub, 1) := by decide +kernel
theorem d_Book_firstStepOf_4 : decode prog_2_method_12_code 4 = .ok (.invokevirtual 55, 3) := by decide +kernel
theorem d_Book_firstStepOf_7 : decode prog_2_method_12_code 7 = .ok (.ireturn, 1) := by decide +kernel
abbrev y_Book_worthAt : MethodName := ⟨"PermitRules$Book", "worthAt", "(I)J"⟩
abbrev cw_Book_worthAt : Cond := .code y_Book_worthAt prog_2_method_16_code 2 (some .long)
theorem d_Book_worthAt_0 : decode prog_2_method_16_code 0 = .ok (.iload_n 1, 1) := by decide +kernel
theorem d_Book_worthAt_1 : decode prog_2_method_16_code 1 = .ok (.ifCond .lt 21, 3) := by decide +kernel
theorem d_Book_worthAt_4 : decode prog_2_method_16_code 4 = .ok (.iload_n 1, 1) := by decide +kernel
theorem d_Book_worthAt_5 : decode prog_2_method_16_code 5 = .ok (.aload_n 0, 1) := by decide +kernel
theorem d_Book_worthAt_6 : decode prog_2_method_16_code 6 = .ok (.getfield 41, 3) := by decide +kernel
theorem d_Book_worthAt_9 : decode prog_2_method_16_code 9 = .ok (.arraylength, 1) := by decide +kernel
theorem d_Book_worthAt_10 : decode prog_2_method_16_code 10 = .ok (.if_icmp .ge 12, 3) := by decide +kernel
theorem d_Book_worthAt_13 : decode prog_2_method_16_code 13 = .ok (.aload_n 0, 1) := by decide +kernel
theorem d_Book_worthAt_14 : decode prog_2_method_16_code 14 = .ok (.getfield 41, 3) := by decide +kernel
theorem d_Book_worthAt_17 : decode prog_2_method_16_code 17 = .ok (.iload_n 1, 1) := by decide +kernel
theorem d_Book_worthAt_18 : decode prog_2_method_16_code 18 = .ok (.laload, 1) := by decide +kernel
theorem d_Book_worthAt_19 : decode prog_2_method_16_code 19 = .ok (.goto 4, 3) := by decide +kernel
theorem d_Book_worthAt_22 : decode prog_2_method_16_code 22 = .ok (.lconst 0, 1) := by decide +kernel
theorem d_Book_worthAt_23 : decode prog_2_method_16_code 23 = .ok (.lreturn, 1) := by decide +kernel
abbrev y_PR_charactersIn : MethodName := ⟨"PermitRules", "charactersIn", "(J)I"⟩
abbrev cw_PR_charactersIn : Cond := .code y_PR_charactersIn prog_1_method_18_code 5 (some .int)
theorem d_PR_charactersIn_0 : decode prog_1_method_18_code 0 = .ok (.iconst 0, 1) := by decide +kernel
theorem d_PR_charactersIn_1 : decode prog_1_method_18_code 1 = .ok (.istore_n 2, 1) := by decide +kernel
theorem d_PR_charactersIn_2 : decode prog_1_method_18_code 2 = .ok (.bipush 56, 2) := by decide +kernel
theorem d_PR_charactersIn_4 : decode prog_1_method_18_code 4 = .ok (.istore_n 3, 1) := by decide +kernel
theorem d_PR_charactersIn_5 : decode prog_1_method_18_code 5 = .ok (.iload_n 3, 1) := by decide +kernel
theorem d_PR_charactersIn_6 : decode prog_1_method_18_code 6 = .ok (.ifCond .lt 40, 3) := by decide +kernel
theorem d_PR_charactersIn_9 : decode prog_1_method_18_code 9 = .ok (.lload_n 0, 1) := by decide +kernel
theorem d_PR_charactersIn_10 : decode prog_1_method_18_code 10 = .ok (.iload_n 3, 1) := by decide +kernel
theorem d_PR_charactersIn_11 : decode prog_1_method_18_code 11 = .ok (.invokestatic 78, 3) := by decide +kernel
theorem d_PR_charactersIn_14 : decode prog_1_method_18_code 14 = .ok (.istore 4, 2) := by decide +kernel
theorem d_PR_charactersIn_16 : decode prog_1_method_18_code 16 = .ok (.iload 4, 2) := by decide +kernel
theorem d_PR_charactersIn_18 : decode prog_1_method_18_code 18 = .ok (.ifCond .eq 22, 3) := by decide +kernel
theorem d_PR_charactersIn_21 : decode prog_1_method_18_code 21 = .ok (.iload 4, 2) := by decide +kernel
theorem d_PR_charactersIn_23 : decode prog_1_method_18_code 23 = .ok (.bipush 32, 2) := by decide +kernel
theorem d_PR_charactersIn_25 : decode prog_1_method_18_code 25 = .ok (.if_icmp .lt 10, 3) := by decide +kernel
theorem d_PR_charactersIn_28 : decode prog_1_method_18_code 28 = .ok (.iload 4, 2) := by decide +kernel
theorem d_PR_charactersIn_30 : decode prog_1_method_18_code 30 = .ok (.bipush 126, 2) := by decide +kernel
theorem d_PR_charactersIn_32 : decode prog_1_method_18_code 32 = .ok (.if_icmp .le 5, 3) := by decide +kernel
theorem d_PR_charactersIn_35 : decode prog_1_method_18_code 35 = .ok (.iconst (-1), 1) := by decide +kernel
theorem d_PR_charactersIn_36 : decode prog_1_method_18_code 36 = .ok (.ireturn, 1) := by decide +kernel
theorem d_PR_charactersIn_37 : decode prog_1_method_18_code 37 = .ok (.iinc 2 1, 3) := by decide +kernel
theorem d_PR_charactersIn_40 : decode prog_1_method_18_code 40 = .ok (.iinc 3 (-8), 3) := by decide +kernel
theorem d_PR_charactersIn_43 : decode prog_1_method_18_code 43 = .ok (.goto (-38), 3) := by decide +kernel
theorem d_PR_charactersIn_46 : decode prog_1_method_18_code 46 = .ok (.iload_n 2, 1) := by decide +kernel
theorem d_PR_charactersIn_47 : decode prog_1_method_18_code 47 = .ok (.ireturn, 1) := by decide +kernel
abbrev y_PR_isName : MethodName := ⟨"PermitRules", "isName", "(J)Z"⟩
abbrev cw_PR_isName : Cond := .code y_PR_isName prog_1_method_19_code 5 (some .boolean)
theorem d_PR_isName_0 : decode prog_1_method_19_code 0 = .ok (.iconst 0, 1) := by decide +kernel
theorem d_PR_isName_1 : decode prog_1_method_19_code 1 = .ok (.istore_n 2, 1) := by decide +kernel
theorem d_PR_isName_2 : decode prog_1_method_19_code 2 = .ok (.bipush 56, 2) := by decide +kernel
theorem d_PR_isName_4 : decode prog_1_method_19_code 4 = .ok (.istore_n 3, 1) := by decide +kernel
theorem d_PR_isName_5 : decode prog_1_method_19_code 5 = .ok (.iload_n 3, 1) := by decide +kernel
theorem d_PR_isName_6 : decode prog_1_method_19_code 6 = .ok (.ifCond .lt 37, 3) := by decide +kernel
theorem d_PR_isName_9 : decode prog_1_method_19_code 9 = .ok (.lload_n 0, 1) := by decide +kernel
theorem d_PR_isName_10 : decode prog_1_method_19_code 10 = .ok (.iload_n 3, 1) := by decide +kernel
theorem d_PR_isName_11 : decode prog_1_method_19_code 11 = .ok (.invokestatic 78, 3) := by decide +kernel
theorem d_PR_isName_14 : decode prog_1_method_19_code 14 = .ok (.istore 4, 2) := by decide +kernel
theorem d_PR_isName_16 : decode prog_1_method_19_code 16 = .ok (.iload 4, 2) := by decide +kernel
theorem d_PR_isName_18 : decode prog_1_method_19_code 18 = .ok (.ifCond .ne 7, 3) := by decide +kernel
theorem d_PR_isName_21 : decode prog_1_method_19_code 21 = .ok (.iload_n 2, 1) := by decide +kernel
theorem d_PR_isName_22 : decode prog_1_method_19_code 22 = .ok (.ifCond .eq 15, 3) := by decide +kernel
theorem d_PR_isName_25 : decode prog_1_method_19_code 25 = .ok (.iload 4, 2) := by decide +kernel
theorem d_PR_isName_27 : decode prog_1_method_19_code 27 = .ok (.invokestatic 206, 3) := by decide +kernel
theorem d_PR_isName_30 : decode prog_1_method_19_code 30 = .ok (.ifCond .ne 5, 3) := by decide +kernel
theorem d_PR_isName_33 : decode prog_1_method_19_code 33 = .ok (.iconst 0, 1) := by decide +kernel
theorem d_PR_isName_34 : decode prog_1_method_19_code 34 = .ok (.ireturn, 1) := by decide +kernel
theorem d_PR_isName_35 : decode prog_1_method_19_code 35 = .ok (.iconst 1, 1) := by decide +kernel
theorem d_PR_isName_36 : decode prog_1_method_19_code 36 = .ok (.istore_n 2, 1) := by decide +kernel
theorem d_PR_isName_37 : decode prog_1_method_19_code 37 = .ok (.iinc 3 (-8), 3) := by decide +kernel
theorem d_PR_isName_40 : decode prog_1_method_19_code 40 = .ok (.goto (-35), 3) := by decide +kernel
theorem d_PR_isName_43 : decode prog_1_method_19_code 43 = .ok (.iload_n 2, 1) := by decide +kernel
theorem d_PR_isName_44 : decode prog_1_method_19_code 44 = .ok (.ireturn, 1) := by decide +kernel
abbrev y_Text_init : MethodName := ⟨"PermitRules$Text", "<init>", "()V"⟩
abbrev cw_Text_init : Cond := .code y_Text_init prog_7_method_1_code 1 none
theorem d_Text_init_0 : decode prog_7_method_1_code 0 = .ok (.aload_n 0, 1) := by decide +kernel
theorem d_Text_init_1 : decode prog_7_method_1_code 1 = .ok (.invokespecial 3, 3) := by decide +kernel
theorem d_Text_init_4 : decode prog_7_method_1_code 4 = .ok (.aload_n 0, 1) := by decide +kernel
theorem d_Text_init_5 : decode prog_7_method_1_code 5 = .ok (.sipush 800, 3) := by decide +kernel
theorem d_Text_init_8 : decode prog_7_method_1_code 8 = .ok (.newarray .byte, 2) := by decide +kernel
theorem d_Text_init_10 : decode prog_7_method_1_code 10 = .ok (.putfield 9, 3) := by decide +kernel
theorem d_Text_init_13 : decode prog_7_method_1_code 13 = .ok (.aload_n 0, 1) := by decide +kernel
theorem d_Text_init_14 : decode prog_7_method_1_code 14 = .ok (.iconst 0, 1) := by decide +kernel
theorem d_Text_init_15 : decode prog_7_method_1_code 15 = .ok (.putfield 15, 3) := by decide +kernel
theorem d_Text_init_18 : decode prog_7_method_1_code 18 = .ok (.return_, 1) := by decide +kernel
abbrev y_Facts_init : MethodName := ⟨"PermitRules$Facts", "<init>", "()V"⟩
abbrev cw_Facts_init : Cond := .code y_Facts_init prog_3_method_1_code 1 none
theorem d_Facts_init_0 : decode prog_3_method_1_code 0 = .ok (.aload_n 0, 1) := by decide +kernel
theorem d_Facts_init_1 : decode prog_3_method_1_code 1 = .ok (.invokespecial 3, 3) := by decide +kernel
theorem d_Facts_init_4 : decode prog_3_method_1_code 4 = .ok (.aload_n 0, 1) := by decide +kernel
theorem d_Facts_init_5 : decode prog_3_method_1_code 5 = .ok (.bipush 40, 2) := by decide +kernel
theorem d_Facts_init_7 : decode prog_3_method_1_code 7 = .ok (.newarray .long, 2) := by decide +kernel
theorem d_Facts_init_9 : decode prog_3_method_1_code 9 = .ok (.putfield 9, 3) := by decide +kernel
theorem d_Facts_init_12 : decode prog_3_method_1_code 12 = .ok (.aload_n 0, 1) := by decide +kernel
theorem d_Facts_init_13 : decode prog_3_method_1_code 13 = .ok (.bipush 40, 2) := by decide +kernel
theorem d_Facts_init_15 : decode prog_3_method_1_code 15 = .ok (.newarray .int, 2) := by decide +kernel
theorem d_Facts_init_17 : decode prog_3_method_1_code 17 = .ok (.putfield 15, 3) := by decide +kernel
theorem d_Facts_init_20 : decode prog_3_method_1_code 20 = .ok (.aload_n 0, 1) := by decide +kernel
theorem d_Facts_init_21 : decode prog_3_method_1_code 21 = .ok (.iconst 0, 1) := by decide +kernel
theorem d_Facts_init_22 : decode prog_3_method_1_code 22 = .ok (.putfield 19, 3) := by decide +kernel
theorem d_Facts_init_25 : decode prog_3_method_1_code 25 = .ok (.return_, 1) := by decide +kernel
abbrev y_Book_init : MethodName := ⟨"PermitRules$Book", "<init>", "()V"⟩
abbrev cw_Book_init : Cond := .code y_Book_init prog_2_method_1_code 1 none
theorem d_Book_init_0 : decode prog_2_method_1_code 0 = .ok (.aload_n 0, 1) := by decide +kernel
theorem d_Book_init_1 : decode prog_2_method_1_code 1 = .ok (.invokespecial 3, 3) := by decide +kernel
theorem d_Book_init_4 : decode prog_2_method_1_code 4 = .ok (.aload_n 0, 1) := by decide +kernel
theorem d_Book_init_5 : decode prog_2_method_1_code 5 = .ok (.bipush 12, 2) := by decide +kernel
theorem d_Book_init_7 : decode prog_2_method_1_code 7 = .ok (.newarray .long, 2) := by decide +kernel
theorem d_Book_init_9 : decode prog_2_method_1_code 9 = .ok (.putfield 9, 3) := by decide +kernel
theorem d_Book_init_12 : decode prog_2_method_1_code 12 = .ok (.aload_n 0, 1) := by decide +kernel
theorem d_Book_init_13 : decode prog_2_method_1_code 13 = .ok (.bipush 12, 2) := by decide +kernel
theorem d_Book_init_15 : decode prog_2_method_1_code 15 = .ok (.newarray .long, 2) := by decide +kernel
theorem d_Book_init_17 : decode prog_2_method_1_code 17 = .ok (.putfield 15, 3) := by decide +kernel
theorem d_Book_init_20 : decode prog_2_method_1_code 20 = .ok (.aload_n 0, 1) := by decide +kernel
theorem d_Book_init_21 : decode prog_2_method_1_code 21 = .ok (.bipush 12, 2) := by decide +kernel
theorem d_Book_init_23 : decode prog_2_method_1_code 23 = .ok (.newarray .int, 2) := by decide +kernel
theorem d_Book_init_25 : decode prog_2_method_1_code 25 = .ok (.putfield 18, 3) := by decide +kernel
theorem d_Book_init_28 : decode prog_2_method_1_code 28 = .ok (.aload_n 0, 1) := by decide +kernel
theorem d_Book_init_29 : decode prog_2_method_1_code 29 = .ok (.iconst 0, 1) := by decide +kernel
theorem d_Book_init_30 : decode prog_2_method_1_code 30 = .ok (.putfield 22, 3) := by decide +kernel
theorem d_Book_init_33 : decode prog_2_method_1_code 33 = .ok (.aload_n 0, 1) := by decide +kernel
theorem d_Book_init_34 : decode prog_2_method_1_code 34 = .ok (.bipush 30, 2) := by decide +kernel
theorem d_Book_init_36 : decode prog_2_method_1_code 36 = .ok (.newarray .int, 2) := by decide +kernel
theorem d_Book_init_38 : decode prog_2_method_1_code 38 = .ok (.putfield 26, 3) := by decide +kernel
theorem d_Book_init_41 : decode prog_2_method_1_code 41 = .ok (.aload_n 0, 1) := by decide +kernel
theorem d_Book_init_42 : decode prog_2_method_1_code 42 = .ok (.bipush 30, 2) := by decide +kernel
theorem d_Book_init_44 : decode prog_2_method_1_code 44 = .ok (.newarray .int, 2) := by decide +kernel
theorem d_Book_init_46 : decode prog_2_method_1_code 46 = .ok (.putfield 29, 3) := by decide +kernel
theorem d_Book_init_49 : decode prog_2_method_1_code 49 = .ok (.aload_n 0, 1) := by decide +kernel
theorem d_Book_init_50 : decode prog_2_method_1_code 50 = .ok (.bipush 30, 2) := by decide +kernel
theorem d_Book_init_52 : decode prog_2_method_1_code 52 = .ok (.newarray .int, 2) := by decide +kernel
theorem d_Book_init_54 : decode prog_2_method_1_code 54 = .ok (.putfield 32, 3) := by decide +kernel
theorem d_Book_init_57 : decode prog_2_method_1_code 57 = .ok (.aload_n 0, 1) := by decide +kernel
theorem d_Book_init_58 : decode prog_2_method_1_code 58 = .ok (.iconst 0, 1) := by decide +kernel
theorem d_Book_init_59 : decode prog_2_method_1_code 59 = .ok (.putfield 35, 3) := by decide +kernel
theorem d_Book_init_62 : decode prog_2_method_1_code 62 = .ok (.aload_n 0, 1) := by decide +kernel
theorem d_Book_init_63 : decode prog_2_method_1_code 63 = .ok (.bipush 120, 2) := by decide +kernel
theorem d_Book_init_65 : decode prog_2_method_1_code 65 = .ok (.newarray .int, 2) := by decide +kernel
theorem d_Book_init_67 : decode prog_2_method_1_code 67 = .ok (.putfield 38, 3) := by decide +kernel
theorem d_Book_init_70 : decode prog_2_method_1_code 70 = .ok (.aload_n 0, 1) := by decide +kernel
theorem d_Book_init_71 : decode prog_2_method_1_code 71 = .ok (.bipush 120, 2) := by decide +kernel
theorem d_Book_init_73 : decode prog_2_method_1_code 73 = .ok (.newarray .long, 2) := by decide +kernel
theorem d_Book_init_75 : decode prog_2_method_1_code 75 = .ok (.putfield 41, 3) := by decide +kernel
theorem d_Book_init_78 : decode prog_2_method_1_code 78 = .ok (.aload_n 0, 1) := by decide +kernel
theorem d_Book_init_79 : decode prog_2_method_1_code 79 = .ok (.iconst 0, 1) := by decide +kernel
theorem d_Book_init_80 : decode prog_2_method_1_code 80 = .ok (.putfield 44, 3) := by decide +kernel
theorem d_Book_init_83 : decode prog_2_method_1_code 83 = .ok (.return_, 1) := by decide +kernel
abbrev y_PR_init : MethodName := ⟨"PermitRules", "<init>", "()V"⟩
abbrev cw_PR_init : Cond := .code y_PR_init prog_1_method_1_code 1 none
theorem d_PR_init_0 : decode prog_1_method_1_code 0 = .ok (.aload_n 0, 1) := by decide +kernel
theorem d_PR_init_1 : decode prog_1_method_1_code 1 = .ok (.invokespecial 3, 3) := by decide +kernel
theorem d_PR_init_4 : decode prog_1_method_1_code 4 = .ok (.aload_n 0, 1) := by decide +kernel
theorem d_PR_init_5 : decode prog_1_method_1_code 5 = .ok (.new 9, 3) := by decide +kernel
theorem d_PR_init_8 : decode prog_1_method_1_code 8 = .ok (.dup, 1) := by decide +kernel
theorem d_PR_init_9 : decode prog_1_method_1_code 9 = .ok (.invokespecial 11, 3) := by decide +kernel
theorem d_PR_init_12 : decode prog_1_method_1_code 12 = .ok (.putfield 12, 3) := by decide +kernel
theorem d_PR_init_15 : decode prog_1_method_1_code 15 = .ok (.aload_n 0, 1) := by decide +kernel
theorem d_PR_init_16 : decode prog_1_method_1_code 16 = .ok (.new 16, 3) := by decide +kernel
theorem d_PR_init_19 : decode prog_1_method_1_code 19 = .ok (.dup, 1) := by decide +kernel
theorem d_PR_init_20 : decode prog_1_method_1_code 20 = .ok (.invokespecial 18, 3) := by decide +kernel
theorem d_PR_init_23 : decode prog_1_method_1_code 23 = .ok (.putfield 19, 3) := by decide +kernel
theorem d_PR_init_26 : decode prog_1_method_1_code 26 = .ok (.aload_n 0, 1) := by decide +kernel
theorem d_PR_init_27 : decode prog_1_method_1_code 27 = .ok (.new 23, 3) := by decide +kernel
theorem d_PR_init_30 : decode prog_1_method_1_code 30 = .ok (.dup, 1) := by decide +kernel
theorem d_PR_init_31 : decode prog_1_method_1_code 31 = .ok (.invokespecial 25, 3) := by decide +kernel
theorem d_PR_init_34 : decode prog_1_method_1_code 34 = .ok (.putfield 26, 3) := by decide +kernel
theorem d_PR_init_37 : decode prog_1_method_1_code 37 = .ok (.aload_n 0, 1) := by decide +kernel
theorem d_PR_init_38 : decode prog_1_method_1_code 38 = .ok (.new 30, 3) := by decide +kernel
theorem d_PR_init_41 : decode prog_1_method_1_code 41 = .ok (.dup, 1) := by decide +kernel
theorem d_PR_init_42 : decode prog_1_method_1_code 42 = .ok (.invokespecial 32, 3) := by decide +kernel
theorem d_PR_init_45 : decode prog_1_method_1_code 45 = .ok (.putfield 33, 3) := by decide +kernel
theorem d_PR_init_48 : decode prog_1_method_1_code 48 = .ok (.aload_n 0, 1) := by decide +kernel
theorem d_PR_init_49 : decode prog_1_method_1_code 49 = .ok (.bipush 84, 2) := by decide +kernel
theorem d_PR_init_51 : decode prog_1_method_1_code 51 = .ok (.newarray .long, 2) := by decide +kernel
theorem d_PR_init_53 : decode prog_1_method_1_code 53 = .ok (.putfield 37, 3) := by decide +kernel
theorem d_PR_init_56 : decode prog_1_method_1_code 56 = .ok (.aload_n 0, 1) := by decide +kernel
theorem d_PR_init_57 : decode prog_1_method_1_code 57 = .ok (.new 41, 3) := by decide +kernel
theorem d_PR_init_60 : decode prog_1_method_1_code 60 = .ok (.dup, 1) := by decide +kernel
theorem d_PR_init_61 : decode prog_1_method_1_code 61 = .ok (.invokespecial 43, 3) := by decide +kernel
theorem d_PR_init_64 : decode prog_1_method_1_code 64 = .ok (.putfield 44, 3) := by decide +kernel
theorem d_PR_init_67 : decode prog_1_method_1_code 67 = .ok (.aload_n 0, 1) := by decide +kernel
theorem d_PR_init_68 : decode prog_1_method_1_code 68 = .ok (.new 41, 3) := by decide +kernel
theorem d_PR_init_71 : decode prog_1_method_1_code 71 = .ok (.dup, 1) := by decide +kernel
theorem d_PR_init_72 : decode prog_1_method_1_code 72 = .ok (.invokespecial 43, 3) := by decide +kernel
theorem d_PR_init_75 : decode prog_1_method_1_code 75 = .ok (.putfield 48, 3) := by decide +kernel
theorem d_PR_init_78 : decode prog_1_method_1_code 78 = .ok (.aload_n 0, 1) := by decide +kernel
theorem d_PR_init_79 : decode prog_1_method_1_code 79 = .ok (.iconst 0, 1) := by decide +kernel
theorem d_PR_init_80 : decode prog_1_method_1_code 80 = .ok (.putfield 51, 3) := by decide +kernel
theorem d_PR_init_83 : decode prog_1_method_1_code 83 = .ok (.aload_n 0, 1) := by decide +kernel
theorem d_PR_init_84 : decode prog_1_method_1_code 84 = .ok (.iconst 0, 1) := by decide +kernel
theorem d_PR_init_85 : decode prog_1_method_1_code 85 = .ok (.putfield 55, 3) := by decide +kernel
theorem d_PR_init_88 : decode prog_1_method_1_code 88 = .ok (.return_, 1) := by decide +kernel
abbrev y_PR_keepAnswer : MethodName := ⟨"PermitRules", "keepAnswer", "(IIJ)V"⟩
abbrev cw_PR_keepAnswer : Cond := .code y_PR_keepAnswer prog_1_method_15_code 6 none
theorem d_PR_keepAnswer_0 : decode prog_1_method_15_code 0 = .ok (.iload_n 1, 1) := by decide +kernel
theorem d_PR_keepAnswer_1 : decode prog_1_method_15_code 1 = .ok (.bipush 7, 2) := by decide +kernel
theorem d_PR_keepAnswer_3 : decode prog_1_method_15_code 3 = .ok (.imul, 1) := by decide +kernel
theorem d_PR_keepAnswer_4 : decode prog_1_method_15_code 4 = .ok (.iload_n 2, 1) := by decide +kernel
theorem d_PR_keepAnswer_5 : decode prog_1_method_15_code 5 = .ok (.iadd, 1) := by decide +kernel
theorem d_PR_keepAnswer_6 : decode prog_1_method_15_code 6 = .ok (.istore 5, 2) := by decide +kernel
theorem d_PR_keepAnswer_8 : decode prog_1_method_15_code 8 = .ok (.iload 5, 2) := by decide +kernel
theorem d_PR_keepAnswer_10 : decode prog_1_method_15_code 10 = .ok (.ifCond .lt 21, 3) := by decide +kernel
theorem d_PR_keepAnswer_13 : decode prog_1_method_15_code 13 = .ok (.iload 5, 2) := by decide +kernel
theorem d_PR_keepAnswer_15 : decode prog_1_method_15_code 15 = .ok (.aload_n 0, 1) := by decide +kernel
theorem d_PR_keepAnswer_16 : decode prog_1_method_15_code 16 = .ok (.getfield 37, 3) := by decide +kernel
theorem d_PR_keepAnswer_19 : decode prog_1_method_15_code 19 = .ok (.arraylength, 1) := by decide +kernel
theorem d_PR_keepAnswer_20 : decode prog_1_method_15_code 20 = .ok (.if_icmp .ge 11, 3) := by decide +kernel
theorem d_PR_keepAnswer_23 : decode prog_1_method_15_code 23 = .ok (.aload_n 0, 1) := by decide +kernel
theorem d_PR_keepAnswer_24 : decode prog_1_method_15_code 24 = .ok (.getfield 37, 3) := by decide +kernel
theorem d_PR_keepAnswer_27 : decode prog_1_method_15_code 27 = .ok (.iload 5, 2) := by decide +kernel
theorem d_PR_keepAnswer_29 : decode prog_1_method_15_code 29 = .ok (.lload_n 3, 1) := by decide +kernel
theorem d_PR_keepAnswer_30 : decode prog_1_method_15_code 30 = .ok (.lastore, 1) := by decide +kernel
theorem d_PR_keepAnswer_31 : decode prog_1_method_15_code 31 = .ok (.return_, 1) := by decide +kernel
abbrev y_PR_answerOf : MethodName := ⟨"PermitRules", "answerOf", "(II)J"⟩
abbrev cw_PR_answerOf : Cond := .code y_PR_answerOf prog_1_method_16_code 4 (some .long)
theorem d_PR_answerOf_0 : decode prog_1_method_16_code 0 = .ok (.iload_n 1, 1) := by decide +kernel
theorem d_PR_answerOf_1 : decode prog_1_method_16_code 1 = .ok (.bipush 7, 2) := by decide +kernel
theorem d_PR_answerOf_3 : decode prog_1_method_16_code 3 = .ok (.imul, 1) := by decide +kernel
theorem d_PR_answerOf_4 : decode prog_1_method_16_code 4 = .ok (.iload_n 2, 1) := by decide +kernel
theorem d_PR_answerOf_5 : decode prog_1_method_16_code 5 = .ok (.iadd, 1) := by decide +kernel
theorem d_PR_answerOf_6 : decode prog_1_method_16_code 6 = .ok (.istore_n 3, 1) := by decide +kernel
theorem d_PR_answerOf_7 : decode prog_1_method_16_code 7 = .ok (.iload_n 3, 1) := by decide +kernel
theorem d_PR_answerOf_8 : decode prog_1_method_16_code 8 = .ok (.ifCond .lt 21, 3) := by decide +kernel
theorem d_PR_answerOf_11 : decode prog_1_method_16_code 11 = .ok (.iload_n 3, 1) := by decide +kernel
theorem d_PR_answerOf_12 : decode prog_1_method_16_code 12 = .ok (.aload_n 0, 1) := by decide +kernel
theorem d_PR_answerOf_13 : decode prog_1_method_16_code 13 = .ok (.getfield 37, 3) := by decide +kernel
theorem d_PR_answerOf_16 : decode prog_1_method_16_code 16 = .ok (.arraylength, 1) := by decide +kernel
theorem d_PR_answerOf_17 : decode prog_1_method_16_code 17 = .ok (.if_icmp .ge 12, 3) := by decide +kernel
theorem d_PR_answerOf_20 : decode prog_1_method_16_code 20 = .ok (.aload_n 0, 1) := by decide +kernel
theorem d_PR_answerOf_21 : decode prog_1_method_16_code 21 = .ok (.getfield 37, 3) := by decide +kernel
theorem d_PR_answerOf_24 : decode prog_1_method_16_code 24 = .ok (.iload_n 3, 1) := by decide +kernel
theorem d_PR_answerOf_25 : decode prog_1_method_16_code 25 = .ok (.laload, 1) := by decide +kernel
theorem d_PR_answerOf_26 : decode prog_1_method_16_code 26 = .ok (.goto 4, 3) := by decide +kernel
theorem d_PR_answerOf_29 : decode prog_1_method_16_code 29 = .ok (.lconst 0, 1) := by decide +kernel
theorem d_PR_answerOf_30 : decode prog_1_method_16_code 30 = .ok (.lreturn, 1) := by decide +kernel
abbrev y_PR_keepAnswers : MethodName := ⟨"PermitRules", "keepAnswers", "(I)V"⟩
abbrev cw_PR_keepAnswers : Cond := .code y_PR_keepAnswers prog_1_method_14_code 2 none
theorem d_PR_keepAnswers_0 : decode prog_1_method_14_code 0 = .ok (.aload_n 0, 1) := by decide +kernel
theorem d_PR_keepAnswers_1 : decode prog_1_method_14_code 1 = .ok (.iload_n 1, 1) := by decide +kernel
theorem d_PR_keepAnswers_2 : decode prog_1_method_14_code 2 = .ok (.iconst 0, 1) := by decide +kernel
theorem d_PR_keepAnswers_3 : decode prog_1_method_14_code 3 = .ok (.aload_n 0, 1) := by decide +kernel
theorem d_PR_keepAnswers_4 : decode prog_1_method_14_code 4 = .ok (.getfield 33, 3) := by decide +kernel
theorem d_PR_keepAnswers_7 : decode prog_1_method_14_code 7 = .ok (.getfield 146, 3) := by decide +kernel
theorem d_PR_keepAnswers_10 : decode prog_1_method_14_code 10 = .ok (.i2l, 1) := by decide +kernel
theorem d_PR_keepAnswers_11 : decode prog_1_method_14_code 11 = .ok (.invokevirtual 177, 3) := by decide +kernel
theorem d_PR_keepAnswers_14 : decode prog_1_method_14_code 14 = .ok (.aload_n 0, 1) := by decide +kernel
theorem d_PR_keepAnswers_15 : decode prog_1_method_14_code 15 = .ok (.iload_n 1, 1) := by decide +kernel
theorem d_PR_keepAnswers_16 : decode prog_1_method_14_code 16 = .ok (.iconst 1, 1) := by decide +kernel
theorem d_PR_keepAnswers_17 : decode prog_1_method_14_code 17 = .ok (.aload_n 0, 1) := by decide +kernel
theorem d_PR_keepAnswers_18 : decode prog_1_method_14_code 18 = .ok (.getfield 33, 3) := by decide +kernel
theorem d_PR_keepAnswers_21 : decode prog_1_method_14_code 21 = .ok (.getfield 181, 3) := by decide +kernel
theorem d_PR_keepAnswers_24 : decode prog_1_method_14_code 24 = .ok (.invokevirtual 177, 3) := by decide +kernel
theorem d_PR_keepAnswers_27 : decode prog_1_method_14_code 27 = .ok (.aload_n 0, 1) := by decide +kernel
theorem d_PR_keepAnswers_28 : decode prog_1_method_14_code 28 = .ok (.iload_n 1, 1) := by decide +kernel
theorem d_PR_keepAnswers_29 : decode prog_1_method_14_code 29 = .ok (.iconst 2, 1) := by decide +kernel
theorem d_PR_keepAnswers_30 : decode prog_1_method_14_code 30 = .ok (.aload_n 0, 1) := by decide +kernel
theorem d_PR_keepAnswers_31 : decode prog_1_method_14_code 31 = .ok (.getfield 33, 3) := by decide +kernel
theorem d_PR_keepAnswers_34 : decode prog_1_method_14_code 34 = .ok (.getfield 185, 3) := by decide +kernel
theorem d_PR_keepAnswers_37 : decode prog_1_method_14_code 37 = .ok (.invokevirtual 177, 3) := by decide +kernel
theorem d_PR_keepAnswers_40 : decode prog_1_method_14_code 40 = .ok (.aload_n 0, 1) := by decide +kernel
theorem d_PR_keepAnswers_41 : decode prog_1_method_14_code 41 = .ok (.iload_n 1, 1) := by decide +kernel
theorem d_PR_keepAnswers_42 : decode prog_1_method_14_code 42 = .ok (.iconst 3, 1) := by decide +kernel
theorem d_PR_keepAnswers_43 : decode prog_1_method_14_code 43 = .ok (.aload_n 0, 1) := by decide +kernel
theorem d_PR_keepAnswers_44 : decode prog_1_method_14_code 44 = .ok (.getfield 33, 3) := by decide +kernel
theorem d_PR_keepAnswers_47 : decode prog_1_method_14_code 47 = .ok (.getfield 188, 3) := by decide +kernel
theorem d_PR_keepAnswers_50 : decode prog_1_method_14_code 50 = .ok (.invokevirtual 177, 3) := by decide +kernel
theorem d_PR_keepAnswers_53 : decode prog_1_method_14_code 53 = .ok (.aload_n 0, 1) := by decide +kernel
theorem d_PR_keepAnswers_54 : decode prog_1_method_14_code 54 = .ok (.iload_n 1, 1) := by decide +kernel
theorem d_PR_keepAnswers_55 : decode prog_1_method_14_code 55 = .ok (.iconst 4, 1) := by decide +kernel
theorem d_PR_keepAnswers_56 : decode prog_1_method_14_code 56 = .ok (.aload_n 0, 1) := by decide +kernel
theorem d_PR_keepAnswers_57 : decode prog_1_method_14_code 57 = .ok (.getfield 33, 3) := by decide +kernel
theorem d_PR_keepAnswers_60 : decode prog_1_method_14_code 60 = .ok (.getfield 191, 3) := by decide +kernel
theorem d_PR_keepAnswers_63 : decode prog_1_method_14_code 63 = .ok (.invokevirtual 177, 3) := by decide +kernel
theorem d_PR_keepAnswers_66 : decode prog_1_method_14_code 66 = .ok (.aload_n 0, 1) := by decide +kernel
theorem d_PR_keepAnswers_67 : decode prog_1_method_14_code 67 = .ok (.iload_n 1, 1) := by decide +kernel
theorem d_PR_keepAnswers_68 : decode prog_1_method_14_code 68 = .ok (.iconst 5, 1) := by decide +kernel
theorem d_PR_keepAnswers_69 : decode prog_1_method_14_code 69 = .ok (.aload_n 0, 1) := by decide +kernel
theorem d_PR_keepAnswers_70 : decode prog_1_method_14_code 70 = .ok (.getfield 33, 3) := by decide +kernel
theorem d_PR_keepAnswers_73 : decode prog_1_method_14_code 73 = .ok (.getfield 194, 3) := by decide +kernel
theorem d_PR_keepAnswers_76 : decode prog_1_method_14_code 76 = .ok (.getfield 198, 3) := by decide +kernel
theorem d_PR_keepAnswers_79 : decode prog_1_method_14_code 79 = .ok (.i2l, 1) := by decide +kernel
theorem d_PR_keepAnswers_80 : decode prog_1_method_14_code 80 = .ok (.invokevirtual 177, 3) := by decide +kernel
theorem d_PR_keepAnswers_83 : decode prog_1_method_14_code 83 = .ok (.aload_n 0, 1) := by decide +kernel
theorem d_PR_keepAnswers_84 : decode prog_1_method_14_code 84 = .ok (.iload_n 1, 1) := by decide +kernel
theorem d_PR_keepAnswers_85 : decode prog_1_method_14_code 85 = .ok (.bipush 6, 2) := by decide +kernel
theorem d_PR_keepAnswers_87 : decode prog_1_method_14_code 87 = .ok (.aload_n 0, 1) := by decide +kernel
theorem d_PR_keepAnswers_88 : decode prog_1_method_14_code 88 = .ok (.getfield 33, 3) := by decide +kernel
theorem d_PR_keepAnswers_91 : decode prog_1_method_14_code 91 = .ok (.getfield 194, 3) := by decide +kernel
theorem d_PR_keepAnswers_94 : decode prog_1_method_14_code 94 = .ok (.getfield 203, 3) := by decide +kernel
theorem d_PR_keepAnswers_97 : decode prog_1_method_14_code 97 = .ok (.invokevirtual 177, 3) := by decide +kernel
theorem d_PR_keepAnswers_100 : decode prog_1_method_14_code 100 = .ok (.return_, 1) := by decide +kernel
abbrev y_PR_wouldDo : MethodName := ⟨"PermitRules", "wouldDo", "(III)Z"⟩
abbrev cw_PR_wouldDo : Cond := .code y_PR_wouldDo prog_1_method_13_code 5 (some .boolean)
theorem d_PR_wouldDo_0 : decode prog_1_method_13_code 0 = .ok (.iload_n 3, 1) := by decide +kernel
theorem d_PR_wouldDo_1 : decode prog_1_method_13_code 1 = .ok (.invokestatic 105, 3) := by decide +kernel
theorem d_PR_wouldDo_4 : decode prog_1_method_13_code 4 = .ok (.ifCond .ne 5, 3) := by decide +kernel
theorem d_PR_wouldDo_7 : decode prog_1_method_13_code 7 = .ok (.iconst 0, 1) := by decide +kernel
theorem d_PR_wouldDo_8 : decode prog_1_method_13_code 8 = .ok (.ireturn, 1) := by decide +kernel
theorem d_PR_wouldDo_9 : decode prog_1_method_13_code 9 = .ok (.aload_n 0, 1) := by decide +kernel
theorem d_PR_wouldDo_10 : decode prog_1_method_13_code 10 = .ok (.getfield 26, 3) := by decide +kernel
theorem d_PR_wouldDo_13 : decode prog_1_method_13_code 13 = .ok (.iload_n 2, 1) := by decide +kernel
theorem d_PR_wouldDo_14 : decode prog_1_method_13_code 14 = .ok (.invokevirtual 125, 3) := by decide +kernel
theorem d_PR_wouldDo_17 : decode prog_1_method_13_code 17 = .ok (.istore 4, 2) := by decide +kernel
theorem d_PR_wouldDo_19 : decode prog_1_method_13_code 19 = .ok (.aload_n 0, 1) := by decide +kernel
theorem d_PR_wouldDo_20 : decode prog_1_method_13_code 20 = .ok (.getfield 26, 3) := by decide +kernel
theorem d_PR_wouldDo_23 : decode prog_1_method_13_code 23 = .ok (.iload_n 2, 1) := by decide +kernel
theorem d_PR_wouldDo_24 : decode prog_1_method_13_code 24 = .ok (.iload_n 3, 1) := by decide +kernel
theorem d_PR_wouldDo_25 : decode prog_1_method_13_code 25 = .ok (.invokevirtual 129, 3) := by decide +kernel
theorem d_PR_wouldDo_28 : decode prog_1_method_13_code 28 = .ok (.aload_n 0, 1) := by decide +kernel
theorem d_PR_wouldDo_29 : decode prog_1_method_13_code 29 = .ok (.getfield 33, 3) := by decide +kernel
theorem d_PR_wouldDo_32 : decode prog_1_method_13_code 32 = .ok (.aload_n 0, 1) := by decide +kernel
theorem d_PR_wouldDo_33 : decode prog_1_method_13_code 33 = .ok (.getfield 44, 3) := by decide +kernel
theorem d_PR_wouldDo_36 : decode prog_1_method_13_code 36 = .ok (.aload_n 0, 1) := by decide +kernel
theorem d_PR_wouldDo_37 : decode prog_1_method_13_code 37 = .ok (.getfield 26, 3) := by decide +kernel
theorem d_PR_wouldDo_40 : decode prog_1_method_13_code 40 = .ok (.iload_n 1, 1) := by decide +kernel
theorem d_PR_wouldDo_41 : decode prog_1_method_13_code 41 = .ok (.aload_n 0, 1) := by decide +kernel
theorem d_PR_wouldDo_42 : decode prog_1_method_13_code 42 = .ok (.getfield 55, 3) := by decide +kernel
theorem d_PR_wouldDo_45 : decode prog_1_method_13_code 45 = .ok (.invokevirtual 139, 3) := by decide +kernel
theorem d_PR_wouldDo_48 : decode prog_1_method_13_code 48 = .ok (.aload_n 0, 1) := by decide +kernel
theorem d_PR_wouldDo_49 : decode prog_1_method_13_code 49 = .ok (.getfield 26, 3) := by decide +kernel
theorem d_PR_wouldDo_52 : decode prog_1_method_13_code 52 = .ok (.iload_n 2, 1) := by decide +kernel
theorem d_PR_wouldDo_53 : decode prog_1_method_13_code 53 = .ok (.iload 4, 2) := by decide +kernel
theorem d_PR_wouldDo_55 : decode prog_1_method_13_code 55 = .ok (.invokevirtual 129, 3) := by decide +kernel
theorem d_PR_wouldDo_58 : decode prog_1_method_13_code 58 = .ok (.aload_n 0, 1) := by decide +kernel
theorem d_PR_wouldDo_59 : decode prog_1_method_13_code 59 = .ok (.getfield 33, 3) := by decide +kernel
theorem d_PR_wouldDo_62 : decode prog_1_method_13_code 62 = .ok (.getfield 146, 3) := by decide +kernel
theorem d_PR_wouldDo_65 : decode prog_1_method_13_code 65 = .ok (.ifCond .eq 14, 3) := by decide +kernel
theorem d_PR_wouldDo_68 : decode prog_1_method_13_code 68 = .ok (.aload_n 0, 1) := by decide +kernel
theorem d_PR_wouldDo_69 : decode prog_1_method_13_code 69 = .ok (.getfield 33, 3) := by decide +kernel
theorem d_PR_wouldDo_72 : decode prog_1_method_13_code 72 = .ok (.getfield 146, 3) := by decide +kernel
theorem d_PR_wouldDo_75 : decode prog_1_method_13_code 75 = .ok (.iconst 2, 1) := by decide +kernel
theorem d_PR_wouldDo_76 : decode prog_1_method_13_code 76 = .ok (.if_icmp .ne 7, 3) := by decide +kernel
theorem d_PR_wouldDo_79 : decode prog_1_method_13_code 79 = .ok (.iconst 1, 1) := by decide +kernel
theorem d_PR_wouldDo_80 : decode prog_1_method_13_code 80 = .ok (.goto 4, 3) := by decide +kernel
theorem d_PR_wouldDo_83 : decode prog_1_method_13_code 83 = .ok (.iconst 0, 1) := by decide +kernel
theorem d_PR_wouldDo_84 : decode prog_1_method_13_code 84 = .ok (.ireturn, 1) := by decide +kernel
abbrev y_PR_read : MethodName := ⟨"PermitRules", "read", "()I"⟩
abbrev cw_PR_read : Cond := .code y_PR_read prog_1_method_4_code 2 (some .int)
theorem d_PR_read_0 : decode prog_1_method_4_code 0 = .ok (.aload_n 0, 1) := by decide +kernel
theorem d_PR_read_1 : decode prog_1_method_4_code 1 = .ok (.getfield 19, 3) := by decide +kernel
theorem d_PR_read_4 : decode prog_1_method_4_code 4 = .ok (.aload_n 0, 1) := by decide +kernel
theorem d_PR_read_5 : decode prog_1_method_4_code 5 = .ok (.getfield 12, 3) := by decide +kernel
theorem d_PR_read_8 : decode prog_1_method_4_code 8 = .ok (.aload_n 0, 1) := by decide +kernel
theorem d_PR_read_9 : decode prog_1_method_4_code 9 = .ok (.getfield 48, 3) := by decide +kernel
theorem d_PR_read_12 : decode prog_1_method_4_code 12 = .ok (.invokevirtual 88, 3) := by decide +kernel
theorem d_PR_read_15 : decode prog_1_method_4_code 15 = .ok (.ifCond .ne 13, 3) := by decide +kernel
theorem d_PR_read_18 : decode prog_1_method_4_code 18 = .ok (.iconst (-1), 1) := by decide +kernel
theorem d_PR_read_19 : decode prog_1_method_4_code 19 = .ok (.aload_n 0, 1) := by decide +kernel
theorem d_PR_read_20 : decode prog_1_method_4_code 20 = .ok (.getfield 19, 3) := by decide +kernel
theorem d_PR_read_23 : decode prog_1_method_4_code 23 = .ok (.invokevirtual 92, 3) := by decide +kernel
theorem d_PR_read_26 : decode prog_1_method_4_code 26 = .ok (.isub, 1) := by decide +kernel
theorem d_PR_read_27 : decode prog_1_method_4_code 27 = .ok (.ireturn, 1) := by decide +kernel
theorem d_PR_read_28 : decode prog_1_method_4_code 28 = .ok (.aload_n 0, 1) := by decide +kernel
theorem d_PR_read_29 : decode prog_1_method_4_code 29 = .ok (.getfield 44, 3) := by decide +kernel
theorem d_PR_read_32 : decode prog_1_method_4_code 32 = .ok (.astore_n 1, 1) := by decide +kernel
theorem d_PR_read_33 : decode prog_1_method_4_code 33 = .ok (.aload_n 0, 1) := by decide +kernel
theorem d_PR_read_34 : decode prog_1_method_4_code 34 = .ok (.aload_n 0, 1) := by decide +kernel
theorem d_PR_read_35 : decode prog_1_method_4_code 35 = .ok (.getfield 48, 3) := by decide +kernel
theorem d_PR_read_38 : decode prog_1_method_4_code 38 = .ok (.putfield 44, 3) := by decide +kernel
theorem d_PR_read_41 : decode prog_1_method_4_code 41 = .ok (.aload_n 0, 1) := by decide +kernel
theorem d_PR_read_42 : decode prog_1_method_4_code 42 = .ok (.aload_n 1, 1) := by decide +kernel
theorem d_PR_read_43 : decode prog_1_method_4_code 43 = .ok (.putfield 48, 3) := by decide +kernel
theorem d_PR_read_46 : decode prog_1_method_4_code 46 = .ok (.aload_n 0, 1) := by decide +kernel
theorem d_PR_read_47 : decode prog_1_method_4_code 47 = .ok (.getfield 12, 3) := by decide +kernel
theorem d_PR_read_50 : decode prog_1_method_4_code 50 = .ok (.iconst 0, 1) := by decide +kernel
theorem d_PR_read_51 : decode prog_1_method_4_code 51 = .ok (.putfield 70, 3) := by decide +kernel
theorem d_PR_read_54 : decode prog_1_method_4_code 54 = .ok (.aload_n 0, 1) := by decide +kernel
theorem d_PR_read_55 : decode prog_1_method_4_code 55 = .ok (.iconst 0, 1) := by decide +kernel
theorem d_PR_read_56 : decode prog_1_method_4_code 56 = .ok (.putfield 51, 3) := by decide +kernel
theorem d_PR_read_59 : decode prog_1_method_4_code 59 = .ok (.aload_n 0, 1) := by decide +kernel
theorem d_PR_read_60 : decode prog_1_method_4_code 60 = .ok (.getfield 44, 3) := by decide +kernel
theorem d_PR_read_63 : decode prog_1_method_4_code 63 = .ok (.getfield 96, 3) := by decide +kernel
theorem d_PR_read_66 : decode prog_1_method_4_code 66 = .ok (.ireturn, 1) := by decide +kernel
abbrev y_PR_say : MethodName := ⟨"PermitRules", "say", "(J)I"⟩
abbrev cw_PR_say : Cond := .code y_PR_say prog_1_method_2_code 6 (some .int)
theorem d_PR_say_0 : decode prog_1_method_2_code 0 = .ok (.lload_n 1, 1) := by decide +kernel
theorem d_PR_say_1 : decode prog_1_method_2_code 1 = .ok (.invokestatic 59, 3) := by decide +kernel
theorem d_PR_say_4 : decode prog_1_method_2_code 4 = .ok (.istore_n 3, 1) := by decide +kernel
theorem d_PR_say_5 : decode prog_1_method_2_code 5 = .ok (.iload_n 3, 1) := by decide +kernel
theorem d_PR_say_6 : decode prog_1_method_2_code 6 = .ok (.iconst (-1), 1) := by decide +kernel
theorem d_PR_say_7 : decode prog_1_method_2_code 7 = .ok (.if_icmp .ne 13, 3) := by decide +kernel
theorem d_PR_say_10 : decode prog_1_method_2_code 10 = .ok (.new 63, 3) := by decide +kernel
theorem d_PR_say_13 : decode prog_1_method_2_code 13 = .ok (.dup, 1) := by decide +kernel
theorem d_PR_say_14 : decode prog_1_method_2_code 14 = .ok (.ldc 65, 2) := by decide +kernel
theorem d_PR_say_16 : decode prog_1_method_2_code 16 = .ok (.invokespecial 67, 3) := by decide +kernel
theorem d_PR_say_19 : decode prog_1_method_2_code 19 = .ok (.athrow, 1) := by decide +kernel
theorem d_PR_say_20 : decode prog_1_method_2_code 20 = .ok (.aload_n 0, 1) := by decide +kernel
theorem d_PR_say_21 : decode prog_1_method_2_code 21 = .ok (.getfield 12, 3) := by decide +kernel
theorem d_PR_say_24 : decode prog_1_method_2_code 24 = .ok (.getfield 70, 3) := by decide +kernel
theorem d_PR_say_27 : decode prog_1_method_2_code 27 = .ok (.iload_n 3, 1) := by decide +kernel
theorem d_PR_say_28 : decode prog_1_method_2_code 28 = .ok (.iadd, 1) := by decide +kernel
theorem d_PR_say_29 : decode prog_1_method_2_code 29 = .ok (.sipush 800, 3) := by decide +kernel
theorem d_PR_say_32 : decode prog_1_method_2_code 32 = .ok (.if_icmp .le 13, 3) := by decide +kernel
theorem d_PR_say_35 : decode prog_1_method_2_code 35 = .ok (.new 73, 3) := by decide +kernel
theorem d_PR_say_38 : decode prog_1_method_2_code 38 = .ok (.dup, 1) := by decide +kernel
theorem d_PR_say_39 : decode prog_1_method_2_code 39 = .ok (.ldc 75, 2) := by decide +kernel
theorem d_PR_say_41 : decode prog_1_method_2_code 41 = .ok (.invokespecial 77, 3) := by decide +kernel
theorem d_PR_say_44 : decode prog_1_method_2_code 44 = .ok (.athrow, 1) := by decide +kernel
theorem d_PR_say_45 : decode prog_1_method_2_code 45 = .ok (.bipush 56, 2) := by decide +kernel
theorem d_PR_say_47 : decode prog_1_method_2_code 47 = .ok (.istore 4, 2) := by decide +kernel
theorem d_PR_say_49 : decode prog_1_method_2_code 49 = .ok (.iload 4, 2) := by decide +kernel
theorem d_PR_say_51 : decode prog_1_method_2_code 51 = .ok (.ifCond .lt 31, 3) := by decide +kernel
theorem d_PR_say_54 : decode prog_1_method_2_code 54 = .ok (.lload_n 1, 1) := by decide +kernel
theorem d_PR_say_55 : decode prog_1_method_2_code 55 = .ok (.iload 4, 2) := by decide +kernel
theorem d_PR_say_57 : decode prog_1_method_2_code 57 = .ok (.invokestatic 78, 3) := by decide +kernel
theorem d_PR_say_60 : decode prog_1_method_2_code 60 = .ok (.istore 5, 2) := by decide +kernel
theorem d_PR_say_62 : decode prog_1_method_2_code 62 = .ok (.iload 5, 2) := by decide +kernel
theorem d_PR_say_64 : decode prog_1_method_2_code 64 = .ok (.ifCond .eq 12, 3) := by decide +kernel
theorem d_PR_say_67 : decode prog_1_method_2_code 67 = .ok (.aload_n 0, 1) := by decide +kernel
theorem d_PR_say_68 : decode prog_1_method_2_code 68 = .ok (.getfield 12, 3) := by decide +kernel
theorem d_PR_say_71 : decode prog_1_method_2_code 71 = .ok (.iload 5, 2) := by decide +kernel
theorem d_PR_say_73 : decode prog_1_method_2_code 73 = .ok (.invokevirtual 82, 3) := by decide +kernel
theorem d_PR_say_76 : decode prog_1_method_2_code 76 = .ok (.iinc 4 (-8), 3) := by decide +kernel
theorem d_PR_say_79 : decode prog_1_method_2_code 79 = .ok (.goto (-30), 3) := by decide +kernel
theorem d_PR_say_82 : decode prog_1_method_2_code 82 = .ok (.aload_n 0, 1) := by decide +kernel
theorem d_PR_say_83 : decode prog_1_method_2_code 83 = .ok (.getfield 12, 3) := by decide +kernel
theorem d_PR_say_86 : decode prog_1_method_2_code 86 = .ok (.getfield 70, 3) := by decide +kernel
theorem d_PR_say_89 : decode prog_1_method_2_code 89 = .ok (.ireturn, 1) := by decide +kernel
abbrev y_PR_trim : MethodName := ⟨"PermitRules", "trim", "(I)I"⟩
abbrev cw_PR_trim : Cond := .code y_PR_trim prog_1_method_3_code 2 (some .int)
theorem d_PR_trim_0 : decode prog_1_method_3_code 0 = .ok (.iload_n 1, 1) := by decide +kernel
theorem d_PR_trim_1 : decode prog_1_method_3_code 1 = .ok (.ifCond .lt 14, 3) := by decide +kernel
theorem d_PR_trim_4 : decode prog_1_method_3_code 4 = .ok (.iload_n 1, 1) := by decide +kernel
theorem d_PR_trim_5 : decode prog_1_method_3_code 5 = .ok (.aload_n 0, 1) := by decide +kernel
theorem d_PR_trim_6 : decode prog_1_method_3_code 6 = .ok (.getfield 12, 3) := by decide +kernel
theorem d_PR_trim_9 : decode prog_1_method_3_code 9 = .ok (.getfield 70, 3) := by decide +kernel
theorem d_PR_trim_12 : decode prog_1_method_3_code 12 = .ok (.if_icmp .le 13, 3) := by decide +kernel
theorem d_PR_trim_15 : decode prog_1_method_3_code 15 = .ok (.new 63, 3) := by decide +kernel
theorem d_PR_trim_18 : decode prog_1_method_3_code 18 = .ok (.dup, 1) := by decide +kernel
theorem d_PR_trim_19 : decode prog_1_method_3_code 19 = .ok (.ldc 86, 2) := by decide +kernel
theorem d_PR_trim_21 : decode prog_1_method_3_code 21 = .ok (.invokespecial 67, 3) := by decide +kernel
theorem d_PR_trim_24 : decode prog_1_method_3_code 24 = .ok (.athrow, 1) := by decide +kernel
theorem d_PR_trim_25 : decode prog_1_method_3_code 25 = .ok (.aload_n 0, 1) := by decide +kernel
theorem d_PR_trim_26 : decode prog_1_method_3_code 26 = .ok (.getfield 12, 3) := by decide +kernel
theorem d_PR_trim_29 : decode prog_1_method_3_code 29 = .ok (.dup, 1) := by decide +kernel
theorem d_PR_trim_30 : decode prog_1_method_3_code 30 = .ok (.getfield 70, 3) := by decide +kernel
theorem d_PR_trim_33 : decode prog_1_method_3_code 33 = .ok (.iload_n 1, 1) := by decide +kernel
theorem d_PR_trim_34 : decode prog_1_method_3_code 34 = .ok (.isub, 1) := by decide +kernel
theorem d_PR_trim_35 : decode prog_1_method_3_code 35 = .ok (.putfield 70, 3) := by decide +kernel
theorem d_PR_trim_38 : decode prog_1_method_3_code 38 = .ok (.aload_n 0, 1) := by decide +kernel
theorem d_PR_trim_39 : decode prog_1_method_3_code 39 = .ok (.getfield 12, 3) := by decide +kernel
theorem d_PR_trim_42 : decode prog_1_method_3_code 42 = .ok (.getfield 70, 3) := by decide +kernel
theorem d_PR_trim_45 : decode prog_1_method_3_code 45 = .ok (.ireturn, 1) := by decide +kernel
abbrev y_PR_fact : MethodName := ⟨"PermitRules", "fact", "(JI)J"⟩
abbrev cw_PR_fact : Cond := .code y_PR_fact prog_1_method_5_code 7 (some .long)
theorem d_PR_fact_0 : decode prog_1_method_5_code 0 = .ok (.lload_n 1, 1) := by decide +kernel
theorem d_PR_fact_1 : decode prog_1_method_5_code 1 = .ok (.invokestatic 99, 3) := by decide +kernel
theorem d_PR_fact_4 : decode prog_1_method_5_code 4 = .ok (.ifCond .ne 13, 3) := by decide +kernel
theorem d_PR_fact_7 : decode prog_1_method_5_code 7 = .ok (.new 63, 3) := by decide +kernel
theorem d_PR_fact_10 : decode prog_1_method_5_code 10 = .ok (.dup, 1) := by decide +kernel
theorem d_PR_fact_11 : decode prog_1_method_5_code 11 = .ok (.ldc 103, 2) := by decide +kernel
theorem d_PR_fact_13 : decode prog_1_method_5_code 13 = .ok (.invokespecial 67, 3) := by decide +kernel
theorem d_PR_fact_16 : decode prog_1_method_5_code 16 = .ok (.athrow, 1) := by decide +kernel
theorem d_PR_fact_17 : decode prog_1_method_5_code 17 = .ok (.iload_n 3, 1) := by decide +kernel
theorem d_PR_fact_18 : decode prog_1_method_5_code 18 = .ok (.invokestatic 105, 3) := by decide +kernel
theorem d_PR_fact_21 : decode prog_1_method_5_code 21 = .ok (.ifCond .ne 13, 3) := by decide +kernel
theorem d_PR_fact_24 : decode prog_1_method_5_code 24 = .ok (.new 63, 3) := by decide +kernel
theorem d_PR_fact_27 : decode prog_1_method_5_code 27 = .ok (.dup, 1) := by decide +kernel
theorem d_PR_fact_28 : decode prog_1_method_5_code 28 = .ok (.ldc 109, 2) := by decide +kernel
theorem d_PR_fact_30 : decode prog_1_method_5_code 30 = .ok (.invokespecial 67, 3) := by decide +kernel
theorem d_PR_fact_33 : decode prog_1_method_5_code 33 = .ok (.athrow, 1) := by decide +kernel
theorem d_PR_fact_34 : decode prog_1_method_5_code 34 = .ok (.aload_n 0, 1) := by decide +kernel
theorem d_PR_fact_35 : decode prog_1_method_5_code 35 = .ok (.getfield 26, 3) := by decide +kernel
theorem d_PR_fact_38 : decode prog_1_method_5_code 38 = .ok (.lload_n 1, 1) := by decide +kernel
theorem d_PR_fact_39 : decode prog_1_method_5_code 39 = .ok (.invokevirtual 111, 3) := by decide +kernel
theorem d_PR_fact_42 : decode prog_1_method_5_code 42 = .ok (.istore 4, 2) := by decide +kernel
theorem d_PR_fact_44 : decode prog_1_method_5_code 44 = .ok (.iload 4, 2) := by decide +kernel
theorem d_PR_fact_46 : decode prog_1_method_5_code 46 = .ok (.iconst (-1), 1) := by decide +kernel
theorem d_PR_fact_47 : decode prog_1_method_5_code 47 = .ok (.if_icmp .ne 25, 3) := by decide +kernel
theorem d_PR_fact_50 : decode prog_1_method_5_code 50 = .ok (.aload_n 0, 1) := by decide +kernel
theorem d_PR_fact_51 : decode prog_1_method_5_code 51 = .ok (.getfield 26, 3) := by decide +kernel
theorem d_PR_fact_54 : decode prog_1_method_5_code 54 = .ok (.getfield 114, 3) := by decide +kernel
theorem d_PR_fact_57 : decode prog_1_method_5_code 57 = .ok (.bipush 40, 2) := by decide +kernel
theorem d_PR_fact_59 : decode prog_1_method_5_code 59 = .ok (.if_icmp .lt 13, 3) := by decide +kernel
theorem d_PR_fact_62 : decode prog_1_method_5_code 62 = .ok (.new 73, 3) := by decide +kernel
theorem d_PR_fact_65 : decode prog_1_method_5_code 65 = .ok (.dup, 1) := by decide +kernel
theorem d_PR_fact_66 : decode prog_1_method_5_code 66 = .ok (.ldc 117, 2) := by decide +kernel
theorem d_PR_fact_68 : decode prog_1_method_5_code 68 = .ok (.invokespecial 77, 3) := by decide +kernel
theorem d_PR_fact_71 : decode prog_1_method_5_code 71 = .ok (.athrow, 1) := by decide +kernel
theorem d_PR_fact_72 : decode prog_1_method_5_code 72 = .ok (.iload 4, 2) := by decide +kernel
theorem d_PR_fact_74 : decode prog_1_method_5_code 74 = .ok (.iconst (-1), 1) := by decide +kernel
theorem d_PR_fact_75 : decode prog_1_method_5_code 75 = .ok (.if_icmp .ne 16, 3) := by decide +kernel
theorem d_PR_fact_78 : decode prog_1_method_5_code 78 = .ok (.aload_n 0, 1) := by decide +kernel
theorem d_PR_fact_79 : decode prog_1_method_5_code 79 = .ok (.getfield 26, 3) := by decide +kernel
theorem d_PR_fact_82 : decode prog_1_method_5_code 82 = .ok (.lload_n 1, 1) := by decide +kernel
theorem d_PR_fact_83 : decode prog_1_method_5_code 83 = .ok (.iload_n 3, 1) := by decide +kernel
theorem d_PR_fact_84 : decode prog_1_method_5_code 84 = .ok (.invokevirtual 119, 3) := by decide +kernel
theorem d_PR_fact_87 : decode prog_1_method_5_code 87 = .ok (.ldc2_w 123, 3) := by decide +kernel
theorem d_PR_fact_90 : decode prog_1_method_5_code 90 = .ok (.lreturn, 1) := by decide +kernel
theorem d_PR_fact_91 : decode prog_1_method_5_code 91 = .ok (.aload_n 0, 1) := by decide +kernel
theorem d_PR_fact_92 : decode prog_1_method_5_code 92 = .ok (.getfield 26, 3) := by decide +kernel
theorem d_PR_fact_95 : decode prog_1_method_5_code 95 = .ok (.iload 4, 2) := by decide +kernel
theorem d_PR_fact_97 : decode prog_1_method_5_code 97 = .ok (.invokevirtual 125, 3) := by decide +kernel
theorem d_PR_fact_100 : decode prog_1_method_5_code 100 = .ok (.i2l, 1) := by decide +kernel
theorem d_PR_fact_101 : decode prog_1_method_5_code 101 = .ok (.lstore 5, 2) := by decide +kernel
theorem d_PR_fact_103 : decode prog_1_method_5_code 103 = .ok (.aload_n 0, 1) := by decide +kernel
theorem d_PR_fact_104 : decode prog_1_method_5_code 104 = .ok (.getfield 26, 3) := by decide +kernel
theorem d_PR_fact_107 : decode prog_1_method_5_code 107 = .ok (.iload 4, 2) := by decide +kernel
theorem d_PR_fact_109 : decode prog_1_method_5_code 109 = .ok (.iload_n 3, 1) := by decide +kernel
theorem d_PR_fact_110 : decode prog_1_method_5_code 110 = .ok (.invokevirtual 129, 3) := by decide +kernel
theorem d_PR_fact_113 : decode prog_1_method_5_code 113 = .ok (.lload 5, 2) := by decide +kernel
theorem d_PR_fact_115 : decode prog_1_method_5_code 115 = .ok (.lreturn, 1) := by decide +kernel
abbrev y_PR_forget : MethodName := ⟨"PermitRules", "forget", "(J)J"⟩
abbrev cw_PR_forget : Cond := .code y_PR_forget prog_1_method_6_code 6 (some .long)
theorem d_PR_forget_0 : decode prog_1_method_6_code 0 = .ok (.lload_n 1, 1) := by decide +kernel
theorem d_PR_forget_1 : decode prog_1_method_6_code 1 = .ok (.invokestatic 99, 3) := by decide +kernel
theorem d_PR_forget_4 : decode prog_1_method_6_code 4 = .ok (.ifCond .ne 13, 3) := by decide +kernel
theorem d_PR_forget_7 : decode prog_1_method_6_code 7 = .ok (.new 63, 3) := by decide +kernel
theorem d_PR_forget_10 : decode prog_1_method_6_code 10 = .ok (.dup, 1) := by decide +kernel
theorem d_PR_forget_11 : decode prog_1_method_6_code 11 = .ok (.ldc 103, 2) := by decide +kernel
theorem d_PR_forget_13 : decode prog_1_method_6_code 13 = .ok (.invokespecial 67, 3) := by decide +kernel
theorem d_PR_forget_16 : decode prog_1_method_6_code 16 = .ok (.athrow, 1) := by decide +kernel
theorem d_PR_forget_17 : decode prog_1_method_6_code 17 = .ok (.aload_n 0, 1) := by decide +kernel
theorem d_PR_forget_18 : decode prog_1_method_6_code 18 = .ok (.getfield 26, 3) := by decide +kernel
theorem d_PR_forget_21 : decode prog_1_method_6_code 21 = .ok (.lload_n 1, 1) := by decide +kernel
theorem d_PR_forget_22 : decode prog_1_method_6_code 22 = .ok (.invokevirtual 111, 3) := by decide +kernel
theorem d_PR_forget_25 : decode prog_1_method_6_code 25 = .ok (.istore_n 3, 1) := by decide +kernel
theorem d_PR_forget_26 : decode prog_1_method_6_code 26 = .ok (.iload_n 3, 1) := by decide +kernel
theorem d_PR_forget_27 : decode prog_1_method_6_code 27 = .ok (.iconst (-1), 1) := by decide +kernel
theorem d_PR_forget_28 : decode prog_1_method_6_code 28 = .ok (.if_icmp .ne 7, 3) := by decide +kernel
theorem d_PR_forget_31 : decode prog_1_method_6_code 31 = .ok (.ldc2_w 123, 3) := by decide +kernel
theorem d_PR_forget_34 : decode prog_1_method_6_code 34 = .ok (.lreturn, 1) := by decide +kernel
theorem d_PR_forget_35 : decode prog_1_method_6_code 35 = .ok (.aload_n 0, 1) := by decide +kernel
theorem d_PR_forget_36 : decode prog_1_method_6_code 36 = .ok (.getfield 26, 3) := by decide +kernel
theorem d_PR_forget_39 : decode prog_1_method_6_code 39 = .ok (.iload_n 3, 1) := by decide +kernel
theorem d_PR_forget_40 : decode prog_1_method_6_code 40 = .ok (.invokevirtual 125, 3) := by decide +kernel
theorem d_PR_forget_43 : decode prog_1_method_6_code 43 = .ok (.i2l, 1) := by decide +kernel
theorem d_PR_forget_44 : decode prog_1_method_6_code 44 = .ok (.lstore 4, 2) := by decide +kernel
theorem d_PR_forget_46 : decode prog_1_method_6_code 46 = .ok (.aload_n 0, 1) := by decide +kernel
theorem d_PR_forget_47 : decode prog_1_method_6_code 47 = .ok (.getfield 26, 3) := by decide +kernel
theorem d_PR_forget_50 : decode prog_1_method_6_code 50 = .ok (.iload_n 3, 1) := by decide +kernel
theorem d_PR_forget_51 : decode prog_1_method_6_code 51 = .ok (.invokevirtual 133, 3) := by decide +kernel
theorem d_PR_forget_54 : decode prog_1_method_6_code 54 = .ok (.lload 4, 2) := by decide +kernel
theorem d_PR_forget_56 : decode prog_1_method_6_code 56 = .ok (.lreturn, 1) := by decide +kernel
abbrev y_PR_rule : MethodName := ⟨"PermitRules", "rule", "(J)I"⟩
abbrev cw_PR_rule : Cond := .code y_PR_rule prog_1_method_8_code 3 (some .int)
theorem d_PR_rule_0 : decode prog_1_method_8_code 0 = .ok (.lload_n 1, 1) := by decide +kernel
theorem d_PR_rule_1 : decode prog_1_method_8_code 1 = .ok (.invokestatic 99, 3) := by decide +kernel
theorem d_PR_rule_4 : decode prog_1_method_8_code 4 = .ok (.ifCond .ne 13, 3) := by decide +kernel
theorem d_PR_rule_7 : decode prog_1_method_8_code 7 = .ok (.new 63, 3) := by decide +kernel
theorem d_PR_rule_10 : decode prog_1_method_8_code 10 = .ok (.dup, 1) := by decide +kernel
theorem d_PR_rule_11 : decode prog_1_method_8_code 11 = .ok (.ldc 103, 2) := by decide +kernel
theorem d_PR_rule_13 : decode prog_1_method_8_code 13 = .ok (.invokespecial 67, 3) := by decide +kernel
theorem d_PR_rule_16 : decode prog_1_method_8_code 16 = .ok (.athrow, 1) := by decide +kernel
theorem d_PR_rule_17 : decode prog_1_method_8_code 17 = .ok (.aload_n 0, 1) := by decide +kernel
theorem d_PR_rule_18 : decode prog_1_method_8_code 18 = .ok (.getfield 44, 3) := by decide +kernel
theorem d_PR_rule_21 : decode prog_1_method_8_code 21 = .ok (.lload_n 1, 1) := by decide +kernel
theorem d_PR_rule_22 : decode prog_1_method_8_code 22 = .ok (.invokevirtual 149, 3) := by decide +kernel
theorem d_PR_rule_25 : decode prog_1_method_8_code 25 = .ok (.ireturn, 1) := by decide +kernel
abbrev y_PR_told : MethodName := ⟨"PermitRules", "told", "(II)J"⟩
abbrev cw_PR_told : Cond := .code y_PR_told prog_1_method_9_code 3 (some .long)
theorem d_PR_told_0 : decode prog_1_method_9_code 0 = .ok (.iload_n 1, 1) := by decide +kernel
theorem d_PR_told_1 : decode prog_1_method_9_code 1 = .ok (.ifCond .lt 14, 3) := by decide +kernel
theorem d_PR_told_4 : decode prog_1_method_9_code 4 = .ok (.iload_n 1, 1) := by decide +kernel
theorem d_PR_told_5 : decode prog_1_method_9_code 5 = .ok (.aload_n 0, 1) := by decide +kernel
theorem d_PR_told_6 : decode prog_1_method_9_code 6 = .ok (.getfield 44, 3) := by decide +kernel
theorem d_PR_told_9 : decode prog_1_method_9_code 9 = .ok (.getfield 96, 3) := by decide +kernel
theorem d_PR_told_12 : decode prog_1_method_9_code 12 = .ok (.if_icmp .lt 13, 3) := by decide +kernel
theorem d_PR_told_15 : decode prog_1_method_9_code 15 = .ok (.new 63, 3) := by decide +kernel
theorem d_PR_told_18 : decode prog_1_method_9_code 18 = .ok (.dup, 1) := by decide +kernel
theorem d_PR_told_19 : decode prog_1_method_9_code 19 = .ok (.ldc 150, 2) := by decide +kernel
theorem d_PR_told_21 : decode prog_1_method_9_code 21 = .ok (.invokespecial 67, 3) := by decide +kernel
theorem d_PR_told_24 : decode prog_1_method_9_code 24 = .ok (.athrow, 1) := by decide +kernel
theorem d_PR_told_25 : decode prog_1_method_9_code 25 = .ok (.iload_n 2, 1) := by decide +kernel
theorem d_PR_told_26 : decode prog_1_method_9_code 26 = .ok (.ifCond .lt 9, 3) := by decide +kernel
theorem d_PR_told_29 : decode prog_1_method_9_code 29 = .ok (.iload_n 2, 1) := by decide +kernel
theorem d_PR_told_30 : decode prog_1_method_9_code 30 = .ok (.bipush 7, 2) := by decide +kernel
theorem d_PR_told_32 : decode prog_1_method_9_code 32 = .ok (.if_icmp .lt 13, 3) := by decide +kernel
theorem d_PR_told_35 : decode prog_1_method_9_code 35 = .ok (.new 63, 3) := by decide +kernel
theorem d_PR_told_38 : decode prog_1_method_9_code 38 = .ok (.dup, 1) := by decide +kernel
theorem d_PR_told_39 : decode prog_1_method_9_code 39 = .ok (.ldc 152, 2) := by decide +kernel
theorem d_PR_told_41 : decode prog_1_method_9_code 41 = .ok (.invokespecial 67, 3) := by decide +kernel
theorem d_PR_told_44 : decode prog_1_method_9_code 44 = .ok (.athrow, 1) := by decide +kernel
theorem d_PR_told_45 : decode prog_1_method_9_code 45 = .ok (.aload_n 0, 1) := by decide +kernel
theorem d_PR_told_46 : decode prog_1_method_9_code 46 = .ok (.getfield 51, 3) := by decide +kernel
theorem d_PR_told_49 : decode prog_1_method_9_code 49 = .ok (.ifCond .ne 13, 3) := by decide +kernel
theorem d_PR_told_52 : decode prog_1_method_9_code 52 = .ok (.new 73, 3) := by decide +kernel
theorem d_PR_told_55 : decode prog_1_method_9_code 55 = .ok (.dup, 1) := by decide +kernel
theorem d_PR_told_56 : decode prog_1_method_9_code 56 = .ok (.ldc 154, 2) := by decide +kernel
theorem d_PR_told_58 : decode prog_1_method_9_code 58 = .ok (.invokespecial 77, 3) := by decide +kernel
theorem d_PR_told_61 : decode prog_1_method_9_code 61 = .ok (.athrow, 1) := by decide +kernel
theorem d_PR_told_62 : decode prog_1_method_9_code 62 = .ok (.aload_n 0, 1) := by decide +kernel
theorem d_PR_told_63 : decode prog_1_method_9_code 63 = .ok (.iload_n 1, 1) := by decide +kernel
theorem d_PR_told_64 : decode prog_1_method_9_code 64 = .ok (.iload_n 2, 1) := by decide +kernel
theorem d_PR_told_65 : decode prog_1_method_9_code 65 = .ok (.invokevirtual 156, 3) := by decide +kernel
theorem d_PR_told_68 : decode prog_1_method_9_code 68 = .ok (.lreturn, 1) := by decide +kernel
abbrev y_PR_count : MethodName := ⟨"PermitRules", "count", "(I)I"⟩
abbrev cw_PR_count : Cond := .code y_PR_count prog_1_method_12_code 2 (some .int)
theorem d_PR_count_0 : decode prog_1_method_12_code 0 = .ok (.iload_n 1, 1) := by decide +kernel
theorem d_PR_count_1 : decode prog_1_method_12_code 1 = .ok (.tableswitch 71 0 3 #[31, 39, 47, 55], 31) := by decide +kernel
theorem d_PR_count_32 : decode prog_1_method_12_code 32 = .ok (.aload_n 0, 1) := by decide +kernel
theorem d_PR_count_33 : decode prog_1_method_12_code 33 = .ok (.getfield 12, 3) := by decide +kernel
theorem d_PR_count_36 : decode prog_1_method_12_code 36 = .ok (.getfield 70, 3) := by decide +kernel
theorem d_PR_count_39 : decode prog_1_method_12_code 39 = .ok (.ireturn, 1) := by decide +kernel
theorem d_PR_count_40 : decode prog_1_method_12_code 40 = .ok (.aload_n 0, 1) := by decide +kernel
theorem d_PR_count_41 : decode prog_1_method_12_code 41 = .ok (.getfield 44, 3) := by decide +kernel
theorem d_PR_count_44 : decode prog_1_method_12_code 44 = .ok (.getfield 96, 3) := by decide +kernel
theorem d_PR_count_47 : decode prog_1_method_12_code 47 = .ok (.ireturn, 1) := by decide +kernel
theorem d_PR_count_48 : decode prog_1_method_12_code 48 = .ok (.aload_n 0, 1) := by decide +kernel
theorem d_PR_count_49 : decode prog_1_method_12_code 49 = .ok (.getfield 26, 3) := by decide +kernel
theorem d_PR_count_52 : decode prog_1_method_12_code 52 = .ok (.getfield 114, 3) := by decide +kernel
theorem d_PR_count_55 : decode prog_1_method_12_code 55 = .ok (.ireturn, 1) := by decide +kernel
theorem d_PR_count_56 : decode prog_1_method_12_code 56 = .ok (.aload_n 0, 1) := by decide +kernel
theorem d_PR_count_57 : decode prog_1_method_12_code 57 = .ok (.getfield 44, 3) := by decide +kernel
theorem d_PR_count_60 : decode prog_1_method_12_code 60 = .ok (.getfield 172, 3) := by decide +kernel
theorem d_PR_count_63 : decode prog_1_method_12_code 63 = .ok (.aload_n 0, 1) := by decide +kernel
theorem d_PR_count_64 : decode prog_1_method_12_code 64 = .ok (.getfield 44, 3) := by decide +kernel
theorem d_PR_count_67 : decode prog_1_method_12_code 67 = .ok (.getfield 96, 3) := by decide +kernel
theorem d_PR_count_70 : decode prog_1_method_12_code 70 = .ok (.isub, 1) := by decide +kernel
theorem d_PR_count_71 : decode prog_1_method_12_code 71 = .ok (.ireturn, 1) := by decide +kernel
theorem d_PR_count_72 : decode prog_1_method_12_code 72 = .ok (.new 63, 3) := by decide +kernel
theorem d_PR_count_75 : decode prog_1_method_12_code 75 = .ok (.dup, 1) := by decide +kernel
theorem d_PR_count_76 : decode prog_1_method_12_code 76 = .ok (.ldc 175, 2) := by decide +kernel
theorem d_PR_count_78 : decode prog_1_method_12_code 78 = .ok (.invokespecial 67, 3) := by decide +kernel
theorem d_PR_count_81 : decode prog_1_method_12_code 81 = .ok (.athrow, 1) := by decide +kernel
abbrev y_PR_run : MethodName := ⟨"PermitRules", "run", "(I)I"⟩
abbrev cw_PR_run : Cond := .code y_PR_run prog_1_method_7_code 4 (some .int)
theorem d_PR_run_0 : decode prog_1_method_7_code 0 = .ok (.iload_n 1, 1) := by decide +kernel
theorem d_PR_run_1 : decode prog_1_method_7_code 1 = .ok (.ifCond .lt 9, 3) := by decide +kernel
theorem d_PR_run_4 : decode prog_1_method_7_code 4 = .ok (.iload_n 1, 1) := by decide +kernel
theorem d_PR_run_5 : decode prog_1_method_7_code 5 = .ok (.ldc 136, 2) := by decide +kernel
theorem d_PR_run_7 : decode prog_1_method_7_code 7 = .ok (.if_icmp .le 13, 3) := by decide +kernel
theorem d_PR_run_10 : decode prog_1_method_7_code 10 = .ok (.new 63, 3) := by decide +kernel
theorem d_PR_run_13 : decode prog_1_method_7_code 13 = .ok (.dup, 1) := by decide +kernel
theorem d_PR_run_14 : decode prog_1_method_7_code 14 = .ok (.ldc 137, 2) := by decide +kernel
theorem d_PR_run_16 : decode prog_1_method_7_code 16 = .ok (.invokespecial 67, 3) := by decide +kernel
theorem d_PR_run_19 : decode prog_1_method_7_code 19 = .ok (.athrow, 1) := by decide +kernel
theorem d_PR_run_20 : decode prog_1_method_7_code 20 = .ok (.aload_n 0, 1) := by decide +kernel
theorem d_PR_run_21 : decode prog_1_method_7_code 21 = .ok (.iconst 1, 1) := by decide +kernel
theorem d_PR_run_22 : decode prog_1_method_7_code 22 = .ok (.putfield 51, 3) := by decide +kernel
theorem d_PR_run_25 : decode prog_1_method_7_code 25 = .ok (.aload_n 0, 1) := by decide +kernel
theorem d_PR_run_26 : decode prog_1_method_7_code 26 = .ok (.iload_n 1, 1) := by decide +kernel
theorem d_PR_run_27 : decode prog_1_method_7_code 27 = .ok (.putfield 55, 3) := by decide +kernel
theorem d_PR_run_30 : decode prog_1_method_7_code 30 = .ok (.iconst 0, 1) := by decide +kernel
theorem d_PR_run_31 : decode prog_1_method_7_code 31 = .ok (.istore_n 2, 1) := by decide +kernel
theorem d_PR_run_32 : decode prog_1_method_7_code 32 = .ok (.iconst 0, 1) := by decide +kernel
theorem d_PR_run_33 : decode prog_1_method_7_code 33 = .ok (.istore_n 3, 1) := by decide +kernel
theorem d_PR_run_34 : decode prog_1_method_7_code 34 = .ok (.iload_n 3, 1) := by decide +kernel
theorem d_PR_run_35 : decode prog_1_method_7_code 35 = .ok (.aload_n 0, 1) := by decide +kernel
theorem d_PR_run_36 : decode prog_1_method_7_code 36 = .ok (.getfield 44, 3) := by decide +kernel
theorem d_PR_run_39 : decode prog_1_method_7_code 39 = .ok (.getfield 96, 3) := by decide +kernel
theorem d_PR_run_42 : decode prog_1_method_7_code 42 = .ok (.if_icmp .ge 45, 3) := by decide +kernel
theorem d_PR_run_45 : decode prog_1_method_7_code 45 = .ok (.aload_n 0, 1) := by decide +kernel
theorem d_PR_run_46 : decode prog_1_method_7_code 46 = .ok (.getfield 33, 3) := by decide +kernel
theorem d_PR_run_49 : decode prog_1_method_7_code 49 = .ok (.aload_n 0, 1) := by decide +kernel
theorem d_PR_run_50 : decode prog_1_method_7_code 50 = .ok (.getfield 44, 3) := by decide +kernel
theorem d_PR_run_53 : decode prog_1_method_7_code 53 = .ok (.aload_n 0, 1) := by decide +kernel
theorem d_PR_run_54 : decode prog_1_method_7_code 54 = .ok (.getfield 26, 3) := by decide +kernel
theorem d_PR_run_57 : decode prog_1_method_7_code 57 = .ok (.iload_n 3, 1) := by decide +kernel
theorem d_PR_run_58 : decode prog_1_method_7_code 58 = .ok (.iload_n 1, 1) := by decide +kernel
theorem d_PR_run_59 : decode prog_1_method_7_code 59 = .ok (.invokevirtual 139, 3) := by decide +kernel
theorem d_PR_run_62 : decode prog_1_method_7_code 62 = .ok (.aload_n 0, 1) := by decide +kernel
theorem d_PR_run_63 : decode prog_1_method_7_code 63 = .ok (.iload_n 3, 1) := by decide +kernel
theorem d_PR_run_64 : decode prog_1_method_7_code 64 = .ok (.invokevirtual 143, 3) := by decide +kernel
theorem d_PR_run_67 : decode prog_1_method_7_code 67 = .ok (.aload_n 0, 1) := by decide +kernel
theorem d_PR_run_68 : decode prog_1_method_7_code 68 = .ok (.getfield 33, 3) := by decide +kernel
theorem d_PR_run_71 : decode prog_1_method_7_code 71 = .ok (.getfield 146, 3) := by decide +kernel
theorem d_PR_run_74 : decode prog_1_method_7_code 74 = .ok (.iconst 1, 1) := by decide +kernel
theorem d_PR_run_75 : decode prog_1_method_7_code 75 = .ok (.if_icmp .ne 6, 3) := by decide +kernel
theorem d_PR_run_78 : decode prog_1_method_7_code 78 = .ok (.iinc 2 1, 3) := by decide +kernel
theorem d_PR_run_81 : decode prog_1_method_7_code 81 = .ok (.iinc 3 1, 3) := by decide +kernel
theorem d_PR_run_84 : decode prog_1_method_7_code 84 = .ok (.goto (-50), 3) := by decide +kernel
theorem d_PR_run_87 : decode prog_1_method_7_code 87 = .ok (.iload_n 2, 1) := by decide +kernel
theorem d_PR_run_88 : decode prog_1_method_7_code 88 = .ok (.ireturn, 1) := by decide +kernel
abbrev y_PR_broken : MethodName := ⟨"PermitRules", "broken", "(I)I"⟩
abbrev cw_PR_broken : Cond := .code y_PR_broken prog_1_method_10_code 4 (some .int)
theorem d_PR_broken_0 : decode prog_1_method_10_code 0 = .ok (.iload_n 1, 1) := by decide +kernel
theorem d_PR_broken_1 : decode prog_1_method_10_code 1 = .ok (.ifCond .ge 13, 3) := by decide +kernel
theorem d_PR_broken_4 : decode prog_1_method_10_code 4 = .ok (.new 63, 3) := by decide +kernel
theorem d_PR_broken_7 : decode prog_1_method_10_code 7 = .ok (.dup, 1) := by decide +kernel
theorem d_PR_broken_8 : decode prog_1_method_10_code 8 = .ok (.ldc 160, 2) := by decide +kernel
theorem d_PR_broken_10 : decode prog_1_method_10_code 10 = .ok (.invokespecial 67, 3) := by decide +kernel
theorem d_PR_broken_13 : decode prog_1_method_10_code 13 = .ok (.athrow, 1) := by decide +kernel
theorem d_PR_broken_14 : decode prog_1_method_10_code 14 = .ok (.aload_n 0, 1) := by decide +kernel
theorem d_PR_broken_15 : decode prog_1_method_10_code 15 = .ok (.getfield 51, 3) := by decide +kernel
theorem d_PR_broken_18 : decode prog_1_method_10_code 18 = .ok (.ifCond .ne 13, 3) := by decide +kernel
theorem d_PR_broken_21 : decode prog_1_method_10_code 21 = .ok (.new 73, 3) := by decide +kernel
theorem d_PR_broken_24 : decode prog_1_method_10_code 24 = .ok (.dup, 1) := by decide +kernel
theorem d_PR_broken_25 : decode prog_1_method_10_code 25 = .ok (.ldc 162, 2) := by decide +kernel
theorem d_PR_broken_27 : decode prog_1_method_10_code 27 = .ok (.invokespecial 77, 3) := by decide +kernel
theorem d_PR_broken_30 : decode prog_1_method_10_code 30 = .ok (.athrow, 1) := by decide +kernel
theorem d_PR_broken_31 : decode prog_1_method_10_code 31 = .ok (.iconst 0, 1) := by decide +kernel
theorem d_PR_broken_32 : decode prog_1_method_10_code 32 = .ok (.istore_n 2, 1) := by decide +kernel
theorem d_PR_broken_33 : decode prog_1_method_10_code 33 = .ok (.iconst 0, 1) := by decide +kernel
theorem d_PR_broken_34 : decode prog_1_method_10_code 34 = .ok (.istore_n 3, 1) := by decide +kernel
theorem d_PR_broken_35 : decode prog_1_method_10_code 35 = .ok (.iload_n 3, 1) := by decide +kernel
theorem d_PR_broken_36 : decode prog_1_method_10_code 36 = .ok (.aload_n 0, 1) := by decide +kernel
theorem d_PR_broken_37 : decode prog_1_method_10_code 37 = .ok (.getfield 44, 3) := by decide +kernel
theorem d_PR_broken_40 : decode prog_1_method_10_code 40 = .ok (.getfield 96, 3) := by decide +kernel
theorem d_PR_broken_43 : decode prog_1_method_10_code 43 = .ok (.if_icmp .ge 30, 3) := by decide +kernel
theorem d_PR_broken_46 : decode prog_1_method_10_code 46 = .ok (.aload_n 0, 1) := by decide +kernel
theorem d_PR_broken_47 : decode prog_1_method_10_code 47 = .ok (.iload_n 3, 1) := by decide +kernel
theorem d_PR_broken_48 : decode prog_1_method_10_code 48 = .ok (.iconst 0, 1) := by decide +kernel
theorem d_PR_broken_49 : decode prog_1_method_10_code 49 = .ok (.invokevirtual 156, 3) := by decide +kernel
theorem d_PR_broken_52 : decode prog_1_method_10_code 52 = .ok (.lconst 1, 1) := by decide +kernel
theorem d_PR_broken_53 : decode prog_1_method_10_code 53 = .ok (.lcmp, 1) := by decide +kernel
theorem d_PR_broken_54 : decode prog_1_method_10_code 54 = .ok (.ifCond .ne 13, 3) := by decide +kernel
theorem d_PR_broken_57 : decode prog_1_method_10_code 57 = .ok (.iload_n 2, 1) := by decide +kernel
theorem d_PR_broken_58 : decode prog_1_method_10_code 58 = .ok (.iload_n 1, 1) := by decide +kernel
theorem d_PR_broken_59 : decode prog_1_method_10_code 59 = .ok (.if_icmp .ne 5, 3) := by decide +kernel
theorem d_PR_broken_62 : decode prog_1_method_10_code 62 = .ok (.iload_n 3, 1) := by decide +kernel
theorem d_PR_broken_63 : decode prog_1_method_10_code 63 = .ok (.ireturn, 1) := by decide +kernel
theorem d_PR_broken_64 : decode prog_1_method_10_code 64 = .ok (.iinc 2 1, 3) := by decide +kernel
theorem d_PR_broken_67 : decode prog_1_method_10_code 67 = .ok (.iinc 3 1, 3) := by decide +kernel
theorem d_PR_broken_70 : decode prog_1_method_10_code 70 = .ok (.goto (-35), 3) := by decide +kernel
theorem d_PR_broken_73 : decode prog_1_method_10_code 73 = .ok (.iconst (-1), 1) := by decide +kernel
theorem d_PR_broken_74 : decode prog_1_method_10_code 74 = .ok (.ireturn, 1) := by decide +kernel
abbrev y_PR_suggest : MethodName := ⟨"PermitRules", "suggest", "(IJI)J"⟩
abbrev cw_PR_suggest : Cond := .code y_PR_suggest prog_1_method_11_code 8 (some .long)
theorem d_PR_suggest_0 : decode prog_1_method_11_code 0 = .ok (.iload_n 1, 1) := by decide +kernel
theorem d_PR_suggest_1 : decode prog_1_method_11_code 1 = .ok (.ifCond .lt 14, 3) := by decide +kernel
theorem d_PR_suggest_4 : decode prog_1_method_11_code 4 = .ok (.iload_n 1, 1) := by decide +kernel
theorem d_PR_suggest_5 : decode prog_1_method_11_code 5 = .ok (.aload_n 0, 1) := by decide +kernel
theorem d_PR_suggest_6 : decode prog_1_method_11_code 6 = .ok (.getfield 44, 3) := by decide +kernel
theorem d_PR_suggest_9 : decode prog_1_method_11_code 9 = .ok (.getfield 96, 3) := by decide +kernel
theorem d_PR_suggest_12 : decode prog_1_method_11_code 12 = .ok (.if_icmp .lt 13, 3) := by decide +kernel
theorem d_PR_suggest_15 : decode prog_1_method_11_code 15 = .ok (.new 63, 3) := by decide +kernel
theorem d_PR_suggest_18 : decode prog_1_method_11_code 18 = .ok (.dup, 1) := by decide +kernel
theorem d_PR_suggest_19 : decode prog_1_method_11_code 19 = .ok (.ldc 150, 2) := by decide +kernel
theorem d_PR_suggest_21 : decode prog_1_method_11_code 21 = .ok (.invokespecial 67, 3) := by decide +kernel
theorem d_PR_suggest_24 : decode prog_1_method_11_code 24 = .ok (.athrow, 1) := by decide +kernel
theorem d_PR_suggest_25 : decode prog_1_method_11_code 25 = .ok (.iload 4, 2) := by decide +kernel
theorem d_PR_suggest_27 : decode prog_1_method_11_code 27 = .ok (.ifCond .lt 10, 3) := by decide +kernel
theorem d_PR_suggest_30 : decode prog_1_method_11_code 30 = .ok (.iload 4, 2) := by decide +kernel
theorem d_PR_suggest_32 : decode prog_1_method_11_code 32 = .ok (.bipush 8, 2) := by decide +kernel
theorem d_PR_suggest_34 : decode prog_1_method_11_code 34 = .ok (.if_icmp .le 13, 3) := by decide +kernel
theorem d_PR_suggest_37 : decode prog_1_method_11_code 37 = .ok (.new 63, 3) := by decide +kernel
theorem d_PR_suggest_40 : decode prog_1_method_11_code 40 = .ok (.dup, 1) := by decide +kernel
theorem d_PR_suggest_41 : decode prog_1_method_11_code 41 = .ok (.ldc 164, 2) := by decide +kernel
theorem d_PR_suggest_43 : decode prog_1_method_11_code 43 = .ok (.invokespecial 67, 3) := by decide +kernel
theorem d_PR_suggest_46 : decode prog_1_method_11_code 46 = .ok (.athrow, 1) := by decide +kernel
theorem d_PR_suggest_47 : decode prog_1_method_11_code 47 = .ok (.lload_n 2, 1) := by decide +kernel
theorem d_PR_suggest_48 : decode prog_1_method_11_code 48 = .ok (.invokestatic 99, 3) := by decide +kernel
theorem d_PR_suggest_51 : decode prog_1_method_11_code 51 = .ok (.ifCond .eq 14, 3) := by decide +kernel
theorem d_PR_suggest_54 : decode prog_1_method_11_code 54 = .ok (.aload_n 0, 1) := by decide +kernel
theorem d_PR_suggest_55 : decode prog_1_method_11_code 55 = .ok (.getfield 26, 3) := by decide +kernel
theorem d_PR_suggest_58 : decode prog_1_method_11_code 58 = .ok (.lload_n 2, 1) := by decide +kernel
theorem d_PR_suggest_59 : decode prog_1_method_11_code 59 = .ok (.invokevirtual 111, 3) := by decide +kernel
theorem d_PR_suggest_62 : decode prog_1_method_11_code 62 = .ok (.goto 4, 3) := by decide +kernel
theorem d_PR_suggest_65 : decode prog_1_method_11_code 65 = .ok (.iconst (-1), 1) := by decide +kernel
theorem d_PR_suggest_66 : decode prog_1_method_11_code 66 = .ok (.istore 5, 2) := by decide +kernel
theorem d_PR_suggest_68 : decode prog_1_method_11_code 68 = .ok (.iload 5, 2) := by decide +kernel
theorem d_PR_suggest_70 : decode prog_1_method_11_code 70 = .ok (.iconst (-1), 1) := by decide +kernel
theorem d_PR_suggest_71 : decode prog_1_method_11_code 71 = .ok (.if_icmp .ne 13, 3) := by decide +kernel
theorem d_PR_suggest_74 : decode prog_1_method_11_code 74 = .ok (.new 63, 3) := by decide +kernel
theorem d_PR_suggest_77 : decode prog_1_method_11_code 77 = .ok (.dup, 1) := by decide +kernel
theorem d_PR_suggest_78 : decode prog_1_method_11_code 78 = .ok (.ldc 166, 2) := by decide +kernel
theorem d_PR_suggest_80 : decode prog_1_method_11_code 80 = .ok (.invokespecial 67, 3) := by decide +kernel
theorem d_PR_suggest_83 : decode prog_1_method_11_code 83 = .ok (.athrow, 1) := by decide +kernel
theorem d_PR_suggest_84 : decode prog_1_method_11_code 84 = .ok (.aload_n 0, 1) := by decide +kernel
theorem d_PR_suggest_85 : decode prog_1_method_11_code 85 = .ok (.getfield 51, 3) := by decide +kernel
theorem d_PR_suggest_88 : decode prog_1_method_11_code 88 = .ok (.ifCond .ne 13, 3) := by decide +kernel
theorem d_PR_suggest_91 : decode prog_1_method_11_code 91 = .ok (.new 73, 3) := by decide +kernel
theorem d_PR_suggest_94 : decode prog_1_method_11_code 94 = .ok (.dup, 1) := by decide +kernel
theorem d_PR_suggest_95 : decode prog_1_method_11_code 95 = .ok (.ldc 162, 2) := by decide +kernel
theorem d_PR_suggest_97 : decode prog_1_method_11_code 97 = .ok (.invokespecial 77, 3) := by decide +kernel
theorem d_PR_suggest_100 : decode prog_1_method_11_code 100 = .ok (.athrow, 1) := by decide +kernel
theorem d_PR_suggest_101 : decode prog_1_method_11_code 101 = .ok (.aload_n 0, 1) := by decide +kernel
theorem d_PR_suggest_102 : decode prog_1_method_11_code 102 = .ok (.getfield 26, 3) := by decide +kernel
theorem d_PR_suggest_105 : decode prog_1_method_11_code 105 = .ok (.iload 5, 2) := by decide +kernel
theorem d_PR_suggest_107 : decode prog_1_method_11_code 107 = .ok (.invokevirtual 125, 3) := by decide +kernel
theorem d_PR_suggest_110 : decode prog_1_method_11_code 110 = .ok (.istore 6, 2) := by decide +kernel
theorem d_PR_suggest_112 : decode prog_1_method_11_code 112 = .ok (.iconst 1, 1) := by decide +kernel
theorem d_PR_suggest_113 : decode prog_1_method_11_code 113 = .ok (.istore 7, 2) := by decide +kernel
theorem d_PR_suggest_115 : decode prog_1_method_11_code 115 = .ok (.iload 7, 2) := by decide +kernel
theorem d_PR_suggest_117 : decode prog_1_method_11_code 117 = .ok (.iload 4, 2) := by decide +kernel
theorem d_PR_suggest_119 : decode prog_1_method_11_code 119 = .ok (.if_icmp .gt 53, 3) := by decide +kernel
theorem d_PR_suggest_122 : decode prog_1_method_11_code 122 = .ok (.aload_n 0, 1) := by decide +kernel
theorem d_PR_suggest_123 : decode prog_1_method_11_code 123 = .ok (.iload_n 1, 1) := by decide +kernel
theorem d_PR_suggest_124 : decode prog_1_method_11_code 124 = .ok (.iload 5, 2) := by decide +kernel
theorem d_PR_suggest_126 : decode prog_1_method_11_code 126 = .ok (.iload 6, 2) := by decide +kernel
theorem d_PR_suggest_128 : decode prog_1_method_11_code 128 = .ok (.iload 7, 2) := by decide +kernel
theorem d_PR_suggest_130 : decode prog_1_method_11_code 130 = .ok (.iadd, 1) := by decide +kernel
theorem d_PR_suggest_131 : decode prog_1_method_11_code 131 = .ok (.invokevirtual 168, 3) := by decide +kernel
theorem d_PR_suggest_134 : decode prog_1_method_11_code 134 = .ok (.ifCond .eq 10, 3) := by decide +kernel
theorem d_PR_suggest_137 : decode prog_1_method_11_code 137 = .ok (.iload 6, 2) := by decide +kernel
theorem d_PR_suggest_139 : decode prog_1_method_11_code 139 = .ok (.iload 7, 2) := by decide +kernel
theorem d_PR_suggest_141 : decode prog_1_method_11_code 141 = .ok (.iadd, 1) := by decide +kernel
theorem d_PR_suggest_142 : decode prog_1_method_11_code 142 = .ok (.i2l, 1) := by decide +kernel
theorem d_PR_suggest_143 : decode prog_1_method_11_code 143 = .ok (.lreturn, 1) := by decide +kernel
theorem d_PR_suggest_144 : decode prog_1_method_11_code 144 = .ok (.aload_n 0, 1) := by decide +kernel
theorem d_PR_suggest_145 : decode prog_1_method_11_code 145 = .ok (.iload_n 1, 1) := by decide +kernel
theorem d_PR_suggest_146 : decode prog_1_method_11_code 146 = .ok (.iload 5, 2) := by decide +kernel
theorem d_PR_suggest_148 : decode prog_1_method_11_code 148 = .ok (.iload 6, 2) := by decide +kernel
theorem d_PR_suggest_150 : decode prog_1_method_11_code 150 = .ok (.iload 7, 2) := by decide +kernel
theorem d_PR_suggest_152 : decode prog_1_method_11_code 152 = .ok (.isub, 1) := by decide +kernel
theorem d_PR_suggest_153 : decode prog_1_method_11_code 153 = .ok (.invokevirtual 168, 3) := by decide +kernel
theorem d_PR_suggest_156 : decode prog_1_method_11_code 156 = .ok (.ifCond .eq 10, 3) := by decide +kernel
theorem d_PR_suggest_159 : decode prog_1_method_11_code 159 = .ok (.iload 6, 2) := by decide +kernel
theorem d_PR_suggest_161 : decode prog_1_method_11_code 161 = .ok (.iload 7, 2) := by decide +kernel
theorem d_PR_suggest_163 : decode prog_1_method_11_code 163 = .ok (.isub, 1) := by decide +kernel
theorem d_PR_suggest_164 : decode prog_1_method_11_code 164 = .ok (.i2l, 1) := by decide +kernel
theorem d_PR_suggest_165 : decode prog_1_method_11_code 165 = .ok (.lreturn, 1) := by decide +kernel
theorem d_PR_suggest_166 : decode prog_1_method_11_code 166 = .ok (.iinc 7 1, 3) := by decide +kernel
theorem d_PR_suggest_169 : decode prog_1_method_11_code 169 = .ok (.goto (-54), 3) := by decide +kernel
theorem d_PR_suggest_172 : decode prog_1_method_11_code 172 = .ok (.ldc2_w 123, 3) := by decide +kernel
theorem d_PR_suggest_175 : decode prog_1_method_11_code 175 = .ok (.lreturn, 1) := by decide +kernel
